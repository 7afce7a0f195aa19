theorem d_W_law_0 : decode code 0 = .ok (.new 8, 3) := by decide +kernel
theorem d_W_law_3 : decode code 3 = .ok (.dup, 1) := by decide +kernel
theorem d_W_law_4 : decode code 4 = .ok (.invokespecial 163, 3) := by decide +kernel
theorem d_W_law_7 : decode code 7 = .ok (.astore_n 1, 1) := by decide +kernel
theorem d_W_law_8 : decode code 8 = .ok (.new 164, 3) := by decide +kernel
theorem d_W_law_11 : decode code 11 = .ok (.dup, 1) := by decide +kernel
theorem d_W_law_12 : decode code 12 = .ok (.invokespecial 166, 3) := by decide +kernel
theorem d_W_law_15 : decode code 15 = .ok (.astore_n 2, 1) := by decide +kernel
theorem d_W_law_16 : decode code 16 = .ok (.iconst 1, 1) := by decide +kernel
theorem d_W_law_17 : decode code 17 = .ok (.newarray .long, 2) := by decide +kernel
theorem d_W_law_19 : decode code 19 = .ok (.astore_n 3, 1) := by decide +kernel
theorem d_W_law_20 : decode code 20 = .ok (.iconst 0, 1) := by decide +kernel
theorem d_W_law_21 : decode code 21 = .ok (.istore 4, 2) := by decide +kernel
theorem d_W_law_23 : decode code 23 = .ok (.iload 4, 2) := by decide +kernel
theorem d_W_law_25 : decode code 25 = .ok (.aload_n 0, 1) := by decide +kernel
theorem d_W_law_26 : decode code 26 = .ok (.arraylength, 1) := by decide +kernel
theorem d_W_law_27 : decode code 27 = .ok (.bipush (6), 2) := by decide +kernel
theorem d_W_law_29 : decode code 29 = .ok (.isub, 1) := by decide +kernel
theorem d_W_law_30 : decode code 30 = .ok (.if_icmp .gt (2001), 3) := by decide +kernel
theorem d_W_law_33 : decode code 33 = .ok (.aload_n 0, 1) := by decide +kernel
theorem d_W_law_34 : decode code 34 = .ok (.iload 4, 2) := by decide +kernel
theorem d_W_law_36 : decode code 36 = .ok (.iaload, 1) := by decide +kernel
theorem d_W_law_37 : decode code 37 = .ok (.bipush (63), 2) := by decide +kernel
theorem d_W_law_39 : decode code 39 = .ok (.iand, 1) := by decide +kernel
theorem d_W_law_40 : decode code 40 = .ok (.tableswitch (1985) (0) (50) #[220, 248, 288, 328, 404, 417, 433, 461, 529, 581, 649, 677, 705, 733, 761, 789, 802, 830, 858, 886, 966, 994, 1022, 1062, 1114, 1154, 1194, 1258, 1286, 1326, 1354, 1382, 1434, 1462, 1478, 1494, 1507, 1535, 1563, 1615, 1643, 1671, 1711, 1751, 1779, 1847, 1875, 1903, 1916, 1944, 1957], 220) := by decide +kernel
theorem d_W_law_260 : decode code 260 = .ok (.aload_n 1, 1) := by decide +kernel
theorem d_W_law_261 : decode code 261 = .ok (.aload_n 0, 1) := by decide +kernel
theorem d_W_law_262 : decode code 262 = .ok (.iload 4, 2) := by decide +kernel
theorem d_W_law_264 : decode code 264 = .ok (.iconst 1, 1) := by decide +kernel
theorem d_W_law_265 : decode code 265 = .ok (.iadd, 1) := by decide +kernel
theorem d_W_law_266 : decode code 266 = .ok (.iaload, 1) := by decide +kernel
theorem d_W_law_267 : decode code 267 = .ok (.aload_n 3, 1) := by decide +kernel
theorem d_W_law_268 : decode code 268 = .ok (.invokestatic 167, 3) := by decide +kernel
theorem d_W_law_271 : decode code 271 = .ok (.istore 5, 2) := by decide +kernel
theorem d_W_law_273 : decode code 273 = .ok (.aload_n 2, 1) := by decide +kernel
theorem d_W_law_274 : decode code 274 = .ok (.aload_n 0, 1) := by decide +kernel
theorem d_W_law_275 : decode code 275 = .ok (.iload 4, 2) := by decide +kernel
theorem d_W_law_277 : decode code 277 = .ok (.iconst 1, 1) := by decide +kernel
theorem d_W_law_278 : decode code 278 = .ok (.iadd, 1) := by decide +kernel
theorem d_W_law_279 : decode code 279 = .ok (.iaload, 1) := by decide +kernel
theorem d_W_law_280 : decode code 280 = .ok (.invokevirtual 172, 3) := by decide +kernel
theorem d_W_law_283 : decode code 283 = .ok (.istore 6, 2) := by decide +kernel
theorem d_W_law_285 : decode code 285 = .ok (.goto (1740), 3) := by decide +kernel
theorem d_W_law_288 : decode code 288 = .ok (.aload_n 1, 1) := by decide +kernel
theorem d_W_law_289 : decode code 289 = .ok (.aload_n 0, 1) := by decide +kernel
theorem d_W_law_290 : decode code 290 = .ok (.iload 4, 2) := by decide +kernel
theorem d_W_law_292 : decode code 292 = .ok (.iconst 1, 1) := by decide +kernel
theorem d_W_law_293 : decode code 293 = .ok (.iadd, 1) := by decide +kernel
theorem d_W_law_294 : decode code 294 = .ok (.iaload, 1) := by decide +kernel
theorem d_W_law_295 : decode code 295 = .ok (.aload_n 0, 1) := by decide +kernel
theorem d_W_law_296 : decode code 296 = .ok (.iload 4, 2) := by decide +kernel
theorem d_W_law_298 : decode code 298 = .ok (.iconst 2, 1) := by decide +kernel
theorem d_W_law_299 : decode code 299 = .ok (.iadd, 1) := by decide +kernel
theorem d_W_law_300 : decode code 300 = .ok (.iaload, 1) := by decide +kernel
theorem d_W_law_301 : decode code 301 = .ok (.aload_n 3, 1) := by decide +kernel
theorem d_W_law_302 : decode code 302 = .ok (.invokestatic 173, 3) := by decide +kernel
theorem d_W_law_305 : decode code 305 = .ok (.istore 5, 2) := by decide +kernel
theorem d_W_law_307 : decode code 307 = .ok (.aload_n 2, 1) := by decide +kernel
theorem d_W_law_308 : decode code 308 = .ok (.aload_n 0, 1) := by decide +kernel
theorem d_W_law_309 : decode code 309 = .ok (.iload 4, 2) := by decide +kernel
theorem d_W_law_311 : decode code 311 = .ok (.iconst 1, 1) := by decide +kernel
theorem d_W_law_312 : decode code 312 = .ok (.iadd, 1) := by decide +kernel
theorem d_W_law_313 : decode code 313 = .ok (.iaload, 1) := by decide +kernel
theorem d_W_law_314 : decode code 314 = .ok (.aload_n 0, 1) := by decide +kernel
theorem d_W_law_315 : decode code 315 = .ok (.iload 4, 2) := by decide +kernel
theorem d_W_law_317 : decode code 317 = .ok (.iconst 2, 1) := by decide +kernel
theorem d_W_law_318 : decode code 318 = .ok (.iadd, 1) := by decide +kernel
theorem d_W_law_319 : decode code 319 = .ok (.iaload, 1) := by decide +kernel
theorem d_W_law_320 : decode code 320 = .ok (.invokevirtual 176, 3) := by decide +kernel
theorem d_W_law_323 : decode code 323 = .ok (.istore 6, 2) := by decide +kernel
theorem d_W_law_325 : decode code 325 = .ok (.goto (1700), 3) := by decide +kernel
theorem d_W_law_328 : decode code 328 = .ok (.aload_n 1, 1) := by decide +kernel
theorem d_W_law_329 : decode code 329 = .ok (.aload_n 0, 1) := by decide +kernel
theorem d_W_law_330 : decode code 330 = .ok (.iload 4, 2) := by decide +kernel
theorem d_W_law_332 : decode code 332 = .ok (.iconst 1, 1) := by decide +kernel
theorem d_W_law_333 : decode code 333 = .ok (.iadd, 1) := by decide +kernel
theorem d_W_law_334 : decode code 334 = .ok (.iaload, 1) := by decide +kernel
theorem d_W_law_335 : decode code 335 = .ok (.aload_n 0, 1) := by decide +kernel
theorem d_W_law_336 : decode code 336 = .ok (.iload 4, 2) := by decide +kernel
theorem d_W_law_338 : decode code 338 = .ok (.iconst 2, 1) := by decide +kernel
theorem d_W_law_339 : decode code 339 = .ok (.iadd, 1) := by decide +kernel
theorem d_W_law_340 : decode code 340 = .ok (.iaload, 1) := by decide +kernel
theorem d_W_law_341 : decode code 341 = .ok (.aload_n 3, 1) := by decide +kernel
theorem d_W_law_342 : decode code 342 = .ok (.invokestatic 177, 3) := by decide +kernel
theorem d_W_law_345 : decode code 345 = .ok (.istore 5, 2) := by decide +kernel
theorem d_W_law_347 : decode code 347 = .ok (.aload_n 2, 1) := by decide +kernel
theorem d_W_law_348 : decode code 348 = .ok (.aload_n 0, 1) := by decide +kernel
theorem d_W_law_349 : decode code 349 = .ok (.iload 4, 2) := by decide +kernel
theorem d_W_law_351 : decode code 351 = .ok (.iconst 1, 1) := by decide +kernel
theorem d_W_law_352 : decode code 352 = .ok (.iadd, 1) := by decide +kernel
theorem d_W_law_353 : decode code 353 = .ok (.iaload, 1) := by decide +kernel
theorem d_W_law_354 : decode code 354 = .ok (.aload_n 0, 1) := by decide +kernel
theorem d_W_law_355 : decode code 355 = .ok (.iload 4, 2) := by decide +kernel
theorem d_W_law_357 : decode code 357 = .ok (.iconst 2, 1) := by decide +kernel
theorem d_W_law_358 : decode code 358 = .ok (.iadd, 1) := by decide +kernel
theorem d_W_law_359 : decode code 359 = .ok (.iaload, 1) := by decide +kernel
theorem d_W_law_360 : decode code 360 = .ok (.invokevirtual 179, 3) := by decide +kernel
theorem d_W_law_363 : decode code 363 = .ok (.istore 6, 2) := by decide +kernel
theorem d_W_law_365 : decode code 365 = .ok (.goto (1660), 3) := by decide +kernel
theorem d_W_law_368 : decode code 368 = .ok (.aload_n 1, 1) := by decide +kernel
theorem d_W_law_369 : decode code 369 = .ok (.aload_n 0, 1) := by decide +kernel
theorem d_W_law_370 : decode code 370 = .ok (.iload 4, 2) := by decide +kernel
theorem d_W_law_372 : decode code 372 = .ok (.iconst 1, 1) := by decide +kernel
theorem d_W_law_373 : decode code 373 = .ok (.iadd, 1) := by decide +kernel
theorem d_W_law_374 : decode code 374 = .ok (.iaload, 1) := by decide +kernel
theorem d_W_law_375 : decode code 375 = .ok (.aload_n 0, 1) := by decide +kernel
theorem d_W_law_376 : decode code 376 = .ok (.iload 4, 2) := by decide +kernel
theorem d_W_law_378 : decode code 378 = .ok (.iconst 2, 1) := by decide +kernel
theorem d_W_law_379 : decode code 379 = .ok (.iadd, 1) := by decide +kernel
theorem d_W_law_380 : decode code 380 = .ok (.iaload, 1) := by decide +kernel
theorem d_W_law_381 : decode code 381 = .ok (.aload_n 0, 1) := by decide +kernel
theorem d_W_law_382 : decode code 382 = .ok (.iload 4, 2) := by decide +kernel
theorem d_W_law_384 : decode code 384 = .ok (.iconst 3, 1) := by decide +kernel
theorem d_W_law_385 : decode code 385 = .ok (.iadd, 1) := by decide +kernel
theorem d_W_law_386 : decode code 386 = .ok (.iaload, 1) := by decide +kernel
theorem d_W_law_387 : decode code 387 = .ok (.aload_n 0, 1) := by decide +kernel
theorem d_W_law_388 : decode code 388 = .ok (.iload 4, 2) := by decide +kernel
theorem d_W_law_390 : decode code 390 = .ok (.iconst 4, 1) := by decide +kernel
theorem d_W_law_391 : decode code 391 = .ok (.iadd, 1) := by decide +kernel
theorem d_W_law_392 : decode code 392 = .ok (.iaload, 1) := by decide +kernel
theorem d_W_law_393 : decode code 393 = .ok (.aload_n 0, 1) := by decide +kernel
theorem d_W_law_394 : decode code 394 = .ok (.iload 4, 2) := by decide +kernel
theorem d_W_law_396 : decode code 396 = .ok (.iconst 5, 1) := by decide +kernel
theorem d_W_law_397 : decode code 397 = .ok (.iadd, 1) := by decide +kernel
theorem d_W_law_398 : decode code 398 = .ok (.iaload, 1) := by decide +kernel
theorem d_W_law_399 : decode code 399 = .ok (.aload_n 3, 1) := by decide +kernel
theorem d_W_law_400 : decode code 400 = .ok (.invokestatic 180, 3) := by decide +kernel
theorem d_W_law_403 : decode code 403 = .ok (.istore 5, 2) := by decide +kernel
theorem d_W_law_405 : decode code 405 = .ok (.aload_n 2, 1) := by decide +kernel
theorem d_W_law_406 : decode code 406 = .ok (.aload_n 0, 1) := by decide +kernel
theorem d_W_law_407 : decode code 407 = .ok (.iload 4, 2) := by decide +kernel
theorem d_W_law_409 : decode code 409 = .ok (.iconst 1, 1) := by decide +kernel
theorem d_W_law_410 : decode code 410 = .ok (.iadd, 1) := by decide +kernel
theorem d_W_law_411 : decode code 411 = .ok (.iaload, 1) := by decide +kernel
theorem d_W_law_412 : decode code 412 = .ok (.aload_n 0, 1) := by decide +kernel
theorem d_W_law_413 : decode code 413 = .ok (.iload 4, 2) := by decide +kernel
theorem d_W_law_415 : decode code 415 = .ok (.iconst 2, 1) := by decide +kernel
theorem d_W_law_416 : decode code 416 = .ok (.iadd, 1) := by decide +kernel
theorem d_W_law_417 : decode code 417 = .ok (.iaload, 1) := by decide +kernel
theorem d_W_law_418 : decode code 418 = .ok (.aload_n 0, 1) := by decide +kernel
theorem d_W_law_419 : decode code 419 = .ok (.iload 4, 2) := by decide +kernel
theorem d_W_law_421 : decode code 421 = .ok (.iconst 3, 1) := by decide +kernel
theorem d_W_law_422 : decode code 422 = .ok (.iadd, 1) := by decide +kernel
theorem d_W_law_423 : decode code 423 = .ok (.iaload, 1) := by decide +kernel
theorem d_W_law_424 : decode code 424 = .ok (.aload_n 0, 1) := by decide +kernel
theorem d_W_law_425 : decode code 425 = .ok (.iload 4, 2) := by decide +kernel
theorem d_W_law_427 : decode code 427 = .ok (.iconst 4, 1) := by decide +kernel
theorem d_W_law_428 : decode code 428 = .ok (.iadd, 1) := by decide +kernel
theorem d_W_law_429 : decode code 429 = .ok (.iaload, 1) := by decide +kernel
theorem d_W_law_430 : decode code 430 = .ok (.aload_n 0, 1) := by decide +kernel
theorem d_W_law_431 : decode code 431 = .ok (.iload 4, 2) := by decide +kernel
theorem d_W_law_433 : decode code 433 = .ok (.iconst 5, 1) := by decide +kernel
theorem d_W_law_434 : decode code 434 = .ok (.iadd, 1) := by decide +kernel
theorem d_W_law_435 : decode code 435 = .ok (.iaload, 1) := by decide +kernel
theorem d_W_law_436 : decode code 436 = .ok (.invokevirtual 183, 3) := by decide +kernel
theorem d_W_law_439 : decode code 439 = .ok (.istore 6, 2) := by decide +kernel
theorem d_W_law_441 : decode code 441 = .ok (.goto (1584), 3) := by decide +kernel
theorem d_W_law_444 : decode code 444 = .ok (.aload_n 1, 1) := by decide +kernel
theorem d_W_law_445 : decode code 445 = .ok (.invokevirtual 184, 3) := by decide +kernel
theorem d_W_law_448 : decode code 448 = .ok (.pop, 1) := by decide +kernel
theorem d_W_law_449 : decode code 449 = .ok (.aload_n 2, 1) := by decide +kernel
theorem d_W_law_450 : decode code 450 = .ok (.invokevirtual 187, 3) := by decide +kernel
theorem d_W_law_453 : decode code 453 = .ok (.pop, 1) := by decide +kernel
theorem d_W_law_454 : decode code 454 = .ok (.goto (1571), 3) := by decide +kernel
theorem d_W_law_457 : decode code 457 = .ok (.aload_n 1, 1) := by decide +kernel
theorem d_W_law_458 : decode code 458 = .ok (.aload_n 3, 1) := by decide +kernel
theorem d_W_law_459 : decode code 459 = .ok (.invokestatic 188, 3) := by decide +kernel
theorem d_W_law_462 : decode code 462 = .ok (.istore 5, 2) := by decide +kernel
theorem d_W_law_464 : decode code 464 = .ok (.aload_n 2, 1) := by decide +kernel
theorem d_W_law_465 : decode code 465 = .ok (.invokevirtual 191, 3) := by decide +kernel
theorem d_W_law_468 : decode code 468 = .ok (.istore 6, 2) := by decide +kernel
theorem d_W_law_470 : decode code 470 = .ok (.goto (1555), 3) := by decide +kernel
theorem d_W_law_473 : decode code 473 = .ok (.aload_n 1, 1) := by decide +kernel
theorem d_W_law_474 : decode code 474 = .ok (.aload_n 0, 1) := by decide +kernel
theorem d_W_law_475 : decode code 475 = .ok (.iload 4, 2) := by decide +kernel
theorem d_W_law_477 : decode code 477 = .ok (.iconst 1, 1) := by decide +kernel
theorem d_W_law_478 : decode code 478 = .ok (.iadd, 1) := by decide +kernel
theorem d_W_law_479 : decode code 479 = .ok (.iaload, 1) := by decide +kernel
theorem d_W_law_480 : decode code 480 = .ok (.aload_n 3, 1) := by decide +kernel
theorem d_W_law_481 : decode code 481 = .ok (.invokestatic 192, 3) := by decide +kernel
theorem d_W_law_484 : decode code 484 = .ok (.istore 5, 2) := by decide +kernel
theorem d_W_law_486 : decode code 486 = .ok (.aload_n 2, 1) := by decide +kernel
theorem d_W_law_487 : decode code 487 = .ok (.aload_n 0, 1) := by decide +kernel
theorem d_W_law_488 : decode code 488 = .ok (.iload 4, 2) := by decide +kernel
theorem d_W_law_490 : decode code 490 = .ok (.iconst 1, 1) := by decide +kernel
theorem d_W_law_491 : decode code 491 = .ok (.iadd, 1) := by decide +kernel
theorem d_W_law_492 : decode code 492 = .ok (.iaload, 1) := by decide +kernel
theorem d_W_law_493 : decode code 493 = .ok (.invokevirtual 194, 3) := by decide +kernel
theorem d_W_law_496 : decode code 496 = .ok (.istore 6, 2) := by decide +kernel
theorem d_W_law_498 : decode code 498 = .ok (.goto (1527), 3) := by decide +kernel
theorem d_W_law_501 : decode code 501 = .ok (.aload_n 1, 1) := by decide +kernel
theorem d_W_law_502 : decode code 502 = .ok (.aload_n 0, 1) := by decide +kernel
theorem d_W_law_503 : decode code 503 = .ok (.iload 4, 2) := by decide +kernel
theorem d_W_law_505 : decode code 505 = .ok (.iconst 1, 1) := by decide +kernel
theorem d_W_law_506 : decode code 506 = .ok (.iadd, 1) := by decide +kernel
theorem d_W_law_507 : decode code 507 = .ok (.iaload, 1) := by decide +kernel
theorem d_W_law_508 : decode code 508 = .ok (.aload_n 0, 1) := by decide +kernel
theorem d_W_law_509 : decode code 509 = .ok (.iload 4, 2) := by decide +kernel
theorem d_W_law_511 : decode code 511 = .ok (.iconst 2, 1) := by decide +kernel
theorem d_W_law_512 : decode code 512 = .ok (.iadd, 1) := by decide +kernel
theorem d_W_law_513 : decode code 513 = .ok (.iaload, 1) := by decide +kernel
theorem d_W_law_514 : decode code 514 = .ok (.aload_n 0, 1) := by decide +kernel
theorem d_W_law_515 : decode code 515 = .ok (.iload 4, 2) := by decide +kernel
theorem d_W_law_517 : decode code 517 = .ok (.iconst 3, 1) := by decide +kernel
theorem d_W_law_518 : decode code 518 = .ok (.iadd, 1) := by decide +kernel
theorem d_W_law_519 : decode code 519 = .ok (.iaload, 1) := by decide +kernel
theorem d_W_law_520 : decode code 520 = .ok (.ifCond .eq (7), 3) := by decide +kernel
theorem d_W_law_523 : decode code 523 = .ok (.iconst 1, 1) := by decide +kernel
theorem d_W_law_524 : decode code 524 = .ok (.goto (4), 3) := by decide +kernel
theorem d_W_law_527 : decode code 527 = .ok (.iconst 0, 1) := by decide +kernel
theorem d_W_law_528 : decode code 528 = .ok (.aload_n 3, 1) := by decide +kernel
theorem d_W_law_529 : decode code 529 = .ok (.invokestatic 195, 3) := by decide +kernel
theorem d_W_law_532 : decode code 532 = .ok (.istore 5, 2) := by decide +kernel
theorem d_W_law_534 : decode code 534 = .ok (.aload_n 2, 1) := by decide +kernel
theorem d_W_law_535 : decode code 535 = .ok (.aload_n 0, 1) := by decide +kernel
theorem d_W_law_536 : decode code 536 = .ok (.iload 4, 2) := by decide +kernel
theorem d_W_law_538 : decode code 538 = .ok (.iconst 1, 1) := by decide +kernel
theorem d_W_law_539 : decode code 539 = .ok (.iadd, 1) := by decide +kernel
theorem d_W_law_540 : decode code 540 = .ok (.iaload, 1) := by decide +kernel
theorem d_W_law_541 : decode code 541 = .ok (.aload_n 0, 1) := by decide +kernel
theorem d_W_law_542 : decode code 542 = .ok (.iload 4, 2) := by decide +kernel
theorem d_W_law_544 : decode code 544 = .ok (.iconst 2, 1) := by decide +kernel
theorem d_W_law_545 : decode code 545 = .ok (.iadd, 1) := by decide +kernel
theorem d_W_law_546 : decode code 546 = .ok (.iaload, 1) := by decide +kernel
theorem d_W_law_547 : decode code 547 = .ok (.aload_n 0, 1) := by decide +kernel
theorem d_W_law_548 : decode code 548 = .ok (.iload 4, 2) := by decide +kernel
theorem d_W_law_550 : decode code 550 = .ok (.iconst 3, 1) := by decide +kernel
theorem d_W_law_551 : decode code 551 = .ok (.iadd, 1) := by decide +kernel
theorem d_W_law_552 : decode code 552 = .ok (.iaload, 1) := by decide +kernel
theorem d_W_law_553 : decode code 553 = .ok (.ifCond .eq (7), 3) := by decide +kernel
theorem d_W_law_556 : decode code 556 = .ok (.iconst 1, 1) := by decide +kernel
theorem d_W_law_557 : decode code 557 = .ok (.goto (4), 3) := by decide +kernel
theorem d_W_law_560 : decode code 560 = .ok (.iconst 0, 1) := by decide +kernel
theorem d_W_law_561 : decode code 561 = .ok (.invokevirtual 198, 3) := by decide +kernel
theorem d_W_law_564 : decode code 564 = .ok (.istore 6, 2) := by decide +kernel
theorem d_W_law_566 : decode code 566 = .ok (.goto (1459), 3) := by decide +kernel
theorem d_W_law_569 : decode code 569 = .ok (.aload_n 1, 1) := by decide +kernel
theorem d_W_law_570 : decode code 570 = .ok (.aload_n 0, 1) := by decide +kernel
theorem d_W_law_571 : decode code 571 = .ok (.iload 4, 2) := by decide +kernel
theorem d_W_law_573 : decode code 573 = .ok (.iconst 1, 1) := by decide +kernel
theorem d_W_law_574 : decode code 574 = .ok (.iadd, 1) := by decide +kernel
theorem d_W_law_575 : decode code 575 = .ok (.iaload, 1) := by decide +kernel
theorem d_W_law_576 : decode code 576 = .ok (.aload_n 0, 1) := by decide +kernel
theorem d_W_law_577 : decode code 577 = .ok (.iload 4, 2) := by decide +kernel
theorem d_W_law_579 : decode code 579 = .ok (.iconst 2, 1) := by decide +kernel
theorem d_W_law_580 : decode code 580 = .ok (.iadd, 1) := by decide +kernel
theorem d_W_law_581 : decode code 581 = .ok (.iaload, 1) := by decide +kernel
theorem d_W_law_582 : decode code 582 = .ok (.aload_n 0, 1) := by decide +kernel
theorem d_W_law_583 : decode code 583 = .ok (.iload 4, 2) := by decide +kernel
theorem d_W_law_585 : decode code 585 = .ok (.iconst 3, 1) := by decide +kernel
theorem d_W_law_586 : decode code 586 = .ok (.iadd, 1) := by decide +kernel
theorem d_W_law_587 : decode code 587 = .ok (.iaload, 1) := by decide +kernel
theorem d_W_law_588 : decode code 588 = .ok (.aload_n 3, 1) := by decide +kernel
theorem d_W_law_589 : decode code 589 = .ok (.invokestatic 199, 3) := by decide +kernel
theorem d_W_law_592 : decode code 592 = .ok (.istore 5, 2) := by decide +kernel
theorem d_W_law_594 : decode code 594 = .ok (.aload_n 2, 1) := by decide +kernel
theorem d_W_law_595 : decode code 595 = .ok (.aload_n 0, 1) := by decide +kernel
theorem d_W_law_596 : decode code 596 = .ok (.iload 4, 2) := by decide +kernel
theorem d_W_law_598 : decode code 598 = .ok (.iconst 1, 1) := by decide +kernel
theorem d_W_law_599 : decode code 599 = .ok (.iadd, 1) := by decide +kernel
theorem d_W_law_600 : decode code 600 = .ok (.iaload, 1) := by decide +kernel
theorem d_W_law_601 : decode code 601 = .ok (.aload_n 0, 1) := by decide +kernel
theorem d_W_law_602 : decode code 602 = .ok (.iload 4, 2) := by decide +kernel
theorem d_W_law_604 : decode code 604 = .ok (.iconst 2, 1) := by decide +kernel
theorem d_W_law_605 : decode code 605 = .ok (.iadd, 1) := by decide +kernel
theorem d_W_law_606 : decode code 606 = .ok (.iaload, 1) := by decide +kernel
theorem d_W_law_607 : decode code 607 = .ok (.aload_n 0, 1) := by decide +kernel
theorem d_W_law_608 : decode code 608 = .ok (.iload 4, 2) := by decide +kernel
theorem d_W_law_610 : decode code 610 = .ok (.iconst 3, 1) := by decide +kernel
theorem d_W_law_611 : decode code 611 = .ok (.iadd, 1) := by decide +kernel
theorem d_W_law_612 : decode code 612 = .ok (.iaload, 1) := by decide +kernel
theorem d_W_law_613 : decode code 613 = .ok (.invokevirtual 202, 3) := by decide +kernel
theorem d_W_law_616 : decode code 616 = .ok (.istore 6, 2) := by decide +kernel
theorem d_W_law_618 : decode code 618 = .ok (.goto (1407), 3) := by decide +kernel
theorem d_W_law_621 : decode code 621 = .ok (.aload_n 1, 1) := by decide +kernel
theorem d_W_law_622 : decode code 622 = .ok (.aload_n 0, 1) := by decide +kernel
theorem d_W_law_623 : decode code 623 = .ok (.iload 4, 2) := by decide +kernel
theorem d_W_law_625 : decode code 625 = .ok (.iconst 1, 1) := by decide +kernel
theorem d_W_law_626 : decode code 626 = .ok (.iadd, 1) := by decide +kernel
theorem d_W_law_627 : decode code 627 = .ok (.iaload, 1) := by decide +kernel
theorem d_W_law_628 : decode code 628 = .ok (.aload_n 0, 1) := by decide +kernel
theorem d_W_law_629 : decode code 629 = .ok (.iload 4, 2) := by decide +kernel
theorem d_W_law_631 : decode code 631 = .ok (.iconst 2, 1) := by decide +kernel
theorem d_W_law_632 : decode code 632 = .ok (.iadd, 1) := by decide +kernel
theorem d_W_law_633 : decode code 633 = .ok (.iaload, 1) := by decide +kernel
theorem d_W_law_634 : decode code 634 = .ok (.ifCond .eq (7), 3) := by decide +kernel
theorem d_W_law_637 : decode code 637 = .ok (.iconst 1, 1) := by decide +kernel
theorem d_W_law_638 : decode code 638 = .ok (.goto (4), 3) := by decide +kernel
theorem d_W_law_641 : decode code 641 = .ok (.iconst 0, 1) := by decide +kernel
theorem d_W_law_642 : decode code 642 = .ok (.aload_n 0, 1) := by decide +kernel
theorem d_W_law_643 : decode code 643 = .ok (.iload 4, 2) := by decide +kernel
theorem d_W_law_645 : decode code 645 = .ok (.iconst 3, 1) := by decide +kernel
theorem d_W_law_646 : decode code 646 = .ok (.iadd, 1) := by decide +kernel
theorem d_W_law_647 : decode code 647 = .ok (.iaload, 1) := by decide +kernel
theorem d_W_law_648 : decode code 648 = .ok (.aload_n 3, 1) := by decide +kernel
theorem d_W_law_649 : decode code 649 = .ok (.invokestatic 203, 3) := by decide +kernel
theorem d_W_law_652 : decode code 652 = .ok (.istore 5, 2) := by decide +kernel
theorem d_W_law_654 : decode code 654 = .ok (.aload_n 2, 1) := by decide +kernel
theorem d_W_law_655 : decode code 655 = .ok (.aload_n 0, 1) := by decide +kernel
theorem d_W_law_656 : decode code 656 = .ok (.iload 4, 2) := by decide +kernel
theorem d_W_law_658 : decode code 658 = .ok (.iconst 1, 1) := by decide +kernel
theorem d_W_law_659 : decode code 659 = .ok (.iadd, 1) := by decide +kernel
theorem d_W_law_660 : decode code 660 = .ok (.iaload, 1) := by decide +kernel
theorem d_W_law_661 : decode code 661 = .ok (.aload_n 0, 1) := by decide +kernel
theorem d_W_law_662 : decode code 662 = .ok (.iload 4, 2) := by decide +kernel
theorem d_W_law_664 : decode code 664 = .ok (.iconst 2, 1) := by decide +kernel
theorem d_W_law_665 : decode code 665 = .ok (.iadd, 1) := by decide +kernel
theorem d_W_law_666 : decode code 666 = .ok (.iaload, 1) := by decide +kernel
theorem d_W_law_667 : decode code 667 = .ok (.ifCond .eq (7), 3) := by decide +kernel
theorem d_W_law_670 : decode code 670 = .ok (.iconst 1, 1) := by decide +kernel
theorem d_W_law_671 : decode code 671 = .ok (.goto (4), 3) := by decide +kernel
theorem d_W_law_674 : decode code 674 = .ok (.iconst 0, 1) := by decide +kernel
theorem d_W_law_675 : decode code 675 = .ok (.aload_n 0, 1) := by decide +kernel
theorem d_W_law_676 : decode code 676 = .ok (.iload 4, 2) := by decide +kernel
theorem d_W_law_678 : decode code 678 = .ok (.iconst 3, 1) := by decide +kernel
theorem d_W_law_679 : decode code 679 = .ok (.iadd, 1) := by decide +kernel
theorem d_W_law_680 : decode code 680 = .ok (.iaload, 1) := by decide +kernel
theorem d_W_law_681 : decode code 681 = .ok (.invokevirtual 206, 3) := by decide +kernel
theorem d_W_law_684 : decode code 684 = .ok (.istore 6, 2) := by decide +kernel
theorem d_W_law_686 : decode code 686 = .ok (.goto (1339), 3) := by decide +kernel
theorem d_W_law_689 : decode code 689 = .ok (.aload_n 1, 1) := by decide +kernel
theorem d_W_law_690 : decode code 690 = .ok (.aload_n 0, 1) := by decide +kernel
theorem d_W_law_691 : decode code 691 = .ok (.iload 4, 2) := by decide +kernel
theorem d_W_law_693 : decode code 693 = .ok (.iconst 1, 1) := by decide +kernel
theorem d_W_law_694 : decode code 694 = .ok (.iadd, 1) := by decide +kernel
theorem d_W_law_695 : decode code 695 = .ok (.iaload, 1) := by decide +kernel
theorem d_W_law_696 : decode code 696 = .ok (.aload_n 3, 1) := by decide +kernel
theorem d_W_law_697 : decode code 697 = .ok (.invokestatic 207, 3) := by decide +kernel
theorem d_W_law_700 : decode code 700 = .ok (.istore 5, 2) := by decide +kernel
theorem d_W_law_702 : decode code 702 = .ok (.aload_n 2, 1) := by decide +kernel
theorem d_W_law_703 : decode code 703 = .ok (.aload_n 0, 1) := by decide +kernel
theorem d_W_law_704 : decode code 704 = .ok (.iload 4, 2) := by decide +kernel
theorem d_W_law_706 : decode code 706 = .ok (.iconst 1, 1) := by decide +kernel
theorem d_W_law_707 : decode code 707 = .ok (.iadd, 1) := by decide +kernel
theorem d_W_law_708 : decode code 708 = .ok (.iaload, 1) := by decide +kernel
theorem d_W_law_709 : decode code 709 = .ok (.invokevirtual 209, 3) := by decide +kernel
theorem d_W_law_712 : decode code 712 = .ok (.istore 6, 2) := by decide +kernel
theorem d_W_law_714 : decode code 714 = .ok (.goto (1311), 3) := by decide +kernel
theorem d_W_law_717 : decode code 717 = .ok (.aload_n 1, 1) := by decide +kernel
theorem d_W_law_718 : decode code 718 = .ok (.aload_n 0, 1) := by decide +kernel
theorem d_W_law_719 : decode code 719 = .ok (.iload 4, 2) := by decide +kernel
theorem d_W_law_721 : decode code 721 = .ok (.iconst 1, 1) := by decide +kernel
theorem d_W_law_722 : decode code 722 = .ok (.iadd, 1) := by decide +kernel
theorem d_W_law_723 : decode code 723 = .ok (.iaload, 1) := by decide +kernel
theorem d_W_law_724 : decode code 724 = .ok (.aload_n 3, 1) := by decide +kernel
theorem d_W_law_725 : decode code 725 = .ok (.invokestatic 210, 3) := by decide +kernel
theorem d_W_law_728 : decode code 728 = .ok (.istore 5, 2) := by decide +kernel
theorem d_W_law_730 : decode code 730 = .ok (.aload_n 2, 1) := by decide +kernel
theorem d_W_law_731 : decode code 731 = .ok (.aload_n 0, 1) := by decide +kernel
theorem d_W_law_732 : decode code 732 = .ok (.iload 4, 2) := by decide +kernel
theorem d_W_law_734 : decode code 734 = .ok (.iconst 1, 1) := by decide +kernel
theorem d_W_law_735 : decode code 735 = .ok (.iadd, 1) := by decide +kernel
theorem d_W_law_736 : decode code 736 = .ok (.iaload, 1) := by decide +kernel
theorem d_W_law_737 : decode code 737 = .ok (.invokevirtual 212, 3) := by decide +kernel
theorem d_W_law_740 : decode code 740 = .ok (.istore 6, 2) := by decide +kernel
theorem d_W_law_742 : decode code 742 = .ok (.goto (1283), 3) := by decide +kernel
theorem d_W_law_745 : decode code 745 = .ok (.aload_n 1, 1) := by decide +kernel
theorem d_W_law_746 : decode code 746 = .ok (.aload_n 0, 1) := by decide +kernel
theorem d_W_law_747 : decode code 747 = .ok (.iload 4, 2) := by decide +kernel
theorem d_W_law_749 : decode code 749 = .ok (.iconst 1, 1) := by decide +kernel
theorem d_W_law_750 : decode code 750 = .ok (.iadd, 1) := by decide +kernel
theorem d_W_law_751 : decode code 751 = .ok (.iaload, 1) := by decide +kernel
theorem d_W_law_752 : decode code 752 = .ok (.aload_n 3, 1) := by decide +kernel
theorem d_W_law_753 : decode code 753 = .ok (.invokestatic 213, 3) := by decide +kernel
theorem d_W_law_756 : decode code 756 = .ok (.istore 5, 2) := by decide +kernel
theorem d_W_law_758 : decode code 758 = .ok (.aload_n 2, 1) := by decide +kernel
theorem d_W_law_759 : decode code 759 = .ok (.aload_n 0, 1) := by decide +kernel
theorem d_W_law_760 : decode code 760 = .ok (.iload 4, 2) := by decide +kernel
theorem d_W_law_762 : decode code 762 = .ok (.iconst 1, 1) := by decide +kernel
theorem d_W_law_763 : decode code 763 = .ok (.iadd, 1) := by decide +kernel
theorem d_W_law_764 : decode code 764 = .ok (.iaload, 1) := by decide +kernel
theorem d_W_law_765 : decode code 765 = .ok (.invokevirtual 215, 3) := by decide +kernel
theorem d_W_law_768 : decode code 768 = .ok (.istore 6, 2) := by decide +kernel
theorem d_W_law_770 : decode code 770 = .ok (.goto (1255), 3) := by decide +kernel
theorem d_W_law_773 : decode code 773 = .ok (.aload_n 1, 1) := by decide +kernel
theorem d_W_law_774 : decode code 774 = .ok (.aload_n 0, 1) := by decide +kernel
theorem d_W_law_775 : decode code 775 = .ok (.iload 4, 2) := by decide +kernel
theorem d_W_law_777 : decode code 777 = .ok (.iconst 1, 1) := by decide +kernel
theorem d_W_law_778 : decode code 778 = .ok (.iadd, 1) := by decide +kernel
theorem d_W_law_779 : decode code 779 = .ok (.iaload, 1) := by decide +kernel
theorem d_W_law_780 : decode code 780 = .ok (.aload_n 3, 1) := by decide +kernel
theorem d_W_law_781 : decode code 781 = .ok (.invokestatic 216, 3) := by decide +kernel
theorem d_W_law_784 : decode code 784 = .ok (.istore 5, 2) := by decide +kernel
theorem d_W_law_786 : decode code 786 = .ok (.aload_n 2, 1) := by decide +kernel
theorem d_W_law_787 : decode code 787 = .ok (.aload_n 0, 1) := by decide +kernel
theorem d_W_law_788 : decode code 788 = .ok (.iload 4, 2) := by decide +kernel
theorem d_W_law_790 : decode code 790 = .ok (.iconst 1, 1) := by decide +kernel
theorem d_W_law_791 : decode code 791 = .ok (.iadd, 1) := by decide +kernel
theorem d_W_law_792 : decode code 792 = .ok (.iaload, 1) := by decide +kernel
theorem d_W_law_793 : decode code 793 = .ok (.invokevirtual 218, 3) := by decide +kernel
theorem d_W_law_796 : decode code 796 = .ok (.istore 6, 2) := by decide +kernel
theorem d_W_law_798 : decode code 798 = .ok (.goto (1227), 3) := by decide +kernel
theorem d_W_law_801 : decode code 801 = .ok (.aload_n 1, 1) := by decide +kernel
theorem d_W_law_802 : decode code 802 = .ok (.aload_n 0, 1) := by decide +kernel
theorem d_W_law_803 : decode code 803 = .ok (.iload 4, 2) := by decide +kernel
theorem d_W_law_805 : decode code 805 = .ok (.iconst 1, 1) := by decide +kernel
theorem d_W_law_806 : decode code 806 = .ok (.iadd, 1) := by decide +kernel
theorem d_W_law_807 : decode code 807 = .ok (.iaload, 1) := by decide +kernel
theorem d_W_law_808 : decode code 808 = .ok (.aload_n 3, 1) := by decide +kernel
theorem d_W_law_809 : decode code 809 = .ok (.invokestatic 219, 3) := by decide +kernel
theorem d_W_law_812 : decode code 812 = .ok (.istore 5, 2) := by decide +kernel
theorem d_W_law_814 : decode code 814 = .ok (.aload_n 2, 1) := by decide +kernel
theorem d_W_law_815 : decode code 815 = .ok (.aload_n 0, 1) := by decide +kernel
theorem d_W_law_816 : decode code 816 = .ok (.iload 4, 2) := by decide +kernel
theorem d_W_law_818 : decode code 818 = .ok (.iconst 1, 1) := by decide +kernel
theorem d_W_law_819 : decode code 819 = .ok (.iadd, 1) := by decide +kernel
theorem d_W_law_820 : decode code 820 = .ok (.iaload, 1) := by decide +kernel
theorem d_W_law_821 : decode code 821 = .ok (.invokevirtual 221, 3) := by decide +kernel
theorem d_W_law_824 : decode code 824 = .ok (.istore 6, 2) := by decide +kernel
theorem d_W_law_826 : decode code 826 = .ok (.goto (1199), 3) := by decide +kernel
theorem d_W_law_829 : decode code 829 = .ok (.aload_n 1, 1) := by decide +kernel
theorem d_W_law_830 : decode code 830 = .ok (.invokevirtual 222, 3) := by decide +kernel
theorem d_W_law_833 : decode code 833 = .ok (.pop, 1) := by decide +kernel
theorem d_W_law_834 : decode code 834 = .ok (.aload_n 2, 1) := by decide +kernel
theorem d_W_law_835 : decode code 835 = .ok (.invokevirtual 225, 3) := by decide +kernel
theorem d_W_law_838 : decode code 838 = .ok (.pop, 1) := by decide +kernel
theorem d_W_law_839 : decode code 839 = .ok (.goto (1186), 3) := by decide +kernel
theorem d_W_law_842 : decode code 842 = .ok (.aload_n 1, 1) := by decide +kernel
theorem d_W_law_843 : decode code 843 = .ok (.aload_n 0, 1) := by decide +kernel
theorem d_W_law_844 : decode code 844 = .ok (.iload 4, 2) := by decide +kernel
theorem d_W_law_846 : decode code 846 = .ok (.iconst 1, 1) := by decide +kernel
theorem d_W_law_847 : decode code 847 = .ok (.iadd, 1) := by decide +kernel
theorem d_W_law_848 : decode code 848 = .ok (.iaload, 1) := by decide +kernel
theorem d_W_law_849 : decode code 849 = .ok (.aload_n 3, 1) := by decide +kernel
theorem d_W_law_850 : decode code 850 = .ok (.invokestatic 226, 3) := by decide +kernel
theorem d_W_law_853 : decode code 853 = .ok (.istore 5, 2) := by decide +kernel
theorem d_W_law_855 : decode code 855 = .ok (.aload_n 2, 1) := by decide +kernel
theorem d_W_law_856 : decode code 856 = .ok (.aload_n 0, 1) := by decide +kernel
theorem d_W_law_857 : decode code 857 = .ok (.iload 4, 2) := by decide +kernel
theorem d_W_law_859 : decode code 859 = .ok (.iconst 1, 1) := by decide +kernel
theorem d_W_law_860 : decode code 860 = .ok (.iadd, 1) := by decide +kernel
theorem d_W_law_861 : decode code 861 = .ok (.iaload, 1) := by decide +kernel
theorem d_W_law_862 : decode code 862 = .ok (.invokevirtual 228, 3) := by decide +kernel
theorem d_W_law_865 : decode code 865 = .ok (.istore 6, 2) := by decide +kernel
theorem d_W_law_867 : decode code 867 = .ok (.goto (1158), 3) := by decide +kernel
theorem d_W_law_870 : decode code 870 = .ok (.aload_n 1, 1) := by decide +kernel
theorem d_W_law_871 : decode code 871 = .ok (.aload_n 0, 1) := by decide +kernel
theorem d_W_law_872 : decode code 872 = .ok (.iload 4, 2) := by decide +kernel
theorem d_W_law_874 : decode code 874 = .ok (.iconst 1, 1) := by decide +kernel
theorem d_W_law_875 : decode code 875 = .ok (.iadd, 1) := by decide +kernel
theorem d_W_law_876 : decode code 876 = .ok (.iaload, 1) := by decide +kernel
theorem d_W_law_877 : decode code 877 = .ok (.aload_n 3, 1) := by decide +kernel
theorem d_W_law_878 : decode code 878 = .ok (.invokestatic 229, 3) := by decide +kernel
theorem d_W_law_881 : decode code 881 = .ok (.istore 5, 2) := by decide +kernel
theorem d_W_law_883 : decode code 883 = .ok (.aload_n 2, 1) := by decide +kernel
theorem d_W_law_884 : decode code 884 = .ok (.aload_n 0, 1) := by decide +kernel
theorem d_W_law_885 : decode code 885 = .ok (.iload 4, 2) := by decide +kernel
theorem d_W_law_887 : decode code 887 = .ok (.iconst 1, 1) := by decide +kernel
theorem d_W_law_888 : decode code 888 = .ok (.iadd, 1) := by decide +kernel
theorem d_W_law_889 : decode code 889 = .ok (.iaload, 1) := by decide +kernel
theorem d_W_law_890 : decode code 890 = .ok (.invokevirtual 231, 3) := by decide +kernel
theorem d_W_law_893 : decode code 893 = .ok (.istore 6, 2) := by decide +kernel
theorem d_W_law_895 : decode code 895 = .ok (.goto (1130), 3) := by decide +kernel
theorem d_W_law_898 : decode code 898 = .ok (.aload_n 1, 1) := by decide +kernel
theorem d_W_law_899 : decode code 899 = .ok (.aload_n 0, 1) := by decide +kernel
theorem d_W_law_900 : decode code 900 = .ok (.iload 4, 2) := by decide +kernel
theorem d_W_law_902 : decode code 902 = .ok (.iconst 1, 1) := by decide +kernel
theorem d_W_law_903 : decode code 903 = .ok (.iadd, 1) := by decide +kernel
theorem d_W_law_904 : decode code 904 = .ok (.iaload, 1) := by decide +kernel
theorem d_W_law_905 : decode code 905 = .ok (.aload_n 3, 1) := by decide +kernel
theorem d_W_law_906 : decode code 906 = .ok (.invokestatic 232, 3) := by decide +kernel
theorem d_W_law_909 : decode code 909 = .ok (.istore 5, 2) := by decide +kernel
theorem d_W_law_911 : decode code 911 = .ok (.aload_n 2, 1) := by decide +kernel
theorem d_W_law_912 : decode code 912 = .ok (.aload_n 0, 1) := by decide +kernel
theorem d_W_law_913 : decode code 913 = .ok (.iload 4, 2) := by decide +kernel
theorem d_W_law_915 : decode code 915 = .ok (.iconst 1, 1) := by decide +kernel
theorem d_W_law_916 : decode code 916 = .ok (.iadd, 1) := by decide +kernel
theorem d_W_law_917 : decode code 917 = .ok (.iaload, 1) := by decide +kernel
theorem d_W_law_918 : decode code 918 = .ok (.invokevirtual 234, 3) := by decide +kernel
theorem d_W_law_921 : decode code 921 = .ok (.istore 6, 2) := by decide +kernel
theorem d_W_law_923 : decode code 923 = .ok (.goto (1102), 3) := by decide +kernel
theorem d_W_law_926 : decode code 926 = .ok (.aload_n 1, 1) := by decide +kernel
theorem d_W_law_927 : decode code 927 = .ok (.aload_n 0, 1) := by decide +kernel
theorem d_W_law_928 : decode code 928 = .ok (.iload 4, 2) := by decide +kernel
theorem d_W_law_930 : decode code 930 = .ok (.iconst 1, 1) := by decide +kernel
theorem d_W_law_931 : decode code 931 = .ok (.iadd, 1) := by decide +kernel
theorem d_W_law_932 : decode code 932 = .ok (.iaload, 1) := by decide +kernel
theorem d_W_law_933 : decode code 933 = .ok (.aload_n 0, 1) := by decide +kernel
theorem d_W_law_934 : decode code 934 = .ok (.iload 4, 2) := by decide +kernel
theorem d_W_law_936 : decode code 936 = .ok (.iconst 2, 1) := by decide +kernel
theorem d_W_law_937 : decode code 937 = .ok (.iadd, 1) := by decide +kernel
theorem d_W_law_938 : decode code 938 = .ok (.iaload, 1) := by decide +kernel
theorem d_W_law_939 : decode code 939 = .ok (.aload_n 0, 1) := by decide +kernel
theorem d_W_law_940 : decode code 940 = .ok (.iload 4, 2) := by decide +kernel
theorem d_W_law_942 : decode code 942 = .ok (.iconst 3, 1) := by decide +kernel
theorem d_W_law_943 : decode code 943 = .ok (.iadd, 1) := by decide +kernel
theorem d_W_law_944 : decode code 944 = .ok (.iaload, 1) := by decide +kernel
theorem d_W_law_945 : decode code 945 = .ok (.ifCond .eq (7), 3) := by decide +kernel
theorem d_W_law_948 : decode code 948 = .ok (.iconst 1, 1) := by decide +kernel
theorem d_W_law_949 : decode code 949 = .ok (.goto (4), 3) := by decide +kernel
theorem d_W_law_952 : decode code 952 = .ok (.iconst 0, 1) := by decide +kernel
theorem d_W_law_953 : decode code 953 = .ok (.aload_n 0, 1) := by decide +kernel
theorem d_W_law_954 : decode code 954 = .ok (.iload 4, 2) := by decide +kernel
theorem d_W_law_956 : decode code 956 = .ok (.iconst 4, 1) := by decide +kernel
theorem d_W_law_957 : decode code 957 = .ok (.iadd, 1) := by decide +kernel
theorem d_W_law_958 : decode code 958 = .ok (.iaload, 1) := by decide +kernel
theorem d_W_law_959 : decode code 959 = .ok (.aload_n 3, 1) := by decide +kernel
theorem d_W_law_960 : decode code 960 = .ok (.invokestatic 235, 3) := by decide +kernel
theorem d_W_law_963 : decode code 963 = .ok (.istore 5, 2) := by decide +kernel
theorem d_W_law_965 : decode code 965 = .ok (.aload_n 2, 1) := by decide +kernel
theorem d_W_law_966 : decode code 966 = .ok (.aload_n 0, 1) := by decide +kernel
theorem d_W_law_967 : decode code 967 = .ok (.iload 4, 2) := by decide +kernel
theorem d_W_law_969 : decode code 969 = .ok (.iconst 1, 1) := by decide +kernel
theorem d_W_law_970 : decode code 970 = .ok (.iadd, 1) := by decide +kernel
theorem d_W_law_971 : decode code 971 = .ok (.iaload, 1) := by decide +kernel
theorem d_W_law_972 : decode code 972 = .ok (.aload_n 0, 1) := by decide +kernel
theorem d_W_law_973 : decode code 973 = .ok (.iload 4, 2) := by decide +kernel
theorem d_W_law_975 : decode code 975 = .ok (.iconst 2, 1) := by decide +kernel
theorem d_W_law_976 : decode code 976 = .ok (.iadd, 1) := by decide +kernel
theorem d_W_law_977 : decode code 977 = .ok (.iaload, 1) := by decide +kernel
theorem d_W_law_978 : decode code 978 = .ok (.aload_n 0, 1) := by decide +kernel
theorem d_W_law_979 : decode code 979 = .ok (.iload 4, 2) := by decide +kernel
theorem d_W_law_981 : decode code 981 = .ok (.iconst 3, 1) := by decide +kernel
theorem d_W_law_982 : decode code 982 = .ok (.iadd, 1) := by decide +kernel
theorem d_W_law_983 : decode code 983 = .ok (.iaload, 1) := by decide +kernel
theorem d_W_law_984 : decode code 984 = .ok (.ifCond .eq (7), 3) := by decide +kernel
theorem d_W_law_987 : decode code 987 = .ok (.iconst 1, 1) := by decide +kernel
theorem d_W_law_988 : decode code 988 = .ok (.goto (4), 3) := by decide +kernel
theorem d_W_law_991 : decode code 991 = .ok (.iconst 0, 1) := by decide +kernel
theorem d_W_law_992 : decode code 992 = .ok (.aload_n 0, 1) := by decide +kernel
theorem d_W_law_993 : decode code 993 = .ok (.iload 4, 2) := by decide +kernel
theorem d_W_law_995 : decode code 995 = .ok (.iconst 4, 1) := by decide +kernel
theorem d_W_law_996 : decode code 996 = .ok (.iadd, 1) := by decide +kernel
theorem d_W_law_997 : decode code 997 = .ok (.iaload, 1) := by decide +kernel
theorem d_W_law_998 : decode code 998 = .ok (.invokevirtual 238, 3) := by decide +kernel
theorem d_W_law_1001 : decode code 1001 = .ok (.istore 6, 2) := by decide +kernel
theorem d_W_law_1003 : decode code 1003 = .ok (.goto (1022), 3) := by decide +kernel
theorem d_W_law_1006 : decode code 1006 = .ok (.aload_n 1, 1) := by decide +kernel
theorem d_W_law_1007 : decode code 1007 = .ok (.aload_n 0, 1) := by decide +kernel
theorem d_W_law_1008 : decode code 1008 = .ok (.iload 4, 2) := by decide +kernel
theorem d_W_law_1010 : decode code 1010 = .ok (.iconst 1, 1) := by decide +kernel
theorem d_W_law_1011 : decode code 1011 = .ok (.iadd, 1) := by decide +kernel
theorem d_W_law_1012 : decode code 1012 = .ok (.iaload, 1) := by decide +kernel
theorem d_W_law_1013 : decode code 1013 = .ok (.aload_n 3, 1) := by decide +kernel
theorem d_W_law_1014 : decode code 1014 = .ok (.invokestatic 239, 3) := by decide +kernel
theorem d_W_law_1017 : decode code 1017 = .ok (.istore 5, 2) := by decide +kernel
theorem d_W_law_1019 : decode code 1019 = .ok (.aload_n 2, 1) := by decide +kernel
theorem d_W_law_1020 : decode code 1020 = .ok (.aload_n 0, 1) := by decide +kernel
theorem d_W_law_1021 : decode code 1021 = .ok (.iload 4, 2) := by decide +kernel
theorem d_W_law_1023 : decode code 1023 = .ok (.iconst 1, 1) := by decide +kernel
theorem d_W_law_1024 : decode code 1024 = .ok (.iadd, 1) := by decide +kernel
theorem d_W_law_1025 : decode code 1025 = .ok (.iaload, 1) := by decide +kernel
theorem d_W_law_1026 : decode code 1026 = .ok (.invokevirtual 241, 3) := by decide +kernel
theorem d_W_law_1029 : decode code 1029 = .ok (.istore 6, 2) := by decide +kernel
theorem d_W_law_1031 : decode code 1031 = .ok (.goto (994), 3) := by decide +kernel
theorem d_W_law_1034 : decode code 1034 = .ok (.aload_n 1, 1) := by decide +kernel
theorem d_W_law_1035 : decode code 1035 = .ok (.aload_n 0, 1) := by decide +kernel
theorem d_W_law_1036 : decode code 1036 = .ok (.iload 4, 2) := by decide +kernel
theorem d_W_law_1038 : decode code 1038 = .ok (.iconst 1, 1) := by decide +kernel
theorem d_W_law_1039 : decode code 1039 = .ok (.iadd, 1) := by decide +kernel
theorem d_W_law_1040 : decode code 1040 = .ok (.iaload, 1) := by decide +kernel
theorem d_W_law_1041 : decode code 1041 = .ok (.aload_n 3, 1) := by decide +kernel
theorem d_W_law_1042 : decode code 1042 = .ok (.invokestatic 242, 3) := by decide +kernel
theorem d_W_law_1045 : decode code 1045 = .ok (.istore 5, 2) := by decide +kernel
theorem d_W_law_1047 : decode code 1047 = .ok (.aload_n 2, 1) := by decide +kernel
theorem d_W_law_1048 : decode code 1048 = .ok (.aload_n 0, 1) := by decide +kernel
theorem d_W_law_1049 : decode code 1049 = .ok (.iload 4, 2) := by decide +kernel
theorem d_W_law_1051 : decode code 1051 = .ok (.iconst 1, 1) := by decide +kernel
theorem d_W_law_1052 : decode code 1052 = .ok (.iadd, 1) := by decide +kernel
theorem d_W_law_1053 : decode code 1053 = .ok (.iaload, 1) := by decide +kernel
theorem d_W_law_1054 : decode code 1054 = .ok (.invokevirtual 244, 3) := by decide +kernel
theorem d_W_law_1057 : decode code 1057 = .ok (.istore 6, 2) := by decide +kernel
theorem d_W_law_1059 : decode code 1059 = .ok (.goto (966), 3) := by decide +kernel
theorem d_W_law_1062 : decode code 1062 = .ok (.aload_n 1, 1) := by decide +kernel
theorem d_W_law_1063 : decode code 1063 = .ok (.aload_n 0, 1) := by decide +kernel
theorem d_W_law_1064 : decode code 1064 = .ok (.iload 4, 2) := by decide +kernel
theorem d_W_law_1066 : decode code 1066 = .ok (.iconst 1, 1) := by decide +kernel
theorem d_W_law_1067 : decode code 1067 = .ok (.iadd, 1) := by decide +kernel
theorem d_W_law_1068 : decode code 1068 = .ok (.iaload, 1) := by decide +kernel
theorem d_W_law_1069 : decode code 1069 = .ok (.aload_n 0, 1) := by decide +kernel
theorem d_W_law_1070 : decode code 1070 = .ok (.iload 4, 2) := by decide +kernel
theorem d_W_law_1072 : decode code 1072 = .ok (.iconst 2, 1) := by decide +kernel
theorem d_W_law_1073 : decode code 1073 = .ok (.iadd, 1) := by decide +kernel
theorem d_W_law_1074 : decode code 1074 = .ok (.iaload, 1) := by decide +kernel
theorem d_W_law_1075 : decode code 1075 = .ok (.aload_n 3, 1) := by decide +kernel
theorem d_W_law_1076 : decode code 1076 = .ok (.invokestatic 245, 3) := by decide +kernel
theorem d_W_law_1079 : decode code 1079 = .ok (.istore 5, 2) := by decide +kernel
theorem d_W_law_1081 : decode code 1081 = .ok (.aload_n 2, 1) := by decide +kernel
theorem d_W_law_1082 : decode code 1082 = .ok (.aload_n 0, 1) := by decide +kernel
theorem d_W_law_1083 : decode code 1083 = .ok (.iload 4, 2) := by decide +kernel
theorem d_W_law_1085 : decode code 1085 = .ok (.iconst 1, 1) := by decide +kernel
theorem d_W_law_1086 : decode code 1086 = .ok (.iadd, 1) := by decide +kernel
theorem d_W_law_1087 : decode code 1087 = .ok (.iaload, 1) := by decide +kernel
theorem d_W_law_1088 : decode code 1088 = .ok (.aload_n 0, 1) := by decide +kernel
theorem d_W_law_1089 : decode code 1089 = .ok (.iload 4, 2) := by decide +kernel
theorem d_W_law_1091 : decode code 1091 = .ok (.iconst 2, 1) := by decide +kernel
theorem d_W_law_1092 : decode code 1092 = .ok (.iadd, 1) := by decide +kernel
theorem d_W_law_1093 : decode code 1093 = .ok (.iaload, 1) := by decide +kernel
theorem d_W_law_1094 : decode code 1094 = .ok (.invokevirtual 247, 3) := by decide +kernel
theorem d_W_law_1097 : decode code 1097 = .ok (.istore 6, 2) := by decide +kernel
theorem d_W_law_1099 : decode code 1099 = .ok (.goto (926), 3) := by decide +kernel
theorem d_W_law_1102 : decode code 1102 = .ok (.aload_n 1, 1) := by decide +kernel
theorem d_W_law_1103 : decode code 1103 = .ok (.aload_n 0, 1) := by decide +kernel
theorem d_W_law_1104 : decode code 1104 = .ok (.iload 4, 2) := by decide +kernel
theorem d_W_law_1106 : decode code 1106 = .ok (.iconst 1, 1) := by decide +kernel
theorem d_W_law_1107 : decode code 1107 = .ok (.iadd, 1) := by decide +kernel
theorem d_W_law_1108 : decode code 1108 = .ok (.iaload, 1) := by decide +kernel
theorem d_W_law_1109 : decode code 1109 = .ok (.aload_n 0, 1) := by decide +kernel
theorem d_W_law_1110 : decode code 1110 = .ok (.iload 4, 2) := by decide +kernel
theorem d_W_law_1112 : decode code 1112 = .ok (.iconst 2, 1) := by decide +kernel
theorem d_W_law_1113 : decode code 1113 = .ok (.iadd, 1) := by decide +kernel
theorem d_W_law_1114 : decode code 1114 = .ok (.iaload, 1) := by decide +kernel
theorem d_W_law_1115 : decode code 1115 = .ok (.aload_n 0, 1) := by decide +kernel
theorem d_W_law_1116 : decode code 1116 = .ok (.iload 4, 2) := by decide +kernel
theorem d_W_law_1118 : decode code 1118 = .ok (.iconst 3, 1) := by decide +kernel
theorem d_W_law_1119 : decode code 1119 = .ok (.iadd, 1) := by decide +kernel
theorem d_W_law_1120 : decode code 1120 = .ok (.iaload, 1) := by decide +kernel
theorem d_W_law_1121 : decode code 1121 = .ok (.aload_n 3, 1) := by decide +kernel
theorem d_W_law_1122 : decode code 1122 = .ok (.invokestatic 248, 3) := by decide +kernel
theorem d_W_law_1125 : decode code 1125 = .ok (.istore 5, 2) := by decide +kernel
theorem d_W_law_1127 : decode code 1127 = .ok (.aload_n 2, 1) := by decide +kernel
theorem d_W_law_1128 : decode code 1128 = .ok (.aload_n 0, 1) := by decide +kernel
theorem d_W_law_1129 : decode code 1129 = .ok (.iload 4, 2) := by decide +kernel
theorem d_W_law_1131 : decode code 1131 = .ok (.iconst 1, 1) := by decide +kernel
theorem d_W_law_1132 : decode code 1132 = .ok (.iadd, 1) := by decide +kernel
theorem d_W_law_1133 : decode code 1133 = .ok (.iaload, 1) := by decide +kernel
theorem d_W_law_1134 : decode code 1134 = .ok (.aload_n 0, 1) := by decide +kernel
theorem d_W_law_1135 : decode code 1135 = .ok (.iload 4, 2) := by decide +kernel
theorem d_W_law_1137 : decode code 1137 = .ok (.iconst 2, 1) := by decide +kernel
theorem d_W_law_1138 : decode code 1138 = .ok (.iadd, 1) := by decide +kernel
theorem d_W_law_1139 : decode code 1139 = .ok (.iaload, 1) := by decide +kernel
theorem d_W_law_1140 : decode code 1140 = .ok (.aload_n 0, 1) := by decide +kernel
theorem d_W_law_1141 : decode code 1141 = .ok (.iload 4, 2) := by decide +kernel
theorem d_W_law_1143 : decode code 1143 = .ok (.iconst 3, 1) := by decide +kernel
theorem d_W_law_1144 : decode code 1144 = .ok (.iadd, 1) := by decide +kernel
theorem d_W_law_1145 : decode code 1145 = .ok (.iaload, 1) := by decide +kernel
theorem d_W_law_1146 : decode code 1146 = .ok (.invokevirtual 250, 3) := by decide +kernel
theorem d_W_law_1149 : decode code 1149 = .ok (.istore 6, 2) := by decide +kernel
theorem d_W_law_1151 : decode code 1151 = .ok (.goto (874), 3) := by decide +kernel
theorem d_W_law_1154 : decode code 1154 = .ok (.aload_n 1, 1) := by decide +kernel
theorem d_W_law_1155 : decode code 1155 = .ok (.aload_n 0, 1) := by decide +kernel
theorem d_W_law_1156 : decode code 1156 = .ok (.iload 4, 2) := by decide +kernel
theorem d_W_law_1158 : decode code 1158 = .ok (.iconst 1, 1) := by decide +kernel
theorem d_W_law_1159 : decode code 1159 = .ok (.iadd, 1) := by decide +kernel
theorem d_W_law_1160 : decode code 1160 = .ok (.iaload, 1) := by decide +kernel
theorem d_W_law_1161 : decode code 1161 = .ok (.aload_n 0, 1) := by decide +kernel
theorem d_W_law_1162 : decode code 1162 = .ok (.iload 4, 2) := by decide +kernel
theorem d_W_law_1164 : decode code 1164 = .ok (.iconst 2, 1) := by decide +kernel
theorem d_W_law_1165 : decode code 1165 = .ok (.iadd, 1) := by decide +kernel
theorem d_W_law_1166 : decode code 1166 = .ok (.iaload, 1) := by decide +kernel
theorem d_W_law_1167 : decode code 1167 = .ok (.aload_n 3, 1) := by decide +kernel
theorem d_W_law_1168 : decode code 1168 = .ok (.invokestatic 251, 3) := by decide +kernel
theorem d_W_law_1171 : decode code 1171 = .ok (.istore 5, 2) := by decide +kernel
theorem d_W_law_1173 : decode code 1173 = .ok (.aload_n 2, 1) := by decide +kernel
theorem d_W_law_1174 : decode code 1174 = .ok (.aload_n 0, 1) := by decide +kernel
theorem d_W_law_1175 : decode code 1175 = .ok (.iload 4, 2) := by decide +kernel
theorem d_W_law_1177 : decode code 1177 = .ok (.iconst 1, 1) := by decide +kernel
theorem d_W_law_1178 : decode code 1178 = .ok (.iadd, 1) := by decide +kernel
theorem d_W_law_1179 : decode code 1179 = .ok (.iaload, 1) := by decide +kernel
theorem d_W_law_1180 : decode code 1180 = .ok (.aload_n 0, 1) := by decide +kernel
theorem d_W_law_1181 : decode code 1181 = .ok (.iload 4, 2) := by decide +kernel
theorem d_W_law_1183 : decode code 1183 = .ok (.iconst 2, 1) := by decide +kernel
theorem d_W_law_1184 : decode code 1184 = .ok (.iadd, 1) := by decide +kernel
theorem d_W_law_1185 : decode code 1185 = .ok (.iaload, 1) := by decide +kernel
theorem d_W_law_1186 : decode code 1186 = .ok (.invokevirtual 253, 3) := by decide +kernel
theorem d_W_law_1189 : decode code 1189 = .ok (.istore 6, 2) := by decide +kernel
theorem d_W_law_1191 : decode code 1191 = .ok (.goto (834), 3) := by decide +kernel
theorem d_W_law_1194 : decode code 1194 = .ok (.aload_n 1, 1) := by decide +kernel
theorem d_W_law_1195 : decode code 1195 = .ok (.aload_n 0, 1) := by decide +kernel
theorem d_W_law_1196 : decode code 1196 = .ok (.iload 4, 2) := by decide +kernel
theorem d_W_law_1198 : decode code 1198 = .ok (.iconst 1, 1) := by decide +kernel
theorem d_W_law_1199 : decode code 1199 = .ok (.iadd, 1) := by decide +kernel
theorem d_W_law_1200 : decode code 1200 = .ok (.iaload, 1) := by decide +kernel
theorem d_W_law_1201 : decode code 1201 = .ok (.aload_n 0, 1) := by decide +kernel
theorem d_W_law_1202 : decode code 1202 = .ok (.iload 4, 2) := by decide +kernel
theorem d_W_law_1204 : decode code 1204 = .ok (.iconst 2, 1) := by decide +kernel
theorem d_W_law_1205 : decode code 1205 = .ok (.iadd, 1) := by decide +kernel
theorem d_W_law_1206 : decode code 1206 = .ok (.iaload, 1) := by decide +kernel
theorem d_W_law_1207 : decode code 1207 = .ok (.aload_n 3, 1) := by decide +kernel
theorem d_W_law_1208 : decode code 1208 = .ok (.invokestatic 254, 3) := by decide +kernel
theorem d_W_law_1211 : decode code 1211 = .ok (.istore 5, 2) := by decide +kernel
theorem d_W_law_1213 : decode code 1213 = .ok (.aload_n 2, 1) := by decide +kernel
theorem d_W_law_1214 : decode code 1214 = .ok (.aload_n 0, 1) := by decide +kernel
theorem d_W_law_1215 : decode code 1215 = .ok (.iload 4, 2) := by decide +kernel
theorem d_W_law_1217 : decode code 1217 = .ok (.iconst 1, 1) := by decide +kernel
theorem d_W_law_1218 : decode code 1218 = .ok (.iadd, 1) := by decide +kernel
theorem d_W_law_1219 : decode code 1219 = .ok (.iaload, 1) := by decide +kernel
theorem d_W_law_1220 : decode code 1220 = .ok (.aload_n 0, 1) := by decide +kernel
theorem d_W_law_1221 : decode code 1221 = .ok (.iload 4, 2) := by decide +kernel
theorem d_W_law_1223 : decode code 1223 = .ok (.iconst 2, 1) := by decide +kernel
theorem d_W_law_1224 : decode code 1224 = .ok (.iadd, 1) := by decide +kernel
theorem d_W_law_1225 : decode code 1225 = .ok (.iaload, 1) := by decide +kernel
theorem d_W_law_1226 : decode code 1226 = .ok (.invokevirtual 256, 3) := by decide +kernel
theorem d_W_law_1229 : decode code 1229 = .ok (.istore 6, 2) := by decide +kernel
theorem d_W_law_1231 : decode code 1231 = .ok (.goto (794), 3) := by decide +kernel
theorem d_W_law_1234 : decode code 1234 = .ok (.aload_n 1, 1) := by decide +kernel
theorem d_W_law_1235 : decode code 1235 = .ok (.aload_n 0, 1) := by decide +kernel
theorem d_W_law_1236 : decode code 1236 = .ok (.iload 4, 2) := by decide +kernel
theorem d_W_law_1238 : decode code 1238 = .ok (.iconst 1, 1) := by decide +kernel
theorem d_W_law_1239 : decode code 1239 = .ok (.iadd, 1) := by decide +kernel
theorem d_W_law_1240 : decode code 1240 = .ok (.iaload, 1) := by decide +kernel
theorem d_W_law_1241 : decode code 1241 = .ok (.aload_n 0, 1) := by decide +kernel
theorem d_W_law_1242 : decode code 1242 = .ok (.iload 4, 2) := by decide +kernel
theorem d_W_law_1244 : decode code 1244 = .ok (.iconst 2, 1) := by decide +kernel
theorem d_W_law_1245 : decode code 1245 = .ok (.iadd, 1) := by decide +kernel
theorem d_W_law_1246 : decode code 1246 = .ok (.iaload, 1) := by decide +kernel
theorem d_W_law_1247 : decode code 1247 = .ok (.aload_n 0, 1) := by decide +kernel
theorem d_W_law_1248 : decode code 1248 = .ok (.iload 4, 2) := by decide +kernel
theorem d_W_law_1250 : decode code 1250 = .ok (.iconst 3, 1) := by decide +kernel
theorem d_W_law_1251 : decode code 1251 = .ok (.iadd, 1) := by decide +kernel
theorem d_W_law_1252 : decode code 1252 = .ok (.iaload, 1) := by decide +kernel
theorem d_W_law_1253 : decode code 1253 = .ok (.aload_n 0, 1) := by decide +kernel
theorem d_W_law_1254 : decode code 1254 = .ok (.iload 4, 2) := by decide +kernel
theorem d_W_law_1256 : decode code 1256 = .ok (.iconst 4, 1) := by decide +kernel
theorem d_W_law_1257 : decode code 1257 = .ok (.iadd, 1) := by decide +kernel
theorem d_W_law_1258 : decode code 1258 = .ok (.iaload, 1) := by decide +kernel
theorem d_W_law_1259 : decode code 1259 = .ok (.aload_n 3, 1) := by decide +kernel
theorem d_W_law_1260 : decode code 1260 = .ok (.invokestatic 257, 3) := by decide +kernel
theorem d_W_law_1263 : decode code 1263 = .ok (.istore 5, 2) := by decide +kernel
theorem d_W_law_1265 : decode code 1265 = .ok (.aload_n 2, 1) := by decide +kernel
theorem d_W_law_1266 : decode code 1266 = .ok (.aload_n 0, 1) := by decide +kernel
theorem d_W_law_1267 : decode code 1267 = .ok (.iload 4, 2) := by decide +kernel
theorem d_W_law_1269 : decode code 1269 = .ok (.iconst 1, 1) := by decide +kernel
theorem d_W_law_1270 : decode code 1270 = .ok (.iadd, 1) := by decide +kernel
theorem d_W_law_1271 : decode code 1271 = .ok (.iaload, 1) := by decide +kernel
theorem d_W_law_1272 : decode code 1272 = .ok (.aload_n 0, 1) := by decide +kernel
theorem d_W_law_1273 : decode code 1273 = .ok (.iload 4, 2) := by decide +kernel
theorem d_W_law_1275 : decode code 1275 = .ok (.iconst 2, 1) := by decide +kernel
theorem d_W_law_1276 : decode code 1276 = .ok (.iadd, 1) := by decide +kernel
theorem d_W_law_1277 : decode code 1277 = .ok (.iaload, 1) := by decide +kernel
theorem d_W_law_1278 : decode code 1278 = .ok (.aload_n 0, 1) := by decide +kernel
theorem d_W_law_1279 : decode code 1279 = .ok (.iload 4, 2) := by decide +kernel
theorem d_W_law_1281 : decode code 1281 = .ok (.iconst 3, 1) := by decide +kernel
theorem d_W_law_1282 : decode code 1282 = .ok (.iadd, 1) := by decide +kernel
theorem d_W_law_1283 : decode code 1283 = .ok (.iaload, 1) := by decide +kernel
theorem d_W_law_1284 : decode code 1284 = .ok (.aload_n 0, 1) := by decide +kernel
theorem d_W_law_1285 : decode code 1285 = .ok (.iload 4, 2) := by decide +kernel
theorem d_W_law_1287 : decode code 1287 = .ok (.iconst 4, 1) := by decide +kernel
theorem d_W_law_1288 : decode code 1288 = .ok (.iadd, 1) := by decide +kernel
theorem d_W_law_1289 : decode code 1289 = .ok (.iaload, 1) := by decide +kernel
theorem d_W_law_1290 : decode code 1290 = .ok (.invokevirtual 260, 3) := by decide +kernel
theorem d_W_law_1293 : decode code 1293 = .ok (.istore 6, 2) := by decide +kernel
theorem d_W_law_1295 : decode code 1295 = .ok (.goto (730), 3) := by decide +kernel
theorem d_W_law_1298 : decode code 1298 = .ok (.aload_n 1, 1) := by decide +kernel
theorem d_W_law_1299 : decode code 1299 = .ok (.aload_n 0, 1) := by decide +kernel
theorem d_W_law_1300 : decode code 1300 = .ok (.iload 4, 2) := by decide +kernel
theorem d_W_law_1302 : decode code 1302 = .ok (.iconst 1, 1) := by decide +kernel
theorem d_W_law_1303 : decode code 1303 = .ok (.iadd, 1) := by decide +kernel
theorem d_W_law_1304 : decode code 1304 = .ok (.iaload, 1) := by decide +kernel
theorem d_W_law_1305 : decode code 1305 = .ok (.aload_n 3, 1) := by decide +kernel
theorem d_W_law_1306 : decode code 1306 = .ok (.invokestatic 261, 3) := by decide +kernel
theorem d_W_law_1309 : decode code 1309 = .ok (.istore 5, 2) := by decide +kernel
theorem d_W_law_1311 : decode code 1311 = .ok (.aload_n 2, 1) := by decide +kernel
theorem d_W_law_1312 : decode code 1312 = .ok (.aload_n 0, 1) := by decide +kernel
theorem d_W_law_1313 : decode code 1313 = .ok (.iload 4, 2) := by decide +kernel
theorem d_W_law_1315 : decode code 1315 = .ok (.iconst 1, 1) := by decide +kernel
theorem d_W_law_1316 : decode code 1316 = .ok (.iadd, 1) := by decide +kernel
theorem d_W_law_1317 : decode code 1317 = .ok (.iaload, 1) := by decide +kernel
theorem d_W_law_1318 : decode code 1318 = .ok (.invokevirtual 263, 3) := by decide +kernel
theorem d_W_law_1321 : decode code 1321 = .ok (.istore 6, 2) := by decide +kernel
theorem d_W_law_1323 : decode code 1323 = .ok (.goto (702), 3) := by decide +kernel
theorem d_W_law_1326 : decode code 1326 = .ok (.aload_n 1, 1) := by decide +kernel
theorem d_W_law_1327 : decode code 1327 = .ok (.aload_n 0, 1) := by decide +kernel
theorem d_W_law_1328 : decode code 1328 = .ok (.iload 4, 2) := by decide +kernel
theorem d_W_law_1330 : decode code 1330 = .ok (.iconst 1, 1) := by decide +kernel
theorem d_W_law_1331 : decode code 1331 = .ok (.iadd, 1) := by decide +kernel
theorem d_W_law_1332 : decode code 1332 = .ok (.iaload, 1) := by decide +kernel
theorem d_W_law_1333 : decode code 1333 = .ok (.aload_n 0, 1) := by decide +kernel
theorem d_W_law_1334 : decode code 1334 = .ok (.iload 4, 2) := by decide +kernel
theorem d_W_law_1336 : decode code 1336 = .ok (.iconst 2, 1) := by decide +kernel
theorem d_W_law_1337 : decode code 1337 = .ok (.iadd, 1) := by decide +kernel
theorem d_W_law_1338 : decode code 1338 = .ok (.iaload, 1) := by decide +kernel
theorem d_W_law_1339 : decode code 1339 = .ok (.aload_n 3, 1) := by decide +kernel
theorem d_W_law_1340 : decode code 1340 = .ok (.invokestatic 264, 3) := by decide +kernel
theorem d_W_law_1343 : decode code 1343 = .ok (.istore 5, 2) := by decide +kernel
theorem d_W_law_1345 : decode code 1345 = .ok (.aload_n 2, 1) := by decide +kernel
theorem d_W_law_1346 : decode code 1346 = .ok (.aload_n 0, 1) := by decide +kernel
theorem d_W_law_1347 : decode code 1347 = .ok (.iload 4, 2) := by decide +kernel
theorem d_W_law_1349 : decode code 1349 = .ok (.iconst 1, 1) := by decide +kernel
theorem d_W_law_1350 : decode code 1350 = .ok (.iadd, 1) := by decide +kernel
theorem d_W_law_1351 : decode code 1351 = .ok (.iaload, 1) := by decide +kernel
theorem d_W_law_1352 : decode code 1352 = .ok (.aload_n 0, 1) := by decide +kernel
theorem d_W_law_1353 : decode code 1353 = .ok (.iload 4, 2) := by decide +kernel
theorem d_W_law_1355 : decode code 1355 = .ok (.iconst 2, 1) := by decide +kernel
theorem d_W_law_1356 : decode code 1356 = .ok (.iadd, 1) := by decide +kernel
theorem d_W_law_1357 : decode code 1357 = .ok (.iaload, 1) := by decide +kernel
theorem d_W_law_1358 : decode code 1358 = .ok (.invokevirtual 266, 3) := by decide +kernel
theorem d_W_law_1361 : decode code 1361 = .ok (.istore 6, 2) := by decide +kernel
theorem d_W_law_1363 : decode code 1363 = .ok (.goto (662), 3) := by decide +kernel
theorem d_W_law_1366 : decode code 1366 = .ok (.aload_n 1, 1) := by decide +kernel
theorem d_W_law_1367 : decode code 1367 = .ok (.aload_n 0, 1) := by decide +kernel
theorem d_W_law_1368 : decode code 1368 = .ok (.iload 4, 2) := by decide +kernel
theorem d_W_law_1370 : decode code 1370 = .ok (.iconst 1, 1) := by decide +kernel
theorem d_W_law_1371 : decode code 1371 = .ok (.iadd, 1) := by decide +kernel
theorem d_W_law_1372 : decode code 1372 = .ok (.iaload, 1) := by decide +kernel
theorem d_W_law_1373 : decode code 1373 = .ok (.aload_n 3, 1) := by decide +kernel
theorem d_W_law_1374 : decode code 1374 = .ok (.invokestatic 267, 3) := by decide +kernel
theorem d_W_law_1377 : decode code 1377 = .ok (.istore 5, 2) := by decide +kernel
theorem d_W_law_1379 : decode code 1379 = .ok (.aload_n 2, 1) := by decide +kernel
theorem d_W_law_1380 : decode code 1380 = .ok (.aload_n 0, 1) := by decide +kernel
theorem d_W_law_1381 : decode code 1381 = .ok (.iload 4, 2) := by decide +kernel
theorem d_W_law_1383 : decode code 1383 = .ok (.iconst 1, 1) := by decide +kernel
theorem d_W_law_1384 : decode code 1384 = .ok (.iadd, 1) := by decide +kernel
theorem d_W_law_1385 : decode code 1385 = .ok (.iaload, 1) := by decide +kernel
theorem d_W_law_1386 : decode code 1386 = .ok (.invokevirtual 269, 3) := by decide +kernel
theorem d_W_law_1389 : decode code 1389 = .ok (.istore 6, 2) := by decide +kernel
theorem d_W_law_1391 : decode code 1391 = .ok (.goto (634), 3) := by decide +kernel
theorem d_W_law_1394 : decode code 1394 = .ok (.aload_n 1, 1) := by decide +kernel
theorem d_W_law_1395 : decode code 1395 = .ok (.aload_n 0, 1) := by decide +kernel
theorem d_W_law_1396 : decode code 1396 = .ok (.iload 4, 2) := by decide +kernel
theorem d_W_law_1398 : decode code 1398 = .ok (.iconst 1, 1) := by decide +kernel
theorem d_W_law_1399 : decode code 1399 = .ok (.iadd, 1) := by decide +kernel
theorem d_W_law_1400 : decode code 1400 = .ok (.iaload, 1) := by decide +kernel
theorem d_W_law_1401 : decode code 1401 = .ok (.aload_n 3, 1) := by decide +kernel
theorem d_W_law_1402 : decode code 1402 = .ok (.invokestatic 270, 3) := by decide +kernel
theorem d_W_law_1405 : decode code 1405 = .ok (.istore 5, 2) := by decide +kernel
theorem d_W_law_1407 : decode code 1407 = .ok (.aload_n 2, 1) := by decide +kernel
theorem d_W_law_1408 : decode code 1408 = .ok (.aload_n 0, 1) := by decide +kernel
theorem d_W_law_1409 : decode code 1409 = .ok (.iload 4, 2) := by decide +kernel
theorem d_W_law_1411 : decode code 1411 = .ok (.iconst 1, 1) := by decide +kernel
theorem d_W_law_1412 : decode code 1412 = .ok (.iadd, 1) := by decide +kernel
theorem d_W_law_1413 : decode code 1413 = .ok (.iaload, 1) := by decide +kernel
theorem d_W_law_1414 : decode code 1414 = .ok (.invokevirtual 272, 3) := by decide +kernel
theorem d_W_law_1417 : decode code 1417 = .ok (.istore 6, 2) := by decide +kernel
theorem d_W_law_1419 : decode code 1419 = .ok (.goto (606), 3) := by decide +kernel
theorem d_W_law_1422 : decode code 1422 = .ok (.aload_n 1, 1) := by decide +kernel
theorem d_W_law_1423 : decode code 1423 = .ok (.aload_n 0, 1) := by decide +kernel
theorem d_W_law_1424 : decode code 1424 = .ok (.iload 4, 2) := by decide +kernel
theorem d_W_law_1426 : decode code 1426 = .ok (.iconst 1, 1) := by decide +kernel
theorem d_W_law_1427 : decode code 1427 = .ok (.iadd, 1) := by decide +kernel
theorem d_W_law_1428 : decode code 1428 = .ok (.iaload, 1) := by decide +kernel
theorem d_W_law_1429 : decode code 1429 = .ok (.aload_n 0, 1) := by decide +kernel
theorem d_W_law_1430 : decode code 1430 = .ok (.iload 4, 2) := by decide +kernel
theorem d_W_law_1432 : decode code 1432 = .ok (.iconst 2, 1) := by decide +kernel
theorem d_W_law_1433 : decode code 1433 = .ok (.iadd, 1) := by decide +kernel
theorem d_W_law_1434 : decode code 1434 = .ok (.iaload, 1) := by decide +kernel
theorem d_W_law_1435 : decode code 1435 = .ok (.aload_n 0, 1) := by decide +kernel
theorem d_W_law_1436 : decode code 1436 = .ok (.iload 4, 2) := by decide +kernel
theorem d_W_law_1438 : decode code 1438 = .ok (.iconst 3, 1) := by decide +kernel
theorem d_W_law_1439 : decode code 1439 = .ok (.iadd, 1) := by decide +kernel
theorem d_W_law_1440 : decode code 1440 = .ok (.iaload, 1) := by decide +kernel
theorem d_W_law_1441 : decode code 1441 = .ok (.aload_n 3, 1) := by decide +kernel
theorem d_W_law_1442 : decode code 1442 = .ok (.invokestatic 273, 3) := by decide +kernel
theorem d_W_law_1445 : decode code 1445 = .ok (.istore 5, 2) := by decide +kernel
theorem d_W_law_1447 : decode code 1447 = .ok (.aload_n 2, 1) := by decide +kernel
theorem d_W_law_1448 : decode code 1448 = .ok (.aload_n 0, 1) := by decide +kernel
theorem d_W_law_1449 : decode code 1449 = .ok (.iload 4, 2) := by decide +kernel
theorem d_W_law_1451 : decode code 1451 = .ok (.iconst 1, 1) := by decide +kernel
theorem d_W_law_1452 : decode code 1452 = .ok (.iadd, 1) := by decide +kernel
theorem d_W_law_1453 : decode code 1453 = .ok (.iaload, 1) := by decide +kernel
theorem d_W_law_1454 : decode code 1454 = .ok (.aload_n 0, 1) := by decide +kernel
theorem d_W_law_1455 : decode code 1455 = .ok (.iload 4, 2) := by decide +kernel
theorem d_W_law_1457 : decode code 1457 = .ok (.iconst 2, 1) := by decide +kernel
theorem d_W_law_1458 : decode code 1458 = .ok (.iadd, 1) := by decide +kernel
theorem d_W_law_1459 : decode code 1459 = .ok (.iaload, 1) := by decide +kernel
theorem d_W_law_1460 : decode code 1460 = .ok (.aload_n 0, 1) := by decide +kernel
theorem d_W_law_1461 : decode code 1461 = .ok (.iload 4, 2) := by decide +kernel
theorem d_W_law_1463 : decode code 1463 = .ok (.iconst 3, 1) := by decide +kernel
theorem d_W_law_1464 : decode code 1464 = .ok (.iadd, 1) := by decide +kernel
theorem d_W_law_1465 : decode code 1465 = .ok (.iaload, 1) := by decide +kernel
theorem d_W_law_1466 : decode code 1466 = .ok (.invokevirtual 275, 3) := by decide +kernel
theorem d_W_law_1469 : decode code 1469 = .ok (.istore 6, 2) := by decide +kernel
theorem d_W_law_1471 : decode code 1471 = .ok (.goto (554), 3) := by decide +kernel
theorem d_W_law_1474 : decode code 1474 = .ok (.aload_n 1, 1) := by decide +kernel
theorem d_W_law_1475 : decode code 1475 = .ok (.aload_n 0, 1) := by decide +kernel
theorem d_W_law_1476 : decode code 1476 = .ok (.iload 4, 2) := by decide +kernel
theorem d_W_law_1478 : decode code 1478 = .ok (.iconst 1, 1) := by decide +kernel
theorem d_W_law_1479 : decode code 1479 = .ok (.iadd, 1) := by decide +kernel
theorem d_W_law_1480 : decode code 1480 = .ok (.iaload, 1) := by decide +kernel
theorem d_W_law_1481 : decode code 1481 = .ok (.aload_n 3, 1) := by decide +kernel
theorem d_W_law_1482 : decode code 1482 = .ok (.invokestatic 276, 3) := by decide +kernel
theorem d_W_law_1485 : decode code 1485 = .ok (.istore 5, 2) := by decide +kernel
theorem d_W_law_1487 : decode code 1487 = .ok (.aload_n 2, 1) := by decide +kernel
theorem d_W_law_1488 : decode code 1488 = .ok (.aload_n 0, 1) := by decide +kernel
theorem d_W_law_1489 : decode code 1489 = .ok (.iload 4, 2) := by decide +kernel
theorem d_W_law_1491 : decode code 1491 = .ok (.iconst 1, 1) := by decide +kernel
theorem d_W_law_1492 : decode code 1492 = .ok (.iadd, 1) := by decide +kernel
theorem d_W_law_1493 : decode code 1493 = .ok (.iaload, 1) := by decide +kernel
theorem d_W_law_1494 : decode code 1494 = .ok (.invokevirtual 278, 3) := by decide +kernel
theorem d_W_law_1497 : decode code 1497 = .ok (.istore 6, 2) := by decide +kernel
theorem d_W_law_1499 : decode code 1499 = .ok (.goto (526), 3) := by decide +kernel
theorem d_W_law_1502 : decode code 1502 = .ok (.aload_n 1, 1) := by decide +kernel
theorem d_W_law_1503 : decode code 1503 = .ok (.aload_n 3, 1) := by decide +kernel
theorem d_W_law_1504 : decode code 1504 = .ok (.invokestatic 279, 3) := by decide +kernel
theorem d_W_law_1507 : decode code 1507 = .ok (.istore 5, 2) := by decide +kernel
theorem d_W_law_1509 : decode code 1509 = .ok (.aload_n 2, 1) := by decide +kernel
theorem d_W_law_1510 : decode code 1510 = .ok (.invokevirtual 281, 3) := by decide +kernel
theorem d_W_law_1513 : decode code 1513 = .ok (.istore 6, 2) := by decide +kernel
theorem d_W_law_1515 : decode code 1515 = .ok (.goto (510), 3) := by decide +kernel
theorem d_W_law_1518 : decode code 1518 = .ok (.aload_n 1, 1) := by decide +kernel
theorem d_W_law_1519 : decode code 1519 = .ok (.aload_n 3, 1) := by decide +kernel
theorem d_W_law_1520 : decode code 1520 = .ok (.invokestatic 282, 3) := by decide +kernel
theorem d_W_law_1523 : decode code 1523 = .ok (.istore 5, 2) := by decide +kernel
theorem d_W_law_1525 : decode code 1525 = .ok (.aload_n 2, 1) := by decide +kernel
theorem d_W_law_1526 : decode code 1526 = .ok (.invokevirtual 284, 3) := by decide +kernel
theorem d_W_law_1529 : decode code 1529 = .ok (.istore 6, 2) := by decide +kernel
theorem d_W_law_1531 : decode code 1531 = .ok (.goto (494), 3) := by decide +kernel
theorem d_W_law_1534 : decode code 1534 = .ok (.aload_n 1, 1) := by decide +kernel
theorem d_W_law_1535 : decode code 1535 = .ok (.invokevirtual 285, 3) := by decide +kernel
theorem d_W_law_1538 : decode code 1538 = .ok (.pop, 1) := by decide +kernel
theorem d_W_law_1539 : decode code 1539 = .ok (.aload_n 2, 1) := by decide +kernel
theorem d_W_law_1540 : decode code 1540 = .ok (.invokevirtual 288, 3) := by decide +kernel
theorem d_W_law_1543 : decode code 1543 = .ok (.pop, 1) := by decide +kernel
theorem d_W_law_1544 : decode code 1544 = .ok (.goto (481), 3) := by decide +kernel
theorem d_W_law_1547 : decode code 1547 = .ok (.aload_n 1, 1) := by decide +kernel
theorem d_W_law_1548 : decode code 1548 = .ok (.aload_n 0, 1) := by decide +kernel
theorem d_W_law_1549 : decode code 1549 = .ok (.iload 4, 2) := by decide +kernel
theorem d_W_law_1551 : decode code 1551 = .ok (.iconst 1, 1) := by decide +kernel
theorem d_W_law_1552 : decode code 1552 = .ok (.iadd, 1) := by decide +kernel
theorem d_W_law_1553 : decode code 1553 = .ok (.iaload, 1) := by decide +kernel
theorem d_W_law_1554 : decode code 1554 = .ok (.aload_n 3, 1) := by decide +kernel
theorem d_W_law_1555 : decode code 1555 = .ok (.invokestatic 289, 3) := by decide +kernel
theorem d_W_law_1558 : decode code 1558 = .ok (.istore 5, 2) := by decide +kernel
theorem d_W_law_1560 : decode code 1560 = .ok (.aload_n 2, 1) := by decide +kernel
theorem d_W_law_1561 : decode code 1561 = .ok (.aload_n 0, 1) := by decide +kernel
theorem d_W_law_1562 : decode code 1562 = .ok (.iload 4, 2) := by decide +kernel
theorem d_W_law_1564 : decode code 1564 = .ok (.iconst 1, 1) := by decide +kernel
theorem d_W_law_1565 : decode code 1565 = .ok (.iadd, 1) := by decide +kernel
theorem d_W_law_1566 : decode code 1566 = .ok (.iaload, 1) := by decide +kernel
theorem d_W_law_1567 : decode code 1567 = .ok (.invokevirtual 291, 3) := by decide +kernel
theorem d_W_law_1570 : decode code 1570 = .ok (.istore 6, 2) := by decide +kernel
theorem d_W_law_1572 : decode code 1572 = .ok (.goto (453), 3) := by decide +kernel
theorem d_W_law_1575 : decode code 1575 = .ok (.aload_n 1, 1) := by decide +kernel
theorem d_W_law_1576 : decode code 1576 = .ok (.aload_n 0, 1) := by decide +kernel
theorem d_W_law_1577 : decode code 1577 = .ok (.iload 4, 2) := by decide +kernel
theorem d_W_law_1579 : decode code 1579 = .ok (.iconst 1, 1) := by decide +kernel
theorem d_W_law_1580 : decode code 1580 = .ok (.iadd, 1) := by decide +kernel
theorem d_W_law_1581 : decode code 1581 = .ok (.iaload, 1) := by decide +kernel
theorem d_W_law_1582 : decode code 1582 = .ok (.aload_n 3, 1) := by decide +kernel
theorem d_W_law_1583 : decode code 1583 = .ok (.invokestatic 292, 3) := by decide +kernel
theorem d_W_law_1586 : decode code 1586 = .ok (.istore 5, 2) := by decide +kernel
theorem d_W_law_1588 : decode code 1588 = .ok (.aload_n 2, 1) := by decide +kernel
theorem d_W_law_1589 : decode code 1589 = .ok (.aload_n 0, 1) := by decide +kernel
theorem d_W_law_1590 : decode code 1590 = .ok (.iload 4, 2) := by decide +kernel
theorem d_W_law_1592 : decode code 1592 = .ok (.iconst 1, 1) := by decide +kernel
theorem d_W_law_1593 : decode code 1593 = .ok (.iadd, 1) := by decide +kernel
theorem d_W_law_1594 : decode code 1594 = .ok (.iaload, 1) := by decide +kernel
theorem d_W_law_1595 : decode code 1595 = .ok (.invokevirtual 294, 3) := by decide +kernel
theorem d_W_law_1598 : decode code 1598 = .ok (.istore 6, 2) := by decide +kernel
theorem d_W_law_1600 : decode code 1600 = .ok (.goto (425), 3) := by decide +kernel
theorem d_W_law_1603 : decode code 1603 = .ok (.aload_n 1, 1) := by decide +kernel
theorem d_W_law_1604 : decode code 1604 = .ok (.aload_n 0, 1) := by decide +kernel
theorem d_W_law_1605 : decode code 1605 = .ok (.iload 4, 2) := by decide +kernel
theorem d_W_law_1607 : decode code 1607 = .ok (.iconst 1, 1) := by decide +kernel
theorem d_W_law_1608 : decode code 1608 = .ok (.iadd, 1) := by decide +kernel
theorem d_W_law_1609 : decode code 1609 = .ok (.iaload, 1) := by decide +kernel
theorem d_W_law_1610 : decode code 1610 = .ok (.aload_n 0, 1) := by decide +kernel
theorem d_W_law_1611 : decode code 1611 = .ok (.iload 4, 2) := by decide +kernel
theorem d_W_law_1613 : decode code 1613 = .ok (.iconst 2, 1) := by decide +kernel
theorem d_W_law_1614 : decode code 1614 = .ok (.iadd, 1) := by decide +kernel
theorem d_W_law_1615 : decode code 1615 = .ok (.iaload, 1) := by decide +kernel
theorem d_W_law_1616 : decode code 1616 = .ok (.aload_n 0, 1) := by decide +kernel
theorem d_W_law_1617 : decode code 1617 = .ok (.iload 4, 2) := by decide +kernel
theorem d_W_law_1619 : decode code 1619 = .ok (.iconst 3, 1) := by decide +kernel
theorem d_W_law_1620 : decode code 1620 = .ok (.iadd, 1) := by decide +kernel
theorem d_W_law_1621 : decode code 1621 = .ok (.iaload, 1) := by decide +kernel
theorem d_W_law_1622 : decode code 1622 = .ok (.aload_n 3, 1) := by decide +kernel
theorem d_W_law_1623 : decode code 1623 = .ok (.invokestatic 295, 3) := by decide +kernel
theorem d_W_law_1626 : decode code 1626 = .ok (.istore 5, 2) := by decide +kernel
theorem d_W_law_1628 : decode code 1628 = .ok (.aload_n 2, 1) := by decide +kernel
theorem d_W_law_1629 : decode code 1629 = .ok (.aload_n 0, 1) := by decide +kernel
theorem d_W_law_1630 : decode code 1630 = .ok (.iload 4, 2) := by decide +kernel
theorem d_W_law_1632 : decode code 1632 = .ok (.iconst 1, 1) := by decide +kernel
theorem d_W_law_1633 : decode code 1633 = .ok (.iadd, 1) := by decide +kernel
theorem d_W_law_1634 : decode code 1634 = .ok (.iaload, 1) := by decide +kernel
theorem d_W_law_1635 : decode code 1635 = .ok (.aload_n 0, 1) := by decide +kernel
theorem d_W_law_1636 : decode code 1636 = .ok (.iload 4, 2) := by decide +kernel
theorem d_W_law_1638 : decode code 1638 = .ok (.iconst 2, 1) := by decide +kernel
theorem d_W_law_1639 : decode code 1639 = .ok (.iadd, 1) := by decide +kernel
theorem d_W_law_1640 : decode code 1640 = .ok (.iaload, 1) := by decide +kernel
theorem d_W_law_1641 : decode code 1641 = .ok (.aload_n 0, 1) := by decide +kernel
theorem d_W_law_1642 : decode code 1642 = .ok (.iload 4, 2) := by decide +kernel
theorem d_W_law_1644 : decode code 1644 = .ok (.iconst 3, 1) := by decide +kernel
theorem d_W_law_1645 : decode code 1645 = .ok (.iadd, 1) := by decide +kernel
theorem d_W_law_1646 : decode code 1646 = .ok (.iaload, 1) := by decide +kernel
theorem d_W_law_1647 : decode code 1647 = .ok (.invokevirtual 297, 3) := by decide +kernel
theorem d_W_law_1650 : decode code 1650 = .ok (.istore 6, 2) := by decide +kernel
theorem d_W_law_1652 : decode code 1652 = .ok (.goto (373), 3) := by decide +kernel
theorem d_W_law_1655 : decode code 1655 = .ok (.aload_n 1, 1) := by decide +kernel
theorem d_W_law_1656 : decode code 1656 = .ok (.aload_n 0, 1) := by decide +kernel
theorem d_W_law_1657 : decode code 1657 = .ok (.iload 4, 2) := by decide +kernel
theorem d_W_law_1659 : decode code 1659 = .ok (.iconst 1, 1) := by decide +kernel
theorem d_W_law_1660 : decode code 1660 = .ok (.iadd, 1) := by decide +kernel
theorem d_W_law_1661 : decode code 1661 = .ok (.iaload, 1) := by decide +kernel
theorem d_W_law_1662 : decode code 1662 = .ok (.aload_n 3, 1) := by decide +kernel
theorem d_W_law_1663 : decode code 1663 = .ok (.invokestatic 298, 3) := by decide +kernel
theorem d_W_law_1666 : decode code 1666 = .ok (.istore 5, 2) := by decide +kernel
theorem d_W_law_1668 : decode code 1668 = .ok (.aload_n 2, 1) := by decide +kernel
theorem d_W_law_1669 : decode code 1669 = .ok (.aload_n 0, 1) := by decide +kernel
theorem d_W_law_1670 : decode code 1670 = .ok (.iload 4, 2) := by decide +kernel
theorem d_W_law_1672 : decode code 1672 = .ok (.iconst 1, 1) := by decide +kernel
theorem d_W_law_1673 : decode code 1673 = .ok (.iadd, 1) := by decide +kernel
theorem d_W_law_1674 : decode code 1674 = .ok (.iaload, 1) := by decide +kernel
theorem d_W_law_1675 : decode code 1675 = .ok (.invokevirtual 300, 3) := by decide +kernel
theorem d_W_law_1678 : decode code 1678 = .ok (.istore 6, 2) := by decide +kernel
theorem d_W_law_1680 : decode code 1680 = .ok (.goto (345), 3) := by decide +kernel
theorem d_W_law_1683 : decode code 1683 = .ok (.aload_n 1, 1) := by decide +kernel
theorem d_W_law_1684 : decode code 1684 = .ok (.aload_n 0, 1) := by decide +kernel
theorem d_W_law_1685 : decode code 1685 = .ok (.iload 4, 2) := by decide +kernel
theorem d_W_law_1687 : decode code 1687 = .ok (.iconst 1, 1) := by decide +kernel
theorem d_W_law_1688 : decode code 1688 = .ok (.iadd, 1) := by decide +kernel
theorem d_W_law_1689 : decode code 1689 = .ok (.iaload, 1) := by decide +kernel
theorem d_W_law_1690 : decode code 1690 = .ok (.aload_n 3, 1) := by decide +kernel
theorem d_W_law_1691 : decode code 1691 = .ok (.invokestatic 301, 3) := by decide +kernel
theorem d_W_law_1694 : decode code 1694 = .ok (.istore 5, 2) := by decide +kernel
theorem d_W_law_1696 : decode code 1696 = .ok (.aload_n 2, 1) := by decide +kernel
theorem d_W_law_1697 : decode code 1697 = .ok (.aload_n 0, 1) := by decide +kernel
theorem d_W_law_1698 : decode code 1698 = .ok (.iload 4, 2) := by decide +kernel
theorem d_W_law_1700 : decode code 1700 = .ok (.iconst 1, 1) := by decide +kernel
theorem d_W_law_1701 : decode code 1701 = .ok (.iadd, 1) := by decide +kernel
theorem d_W_law_1702 : decode code 1702 = .ok (.iaload, 1) := by decide +kernel
theorem d_W_law_1703 : decode code 1703 = .ok (.invokevirtual 303, 3) := by decide +kernel
theorem d_W_law_1706 : decode code 1706 = .ok (.istore 6, 2) := by decide +kernel
theorem d_W_law_1708 : decode code 1708 = .ok (.goto (317), 3) := by decide +kernel
theorem d_W_law_1711 : decode code 1711 = .ok (.aload_n 1, 1) := by decide +kernel
theorem d_W_law_1712 : decode code 1712 = .ok (.aload_n 0, 1) := by decide +kernel
theorem d_W_law_1713 : decode code 1713 = .ok (.iload 4, 2) := by decide +kernel
theorem d_W_law_1715 : decode code 1715 = .ok (.iconst 1, 1) := by decide +kernel
theorem d_W_law_1716 : decode code 1716 = .ok (.iadd, 1) := by decide +kernel
theorem d_W_law_1717 : decode code 1717 = .ok (.iaload, 1) := by decide +kernel
theorem d_W_law_1718 : decode code 1718 = .ok (.aload_n 0, 1) := by decide +kernel
theorem d_W_law_1719 : decode code 1719 = .ok (.iload 4, 2) := by decide +kernel
theorem d_W_law_1721 : decode code 1721 = .ok (.iconst 2, 1) := by decide +kernel
theorem d_W_law_1722 : decode code 1722 = .ok (.iadd, 1) := by decide +kernel
theorem d_W_law_1723 : decode code 1723 = .ok (.iaload, 1) := by decide +kernel
theorem d_W_law_1724 : decode code 1724 = .ok (.aload_n 3, 1) := by decide +kernel
theorem d_W_law_1725 : decode code 1725 = .ok (.invokestatic 304, 3) := by decide +kernel
theorem d_W_law_1728 : decode code 1728 = .ok (.istore 5, 2) := by decide +kernel
theorem d_W_law_1730 : decode code 1730 = .ok (.aload_n 2, 1) := by decide +kernel
theorem d_W_law_1731 : decode code 1731 = .ok (.aload_n 0, 1) := by decide +kernel
theorem d_W_law_1732 : decode code 1732 = .ok (.iload 4, 2) := by decide +kernel
theorem d_W_law_1734 : decode code 1734 = .ok (.iconst 1, 1) := by decide +kernel
theorem d_W_law_1735 : decode code 1735 = .ok (.iadd, 1) := by decide +kernel
theorem d_W_law_1736 : decode code 1736 = .ok (.iaload, 1) := by decide +kernel
theorem d_W_law_1737 : decode code 1737 = .ok (.aload_n 0, 1) := by decide +kernel
theorem d_W_law_1738 : decode code 1738 = .ok (.iload 4, 2) := by decide +kernel
theorem d_W_law_1740 : decode code 1740 = .ok (.iconst 2, 1) := by decide +kernel
theorem d_W_law_1741 : decode code 1741 = .ok (.iadd, 1) := by decide +kernel
theorem d_W_law_1742 : decode code 1742 = .ok (.iaload, 1) := by decide +kernel
theorem d_W_law_1743 : decode code 1743 = .ok (.invokevirtual 306, 3) := by decide +kernel
theorem d_W_law_1746 : decode code 1746 = .ok (.istore 6, 2) := by decide +kernel
theorem d_W_law_1748 : decode code 1748 = .ok (.goto (277), 3) := by decide +kernel
theorem d_W_law_1751 : decode code 1751 = .ok (.aload_n 1, 1) := by decide +kernel
theorem d_W_law_1752 : decode code 1752 = .ok (.aload_n 0, 1) := by decide +kernel
theorem d_W_law_1753 : decode code 1753 = .ok (.iload 4, 2) := by decide +kernel
theorem d_W_law_1755 : decode code 1755 = .ok (.iconst 1, 1) := by decide +kernel
theorem d_W_law_1756 : decode code 1756 = .ok (.iadd, 1) := by decide +kernel
theorem d_W_law_1757 : decode code 1757 = .ok (.iaload, 1) := by decide +kernel
theorem d_W_law_1758 : decode code 1758 = .ok (.aload_n 0, 1) := by decide +kernel
theorem d_W_law_1759 : decode code 1759 = .ok (.iload 4, 2) := by decide +kernel
theorem d_W_law_1761 : decode code 1761 = .ok (.iconst 2, 1) := by decide +kernel
theorem d_W_law_1762 : decode code 1762 = .ok (.iadd, 1) := by decide +kernel
theorem d_W_law_1763 : decode code 1763 = .ok (.iaload, 1) := by decide +kernel
theorem d_W_law_1764 : decode code 1764 = .ok (.aload_n 3, 1) := by decide +kernel
theorem d_W_law_1765 : decode code 1765 = .ok (.invokestatic 307, 3) := by decide +kernel
theorem d_W_law_1768 : decode code 1768 = .ok (.istore 5, 2) := by decide +kernel
theorem d_W_law_1770 : decode code 1770 = .ok (.aload_n 2, 1) := by decide +kernel
theorem d_W_law_1771 : decode code 1771 = .ok (.aload_n 0, 1) := by decide +kernel
theorem d_W_law_1772 : decode code 1772 = .ok (.iload 4, 2) := by decide +kernel
theorem d_W_law_1774 : decode code 1774 = .ok (.iconst 1, 1) := by decide +kernel
theorem d_W_law_1775 : decode code 1775 = .ok (.iadd, 1) := by decide +kernel
theorem d_W_law_1776 : decode code 1776 = .ok (.iaload, 1) := by decide +kernel
theorem d_W_law_1777 : decode code 1777 = .ok (.aload_n 0, 1) := by decide +kernel
theorem d_W_law_1778 : decode code 1778 = .ok (.iload 4, 2) := by decide +kernel
theorem d_W_law_1780 : decode code 1780 = .ok (.iconst 2, 1) := by decide +kernel
theorem d_W_law_1781 : decode code 1781 = .ok (.iadd, 1) := by decide +kernel
theorem d_W_law_1782 : decode code 1782 = .ok (.iaload, 1) := by decide +kernel
theorem d_W_law_1783 : decode code 1783 = .ok (.invokevirtual 309, 3) := by decide +kernel
theorem d_W_law_1786 : decode code 1786 = .ok (.istore 6, 2) := by decide +kernel
theorem d_W_law_1788 : decode code 1788 = .ok (.goto (237), 3) := by decide +kernel
theorem d_W_law_1791 : decode code 1791 = .ok (.aload_n 1, 1) := by decide +kernel
theorem d_W_law_1792 : decode code 1792 = .ok (.aload_n 0, 1) := by decide +kernel
theorem d_W_law_1793 : decode code 1793 = .ok (.iload 4, 2) := by decide +kernel
theorem d_W_law_1795 : decode code 1795 = .ok (.iconst 1, 1) := by decide +kernel
theorem d_W_law_1796 : decode code 1796 = .ok (.iadd, 1) := by decide +kernel
theorem d_W_law_1797 : decode code 1797 = .ok (.iaload, 1) := by decide +kernel
theorem d_W_law_1798 : decode code 1798 = .ok (.aload_n 3, 1) := by decide +kernel
theorem d_W_law_1799 : decode code 1799 = .ok (.invokestatic 310, 3) := by decide +kernel
theorem d_W_law_1802 : decode code 1802 = .ok (.istore 5, 2) := by decide +kernel
theorem d_W_law_1804 : decode code 1804 = .ok (.aload_n 2, 1) := by decide +kernel
theorem d_W_law_1805 : decode code 1805 = .ok (.aload_n 0, 1) := by decide +kernel
theorem d_W_law_1806 : decode code 1806 = .ok (.iload 4, 2) := by decide +kernel
theorem d_W_law_1808 : decode code 1808 = .ok (.iconst 1, 1) := by decide +kernel
theorem d_W_law_1809 : decode code 1809 = .ok (.iadd, 1) := by decide +kernel
theorem d_W_law_1810 : decode code 1810 = .ok (.iaload, 1) := by decide +kernel
theorem d_W_law_1811 : decode code 1811 = .ok (.invokevirtual 312, 3) := by decide +kernel
theorem d_W_law_1814 : decode code 1814 = .ok (.istore 6, 2) := by decide +kernel
theorem d_W_law_1816 : decode code 1816 = .ok (.goto (209), 3) := by decide +kernel
theorem d_W_law_1819 : decode code 1819 = .ok (.aload_n 1, 1) := by decide +kernel
theorem d_W_law_1820 : decode code 1820 = .ok (.aload_n 0, 1) := by decide +kernel
theorem d_W_law_1821 : decode code 1821 = .ok (.iload 4, 2) := by decide +kernel
theorem d_W_law_1823 : decode code 1823 = .ok (.iconst 1, 1) := by decide +kernel
theorem d_W_law_1824 : decode code 1824 = .ok (.iadd, 1) := by decide +kernel
theorem d_W_law_1825 : decode code 1825 = .ok (.iaload, 1) := by decide +kernel
theorem d_W_law_1826 : decode code 1826 = .ok (.aload_n 0, 1) := by decide +kernel
theorem d_W_law_1827 : decode code 1827 = .ok (.iload 4, 2) := by decide +kernel
theorem d_W_law_1829 : decode code 1829 = .ok (.iconst 2, 1) := by decide +kernel
theorem d_W_law_1830 : decode code 1830 = .ok (.iadd, 1) := by decide +kernel
theorem d_W_law_1831 : decode code 1831 = .ok (.iaload, 1) := by decide +kernel
theorem d_W_law_1832 : decode code 1832 = .ok (.aload_n 3, 1) := by decide +kernel
theorem d_W_law_1833 : decode code 1833 = .ok (.invokestatic 313, 3) := by decide +kernel
theorem d_W_law_1836 : decode code 1836 = .ok (.istore 5, 2) := by decide +kernel
theorem d_W_law_1838 : decode code 1838 = .ok (.aload_n 2, 1) := by decide +kernel
theorem d_W_law_1839 : decode code 1839 = .ok (.aload_n 0, 1) := by decide +kernel
theorem d_W_law_1840 : decode code 1840 = .ok (.iload 4, 2) := by decide +kernel
theorem d_W_law_1842 : decode code 1842 = .ok (.iconst 1, 1) := by decide +kernel
theorem d_W_law_1843 : decode code 1843 = .ok (.iadd, 1) := by decide +kernel
theorem d_W_law_1844 : decode code 1844 = .ok (.iaload, 1) := by decide +kernel
theorem d_W_law_1845 : decode code 1845 = .ok (.aload_n 0, 1) := by decide +kernel
theorem d_W_law_1846 : decode code 1846 = .ok (.iload 4, 2) := by decide +kernel
theorem d_W_law_1848 : decode code 1848 = .ok (.iconst 2, 1) := by decide +kernel
theorem d_W_law_1849 : decode code 1849 = .ok (.iadd, 1) := by decide +kernel
theorem d_W_law_1850 : decode code 1850 = .ok (.iaload, 1) := by decide +kernel
theorem d_W_law_1851 : decode code 1851 = .ok (.invokevirtual 315, 3) := by decide +kernel
theorem d_W_law_1854 : decode code 1854 = .ok (.istore 6, 2) := by decide +kernel
theorem d_W_law_1856 : decode code 1856 = .ok (.aload_n 2, 1) := by decide +kernel
theorem d_W_law_1857 : decode code 1857 = .ok (.invokevirtual 316, 3) := by decide +kernel
theorem d_W_law_1860 : decode code 1860 = .ok (.iload 5, 2) := by decide +kernel
theorem d_W_law_1862 : decode code 1862 = .ok (.if_icmp .eq (5), 3) := by decide +kernel
theorem d_W_law_1865 : decode code 1865 = .ok (.iconst 0, 1) := by decide +kernel
theorem d_W_law_1866 : decode code 1866 = .ok (.ireturn, 1) := by decide +kernel
theorem d_W_law_1867 : decode code 1867 = .ok (.iload 5, 2) := by decide +kernel
theorem d_W_law_1869 : decode code 1869 = .ok (.ifCond .ne (15), 3) := by decide +kernel
theorem d_W_law_1872 : decode code 1872 = .ok (.aload_n 3, 1) := by decide +kernel
theorem d_W_law_1873 : decode code 1873 = .ok (.iconst 0, 1) := by decide +kernel
theorem d_W_law_1874 : decode code 1874 = .ok (.laload, 1) := by decide +kernel
theorem d_W_law_1875 : decode code 1875 = .ok (.iload 6, 2) := by decide +kernel
theorem d_W_law_1877 : decode code 1877 = .ok (.i2l, 1) := by decide +kernel
theorem d_W_law_1878 : decode code 1878 = .ok (.lcmp, 1) := by decide +kernel
theorem d_W_law_1879 : decode code 1879 = .ok (.ifCond .eq (5), 3) := by decide +kernel
theorem d_W_law_1882 : decode code 1882 = .ok (.iconst 0, 1) := by decide +kernel
theorem d_W_law_1883 : decode code 1883 = .ok (.ireturn, 1) := by decide +kernel
theorem d_W_law_1884 : decode code 1884 = .ok (.goto (141), 3) := by decide +kernel
theorem d_W_law_1887 : decode code 1887 = .ok (.aload_n 1, 1) := by decide +kernel
theorem d_W_law_1888 : decode code 1888 = .ok (.aload_n 0, 1) := by decide +kernel
theorem d_W_law_1889 : decode code 1889 = .ok (.iload 4, 2) := by decide +kernel
theorem d_W_law_1891 : decode code 1891 = .ok (.iconst 1, 1) := by decide +kernel
theorem d_W_law_1892 : decode code 1892 = .ok (.iadd, 1) := by decide +kernel
theorem d_W_law_1893 : decode code 1893 = .ok (.iaload, 1) := by decide +kernel
theorem d_W_law_1894 : decode code 1894 = .ok (.aload_n 3, 1) := by decide +kernel
theorem d_W_law_1895 : decode code 1895 = .ok (.invokestatic 319, 3) := by decide +kernel
theorem d_W_law_1898 : decode code 1898 = .ok (.istore 5, 2) := by decide +kernel
theorem d_W_law_1900 : decode code 1900 = .ok (.aload_n 2, 1) := by decide +kernel
theorem d_W_law_1901 : decode code 1901 = .ok (.aload_n 0, 1) := by decide +kernel
theorem d_W_law_1902 : decode code 1902 = .ok (.iload 4, 2) := by decide +kernel
theorem d_W_law_1904 : decode code 1904 = .ok (.iconst 1, 1) := by decide +kernel
theorem d_W_law_1905 : decode code 1905 = .ok (.iadd, 1) := by decide +kernel
theorem d_W_law_1906 : decode code 1906 = .ok (.iaload, 1) := by decide +kernel
theorem d_W_law_1907 : decode code 1907 = .ok (.invokevirtual 321, 3) := by decide +kernel
theorem d_W_law_1910 : decode code 1910 = .ok (.istore 6, 2) := by decide +kernel
theorem d_W_law_1912 : decode code 1912 = .ok (.goto (113), 3) := by decide +kernel
theorem d_W_law_1915 : decode code 1915 = .ok (.aload_n 1, 1) := by decide +kernel
theorem d_W_law_1916 : decode code 1916 = .ok (.aload_n 0, 1) := by decide +kernel
theorem d_W_law_1917 : decode code 1917 = .ok (.iload 4, 2) := by decide +kernel
theorem d_W_law_1919 : decode code 1919 = .ok (.iconst 1, 1) := by decide +kernel
theorem d_W_law_1920 : decode code 1920 = .ok (.iadd, 1) := by decide +kernel
theorem d_W_law_1921 : decode code 1921 = .ok (.iaload, 1) := by decide +kernel
theorem d_W_law_1922 : decode code 1922 = .ok (.aload_n 3, 1) := by decide +kernel
theorem d_W_law_1923 : decode code 1923 = .ok (.invokestatic 322, 3) := by decide +kernel
theorem d_W_law_1926 : decode code 1926 = .ok (.istore 5, 2) := by decide +kernel
theorem d_W_law_1928 : decode code 1928 = .ok (.aload_n 2, 1) := by decide +kernel
theorem d_W_law_1929 : decode code 1929 = .ok (.aload_n 0, 1) := by decide +kernel
theorem d_W_law_1930 : decode code 1930 = .ok (.iload 4, 2) := by decide +kernel
theorem d_W_law_1932 : decode code 1932 = .ok (.iconst 1, 1) := by decide +kernel
theorem d_W_law_1933 : decode code 1933 = .ok (.iadd, 1) := by decide +kernel
theorem d_W_law_1934 : decode code 1934 = .ok (.iaload, 1) := by decide +kernel
theorem d_W_law_1935 : decode code 1935 = .ok (.invokevirtual 324, 3) := by decide +kernel
theorem d_W_law_1938 : decode code 1938 = .ok (.istore 6, 2) := by decide +kernel
theorem d_W_law_1940 : decode code 1940 = .ok (.goto (85), 3) := by decide +kernel
theorem d_W_law_1943 : decode code 1943 = .ok (.aload_n 1, 1) := by decide +kernel
theorem d_W_law_1944 : decode code 1944 = .ok (.invokevirtual 325, 3) := by decide +kernel
theorem d_W_law_1947 : decode code 1947 = .ok (.pop, 1) := by decide +kernel
theorem d_W_law_1948 : decode code 1948 = .ok (.aload_n 2, 1) := by decide +kernel
theorem d_W_law_1949 : decode code 1949 = .ok (.invokevirtual 328, 3) := by decide +kernel
theorem d_W_law_1952 : decode code 1952 = .ok (.pop, 1) := by decide +kernel
theorem d_W_law_1953 : decode code 1953 = .ok (.goto (72), 3) := by decide +kernel
theorem d_W_law_1956 : decode code 1956 = .ok (.aload_n 1, 1) := by decide +kernel
theorem d_W_law_1957 : decode code 1957 = .ok (.aload_n 0, 1) := by decide +kernel
theorem d_W_law_1958 : decode code 1958 = .ok (.iload 4, 2) := by decide +kernel
theorem d_W_law_1960 : decode code 1960 = .ok (.iconst 1, 1) := by decide +kernel
theorem d_W_law_1961 : decode code 1961 = .ok (.iadd, 1) := by decide +kernel
theorem d_W_law_1962 : decode code 1962 = .ok (.iaload, 1) := by decide +kernel
theorem d_W_law_1963 : decode code 1963 = .ok (.aload_n 3, 1) := by decide +kernel
theorem d_W_law_1964 : decode code 1964 = .ok (.invokestatic 329, 3) := by decide +kernel
theorem d_W_law_1967 : decode code 1967 = .ok (.istore 5, 2) := by decide +kernel
theorem d_W_law_1969 : decode code 1969 = .ok (.aload_n 2, 1) := by decide +kernel
theorem d_W_law_1970 : decode code 1970 = .ok (.aload_n 0, 1) := by decide +kernel
theorem d_W_law_1971 : decode code 1971 = .ok (.iload 4, 2) := by decide +kernel
theorem d_W_law_1973 : decode code 1973 = .ok (.iconst 1, 1) := by decide +kernel
theorem d_W_law_1974 : decode code 1974 = .ok (.iadd, 1) := by decide +kernel
theorem d_W_law_1975 : decode code 1975 = .ok (.iaload, 1) := by decide +kernel
theorem d_W_law_1976 : decode code 1976 = .ok (.invokevirtual 331, 3) := by decide +kernel
theorem d_W_law_1979 : decode code 1979 = .ok (.istore 6, 2) := by decide +kernel
theorem d_W_law_1981 : decode code 1981 = .ok (.goto (44), 3) := by decide +kernel
theorem d_W_law_1984 : decode code 1984 = .ok (.aload_n 1, 1) := by decide +kernel
theorem d_W_law_1985 : decode code 1985 = .ok (.invokevirtual 332, 3) := by decide +kernel
theorem d_W_law_1988 : decode code 1988 = .ok (.pop, 1) := by decide +kernel
theorem d_W_law_1989 : decode code 1989 = .ok (.aload_n 2, 1) := by decide +kernel
theorem d_W_law_1990 : decode code 1990 = .ok (.invokevirtual 335, 3) := by decide +kernel
theorem d_W_law_1993 : decode code 1993 = .ok (.pop, 1) := by decide +kernel
theorem d_W_law_1994 : decode code 1994 = .ok (.goto (31), 3) := by decide +kernel
theorem d_W_law_1997 : decode code 1997 = .ok (.aload_n 1, 1) := by decide +kernel
theorem d_W_law_1998 : decode code 1998 = .ok (.aload_n 0, 1) := by decide +kernel
theorem d_W_law_1999 : decode code 1999 = .ok (.iload 4, 2) := by decide +kernel
theorem d_W_law_2001 : decode code 2001 = .ok (.iconst 1, 1) := by decide +kernel
theorem d_W_law_2002 : decode code 2002 = .ok (.iadd, 1) := by decide +kernel
theorem d_W_law_2003 : decode code 2003 = .ok (.iaload, 1) := by decide +kernel
theorem d_W_law_2004 : decode code 2004 = .ok (.aload_n 3, 1) := by decide +kernel
theorem d_W_law_2005 : decode code 2005 = .ok (.invokestatic 336, 3) := by decide +kernel
theorem d_W_law_2008 : decode code 2008 = .ok (.istore 5, 2) := by decide +kernel
theorem d_W_law_2010 : decode code 2010 = .ok (.aload_n 2, 1) := by decide +kernel
theorem d_W_law_2011 : decode code 2011 = .ok (.aload_n 0, 1) := by decide +kernel
theorem d_W_law_2012 : decode code 2012 = .ok (.iload 4, 2) := by decide +kernel
theorem d_W_law_2014 : decode code 2014 = .ok (.iconst 1, 1) := by decide +kernel
theorem d_W_law_2015 : decode code 2015 = .ok (.iadd, 1) := by decide +kernel
theorem d_W_law_2016 : decode code 2016 = .ok (.iaload, 1) := by decide +kernel
theorem d_W_law_2017 : decode code 2017 = .ok (.invokevirtual 338, 3) := by decide +kernel
theorem d_W_law_2020 : decode code 2020 = .ok (.istore 6, 2) := by decide +kernel
theorem d_W_law_2022 : decode code 2022 = .ok (.goto (3), 3) := by decide +kernel
theorem d_W_law_2025 : decode code 2025 = .ok (.iinc 4 (6), 3) := by decide +kernel
theorem d_W_law_2028 : decode code 2028 = .ok (.goto (-2005), 3) := by decide +kernel
theorem d_W_law_2031 : decode code 2031 = .ok (.iconst 1, 1) := by decide +kernel
theorem d_W_law_2032 : decode code 2032 = .ok (.ireturn, 1) := by decide +kernel
