theorem ddL_law_0 : decode code 0 = .ok (.new 8, 3) := by decide +kernel
theorem ddL_law_3 : decode code 3 = .ok (.dup, 1) := by decide +kernel
theorem ddL_law_4 : decode code 4 = .ok (.invokespecial 146, 3) := by decide +kernel
theorem ddL_law_7 : decode code 7 = .ok (.astore_n 1, 1) := by decide +kernel
theorem ddL_law_8 : decode code 8 = .ok (.new 147, 3) := by decide +kernel
theorem ddL_law_11 : decode code 11 = .ok (.dup, 1) := by decide +kernel
theorem ddL_law_12 : decode code 12 = .ok (.invokespecial 149, 3) := by decide +kernel
theorem ddL_law_15 : decode code 15 = .ok (.astore_n 2, 1) := by decide +kernel
theorem ddL_law_16 : decode code 16 = .ok (.iconst 1, 1) := by decide +kernel
theorem ddL_law_17 : decode code 17 = .ok (.newarray .long, 2) := by decide +kernel
theorem ddL_law_19 : decode code 19 = .ok (.astore_n 3, 1) := by decide +kernel
theorem ddL_law_20 : decode code 20 = .ok (.iconst 1, 1) := by decide +kernel
theorem ddL_law_21 : decode code 21 = .ok (.newarray .double, 2) := by decide +kernel
theorem ddL_law_23 : decode code 23 = .ok (.astore 4, 2) := by decide +kernel
theorem ddL_law_25 : decode code 25 = .ok (.iconst 0, 1) := by decide +kernel
theorem ddL_law_26 : decode code 26 = .ok (.istore 5, 2) := by decide +kernel
theorem ddL_law_28 : decode code 28 = .ok (.iload 5, 2) := by decide +kernel
theorem ddL_law_30 : decode code 30 = .ok (.aload_n 0, 1) := by decide +kernel
theorem ddL_law_31 : decode code 31 = .ok (.arraylength, 1) := by decide +kernel
theorem ddL_law_32 : decode code 32 = .ok (.iconst 5, 1) := by decide +kernel
theorem ddL_law_33 : decode code 33 = .ok (.isub, 1) := by decide +kernel
theorem ddL_law_34 : decode code 34 = .ok (.if_icmp .gt 2618, 3) := by decide +kernel
theorem ddL_law_37 : decode code 37 = .ok (.aload_n 0, 1) := by decide +kernel
theorem ddL_law_38 : decode code 38 = .ok (.iload 5, 2) := by decide +kernel
theorem ddL_law_40 : decode code 40 = .ok (.iaload, 1) := by decide +kernel
theorem ddL_law_41 : decode code 41 = .ok (.bipush 63, 2) := by decide +kernel
theorem ddL_law_43 : decode code 43 = .ok (.iand, 1) := by decide +kernel
theorem ddL_law_44 : decode code 44 = .ok (.tableswitch 2602 0 48 #[212, 268, 324, 337, 350, 406, 462, 518, 598, 685, 753, 845, 901, 969, 1037, 1093, 1106, 1162, 1175, 1188, 1244, 1300, 1356, 1412, 1468, 1548, 1616, 1691, 1747, 1803, 1859, 1872, 1885, 1898, 1942, 1986, 2051, 2117, 2173, 2229, 2285, 2298, 2356, 2400, 2444, 2488, 2532, 2545, 2558], 212) := by decide +kernel
theorem ddL_law_256 : decode code 256 = .ok (.aload_n 1, 1) := by decide +kernel
theorem ddL_law_257 : decode code 257 = .ok (.aload_n 0, 1) := by decide +kernel
theorem ddL_law_258 : decode code 258 = .ok (.iload 5, 2) := by decide +kernel
theorem ddL_law_260 : decode code 260 = .ok (.iconst 1, 1) := by decide +kernel
theorem ddL_law_261 : decode code 261 = .ok (.iadd, 1) := by decide +kernel
theorem ddL_law_262 : decode code 262 = .ok (.iaload, 1) := by decide +kernel
theorem ddL_law_263 : decode code 263 = .ok (.aload_n 3, 1) := by decide +kernel
theorem ddL_law_264 : decode code 264 = .ok (.invokestatic 150, 3) := by decide +kernel
theorem ddL_law_267 : decode code 267 = .ok (.istore 6, 2) := by decide +kernel
theorem ddL_law_269 : decode code 269 = .ok (.aload_n 2, 1) := by decide +kernel
theorem ddL_law_270 : decode code 270 = .ok (.aload_n 0, 1) := by decide +kernel
theorem ddL_law_271 : decode code 271 = .ok (.iload 5, 2) := by decide +kernel
theorem ddL_law_273 : decode code 273 = .ok (.iconst 1, 1) := by decide +kernel
theorem ddL_law_274 : decode code 274 = .ok (.iadd, 1) := by decide +kernel
theorem ddL_law_275 : decode code 275 = .ok (.iaload, 1) := by decide +kernel
theorem ddL_law_276 : decode code 276 = .ok (.invokevirtual 155, 3) := by decide +kernel
theorem ddL_law_279 : decode code 279 = .ok (.istore 7, 2) := by decide +kernel
theorem ddL_law_281 : decode code 281 = .ok (.aload_n 2, 1) := by decide +kernel
theorem ddL_law_282 : decode code 282 = .ok (.invokevirtual 156, 3) := by decide +kernel
theorem ddL_law_285 : decode code 285 = .ok (.iload 6, 2) := by decide +kernel
theorem ddL_law_287 : decode code 287 = .ok (.if_icmp .eq 5, 3) := by decide +kernel
theorem ddL_law_290 : decode code 290 = .ok (.iconst 0, 1) := by decide +kernel
theorem ddL_law_291 : decode code 291 = .ok (.ireturn, 1) := by decide +kernel
theorem ddL_law_292 : decode code 292 = .ok (.iload 6, 2) := by decide +kernel
theorem ddL_law_294 : decode code 294 = .ok (.ifCond .ne 15, 3) := by decide +kernel
theorem ddL_law_297 : decode code 297 = .ok (.aload_n 3, 1) := by decide +kernel
theorem ddL_law_298 : decode code 298 = .ok (.iconst 0, 1) := by decide +kernel
theorem ddL_law_299 : decode code 299 = .ok (.laload, 1) := by decide +kernel
theorem ddL_law_300 : decode code 300 = .ok (.iload 7, 2) := by decide +kernel
theorem ddL_law_302 : decode code 302 = .ok (.i2l, 1) := by decide +kernel
theorem ddL_law_303 : decode code 303 = .ok (.lcmp, 1) := by decide +kernel
theorem ddL_law_304 : decode code 304 = .ok (.ifCond .eq 5, 3) := by decide +kernel
theorem ddL_law_307 : decode code 307 = .ok (.iconst 0, 1) := by decide +kernel
theorem ddL_law_308 : decode code 308 = .ok (.ireturn, 1) := by decide +kernel
theorem ddL_law_309 : decode code 309 = .ok (.goto 2337, 3) := by decide +kernel
theorem ddL_law_312 : decode code 312 = .ok (.aload_n 1, 1) := by decide +kernel
theorem ddL_law_313 : decode code 313 = .ok (.aload_n 0, 1) := by decide +kernel
theorem ddL_law_314 : decode code 314 = .ok (.iload 5, 2) := by decide +kernel
theorem ddL_law_316 : decode code 316 = .ok (.iconst 1, 1) := by decide +kernel
theorem ddL_law_317 : decode code 317 = .ok (.iadd, 1) := by decide +kernel
theorem ddL_law_318 : decode code 318 = .ok (.iaload, 1) := by decide +kernel
theorem ddL_law_319 : decode code 319 = .ok (.aload_n 3, 1) := by decide +kernel
theorem ddL_law_320 : decode code 320 = .ok (.invokestatic 159, 3) := by decide +kernel
theorem ddL_law_323 : decode code 323 = .ok (.istore 6, 2) := by decide +kernel
theorem ddL_law_325 : decode code 325 = .ok (.aload_n 2, 1) := by decide +kernel
theorem ddL_law_326 : decode code 326 = .ok (.aload_n 0, 1) := by decide +kernel
theorem ddL_law_327 : decode code 327 = .ok (.iload 5, 2) := by decide +kernel
theorem ddL_law_329 : decode code 329 = .ok (.iconst 1, 1) := by decide +kernel
theorem ddL_law_330 : decode code 330 = .ok (.iadd, 1) := by decide +kernel
theorem ddL_law_331 : decode code 331 = .ok (.iaload, 1) := by decide +kernel
theorem ddL_law_332 : decode code 332 = .ok (.invokevirtual 161, 3) := by decide +kernel
theorem ddL_law_335 : decode code 335 = .ok (.istore 7, 2) := by decide +kernel
theorem ddL_law_337 : decode code 337 = .ok (.aload_n 2, 1) := by decide +kernel
theorem ddL_law_338 : decode code 338 = .ok (.invokevirtual 156, 3) := by decide +kernel
theorem ddL_law_341 : decode code 341 = .ok (.iload 6, 2) := by decide +kernel
theorem ddL_law_343 : decode code 343 = .ok (.if_icmp .eq 5, 3) := by decide +kernel
theorem ddL_law_346 : decode code 346 = .ok (.iconst 0, 1) := by decide +kernel
theorem ddL_law_347 : decode code 347 = .ok (.ireturn, 1) := by decide +kernel
theorem ddL_law_348 : decode code 348 = .ok (.iload 6, 2) := by decide +kernel
theorem ddL_law_350 : decode code 350 = .ok (.ifCond .ne 15, 3) := by decide +kernel
theorem ddL_law_353 : decode code 353 = .ok (.aload_n 3, 1) := by decide +kernel
theorem ddL_law_354 : decode code 354 = .ok (.iconst 0, 1) := by decide +kernel
theorem ddL_law_355 : decode code 355 = .ok (.laload, 1) := by decide +kernel
theorem ddL_law_356 : decode code 356 = .ok (.iload 7, 2) := by decide +kernel
theorem ddL_law_358 : decode code 358 = .ok (.i2l, 1) := by decide +kernel
theorem ddL_law_359 : decode code 359 = .ok (.lcmp, 1) := by decide +kernel
theorem ddL_law_360 : decode code 360 = .ok (.ifCond .eq 5, 3) := by decide +kernel
theorem ddL_law_363 : decode code 363 = .ok (.iconst 0, 1) := by decide +kernel
theorem ddL_law_364 : decode code 364 = .ok (.ireturn, 1) := by decide +kernel
theorem ddL_law_365 : decode code 365 = .ok (.goto 2281, 3) := by decide +kernel
theorem ddL_law_368 : decode code 368 = .ok (.aload_n 1, 1) := by decide +kernel
theorem ddL_law_369 : decode code 369 = .ok (.invokevirtual 162, 3) := by decide +kernel
theorem ddL_law_372 : decode code 372 = .ok (.aload_n 2, 1) := by decide +kernel
theorem ddL_law_373 : decode code 373 = .ok (.invokevirtual 165, 3) := by decide +kernel
theorem ddL_law_376 : decode code 376 = .ok (.if_icmp .eq 2270, 3) := by decide +kernel
theorem ddL_law_379 : decode code 379 = .ok (.iconst 0, 1) := by decide +kernel
theorem ddL_law_380 : decode code 380 = .ok (.ireturn, 1) := by decide +kernel
theorem ddL_law_381 : decode code 381 = .ok (.aload_n 1, 1) := by decide +kernel
theorem ddL_law_382 : decode code 382 = .ok (.invokevirtual 166, 3) := by decide +kernel
theorem ddL_law_385 : decode code 385 = .ok (.aload_n 2, 1) := by decide +kernel
theorem ddL_law_386 : decode code 386 = .ok (.invokevirtual 169, 3) := by decide +kernel
theorem ddL_law_389 : decode code 389 = .ok (.if_icmp .eq 2257, 3) := by decide +kernel
theorem ddL_law_392 : decode code 392 = .ok (.iconst 0, 1) := by decide +kernel
theorem ddL_law_393 : decode code 393 = .ok (.ireturn, 1) := by decide +kernel
theorem ddL_law_394 : decode code 394 = .ok (.aload_n 1, 1) := by decide +kernel
theorem ddL_law_395 : decode code 395 = .ok (.aload_n 0, 1) := by decide +kernel
theorem ddL_law_396 : decode code 396 = .ok (.iload 5, 2) := by decide +kernel
theorem ddL_law_398 : decode code 398 = .ok (.iconst 1, 1) := by decide +kernel
theorem ddL_law_399 : decode code 399 = .ok (.iadd, 1) := by decide +kernel
theorem ddL_law_400 : decode code 400 = .ok (.iaload, 1) := by decide +kernel
theorem ddL_law_401 : decode code 401 = .ok (.aload_n 3, 1) := by decide +kernel
theorem ddL_law_402 : decode code 402 = .ok (.invokestatic 170, 3) := by decide +kernel
theorem ddL_law_405 : decode code 405 = .ok (.istore 6, 2) := by decide +kernel
theorem ddL_law_407 : decode code 407 = .ok (.aload_n 2, 1) := by decide +kernel
theorem ddL_law_408 : decode code 408 = .ok (.aload_n 0, 1) := by decide +kernel
theorem ddL_law_409 : decode code 409 = .ok (.iload 5, 2) := by decide +kernel
theorem ddL_law_411 : decode code 411 = .ok (.iconst 1, 1) := by decide +kernel
theorem ddL_law_412 : decode code 412 = .ok (.iadd, 1) := by decide +kernel
theorem ddL_law_413 : decode code 413 = .ok (.iaload, 1) := by decide +kernel
theorem ddL_law_414 : decode code 414 = .ok (.invokevirtual 172, 3) := by decide +kernel
theorem ddL_law_417 : decode code 417 = .ok (.istore 7, 2) := by decide +kernel
theorem ddL_law_419 : decode code 419 = .ok (.aload_n 2, 1) := by decide +kernel
theorem ddL_law_420 : decode code 420 = .ok (.invokevirtual 156, 3) := by decide +kernel
theorem ddL_law_423 : decode code 423 = .ok (.iload 6, 2) := by decide +kernel
theorem ddL_law_425 : decode code 425 = .ok (.if_icmp .eq 5, 3) := by decide +kernel
theorem ddL_law_428 : decode code 428 = .ok (.iconst 0, 1) := by decide +kernel
theorem ddL_law_429 : decode code 429 = .ok (.ireturn, 1) := by decide +kernel
theorem ddL_law_430 : decode code 430 = .ok (.iload 6, 2) := by decide +kernel
theorem ddL_law_432 : decode code 432 = .ok (.ifCond .ne 15, 3) := by decide +kernel
theorem ddL_law_435 : decode code 435 = .ok (.aload_n 3, 1) := by decide +kernel
theorem ddL_law_436 : decode code 436 = .ok (.iconst 0, 1) := by decide +kernel
theorem ddL_law_437 : decode code 437 = .ok (.laload, 1) := by decide +kernel
theorem ddL_law_438 : decode code 438 = .ok (.iload 7, 2) := by decide +kernel
theorem ddL_law_440 : decode code 440 = .ok (.i2l, 1) := by decide +kernel
theorem ddL_law_441 : decode code 441 = .ok (.lcmp, 1) := by decide +kernel
theorem ddL_law_442 : decode code 442 = .ok (.ifCond .eq 5, 3) := by decide +kernel
theorem ddL_law_445 : decode code 445 = .ok (.iconst 0, 1) := by decide +kernel
theorem ddL_law_446 : decode code 446 = .ok (.ireturn, 1) := by decide +kernel
theorem ddL_law_447 : decode code 447 = .ok (.goto 2199, 3) := by decide +kernel
theorem ddL_law_450 : decode code 450 = .ok (.aload_n 1, 1) := by decide +kernel
theorem ddL_law_451 : decode code 451 = .ok (.aload_n 0, 1) := by decide +kernel
theorem ddL_law_452 : decode code 452 = .ok (.iload 5, 2) := by decide +kernel
theorem ddL_law_454 : decode code 454 = .ok (.iconst 1, 1) := by decide +kernel
theorem ddL_law_455 : decode code 455 = .ok (.iadd, 1) := by decide +kernel
theorem ddL_law_456 : decode code 456 = .ok (.iaload, 1) := by decide +kernel
theorem ddL_law_457 : decode code 457 = .ok (.aload_n 3, 1) := by decide +kernel
theorem ddL_law_458 : decode code 458 = .ok (.invokestatic 173, 3) := by decide +kernel
theorem ddL_law_461 : decode code 461 = .ok (.istore 6, 2) := by decide +kernel
theorem ddL_law_463 : decode code 463 = .ok (.aload_n 2, 1) := by decide +kernel
theorem ddL_law_464 : decode code 464 = .ok (.aload_n 0, 1) := by decide +kernel
theorem ddL_law_465 : decode code 465 = .ok (.iload 5, 2) := by decide +kernel
theorem ddL_law_467 : decode code 467 = .ok (.iconst 1, 1) := by decide +kernel
theorem ddL_law_468 : decode code 468 = .ok (.iadd, 1) := by decide +kernel
theorem ddL_law_469 : decode code 469 = .ok (.iaload, 1) := by decide +kernel
theorem ddL_law_470 : decode code 470 = .ok (.invokevirtual 175, 3) := by decide +kernel
theorem ddL_law_473 : decode code 473 = .ok (.istore 7, 2) := by decide +kernel
theorem ddL_law_475 : decode code 475 = .ok (.aload_n 2, 1) := by decide +kernel
theorem ddL_law_476 : decode code 476 = .ok (.invokevirtual 156, 3) := by decide +kernel
theorem ddL_law_479 : decode code 479 = .ok (.iload 6, 2) := by decide +kernel
theorem ddL_law_481 : decode code 481 = .ok (.if_icmp .eq 5, 3) := by decide +kernel
theorem ddL_law_484 : decode code 484 = .ok (.iconst 0, 1) := by decide +kernel
theorem ddL_law_485 : decode code 485 = .ok (.ireturn, 1) := by decide +kernel
theorem ddL_law_486 : decode code 486 = .ok (.iload 6, 2) := by decide +kernel
theorem ddL_law_488 : decode code 488 = .ok (.ifCond .ne 15, 3) := by decide +kernel
theorem ddL_law_491 : decode code 491 = .ok (.aload_n 3, 1) := by decide +kernel
theorem ddL_law_492 : decode code 492 = .ok (.iconst 0, 1) := by decide +kernel
theorem ddL_law_493 : decode code 493 = .ok (.laload, 1) := by decide +kernel
theorem ddL_law_494 : decode code 494 = .ok (.iload 7, 2) := by decide +kernel
theorem ddL_law_496 : decode code 496 = .ok (.i2l, 1) := by decide +kernel
theorem ddL_law_497 : decode code 497 = .ok (.lcmp, 1) := by decide +kernel
theorem ddL_law_498 : decode code 498 = .ok (.ifCond .eq 5, 3) := by decide +kernel
theorem ddL_law_501 : decode code 501 = .ok (.iconst 0, 1) := by decide +kernel
theorem ddL_law_502 : decode code 502 = .ok (.ireturn, 1) := by decide +kernel
theorem ddL_law_503 : decode code 503 = .ok (.goto 2143, 3) := by decide +kernel
theorem ddL_law_506 : decode code 506 = .ok (.aload_n 1, 1) := by decide +kernel
theorem ddL_law_507 : decode code 507 = .ok (.aload_n 0, 1) := by decide +kernel
theorem ddL_law_508 : decode code 508 = .ok (.iload 5, 2) := by decide +kernel
theorem ddL_law_510 : decode code 510 = .ok (.iconst 1, 1) := by decide +kernel
theorem ddL_law_511 : decode code 511 = .ok (.iadd, 1) := by decide +kernel
theorem ddL_law_512 : decode code 512 = .ok (.iaload, 1) := by decide +kernel
theorem ddL_law_513 : decode code 513 = .ok (.aload_n 3, 1) := by decide +kernel
theorem ddL_law_514 : decode code 514 = .ok (.invokestatic 176, 3) := by decide +kernel
theorem ddL_law_517 : decode code 517 = .ok (.istore 6, 2) := by decide +kernel
theorem ddL_law_519 : decode code 519 = .ok (.aload_n 2, 1) := by decide +kernel
theorem ddL_law_520 : decode code 520 = .ok (.aload_n 0, 1) := by decide +kernel
theorem ddL_law_521 : decode code 521 = .ok (.iload 5, 2) := by decide +kernel
theorem ddL_law_523 : decode code 523 = .ok (.iconst 1, 1) := by decide +kernel
theorem ddL_law_524 : decode code 524 = .ok (.iadd, 1) := by decide +kernel
theorem ddL_law_525 : decode code 525 = .ok (.iaload, 1) := by decide +kernel
theorem ddL_law_526 : decode code 526 = .ok (.invokevirtual 178, 3) := by decide +kernel
theorem ddL_law_529 : decode code 529 = .ok (.istore 7, 2) := by decide +kernel
theorem ddL_law_531 : decode code 531 = .ok (.aload_n 2, 1) := by decide +kernel
theorem ddL_law_532 : decode code 532 = .ok (.invokevirtual 156, 3) := by decide +kernel
theorem ddL_law_535 : decode code 535 = .ok (.iload 6, 2) := by decide +kernel
theorem ddL_law_537 : decode code 537 = .ok (.if_icmp .eq 5, 3) := by decide +kernel
theorem ddL_law_540 : decode code 540 = .ok (.iconst 0, 1) := by decide +kernel
theorem ddL_law_541 : decode code 541 = .ok (.ireturn, 1) := by decide +kernel
theorem ddL_law_542 : decode code 542 = .ok (.iload 6, 2) := by decide +kernel
theorem ddL_law_544 : decode code 544 = .ok (.ifCond .ne 15, 3) := by decide +kernel
theorem ddL_law_547 : decode code 547 = .ok (.aload_n 3, 1) := by decide +kernel
theorem ddL_law_548 : decode code 548 = .ok (.iconst 0, 1) := by decide +kernel
theorem ddL_law_549 : decode code 549 = .ok (.laload, 1) := by decide +kernel
theorem ddL_law_550 : decode code 550 = .ok (.iload 7, 2) := by decide +kernel
theorem ddL_law_552 : decode code 552 = .ok (.i2l, 1) := by decide +kernel
theorem ddL_law_553 : decode code 553 = .ok (.lcmp, 1) := by decide +kernel
theorem ddL_law_554 : decode code 554 = .ok (.ifCond .eq 5, 3) := by decide +kernel
theorem ddL_law_557 : decode code 557 = .ok (.iconst 0, 1) := by decide +kernel
theorem ddL_law_558 : decode code 558 = .ok (.ireturn, 1) := by decide +kernel
theorem ddL_law_559 : decode code 559 = .ok (.goto 2087, 3) := by decide +kernel
theorem ddL_law_562 : decode code 562 = .ok (.aload_n 1, 1) := by decide +kernel
theorem ddL_law_563 : decode code 563 = .ok (.aload_n 0, 1) := by decide +kernel
theorem ddL_law_564 : decode code 564 = .ok (.iload 5, 2) := by decide +kernel
theorem ddL_law_566 : decode code 566 = .ok (.iconst 1, 1) := by decide +kernel
theorem ddL_law_567 : decode code 567 = .ok (.iadd, 1) := by decide +kernel
theorem ddL_law_568 : decode code 568 = .ok (.iaload, 1) := by decide +kernel
theorem ddL_law_569 : decode code 569 = .ok (.aload_n 0, 1) := by decide +kernel
theorem ddL_law_570 : decode code 570 = .ok (.iload 5, 2) := by decide +kernel
theorem ddL_law_572 : decode code 572 = .ok (.iconst 2, 1) := by decide +kernel
theorem ddL_law_573 : decode code 573 = .ok (.iadd, 1) := by decide +kernel
theorem ddL_law_574 : decode code 574 = .ok (.iaload, 1) := by decide +kernel
theorem ddL_law_575 : decode code 575 = .ok (.aload_n 0, 1) := by decide +kernel
theorem ddL_law_576 : decode code 576 = .ok (.iload 5, 2) := by decide +kernel
theorem ddL_law_578 : decode code 578 = .ok (.iconst 3, 1) := by decide +kernel
theorem ddL_law_579 : decode code 579 = .ok (.iadd, 1) := by decide +kernel
theorem ddL_law_580 : decode code 580 = .ok (.iaload, 1) := by decide +kernel
theorem ddL_law_581 : decode code 581 = .ok (.aload_n 3, 1) := by decide +kernel
theorem ddL_law_582 : decode code 582 = .ok (.invokestatic 179, 3) := by decide +kernel
theorem ddL_law_585 : decode code 585 = .ok (.istore 6, 2) := by decide +kernel
theorem ddL_law_587 : decode code 587 = .ok (.aload_n 2, 1) := by decide +kernel
theorem ddL_law_588 : decode code 588 = .ok (.aload_n 0, 1) := by decide +kernel
theorem ddL_law_589 : decode code 589 = .ok (.iload 5, 2) := by decide +kernel
theorem ddL_law_591 : decode code 591 = .ok (.iconst 1, 1) := by decide +kernel
theorem ddL_law_592 : decode code 592 = .ok (.iadd, 1) := by decide +kernel
theorem ddL_law_593 : decode code 593 = .ok (.iaload, 1) := by decide +kernel
theorem ddL_law_594 : decode code 594 = .ok (.aload_n 0, 1) := by decide +kernel
theorem ddL_law_595 : decode code 595 = .ok (.iload 5, 2) := by decide +kernel
theorem ddL_law_597 : decode code 597 = .ok (.iconst 2, 1) := by decide +kernel
theorem ddL_law_598 : decode code 598 = .ok (.iadd, 1) := by decide +kernel
theorem ddL_law_599 : decode code 599 = .ok (.iaload, 1) := by decide +kernel
theorem ddL_law_600 : decode code 600 = .ok (.aload_n 0, 1) := by decide +kernel
theorem ddL_law_601 : decode code 601 = .ok (.iload 5, 2) := by decide +kernel
theorem ddL_law_603 : decode code 603 = .ok (.iconst 3, 1) := by decide +kernel
theorem ddL_law_604 : decode code 604 = .ok (.iadd, 1) := by decide +kernel
theorem ddL_law_605 : decode code 605 = .ok (.iaload, 1) := by decide +kernel
theorem ddL_law_606 : decode code 606 = .ok (.invokevirtual 182, 3) := by decide +kernel
theorem ddL_law_609 : decode code 609 = .ok (.istore 7, 2) := by decide +kernel
theorem ddL_law_611 : decode code 611 = .ok (.aload_n 2, 1) := by decide +kernel
theorem ddL_law_612 : decode code 612 = .ok (.invokevirtual 156, 3) := by decide +kernel
theorem ddL_law_615 : decode code 615 = .ok (.iload 6, 2) := by decide +kernel
theorem ddL_law_617 : decode code 617 = .ok (.if_icmp .eq 5, 3) := by decide +kernel
theorem ddL_law_620 : decode code 620 = .ok (.iconst 0, 1) := by decide +kernel
theorem ddL_law_621 : decode code 621 = .ok (.ireturn, 1) := by decide +kernel
theorem ddL_law_622 : decode code 622 = .ok (.iload 6, 2) := by decide +kernel
theorem ddL_law_624 : decode code 624 = .ok (.ifCond .ne 15, 3) := by decide +kernel
theorem ddL_law_627 : decode code 627 = .ok (.aload_n 3, 1) := by decide +kernel
theorem ddL_law_628 : decode code 628 = .ok (.iconst 0, 1) := by decide +kernel
theorem ddL_law_629 : decode code 629 = .ok (.laload, 1) := by decide +kernel
theorem ddL_law_630 : decode code 630 = .ok (.iload 7, 2) := by decide +kernel
theorem ddL_law_632 : decode code 632 = .ok (.i2l, 1) := by decide +kernel
theorem ddL_law_633 : decode code 633 = .ok (.lcmp, 1) := by decide +kernel
theorem ddL_law_634 : decode code 634 = .ok (.ifCond .eq 5, 3) := by decide +kernel
theorem ddL_law_637 : decode code 637 = .ok (.iconst 0, 1) := by decide +kernel
theorem ddL_law_638 : decode code 638 = .ok (.ireturn, 1) := by decide +kernel
theorem ddL_law_639 : decode code 639 = .ok (.goto 2007, 3) := by decide +kernel
theorem ddL_law_642 : decode code 642 = .ok (.aload_n 1, 1) := by decide +kernel
theorem ddL_law_643 : decode code 643 = .ok (.aload_n 0, 1) := by decide +kernel
theorem ddL_law_644 : decode code 644 = .ok (.iload 5, 2) := by decide +kernel
theorem ddL_law_646 : decode code 646 = .ok (.iconst 1, 1) := by decide +kernel
theorem ddL_law_647 : decode code 647 = .ok (.iadd, 1) := by decide +kernel
theorem ddL_law_648 : decode code 648 = .ok (.iaload, 1) := by decide +kernel
theorem ddL_law_649 : decode code 649 = .ok (.aload_n 0, 1) := by decide +kernel
theorem ddL_law_650 : decode code 650 = .ok (.iload 5, 2) := by decide +kernel
theorem ddL_law_652 : decode code 652 = .ok (.iconst 2, 1) := by decide +kernel
theorem ddL_law_653 : decode code 653 = .ok (.iadd, 1) := by decide +kernel
theorem ddL_law_654 : decode code 654 = .ok (.iaload, 1) := by decide +kernel
theorem ddL_law_655 : decode code 655 = .ok (.aload_n 0, 1) := by decide +kernel
theorem ddL_law_656 : decode code 656 = .ok (.iload 5, 2) := by decide +kernel
theorem ddL_law_658 : decode code 658 = .ok (.iconst 3, 1) := by decide +kernel
theorem ddL_law_659 : decode code 659 = .ok (.iadd, 1) := by decide +kernel
theorem ddL_law_660 : decode code 660 = .ok (.iaload, 1) := by decide +kernel
theorem ddL_law_661 : decode code 661 = .ok (.aload_n 3, 1) := by decide +kernel
theorem ddL_law_662 : decode code 662 = .ok (.invokestatic 183, 3) := by decide +kernel
theorem ddL_law_665 : decode code 665 = .ok (.istore 6, 2) := by decide +kernel
theorem ddL_law_667 : decode code 667 = .ok (.aload_n 2, 1) := by decide +kernel
theorem ddL_law_668 : decode code 668 = .ok (.aload_n 0, 1) := by decide +kernel
theorem ddL_law_669 : decode code 669 = .ok (.iload 5, 2) := by decide +kernel
theorem ddL_law_671 : decode code 671 = .ok (.iconst 1, 1) := by decide +kernel
theorem ddL_law_672 : decode code 672 = .ok (.iadd, 1) := by decide +kernel
theorem ddL_law_673 : decode code 673 = .ok (.iaload, 1) := by decide +kernel
theorem ddL_law_674 : decode code 674 = .ok (.aload_n 0, 1) := by decide +kernel
theorem ddL_law_675 : decode code 675 = .ok (.iload 5, 2) := by decide +kernel
theorem ddL_law_677 : decode code 677 = .ok (.iconst 2, 1) := by decide +kernel
theorem ddL_law_678 : decode code 678 = .ok (.iadd, 1) := by decide +kernel
theorem ddL_law_679 : decode code 679 = .ok (.iaload, 1) := by decide +kernel
theorem ddL_law_680 : decode code 680 = .ok (.aload_n 0, 1) := by decide +kernel
theorem ddL_law_681 : decode code 681 = .ok (.iload 5, 2) := by decide +kernel
theorem ddL_law_683 : decode code 683 = .ok (.iconst 3, 1) := by decide +kernel
theorem ddL_law_684 : decode code 684 = .ok (.iadd, 1) := by decide +kernel
theorem ddL_law_685 : decode code 685 = .ok (.iaload, 1) := by decide +kernel
theorem ddL_law_686 : decode code 686 = .ok (.invokevirtual 185, 3) := by decide +kernel
theorem ddL_law_689 : decode code 689 = .ok (.istore 7, 2) := by decide +kernel
theorem ddL_law_691 : decode code 691 = .ok (.aload_n 2, 1) := by decide +kernel
theorem ddL_law_692 : decode code 692 = .ok (.invokevirtual 156, 3) := by decide +kernel
theorem ddL_law_695 : decode code 695 = .ok (.iload 6, 2) := by decide +kernel
theorem ddL_law_697 : decode code 697 = .ok (.if_icmp .eq 5, 3) := by decide +kernel
theorem ddL_law_700 : decode code 700 = .ok (.iconst 0, 1) := by decide +kernel
theorem ddL_law_701 : decode code 701 = .ok (.ireturn, 1) := by decide +kernel
theorem ddL_law_702 : decode code 702 = .ok (.iload 6, 2) := by decide +kernel
theorem ddL_law_704 : decode code 704 = .ok (.ifCond .ne 22, 3) := by decide +kernel
theorem ddL_law_707 : decode code 707 = .ok (.aload_n 3, 1) := by decide +kernel
theorem ddL_law_708 : decode code 708 = .ok (.iconst 0, 1) := by decide +kernel
theorem ddL_law_709 : decode code 709 = .ok (.laload, 1) := by decide +kernel
theorem ddL_law_710 : decode code 710 = .ok (.iload 7, 2) := by decide +kernel
theorem ddL_law_712 : decode code 712 = .ok (.ifCond .eq 7, 3) := by decide +kernel
theorem ddL_law_715 : decode code 715 = .ok (.lconst 1, 1) := by decide +kernel
theorem ddL_law_716 : decode code 716 = .ok (.goto 4, 3) := by decide +kernel
theorem ddL_law_719 : decode code 719 = .ok (.lconst 0, 1) := by decide +kernel
theorem ddL_law_720 : decode code 720 = .ok (.lcmp, 1) := by decide +kernel
theorem ddL_law_721 : decode code 721 = .ok (.ifCond .eq 5, 3) := by decide +kernel
theorem ddL_law_724 : decode code 724 = .ok (.iconst 0, 1) := by decide +kernel
theorem ddL_law_725 : decode code 725 = .ok (.ireturn, 1) := by decide +kernel
theorem ddL_law_726 : decode code 726 = .ok (.goto 1920, 3) := by decide +kernel
theorem ddL_law_729 : decode code 729 = .ok (.aload_n 1, 1) := by decide +kernel
theorem ddL_law_730 : decode code 730 = .ok (.aload_n 0, 1) := by decide +kernel
theorem ddL_law_731 : decode code 731 = .ok (.iload 5, 2) := by decide +kernel
theorem ddL_law_733 : decode code 733 = .ok (.iconst 1, 1) := by decide +kernel
theorem ddL_law_734 : decode code 734 = .ok (.iadd, 1) := by decide +kernel
theorem ddL_law_735 : decode code 735 = .ok (.iaload, 1) := by decide +kernel
theorem ddL_law_736 : decode code 736 = .ok (.aload_n 0, 1) := by decide +kernel
theorem ddL_law_737 : decode code 737 = .ok (.iload 5, 2) := by decide +kernel
theorem ddL_law_739 : decode code 739 = .ok (.iconst 2, 1) := by decide +kernel
theorem ddL_law_740 : decode code 740 = .ok (.iadd, 1) := by decide +kernel
theorem ddL_law_741 : decode code 741 = .ok (.iaload, 1) := by decide +kernel
theorem ddL_law_742 : decode code 742 = .ok (.aload_n 3, 1) := by decide +kernel
theorem ddL_law_743 : decode code 743 = .ok (.invokestatic 186, 3) := by decide +kernel
theorem ddL_law_746 : decode code 746 = .ok (.istore 6, 2) := by decide +kernel
theorem ddL_law_748 : decode code 748 = .ok (.aload_n 2, 1) := by decide +kernel
theorem ddL_law_749 : decode code 749 = .ok (.aload_n 0, 1) := by decide +kernel
theorem ddL_law_750 : decode code 750 = .ok (.iload 5, 2) := by decide +kernel
theorem ddL_law_752 : decode code 752 = .ok (.iconst 1, 1) := by decide +kernel
theorem ddL_law_753 : decode code 753 = .ok (.iadd, 1) := by decide +kernel
theorem ddL_law_754 : decode code 754 = .ok (.iaload, 1) := by decide +kernel
theorem ddL_law_755 : decode code 755 = .ok (.aload_n 0, 1) := by decide +kernel
theorem ddL_law_756 : decode code 756 = .ok (.iload 5, 2) := by decide +kernel
theorem ddL_law_758 : decode code 758 = .ok (.iconst 2, 1) := by decide +kernel
theorem ddL_law_759 : decode code 759 = .ok (.iadd, 1) := by decide +kernel
theorem ddL_law_760 : decode code 760 = .ok (.iaload, 1) := by decide +kernel
theorem ddL_law_761 : decode code 761 = .ok (.invokevirtual 189, 3) := by decide +kernel
theorem ddL_law_764 : decode code 764 = .ok (.istore 7, 2) := by decide +kernel
theorem ddL_law_766 : decode code 766 = .ok (.aload_n 2, 1) := by decide +kernel
theorem ddL_law_767 : decode code 767 = .ok (.invokevirtual 156, 3) := by decide +kernel
theorem ddL_law_770 : decode code 770 = .ok (.iload 6, 2) := by decide +kernel
theorem ddL_law_772 : decode code 772 = .ok (.if_icmp .eq 5, 3) := by decide +kernel
theorem ddL_law_775 : decode code 775 = .ok (.iconst 0, 1) := by decide +kernel
theorem ddL_law_776 : decode code 776 = .ok (.ireturn, 1) := by decide +kernel
theorem ddL_law_777 : decode code 777 = .ok (.iload 6, 2) := by decide +kernel
theorem ddL_law_779 : decode code 779 = .ok (.ifCond .ne 15, 3) := by decide +kernel
theorem ddL_law_782 : decode code 782 = .ok (.aload_n 3, 1) := by decide +kernel
theorem ddL_law_783 : decode code 783 = .ok (.iconst 0, 1) := by decide +kernel
theorem ddL_law_784 : decode code 784 = .ok (.laload, 1) := by decide +kernel
theorem ddL_law_785 : decode code 785 = .ok (.iload 7, 2) := by decide +kernel
theorem ddL_law_787 : decode code 787 = .ok (.i2l, 1) := by decide +kernel
theorem ddL_law_788 : decode code 788 = .ok (.lcmp, 1) := by decide +kernel
theorem ddL_law_789 : decode code 789 = .ok (.ifCond .eq 5, 3) := by decide +kernel
theorem ddL_law_792 : decode code 792 = .ok (.iconst 0, 1) := by decide +kernel
theorem ddL_law_793 : decode code 793 = .ok (.ireturn, 1) := by decide +kernel
theorem ddL_law_794 : decode code 794 = .ok (.goto 1852, 3) := by decide +kernel
theorem ddL_law_797 : decode code 797 = .ok (.aload_n 1, 1) := by decide +kernel
theorem ddL_law_798 : decode code 798 = .ok (.aload_n 0, 1) := by decide +kernel
theorem ddL_law_799 : decode code 799 = .ok (.iload 5, 2) := by decide +kernel
theorem ddL_law_801 : decode code 801 = .ok (.iconst 1, 1) := by decide +kernel
theorem ddL_law_802 : decode code 802 = .ok (.iadd, 1) := by decide +kernel
theorem ddL_law_803 : decode code 803 = .ok (.iaload, 1) := by decide +kernel
theorem ddL_law_804 : decode code 804 = .ok (.aload_n 0, 1) := by decide +kernel
theorem ddL_law_805 : decode code 805 = .ok (.iload 5, 2) := by decide +kernel
theorem ddL_law_807 : decode code 807 = .ok (.iconst 2, 1) := by decide +kernel
theorem ddL_law_808 : decode code 808 = .ok (.iadd, 1) := by decide +kernel
theorem ddL_law_809 : decode code 809 = .ok (.iaload, 1) := by decide +kernel
theorem ddL_law_810 : decode code 810 = .ok (.aload_n 0, 1) := by decide +kernel
theorem ddL_law_811 : decode code 811 = .ok (.iload 5, 2) := by decide +kernel
theorem ddL_law_813 : decode code 813 = .ok (.iconst 3, 1) := by decide +kernel
theorem ddL_law_814 : decode code 814 = .ok (.iadd, 1) := by decide +kernel
theorem ddL_law_815 : decode code 815 = .ok (.iaload, 1) := by decide +kernel
theorem ddL_law_816 : decode code 816 = .ok (.aload_n 0, 1) := by decide +kernel
theorem ddL_law_817 : decode code 817 = .ok (.iload 5, 2) := by decide +kernel
theorem ddL_law_819 : decode code 819 = .ok (.iconst 4, 1) := by decide +kernel
theorem ddL_law_820 : decode code 820 = .ok (.iadd, 1) := by decide +kernel
theorem ddL_law_821 : decode code 821 = .ok (.iaload, 1) := by decide +kernel
theorem ddL_law_822 : decode code 822 = .ok (.aload_n 3, 1) := by decide +kernel
theorem ddL_law_823 : decode code 823 = .ok (.invokestatic 190, 3) := by decide +kernel
theorem ddL_law_826 : decode code 826 = .ok (.istore 6, 2) := by decide +kernel
theorem ddL_law_828 : decode code 828 = .ok (.aload_n 2, 1) := by decide +kernel
theorem ddL_law_829 : decode code 829 = .ok (.aload_n 0, 1) := by decide +kernel
theorem ddL_law_830 : decode code 830 = .ok (.iload 5, 2) := by decide +kernel
theorem ddL_law_832 : decode code 832 = .ok (.iconst 1, 1) := by decide +kernel
theorem ddL_law_833 : decode code 833 = .ok (.iadd, 1) := by decide +kernel
theorem ddL_law_834 : decode code 834 = .ok (.iaload, 1) := by decide +kernel
theorem ddL_law_835 : decode code 835 = .ok (.aload_n 0, 1) := by decide +kernel
theorem ddL_law_836 : decode code 836 = .ok (.iload 5, 2) := by decide +kernel
theorem ddL_law_838 : decode code 838 = .ok (.iconst 2, 1) := by decide +kernel
theorem ddL_law_839 : decode code 839 = .ok (.iadd, 1) := by decide +kernel
theorem ddL_law_840 : decode code 840 = .ok (.iaload, 1) := by decide +kernel
theorem ddL_law_841 : decode code 841 = .ok (.aload_n 0, 1) := by decide +kernel
theorem ddL_law_842 : decode code 842 = .ok (.iload 5, 2) := by decide +kernel
theorem ddL_law_844 : decode code 844 = .ok (.iconst 3, 1) := by decide +kernel
theorem ddL_law_845 : decode code 845 = .ok (.iadd, 1) := by decide +kernel
theorem ddL_law_846 : decode code 846 = .ok (.iaload, 1) := by decide +kernel
theorem ddL_law_847 : decode code 847 = .ok (.aload_n 0, 1) := by decide +kernel
theorem ddL_law_848 : decode code 848 = .ok (.iload 5, 2) := by decide +kernel
theorem ddL_law_850 : decode code 850 = .ok (.iconst 4, 1) := by decide +kernel
theorem ddL_law_851 : decode code 851 = .ok (.iadd, 1) := by decide +kernel
theorem ddL_law_852 : decode code 852 = .ok (.iaload, 1) := by decide +kernel
theorem ddL_law_853 : decode code 853 = .ok (.invokevirtual 193, 3) := by decide +kernel
theorem ddL_law_856 : decode code 856 = .ok (.istore 7, 2) := by decide +kernel
theorem ddL_law_858 : decode code 858 = .ok (.aload_n 2, 1) := by decide +kernel
theorem ddL_law_859 : decode code 859 = .ok (.invokevirtual 156, 3) := by decide +kernel
theorem ddL_law_862 : decode code 862 = .ok (.iload 6, 2) := by decide +kernel
theorem ddL_law_864 : decode code 864 = .ok (.if_icmp .eq 5, 3) := by decide +kernel
theorem ddL_law_867 : decode code 867 = .ok (.iconst 0, 1) := by decide +kernel
theorem ddL_law_868 : decode code 868 = .ok (.ireturn, 1) := by decide +kernel
theorem ddL_law_869 : decode code 869 = .ok (.iload 6, 2) := by decide +kernel
theorem ddL_law_871 : decode code 871 = .ok (.ifCond .ne 15, 3) := by decide +kernel
theorem ddL_law_874 : decode code 874 = .ok (.aload_n 3, 1) := by decide +kernel
theorem ddL_law_875 : decode code 875 = .ok (.iconst 0, 1) := by decide +kernel
theorem ddL_law_876 : decode code 876 = .ok (.laload, 1) := by decide +kernel
theorem ddL_law_877 : decode code 877 = .ok (.iload 7, 2) := by decide +kernel
theorem ddL_law_879 : decode code 879 = .ok (.i2l, 1) := by decide +kernel
theorem ddL_law_880 : decode code 880 = .ok (.lcmp, 1) := by decide +kernel
theorem ddL_law_881 : decode code 881 = .ok (.ifCond .eq 5, 3) := by decide +kernel
theorem ddL_law_884 : decode code 884 = .ok (.iconst 0, 1) := by decide +kernel
theorem ddL_law_885 : decode code 885 = .ok (.ireturn, 1) := by decide +kernel
theorem ddL_law_886 : decode code 886 = .ok (.goto 1760, 3) := by decide +kernel
theorem ddL_law_889 : decode code 889 = .ok (.aload_n 1, 1) := by decide +kernel
theorem ddL_law_890 : decode code 890 = .ok (.aload_n 0, 1) := by decide +kernel
theorem ddL_law_891 : decode code 891 = .ok (.iload 5, 2) := by decide +kernel
theorem ddL_law_893 : decode code 893 = .ok (.iconst 1, 1) := by decide +kernel
theorem ddL_law_894 : decode code 894 = .ok (.iadd, 1) := by decide +kernel
theorem ddL_law_895 : decode code 895 = .ok (.iaload, 1) := by decide +kernel
theorem ddL_law_896 : decode code 896 = .ok (.aload_n 3, 1) := by decide +kernel
theorem ddL_law_897 : decode code 897 = .ok (.invokestatic 194, 3) := by decide +kernel
theorem ddL_law_900 : decode code 900 = .ok (.istore 6, 2) := by decide +kernel
theorem ddL_law_902 : decode code 902 = .ok (.aload_n 2, 1) := by decide +kernel
theorem ddL_law_903 : decode code 903 = .ok (.aload_n 0, 1) := by decide +kernel
theorem ddL_law_904 : decode code 904 = .ok (.iload 5, 2) := by decide +kernel
theorem ddL_law_906 : decode code 906 = .ok (.iconst 1, 1) := by decide +kernel
theorem ddL_law_907 : decode code 907 = .ok (.iadd, 1) := by decide +kernel
theorem ddL_law_908 : decode code 908 = .ok (.iaload, 1) := by decide +kernel
theorem ddL_law_909 : decode code 909 = .ok (.invokevirtual 196, 3) := by decide +kernel
theorem ddL_law_912 : decode code 912 = .ok (.istore 7, 2) := by decide +kernel
theorem ddL_law_914 : decode code 914 = .ok (.aload_n 2, 1) := by decide +kernel
theorem ddL_law_915 : decode code 915 = .ok (.invokevirtual 156, 3) := by decide +kernel
theorem ddL_law_918 : decode code 918 = .ok (.iload 6, 2) := by decide +kernel
theorem ddL_law_920 : decode code 920 = .ok (.if_icmp .eq 5, 3) := by decide +kernel
theorem ddL_law_923 : decode code 923 = .ok (.iconst 0, 1) := by decide +kernel
theorem ddL_law_924 : decode code 924 = .ok (.ireturn, 1) := by decide +kernel
theorem ddL_law_925 : decode code 925 = .ok (.iload 6, 2) := by decide +kernel
theorem ddL_law_927 : decode code 927 = .ok (.ifCond .ne 15, 3) := by decide +kernel
theorem ddL_law_930 : decode code 930 = .ok (.aload_n 3, 1) := by decide +kernel
theorem ddL_law_931 : decode code 931 = .ok (.iconst 0, 1) := by decide +kernel
theorem ddL_law_932 : decode code 932 = .ok (.laload, 1) := by decide +kernel
theorem ddL_law_933 : decode code 933 = .ok (.iload 7, 2) := by decide +kernel
theorem ddL_law_935 : decode code 935 = .ok (.i2l, 1) := by decide +kernel
theorem ddL_law_936 : decode code 936 = .ok (.lcmp, 1) := by decide +kernel
theorem ddL_law_937 : decode code 937 = .ok (.ifCond .eq 5, 3) := by decide +kernel
theorem ddL_law_940 : decode code 940 = .ok (.iconst 0, 1) := by decide +kernel
theorem ddL_law_941 : decode code 941 = .ok (.ireturn, 1) := by decide +kernel
theorem ddL_law_942 : decode code 942 = .ok (.goto 1704, 3) := by decide +kernel
theorem ddL_law_945 : decode code 945 = .ok (.aload_n 1, 1) := by decide +kernel
theorem ddL_law_946 : decode code 946 = .ok (.aload_n 0, 1) := by decide +kernel
theorem ddL_law_947 : decode code 947 = .ok (.iload 5, 2) := by decide +kernel
theorem ddL_law_949 : decode code 949 = .ok (.iconst 1, 1) := by decide +kernel
theorem ddL_law_950 : decode code 950 = .ok (.iadd, 1) := by decide +kernel
theorem ddL_law_951 : decode code 951 = .ok (.iaload, 1) := by decide +kernel
theorem ddL_law_952 : decode code 952 = .ok (.aload_n 0, 1) := by decide +kernel
theorem ddL_law_953 : decode code 953 = .ok (.iload 5, 2) := by decide +kernel
theorem ddL_law_955 : decode code 955 = .ok (.iconst 2, 1) := by decide +kernel
theorem ddL_law_956 : decode code 956 = .ok (.iadd, 1) := by decide +kernel
theorem ddL_law_957 : decode code 957 = .ok (.iaload, 1) := by decide +kernel
theorem ddL_law_958 : decode code 958 = .ok (.aload_n 3, 1) := by decide +kernel
theorem ddL_law_959 : decode code 959 = .ok (.invokestatic 197, 3) := by decide +kernel
theorem ddL_law_962 : decode code 962 = .ok (.istore 6, 2) := by decide +kernel
theorem ddL_law_964 : decode code 964 = .ok (.aload_n 2, 1) := by decide +kernel
theorem ddL_law_965 : decode code 965 = .ok (.aload_n 0, 1) := by decide +kernel
theorem ddL_law_966 : decode code 966 = .ok (.iload 5, 2) := by decide +kernel
theorem ddL_law_968 : decode code 968 = .ok (.iconst 1, 1) := by decide +kernel
theorem ddL_law_969 : decode code 969 = .ok (.iadd, 1) := by decide +kernel
theorem ddL_law_970 : decode code 970 = .ok (.iaload, 1) := by decide +kernel
theorem ddL_law_971 : decode code 971 = .ok (.aload_n 0, 1) := by decide +kernel
theorem ddL_law_972 : decode code 972 = .ok (.iload 5, 2) := by decide +kernel
theorem ddL_law_974 : decode code 974 = .ok (.iconst 2, 1) := by decide +kernel
theorem ddL_law_975 : decode code 975 = .ok (.iadd, 1) := by decide +kernel
theorem ddL_law_976 : decode code 976 = .ok (.iaload, 1) := by decide +kernel
theorem ddL_law_977 : decode code 977 = .ok (.invokevirtual 199, 3) := by decide +kernel
theorem ddL_law_980 : decode code 980 = .ok (.istore 7, 2) := by decide +kernel
theorem ddL_law_982 : decode code 982 = .ok (.aload_n 2, 1) := by decide +kernel
theorem ddL_law_983 : decode code 983 = .ok (.invokevirtual 156, 3) := by decide +kernel
theorem ddL_law_986 : decode code 986 = .ok (.iload 6, 2) := by decide +kernel
theorem ddL_law_988 : decode code 988 = .ok (.if_icmp .eq 5, 3) := by decide +kernel
theorem ddL_law_991 : decode code 991 = .ok (.iconst 0, 1) := by decide +kernel
theorem ddL_law_992 : decode code 992 = .ok (.ireturn, 1) := by decide +kernel
theorem ddL_law_993 : decode code 993 = .ok (.iload 6, 2) := by decide +kernel
theorem ddL_law_995 : decode code 995 = .ok (.ifCond .ne 15, 3) := by decide +kernel
theorem ddL_law_998 : decode code 998 = .ok (.aload_n 3, 1) := by decide +kernel
theorem ddL_law_999 : decode code 999 = .ok (.iconst 0, 1) := by decide +kernel
theorem ddL_law_1000 : decode code 1000 = .ok (.laload, 1) := by decide +kernel
theorem ddL_law_1001 : decode code 1001 = .ok (.iload 7, 2) := by decide +kernel
theorem ddL_law_1003 : decode code 1003 = .ok (.i2l, 1) := by decide +kernel
theorem ddL_law_1004 : decode code 1004 = .ok (.lcmp, 1) := by decide +kernel
theorem ddL_law_1005 : decode code 1005 = .ok (.ifCond .eq 5, 3) := by decide +kernel
theorem ddL_law_1008 : decode code 1008 = .ok (.iconst 0, 1) := by decide +kernel
theorem ddL_law_1009 : decode code 1009 = .ok (.ireturn, 1) := by decide +kernel
theorem ddL_law_1010 : decode code 1010 = .ok (.goto 1636, 3) := by decide +kernel
theorem ddL_law_1013 : decode code 1013 = .ok (.aload_n 1, 1) := by decide +kernel
theorem ddL_law_1014 : decode code 1014 = .ok (.aload_n 0, 1) := by decide +kernel
theorem ddL_law_1015 : decode code 1015 = .ok (.iload 5, 2) := by decide +kernel
theorem ddL_law_1017 : decode code 1017 = .ok (.iconst 1, 1) := by decide +kernel
theorem ddL_law_1018 : decode code 1018 = .ok (.iadd, 1) := by decide +kernel
theorem ddL_law_1019 : decode code 1019 = .ok (.iaload, 1) := by decide +kernel
theorem ddL_law_1020 : decode code 1020 = .ok (.aload_n 0, 1) := by decide +kernel
theorem ddL_law_1021 : decode code 1021 = .ok (.iload 5, 2) := by decide +kernel
theorem ddL_law_1023 : decode code 1023 = .ok (.iconst 2, 1) := by decide +kernel
theorem ddL_law_1024 : decode code 1024 = .ok (.iadd, 1) := by decide +kernel
theorem ddL_law_1025 : decode code 1025 = .ok (.iaload, 1) := by decide +kernel
theorem ddL_law_1026 : decode code 1026 = .ok (.aload_n 3, 1) := by decide +kernel
theorem ddL_law_1027 : decode code 1027 = .ok (.invokestatic 200, 3) := by decide +kernel
theorem ddL_law_1030 : decode code 1030 = .ok (.istore 6, 2) := by decide +kernel
theorem ddL_law_1032 : decode code 1032 = .ok (.aload_n 2, 1) := by decide +kernel
theorem ddL_law_1033 : decode code 1033 = .ok (.aload_n 0, 1) := by decide +kernel
theorem ddL_law_1034 : decode code 1034 = .ok (.iload 5, 2) := by decide +kernel
theorem ddL_law_1036 : decode code 1036 = .ok (.iconst 1, 1) := by decide +kernel
theorem ddL_law_1037 : decode code 1037 = .ok (.iadd, 1) := by decide +kernel
theorem ddL_law_1038 : decode code 1038 = .ok (.iaload, 1) := by decide +kernel
theorem ddL_law_1039 : decode code 1039 = .ok (.aload_n 0, 1) := by decide +kernel
theorem ddL_law_1040 : decode code 1040 = .ok (.iload 5, 2) := by decide +kernel
theorem ddL_law_1042 : decode code 1042 = .ok (.iconst 2, 1) := by decide +kernel
theorem ddL_law_1043 : decode code 1043 = .ok (.iadd, 1) := by decide +kernel
theorem ddL_law_1044 : decode code 1044 = .ok (.iaload, 1) := by decide +kernel
theorem ddL_law_1045 : decode code 1045 = .ok (.invokevirtual 202, 3) := by decide +kernel
theorem ddL_law_1048 : decode code 1048 = .ok (.istore 7, 2) := by decide +kernel
theorem ddL_law_1050 : decode code 1050 = .ok (.aload_n 2, 1) := by decide +kernel
theorem ddL_law_1051 : decode code 1051 = .ok (.invokevirtual 156, 3) := by decide +kernel
theorem ddL_law_1054 : decode code 1054 = .ok (.iload 6, 2) := by decide +kernel
theorem ddL_law_1056 : decode code 1056 = .ok (.if_icmp .eq 5, 3) := by decide +kernel
theorem ddL_law_1059 : decode code 1059 = .ok (.iconst 0, 1) := by decide +kernel
theorem ddL_law_1060 : decode code 1060 = .ok (.ireturn, 1) := by decide +kernel
theorem ddL_law_1061 : decode code 1061 = .ok (.iload 6, 2) := by decide +kernel
theorem ddL_law_1063 : decode code 1063 = .ok (.ifCond .ne 15, 3) := by decide +kernel
theorem ddL_law_1066 : decode code 1066 = .ok (.aload_n 3, 1) := by decide +kernel
theorem ddL_law_1067 : decode code 1067 = .ok (.iconst 0, 1) := by decide +kernel
theorem ddL_law_1068 : decode code 1068 = .ok (.laload, 1) := by decide +kernel
theorem ddL_law_1069 : decode code 1069 = .ok (.iload 7, 2) := by decide +kernel
theorem ddL_law_1071 : decode code 1071 = .ok (.i2l, 1) := by decide +kernel
theorem ddL_law_1072 : decode code 1072 = .ok (.lcmp, 1) := by decide +kernel
theorem ddL_law_1073 : decode code 1073 = .ok (.ifCond .eq 5, 3) := by decide +kernel
theorem ddL_law_1076 : decode code 1076 = .ok (.iconst 0, 1) := by decide +kernel
theorem ddL_law_1077 : decode code 1077 = .ok (.ireturn, 1) := by decide +kernel
theorem ddL_law_1078 : decode code 1078 = .ok (.goto 1568, 3) := by decide +kernel
theorem ddL_law_1081 : decode code 1081 = .ok (.aload_n 1, 1) := by decide +kernel
theorem ddL_law_1082 : decode code 1082 = .ok (.aload_n 0, 1) := by decide +kernel
theorem ddL_law_1083 : decode code 1083 = .ok (.iload 5, 2) := by decide +kernel
theorem ddL_law_1085 : decode code 1085 = .ok (.iconst 1, 1) := by decide +kernel
theorem ddL_law_1086 : decode code 1086 = .ok (.iadd, 1) := by decide +kernel
theorem ddL_law_1087 : decode code 1087 = .ok (.iaload, 1) := by decide +kernel
theorem ddL_law_1088 : decode code 1088 = .ok (.aload_n 3, 1) := by decide +kernel
theorem ddL_law_1089 : decode code 1089 = .ok (.invokestatic 203, 3) := by decide +kernel
theorem ddL_law_1092 : decode code 1092 = .ok (.istore 6, 2) := by decide +kernel
theorem ddL_law_1094 : decode code 1094 = .ok (.aload_n 2, 1) := by decide +kernel
theorem ddL_law_1095 : decode code 1095 = .ok (.aload_n 0, 1) := by decide +kernel
theorem ddL_law_1096 : decode code 1096 = .ok (.iload 5, 2) := by decide +kernel
theorem ddL_law_1098 : decode code 1098 = .ok (.iconst 1, 1) := by decide +kernel
theorem ddL_law_1099 : decode code 1099 = .ok (.iadd, 1) := by decide +kernel
theorem ddL_law_1100 : decode code 1100 = .ok (.iaload, 1) := by decide +kernel
theorem ddL_law_1101 : decode code 1101 = .ok (.invokevirtual 205, 3) := by decide +kernel
theorem ddL_law_1104 : decode code 1104 = .ok (.istore 7, 2) := by decide +kernel
theorem ddL_law_1106 : decode code 1106 = .ok (.aload_n 2, 1) := by decide +kernel
theorem ddL_law_1107 : decode code 1107 = .ok (.invokevirtual 156, 3) := by decide +kernel
theorem ddL_law_1110 : decode code 1110 = .ok (.iload 6, 2) := by decide +kernel
theorem ddL_law_1112 : decode code 1112 = .ok (.if_icmp .eq 5, 3) := by decide +kernel
theorem ddL_law_1115 : decode code 1115 = .ok (.iconst 0, 1) := by decide +kernel
theorem ddL_law_1116 : decode code 1116 = .ok (.ireturn, 1) := by decide +kernel
theorem ddL_law_1117 : decode code 1117 = .ok (.iload 6, 2) := by decide +kernel
theorem ddL_law_1119 : decode code 1119 = .ok (.ifCond .ne 15, 3) := by decide +kernel
theorem ddL_law_1122 : decode code 1122 = .ok (.aload_n 3, 1) := by decide +kernel
theorem ddL_law_1123 : decode code 1123 = .ok (.iconst 0, 1) := by decide +kernel
theorem ddL_law_1124 : decode code 1124 = .ok (.laload, 1) := by decide +kernel
theorem ddL_law_1125 : decode code 1125 = .ok (.iload 7, 2) := by decide +kernel
theorem ddL_law_1127 : decode code 1127 = .ok (.i2l, 1) := by decide +kernel
theorem ddL_law_1128 : decode code 1128 = .ok (.lcmp, 1) := by decide +kernel
theorem ddL_law_1129 : decode code 1129 = .ok (.ifCond .eq 5, 3) := by decide +kernel
theorem ddL_law_1132 : decode code 1132 = .ok (.iconst 0, 1) := by decide +kernel
theorem ddL_law_1133 : decode code 1133 = .ok (.ireturn, 1) := by decide +kernel
theorem ddL_law_1134 : decode code 1134 = .ok (.goto 1512, 3) := by decide +kernel
theorem ddL_law_1137 : decode code 1137 = .ok (.aload_n 1, 1) := by decide +kernel
theorem ddL_law_1138 : decode code 1138 = .ok (.invokevirtual 206, 3) := by decide +kernel
theorem ddL_law_1141 : decode code 1141 = .ok (.aload_n 2, 1) := by decide +kernel
theorem ddL_law_1142 : decode code 1142 = .ok (.invokevirtual 209, 3) := by decide +kernel
theorem ddL_law_1145 : decode code 1145 = .ok (.if_icmp .eq 1501, 3) := by decide +kernel
theorem ddL_law_1148 : decode code 1148 = .ok (.iconst 0, 1) := by decide +kernel
theorem ddL_law_1149 : decode code 1149 = .ok (.ireturn, 1) := by decide +kernel
theorem ddL_law_1150 : decode code 1150 = .ok (.aload_n 1, 1) := by decide +kernel
theorem ddL_law_1151 : decode code 1151 = .ok (.aload_n 0, 1) := by decide +kernel
theorem ddL_law_1152 : decode code 1152 = .ok (.iload 5, 2) := by decide +kernel
theorem ddL_law_1154 : decode code 1154 = .ok (.iconst 1, 1) := by decide +kernel
theorem ddL_law_1155 : decode code 1155 = .ok (.iadd, 1) := by decide +kernel
theorem ddL_law_1156 : decode code 1156 = .ok (.iaload, 1) := by decide +kernel
theorem ddL_law_1157 : decode code 1157 = .ok (.aload_n 3, 1) := by decide +kernel
theorem ddL_law_1158 : decode code 1158 = .ok (.invokestatic 210, 3) := by decide +kernel
theorem ddL_law_1161 : decode code 1161 = .ok (.istore 6, 2) := by decide +kernel
theorem ddL_law_1163 : decode code 1163 = .ok (.aload_n 2, 1) := by decide +kernel
theorem ddL_law_1164 : decode code 1164 = .ok (.aload_n 0, 1) := by decide +kernel
theorem ddL_law_1165 : decode code 1165 = .ok (.iload 5, 2) := by decide +kernel
theorem ddL_law_1167 : decode code 1167 = .ok (.iconst 1, 1) := by decide +kernel
theorem ddL_law_1168 : decode code 1168 = .ok (.iadd, 1) := by decide +kernel
theorem ddL_law_1169 : decode code 1169 = .ok (.iaload, 1) := by decide +kernel
theorem ddL_law_1170 : decode code 1170 = .ok (.invokevirtual 212, 3) := by decide +kernel
theorem ddL_law_1173 : decode code 1173 = .ok (.istore 7, 2) := by decide +kernel
theorem ddL_law_1175 : decode code 1175 = .ok (.aload_n 2, 1) := by decide +kernel
theorem ddL_law_1176 : decode code 1176 = .ok (.invokevirtual 156, 3) := by decide +kernel
theorem ddL_law_1179 : decode code 1179 = .ok (.iload 6, 2) := by decide +kernel
theorem ddL_law_1181 : decode code 1181 = .ok (.if_icmp .eq 5, 3) := by decide +kernel
theorem ddL_law_1184 : decode code 1184 = .ok (.iconst 0, 1) := by decide +kernel
theorem ddL_law_1185 : decode code 1185 = .ok (.ireturn, 1) := by decide +kernel
theorem ddL_law_1186 : decode code 1186 = .ok (.iload 6, 2) := by decide +kernel
theorem ddL_law_1188 : decode code 1188 = .ok (.ifCond .ne 15, 3) := by decide +kernel
theorem ddL_law_1191 : decode code 1191 = .ok (.aload_n 3, 1) := by decide +kernel
theorem ddL_law_1192 : decode code 1192 = .ok (.iconst 0, 1) := by decide +kernel
theorem ddL_law_1193 : decode code 1193 = .ok (.laload, 1) := by decide +kernel
theorem ddL_law_1194 : decode code 1194 = .ok (.iload 7, 2) := by decide +kernel
theorem ddL_law_1196 : decode code 1196 = .ok (.i2l, 1) := by decide +kernel
theorem ddL_law_1197 : decode code 1197 = .ok (.lcmp, 1) := by decide +kernel
theorem ddL_law_1198 : decode code 1198 = .ok (.ifCond .eq 5, 3) := by decide +kernel
theorem ddL_law_1201 : decode code 1201 = .ok (.iconst 0, 1) := by decide +kernel
theorem ddL_law_1202 : decode code 1202 = .ok (.ireturn, 1) := by decide +kernel
theorem ddL_law_1203 : decode code 1203 = .ok (.goto 1443, 3) := by decide +kernel
theorem ddL_law_1206 : decode code 1206 = .ok (.aload_n 1, 1) := by decide +kernel
theorem ddL_law_1207 : decode code 1207 = .ok (.invokevirtual 213, 3) := by decide +kernel
theorem ddL_law_1210 : decode code 1210 = .ok (.aload_n 2, 1) := by decide +kernel
theorem ddL_law_1211 : decode code 1211 = .ok (.invokevirtual 216, 3) := by decide +kernel
theorem ddL_law_1214 : decode code 1214 = .ok (.if_icmp .eq 1432, 3) := by decide +kernel
theorem ddL_law_1217 : decode code 1217 = .ok (.iconst 0, 1) := by decide +kernel
theorem ddL_law_1218 : decode code 1218 = .ok (.ireturn, 1) := by decide +kernel
theorem ddL_law_1219 : decode code 1219 = .ok (.aload_n 1, 1) := by decide +kernel
theorem ddL_law_1220 : decode code 1220 = .ok (.invokevirtual 217, 3) := by decide +kernel
theorem ddL_law_1223 : decode code 1223 = .ok (.aload_n 2, 1) := by decide +kernel
theorem ddL_law_1224 : decode code 1224 = .ok (.invokevirtual 220, 3) := by decide +kernel
theorem ddL_law_1227 : decode code 1227 = .ok (.if_icmp .eq 1419, 3) := by decide +kernel
theorem ddL_law_1230 : decode code 1230 = .ok (.iconst 0, 1) := by decide +kernel
theorem ddL_law_1231 : decode code 1231 = .ok (.ireturn, 1) := by decide +kernel
theorem ddL_law_1232 : decode code 1232 = .ok (.aload_n 1, 1) := by decide +kernel
theorem ddL_law_1233 : decode code 1233 = .ok (.aload_n 0, 1) := by decide +kernel
theorem ddL_law_1234 : decode code 1234 = .ok (.iload 5, 2) := by decide +kernel
theorem ddL_law_1236 : decode code 1236 = .ok (.iconst 1, 1) := by decide +kernel
theorem ddL_law_1237 : decode code 1237 = .ok (.iadd, 1) := by decide +kernel
theorem ddL_law_1238 : decode code 1238 = .ok (.iaload, 1) := by decide +kernel
theorem ddL_law_1239 : decode code 1239 = .ok (.aload_n 3, 1) := by decide +kernel
theorem ddL_law_1240 : decode code 1240 = .ok (.invokestatic 221, 3) := by decide +kernel
theorem ddL_law_1243 : decode code 1243 = .ok (.istore 6, 2) := by decide +kernel
theorem ddL_law_1245 : decode code 1245 = .ok (.aload_n 2, 1) := by decide +kernel
theorem ddL_law_1246 : decode code 1246 = .ok (.aload_n 0, 1) := by decide +kernel
theorem ddL_law_1247 : decode code 1247 = .ok (.iload 5, 2) := by decide +kernel
theorem ddL_law_1249 : decode code 1249 = .ok (.iconst 1, 1) := by decide +kernel
theorem ddL_law_1250 : decode code 1250 = .ok (.iadd, 1) := by decide +kernel
theorem ddL_law_1251 : decode code 1251 = .ok (.iaload, 1) := by decide +kernel
theorem ddL_law_1252 : decode code 1252 = .ok (.invokevirtual 223, 3) := by decide +kernel
theorem ddL_law_1255 : decode code 1255 = .ok (.istore 7, 2) := by decide +kernel
theorem ddL_law_1257 : decode code 1257 = .ok (.aload_n 2, 1) := by decide +kernel
theorem ddL_law_1258 : decode code 1258 = .ok (.invokevirtual 156, 3) := by decide +kernel
theorem ddL_law_1261 : decode code 1261 = .ok (.iload 6, 2) := by decide +kernel
theorem ddL_law_1263 : decode code 1263 = .ok (.if_icmp .eq 5, 3) := by decide +kernel
theorem ddL_law_1266 : decode code 1266 = .ok (.iconst 0, 1) := by decide +kernel
theorem ddL_law_1267 : decode code 1267 = .ok (.ireturn, 1) := by decide +kernel
theorem ddL_law_1268 : decode code 1268 = .ok (.iload 6, 2) := by decide +kernel
theorem ddL_law_1270 : decode code 1270 = .ok (.ifCond .ne 15, 3) := by decide +kernel
theorem ddL_law_1273 : decode code 1273 = .ok (.aload_n 3, 1) := by decide +kernel
theorem ddL_law_1274 : decode code 1274 = .ok (.iconst 0, 1) := by decide +kernel
theorem ddL_law_1275 : decode code 1275 = .ok (.laload, 1) := by decide +kernel
theorem ddL_law_1276 : decode code 1276 = .ok (.iload 7, 2) := by decide +kernel
theorem ddL_law_1278 : decode code 1278 = .ok (.i2l, 1) := by decide +kernel
theorem ddL_law_1279 : decode code 1279 = .ok (.lcmp, 1) := by decide +kernel
theorem ddL_law_1280 : decode code 1280 = .ok (.ifCond .eq 5, 3) := by decide +kernel
theorem ddL_law_1283 : decode code 1283 = .ok (.iconst 0, 1) := by decide +kernel
theorem ddL_law_1284 : decode code 1284 = .ok (.ireturn, 1) := by decide +kernel
theorem ddL_law_1285 : decode code 1285 = .ok (.goto 1361, 3) := by decide +kernel
theorem ddL_law_1288 : decode code 1288 = .ok (.aload_n 1, 1) := by decide +kernel
theorem ddL_law_1289 : decode code 1289 = .ok (.aload_n 0, 1) := by decide +kernel
theorem ddL_law_1290 : decode code 1290 = .ok (.iload 5, 2) := by decide +kernel
theorem ddL_law_1292 : decode code 1292 = .ok (.iconst 1, 1) := by decide +kernel
theorem ddL_law_1293 : decode code 1293 = .ok (.iadd, 1) := by decide +kernel
theorem ddL_law_1294 : decode code 1294 = .ok (.iaload, 1) := by decide +kernel
theorem ddL_law_1295 : decode code 1295 = .ok (.aload_n 3, 1) := by decide +kernel
theorem ddL_law_1296 : decode code 1296 = .ok (.invokestatic 224, 3) := by decide +kernel
theorem ddL_law_1299 : decode code 1299 = .ok (.istore 6, 2) := by decide +kernel
theorem ddL_law_1301 : decode code 1301 = .ok (.aload_n 2, 1) := by decide +kernel
theorem ddL_law_1302 : decode code 1302 = .ok (.aload_n 0, 1) := by decide +kernel
theorem ddL_law_1303 : decode code 1303 = .ok (.iload 5, 2) := by decide +kernel
theorem ddL_law_1305 : decode code 1305 = .ok (.iconst 1, 1) := by decide +kernel
theorem ddL_law_1306 : decode code 1306 = .ok (.iadd, 1) := by decide +kernel
theorem ddL_law_1307 : decode code 1307 = .ok (.iaload, 1) := by decide +kernel
theorem ddL_law_1308 : decode code 1308 = .ok (.invokevirtual 226, 3) := by decide +kernel
theorem ddL_law_1311 : decode code 1311 = .ok (.istore 7, 2) := by decide +kernel
theorem ddL_law_1313 : decode code 1313 = .ok (.aload_n 2, 1) := by decide +kernel
theorem ddL_law_1314 : decode code 1314 = .ok (.invokevirtual 156, 3) := by decide +kernel
theorem ddL_law_1317 : decode code 1317 = .ok (.iload 6, 2) := by decide +kernel
theorem ddL_law_1319 : decode code 1319 = .ok (.if_icmp .eq 5, 3) := by decide +kernel
theorem ddL_law_1322 : decode code 1322 = .ok (.iconst 0, 1) := by decide +kernel
theorem ddL_law_1323 : decode code 1323 = .ok (.ireturn, 1) := by decide +kernel
theorem ddL_law_1324 : decode code 1324 = .ok (.iload 6, 2) := by decide +kernel
theorem ddL_law_1326 : decode code 1326 = .ok (.ifCond .ne 15, 3) := by decide +kernel
theorem ddL_law_1329 : decode code 1329 = .ok (.aload_n 3, 1) := by decide +kernel
theorem ddL_law_1330 : decode code 1330 = .ok (.iconst 0, 1) := by decide +kernel
theorem ddL_law_1331 : decode code 1331 = .ok (.laload, 1) := by decide +kernel
theorem ddL_law_1332 : decode code 1332 = .ok (.iload 7, 2) := by decide +kernel
theorem ddL_law_1334 : decode code 1334 = .ok (.i2l, 1) := by decide +kernel
theorem ddL_law_1335 : decode code 1335 = .ok (.lcmp, 1) := by decide +kernel
theorem ddL_law_1336 : decode code 1336 = .ok (.ifCond .eq 5, 3) := by decide +kernel
theorem ddL_law_1339 : decode code 1339 = .ok (.iconst 0, 1) := by decide +kernel
theorem ddL_law_1340 : decode code 1340 = .ok (.ireturn, 1) := by decide +kernel
theorem ddL_law_1341 : decode code 1341 = .ok (.goto 1305, 3) := by decide +kernel
theorem ddL_law_1344 : decode code 1344 = .ok (.aload_n 1, 1) := by decide +kernel
theorem ddL_law_1345 : decode code 1345 = .ok (.aload_n 0, 1) := by decide +kernel
theorem ddL_law_1346 : decode code 1346 = .ok (.iload 5, 2) := by decide +kernel
theorem ddL_law_1348 : decode code 1348 = .ok (.iconst 1, 1) := by decide +kernel
theorem ddL_law_1349 : decode code 1349 = .ok (.iadd, 1) := by decide +kernel
theorem ddL_law_1350 : decode code 1350 = .ok (.iaload, 1) := by decide +kernel
theorem ddL_law_1351 : decode code 1351 = .ok (.aload_n 3, 1) := by decide +kernel
theorem ddL_law_1352 : decode code 1352 = .ok (.invokestatic 227, 3) := by decide +kernel
theorem ddL_law_1355 : decode code 1355 = .ok (.istore 6, 2) := by decide +kernel
theorem ddL_law_1357 : decode code 1357 = .ok (.aload_n 2, 1) := by decide +kernel
theorem ddL_law_1358 : decode code 1358 = .ok (.aload_n 0, 1) := by decide +kernel
theorem ddL_law_1359 : decode code 1359 = .ok (.iload 5, 2) := by decide +kernel
theorem ddL_law_1361 : decode code 1361 = .ok (.iconst 1, 1) := by decide +kernel
theorem ddL_law_1362 : decode code 1362 = .ok (.iadd, 1) := by decide +kernel
theorem ddL_law_1363 : decode code 1363 = .ok (.iaload, 1) := by decide +kernel
theorem ddL_law_1364 : decode code 1364 = .ok (.invokevirtual 229, 3) := by decide +kernel
theorem ddL_law_1367 : decode code 1367 = .ok (.istore 7, 2) := by decide +kernel
theorem ddL_law_1369 : decode code 1369 = .ok (.aload_n 2, 1) := by decide +kernel
theorem ddL_law_1370 : decode code 1370 = .ok (.invokevirtual 156, 3) := by decide +kernel
theorem ddL_law_1373 : decode code 1373 = .ok (.iload 6, 2) := by decide +kernel
theorem ddL_law_1375 : decode code 1375 = .ok (.if_icmp .eq 5, 3) := by decide +kernel
theorem ddL_law_1378 : decode code 1378 = .ok (.iconst 0, 1) := by decide +kernel
theorem ddL_law_1379 : decode code 1379 = .ok (.ireturn, 1) := by decide +kernel
theorem ddL_law_1380 : decode code 1380 = .ok (.iload 6, 2) := by decide +kernel
theorem ddL_law_1382 : decode code 1382 = .ok (.ifCond .ne 15, 3) := by decide +kernel
theorem ddL_law_1385 : decode code 1385 = .ok (.aload_n 3, 1) := by decide +kernel
theorem ddL_law_1386 : decode code 1386 = .ok (.iconst 0, 1) := by decide +kernel
theorem ddL_law_1387 : decode code 1387 = .ok (.laload, 1) := by decide +kernel
theorem ddL_law_1388 : decode code 1388 = .ok (.iload 7, 2) := by decide +kernel
theorem ddL_law_1390 : decode code 1390 = .ok (.i2l, 1) := by decide +kernel
theorem ddL_law_1391 : decode code 1391 = .ok (.lcmp, 1) := by decide +kernel
theorem ddL_law_1392 : decode code 1392 = .ok (.ifCond .eq 5, 3) := by decide +kernel
theorem ddL_law_1395 : decode code 1395 = .ok (.iconst 0, 1) := by decide +kernel
theorem ddL_law_1396 : decode code 1396 = .ok (.ireturn, 1) := by decide +kernel
theorem ddL_law_1397 : decode code 1397 = .ok (.goto 1249, 3) := by decide +kernel
theorem ddL_law_1400 : decode code 1400 = .ok (.aload_n 1, 1) := by decide +kernel
theorem ddL_law_1401 : decode code 1401 = .ok (.aload_n 0, 1) := by decide +kernel
theorem ddL_law_1402 : decode code 1402 = .ok (.iload 5, 2) := by decide +kernel
theorem ddL_law_1404 : decode code 1404 = .ok (.iconst 1, 1) := by decide +kernel
theorem ddL_law_1405 : decode code 1405 = .ok (.iadd, 1) := by decide +kernel
theorem ddL_law_1406 : decode code 1406 = .ok (.iaload, 1) := by decide +kernel
theorem ddL_law_1407 : decode code 1407 = .ok (.aload_n 3, 1) := by decide +kernel
theorem ddL_law_1408 : decode code 1408 = .ok (.invokestatic 230, 3) := by decide +kernel
theorem ddL_law_1411 : decode code 1411 = .ok (.istore 6, 2) := by decide +kernel
theorem ddL_law_1413 : decode code 1413 = .ok (.aload_n 2, 1) := by decide +kernel
theorem ddL_law_1414 : decode code 1414 = .ok (.aload_n 0, 1) := by decide +kernel
theorem ddL_law_1415 : decode code 1415 = .ok (.iload 5, 2) := by decide +kernel
theorem ddL_law_1417 : decode code 1417 = .ok (.iconst 1, 1) := by decide +kernel
theorem ddL_law_1418 : decode code 1418 = .ok (.iadd, 1) := by decide +kernel
theorem ddL_law_1419 : decode code 1419 = .ok (.iaload, 1) := by decide +kernel
theorem ddL_law_1420 : decode code 1420 = .ok (.invokevirtual 232, 3) := by decide +kernel
theorem ddL_law_1423 : decode code 1423 = .ok (.istore 7, 2) := by decide +kernel
theorem ddL_law_1425 : decode code 1425 = .ok (.aload_n 2, 1) := by decide +kernel
theorem ddL_law_1426 : decode code 1426 = .ok (.invokevirtual 156, 3) := by decide +kernel
theorem ddL_law_1429 : decode code 1429 = .ok (.iload 6, 2) := by decide +kernel
theorem ddL_law_1431 : decode code 1431 = .ok (.if_icmp .eq 5, 3) := by decide +kernel
theorem ddL_law_1434 : decode code 1434 = .ok (.iconst 0, 1) := by decide +kernel
theorem ddL_law_1435 : decode code 1435 = .ok (.ireturn, 1) := by decide +kernel
theorem ddL_law_1436 : decode code 1436 = .ok (.iload 6, 2) := by decide +kernel
theorem ddL_law_1438 : decode code 1438 = .ok (.ifCond .ne 15, 3) := by decide +kernel
theorem ddL_law_1441 : decode code 1441 = .ok (.aload_n 3, 1) := by decide +kernel
theorem ddL_law_1442 : decode code 1442 = .ok (.iconst 0, 1) := by decide +kernel
theorem ddL_law_1443 : decode code 1443 = .ok (.laload, 1) := by decide +kernel
theorem ddL_law_1444 : decode code 1444 = .ok (.iload 7, 2) := by decide +kernel
theorem ddL_law_1446 : decode code 1446 = .ok (.i2l, 1) := by decide +kernel
theorem ddL_law_1447 : decode code 1447 = .ok (.lcmp, 1) := by decide +kernel
theorem ddL_law_1448 : decode code 1448 = .ok (.ifCond .eq 5, 3) := by decide +kernel
theorem ddL_law_1451 : decode code 1451 = .ok (.iconst 0, 1) := by decide +kernel
theorem ddL_law_1452 : decode code 1452 = .ok (.ireturn, 1) := by decide +kernel
theorem ddL_law_1453 : decode code 1453 = .ok (.goto 1193, 3) := by decide +kernel
theorem ddL_law_1456 : decode code 1456 = .ok (.aload_n 1, 1) := by decide +kernel
theorem ddL_law_1457 : decode code 1457 = .ok (.aload_n 0, 1) := by decide +kernel
theorem ddL_law_1458 : decode code 1458 = .ok (.iload 5, 2) := by decide +kernel
theorem ddL_law_1460 : decode code 1460 = .ok (.iconst 1, 1) := by decide +kernel
theorem ddL_law_1461 : decode code 1461 = .ok (.iadd, 1) := by decide +kernel
theorem ddL_law_1462 : decode code 1462 = .ok (.iaload, 1) := by decide +kernel
theorem ddL_law_1463 : decode code 1463 = .ok (.aload_n 3, 1) := by decide +kernel
theorem ddL_law_1464 : decode code 1464 = .ok (.invokestatic 233, 3) := by decide +kernel
theorem ddL_law_1467 : decode code 1467 = .ok (.istore 6, 2) := by decide +kernel
theorem ddL_law_1469 : decode code 1469 = .ok (.aload_n 2, 1) := by decide +kernel
theorem ddL_law_1470 : decode code 1470 = .ok (.aload_n 0, 1) := by decide +kernel
theorem ddL_law_1471 : decode code 1471 = .ok (.iload 5, 2) := by decide +kernel
theorem ddL_law_1473 : decode code 1473 = .ok (.iconst 1, 1) := by decide +kernel
theorem ddL_law_1474 : decode code 1474 = .ok (.iadd, 1) := by decide +kernel
theorem ddL_law_1475 : decode code 1475 = .ok (.iaload, 1) := by decide +kernel
theorem ddL_law_1476 : decode code 1476 = .ok (.invokevirtual 235, 3) := by decide +kernel
theorem ddL_law_1479 : decode code 1479 = .ok (.istore 7, 2) := by decide +kernel
theorem ddL_law_1481 : decode code 1481 = .ok (.aload_n 2, 1) := by decide +kernel
theorem ddL_law_1482 : decode code 1482 = .ok (.invokevirtual 156, 3) := by decide +kernel
theorem ddL_law_1485 : decode code 1485 = .ok (.iload 6, 2) := by decide +kernel
theorem ddL_law_1487 : decode code 1487 = .ok (.if_icmp .eq 5, 3) := by decide +kernel
theorem ddL_law_1490 : decode code 1490 = .ok (.iconst 0, 1) := by decide +kernel
theorem ddL_law_1491 : decode code 1491 = .ok (.ireturn, 1) := by decide +kernel
theorem ddL_law_1492 : decode code 1492 = .ok (.iload 6, 2) := by decide +kernel
theorem ddL_law_1494 : decode code 1494 = .ok (.ifCond .ne 15, 3) := by decide +kernel
theorem ddL_law_1497 : decode code 1497 = .ok (.aload_n 3, 1) := by decide +kernel
theorem ddL_law_1498 : decode code 1498 = .ok (.iconst 0, 1) := by decide +kernel
theorem ddL_law_1499 : decode code 1499 = .ok (.laload, 1) := by decide +kernel
theorem ddL_law_1500 : decode code 1500 = .ok (.iload 7, 2) := by decide +kernel
theorem ddL_law_1502 : decode code 1502 = .ok (.i2l, 1) := by decide +kernel
theorem ddL_law_1503 : decode code 1503 = .ok (.lcmp, 1) := by decide +kernel
theorem ddL_law_1504 : decode code 1504 = .ok (.ifCond .eq 5, 3) := by decide +kernel
theorem ddL_law_1507 : decode code 1507 = .ok (.iconst 0, 1) := by decide +kernel
theorem ddL_law_1508 : decode code 1508 = .ok (.ireturn, 1) := by decide +kernel
theorem ddL_law_1509 : decode code 1509 = .ok (.goto 1137, 3) := by decide +kernel
theorem ddL_law_1512 : decode code 1512 = .ok (.aload_n 1, 1) := by decide +kernel
theorem ddL_law_1513 : decode code 1513 = .ok (.aload_n 0, 1) := by decide +kernel
theorem ddL_law_1514 : decode code 1514 = .ok (.iload 5, 2) := by decide +kernel
theorem ddL_law_1516 : decode code 1516 = .ok (.iconst 1, 1) := by decide +kernel
theorem ddL_law_1517 : decode code 1517 = .ok (.iadd, 1) := by decide +kernel
theorem ddL_law_1518 : decode code 1518 = .ok (.iaload, 1) := by decide +kernel
theorem ddL_law_1519 : decode code 1519 = .ok (.aload_n 0, 1) := by decide +kernel
theorem ddL_law_1520 : decode code 1520 = .ok (.iload 5, 2) := by decide +kernel
theorem ddL_law_1522 : decode code 1522 = .ok (.iconst 2, 1) := by decide +kernel
theorem ddL_law_1523 : decode code 1523 = .ok (.iadd, 1) := by decide +kernel
theorem ddL_law_1524 : decode code 1524 = .ok (.iaload, 1) := by decide +kernel
theorem ddL_law_1525 : decode code 1525 = .ok (.aload_n 0, 1) := by decide +kernel
theorem ddL_law_1526 : decode code 1526 = .ok (.iload 5, 2) := by decide +kernel
theorem ddL_law_1528 : decode code 1528 = .ok (.iconst 3, 1) := by decide +kernel
theorem ddL_law_1529 : decode code 1529 = .ok (.iadd, 1) := by decide +kernel
theorem ddL_law_1530 : decode code 1530 = .ok (.iaload, 1) := by decide +kernel
theorem ddL_law_1531 : decode code 1531 = .ok (.aload_n 3, 1) := by decide +kernel
theorem ddL_law_1532 : decode code 1532 = .ok (.invokestatic 236, 3) := by decide +kernel
theorem ddL_law_1535 : decode code 1535 = .ok (.istore 6, 2) := by decide +kernel
theorem ddL_law_1537 : decode code 1537 = .ok (.aload_n 2, 1) := by decide +kernel
theorem ddL_law_1538 : decode code 1538 = .ok (.aload_n 0, 1) := by decide +kernel
theorem ddL_law_1539 : decode code 1539 = .ok (.iload 5, 2) := by decide +kernel
theorem ddL_law_1541 : decode code 1541 = .ok (.iconst 1, 1) := by decide +kernel
theorem ddL_law_1542 : decode code 1542 = .ok (.iadd, 1) := by decide +kernel
theorem ddL_law_1543 : decode code 1543 = .ok (.iaload, 1) := by decide +kernel
theorem ddL_law_1544 : decode code 1544 = .ok (.aload_n 0, 1) := by decide +kernel
theorem ddL_law_1545 : decode code 1545 = .ok (.iload 5, 2) := by decide +kernel
theorem ddL_law_1547 : decode code 1547 = .ok (.iconst 2, 1) := by decide +kernel
theorem ddL_law_1548 : decode code 1548 = .ok (.iadd, 1) := by decide +kernel
theorem ddL_law_1549 : decode code 1549 = .ok (.iaload, 1) := by decide +kernel
theorem ddL_law_1550 : decode code 1550 = .ok (.aload_n 0, 1) := by decide +kernel
theorem ddL_law_1551 : decode code 1551 = .ok (.iload 5, 2) := by decide +kernel
theorem ddL_law_1553 : decode code 1553 = .ok (.iconst 3, 1) := by decide +kernel
theorem ddL_law_1554 : decode code 1554 = .ok (.iadd, 1) := by decide +kernel
theorem ddL_law_1555 : decode code 1555 = .ok (.iaload, 1) := by decide +kernel
theorem ddL_law_1556 : decode code 1556 = .ok (.invokevirtual 238, 3) := by decide +kernel
theorem ddL_law_1559 : decode code 1559 = .ok (.istore 7, 2) := by decide +kernel
theorem ddL_law_1561 : decode code 1561 = .ok (.aload_n 2, 1) := by decide +kernel
theorem ddL_law_1562 : decode code 1562 = .ok (.invokevirtual 156, 3) := by decide +kernel
theorem ddL_law_1565 : decode code 1565 = .ok (.iload 6, 2) := by decide +kernel
theorem ddL_law_1567 : decode code 1567 = .ok (.if_icmp .eq 5, 3) := by decide +kernel
theorem ddL_law_1570 : decode code 1570 = .ok (.iconst 0, 1) := by decide +kernel
theorem ddL_law_1571 : decode code 1571 = .ok (.ireturn, 1) := by decide +kernel
theorem ddL_law_1572 : decode code 1572 = .ok (.iload 6, 2) := by decide +kernel
theorem ddL_law_1574 : decode code 1574 = .ok (.ifCond .ne 15, 3) := by decide +kernel
theorem ddL_law_1577 : decode code 1577 = .ok (.aload_n 3, 1) := by decide +kernel
theorem ddL_law_1578 : decode code 1578 = .ok (.iconst 0, 1) := by decide +kernel
theorem ddL_law_1579 : decode code 1579 = .ok (.laload, 1) := by decide +kernel
theorem ddL_law_1580 : decode code 1580 = .ok (.iload 7, 2) := by decide +kernel
theorem ddL_law_1582 : decode code 1582 = .ok (.i2l, 1) := by decide +kernel
theorem ddL_law_1583 : decode code 1583 = .ok (.lcmp, 1) := by decide +kernel
theorem ddL_law_1584 : decode code 1584 = .ok (.ifCond .eq 5, 3) := by decide +kernel
theorem ddL_law_1587 : decode code 1587 = .ok (.iconst 0, 1) := by decide +kernel
theorem ddL_law_1588 : decode code 1588 = .ok (.ireturn, 1) := by decide +kernel
theorem ddL_law_1589 : decode code 1589 = .ok (.goto 1057, 3) := by decide +kernel
theorem ddL_law_1592 : decode code 1592 = .ok (.aload_n 1, 1) := by decide +kernel
theorem ddL_law_1593 : decode code 1593 = .ok (.aload_n 0, 1) := by decide +kernel
theorem ddL_law_1594 : decode code 1594 = .ok (.iload 5, 2) := by decide +kernel
theorem ddL_law_1596 : decode code 1596 = .ok (.iconst 1, 1) := by decide +kernel
theorem ddL_law_1597 : decode code 1597 = .ok (.iadd, 1) := by decide +kernel
theorem ddL_law_1598 : decode code 1598 = .ok (.iaload, 1) := by decide +kernel
theorem ddL_law_1599 : decode code 1599 = .ok (.aload_n 0, 1) := by decide +kernel
theorem ddL_law_1600 : decode code 1600 = .ok (.iload 5, 2) := by decide +kernel
theorem ddL_law_1602 : decode code 1602 = .ok (.iconst 2, 1) := by decide +kernel
theorem ddL_law_1603 : decode code 1603 = .ok (.iadd, 1) := by decide +kernel
theorem ddL_law_1604 : decode code 1604 = .ok (.iaload, 1) := by decide +kernel
theorem ddL_law_1605 : decode code 1605 = .ok (.aload_n 3, 1) := by decide +kernel
theorem ddL_law_1606 : decode code 1606 = .ok (.invokestatic 239, 3) := by decide +kernel
theorem ddL_law_1609 : decode code 1609 = .ok (.istore 6, 2) := by decide +kernel
theorem ddL_law_1611 : decode code 1611 = .ok (.aload_n 2, 1) := by decide +kernel
theorem ddL_law_1612 : decode code 1612 = .ok (.aload_n 0, 1) := by decide +kernel
theorem ddL_law_1613 : decode code 1613 = .ok (.iload 5, 2) := by decide +kernel
theorem ddL_law_1615 : decode code 1615 = .ok (.iconst 1, 1) := by decide +kernel
theorem ddL_law_1616 : decode code 1616 = .ok (.iadd, 1) := by decide +kernel
theorem ddL_law_1617 : decode code 1617 = .ok (.iaload, 1) := by decide +kernel
theorem ddL_law_1618 : decode code 1618 = .ok (.aload_n 0, 1) := by decide +kernel
theorem ddL_law_1619 : decode code 1619 = .ok (.iload 5, 2) := by decide +kernel
theorem ddL_law_1621 : decode code 1621 = .ok (.iconst 2, 1) := by decide +kernel
theorem ddL_law_1622 : decode code 1622 = .ok (.iadd, 1) := by decide +kernel
theorem ddL_law_1623 : decode code 1623 = .ok (.iaload, 1) := by decide +kernel
theorem ddL_law_1624 : decode code 1624 = .ok (.invokevirtual 241, 3) := by decide +kernel
theorem ddL_law_1627 : decode code 1627 = .ok (.istore 7, 2) := by decide +kernel
theorem ddL_law_1629 : decode code 1629 = .ok (.aload_n 2, 1) := by decide +kernel
theorem ddL_law_1630 : decode code 1630 = .ok (.invokevirtual 156, 3) := by decide +kernel
theorem ddL_law_1633 : decode code 1633 = .ok (.iload 6, 2) := by decide +kernel
theorem ddL_law_1635 : decode code 1635 = .ok (.if_icmp .eq 5, 3) := by decide +kernel
theorem ddL_law_1638 : decode code 1638 = .ok (.iconst 0, 1) := by decide +kernel
theorem ddL_law_1639 : decode code 1639 = .ok (.ireturn, 1) := by decide +kernel
theorem ddL_law_1640 : decode code 1640 = .ok (.iload 6, 2) := by decide +kernel
theorem ddL_law_1642 : decode code 1642 = .ok (.ifCond .ne 15, 3) := by decide +kernel
theorem ddL_law_1645 : decode code 1645 = .ok (.aload_n 3, 1) := by decide +kernel
theorem ddL_law_1646 : decode code 1646 = .ok (.iconst 0, 1) := by decide +kernel
theorem ddL_law_1647 : decode code 1647 = .ok (.laload, 1) := by decide +kernel
theorem ddL_law_1648 : decode code 1648 = .ok (.iload 7, 2) := by decide +kernel
theorem ddL_law_1650 : decode code 1650 = .ok (.i2l, 1) := by decide +kernel
theorem ddL_law_1651 : decode code 1651 = .ok (.lcmp, 1) := by decide +kernel
theorem ddL_law_1652 : decode code 1652 = .ok (.ifCond .eq 5, 3) := by decide +kernel
theorem ddL_law_1655 : decode code 1655 = .ok (.iconst 0, 1) := by decide +kernel
theorem ddL_law_1656 : decode code 1656 = .ok (.ireturn, 1) := by decide +kernel
theorem ddL_law_1657 : decode code 1657 = .ok (.goto 989, 3) := by decide +kernel
theorem ddL_law_1660 : decode code 1660 = .ok (.aload_n 1, 1) := by decide +kernel
theorem ddL_law_1661 : decode code 1661 = .ok (.aload_n 0, 1) := by decide +kernel
theorem ddL_law_1662 : decode code 1662 = .ok (.iload 5, 2) := by decide +kernel
theorem ddL_law_1664 : decode code 1664 = .ok (.iconst 1, 1) := by decide +kernel
theorem ddL_law_1665 : decode code 1665 = .ok (.iadd, 1) := by decide +kernel
theorem ddL_law_1666 : decode code 1666 = .ok (.iaload, 1) := by decide +kernel
theorem ddL_law_1667 : decode code 1667 = .ok (.aload_n 0, 1) := by decide +kernel
theorem ddL_law_1668 : decode code 1668 = .ok (.iload 5, 2) := by decide +kernel
theorem ddL_law_1670 : decode code 1670 = .ok (.iconst 2, 1) := by decide +kernel
theorem ddL_law_1671 : decode code 1671 = .ok (.iadd, 1) := by decide +kernel
theorem ddL_law_1672 : decode code 1672 = .ok (.iaload, 1) := by decide +kernel
theorem ddL_law_1673 : decode code 1673 = .ok (.aload_n 3, 1) := by decide +kernel
theorem ddL_law_1674 : decode code 1674 = .ok (.invokestatic 242, 3) := by decide +kernel
theorem ddL_law_1677 : decode code 1677 = .ok (.istore 6, 2) := by decide +kernel
theorem ddL_law_1679 : decode code 1679 = .ok (.aload_n 2, 1) := by decide +kernel
theorem ddL_law_1680 : decode code 1680 = .ok (.aload_n 0, 1) := by decide +kernel
theorem ddL_law_1681 : decode code 1681 = .ok (.iload 5, 2) := by decide +kernel
theorem ddL_law_1683 : decode code 1683 = .ok (.iconst 1, 1) := by decide +kernel
theorem ddL_law_1684 : decode code 1684 = .ok (.iadd, 1) := by decide +kernel
theorem ddL_law_1685 : decode code 1685 = .ok (.iaload, 1) := by decide +kernel
theorem ddL_law_1686 : decode code 1686 = .ok (.aload_n 0, 1) := by decide +kernel
theorem ddL_law_1687 : decode code 1687 = .ok (.iload 5, 2) := by decide +kernel
theorem ddL_law_1689 : decode code 1689 = .ok (.iconst 2, 1) := by decide +kernel
theorem ddL_law_1690 : decode code 1690 = .ok (.iadd, 1) := by decide +kernel
theorem ddL_law_1691 : decode code 1691 = .ok (.iaload, 1) := by decide +kernel
theorem ddL_law_1692 : decode code 1692 = .ok (.invokevirtual 244, 3) := by decide +kernel
theorem ddL_law_1695 : decode code 1695 = .ok (.istore 7, 2) := by decide +kernel
theorem ddL_law_1697 : decode code 1697 = .ok (.aload_n 2, 1) := by decide +kernel
theorem ddL_law_1698 : decode code 1698 = .ok (.invokevirtual 156, 3) := by decide +kernel
theorem ddL_law_1701 : decode code 1701 = .ok (.iload 6, 2) := by decide +kernel
theorem ddL_law_1703 : decode code 1703 = .ok (.if_icmp .eq 5, 3) := by decide +kernel
theorem ddL_law_1706 : decode code 1706 = .ok (.iconst 0, 1) := by decide +kernel
theorem ddL_law_1707 : decode code 1707 = .ok (.ireturn, 1) := by decide +kernel
theorem ddL_law_1708 : decode code 1708 = .ok (.iload 6, 2) := by decide +kernel
theorem ddL_law_1710 : decode code 1710 = .ok (.ifCond .ne 22, 3) := by decide +kernel
theorem ddL_law_1713 : decode code 1713 = .ok (.aload_n 3, 1) := by decide +kernel
theorem ddL_law_1714 : decode code 1714 = .ok (.iconst 0, 1) := by decide +kernel
theorem ddL_law_1715 : decode code 1715 = .ok (.laload, 1) := by decide +kernel
theorem ddL_law_1716 : decode code 1716 = .ok (.iload 7, 2) := by decide +kernel
theorem ddL_law_1718 : decode code 1718 = .ok (.ifCond .eq 7, 3) := by decide +kernel
theorem ddL_law_1721 : decode code 1721 = .ok (.lconst 1, 1) := by decide +kernel
theorem ddL_law_1722 : decode code 1722 = .ok (.goto 4, 3) := by decide +kernel
theorem ddL_law_1725 : decode code 1725 = .ok (.lconst 0, 1) := by decide +kernel
theorem ddL_law_1726 : decode code 1726 = .ok (.lcmp, 1) := by decide +kernel
theorem ddL_law_1727 : decode code 1727 = .ok (.ifCond .eq 5, 3) := by decide +kernel
theorem ddL_law_1730 : decode code 1730 = .ok (.iconst 0, 1) := by decide +kernel
theorem ddL_law_1731 : decode code 1731 = .ok (.ireturn, 1) := by decide +kernel
theorem ddL_law_1732 : decode code 1732 = .ok (.goto 914, 3) := by decide +kernel
theorem ddL_law_1735 : decode code 1735 = .ok (.aload_n 1, 1) := by decide +kernel
theorem ddL_law_1736 : decode code 1736 = .ok (.aload_n 0, 1) := by decide +kernel
theorem ddL_law_1737 : decode code 1737 = .ok (.iload 5, 2) := by decide +kernel
theorem ddL_law_1739 : decode code 1739 = .ok (.iconst 1, 1) := by decide +kernel
theorem ddL_law_1740 : decode code 1740 = .ok (.iadd, 1) := by decide +kernel
theorem ddL_law_1741 : decode code 1741 = .ok (.iaload, 1) := by decide +kernel
theorem ddL_law_1742 : decode code 1742 = .ok (.aload_n 3, 1) := by decide +kernel
theorem ddL_law_1743 : decode code 1743 = .ok (.invokestatic 245, 3) := by decide +kernel
theorem ddL_law_1746 : decode code 1746 = .ok (.istore 6, 2) := by decide +kernel
theorem ddL_law_1748 : decode code 1748 = .ok (.aload_n 2, 1) := by decide +kernel
theorem ddL_law_1749 : decode code 1749 = .ok (.aload_n 0, 1) := by decide +kernel
theorem ddL_law_1750 : decode code 1750 = .ok (.iload 5, 2) := by decide +kernel
theorem ddL_law_1752 : decode code 1752 = .ok (.iconst 1, 1) := by decide +kernel
theorem ddL_law_1753 : decode code 1753 = .ok (.iadd, 1) := by decide +kernel
theorem ddL_law_1754 : decode code 1754 = .ok (.iaload, 1) := by decide +kernel
theorem ddL_law_1755 : decode code 1755 = .ok (.invokevirtual 247, 3) := by decide +kernel
theorem ddL_law_1758 : decode code 1758 = .ok (.istore 7, 2) := by decide +kernel
theorem ddL_law_1760 : decode code 1760 = .ok (.aload_n 2, 1) := by decide +kernel
theorem ddL_law_1761 : decode code 1761 = .ok (.invokevirtual 156, 3) := by decide +kernel
theorem ddL_law_1764 : decode code 1764 = .ok (.iload 6, 2) := by decide +kernel
theorem ddL_law_1766 : decode code 1766 = .ok (.if_icmp .eq 5, 3) := by decide +kernel
theorem ddL_law_1769 : decode code 1769 = .ok (.iconst 0, 1) := by decide +kernel
theorem ddL_law_1770 : decode code 1770 = .ok (.ireturn, 1) := by decide +kernel
theorem ddL_law_1771 : decode code 1771 = .ok (.iload 6, 2) := by decide +kernel
theorem ddL_law_1773 : decode code 1773 = .ok (.ifCond .ne 15, 3) := by decide +kernel
theorem ddL_law_1776 : decode code 1776 = .ok (.aload_n 3, 1) := by decide +kernel
theorem ddL_law_1777 : decode code 1777 = .ok (.iconst 0, 1) := by decide +kernel
theorem ddL_law_1778 : decode code 1778 = .ok (.laload, 1) := by decide +kernel
theorem ddL_law_1779 : decode code 1779 = .ok (.iload 7, 2) := by decide +kernel
theorem ddL_law_1781 : decode code 1781 = .ok (.i2l, 1) := by decide +kernel
theorem ddL_law_1782 : decode code 1782 = .ok (.lcmp, 1) := by decide +kernel
theorem ddL_law_1783 : decode code 1783 = .ok (.ifCond .eq 5, 3) := by decide +kernel
theorem ddL_law_1786 : decode code 1786 = .ok (.iconst 0, 1) := by decide +kernel
theorem ddL_law_1787 : decode code 1787 = .ok (.ireturn, 1) := by decide +kernel
theorem ddL_law_1788 : decode code 1788 = .ok (.goto 858, 3) := by decide +kernel
theorem ddL_law_1791 : decode code 1791 = .ok (.aload_n 1, 1) := by decide +kernel
theorem ddL_law_1792 : decode code 1792 = .ok (.aload_n 0, 1) := by decide +kernel
theorem ddL_law_1793 : decode code 1793 = .ok (.iload 5, 2) := by decide +kernel
theorem ddL_law_1795 : decode code 1795 = .ok (.iconst 1, 1) := by decide +kernel
theorem ddL_law_1796 : decode code 1796 = .ok (.iadd, 1) := by decide +kernel
theorem ddL_law_1797 : decode code 1797 = .ok (.iaload, 1) := by decide +kernel
theorem ddL_law_1798 : decode code 1798 = .ok (.aload_n 3, 1) := by decide +kernel
theorem ddL_law_1799 : decode code 1799 = .ok (.invokestatic 248, 3) := by decide +kernel
theorem ddL_law_1802 : decode code 1802 = .ok (.istore 6, 2) := by decide +kernel
theorem ddL_law_1804 : decode code 1804 = .ok (.aload_n 2, 1) := by decide +kernel
theorem ddL_law_1805 : decode code 1805 = .ok (.aload_n 0, 1) := by decide +kernel
theorem ddL_law_1806 : decode code 1806 = .ok (.iload 5, 2) := by decide +kernel
theorem ddL_law_1808 : decode code 1808 = .ok (.iconst 1, 1) := by decide +kernel
theorem ddL_law_1809 : decode code 1809 = .ok (.iadd, 1) := by decide +kernel
theorem ddL_law_1810 : decode code 1810 = .ok (.iaload, 1) := by decide +kernel
theorem ddL_law_1811 : decode code 1811 = .ok (.invokevirtual 250, 3) := by decide +kernel
theorem ddL_law_1814 : decode code 1814 = .ok (.istore 7, 2) := by decide +kernel
theorem ddL_law_1816 : decode code 1816 = .ok (.aload_n 2, 1) := by decide +kernel
theorem ddL_law_1817 : decode code 1817 = .ok (.invokevirtual 156, 3) := by decide +kernel
theorem ddL_law_1820 : decode code 1820 = .ok (.iload 6, 2) := by decide +kernel
theorem ddL_law_1822 : decode code 1822 = .ok (.if_icmp .eq 5, 3) := by decide +kernel
theorem ddL_law_1825 : decode code 1825 = .ok (.iconst 0, 1) := by decide +kernel
theorem ddL_law_1826 : decode code 1826 = .ok (.ireturn, 1) := by decide +kernel
theorem ddL_law_1827 : decode code 1827 = .ok (.iload 6, 2) := by decide +kernel
theorem ddL_law_1829 : decode code 1829 = .ok (.ifCond .ne 15, 3) := by decide +kernel
theorem ddL_law_1832 : decode code 1832 = .ok (.aload_n 3, 1) := by decide +kernel
theorem ddL_law_1833 : decode code 1833 = .ok (.iconst 0, 1) := by decide +kernel
theorem ddL_law_1834 : decode code 1834 = .ok (.laload, 1) := by decide +kernel
theorem ddL_law_1835 : decode code 1835 = .ok (.iload 7, 2) := by decide +kernel
theorem ddL_law_1837 : decode code 1837 = .ok (.i2l, 1) := by decide +kernel
theorem ddL_law_1838 : decode code 1838 = .ok (.lcmp, 1) := by decide +kernel
theorem ddL_law_1839 : decode code 1839 = .ok (.ifCond .eq 5, 3) := by decide +kernel
theorem ddL_law_1842 : decode code 1842 = .ok (.iconst 0, 1) := by decide +kernel
theorem ddL_law_1843 : decode code 1843 = .ok (.ireturn, 1) := by decide +kernel
theorem ddL_law_1844 : decode code 1844 = .ok (.goto 802, 3) := by decide +kernel
theorem ddL_law_1847 : decode code 1847 = .ok (.aload_n 1, 1) := by decide +kernel
theorem ddL_law_1848 : decode code 1848 = .ok (.aload_n 0, 1) := by decide +kernel
theorem ddL_law_1849 : decode code 1849 = .ok (.iload 5, 2) := by decide +kernel
theorem ddL_law_1851 : decode code 1851 = .ok (.iconst 1, 1) := by decide +kernel
theorem ddL_law_1852 : decode code 1852 = .ok (.iadd, 1) := by decide +kernel
theorem ddL_law_1853 : decode code 1853 = .ok (.iaload, 1) := by decide +kernel
theorem ddL_law_1854 : decode code 1854 = .ok (.aload_n 3, 1) := by decide +kernel
theorem ddL_law_1855 : decode code 1855 = .ok (.invokestatic 251, 3) := by decide +kernel
theorem ddL_law_1858 : decode code 1858 = .ok (.istore 6, 2) := by decide +kernel
theorem ddL_law_1860 : decode code 1860 = .ok (.aload_n 2, 1) := by decide +kernel
theorem ddL_law_1861 : decode code 1861 = .ok (.aload_n 0, 1) := by decide +kernel
theorem ddL_law_1862 : decode code 1862 = .ok (.iload 5, 2) := by decide +kernel
theorem ddL_law_1864 : decode code 1864 = .ok (.iconst 1, 1) := by decide +kernel
theorem ddL_law_1865 : decode code 1865 = .ok (.iadd, 1) := by decide +kernel
theorem ddL_law_1866 : decode code 1866 = .ok (.iaload, 1) := by decide +kernel
theorem ddL_law_1867 : decode code 1867 = .ok (.invokevirtual 253, 3) := by decide +kernel
theorem ddL_law_1870 : decode code 1870 = .ok (.istore 7, 2) := by decide +kernel
theorem ddL_law_1872 : decode code 1872 = .ok (.aload_n 2, 1) := by decide +kernel
theorem ddL_law_1873 : decode code 1873 = .ok (.invokevirtual 156, 3) := by decide +kernel
theorem ddL_law_1876 : decode code 1876 = .ok (.iload 6, 2) := by decide +kernel
theorem ddL_law_1878 : decode code 1878 = .ok (.if_icmp .eq 5, 3) := by decide +kernel
theorem ddL_law_1881 : decode code 1881 = .ok (.iconst 0, 1) := by decide +kernel
theorem ddL_law_1882 : decode code 1882 = .ok (.ireturn, 1) := by decide +kernel
theorem ddL_law_1883 : decode code 1883 = .ok (.iload 6, 2) := by decide +kernel
theorem ddL_law_1885 : decode code 1885 = .ok (.ifCond .ne 15, 3) := by decide +kernel
theorem ddL_law_1888 : decode code 1888 = .ok (.aload_n 3, 1) := by decide +kernel
theorem ddL_law_1889 : decode code 1889 = .ok (.iconst 0, 1) := by decide +kernel
theorem ddL_law_1890 : decode code 1890 = .ok (.laload, 1) := by decide +kernel
theorem ddL_law_1891 : decode code 1891 = .ok (.iload 7, 2) := by decide +kernel
theorem ddL_law_1893 : decode code 1893 = .ok (.i2l, 1) := by decide +kernel
theorem ddL_law_1894 : decode code 1894 = .ok (.lcmp, 1) := by decide +kernel
theorem ddL_law_1895 : decode code 1895 = .ok (.ifCond .eq 5, 3) := by decide +kernel
theorem ddL_law_1898 : decode code 1898 = .ok (.iconst 0, 1) := by decide +kernel
theorem ddL_law_1899 : decode code 1899 = .ok (.ireturn, 1) := by decide +kernel
theorem ddL_law_1900 : decode code 1900 = .ok (.goto 746, 3) := by decide +kernel
theorem ddL_law_1903 : decode code 1903 = .ok (.aload_n 1, 1) := by decide +kernel
theorem ddL_law_1904 : decode code 1904 = .ok (.invokevirtual 254, 3) := by decide +kernel
theorem ddL_law_1907 : decode code 1907 = .ok (.aload_n 2, 1) := by decide +kernel
theorem ddL_law_1908 : decode code 1908 = .ok (.invokevirtual 257, 3) := by decide +kernel
theorem ddL_law_1911 : decode code 1911 = .ok (.if_icmp .eq 735, 3) := by decide +kernel
theorem ddL_law_1914 : decode code 1914 = .ok (.iconst 0, 1) := by decide +kernel
theorem ddL_law_1915 : decode code 1915 = .ok (.ireturn, 1) := by decide +kernel
theorem ddL_law_1916 : decode code 1916 = .ok (.aload_n 1, 1) := by decide +kernel
theorem ddL_law_1917 : decode code 1917 = .ok (.invokevirtual 258, 3) := by decide +kernel
theorem ddL_law_1920 : decode code 1920 = .ok (.aload_n 2, 1) := by decide +kernel
theorem ddL_law_1921 : decode code 1921 = .ok (.invokevirtual 261, 3) := by decide +kernel
theorem ddL_law_1924 : decode code 1924 = .ok (.if_icmp .eq 722, 3) := by decide +kernel
theorem ddL_law_1927 : decode code 1927 = .ok (.iconst 0, 1) := by decide +kernel
theorem ddL_law_1928 : decode code 1928 = .ok (.ireturn, 1) := by decide +kernel
theorem ddL_law_1929 : decode code 1929 = .ok (.aload_n 1, 1) := by decide +kernel
theorem ddL_law_1930 : decode code 1930 = .ok (.invokevirtual 262, 3) := by decide +kernel
theorem ddL_law_1933 : decode code 1933 = .ok (.aload_n 2, 1) := by decide +kernel
theorem ddL_law_1934 : decode code 1934 = .ok (.invokevirtual 265, 3) := by decide +kernel
theorem ddL_law_1937 : decode code 1937 = .ok (.if_icmp .eq 709, 3) := by decide +kernel
theorem ddL_law_1940 : decode code 1940 = .ok (.iconst 0, 1) := by decide +kernel
theorem ddL_law_1941 : decode code 1941 = .ok (.ireturn, 1) := by decide +kernel
theorem ddL_law_1942 : decode code 1942 = .ok (.aload_n 1, 1) := by decide +kernel
theorem ddL_law_1943 : decode code 1943 = .ok (.aload_n 3, 1) := by decide +kernel
theorem ddL_law_1944 : decode code 1944 = .ok (.invokestatic 266, 3) := by decide +kernel
theorem ddL_law_1947 : decode code 1947 = .ok (.istore 6, 2) := by decide +kernel
theorem ddL_law_1949 : decode code 1949 = .ok (.aload_n 2, 1) := by decide +kernel
theorem ddL_law_1950 : decode code 1950 = .ok (.invokevirtual 269, 3) := by decide +kernel
theorem ddL_law_1953 : decode code 1953 = .ok (.istore 7, 2) := by decide +kernel
theorem ddL_law_1955 : decode code 1955 = .ok (.aload_n 2, 1) := by decide +kernel
theorem ddL_law_1956 : decode code 1956 = .ok (.invokevirtual 156, 3) := by decide +kernel
theorem ddL_law_1959 : decode code 1959 = .ok (.iload 6, 2) := by decide +kernel
theorem ddL_law_1961 : decode code 1961 = .ok (.if_icmp .eq 5, 3) := by decide +kernel
theorem ddL_law_1964 : decode code 1964 = .ok (.iconst 0, 1) := by decide +kernel
theorem ddL_law_1965 : decode code 1965 = .ok (.ireturn, 1) := by decide +kernel
theorem ddL_law_1966 : decode code 1966 = .ok (.iload 6, 2) := by decide +kernel
theorem ddL_law_1968 : decode code 1968 = .ok (.ifCond .ne 15, 3) := by decide +kernel
theorem ddL_law_1971 : decode code 1971 = .ok (.aload_n 3, 1) := by decide +kernel
theorem ddL_law_1972 : decode code 1972 = .ok (.iconst 0, 1) := by decide +kernel
theorem ddL_law_1973 : decode code 1973 = .ok (.laload, 1) := by decide +kernel
theorem ddL_law_1974 : decode code 1974 = .ok (.iload 7, 2) := by decide +kernel
theorem ddL_law_1976 : decode code 1976 = .ok (.i2l, 1) := by decide +kernel
theorem ddL_law_1977 : decode code 1977 = .ok (.lcmp, 1) := by decide +kernel
theorem ddL_law_1978 : decode code 1978 = .ok (.ifCond .eq 5, 3) := by decide +kernel
theorem ddL_law_1981 : decode code 1981 = .ok (.iconst 0, 1) := by decide +kernel
theorem ddL_law_1982 : decode code 1982 = .ok (.ireturn, 1) := by decide +kernel
theorem ddL_law_1983 : decode code 1983 = .ok (.goto 663, 3) := by decide +kernel
theorem ddL_law_1986 : decode code 1986 = .ok (.aload_n 1, 1) := by decide +kernel
theorem ddL_law_1987 : decode code 1987 = .ok (.aload_n 3, 1) := by decide +kernel
theorem ddL_law_1988 : decode code 1988 = .ok (.invokestatic 270, 3) := by decide +kernel
theorem ddL_law_1991 : decode code 1991 = .ok (.istore 6, 2) := by decide +kernel
theorem ddL_law_1993 : decode code 1993 = .ok (.aload_n 2, 1) := by decide +kernel
theorem ddL_law_1994 : decode code 1994 = .ok (.invokevirtual 272, 3) := by decide +kernel
theorem ddL_law_1997 : decode code 1997 = .ok (.istore 7, 2) := by decide +kernel
theorem ddL_law_1999 : decode code 1999 = .ok (.aload_n 2, 1) := by decide +kernel
theorem ddL_law_2000 : decode code 2000 = .ok (.invokevirtual 156, 3) := by decide +kernel
theorem ddL_law_2003 : decode code 2003 = .ok (.iload 6, 2) := by decide +kernel
theorem ddL_law_2005 : decode code 2005 = .ok (.if_icmp .eq 5, 3) := by decide +kernel
theorem ddL_law_2008 : decode code 2008 = .ok (.iconst 0, 1) := by decide +kernel
theorem ddL_law_2009 : decode code 2009 = .ok (.ireturn, 1) := by decide +kernel
theorem ddL_law_2010 : decode code 2010 = .ok (.iload 6, 2) := by decide +kernel
theorem ddL_law_2012 : decode code 2012 = .ok (.ifCond .ne 15, 3) := by decide +kernel
theorem ddL_law_2015 : decode code 2015 = .ok (.aload_n 3, 1) := by decide +kernel
theorem ddL_law_2016 : decode code 2016 = .ok (.iconst 0, 1) := by decide +kernel
theorem ddL_law_2017 : decode code 2017 = .ok (.laload, 1) := by decide +kernel
theorem ddL_law_2018 : decode code 2018 = .ok (.iload 7, 2) := by decide +kernel
theorem ddL_law_2020 : decode code 2020 = .ok (.i2l, 1) := by decide +kernel
theorem ddL_law_2021 : decode code 2021 = .ok (.lcmp, 1) := by decide +kernel
theorem ddL_law_2022 : decode code 2022 = .ok (.ifCond .eq 5, 3) := by decide +kernel
theorem ddL_law_2025 : decode code 2025 = .ok (.iconst 0, 1) := by decide +kernel
theorem ddL_law_2026 : decode code 2026 = .ok (.ireturn, 1) := by decide +kernel
theorem ddL_law_2027 : decode code 2027 = .ok (.goto 619, 3) := by decide +kernel
theorem ddL_law_2030 : decode code 2030 = .ok (.aload_n 1, 1) := by decide +kernel
theorem ddL_law_2031 : decode code 2031 = .ok (.aload 4, 2) := by decide +kernel
theorem ddL_law_2033 : decode code 2033 = .ok (.invokestatic 273, 3) := by decide +kernel
theorem ddL_law_2036 : decode code 2036 = .ok (.istore 6, 2) := by decide +kernel
theorem ddL_law_2038 : decode code 2038 = .ok (.aload_n 2, 1) := by decide +kernel
theorem ddL_law_2039 : decode code 2039 = .ok (.invokevirtual 276, 3) := by decide +kernel
theorem ddL_law_2042 : decode code 2042 = .ok (.dstore 7, 2) := by decide +kernel
theorem ddL_law_2044 : decode code 2044 = .ok (.aload_n 2, 1) := by decide +kernel
theorem ddL_law_2045 : decode code 2045 = .ok (.invokevirtual 156, 3) := by decide +kernel
theorem ddL_law_2048 : decode code 2048 = .ok (.iload 6, 2) := by decide +kernel
theorem ddL_law_2050 : decode code 2050 = .ok (.if_icmp .eq 5, 3) := by decide +kernel
theorem ddL_law_2053 : decode code 2053 = .ok (.iconst 0, 1) := by decide +kernel
theorem ddL_law_2054 : decode code 2054 = .ok (.ireturn, 1) := by decide +kernel
theorem ddL_law_2055 : decode code 2055 = .ok (.iload 6, 2) := by decide +kernel
theorem ddL_law_2057 : decode code 2057 = .ok (.ifCond .ne 35, 3) := by decide +kernel
theorem ddL_law_2060 : decode code 2060 = .ok (.aload 4, 2) := by decide +kernel
theorem ddL_law_2062 : decode code 2062 = .ok (.iconst 0, 1) := by decide +kernel
theorem ddL_law_2063 : decode code 2063 = .ok (.daload, 1) := by decide +kernel
theorem ddL_law_2064 : decode code 2064 = .ok (.dload 7, 2) := by decide +kernel
theorem ddL_law_2066 : decode code 2066 = .ok (.dcmp .l, 1) := by decide +kernel
theorem ddL_law_2067 : decode code 2067 = .ok (.ifCond .eq 25, 3) := by decide +kernel
theorem ddL_law_2070 : decode code 2070 = .ok (.aload 4, 2) := by decide +kernel
theorem ddL_law_2072 : decode code 2072 = .ok (.iconst 0, 1) := by decide +kernel
theorem ddL_law_2073 : decode code 2073 = .ok (.daload, 1) := by decide +kernel
theorem ddL_law_2074 : decode code 2074 = .ok (.aload 4, 2) := by decide +kernel
theorem ddL_law_2076 : decode code 2076 = .ok (.iconst 0, 1) := by decide +kernel
theorem ddL_law_2077 : decode code 2077 = .ok (.daload, 1) := by decide +kernel
theorem ddL_law_2078 : decode code 2078 = .ok (.dcmp .l, 1) := by decide +kernel
theorem ddL_law_2079 : decode code 2079 = .ok (.ifCond .eq 11, 3) := by decide +kernel
theorem ddL_law_2082 : decode code 2082 = .ok (.dload 7, 2) := by decide +kernel
theorem ddL_law_2084 : decode code 2084 = .ok (.dload 7, 2) := by decide +kernel
theorem ddL_law_2086 : decode code 2086 = .ok (.dcmp .l, 1) := by decide +kernel
theorem ddL_law_2087 : decode code 2087 = .ok (.ifCond .ne 5, 3) := by decide +kernel
theorem ddL_law_2090 : decode code 2090 = .ok (.iconst 0, 1) := by decide +kernel
theorem ddL_law_2091 : decode code 2091 = .ok (.ireturn, 1) := by decide +kernel
theorem ddL_law_2092 : decode code 2092 = .ok (.goto 554, 3) := by decide +kernel
theorem ddL_law_2095 : decode code 2095 = .ok (.aload_n 1, 1) := by decide +kernel
theorem ddL_law_2096 : decode code 2096 = .ok (.aload 4, 2) := by decide +kernel
theorem ddL_law_2098 : decode code 2098 = .ok (.invokestatic 277, 3) := by decide +kernel
theorem ddL_law_2101 : decode code 2101 = .ok (.istore 6, 2) := by decide +kernel
theorem ddL_law_2103 : decode code 2103 = .ok (.aload_n 2, 1) := by decide +kernel
theorem ddL_law_2104 : decode code 2104 = .ok (.invokevirtual 279, 3) := by decide +kernel
theorem ddL_law_2107 : decode code 2107 = .ok (.fstore 7, 2) := by decide +kernel
theorem ddL_law_2109 : decode code 2109 = .ok (.aload_n 2, 1) := by decide +kernel
theorem ddL_law_2110 : decode code 2110 = .ok (.invokevirtual 156, 3) := by decide +kernel
theorem ddL_law_2113 : decode code 2113 = .ok (.iload 6, 2) := by decide +kernel
theorem ddL_law_2115 : decode code 2115 = .ok (.if_icmp .eq 5, 3) := by decide +kernel
theorem ddL_law_2118 : decode code 2118 = .ok (.iconst 0, 1) := by decide +kernel
theorem ddL_law_2119 : decode code 2119 = .ok (.ireturn, 1) := by decide +kernel
theorem ddL_law_2120 : decode code 2120 = .ok (.iload 6, 2) := by decide +kernel
theorem ddL_law_2122 : decode code 2122 = .ok (.ifCond .ne 36, 3) := by decide +kernel
theorem ddL_law_2125 : decode code 2125 = .ok (.aload 4, 2) := by decide +kernel
theorem ddL_law_2127 : decode code 2127 = .ok (.iconst 0, 1) := by decide +kernel
theorem ddL_law_2128 : decode code 2128 = .ok (.daload, 1) := by decide +kernel
theorem ddL_law_2129 : decode code 2129 = .ok (.fload 7, 2) := by decide +kernel
theorem ddL_law_2131 : decode code 2131 = .ok (.f2d, 1) := by decide +kernel
theorem ddL_law_2132 : decode code 2132 = .ok (.dcmp .l, 1) := by decide +kernel
theorem ddL_law_2133 : decode code 2133 = .ok (.ifCond .eq 25, 3) := by decide +kernel
theorem ddL_law_2136 : decode code 2136 = .ok (.aload 4, 2) := by decide +kernel
theorem ddL_law_2138 : decode code 2138 = .ok (.iconst 0, 1) := by decide +kernel
theorem ddL_law_2139 : decode code 2139 = .ok (.daload, 1) := by decide +kernel
theorem ddL_law_2140 : decode code 2140 = .ok (.aload 4, 2) := by decide +kernel
theorem ddL_law_2142 : decode code 2142 = .ok (.iconst 0, 1) := by decide +kernel
theorem ddL_law_2143 : decode code 2143 = .ok (.daload, 1) := by decide +kernel
theorem ddL_law_2144 : decode code 2144 = .ok (.dcmp .l, 1) := by decide +kernel
theorem ddL_law_2145 : decode code 2145 = .ok (.ifCond .eq 11, 3) := by decide +kernel
theorem ddL_law_2148 : decode code 2148 = .ok (.fload 7, 2) := by decide +kernel
theorem ddL_law_2150 : decode code 2150 = .ok (.fload 7, 2) := by decide +kernel
theorem ddL_law_2152 : decode code 2152 = .ok (.fcmp .l, 1) := by decide +kernel
theorem ddL_law_2153 : decode code 2153 = .ok (.ifCond .ne 5, 3) := by decide +kernel
theorem ddL_law_2156 : decode code 2156 = .ok (.iconst 0, 1) := by decide +kernel
theorem ddL_law_2157 : decode code 2157 = .ok (.ireturn, 1) := by decide +kernel
theorem ddL_law_2158 : decode code 2158 = .ok (.goto 488, 3) := by decide +kernel
theorem ddL_law_2161 : decode code 2161 = .ok (.aload_n 1, 1) := by decide +kernel
theorem ddL_law_2162 : decode code 2162 = .ok (.aload_n 0, 1) := by decide +kernel
theorem ddL_law_2163 : decode code 2163 = .ok (.iload 5, 2) := by decide +kernel
theorem ddL_law_2165 : decode code 2165 = .ok (.iconst 1, 1) := by decide +kernel
theorem ddL_law_2166 : decode code 2166 = .ok (.iadd, 1) := by decide +kernel
theorem ddL_law_2167 : decode code 2167 = .ok (.iaload, 1) := by decide +kernel
theorem ddL_law_2168 : decode code 2168 = .ok (.aload_n 3, 1) := by decide +kernel
theorem ddL_law_2169 : decode code 2169 = .ok (.invokestatic 280, 3) := by decide +kernel
theorem ddL_law_2172 : decode code 2172 = .ok (.istore 6, 2) := by decide +kernel
theorem ddL_law_2174 : decode code 2174 = .ok (.aload_n 2, 1) := by decide +kernel
theorem ddL_law_2175 : decode code 2175 = .ok (.aload_n 0, 1) := by decide +kernel
theorem ddL_law_2176 : decode code 2176 = .ok (.iload 5, 2) := by decide +kernel
theorem ddL_law_2178 : decode code 2178 = .ok (.iconst 1, 1) := by decide +kernel
theorem ddL_law_2179 : decode code 2179 = .ok (.iadd, 1) := by decide +kernel
theorem ddL_law_2180 : decode code 2180 = .ok (.iaload, 1) := by decide +kernel
theorem ddL_law_2181 : decode code 2181 = .ok (.invokevirtual 282, 3) := by decide +kernel
theorem ddL_law_2184 : decode code 2184 = .ok (.istore 7, 2) := by decide +kernel
theorem ddL_law_2186 : decode code 2186 = .ok (.aload_n 2, 1) := by decide +kernel
theorem ddL_law_2187 : decode code 2187 = .ok (.invokevirtual 156, 3) := by decide +kernel
theorem ddL_law_2190 : decode code 2190 = .ok (.iload 6, 2) := by decide +kernel
theorem ddL_law_2192 : decode code 2192 = .ok (.if_icmp .eq 5, 3) := by decide +kernel
theorem ddL_law_2195 : decode code 2195 = .ok (.iconst 0, 1) := by decide +kernel
theorem ddL_law_2196 : decode code 2196 = .ok (.ireturn, 1) := by decide +kernel
theorem ddL_law_2197 : decode code 2197 = .ok (.iload 6, 2) := by decide +kernel
theorem ddL_law_2199 : decode code 2199 = .ok (.ifCond .ne 15, 3) := by decide +kernel
theorem ddL_law_2202 : decode code 2202 = .ok (.aload_n 3, 1) := by decide +kernel
theorem ddL_law_2203 : decode code 2203 = .ok (.iconst 0, 1) := by decide +kernel
theorem ddL_law_2204 : decode code 2204 = .ok (.laload, 1) := by decide +kernel
theorem ddL_law_2205 : decode code 2205 = .ok (.iload 7, 2) := by decide +kernel
theorem ddL_law_2207 : decode code 2207 = .ok (.i2l, 1) := by decide +kernel
theorem ddL_law_2208 : decode code 2208 = .ok (.lcmp, 1) := by decide +kernel
theorem ddL_law_2209 : decode code 2209 = .ok (.ifCond .eq 5, 3) := by decide +kernel
theorem ddL_law_2212 : decode code 2212 = .ok (.iconst 0, 1) := by decide +kernel
theorem ddL_law_2213 : decode code 2213 = .ok (.ireturn, 1) := by decide +kernel
theorem ddL_law_2214 : decode code 2214 = .ok (.goto 432, 3) := by decide +kernel
theorem ddL_law_2217 : decode code 2217 = .ok (.aload_n 1, 1) := by decide +kernel
theorem ddL_law_2218 : decode code 2218 = .ok (.aload_n 0, 1) := by decide +kernel
theorem ddL_law_2219 : decode code 2219 = .ok (.iload 5, 2) := by decide +kernel
theorem ddL_law_2221 : decode code 2221 = .ok (.iconst 1, 1) := by decide +kernel
theorem ddL_law_2222 : decode code 2222 = .ok (.iadd, 1) := by decide +kernel
theorem ddL_law_2223 : decode code 2223 = .ok (.iaload, 1) := by decide +kernel
theorem ddL_law_2224 : decode code 2224 = .ok (.aload_n 3, 1) := by decide +kernel
theorem ddL_law_2225 : decode code 2225 = .ok (.invokestatic 283, 3) := by decide +kernel
theorem ddL_law_2228 : decode code 2228 = .ok (.istore 6, 2) := by decide +kernel
theorem ddL_law_2230 : decode code 2230 = .ok (.aload_n 2, 1) := by decide +kernel
theorem ddL_law_2231 : decode code 2231 = .ok (.aload_n 0, 1) := by decide +kernel
theorem ddL_law_2232 : decode code 2232 = .ok (.iload 5, 2) := by decide +kernel
theorem ddL_law_2234 : decode code 2234 = .ok (.iconst 1, 1) := by decide +kernel
theorem ddL_law_2235 : decode code 2235 = .ok (.iadd, 1) := by decide +kernel
theorem ddL_law_2236 : decode code 2236 = .ok (.iaload, 1) := by decide +kernel
theorem ddL_law_2237 : decode code 2237 = .ok (.invokevirtual 285, 3) := by decide +kernel
theorem ddL_law_2240 : decode code 2240 = .ok (.istore 7, 2) := by decide +kernel
theorem ddL_law_2242 : decode code 2242 = .ok (.aload_n 2, 1) := by decide +kernel
theorem ddL_law_2243 : decode code 2243 = .ok (.invokevirtual 156, 3) := by decide +kernel
theorem ddL_law_2246 : decode code 2246 = .ok (.iload 6, 2) := by decide +kernel
theorem ddL_law_2248 : decode code 2248 = .ok (.if_icmp .eq 5, 3) := by decide +kernel
theorem ddL_law_2251 : decode code 2251 = .ok (.iconst 0, 1) := by decide +kernel
theorem ddL_law_2252 : decode code 2252 = .ok (.ireturn, 1) := by decide +kernel
theorem ddL_law_2253 : decode code 2253 = .ok (.iload 6, 2) := by decide +kernel
theorem ddL_law_2255 : decode code 2255 = .ok (.ifCond .ne 15, 3) := by decide +kernel
theorem ddL_law_2258 : decode code 2258 = .ok (.aload_n 3, 1) := by decide +kernel
theorem ddL_law_2259 : decode code 2259 = .ok (.iconst 0, 1) := by decide +kernel
theorem ddL_law_2260 : decode code 2260 = .ok (.laload, 1) := by decide +kernel
theorem ddL_law_2261 : decode code 2261 = .ok (.iload 7, 2) := by decide +kernel
theorem ddL_law_2263 : decode code 2263 = .ok (.i2l, 1) := by decide +kernel
theorem ddL_law_2264 : decode code 2264 = .ok (.lcmp, 1) := by decide +kernel
theorem ddL_law_2265 : decode code 2265 = .ok (.ifCond .eq 5, 3) := by decide +kernel
theorem ddL_law_2268 : decode code 2268 = .ok (.iconst 0, 1) := by decide +kernel
theorem ddL_law_2269 : decode code 2269 = .ok (.ireturn, 1) := by decide +kernel
theorem ddL_law_2270 : decode code 2270 = .ok (.goto 376, 3) := by decide +kernel
theorem ddL_law_2273 : decode code 2273 = .ok (.aload_n 1, 1) := by decide +kernel
theorem ddL_law_2274 : decode code 2274 = .ok (.aload_n 0, 1) := by decide +kernel
theorem ddL_law_2275 : decode code 2275 = .ok (.iload 5, 2) := by decide +kernel
theorem ddL_law_2277 : decode code 2277 = .ok (.iconst 1, 1) := by decide +kernel
theorem ddL_law_2278 : decode code 2278 = .ok (.iadd, 1) := by decide +kernel
theorem ddL_law_2279 : decode code 2279 = .ok (.iaload, 1) := by decide +kernel
theorem ddL_law_2280 : decode code 2280 = .ok (.aload_n 3, 1) := by decide +kernel
theorem ddL_law_2281 : decode code 2281 = .ok (.invokestatic 286, 3) := by decide +kernel
theorem ddL_law_2284 : decode code 2284 = .ok (.istore 6, 2) := by decide +kernel
theorem ddL_law_2286 : decode code 2286 = .ok (.aload_n 2, 1) := by decide +kernel
theorem ddL_law_2287 : decode code 2287 = .ok (.aload_n 0, 1) := by decide +kernel
theorem ddL_law_2288 : decode code 2288 = .ok (.iload 5, 2) := by decide +kernel
theorem ddL_law_2290 : decode code 2290 = .ok (.iconst 1, 1) := by decide +kernel
theorem ddL_law_2291 : decode code 2291 = .ok (.iadd, 1) := by decide +kernel
theorem ddL_law_2292 : decode code 2292 = .ok (.iaload, 1) := by decide +kernel
theorem ddL_law_2293 : decode code 2293 = .ok (.invokevirtual 288, 3) := by decide +kernel
theorem ddL_law_2296 : decode code 2296 = .ok (.istore 7, 2) := by decide +kernel
theorem ddL_law_2298 : decode code 2298 = .ok (.aload_n 2, 1) := by decide +kernel
theorem ddL_law_2299 : decode code 2299 = .ok (.invokevirtual 156, 3) := by decide +kernel
theorem ddL_law_2302 : decode code 2302 = .ok (.iload 6, 2) := by decide +kernel
theorem ddL_law_2304 : decode code 2304 = .ok (.if_icmp .eq 5, 3) := by decide +kernel
theorem ddL_law_2307 : decode code 2307 = .ok (.iconst 0, 1) := by decide +kernel
theorem ddL_law_2308 : decode code 2308 = .ok (.ireturn, 1) := by decide +kernel
theorem ddL_law_2309 : decode code 2309 = .ok (.iload 6, 2) := by decide +kernel
theorem ddL_law_2311 : decode code 2311 = .ok (.ifCond .ne 15, 3) := by decide +kernel
theorem ddL_law_2314 : decode code 2314 = .ok (.aload_n 3, 1) := by decide +kernel
theorem ddL_law_2315 : decode code 2315 = .ok (.iconst 0, 1) := by decide +kernel
theorem ddL_law_2316 : decode code 2316 = .ok (.laload, 1) := by decide +kernel
theorem ddL_law_2317 : decode code 2317 = .ok (.iload 7, 2) := by decide +kernel
theorem ddL_law_2319 : decode code 2319 = .ok (.i2l, 1) := by decide +kernel
theorem ddL_law_2320 : decode code 2320 = .ok (.lcmp, 1) := by decide +kernel
theorem ddL_law_2321 : decode code 2321 = .ok (.ifCond .eq 5, 3) := by decide +kernel
theorem ddL_law_2324 : decode code 2324 = .ok (.iconst 0, 1) := by decide +kernel
theorem ddL_law_2325 : decode code 2325 = .ok (.ireturn, 1) := by decide +kernel
theorem ddL_law_2326 : decode code 2326 = .ok (.goto 320, 3) := by decide +kernel
theorem ddL_law_2329 : decode code 2329 = .ok (.aload_n 1, 1) := by decide +kernel
theorem ddL_law_2330 : decode code 2330 = .ok (.invokevirtual 289, 3) := by decide +kernel
theorem ddL_law_2333 : decode code 2333 = .ok (.aload_n 2, 1) := by decide +kernel
theorem ddL_law_2334 : decode code 2334 = .ok (.invokevirtual 293, 3) := by decide +kernel
theorem ddL_law_2337 : decode code 2337 = .ok (.if_icmp .eq 309, 3) := by decide +kernel
theorem ddL_law_2340 : decode code 2340 = .ok (.iconst 0, 1) := by decide +kernel
theorem ddL_law_2341 : decode code 2341 = .ok (.ireturn, 1) := by decide +kernel
theorem ddL_law_2342 : decode code 2342 = .ok (.aload_n 1, 1) := by decide +kernel
theorem ddL_law_2343 : decode code 2343 = .ok (.aload_n 0, 1) := by decide +kernel
theorem ddL_law_2344 : decode code 2344 = .ok (.iload 5, 2) := by decide +kernel
theorem ddL_law_2346 : decode code 2346 = .ok (.iconst 1, 1) := by decide +kernel
theorem ddL_law_2347 : decode code 2347 = .ok (.iadd, 1) := by decide +kernel
theorem ddL_law_2348 : decode code 2348 = .ok (.iaload, 1) := by decide +kernel
theorem ddL_law_2349 : decode code 2349 = .ok (.i2c, 1) := by decide +kernel
theorem ddL_law_2350 : decode code 2350 = .ok (.aload_n 3, 1) := by decide +kernel
theorem ddL_law_2351 : decode code 2351 = .ok (.invokestatic 294, 3) := by decide +kernel
theorem ddL_law_2354 : decode code 2354 = .ok (.istore 6, 2) := by decide +kernel
theorem ddL_law_2356 : decode code 2356 = .ok (.aload_n 2, 1) := by decide +kernel
theorem ddL_law_2357 : decode code 2357 = .ok (.aload_n 0, 1) := by decide +kernel
theorem ddL_law_2358 : decode code 2358 = .ok (.iload 5, 2) := by decide +kernel
theorem ddL_law_2360 : decode code 2360 = .ok (.iconst 1, 1) := by decide +kernel
theorem ddL_law_2361 : decode code 2361 = .ok (.iadd, 1) := by decide +kernel
theorem ddL_law_2362 : decode code 2362 = .ok (.iaload, 1) := by decide +kernel
theorem ddL_law_2363 : decode code 2363 = .ok (.i2c, 1) := by decide +kernel
theorem ddL_law_2364 : decode code 2364 = .ok (.invokevirtual 297, 3) := by decide +kernel
theorem ddL_law_2367 : decode code 2367 = .ok (.istore 7, 2) := by decide +kernel
theorem ddL_law_2369 : decode code 2369 = .ok (.aload_n 2, 1) := by decide +kernel
theorem ddL_law_2370 : decode code 2370 = .ok (.invokevirtual 156, 3) := by decide +kernel
theorem ddL_law_2373 : decode code 2373 = .ok (.iload 6, 2) := by decide +kernel
theorem ddL_law_2375 : decode code 2375 = .ok (.if_icmp .eq 5, 3) := by decide +kernel
theorem ddL_law_2378 : decode code 2378 = .ok (.iconst 0, 1) := by decide +kernel
theorem ddL_law_2379 : decode code 2379 = .ok (.ireturn, 1) := by decide +kernel
theorem ddL_law_2380 : decode code 2380 = .ok (.iload 6, 2) := by decide +kernel
theorem ddL_law_2382 : decode code 2382 = .ok (.ifCond .ne 15, 3) := by decide +kernel
theorem ddL_law_2385 : decode code 2385 = .ok (.aload_n 3, 1) := by decide +kernel
theorem ddL_law_2386 : decode code 2386 = .ok (.iconst 0, 1) := by decide +kernel
theorem ddL_law_2387 : decode code 2387 = .ok (.laload, 1) := by decide +kernel
theorem ddL_law_2388 : decode code 2388 = .ok (.iload 7, 2) := by decide +kernel
theorem ddL_law_2390 : decode code 2390 = .ok (.i2l, 1) := by decide +kernel
theorem ddL_law_2391 : decode code 2391 = .ok (.lcmp, 1) := by decide +kernel
theorem ddL_law_2392 : decode code 2392 = .ok (.ifCond .eq 5, 3) := by decide +kernel
theorem ddL_law_2395 : decode code 2395 = .ok (.iconst 0, 1) := by decide +kernel
theorem ddL_law_2396 : decode code 2396 = .ok (.ireturn, 1) := by decide +kernel
theorem ddL_law_2397 : decode code 2397 = .ok (.goto 249, 3) := by decide +kernel
theorem ddL_law_2400 : decode code 2400 = .ok (.aload_n 1, 1) := by decide +kernel
theorem ddL_law_2401 : decode code 2401 = .ok (.aload_n 3, 1) := by decide +kernel
theorem ddL_law_2402 : decode code 2402 = .ok (.invokestatic 298, 3) := by decide +kernel
theorem ddL_law_2405 : decode code 2405 = .ok (.istore 6, 2) := by decide +kernel
theorem ddL_law_2407 : decode code 2407 = .ok (.aload_n 2, 1) := by decide +kernel
theorem ddL_law_2408 : decode code 2408 = .ok (.invokevirtual 300, 3) := by decide +kernel
theorem ddL_law_2411 : decode code 2411 = .ok (.istore 7, 2) := by decide +kernel
theorem ddL_law_2413 : decode code 2413 = .ok (.aload_n 2, 1) := by decide +kernel
theorem ddL_law_2414 : decode code 2414 = .ok (.invokevirtual 156, 3) := by decide +kernel
theorem ddL_law_2417 : decode code 2417 = .ok (.iload 6, 2) := by decide +kernel
theorem ddL_law_2419 : decode code 2419 = .ok (.if_icmp .eq 5, 3) := by decide +kernel
theorem ddL_law_2422 : decode code 2422 = .ok (.iconst 0, 1) := by decide +kernel
theorem ddL_law_2423 : decode code 2423 = .ok (.ireturn, 1) := by decide +kernel
theorem ddL_law_2424 : decode code 2424 = .ok (.iload 6, 2) := by decide +kernel
theorem ddL_law_2426 : decode code 2426 = .ok (.ifCond .ne 15, 3) := by decide +kernel
theorem ddL_law_2429 : decode code 2429 = .ok (.aload_n 3, 1) := by decide +kernel
theorem ddL_law_2430 : decode code 2430 = .ok (.iconst 0, 1) := by decide +kernel
theorem ddL_law_2431 : decode code 2431 = .ok (.laload, 1) := by decide +kernel
theorem ddL_law_2432 : decode code 2432 = .ok (.iload 7, 2) := by decide +kernel
theorem ddL_law_2434 : decode code 2434 = .ok (.i2l, 1) := by decide +kernel
theorem ddL_law_2435 : decode code 2435 = .ok (.lcmp, 1) := by decide +kernel
theorem ddL_law_2436 : decode code 2436 = .ok (.ifCond .eq 5, 3) := by decide +kernel
theorem ddL_law_2439 : decode code 2439 = .ok (.iconst 0, 1) := by decide +kernel
theorem ddL_law_2440 : decode code 2440 = .ok (.ireturn, 1) := by decide +kernel
theorem ddL_law_2441 : decode code 2441 = .ok (.goto 205, 3) := by decide +kernel
theorem ddL_law_2444 : decode code 2444 = .ok (.aload_n 1, 1) := by decide +kernel
theorem ddL_law_2445 : decode code 2445 = .ok (.aload_n 3, 1) := by decide +kernel
theorem ddL_law_2446 : decode code 2446 = .ok (.invokestatic 301, 3) := by decide +kernel
theorem ddL_law_2449 : decode code 2449 = .ok (.istore 6, 2) := by decide +kernel
theorem ddL_law_2451 : decode code 2451 = .ok (.aload_n 2, 1) := by decide +kernel
theorem ddL_law_2452 : decode code 2452 = .ok (.invokevirtual 303, 3) := by decide +kernel
theorem ddL_law_2455 : decode code 2455 = .ok (.istore 7, 2) := by decide +kernel
theorem ddL_law_2457 : decode code 2457 = .ok (.aload_n 2, 1) := by decide +kernel
theorem ddL_law_2458 : decode code 2458 = .ok (.invokevirtual 156, 3) := by decide +kernel
theorem ddL_law_2461 : decode code 2461 = .ok (.iload 6, 2) := by decide +kernel
theorem ddL_law_2463 : decode code 2463 = .ok (.if_icmp .eq 5, 3) := by decide +kernel
theorem ddL_law_2466 : decode code 2466 = .ok (.iconst 0, 1) := by decide +kernel
theorem ddL_law_2467 : decode code 2467 = .ok (.ireturn, 1) := by decide +kernel
theorem ddL_law_2468 : decode code 2468 = .ok (.iload 6, 2) := by decide +kernel
theorem ddL_law_2470 : decode code 2470 = .ok (.ifCond .ne 15, 3) := by decide +kernel
theorem ddL_law_2473 : decode code 2473 = .ok (.aload_n 3, 1) := by decide +kernel
theorem ddL_law_2474 : decode code 2474 = .ok (.iconst 0, 1) := by decide +kernel
theorem ddL_law_2475 : decode code 2475 = .ok (.laload, 1) := by decide +kernel
theorem ddL_law_2476 : decode code 2476 = .ok (.iload 7, 2) := by decide +kernel
theorem ddL_law_2478 : decode code 2478 = .ok (.i2l, 1) := by decide +kernel
theorem ddL_law_2479 : decode code 2479 = .ok (.lcmp, 1) := by decide +kernel
theorem ddL_law_2480 : decode code 2480 = .ok (.ifCond .eq 5, 3) := by decide +kernel
theorem ddL_law_2483 : decode code 2483 = .ok (.iconst 0, 1) := by decide +kernel
theorem ddL_law_2484 : decode code 2484 = .ok (.ireturn, 1) := by decide +kernel
theorem ddL_law_2485 : decode code 2485 = .ok (.goto 161, 3) := by decide +kernel
theorem ddL_law_2488 : decode code 2488 = .ok (.aload_n 1, 1) := by decide +kernel
theorem ddL_law_2489 : decode code 2489 = .ok (.aload_n 3, 1) := by decide +kernel
theorem ddL_law_2490 : decode code 2490 = .ok (.invokestatic 304, 3) := by decide +kernel
theorem ddL_law_2493 : decode code 2493 = .ok (.istore 6, 2) := by decide +kernel
theorem ddL_law_2495 : decode code 2495 = .ok (.aload_n 2, 1) := by decide +kernel
theorem ddL_law_2496 : decode code 2496 = .ok (.invokevirtual 306, 3) := by decide +kernel
theorem ddL_law_2499 : decode code 2499 = .ok (.istore 7, 2) := by decide +kernel
theorem ddL_law_2501 : decode code 2501 = .ok (.aload_n 2, 1) := by decide +kernel
theorem ddL_law_2502 : decode code 2502 = .ok (.invokevirtual 156, 3) := by decide +kernel
theorem ddL_law_2505 : decode code 2505 = .ok (.iload 6, 2) := by decide +kernel
theorem ddL_law_2507 : decode code 2507 = .ok (.if_icmp .eq 5, 3) := by decide +kernel
theorem ddL_law_2510 : decode code 2510 = .ok (.iconst 0, 1) := by decide +kernel
theorem ddL_law_2511 : decode code 2511 = .ok (.ireturn, 1) := by decide +kernel
theorem ddL_law_2512 : decode code 2512 = .ok (.iload 6, 2) := by decide +kernel
theorem ddL_law_2514 : decode code 2514 = .ok (.ifCond .ne 15, 3) := by decide +kernel
theorem ddL_law_2517 : decode code 2517 = .ok (.aload_n 3, 1) := by decide +kernel
theorem ddL_law_2518 : decode code 2518 = .ok (.iconst 0, 1) := by decide +kernel
theorem ddL_law_2519 : decode code 2519 = .ok (.laload, 1) := by decide +kernel
theorem ddL_law_2520 : decode code 2520 = .ok (.iload 7, 2) := by decide +kernel
theorem ddL_law_2522 : decode code 2522 = .ok (.i2l, 1) := by decide +kernel
theorem ddL_law_2523 : decode code 2523 = .ok (.lcmp, 1) := by decide +kernel
theorem ddL_law_2524 : decode code 2524 = .ok (.ifCond .eq 5, 3) := by decide +kernel
theorem ddL_law_2527 : decode code 2527 = .ok (.iconst 0, 1) := by decide +kernel
theorem ddL_law_2528 : decode code 2528 = .ok (.ireturn, 1) := by decide +kernel
theorem ddL_law_2529 : decode code 2529 = .ok (.goto 117, 3) := by decide +kernel
theorem ddL_law_2532 : decode code 2532 = .ok (.aload_n 1, 1) := by decide +kernel
theorem ddL_law_2533 : decode code 2533 = .ok (.aload_n 3, 1) := by decide +kernel
theorem ddL_law_2534 : decode code 2534 = .ok (.invokestatic 307, 3) := by decide +kernel
theorem ddL_law_2537 : decode code 2537 = .ok (.istore 6, 2) := by decide +kernel
theorem ddL_law_2539 : decode code 2539 = .ok (.aload_n 2, 1) := by decide +kernel
theorem ddL_law_2540 : decode code 2540 = .ok (.invokevirtual 309, 3) := by decide +kernel
theorem ddL_law_2543 : decode code 2543 = .ok (.istore 7, 2) := by decide +kernel
theorem ddL_law_2545 : decode code 2545 = .ok (.aload_n 2, 1) := by decide +kernel
theorem ddL_law_2546 : decode code 2546 = .ok (.invokevirtual 156, 3) := by decide +kernel
theorem ddL_law_2549 : decode code 2549 = .ok (.iload 6, 2) := by decide +kernel
theorem ddL_law_2551 : decode code 2551 = .ok (.if_icmp .eq 5, 3) := by decide +kernel
theorem ddL_law_2554 : decode code 2554 = .ok (.iconst 0, 1) := by decide +kernel
theorem ddL_law_2555 : decode code 2555 = .ok (.ireturn, 1) := by decide +kernel
theorem ddL_law_2556 : decode code 2556 = .ok (.iload 6, 2) := by decide +kernel
theorem ddL_law_2558 : decode code 2558 = .ok (.ifCond .ne 15, 3) := by decide +kernel
theorem ddL_law_2561 : decode code 2561 = .ok (.aload_n 3, 1) := by decide +kernel
theorem ddL_law_2562 : decode code 2562 = .ok (.iconst 0, 1) := by decide +kernel
theorem ddL_law_2563 : decode code 2563 = .ok (.laload, 1) := by decide +kernel
theorem ddL_law_2564 : decode code 2564 = .ok (.iload 7, 2) := by decide +kernel
theorem ddL_law_2566 : decode code 2566 = .ok (.i2l, 1) := by decide +kernel
theorem ddL_law_2567 : decode code 2567 = .ok (.lcmp, 1) := by decide +kernel
theorem ddL_law_2568 : decode code 2568 = .ok (.ifCond .eq 5, 3) := by decide +kernel
theorem ddL_law_2571 : decode code 2571 = .ok (.iconst 0, 1) := by decide +kernel
theorem ddL_law_2572 : decode code 2572 = .ok (.ireturn, 1) := by decide +kernel
theorem ddL_law_2573 : decode code 2573 = .ok (.goto 73, 3) := by decide +kernel
theorem ddL_law_2576 : decode code 2576 = .ok (.aload_n 1, 1) := by decide +kernel
theorem ddL_law_2577 : decode code 2577 = .ok (.invokevirtual 310, 3) := by decide +kernel
theorem ddL_law_2580 : decode code 2580 = .ok (.aload_n 2, 1) := by decide +kernel
theorem ddL_law_2581 : decode code 2581 = .ok (.invokevirtual 313, 3) := by decide +kernel
theorem ddL_law_2584 : decode code 2584 = .ok (.if_icmp .eq 62, 3) := by decide +kernel
theorem ddL_law_2587 : decode code 2587 = .ok (.iconst 0, 1) := by decide +kernel
theorem ddL_law_2588 : decode code 2588 = .ok (.ireturn, 1) := by decide +kernel
theorem ddL_law_2589 : decode code 2589 = .ok (.aload_n 1, 1) := by decide +kernel
theorem ddL_law_2590 : decode code 2590 = .ok (.invokevirtual 314, 3) := by decide +kernel
theorem ddL_law_2593 : decode code 2593 = .ok (.aload_n 2, 1) := by decide +kernel
theorem ddL_law_2594 : decode code 2594 = .ok (.invokevirtual 317, 3) := by decide +kernel
theorem ddL_law_2597 : decode code 2597 = .ok (.if_icmp .eq 49, 3) := by decide +kernel
theorem ddL_law_2600 : decode code 2600 = .ok (.iconst 0, 1) := by decide +kernel
theorem ddL_law_2601 : decode code 2601 = .ok (.ireturn, 1) := by decide +kernel
theorem ddL_law_2602 : decode code 2602 = .ok (.aload_n 1, 1) := by decide +kernel
theorem ddL_law_2603 : decode code 2603 = .ok (.aload_n 3, 1) := by decide +kernel
theorem ddL_law_2604 : decode code 2604 = .ok (.invokestatic 318, 3) := by decide +kernel
theorem ddL_law_2607 : decode code 2607 = .ok (.istore 6, 2) := by decide +kernel
theorem ddL_law_2609 : decode code 2609 = .ok (.aload_n 2, 1) := by decide +kernel
theorem ddL_law_2610 : decode code 2610 = .ok (.invokevirtual 320, 3) := by decide +kernel
theorem ddL_law_2613 : decode code 2613 = .ok (.istore 7, 2) := by decide +kernel
theorem ddL_law_2615 : decode code 2615 = .ok (.aload_n 2, 1) := by decide +kernel
theorem ddL_law_2616 : decode code 2616 = .ok (.invokevirtual 156, 3) := by decide +kernel
theorem ddL_law_2619 : decode code 2619 = .ok (.iload 6, 2) := by decide +kernel
theorem ddL_law_2621 : decode code 2621 = .ok (.if_icmp .eq 5, 3) := by decide +kernel
theorem ddL_law_2624 : decode code 2624 = .ok (.iconst 0, 1) := by decide +kernel
theorem ddL_law_2625 : decode code 2625 = .ok (.ireturn, 1) := by decide +kernel
theorem ddL_law_2626 : decode code 2626 = .ok (.iload 6, 2) := by decide +kernel
theorem ddL_law_2628 : decode code 2628 = .ok (.ifCond .ne 15, 3) := by decide +kernel
theorem ddL_law_2631 : decode code 2631 = .ok (.aload_n 3, 1) := by decide +kernel
theorem ddL_law_2632 : decode code 2632 = .ok (.iconst 0, 1) := by decide +kernel
theorem ddL_law_2633 : decode code 2633 = .ok (.laload, 1) := by decide +kernel
theorem ddL_law_2634 : decode code 2634 = .ok (.iload 7, 2) := by decide +kernel
theorem ddL_law_2636 : decode code 2636 = .ok (.i2l, 1) := by decide +kernel
theorem ddL_law_2637 : decode code 2637 = .ok (.lcmp, 1) := by decide +kernel
theorem ddL_law_2638 : decode code 2638 = .ok (.ifCond .eq 5, 3) := by decide +kernel
theorem ddL_law_2641 : decode code 2641 = .ok (.iconst 0, 1) := by decide +kernel
theorem ddL_law_2642 : decode code 2642 = .ok (.ireturn, 1) := by decide +kernel
theorem ddL_law_2643 : decode code 2643 = .ok (.goto 3, 3) := by decide +kernel
theorem ddL_law_2646 : decode code 2646 = .ok (.iinc 5 5, 3) := by decide +kernel
theorem ddL_law_2649 : decode code 2649 = .ok (.goto (-2621), 3) := by decide +kernel
theorem ddL_law_2652 : decode code 2652 = .ok (.iconst 1, 1) := by decide +kernel
theorem ddL_law_2653 : decode code 2653 = .ok (.ireturn, 1) := by decide +kernel
