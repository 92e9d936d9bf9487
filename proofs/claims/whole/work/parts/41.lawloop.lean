theorem dL_law_28 : decode cL_law 28 = .ok (.iload 5, 2) := by decide +kernel
theorem dL_law_30 : decode cL_law 30 = .ok (.aload_n 0, 1) := by decide +kernel
theorem dL_law_31 : decode cL_law 31 = .ok (.arraylength, 1) := by decide +kernel
theorem dL_law_32 : decode cL_law 32 = .ok (.iconst 4, 1) := by decide +kernel
theorem dL_law_33 : decode cL_law 33 = .ok (.isub, 1) := by decide +kernel
theorem dL_law_34 : decode cL_law 34 = .ok (.if_icmp .gt 2614, 3) := by decide +kernel
theorem dL_law_37 : decode cL_law 37 = .ok (.aload_n 0, 1) := by decide +kernel
theorem dL_law_38 : decode cL_law 38 = .ok (.iload 5, 2) := by decide +kernel
theorem dL_law_40 : decode cL_law 40 = .ok (.iaload, 1) := by decide +kernel
theorem dL_law_41 : decode cL_law 41 = .ok (.bipush 63, 2) := by decide +kernel
theorem dL_law_43 : decode cL_law 43 = .ok (.iand, 1) := by decide +kernel
theorem dL_law_44 : decode cL_law 44 = .ok (.tableswitch 2598 0 52 #[228, 272, 340, 410, 480, 493, 549, 626, 684, 740, 796, 840, 853, 909, 965, 1028, 1041, 1054, 1134, 1190, 1246, 1302, 1315, 1371, 1427, 1483, 1546, 1590, 1634, 1690, 1734, 1778, 1791, 1804, 1817, 1830, 1895, 1961, 2019, 2032, 2076, 2139, 2183, 2227, 2283, 2296, 2352, 2396, 2440, 2484, 2528, 2541, 2554], 228) := by decide +kernel
theorem dL_law_272 : decode cL_law 272 = .ok (.aload_n 1, 1) := by decide +kernel
theorem dL_law_273 : decode cL_law 273 = .ok (.aload_n 3, 1) := by decide +kernel
theorem dL_law_274 : decode cL_law 274 = .ok (.invokestatic 156, 3) := by decide +kernel
theorem dL_law_277 : decode cL_law 277 = .ok (.istore 6, 2) := by decide +kernel
theorem dL_law_279 : decode cL_law 279 = .ok (.aload_n 2, 1) := by decide +kernel
theorem dL_law_280 : decode cL_law 280 = .ok (.invokevirtual 161, 3) := by decide +kernel
theorem dL_law_283 : decode cL_law 283 = .ok (.istore 7, 2) := by decide +kernel
theorem dL_law_285 : decode cL_law 285 = .ok (.aload_n 2, 1) := by decide +kernel
theorem dL_law_286 : decode cL_law 286 = .ok (.invokevirtual 162, 3) := by decide +kernel
theorem dL_law_289 : decode cL_law 289 = .ok (.iload 6, 2) := by decide +kernel
theorem dL_law_291 : decode cL_law 291 = .ok (.if_icmp .eq 5, 3) := by decide +kernel
theorem dL_law_294 : decode cL_law 294 = .ok (.iconst 0, 1) := by decide +kernel
theorem dL_law_295 : decode cL_law 295 = .ok (.ireturn, 1) := by decide +kernel
theorem dL_law_296 : decode cL_law 296 = .ok (.iload 6, 2) := by decide +kernel
theorem dL_law_298 : decode cL_law 298 = .ok (.ifCond .ne 15, 3) := by decide +kernel
theorem dL_law_301 : decode cL_law 301 = .ok (.aload_n 3, 1) := by decide +kernel
theorem dL_law_302 : decode cL_law 302 = .ok (.iconst 0, 1) := by decide +kernel
theorem dL_law_303 : decode cL_law 303 = .ok (.laload, 1) := by decide +kernel
theorem dL_law_304 : decode cL_law 304 = .ok (.iload 7, 2) := by decide +kernel
theorem dL_law_306 : decode cL_law 306 = .ok (.i2l, 1) := by decide +kernel
theorem dL_law_307 : decode cL_law 307 = .ok (.lcmp, 1) := by decide +kernel
theorem dL_law_308 : decode cL_law 308 = .ok (.ifCond .eq 5, 3) := by decide +kernel
theorem dL_law_311 : decode cL_law 311 = .ok (.iconst 0, 1) := by decide +kernel
theorem dL_law_312 : decode cL_law 312 = .ok (.ireturn, 1) := by decide +kernel
theorem dL_law_313 : decode cL_law 313 = .ok (.goto 2329, 3) := by decide +kernel
theorem dL_law_316 : decode cL_law 316 = .ok (.aload_n 1, 1) := by decide +kernel
theorem dL_law_317 : decode cL_law 317 = .ok (.aload_n 0, 1) := by decide +kernel
theorem dL_law_318 : decode cL_law 318 = .ok (.iload 5, 2) := by decide +kernel
theorem dL_law_320 : decode cL_law 320 = .ok (.iconst 1, 1) := by decide +kernel
theorem dL_law_321 : decode cL_law 321 = .ok (.iadd, 1) := by decide +kernel
theorem dL_law_322 : decode cL_law 322 = .ok (.iaload, 1) := by decide +kernel
theorem dL_law_323 : decode cL_law 323 = .ok (.aload_n 0, 1) := by decide +kernel
theorem dL_law_324 : decode cL_law 324 = .ok (.iload 5, 2) := by decide +kernel
theorem dL_law_326 : decode cL_law 326 = .ok (.iconst 2, 1) := by decide +kernel
theorem dL_law_327 : decode cL_law 327 = .ok (.iadd, 1) := by decide +kernel
theorem dL_law_328 : decode cL_law 328 = .ok (.iaload, 1) := by decide +kernel
theorem dL_law_329 : decode cL_law 329 = .ok (.aload_n 3, 1) := by decide +kernel
theorem dL_law_330 : decode cL_law 330 = .ok (.invokestatic 165, 3) := by decide +kernel
theorem dL_law_333 : decode cL_law 333 = .ok (.istore 6, 2) := by decide +kernel
theorem dL_law_335 : decode cL_law 335 = .ok (.aload_n 2, 1) := by decide +kernel
theorem dL_law_336 : decode cL_law 336 = .ok (.aload_n 0, 1) := by decide +kernel
theorem dL_law_337 : decode cL_law 337 = .ok (.iload 5, 2) := by decide +kernel
theorem dL_law_339 : decode cL_law 339 = .ok (.iconst 1, 1) := by decide +kernel
theorem dL_law_340 : decode cL_law 340 = .ok (.iadd, 1) := by decide +kernel
theorem dL_law_341 : decode cL_law 341 = .ok (.iaload, 1) := by decide +kernel
theorem dL_law_342 : decode cL_law 342 = .ok (.aload_n 0, 1) := by decide +kernel
theorem dL_law_343 : decode cL_law 343 = .ok (.iload 5, 2) := by decide +kernel
theorem dL_law_345 : decode cL_law 345 = .ok (.iconst 2, 1) := by decide +kernel
theorem dL_law_346 : decode cL_law 346 = .ok (.iadd, 1) := by decide +kernel
theorem dL_law_347 : decode cL_law 347 = .ok (.iaload, 1) := by decide +kernel
theorem dL_law_348 : decode cL_law 348 = .ok (.invokevirtual 168, 3) := by decide +kernel
theorem dL_law_351 : decode cL_law 351 = .ok (.istore 7, 2) := by decide +kernel
theorem dL_law_353 : decode cL_law 353 = .ok (.aload_n 2, 1) := by decide +kernel
theorem dL_law_354 : decode cL_law 354 = .ok (.invokevirtual 162, 3) := by decide +kernel
theorem dL_law_357 : decode cL_law 357 = .ok (.iload 6, 2) := by decide +kernel
theorem dL_law_359 : decode cL_law 359 = .ok (.if_icmp .eq 5, 3) := by decide +kernel
theorem dL_law_362 : decode cL_law 362 = .ok (.iconst 0, 1) := by decide +kernel
theorem dL_law_363 : decode cL_law 363 = .ok (.ireturn, 1) := by decide +kernel
theorem dL_law_364 : decode cL_law 364 = .ok (.iload 6, 2) := by decide +kernel
theorem dL_law_366 : decode cL_law 366 = .ok (.ifCond .ne 15, 3) := by decide +kernel
theorem dL_law_369 : decode cL_law 369 = .ok (.aload_n 3, 1) := by decide +kernel
theorem dL_law_370 : decode cL_law 370 = .ok (.iconst 0, 1) := by decide +kernel
theorem dL_law_371 : decode cL_law 371 = .ok (.laload, 1) := by decide +kernel
theorem dL_law_372 : decode cL_law 372 = .ok (.iload 7, 2) := by decide +kernel
theorem dL_law_374 : decode cL_law 374 = .ok (.i2l, 1) := by decide +kernel
theorem dL_law_375 : decode cL_law 375 = .ok (.lcmp, 1) := by decide +kernel
theorem dL_law_376 : decode cL_law 376 = .ok (.ifCond .eq 5, 3) := by decide +kernel
theorem dL_law_379 : decode cL_law 379 = .ok (.iconst 0, 1) := by decide +kernel
theorem dL_law_380 : decode cL_law 380 = .ok (.ireturn, 1) := by decide +kernel
theorem dL_law_381 : decode cL_law 381 = .ok (.goto 2261, 3) := by decide +kernel
theorem dL_law_384 : decode cL_law 384 = .ok (.aload_n 1, 1) := by decide +kernel
theorem dL_law_385 : decode cL_law 385 = .ok (.aload_n 0, 1) := by decide +kernel
theorem dL_law_386 : decode cL_law 386 = .ok (.iload 5, 2) := by decide +kernel
theorem dL_law_388 : decode cL_law 388 = .ok (.iconst 1, 1) := by decide +kernel
theorem dL_law_389 : decode cL_law 389 = .ok (.iadd, 1) := by decide +kernel
theorem dL_law_390 : decode cL_law 390 = .ok (.iaload, 1) := by decide +kernel
theorem dL_law_391 : decode cL_law 391 = .ok (.aload_n 0, 1) := by decide +kernel
theorem dL_law_392 : decode cL_law 392 = .ok (.iload 5, 2) := by decide +kernel
theorem dL_law_394 : decode cL_law 394 = .ok (.iconst 2, 1) := by decide +kernel
theorem dL_law_395 : decode cL_law 395 = .ok (.iadd, 1) := by decide +kernel
theorem dL_law_396 : decode cL_law 396 = .ok (.iaload, 1) := by decide +kernel
theorem dL_law_397 : decode cL_law 397 = .ok (.i2c, 1) := by decide +kernel
theorem dL_law_398 : decode cL_law 398 = .ok (.aload_n 3, 1) := by decide +kernel
theorem dL_law_399 : decode cL_law 399 = .ok (.invokestatic 169, 3) := by decide +kernel
theorem dL_law_402 : decode cL_law 402 = .ok (.istore 6, 2) := by decide +kernel
theorem dL_law_404 : decode cL_law 404 = .ok (.aload_n 2, 1) := by decide +kernel
theorem dL_law_405 : decode cL_law 405 = .ok (.aload_n 0, 1) := by decide +kernel
theorem dL_law_406 : decode cL_law 406 = .ok (.iload 5, 2) := by decide +kernel
theorem dL_law_408 : decode cL_law 408 = .ok (.iconst 1, 1) := by decide +kernel
theorem dL_law_409 : decode cL_law 409 = .ok (.iadd, 1) := by decide +kernel
theorem dL_law_410 : decode cL_law 410 = .ok (.iaload, 1) := by decide +kernel
theorem dL_law_411 : decode cL_law 411 = .ok (.aload_n 0, 1) := by decide +kernel
theorem dL_law_412 : decode cL_law 412 = .ok (.iload 5, 2) := by decide +kernel
theorem dL_law_414 : decode cL_law 414 = .ok (.iconst 2, 1) := by decide +kernel
theorem dL_law_415 : decode cL_law 415 = .ok (.iadd, 1) := by decide +kernel
theorem dL_law_416 : decode cL_law 416 = .ok (.iaload, 1) := by decide +kernel
theorem dL_law_417 : decode cL_law 417 = .ok (.i2c, 1) := by decide +kernel
theorem dL_law_418 : decode cL_law 418 = .ok (.invokevirtual 172, 3) := by decide +kernel
theorem dL_law_421 : decode cL_law 421 = .ok (.istore 7, 2) := by decide +kernel
theorem dL_law_423 : decode cL_law 423 = .ok (.aload_n 2, 1) := by decide +kernel
theorem dL_law_424 : decode cL_law 424 = .ok (.invokevirtual 162, 3) := by decide +kernel
theorem dL_law_427 : decode cL_law 427 = .ok (.iload 6, 2) := by decide +kernel
theorem dL_law_429 : decode cL_law 429 = .ok (.if_icmp .eq 5, 3) := by decide +kernel
theorem dL_law_432 : decode cL_law 432 = .ok (.iconst 0, 1) := by decide +kernel
theorem dL_law_433 : decode cL_law 433 = .ok (.ireturn, 1) := by decide +kernel
theorem dL_law_434 : decode cL_law 434 = .ok (.iload 6, 2) := by decide +kernel
theorem dL_law_436 : decode cL_law 436 = .ok (.ifCond .ne 15, 3) := by decide +kernel
theorem dL_law_439 : decode cL_law 439 = .ok (.aload_n 3, 1) := by decide +kernel
theorem dL_law_440 : decode cL_law 440 = .ok (.iconst 0, 1) := by decide +kernel
theorem dL_law_441 : decode cL_law 441 = .ok (.laload, 1) := by decide +kernel
theorem dL_law_442 : decode cL_law 442 = .ok (.iload 7, 2) := by decide +kernel
theorem dL_law_444 : decode cL_law 444 = .ok (.i2l, 1) := by decide +kernel
theorem dL_law_445 : decode cL_law 445 = .ok (.lcmp, 1) := by decide +kernel
theorem dL_law_446 : decode cL_law 446 = .ok (.ifCond .eq 5, 3) := by decide +kernel
theorem dL_law_449 : decode cL_law 449 = .ok (.iconst 0, 1) := by decide +kernel
theorem dL_law_450 : decode cL_law 450 = .ok (.ireturn, 1) := by decide +kernel
theorem dL_law_451 : decode cL_law 451 = .ok (.goto 2191, 3) := by decide +kernel
theorem dL_law_454 : decode cL_law 454 = .ok (.aload_n 1, 1) := by decide +kernel
theorem dL_law_455 : decode cL_law 455 = .ok (.aload_n 0, 1) := by decide +kernel
theorem dL_law_456 : decode cL_law 456 = .ok (.iload 5, 2) := by decide +kernel
theorem dL_law_458 : decode cL_law 458 = .ok (.iconst 1, 1) := by decide +kernel
theorem dL_law_459 : decode cL_law 459 = .ok (.iadd, 1) := by decide +kernel
theorem dL_law_460 : decode cL_law 460 = .ok (.iaload, 1) := by decide +kernel
theorem dL_law_461 : decode cL_law 461 = .ok (.aload_n 0, 1) := by decide +kernel
theorem dL_law_462 : decode cL_law 462 = .ok (.iload 5, 2) := by decide +kernel
theorem dL_law_464 : decode cL_law 464 = .ok (.iconst 2, 1) := by decide +kernel
theorem dL_law_465 : decode cL_law 465 = .ok (.iadd, 1) := by decide +kernel
theorem dL_law_466 : decode cL_law 466 = .ok (.iaload, 1) := by decide +kernel
theorem dL_law_467 : decode cL_law 467 = .ok (.i2c, 1) := by decide +kernel
theorem dL_law_468 : decode cL_law 468 = .ok (.aload_n 3, 1) := by decide +kernel
theorem dL_law_469 : decode cL_law 469 = .ok (.invokestatic 173, 3) := by decide +kernel
theorem dL_law_472 : decode cL_law 472 = .ok (.istore 6, 2) := by decide +kernel
theorem dL_law_474 : decode cL_law 474 = .ok (.aload_n 2, 1) := by decide +kernel
theorem dL_law_475 : decode cL_law 475 = .ok (.aload_n 0, 1) := by decide +kernel
theorem dL_law_476 : decode cL_law 476 = .ok (.iload 5, 2) := by decide +kernel
theorem dL_law_478 : decode cL_law 478 = .ok (.iconst 1, 1) := by decide +kernel
theorem dL_law_479 : decode cL_law 479 = .ok (.iadd, 1) := by decide +kernel
theorem dL_law_480 : decode cL_law 480 = .ok (.iaload, 1) := by decide +kernel
theorem dL_law_481 : decode cL_law 481 = .ok (.aload_n 0, 1) := by decide +kernel
theorem dL_law_482 : decode cL_law 482 = .ok (.iload 5, 2) := by decide +kernel
theorem dL_law_484 : decode cL_law 484 = .ok (.iconst 2, 1) := by decide +kernel
theorem dL_law_485 : decode cL_law 485 = .ok (.iadd, 1) := by decide +kernel
theorem dL_law_486 : decode cL_law 486 = .ok (.iaload, 1) := by decide +kernel
theorem dL_law_487 : decode cL_law 487 = .ok (.i2c, 1) := by decide +kernel
theorem dL_law_488 : decode cL_law 488 = .ok (.invokevirtual 175, 3) := by decide +kernel
theorem dL_law_491 : decode cL_law 491 = .ok (.istore 7, 2) := by decide +kernel
theorem dL_law_493 : decode cL_law 493 = .ok (.aload_n 2, 1) := by decide +kernel
theorem dL_law_494 : decode cL_law 494 = .ok (.invokevirtual 162, 3) := by decide +kernel
theorem dL_law_497 : decode cL_law 497 = .ok (.iload 6, 2) := by decide +kernel
theorem dL_law_499 : decode cL_law 499 = .ok (.if_icmp .eq 5, 3) := by decide +kernel
theorem dL_law_502 : decode cL_law 502 = .ok (.iconst 0, 1) := by decide +kernel
theorem dL_law_503 : decode cL_law 503 = .ok (.ireturn, 1) := by decide +kernel
theorem dL_law_504 : decode cL_law 504 = .ok (.iload 6, 2) := by decide +kernel
theorem dL_law_506 : decode cL_law 506 = .ok (.ifCond .ne 15, 3) := by decide +kernel
theorem dL_law_509 : decode cL_law 509 = .ok (.aload_n 3, 1) := by decide +kernel
theorem dL_law_510 : decode cL_law 510 = .ok (.iconst 0, 1) := by decide +kernel
theorem dL_law_511 : decode cL_law 511 = .ok (.laload, 1) := by decide +kernel
theorem dL_law_512 : decode cL_law 512 = .ok (.iload 7, 2) := by decide +kernel
theorem dL_law_514 : decode cL_law 514 = .ok (.i2l, 1) := by decide +kernel
theorem dL_law_515 : decode cL_law 515 = .ok (.lcmp, 1) := by decide +kernel
theorem dL_law_516 : decode cL_law 516 = .ok (.ifCond .eq 5, 3) := by decide +kernel
theorem dL_law_519 : decode cL_law 519 = .ok (.iconst 0, 1) := by decide +kernel
theorem dL_law_520 : decode cL_law 520 = .ok (.ireturn, 1) := by decide +kernel
theorem dL_law_521 : decode cL_law 521 = .ok (.goto 2121, 3) := by decide +kernel
theorem dL_law_524 : decode cL_law 524 = .ok (.aload_n 1, 1) := by decide +kernel
theorem dL_law_525 : decode cL_law 525 = .ok (.invokevirtual 176, 3) := by decide +kernel
theorem dL_law_528 : decode cL_law 528 = .ok (.aload_n 2, 1) := by decide +kernel
theorem dL_law_529 : decode cL_law 529 = .ok (.invokevirtual 179, 3) := by decide +kernel
theorem dL_law_532 : decode cL_law 532 = .ok (.if_icmp .eq 2110, 3) := by decide +kernel
theorem dL_law_535 : decode cL_law 535 = .ok (.iconst 0, 1) := by decide +kernel
theorem dL_law_536 : decode cL_law 536 = .ok (.ireturn, 1) := by decide +kernel
theorem dL_law_537 : decode cL_law 537 = .ok (.aload_n 1, 1) := by decide +kernel
theorem dL_law_538 : decode cL_law 538 = .ok (.aload_n 0, 1) := by decide +kernel
theorem dL_law_539 : decode cL_law 539 = .ok (.iload 5, 2) := by decide +kernel
theorem dL_law_541 : decode cL_law 541 = .ok (.iconst 1, 1) := by decide +kernel
theorem dL_law_542 : decode cL_law 542 = .ok (.iadd, 1) := by decide +kernel
theorem dL_law_543 : decode cL_law 543 = .ok (.iaload, 1) := by decide +kernel
theorem dL_law_544 : decode cL_law 544 = .ok (.aload_n 3, 1) := by decide +kernel
theorem dL_law_545 : decode cL_law 545 = .ok (.invokestatic 180, 3) := by decide +kernel
theorem dL_law_548 : decode cL_law 548 = .ok (.istore 6, 2) := by decide +kernel
theorem dL_law_550 : decode cL_law 550 = .ok (.aload_n 2, 1) := by decide +kernel
theorem dL_law_551 : decode cL_law 551 = .ok (.aload_n 0, 1) := by decide +kernel
theorem dL_law_552 : decode cL_law 552 = .ok (.iload 5, 2) := by decide +kernel
theorem dL_law_554 : decode cL_law 554 = .ok (.iconst 1, 1) := by decide +kernel
theorem dL_law_555 : decode cL_law 555 = .ok (.iadd, 1) := by decide +kernel
theorem dL_law_556 : decode cL_law 556 = .ok (.iaload, 1) := by decide +kernel
theorem dL_law_557 : decode cL_law 557 = .ok (.invokevirtual 183, 3) := by decide +kernel
theorem dL_law_560 : decode cL_law 560 = .ok (.istore 7, 2) := by decide +kernel
theorem dL_law_562 : decode cL_law 562 = .ok (.aload_n 2, 1) := by decide +kernel
theorem dL_law_563 : decode cL_law 563 = .ok (.invokevirtual 162, 3) := by decide +kernel
theorem dL_law_566 : decode cL_law 566 = .ok (.iload 6, 2) := by decide +kernel
theorem dL_law_568 : decode cL_law 568 = .ok (.if_icmp .eq 5, 3) := by decide +kernel
theorem dL_law_571 : decode cL_law 571 = .ok (.iconst 0, 1) := by decide +kernel
theorem dL_law_572 : decode cL_law 572 = .ok (.ireturn, 1) := by decide +kernel
theorem dL_law_573 : decode cL_law 573 = .ok (.iload 6, 2) := by decide +kernel
theorem dL_law_575 : decode cL_law 575 = .ok (.ifCond .ne 15, 3) := by decide +kernel
theorem dL_law_578 : decode cL_law 578 = .ok (.aload_n 3, 1) := by decide +kernel
theorem dL_law_579 : decode cL_law 579 = .ok (.iconst 0, 1) := by decide +kernel
theorem dL_law_580 : decode cL_law 580 = .ok (.laload, 1) := by decide +kernel
theorem dL_law_581 : decode cL_law 581 = .ok (.iload 7, 2) := by decide +kernel
theorem dL_law_583 : decode cL_law 583 = .ok (.i2l, 1) := by decide +kernel
theorem dL_law_584 : decode cL_law 584 = .ok (.lcmp, 1) := by decide +kernel
theorem dL_law_585 : decode cL_law 585 = .ok (.ifCond .eq 5, 3) := by decide +kernel
theorem dL_law_588 : decode cL_law 588 = .ok (.iconst 0, 1) := by decide +kernel
theorem dL_law_589 : decode cL_law 589 = .ok (.ireturn, 1) := by decide +kernel
theorem dL_law_590 : decode cL_law 590 = .ok (.goto 2052, 3) := by decide +kernel
theorem dL_law_593 : decode cL_law 593 = .ok (.aload_n 1, 1) := by decide +kernel
theorem dL_law_594 : decode cL_law 594 = .ok (.aload_n 0, 1) := by decide +kernel
theorem dL_law_595 : decode cL_law 595 = .ok (.iload 5, 2) := by decide +kernel
theorem dL_law_597 : decode cL_law 597 = .ok (.iconst 1, 1) := by decide +kernel
theorem dL_law_598 : decode cL_law 598 = .ok (.iadd, 1) := by decide +kernel
theorem dL_law_599 : decode cL_law 599 = .ok (.iaload, 1) := by decide +kernel
theorem dL_law_600 : decode cL_law 600 = .ok (.aload_n 0, 1) := by decide +kernel
theorem dL_law_601 : decode cL_law 601 = .ok (.iload 5, 2) := by decide +kernel
theorem dL_law_603 : decode cL_law 603 = .ok (.iconst 2, 1) := by decide +kernel
theorem dL_law_604 : decode cL_law 604 = .ok (.iadd, 1) := by decide +kernel
theorem dL_law_605 : decode cL_law 605 = .ok (.iaload, 1) := by decide +kernel
theorem dL_law_606 : decode cL_law 606 = .ok (.i2c, 1) := by decide +kernel
theorem dL_law_607 : decode cL_law 607 = .ok (.aload_n 3, 1) := by decide +kernel
theorem dL_law_608 : decode cL_law 608 = .ok (.invokestatic 184, 3) := by decide +kernel
theorem dL_law_611 : decode cL_law 611 = .ok (.istore 6, 2) := by decide +kernel
theorem dL_law_613 : decode cL_law 613 = .ok (.aload_n 2, 1) := by decide +kernel
theorem dL_law_614 : decode cL_law 614 = .ok (.aload_n 0, 1) := by decide +kernel
theorem dL_law_615 : decode cL_law 615 = .ok (.iload 5, 2) := by decide +kernel
theorem dL_law_617 : decode cL_law 617 = .ok (.iconst 1, 1) := by decide +kernel
theorem dL_law_618 : decode cL_law 618 = .ok (.iadd, 1) := by decide +kernel
theorem dL_law_619 : decode cL_law 619 = .ok (.iaload, 1) := by decide +kernel
theorem dL_law_620 : decode cL_law 620 = .ok (.aload_n 0, 1) := by decide +kernel
theorem dL_law_621 : decode cL_law 621 = .ok (.iload 5, 2) := by decide +kernel
theorem dL_law_623 : decode cL_law 623 = .ok (.iconst 2, 1) := by decide +kernel
theorem dL_law_624 : decode cL_law 624 = .ok (.iadd, 1) := by decide +kernel
theorem dL_law_625 : decode cL_law 625 = .ok (.iaload, 1) := by decide +kernel
theorem dL_law_626 : decode cL_law 626 = .ok (.i2c, 1) := by decide +kernel
theorem dL_law_627 : decode cL_law 627 = .ok (.invokevirtual 186, 3) := by decide +kernel
theorem dL_law_630 : decode cL_law 630 = .ok (.istore 7, 2) := by decide +kernel
theorem dL_law_632 : decode cL_law 632 = .ok (.aload_n 2, 1) := by decide +kernel
theorem dL_law_633 : decode cL_law 633 = .ok (.invokevirtual 162, 3) := by decide +kernel
theorem dL_law_636 : decode cL_law 636 = .ok (.iload 6, 2) := by decide +kernel
theorem dL_law_638 : decode cL_law 638 = .ok (.if_icmp .eq 5, 3) := by decide +kernel
theorem dL_law_641 : decode cL_law 641 = .ok (.iconst 0, 1) := by decide +kernel
theorem dL_law_642 : decode cL_law 642 = .ok (.ireturn, 1) := by decide +kernel
theorem dL_law_643 : decode cL_law 643 = .ok (.iload 6, 2) := by decide +kernel
theorem dL_law_645 : decode cL_law 645 = .ok (.ifCond .ne 22, 3) := by decide +kernel
theorem dL_law_648 : decode cL_law 648 = .ok (.aload_n 3, 1) := by decide +kernel
theorem dL_law_649 : decode cL_law 649 = .ok (.iconst 0, 1) := by decide +kernel
theorem dL_law_650 : decode cL_law 650 = .ok (.laload, 1) := by decide +kernel
theorem dL_law_651 : decode cL_law 651 = .ok (.iload 7, 2) := by decide +kernel
theorem dL_law_653 : decode cL_law 653 = .ok (.ifCond .eq 7, 3) := by decide +kernel
theorem dL_law_656 : decode cL_law 656 = .ok (.lconst 1, 1) := by decide +kernel
theorem dL_law_657 : decode cL_law 657 = .ok (.goto 4, 3) := by decide +kernel
theorem dL_law_660 : decode cL_law 660 = .ok (.lconst 0, 1) := by decide +kernel
theorem dL_law_661 : decode cL_law 661 = .ok (.lcmp, 1) := by decide +kernel
theorem dL_law_662 : decode cL_law 662 = .ok (.ifCond .eq 5, 3) := by decide +kernel
theorem dL_law_665 : decode cL_law 665 = .ok (.iconst 0, 1) := by decide +kernel
theorem dL_law_666 : decode cL_law 666 = .ok (.ireturn, 1) := by decide +kernel
theorem dL_law_667 : decode cL_law 667 = .ok (.goto 1975, 3) := by decide +kernel
theorem dL_law_670 : decode cL_law 670 = .ok (.aload_n 1, 1) := by decide +kernel
theorem dL_law_671 : decode cL_law 671 = .ok (.aload_n 0, 1) := by decide +kernel
theorem dL_law_672 : decode cL_law 672 = .ok (.iload 5, 2) := by decide +kernel
theorem dL_law_674 : decode cL_law 674 = .ok (.iconst 1, 1) := by decide +kernel
theorem dL_law_675 : decode cL_law 675 = .ok (.iadd, 1) := by decide +kernel
theorem dL_law_676 : decode cL_law 676 = .ok (.iaload, 1) := by decide +kernel
theorem dL_law_677 : decode cL_law 677 = .ok (.i2c, 1) := by decide +kernel
theorem dL_law_678 : decode cL_law 678 = .ok (.aload_n 3, 1) := by decide +kernel
theorem dL_law_679 : decode cL_law 679 = .ok (.invokestatic 187, 3) := by decide +kernel
theorem dL_law_682 : decode cL_law 682 = .ok (.istore 6, 2) := by decide +kernel
theorem dL_law_684 : decode cL_law 684 = .ok (.aload_n 2, 1) := by decide +kernel
theorem dL_law_685 : decode cL_law 685 = .ok (.aload_n 0, 1) := by decide +kernel
theorem dL_law_686 : decode cL_law 686 = .ok (.iload 5, 2) := by decide +kernel
theorem dL_law_688 : decode cL_law 688 = .ok (.iconst 1, 1) := by decide +kernel
theorem dL_law_689 : decode cL_law 689 = .ok (.iadd, 1) := by decide +kernel
theorem dL_law_690 : decode cL_law 690 = .ok (.iaload, 1) := by decide +kernel
theorem dL_law_691 : decode cL_law 691 = .ok (.i2c, 1) := by decide +kernel
theorem dL_law_692 : decode cL_law 692 = .ok (.invokevirtual 190, 3) := by decide +kernel
theorem dL_law_695 : decode cL_law 695 = .ok (.istore 7, 2) := by decide +kernel
theorem dL_law_697 : decode cL_law 697 = .ok (.aload_n 2, 1) := by decide +kernel
theorem dL_law_698 : decode cL_law 698 = .ok (.invokevirtual 162, 3) := by decide +kernel
theorem dL_law_701 : decode cL_law 701 = .ok (.iload 6, 2) := by decide +kernel
theorem dL_law_703 : decode cL_law 703 = .ok (.if_icmp .eq 5, 3) := by decide +kernel
theorem dL_law_706 : decode cL_law 706 = .ok (.iconst 0, 1) := by decide +kernel
theorem dL_law_707 : decode cL_law 707 = .ok (.ireturn, 1) := by decide +kernel
theorem dL_law_708 : decode cL_law 708 = .ok (.iload 6, 2) := by decide +kernel
theorem dL_law_710 : decode cL_law 710 = .ok (.ifCond .ne 15, 3) := by decide +kernel
theorem dL_law_713 : decode cL_law 713 = .ok (.aload_n 3, 1) := by decide +kernel
theorem dL_law_714 : decode cL_law 714 = .ok (.iconst 0, 1) := by decide +kernel
theorem dL_law_715 : decode cL_law 715 = .ok (.laload, 1) := by decide +kernel
theorem dL_law_716 : decode cL_law 716 = .ok (.iload 7, 2) := by decide +kernel
theorem dL_law_718 : decode cL_law 718 = .ok (.i2l, 1) := by decide +kernel
theorem dL_law_719 : decode cL_law 719 = .ok (.lcmp, 1) := by decide +kernel
theorem dL_law_720 : decode cL_law 720 = .ok (.ifCond .eq 5, 3) := by decide +kernel
theorem dL_law_723 : decode cL_law 723 = .ok (.iconst 0, 1) := by decide +kernel
theorem dL_law_724 : decode cL_law 724 = .ok (.ireturn, 1) := by decide +kernel
theorem dL_law_725 : decode cL_law 725 = .ok (.goto 1917, 3) := by decide +kernel
theorem dL_law_728 : decode cL_law 728 = .ok (.aload_n 1, 1) := by decide +kernel
theorem dL_law_729 : decode cL_law 729 = .ok (.aload_n 0, 1) := by decide +kernel
theorem dL_law_730 : decode cL_law 730 = .ok (.iload 5, 2) := by decide +kernel
theorem dL_law_732 : decode cL_law 732 = .ok (.iconst 1, 1) := by decide +kernel
theorem dL_law_733 : decode cL_law 733 = .ok (.iadd, 1) := by decide +kernel
theorem dL_law_734 : decode cL_law 734 = .ok (.iaload, 1) := by decide +kernel
theorem dL_law_735 : decode cL_law 735 = .ok (.aload_n 3, 1) := by decide +kernel
theorem dL_law_736 : decode cL_law 736 = .ok (.invokestatic 191, 3) := by decide +kernel
theorem dL_law_739 : decode cL_law 739 = .ok (.istore 6, 2) := by decide +kernel
theorem dL_law_741 : decode cL_law 741 = .ok (.aload_n 2, 1) := by decide +kernel
theorem dL_law_742 : decode cL_law 742 = .ok (.aload_n 0, 1) := by decide +kernel
theorem dL_law_743 : decode cL_law 743 = .ok (.iload 5, 2) := by decide +kernel
theorem dL_law_745 : decode cL_law 745 = .ok (.iconst 1, 1) := by decide +kernel
theorem dL_law_746 : decode cL_law 746 = .ok (.iadd, 1) := by decide +kernel
theorem dL_law_747 : decode cL_law 747 = .ok (.iaload, 1) := by decide +kernel
theorem dL_law_748 : decode cL_law 748 = .ok (.invokevirtual 193, 3) := by decide +kernel
theorem dL_law_751 : decode cL_law 751 = .ok (.istore 7, 2) := by decide +kernel
theorem dL_law_753 : decode cL_law 753 = .ok (.aload_n 2, 1) := by decide +kernel
theorem dL_law_754 : decode cL_law 754 = .ok (.invokevirtual 162, 3) := by decide +kernel
theorem dL_law_757 : decode cL_law 757 = .ok (.iload 6, 2) := by decide +kernel
theorem dL_law_759 : decode cL_law 759 = .ok (.if_icmp .eq 5, 3) := by decide +kernel
theorem dL_law_762 : decode cL_law 762 = .ok (.iconst 0, 1) := by decide +kernel
theorem dL_law_763 : decode cL_law 763 = .ok (.ireturn, 1) := by decide +kernel
theorem dL_law_764 : decode cL_law 764 = .ok (.iload 6, 2) := by decide +kernel
theorem dL_law_766 : decode cL_law 766 = .ok (.ifCond .ne 15, 3) := by decide +kernel
theorem dL_law_769 : decode cL_law 769 = .ok (.aload_n 3, 1) := by decide +kernel
theorem dL_law_770 : decode cL_law 770 = .ok (.iconst 0, 1) := by decide +kernel
theorem dL_law_771 : decode cL_law 771 = .ok (.laload, 1) := by decide +kernel
theorem dL_law_772 : decode cL_law 772 = .ok (.iload 7, 2) := by decide +kernel
theorem dL_law_774 : decode cL_law 774 = .ok (.i2l, 1) := by decide +kernel
theorem dL_law_775 : decode cL_law 775 = .ok (.lcmp, 1) := by decide +kernel
theorem dL_law_776 : decode cL_law 776 = .ok (.ifCond .eq 5, 3) := by decide +kernel
theorem dL_law_779 : decode cL_law 779 = .ok (.iconst 0, 1) := by decide +kernel
theorem dL_law_780 : decode cL_law 780 = .ok (.ireturn, 1) := by decide +kernel
theorem dL_law_781 : decode cL_law 781 = .ok (.goto 1861, 3) := by decide +kernel
theorem dL_law_784 : decode cL_law 784 = .ok (.aload_n 1, 1) := by decide +kernel
theorem dL_law_785 : decode cL_law 785 = .ok (.aload_n 0, 1) := by decide +kernel
theorem dL_law_786 : decode cL_law 786 = .ok (.iload 5, 2) := by decide +kernel
theorem dL_law_788 : decode cL_law 788 = .ok (.iconst 1, 1) := by decide +kernel
theorem dL_law_789 : decode cL_law 789 = .ok (.iadd, 1) := by decide +kernel
theorem dL_law_790 : decode cL_law 790 = .ok (.iaload, 1) := by decide +kernel
theorem dL_law_791 : decode cL_law 791 = .ok (.aload_n 3, 1) := by decide +kernel
theorem dL_law_792 : decode cL_law 792 = .ok (.invokestatic 194, 3) := by decide +kernel
theorem dL_law_795 : decode cL_law 795 = .ok (.istore 6, 2) := by decide +kernel
theorem dL_law_797 : decode cL_law 797 = .ok (.aload_n 2, 1) := by decide +kernel
theorem dL_law_798 : decode cL_law 798 = .ok (.aload_n 0, 1) := by decide +kernel
theorem dL_law_799 : decode cL_law 799 = .ok (.iload 5, 2) := by decide +kernel
theorem dL_law_801 : decode cL_law 801 = .ok (.iconst 1, 1) := by decide +kernel
theorem dL_law_802 : decode cL_law 802 = .ok (.iadd, 1) := by decide +kernel
theorem dL_law_803 : decode cL_law 803 = .ok (.iaload, 1) := by decide +kernel
theorem dL_law_804 : decode cL_law 804 = .ok (.invokevirtual 196, 3) := by decide +kernel
theorem dL_law_807 : decode cL_law 807 = .ok (.istore 7, 2) := by decide +kernel
theorem dL_law_809 : decode cL_law 809 = .ok (.aload_n 2, 1) := by decide +kernel
theorem dL_law_810 : decode cL_law 810 = .ok (.invokevirtual 162, 3) := by decide +kernel
theorem dL_law_813 : decode cL_law 813 = .ok (.iload 6, 2) := by decide +kernel
theorem dL_law_815 : decode cL_law 815 = .ok (.if_icmp .eq 5, 3) := by decide +kernel
theorem dL_law_818 : decode cL_law 818 = .ok (.iconst 0, 1) := by decide +kernel
theorem dL_law_819 : decode cL_law 819 = .ok (.ireturn, 1) := by decide +kernel
theorem dL_law_820 : decode cL_law 820 = .ok (.iload 6, 2) := by decide +kernel
theorem dL_law_822 : decode cL_law 822 = .ok (.ifCond .ne 15, 3) := by decide +kernel
theorem dL_law_825 : decode cL_law 825 = .ok (.aload_n 3, 1) := by decide +kernel
theorem dL_law_826 : decode cL_law 826 = .ok (.iconst 0, 1) := by decide +kernel
theorem dL_law_827 : decode cL_law 827 = .ok (.laload, 1) := by decide +kernel
theorem dL_law_828 : decode cL_law 828 = .ok (.iload 7, 2) := by decide +kernel
theorem dL_law_830 : decode cL_law 830 = .ok (.i2l, 1) := by decide +kernel
theorem dL_law_831 : decode cL_law 831 = .ok (.lcmp, 1) := by decide +kernel
theorem dL_law_832 : decode cL_law 832 = .ok (.ifCond .eq 5, 3) := by decide +kernel
theorem dL_law_835 : decode cL_law 835 = .ok (.iconst 0, 1) := by decide +kernel
theorem dL_law_836 : decode cL_law 836 = .ok (.ireturn, 1) := by decide +kernel
theorem dL_law_837 : decode cL_law 837 = .ok (.goto 1805, 3) := by decide +kernel
theorem dL_law_840 : decode cL_law 840 = .ok (.aload_n 1, 1) := by decide +kernel
theorem dL_law_841 : decode cL_law 841 = .ok (.aload_n 3, 1) := by decide +kernel
theorem dL_law_842 : decode cL_law 842 = .ok (.invokestatic 197, 3) := by decide +kernel
theorem dL_law_845 : decode cL_law 845 = .ok (.istore 6, 2) := by decide +kernel
theorem dL_law_847 : decode cL_law 847 = .ok (.aload_n 2, 1) := by decide +kernel
theorem dL_law_848 : decode cL_law 848 = .ok (.invokevirtual 199, 3) := by decide +kernel
theorem dL_law_851 : decode cL_law 851 = .ok (.istore 7, 2) := by decide +kernel
theorem dL_law_853 : decode cL_law 853 = .ok (.aload_n 2, 1) := by decide +kernel
theorem dL_law_854 : decode cL_law 854 = .ok (.invokevirtual 162, 3) := by decide +kernel
theorem dL_law_857 : decode cL_law 857 = .ok (.iload 6, 2) := by decide +kernel
theorem dL_law_859 : decode cL_law 859 = .ok (.if_icmp .eq 5, 3) := by decide +kernel
theorem dL_law_862 : decode cL_law 862 = .ok (.iconst 0, 1) := by decide +kernel
theorem dL_law_863 : decode cL_law 863 = .ok (.ireturn, 1) := by decide +kernel
theorem dL_law_864 : decode cL_law 864 = .ok (.iload 6, 2) := by decide +kernel
theorem dL_law_866 : decode cL_law 866 = .ok (.ifCond .ne 15, 3) := by decide +kernel
theorem dL_law_869 : decode cL_law 869 = .ok (.aload_n 3, 1) := by decide +kernel
theorem dL_law_870 : decode cL_law 870 = .ok (.iconst 0, 1) := by decide +kernel
theorem dL_law_871 : decode cL_law 871 = .ok (.laload, 1) := by decide +kernel
theorem dL_law_872 : decode cL_law 872 = .ok (.iload 7, 2) := by decide +kernel
theorem dL_law_874 : decode cL_law 874 = .ok (.i2l, 1) := by decide +kernel
theorem dL_law_875 : decode cL_law 875 = .ok (.lcmp, 1) := by decide +kernel
theorem dL_law_876 : decode cL_law 876 = .ok (.ifCond .eq 5, 3) := by decide +kernel
theorem dL_law_879 : decode cL_law 879 = .ok (.iconst 0, 1) := by decide +kernel
theorem dL_law_880 : decode cL_law 880 = .ok (.ireturn, 1) := by decide +kernel
theorem dL_law_881 : decode cL_law 881 = .ok (.goto 1761, 3) := by decide +kernel
theorem dL_law_884 : decode cL_law 884 = .ok (.aload_n 1, 1) := by decide +kernel
theorem dL_law_885 : decode cL_law 885 = .ok (.invokevirtual 200, 3) := by decide +kernel
theorem dL_law_888 : decode cL_law 888 = .ok (.aload_n 2, 1) := by decide +kernel
theorem dL_law_889 : decode cL_law 889 = .ok (.invokevirtual 203, 3) := by decide +kernel
theorem dL_law_892 : decode cL_law 892 = .ok (.if_icmp .eq 1750, 3) := by decide +kernel
theorem dL_law_895 : decode cL_law 895 = .ok (.iconst 0, 1) := by decide +kernel
theorem dL_law_896 : decode cL_law 896 = .ok (.ireturn, 1) := by decide +kernel
theorem dL_law_897 : decode cL_law 897 = .ok (.aload_n 1, 1) := by decide +kernel
theorem dL_law_898 : decode cL_law 898 = .ok (.aload_n 0, 1) := by decide +kernel
theorem dL_law_899 : decode cL_law 899 = .ok (.iload 5, 2) := by decide +kernel
theorem dL_law_901 : decode cL_law 901 = .ok (.iconst 1, 1) := by decide +kernel
theorem dL_law_902 : decode cL_law 902 = .ok (.iadd, 1) := by decide +kernel
theorem dL_law_903 : decode cL_law 903 = .ok (.iaload, 1) := by decide +kernel
theorem dL_law_904 : decode cL_law 904 = .ok (.aload_n 3, 1) := by decide +kernel
theorem dL_law_905 : decode cL_law 905 = .ok (.invokestatic 204, 3) := by decide +kernel
theorem dL_law_908 : decode cL_law 908 = .ok (.istore 6, 2) := by decide +kernel
theorem dL_law_910 : decode cL_law 910 = .ok (.aload_n 2, 1) := by decide +kernel
theorem dL_law_911 : decode cL_law 911 = .ok (.aload_n 0, 1) := by decide +kernel
theorem dL_law_912 : decode cL_law 912 = .ok (.iload 5, 2) := by decide +kernel
theorem dL_law_914 : decode cL_law 914 = .ok (.iconst 1, 1) := by decide +kernel
theorem dL_law_915 : decode cL_law 915 = .ok (.iadd, 1) := by decide +kernel
theorem dL_law_916 : decode cL_law 916 = .ok (.iaload, 1) := by decide +kernel
theorem dL_law_917 : decode cL_law 917 = .ok (.invokevirtual 206, 3) := by decide +kernel
theorem dL_law_920 : decode cL_law 920 = .ok (.istore 7, 2) := by decide +kernel
theorem dL_law_922 : decode cL_law 922 = .ok (.aload_n 2, 1) := by decide +kernel
theorem dL_law_923 : decode cL_law 923 = .ok (.invokevirtual 162, 3) := by decide +kernel
theorem dL_law_926 : decode cL_law 926 = .ok (.iload 6, 2) := by decide +kernel
theorem dL_law_928 : decode cL_law 928 = .ok (.if_icmp .eq 5, 3) := by decide +kernel
theorem dL_law_931 : decode cL_law 931 = .ok (.iconst 0, 1) := by decide +kernel
theorem dL_law_932 : decode cL_law 932 = .ok (.ireturn, 1) := by decide +kernel
theorem dL_law_933 : decode cL_law 933 = .ok (.iload 6, 2) := by decide +kernel
theorem dL_law_935 : decode cL_law 935 = .ok (.ifCond .ne 15, 3) := by decide +kernel
theorem dL_law_938 : decode cL_law 938 = .ok (.aload_n 3, 1) := by decide +kernel
theorem dL_law_939 : decode cL_law 939 = .ok (.iconst 0, 1) := by decide +kernel
theorem dL_law_940 : decode cL_law 940 = .ok (.laload, 1) := by decide +kernel
theorem dL_law_941 : decode cL_law 941 = .ok (.iload 7, 2) := by decide +kernel
theorem dL_law_943 : decode cL_law 943 = .ok (.i2l, 1) := by decide +kernel
theorem dL_law_944 : decode cL_law 944 = .ok (.lcmp, 1) := by decide +kernel
theorem dL_law_945 : decode cL_law 945 = .ok (.ifCond .eq 5, 3) := by decide +kernel
theorem dL_law_948 : decode cL_law 948 = .ok (.iconst 0, 1) := by decide +kernel
theorem dL_law_949 : decode cL_law 949 = .ok (.ireturn, 1) := by decide +kernel
theorem dL_law_950 : decode cL_law 950 = .ok (.goto 1692, 3) := by decide +kernel
theorem dL_law_953 : decode cL_law 953 = .ok (.aload_n 1, 1) := by decide +kernel
theorem dL_law_954 : decode cL_law 954 = .ok (.aload_n 0, 1) := by decide +kernel
theorem dL_law_955 : decode cL_law 955 = .ok (.iload 5, 2) := by decide +kernel
theorem dL_law_957 : decode cL_law 957 = .ok (.iconst 1, 1) := by decide +kernel
theorem dL_law_958 : decode cL_law 958 = .ok (.iadd, 1) := by decide +kernel
theorem dL_law_959 : decode cL_law 959 = .ok (.iaload, 1) := by decide +kernel
theorem dL_law_960 : decode cL_law 960 = .ok (.aload_n 3, 1) := by decide +kernel
theorem dL_law_961 : decode cL_law 961 = .ok (.invokestatic 207, 3) := by decide +kernel
theorem dL_law_964 : decode cL_law 964 = .ok (.istore 6, 2) := by decide +kernel
theorem dL_law_966 : decode cL_law 966 = .ok (.aload_n 2, 1) := by decide +kernel
theorem dL_law_967 : decode cL_law 967 = .ok (.aload_n 0, 1) := by decide +kernel
theorem dL_law_968 : decode cL_law 968 = .ok (.iload 5, 2) := by decide +kernel
theorem dL_law_970 : decode cL_law 970 = .ok (.iconst 1, 1) := by decide +kernel
theorem dL_law_971 : decode cL_law 971 = .ok (.iadd, 1) := by decide +kernel
theorem dL_law_972 : decode cL_law 972 = .ok (.iaload, 1) := by decide +kernel
theorem dL_law_973 : decode cL_law 973 = .ok (.invokevirtual 209, 3) := by decide +kernel
theorem dL_law_976 : decode cL_law 976 = .ok (.istore 7, 2) := by decide +kernel
theorem dL_law_978 : decode cL_law 978 = .ok (.aload_n 2, 1) := by decide +kernel
theorem dL_law_979 : decode cL_law 979 = .ok (.invokevirtual 162, 3) := by decide +kernel
theorem dL_law_982 : decode cL_law 982 = .ok (.iload 6, 2) := by decide +kernel
theorem dL_law_984 : decode cL_law 984 = .ok (.if_icmp .eq 5, 3) := by decide +kernel
theorem dL_law_987 : decode cL_law 987 = .ok (.iconst 0, 1) := by decide +kernel
theorem dL_law_988 : decode cL_law 988 = .ok (.ireturn, 1) := by decide +kernel
theorem dL_law_989 : decode cL_law 989 = .ok (.iload 6, 2) := by decide +kernel
theorem dL_law_991 : decode cL_law 991 = .ok (.ifCond .ne 15, 3) := by decide +kernel
theorem dL_law_994 : decode cL_law 994 = .ok (.aload_n 3, 1) := by decide +kernel
theorem dL_law_995 : decode cL_law 995 = .ok (.iconst 0, 1) := by decide +kernel
theorem dL_law_996 : decode cL_law 996 = .ok (.laload, 1) := by decide +kernel
theorem dL_law_997 : decode cL_law 997 = .ok (.iload 7, 2) := by decide +kernel
theorem dL_law_999 : decode cL_law 999 = .ok (.i2l, 1) := by decide +kernel
theorem dL_law_1000 : decode cL_law 1000 = .ok (.lcmp, 1) := by decide +kernel
theorem dL_law_1001 : decode cL_law 1001 = .ok (.ifCond .eq 5, 3) := by decide +kernel
theorem dL_law_1004 : decode cL_law 1004 = .ok (.iconst 0, 1) := by decide +kernel
theorem dL_law_1005 : decode cL_law 1005 = .ok (.ireturn, 1) := by decide +kernel
theorem dL_law_1006 : decode cL_law 1006 = .ok (.goto 1636, 3) := by decide +kernel
theorem dL_law_1009 : decode cL_law 1009 = .ok (.aload_n 1, 1) := by decide +kernel
theorem dL_law_1010 : decode cL_law 1010 = .ok (.aload_n 0, 1) := by decide +kernel
theorem dL_law_1011 : decode cL_law 1011 = .ok (.iload 5, 2) := by decide +kernel
theorem dL_law_1013 : decode cL_law 1013 = .ok (.iconst 1, 1) := by decide +kernel
theorem dL_law_1014 : decode cL_law 1014 = .ok (.iadd, 1) := by decide +kernel
theorem dL_law_1015 : decode cL_law 1015 = .ok (.iaload, 1) := by decide +kernel
theorem dL_law_1016 : decode cL_law 1016 = .ok (.aload_n 3, 1) := by decide +kernel
theorem dL_law_1017 : decode cL_law 1017 = .ok (.invokestatic 210, 3) := by decide +kernel
theorem dL_law_1020 : decode cL_law 1020 = .ok (.istore 6, 2) := by decide +kernel
theorem dL_law_1022 : decode cL_law 1022 = .ok (.aload_n 2, 1) := by decide +kernel
theorem dL_law_1023 : decode cL_law 1023 = .ok (.aload_n 0, 1) := by decide +kernel
theorem dL_law_1024 : decode cL_law 1024 = .ok (.iload 5, 2) := by decide +kernel
theorem dL_law_1026 : decode cL_law 1026 = .ok (.iconst 1, 1) := by decide +kernel
theorem dL_law_1027 : decode cL_law 1027 = .ok (.iadd, 1) := by decide +kernel
theorem dL_law_1028 : decode cL_law 1028 = .ok (.iaload, 1) := by decide +kernel
theorem dL_law_1029 : decode cL_law 1029 = .ok (.invokevirtual 212, 3) := by decide +kernel
theorem dL_law_1032 : decode cL_law 1032 = .ok (.istore 7, 2) := by decide +kernel
theorem dL_law_1034 : decode cL_law 1034 = .ok (.aload_n 2, 1) := by decide +kernel
theorem dL_law_1035 : decode cL_law 1035 = .ok (.invokevirtual 162, 3) := by decide +kernel
theorem dL_law_1038 : decode cL_law 1038 = .ok (.iload 6, 2) := by decide +kernel
theorem dL_law_1040 : decode cL_law 1040 = .ok (.if_icmp .eq 5, 3) := by decide +kernel
theorem dL_law_1043 : decode cL_law 1043 = .ok (.iconst 0, 1) := by decide +kernel
theorem dL_law_1044 : decode cL_law 1044 = .ok (.ireturn, 1) := by decide +kernel
theorem dL_law_1045 : decode cL_law 1045 = .ok (.iload 6, 2) := by decide +kernel
theorem dL_law_1047 : decode cL_law 1047 = .ok (.ifCond .ne 22, 3) := by decide +kernel
theorem dL_law_1050 : decode cL_law 1050 = .ok (.aload_n 3, 1) := by decide +kernel
theorem dL_law_1051 : decode cL_law 1051 = .ok (.iconst 0, 1) := by decide +kernel
theorem dL_law_1052 : decode cL_law 1052 = .ok (.laload, 1) := by decide +kernel
theorem dL_law_1053 : decode cL_law 1053 = .ok (.iload 7, 2) := by decide +kernel
theorem dL_law_1055 : decode cL_law 1055 = .ok (.ifCond .eq 7, 3) := by decide +kernel
theorem dL_law_1058 : decode cL_law 1058 = .ok (.lconst 1, 1) := by decide +kernel
theorem dL_law_1059 : decode cL_law 1059 = .ok (.goto 4, 3) := by decide +kernel
theorem dL_law_1062 : decode cL_law 1062 = .ok (.lconst 0, 1) := by decide +kernel
theorem dL_law_1063 : decode cL_law 1063 = .ok (.lcmp, 1) := by decide +kernel
theorem dL_law_1064 : decode cL_law 1064 = .ok (.ifCond .eq 5, 3) := by decide +kernel
theorem dL_law_1067 : decode cL_law 1067 = .ok (.iconst 0, 1) := by decide +kernel
theorem dL_law_1068 : decode cL_law 1068 = .ok (.ireturn, 1) := by decide +kernel
theorem dL_law_1069 : decode cL_law 1069 = .ok (.goto 1573, 3) := by decide +kernel
theorem dL_law_1072 : decode cL_law 1072 = .ok (.aload_n 1, 1) := by decide +kernel
theorem dL_law_1073 : decode cL_law 1073 = .ok (.invokevirtual 213, 3) := by decide +kernel
theorem dL_law_1076 : decode cL_law 1076 = .ok (.aload_n 2, 1) := by decide +kernel
theorem dL_law_1077 : decode cL_law 1077 = .ok (.invokevirtual 216, 3) := by decide +kernel
theorem dL_law_1080 : decode cL_law 1080 = .ok (.if_icmp .eq 1562, 3) := by decide +kernel
theorem dL_law_1083 : decode cL_law 1083 = .ok (.iconst 0, 1) := by decide +kernel
theorem dL_law_1084 : decode cL_law 1084 = .ok (.ireturn, 1) := by decide +kernel
theorem dL_law_1085 : decode cL_law 1085 = .ok (.aload_n 1, 1) := by decide +kernel
theorem dL_law_1086 : decode cL_law 1086 = .ok (.invokevirtual 217, 3) := by decide +kernel
theorem dL_law_1089 : decode cL_law 1089 = .ok (.aload_n 2, 1) := by decide +kernel
theorem dL_law_1090 : decode cL_law 1090 = .ok (.invokevirtual 220, 3) := by decide +kernel
theorem dL_law_1093 : decode cL_law 1093 = .ok (.if_icmp .eq 1549, 3) := by decide +kernel
theorem dL_law_1096 : decode cL_law 1096 = .ok (.iconst 0, 1) := by decide +kernel
theorem dL_law_1097 : decode cL_law 1097 = .ok (.ireturn, 1) := by decide +kernel
theorem dL_law_1098 : decode cL_law 1098 = .ok (.aload_n 1, 1) := by decide +kernel
theorem dL_law_1099 : decode cL_law 1099 = .ok (.aload_n 0, 1) := by decide +kernel
theorem dL_law_1100 : decode cL_law 1100 = .ok (.iload 5, 2) := by decide +kernel
theorem dL_law_1102 : decode cL_law 1102 = .ok (.iconst 1, 1) := by decide +kernel
theorem dL_law_1103 : decode cL_law 1103 = .ok (.iadd, 1) := by decide +kernel
theorem dL_law_1104 : decode cL_law 1104 = .ok (.iaload, 1) := by decide +kernel
theorem dL_law_1105 : decode cL_law 1105 = .ok (.aload_n 0, 1) := by decide +kernel
theorem dL_law_1106 : decode cL_law 1106 = .ok (.iload 5, 2) := by decide +kernel
theorem dL_law_1108 : decode cL_law 1108 = .ok (.iconst 2, 1) := by decide +kernel
theorem dL_law_1109 : decode cL_law 1109 = .ok (.iadd, 1) := by decide +kernel
theorem dL_law_1110 : decode cL_law 1110 = .ok (.iaload, 1) := by decide +kernel
theorem dL_law_1111 : decode cL_law 1111 = .ok (.aload_n 0, 1) := by decide +kernel
theorem dL_law_1112 : decode cL_law 1112 = .ok (.iload 5, 2) := by decide +kernel
theorem dL_law_1114 : decode cL_law 1114 = .ok (.iconst 3, 1) := by decide +kernel
theorem dL_law_1115 : decode cL_law 1115 = .ok (.iadd, 1) := by decide +kernel
theorem dL_law_1116 : decode cL_law 1116 = .ok (.iaload, 1) := by decide +kernel
theorem dL_law_1117 : decode cL_law 1117 = .ok (.aload_n 3, 1) := by decide +kernel
theorem dL_law_1118 : decode cL_law 1118 = .ok (.invokestatic 221, 3) := by decide +kernel
theorem dL_law_1121 : decode cL_law 1121 = .ok (.istore 6, 2) := by decide +kernel
theorem dL_law_1123 : decode cL_law 1123 = .ok (.aload_n 2, 1) := by decide +kernel
theorem dL_law_1124 : decode cL_law 1124 = .ok (.aload_n 0, 1) := by decide +kernel
theorem dL_law_1125 : decode cL_law 1125 = .ok (.iload 5, 2) := by decide +kernel
theorem dL_law_1127 : decode cL_law 1127 = .ok (.iconst 1, 1) := by decide +kernel
theorem dL_law_1128 : decode cL_law 1128 = .ok (.iadd, 1) := by decide +kernel
theorem dL_law_1129 : decode cL_law 1129 = .ok (.iaload, 1) := by decide +kernel
theorem dL_law_1130 : decode cL_law 1130 = .ok (.aload_n 0, 1) := by decide +kernel
theorem dL_law_1131 : decode cL_law 1131 = .ok (.iload 5, 2) := by decide +kernel
theorem dL_law_1133 : decode cL_law 1133 = .ok (.iconst 2, 1) := by decide +kernel
theorem dL_law_1134 : decode cL_law 1134 = .ok (.iadd, 1) := by decide +kernel
theorem dL_law_1135 : decode cL_law 1135 = .ok (.iaload, 1) := by decide +kernel
theorem dL_law_1136 : decode cL_law 1136 = .ok (.aload_n 0, 1) := by decide +kernel
theorem dL_law_1137 : decode cL_law 1137 = .ok (.iload 5, 2) := by decide +kernel
theorem dL_law_1139 : decode cL_law 1139 = .ok (.iconst 3, 1) := by decide +kernel
theorem dL_law_1140 : decode cL_law 1140 = .ok (.iadd, 1) := by decide +kernel
theorem dL_law_1141 : decode cL_law 1141 = .ok (.iaload, 1) := by decide +kernel
theorem dL_law_1142 : decode cL_law 1142 = .ok (.invokevirtual 224, 3) := by decide +kernel
theorem dL_law_1145 : decode cL_law 1145 = .ok (.istore 7, 2) := by decide +kernel
theorem dL_law_1147 : decode cL_law 1147 = .ok (.aload_n 2, 1) := by decide +kernel
theorem dL_law_1148 : decode cL_law 1148 = .ok (.invokevirtual 162, 3) := by decide +kernel
theorem dL_law_1151 : decode cL_law 1151 = .ok (.iload 6, 2) := by decide +kernel
theorem dL_law_1153 : decode cL_law 1153 = .ok (.if_icmp .eq 5, 3) := by decide +kernel
theorem dL_law_1156 : decode cL_law 1156 = .ok (.iconst 0, 1) := by decide +kernel
theorem dL_law_1157 : decode cL_law 1157 = .ok (.ireturn, 1) := by decide +kernel
theorem dL_law_1158 : decode cL_law 1158 = .ok (.iload 6, 2) := by decide +kernel
theorem dL_law_1160 : decode cL_law 1160 = .ok (.ifCond .ne 15, 3) := by decide +kernel
theorem dL_law_1163 : decode cL_law 1163 = .ok (.aload_n 3, 1) := by decide +kernel
theorem dL_law_1164 : decode cL_law 1164 = .ok (.iconst 0, 1) := by decide +kernel
theorem dL_law_1165 : decode cL_law 1165 = .ok (.laload, 1) := by decide +kernel
theorem dL_law_1166 : decode cL_law 1166 = .ok (.iload 7, 2) := by decide +kernel
theorem dL_law_1168 : decode cL_law 1168 = .ok (.i2l, 1) := by decide +kernel
theorem dL_law_1169 : decode cL_law 1169 = .ok (.lcmp, 1) := by decide +kernel
theorem dL_law_1170 : decode cL_law 1170 = .ok (.ifCond .eq 5, 3) := by decide +kernel
theorem dL_law_1173 : decode cL_law 1173 = .ok (.iconst 0, 1) := by decide +kernel
theorem dL_law_1174 : decode cL_law 1174 = .ok (.ireturn, 1) := by decide +kernel
theorem dL_law_1175 : decode cL_law 1175 = .ok (.goto 1467, 3) := by decide +kernel
theorem dL_law_1178 : decode cL_law 1178 = .ok (.aload_n 1, 1) := by decide +kernel
theorem dL_law_1179 : decode cL_law 1179 = .ok (.aload_n 0, 1) := by decide +kernel
theorem dL_law_1180 : decode cL_law 1180 = .ok (.iload 5, 2) := by decide +kernel
theorem dL_law_1182 : decode cL_law 1182 = .ok (.iconst 1, 1) := by decide +kernel
theorem dL_law_1183 : decode cL_law 1183 = .ok (.iadd, 1) := by decide +kernel
theorem dL_law_1184 : decode cL_law 1184 = .ok (.iaload, 1) := by decide +kernel
theorem dL_law_1185 : decode cL_law 1185 = .ok (.aload_n 3, 1) := by decide +kernel
theorem dL_law_1186 : decode cL_law 1186 = .ok (.invokestatic 225, 3) := by decide +kernel
theorem dL_law_1189 : decode cL_law 1189 = .ok (.istore 6, 2) := by decide +kernel
theorem dL_law_1191 : decode cL_law 1191 = .ok (.aload_n 2, 1) := by decide +kernel
theorem dL_law_1192 : decode cL_law 1192 = .ok (.aload_n 0, 1) := by decide +kernel
theorem dL_law_1193 : decode cL_law 1193 = .ok (.iload 5, 2) := by decide +kernel
theorem dL_law_1195 : decode cL_law 1195 = .ok (.iconst 1, 1) := by decide +kernel
theorem dL_law_1196 : decode cL_law 1196 = .ok (.iadd, 1) := by decide +kernel
theorem dL_law_1197 : decode cL_law 1197 = .ok (.iaload, 1) := by decide +kernel
theorem dL_law_1198 : decode cL_law 1198 = .ok (.invokevirtual 227, 3) := by decide +kernel
theorem dL_law_1201 : decode cL_law 1201 = .ok (.istore 7, 2) := by decide +kernel
theorem dL_law_1203 : decode cL_law 1203 = .ok (.aload_n 2, 1) := by decide +kernel
theorem dL_law_1204 : decode cL_law 1204 = .ok (.invokevirtual 162, 3) := by decide +kernel
theorem dL_law_1207 : decode cL_law 1207 = .ok (.iload 6, 2) := by decide +kernel
theorem dL_law_1209 : decode cL_law 1209 = .ok (.if_icmp .eq 5, 3) := by decide +kernel
theorem dL_law_1212 : decode cL_law 1212 = .ok (.iconst 0, 1) := by decide +kernel
theorem dL_law_1213 : decode cL_law 1213 = .ok (.ireturn, 1) := by decide +kernel
theorem dL_law_1214 : decode cL_law 1214 = .ok (.iload 6, 2) := by decide +kernel
theorem dL_law_1216 : decode cL_law 1216 = .ok (.ifCond .ne 15, 3) := by decide +kernel
theorem dL_law_1219 : decode cL_law 1219 = .ok (.aload_n 3, 1) := by decide +kernel
theorem dL_law_1220 : decode cL_law 1220 = .ok (.iconst 0, 1) := by decide +kernel
theorem dL_law_1221 : decode cL_law 1221 = .ok (.laload, 1) := by decide +kernel
theorem dL_law_1222 : decode cL_law 1222 = .ok (.iload 7, 2) := by decide +kernel
theorem dL_law_1224 : decode cL_law 1224 = .ok (.i2l, 1) := by decide +kernel
theorem dL_law_1225 : decode cL_law 1225 = .ok (.lcmp, 1) := by decide +kernel
theorem dL_law_1226 : decode cL_law 1226 = .ok (.ifCond .eq 5, 3) := by decide +kernel
theorem dL_law_1229 : decode cL_law 1229 = .ok (.iconst 0, 1) := by decide +kernel
theorem dL_law_1230 : decode cL_law 1230 = .ok (.ireturn, 1) := by decide +kernel
theorem dL_law_1231 : decode cL_law 1231 = .ok (.goto 1411, 3) := by decide +kernel
theorem dL_law_1234 : decode cL_law 1234 = .ok (.aload_n 1, 1) := by decide +kernel
theorem dL_law_1235 : decode cL_law 1235 = .ok (.aload_n 0, 1) := by decide +kernel
theorem dL_law_1236 : decode cL_law 1236 = .ok (.iload 5, 2) := by decide +kernel
theorem dL_law_1238 : decode cL_law 1238 = .ok (.iconst 1, 1) := by decide +kernel
theorem dL_law_1239 : decode cL_law 1239 = .ok (.iadd, 1) := by decide +kernel
theorem dL_law_1240 : decode cL_law 1240 = .ok (.iaload, 1) := by decide +kernel
theorem dL_law_1241 : decode cL_law 1241 = .ok (.aload_n 3, 1) := by decide +kernel
theorem dL_law_1242 : decode cL_law 1242 = .ok (.invokestatic 228, 3) := by decide +kernel
theorem dL_law_1245 : decode cL_law 1245 = .ok (.istore 6, 2) := by decide +kernel
theorem dL_law_1247 : decode cL_law 1247 = .ok (.aload_n 2, 1) := by decide +kernel
theorem dL_law_1248 : decode cL_law 1248 = .ok (.aload_n 0, 1) := by decide +kernel
theorem dL_law_1249 : decode cL_law 1249 = .ok (.iload 5, 2) := by decide +kernel
theorem dL_law_1251 : decode cL_law 1251 = .ok (.iconst 1, 1) := by decide +kernel
theorem dL_law_1252 : decode cL_law 1252 = .ok (.iadd, 1) := by decide +kernel
theorem dL_law_1253 : decode cL_law 1253 = .ok (.iaload, 1) := by decide +kernel
theorem dL_law_1254 : decode cL_law 1254 = .ok (.invokevirtual 230, 3) := by decide +kernel
theorem dL_law_1257 : decode cL_law 1257 = .ok (.istore 7, 2) := by decide +kernel
theorem dL_law_1259 : decode cL_law 1259 = .ok (.aload_n 2, 1) := by decide +kernel
theorem dL_law_1260 : decode cL_law 1260 = .ok (.invokevirtual 162, 3) := by decide +kernel
theorem dL_law_1263 : decode cL_law 1263 = .ok (.iload 6, 2) := by decide +kernel
theorem dL_law_1265 : decode cL_law 1265 = .ok (.if_icmp .eq 5, 3) := by decide +kernel
theorem dL_law_1268 : decode cL_law 1268 = .ok (.iconst 0, 1) := by decide +kernel
theorem dL_law_1269 : decode cL_law 1269 = .ok (.ireturn, 1) := by decide +kernel
theorem dL_law_1270 : decode cL_law 1270 = .ok (.iload 6, 2) := by decide +kernel
theorem dL_law_1272 : decode cL_law 1272 = .ok (.ifCond .ne 15, 3) := by decide +kernel
theorem dL_law_1275 : decode cL_law 1275 = .ok (.aload_n 3, 1) := by decide +kernel
theorem dL_law_1276 : decode cL_law 1276 = .ok (.iconst 0, 1) := by decide +kernel
theorem dL_law_1277 : decode cL_law 1277 = .ok (.laload, 1) := by decide +kernel
theorem dL_law_1278 : decode cL_law 1278 = .ok (.iload 7, 2) := by decide +kernel
theorem dL_law_1280 : decode cL_law 1280 = .ok (.i2l, 1) := by decide +kernel
theorem dL_law_1281 : decode cL_law 1281 = .ok (.lcmp, 1) := by decide +kernel
theorem dL_law_1282 : decode cL_law 1282 = .ok (.ifCond .eq 5, 3) := by decide +kernel
theorem dL_law_1285 : decode cL_law 1285 = .ok (.iconst 0, 1) := by decide +kernel
theorem dL_law_1286 : decode cL_law 1286 = .ok (.ireturn, 1) := by decide +kernel
theorem dL_law_1287 : decode cL_law 1287 = .ok (.goto 1355, 3) := by decide +kernel
theorem dL_law_1290 : decode cL_law 1290 = .ok (.aload_n 1, 1) := by decide +kernel
theorem dL_law_1291 : decode cL_law 1291 = .ok (.aload_n 0, 1) := by decide +kernel
theorem dL_law_1292 : decode cL_law 1292 = .ok (.iload 5, 2) := by decide +kernel
theorem dL_law_1294 : decode cL_law 1294 = .ok (.iconst 1, 1) := by decide +kernel
theorem dL_law_1295 : decode cL_law 1295 = .ok (.iadd, 1) := by decide +kernel
theorem dL_law_1296 : decode cL_law 1296 = .ok (.iaload, 1) := by decide +kernel
theorem dL_law_1297 : decode cL_law 1297 = .ok (.aload_n 3, 1) := by decide +kernel
theorem dL_law_1298 : decode cL_law 1298 = .ok (.invokestatic 231, 3) := by decide +kernel
theorem dL_law_1301 : decode cL_law 1301 = .ok (.istore 6, 2) := by decide +kernel
theorem dL_law_1303 : decode cL_law 1303 = .ok (.aload_n 2, 1) := by decide +kernel
theorem dL_law_1304 : decode cL_law 1304 = .ok (.aload_n 0, 1) := by decide +kernel
theorem dL_law_1305 : decode cL_law 1305 = .ok (.iload 5, 2) := by decide +kernel
theorem dL_law_1307 : decode cL_law 1307 = .ok (.iconst 1, 1) := by decide +kernel
theorem dL_law_1308 : decode cL_law 1308 = .ok (.iadd, 1) := by decide +kernel
theorem dL_law_1309 : decode cL_law 1309 = .ok (.iaload, 1) := by decide +kernel
theorem dL_law_1310 : decode cL_law 1310 = .ok (.invokevirtual 233, 3) := by decide +kernel
theorem dL_law_1313 : decode cL_law 1313 = .ok (.istore 7, 2) := by decide +kernel
theorem dL_law_1315 : decode cL_law 1315 = .ok (.aload_n 2, 1) := by decide +kernel
theorem dL_law_1316 : decode cL_law 1316 = .ok (.invokevirtual 162, 3) := by decide +kernel
theorem dL_law_1319 : decode cL_law 1319 = .ok (.iload 6, 2) := by decide +kernel
theorem dL_law_1321 : decode cL_law 1321 = .ok (.if_icmp .eq 5, 3) := by decide +kernel
theorem dL_law_1324 : decode cL_law 1324 = .ok (.iconst 0, 1) := by decide +kernel
theorem dL_law_1325 : decode cL_law 1325 = .ok (.ireturn, 1) := by decide +kernel
theorem dL_law_1326 : decode cL_law 1326 = .ok (.iload 6, 2) := by decide +kernel
theorem dL_law_1328 : decode cL_law 1328 = .ok (.ifCond .ne 15, 3) := by decide +kernel
theorem dL_law_1331 : decode cL_law 1331 = .ok (.aload_n 3, 1) := by decide +kernel
theorem dL_law_1332 : decode cL_law 1332 = .ok (.iconst 0, 1) := by decide +kernel
theorem dL_law_1333 : decode cL_law 1333 = .ok (.laload, 1) := by decide +kernel
theorem dL_law_1334 : decode cL_law 1334 = .ok (.iload 7, 2) := by decide +kernel
theorem dL_law_1336 : decode cL_law 1336 = .ok (.i2l, 1) := by decide +kernel
theorem dL_law_1337 : decode cL_law 1337 = .ok (.lcmp, 1) := by decide +kernel
theorem dL_law_1338 : decode cL_law 1338 = .ok (.ifCond .eq 5, 3) := by decide +kernel
theorem dL_law_1341 : decode cL_law 1341 = .ok (.iconst 0, 1) := by decide +kernel
theorem dL_law_1342 : decode cL_law 1342 = .ok (.ireturn, 1) := by decide +kernel
theorem dL_law_1343 : decode cL_law 1343 = .ok (.goto 1299, 3) := by decide +kernel
theorem dL_law_1346 : decode cL_law 1346 = .ok (.aload_n 1, 1) := by decide +kernel
theorem dL_law_1347 : decode cL_law 1347 = .ok (.invokevirtual 234, 3) := by decide +kernel
theorem dL_law_1350 : decode cL_law 1350 = .ok (.aload_n 2, 1) := by decide +kernel
theorem dL_law_1351 : decode cL_law 1351 = .ok (.invokevirtual 237, 3) := by decide +kernel
theorem dL_law_1354 : decode cL_law 1354 = .ok (.if_icmp .eq 1288, 3) := by decide +kernel
theorem dL_law_1357 : decode cL_law 1357 = .ok (.iconst 0, 1) := by decide +kernel
theorem dL_law_1358 : decode cL_law 1358 = .ok (.ireturn, 1) := by decide +kernel
theorem dL_law_1359 : decode cL_law 1359 = .ok (.aload_n 1, 1) := by decide +kernel
theorem dL_law_1360 : decode cL_law 1360 = .ok (.aload_n 0, 1) := by decide +kernel
theorem dL_law_1361 : decode cL_law 1361 = .ok (.iload 5, 2) := by decide +kernel
theorem dL_law_1363 : decode cL_law 1363 = .ok (.iconst 1, 1) := by decide +kernel
theorem dL_law_1364 : decode cL_law 1364 = .ok (.iadd, 1) := by decide +kernel
theorem dL_law_1365 : decode cL_law 1365 = .ok (.iaload, 1) := by decide +kernel
theorem dL_law_1366 : decode cL_law 1366 = .ok (.aload_n 3, 1) := by decide +kernel
theorem dL_law_1367 : decode cL_law 1367 = .ok (.invokestatic 238, 3) := by decide +kernel
theorem dL_law_1370 : decode cL_law 1370 = .ok (.istore 6, 2) := by decide +kernel
theorem dL_law_1372 : decode cL_law 1372 = .ok (.aload_n 2, 1) := by decide +kernel
theorem dL_law_1373 : decode cL_law 1373 = .ok (.aload_n 0, 1) := by decide +kernel
theorem dL_law_1374 : decode cL_law 1374 = .ok (.iload 5, 2) := by decide +kernel
theorem dL_law_1376 : decode cL_law 1376 = .ok (.iconst 1, 1) := by decide +kernel
theorem dL_law_1377 : decode cL_law 1377 = .ok (.iadd, 1) := by decide +kernel
theorem dL_law_1378 : decode cL_law 1378 = .ok (.iaload, 1) := by decide +kernel
theorem dL_law_1379 : decode cL_law 1379 = .ok (.invokevirtual 240, 3) := by decide +kernel
theorem dL_law_1382 : decode cL_law 1382 = .ok (.istore 7, 2) := by decide +kernel
theorem dL_law_1384 : decode cL_law 1384 = .ok (.aload_n 2, 1) := by decide +kernel
theorem dL_law_1385 : decode cL_law 1385 = .ok (.invokevirtual 162, 3) := by decide +kernel
theorem dL_law_1388 : decode cL_law 1388 = .ok (.iload 6, 2) := by decide +kernel
theorem dL_law_1390 : decode cL_law 1390 = .ok (.if_icmp .eq 5, 3) := by decide +kernel
theorem dL_law_1393 : decode cL_law 1393 = .ok (.iconst 0, 1) := by decide +kernel
theorem dL_law_1394 : decode cL_law 1394 = .ok (.ireturn, 1) := by decide +kernel
theorem dL_law_1395 : decode cL_law 1395 = .ok (.iload 6, 2) := by decide +kernel
theorem dL_law_1397 : decode cL_law 1397 = .ok (.ifCond .ne 15, 3) := by decide +kernel
theorem dL_law_1400 : decode cL_law 1400 = .ok (.aload_n 3, 1) := by decide +kernel
theorem dL_law_1401 : decode cL_law 1401 = .ok (.iconst 0, 1) := by decide +kernel
theorem dL_law_1402 : decode cL_law 1402 = .ok (.laload, 1) := by decide +kernel
theorem dL_law_1403 : decode cL_law 1403 = .ok (.iload 7, 2) := by decide +kernel
theorem dL_law_1405 : decode cL_law 1405 = .ok (.i2l, 1) := by decide +kernel
theorem dL_law_1406 : decode cL_law 1406 = .ok (.lcmp, 1) := by decide +kernel
theorem dL_law_1407 : decode cL_law 1407 = .ok (.ifCond .eq 5, 3) := by decide +kernel
theorem dL_law_1410 : decode cL_law 1410 = .ok (.iconst 0, 1) := by decide +kernel
theorem dL_law_1411 : decode cL_law 1411 = .ok (.ireturn, 1) := by decide +kernel
theorem dL_law_1412 : decode cL_law 1412 = .ok (.goto 1230, 3) := by decide +kernel
theorem dL_law_1415 : decode cL_law 1415 = .ok (.aload_n 1, 1) := by decide +kernel
theorem dL_law_1416 : decode cL_law 1416 = .ok (.aload_n 0, 1) := by decide +kernel
theorem dL_law_1417 : decode cL_law 1417 = .ok (.iload 5, 2) := by decide +kernel
theorem dL_law_1419 : decode cL_law 1419 = .ok (.iconst 1, 1) := by decide +kernel
theorem dL_law_1420 : decode cL_law 1420 = .ok (.iadd, 1) := by decide +kernel
theorem dL_law_1421 : decode cL_law 1421 = .ok (.iaload, 1) := by decide +kernel
theorem dL_law_1422 : decode cL_law 1422 = .ok (.aload_n 3, 1) := by decide +kernel
theorem dL_law_1423 : decode cL_law 1423 = .ok (.invokestatic 241, 3) := by decide +kernel
theorem dL_law_1426 : decode cL_law 1426 = .ok (.istore 6, 2) := by decide +kernel
theorem dL_law_1428 : decode cL_law 1428 = .ok (.aload_n 2, 1) := by decide +kernel
theorem dL_law_1429 : decode cL_law 1429 = .ok (.aload_n 0, 1) := by decide +kernel
theorem dL_law_1430 : decode cL_law 1430 = .ok (.iload 5, 2) := by decide +kernel
theorem dL_law_1432 : decode cL_law 1432 = .ok (.iconst 1, 1) := by decide +kernel
theorem dL_law_1433 : decode cL_law 1433 = .ok (.iadd, 1) := by decide +kernel
theorem dL_law_1434 : decode cL_law 1434 = .ok (.iaload, 1) := by decide +kernel
theorem dL_law_1435 : decode cL_law 1435 = .ok (.invokevirtual 243, 3) := by decide +kernel
theorem dL_law_1438 : decode cL_law 1438 = .ok (.istore 7, 2) := by decide +kernel
theorem dL_law_1440 : decode cL_law 1440 = .ok (.aload_n 2, 1) := by decide +kernel
theorem dL_law_1441 : decode cL_law 1441 = .ok (.invokevirtual 162, 3) := by decide +kernel
theorem dL_law_1444 : decode cL_law 1444 = .ok (.iload 6, 2) := by decide +kernel
theorem dL_law_1446 : decode cL_law 1446 = .ok (.if_icmp .eq 5, 3) := by decide +kernel
theorem dL_law_1449 : decode cL_law 1449 = .ok (.iconst 0, 1) := by decide +kernel
theorem dL_law_1450 : decode cL_law 1450 = .ok (.ireturn, 1) := by decide +kernel
theorem dL_law_1451 : decode cL_law 1451 = .ok (.iload 6, 2) := by decide +kernel
theorem dL_law_1453 : decode cL_law 1453 = .ok (.ifCond .ne 15, 3) := by decide +kernel
theorem dL_law_1456 : decode cL_law 1456 = .ok (.aload_n 3, 1) := by decide +kernel
theorem dL_law_1457 : decode cL_law 1457 = .ok (.iconst 0, 1) := by decide +kernel
theorem dL_law_1458 : decode cL_law 1458 = .ok (.laload, 1) := by decide +kernel
theorem dL_law_1459 : decode cL_law 1459 = .ok (.iload 7, 2) := by decide +kernel
theorem dL_law_1461 : decode cL_law 1461 = .ok (.i2l, 1) := by decide +kernel
theorem dL_law_1462 : decode cL_law 1462 = .ok (.lcmp, 1) := by decide +kernel
theorem dL_law_1463 : decode cL_law 1463 = .ok (.ifCond .eq 5, 3) := by decide +kernel
theorem dL_law_1466 : decode cL_law 1466 = .ok (.iconst 0, 1) := by decide +kernel
theorem dL_law_1467 : decode cL_law 1467 = .ok (.ireturn, 1) := by decide +kernel
theorem dL_law_1468 : decode cL_law 1468 = .ok (.goto 1174, 3) := by decide +kernel
theorem dL_law_1471 : decode cL_law 1471 = .ok (.aload_n 1, 1) := by decide +kernel
theorem dL_law_1472 : decode cL_law 1472 = .ok (.aload_n 0, 1) := by decide +kernel
theorem dL_law_1473 : decode cL_law 1473 = .ok (.iload 5, 2) := by decide +kernel
theorem dL_law_1475 : decode cL_law 1475 = .ok (.iconst 1, 1) := by decide +kernel
theorem dL_law_1476 : decode cL_law 1476 = .ok (.iadd, 1) := by decide +kernel
theorem dL_law_1477 : decode cL_law 1477 = .ok (.iaload, 1) := by decide +kernel
theorem dL_law_1478 : decode cL_law 1478 = .ok (.aload_n 3, 1) := by decide +kernel
theorem dL_law_1479 : decode cL_law 1479 = .ok (.invokestatic 244, 3) := by decide +kernel
theorem dL_law_1482 : decode cL_law 1482 = .ok (.istore 6, 2) := by decide +kernel
theorem dL_law_1484 : decode cL_law 1484 = .ok (.aload_n 2, 1) := by decide +kernel
theorem dL_law_1485 : decode cL_law 1485 = .ok (.aload_n 0, 1) := by decide +kernel
theorem dL_law_1486 : decode cL_law 1486 = .ok (.iload 5, 2) := by decide +kernel
theorem dL_law_1488 : decode cL_law 1488 = .ok (.iconst 1, 1) := by decide +kernel
theorem dL_law_1489 : decode cL_law 1489 = .ok (.iadd, 1) := by decide +kernel
theorem dL_law_1490 : decode cL_law 1490 = .ok (.iaload, 1) := by decide +kernel
theorem dL_law_1491 : decode cL_law 1491 = .ok (.invokevirtual 246, 3) := by decide +kernel
theorem dL_law_1494 : decode cL_law 1494 = .ok (.istore 7, 2) := by decide +kernel
theorem dL_law_1496 : decode cL_law 1496 = .ok (.aload_n 2, 1) := by decide +kernel
theorem dL_law_1497 : decode cL_law 1497 = .ok (.invokevirtual 162, 3) := by decide +kernel
theorem dL_law_1500 : decode cL_law 1500 = .ok (.iload 6, 2) := by decide +kernel
theorem dL_law_1502 : decode cL_law 1502 = .ok (.if_icmp .eq 5, 3) := by decide +kernel
theorem dL_law_1505 : decode cL_law 1505 = .ok (.iconst 0, 1) := by decide +kernel
theorem dL_law_1506 : decode cL_law 1506 = .ok (.ireturn, 1) := by decide +kernel
theorem dL_law_1507 : decode cL_law 1507 = .ok (.iload 6, 2) := by decide +kernel
theorem dL_law_1509 : decode cL_law 1509 = .ok (.ifCond .ne 15, 3) := by decide +kernel
theorem dL_law_1512 : decode cL_law 1512 = .ok (.aload_n 3, 1) := by decide +kernel
theorem dL_law_1513 : decode cL_law 1513 = .ok (.iconst 0, 1) := by decide +kernel
theorem dL_law_1514 : decode cL_law 1514 = .ok (.laload, 1) := by decide +kernel
theorem dL_law_1515 : decode cL_law 1515 = .ok (.iload 7, 2) := by decide +kernel
theorem dL_law_1517 : decode cL_law 1517 = .ok (.i2l, 1) := by decide +kernel
theorem dL_law_1518 : decode cL_law 1518 = .ok (.lcmp, 1) := by decide +kernel
theorem dL_law_1519 : decode cL_law 1519 = .ok (.ifCond .eq 5, 3) := by decide +kernel
theorem dL_law_1522 : decode cL_law 1522 = .ok (.iconst 0, 1) := by decide +kernel
theorem dL_law_1523 : decode cL_law 1523 = .ok (.ireturn, 1) := by decide +kernel
theorem dL_law_1524 : decode cL_law 1524 = .ok (.goto 1118, 3) := by decide +kernel
theorem dL_law_1527 : decode cL_law 1527 = .ok (.aload_n 1, 1) := by decide +kernel
theorem dL_law_1528 : decode cL_law 1528 = .ok (.aload_n 0, 1) := by decide +kernel
theorem dL_law_1529 : decode cL_law 1529 = .ok (.iload 5, 2) := by decide +kernel
theorem dL_law_1531 : decode cL_law 1531 = .ok (.iconst 1, 1) := by decide +kernel
theorem dL_law_1532 : decode cL_law 1532 = .ok (.iadd, 1) := by decide +kernel
theorem dL_law_1533 : decode cL_law 1533 = .ok (.iaload, 1) := by decide +kernel
theorem dL_law_1534 : decode cL_law 1534 = .ok (.aload_n 3, 1) := by decide +kernel
theorem dL_law_1535 : decode cL_law 1535 = .ok (.invokestatic 247, 3) := by decide +kernel
theorem dL_law_1538 : decode cL_law 1538 = .ok (.istore 6, 2) := by decide +kernel
theorem dL_law_1540 : decode cL_law 1540 = .ok (.aload_n 2, 1) := by decide +kernel
theorem dL_law_1541 : decode cL_law 1541 = .ok (.aload_n 0, 1) := by decide +kernel
theorem dL_law_1542 : decode cL_law 1542 = .ok (.iload 5, 2) := by decide +kernel
theorem dL_law_1544 : decode cL_law 1544 = .ok (.iconst 1, 1) := by decide +kernel
theorem dL_law_1545 : decode cL_law 1545 = .ok (.iadd, 1) := by decide +kernel
theorem dL_law_1546 : decode cL_law 1546 = .ok (.iaload, 1) := by decide +kernel
theorem dL_law_1547 : decode cL_law 1547 = .ok (.invokevirtual 249, 3) := by decide +kernel
theorem dL_law_1550 : decode cL_law 1550 = .ok (.istore 7, 2) := by decide +kernel
theorem dL_law_1552 : decode cL_law 1552 = .ok (.aload_n 2, 1) := by decide +kernel
theorem dL_law_1553 : decode cL_law 1553 = .ok (.invokevirtual 162, 3) := by decide +kernel
theorem dL_law_1556 : decode cL_law 1556 = .ok (.iload 6, 2) := by decide +kernel
theorem dL_law_1558 : decode cL_law 1558 = .ok (.if_icmp .eq 5, 3) := by decide +kernel
theorem dL_law_1561 : decode cL_law 1561 = .ok (.iconst 0, 1) := by decide +kernel
theorem dL_law_1562 : decode cL_law 1562 = .ok (.ireturn, 1) := by decide +kernel
theorem dL_law_1563 : decode cL_law 1563 = .ok (.iload 6, 2) := by decide +kernel
theorem dL_law_1565 : decode cL_law 1565 = .ok (.ifCond .ne 22, 3) := by decide +kernel
theorem dL_law_1568 : decode cL_law 1568 = .ok (.aload_n 3, 1) := by decide +kernel
theorem dL_law_1569 : decode cL_law 1569 = .ok (.iconst 0, 1) := by decide +kernel
theorem dL_law_1570 : decode cL_law 1570 = .ok (.laload, 1) := by decide +kernel
theorem dL_law_1571 : decode cL_law 1571 = .ok (.iload 7, 2) := by decide +kernel
theorem dL_law_1573 : decode cL_law 1573 = .ok (.ifCond .eq 7, 3) := by decide +kernel
theorem dL_law_1576 : decode cL_law 1576 = .ok (.lconst 1, 1) := by decide +kernel
theorem dL_law_1577 : decode cL_law 1577 = .ok (.goto 4, 3) := by decide +kernel
theorem dL_law_1580 : decode cL_law 1580 = .ok (.lconst 0, 1) := by decide +kernel
theorem dL_law_1581 : decode cL_law 1581 = .ok (.lcmp, 1) := by decide +kernel
theorem dL_law_1582 : decode cL_law 1582 = .ok (.ifCond .eq 5, 3) := by decide +kernel
theorem dL_law_1585 : decode cL_law 1585 = .ok (.iconst 0, 1) := by decide +kernel
theorem dL_law_1586 : decode cL_law 1586 = .ok (.ireturn, 1) := by decide +kernel
theorem dL_law_1587 : decode cL_law 1587 = .ok (.goto 1055, 3) := by decide +kernel
theorem dL_law_1590 : decode cL_law 1590 = .ok (.aload_n 1, 1) := by decide +kernel
theorem dL_law_1591 : decode cL_law 1591 = .ok (.aload_n 3, 1) := by decide +kernel
theorem dL_law_1592 : decode cL_law 1592 = .ok (.invokestatic 250, 3) := by decide +kernel
theorem dL_law_1595 : decode cL_law 1595 = .ok (.istore 6, 2) := by decide +kernel
theorem dL_law_1597 : decode cL_law 1597 = .ok (.aload_n 2, 1) := by decide +kernel
theorem dL_law_1598 : decode cL_law 1598 = .ok (.invokevirtual 252, 3) := by decide +kernel
theorem dL_law_1601 : decode cL_law 1601 = .ok (.istore 7, 2) := by decide +kernel
theorem dL_law_1603 : decode cL_law 1603 = .ok (.aload_n 2, 1) := by decide +kernel
theorem dL_law_1604 : decode cL_law 1604 = .ok (.invokevirtual 162, 3) := by decide +kernel
theorem dL_law_1607 : decode cL_law 1607 = .ok (.iload 6, 2) := by decide +kernel
theorem dL_law_1609 : decode cL_law 1609 = .ok (.if_icmp .eq 5, 3) := by decide +kernel
theorem dL_law_1612 : decode cL_law 1612 = .ok (.iconst 0, 1) := by decide +kernel
theorem dL_law_1613 : decode cL_law 1613 = .ok (.ireturn, 1) := by decide +kernel
theorem dL_law_1614 : decode cL_law 1614 = .ok (.iload 6, 2) := by decide +kernel
theorem dL_law_1616 : decode cL_law 1616 = .ok (.ifCond .ne 15, 3) := by decide +kernel
theorem dL_law_1619 : decode cL_law 1619 = .ok (.aload_n 3, 1) := by decide +kernel
theorem dL_law_1620 : decode cL_law 1620 = .ok (.iconst 0, 1) := by decide +kernel
theorem dL_law_1621 : decode cL_law 1621 = .ok (.laload, 1) := by decide +kernel
theorem dL_law_1622 : decode cL_law 1622 = .ok (.iload 7, 2) := by decide +kernel
theorem dL_law_1624 : decode cL_law 1624 = .ok (.i2l, 1) := by decide +kernel
theorem dL_law_1625 : decode cL_law 1625 = .ok (.lcmp, 1) := by decide +kernel
theorem dL_law_1626 : decode cL_law 1626 = .ok (.ifCond .eq 5, 3) := by decide +kernel
theorem dL_law_1629 : decode cL_law 1629 = .ok (.iconst 0, 1) := by decide +kernel
theorem dL_law_1630 : decode cL_law 1630 = .ok (.ireturn, 1) := by decide +kernel
theorem dL_law_1631 : decode cL_law 1631 = .ok (.goto 1011, 3) := by decide +kernel
theorem dL_law_1634 : decode cL_law 1634 = .ok (.aload_n 1, 1) := by decide +kernel
theorem dL_law_1635 : decode cL_law 1635 = .ok (.aload_n 3, 1) := by decide +kernel
theorem dL_law_1636 : decode cL_law 1636 = .ok (.invokestatic 253, 3) := by decide +kernel
theorem dL_law_1639 : decode cL_law 1639 = .ok (.istore 6, 2) := by decide +kernel
theorem dL_law_1641 : decode cL_law 1641 = .ok (.aload_n 2, 1) := by decide +kernel
theorem dL_law_1642 : decode cL_law 1642 = .ok (.invokevirtual 255, 3) := by decide +kernel
theorem dL_law_1645 : decode cL_law 1645 = .ok (.istore 7, 2) := by decide +kernel
theorem dL_law_1647 : decode cL_law 1647 = .ok (.aload_n 2, 1) := by decide +kernel
theorem dL_law_1648 : decode cL_law 1648 = .ok (.invokevirtual 162, 3) := by decide +kernel
theorem dL_law_1651 : decode cL_law 1651 = .ok (.iload 6, 2) := by decide +kernel
theorem dL_law_1653 : decode cL_law 1653 = .ok (.if_icmp .eq 5, 3) := by decide +kernel
theorem dL_law_1656 : decode cL_law 1656 = .ok (.iconst 0, 1) := by decide +kernel
theorem dL_law_1657 : decode cL_law 1657 = .ok (.ireturn, 1) := by decide +kernel
theorem dL_law_1658 : decode cL_law 1658 = .ok (.iload 6, 2) := by decide +kernel
theorem dL_law_1660 : decode cL_law 1660 = .ok (.ifCond .ne 15, 3) := by decide +kernel
theorem dL_law_1663 : decode cL_law 1663 = .ok (.aload_n 3, 1) := by decide +kernel
theorem dL_law_1664 : decode cL_law 1664 = .ok (.iconst 0, 1) := by decide +kernel
theorem dL_law_1665 : decode cL_law 1665 = .ok (.laload, 1) := by decide +kernel
theorem dL_law_1666 : decode cL_law 1666 = .ok (.iload 7, 2) := by decide +kernel
theorem dL_law_1668 : decode cL_law 1668 = .ok (.i2l, 1) := by decide +kernel
theorem dL_law_1669 : decode cL_law 1669 = .ok (.lcmp, 1) := by decide +kernel
theorem dL_law_1670 : decode cL_law 1670 = .ok (.ifCond .eq 5, 3) := by decide +kernel
theorem dL_law_1673 : decode cL_law 1673 = .ok (.iconst 0, 1) := by decide +kernel
theorem dL_law_1674 : decode cL_law 1674 = .ok (.ireturn, 1) := by decide +kernel
theorem dL_law_1675 : decode cL_law 1675 = .ok (.goto 967, 3) := by decide +kernel
theorem dL_law_1678 : decode cL_law 1678 = .ok (.aload_n 1, 1) := by decide +kernel
theorem dL_law_1679 : decode cL_law 1679 = .ok (.aload_n 0, 1) := by decide +kernel
theorem dL_law_1680 : decode cL_law 1680 = .ok (.iload 5, 2) := by decide +kernel
theorem dL_law_1682 : decode cL_law 1682 = .ok (.iconst 1, 1) := by decide +kernel
theorem dL_law_1683 : decode cL_law 1683 = .ok (.iadd, 1) := by decide +kernel
theorem dL_law_1684 : decode cL_law 1684 = .ok (.iaload, 1) := by decide +kernel
theorem dL_law_1685 : decode cL_law 1685 = .ok (.aload_n 3, 1) := by decide +kernel
theorem dL_law_1686 : decode cL_law 1686 = .ok (.invokestatic 256, 3) := by decide +kernel
theorem dL_law_1689 : decode cL_law 1689 = .ok (.istore 6, 2) := by decide +kernel
theorem dL_law_1691 : decode cL_law 1691 = .ok (.aload_n 2, 1) := by decide +kernel
theorem dL_law_1692 : decode cL_law 1692 = .ok (.aload_n 0, 1) := by decide +kernel
theorem dL_law_1693 : decode cL_law 1693 = .ok (.iload 5, 2) := by decide +kernel
theorem dL_law_1695 : decode cL_law 1695 = .ok (.iconst 1, 1) := by decide +kernel
theorem dL_law_1696 : decode cL_law 1696 = .ok (.iadd, 1) := by decide +kernel
theorem dL_law_1697 : decode cL_law 1697 = .ok (.iaload, 1) := by decide +kernel
theorem dL_law_1698 : decode cL_law 1698 = .ok (.invokevirtual 258, 3) := by decide +kernel
theorem dL_law_1701 : decode cL_law 1701 = .ok (.istore 7, 2) := by decide +kernel
theorem dL_law_1703 : decode cL_law 1703 = .ok (.aload_n 2, 1) := by decide +kernel
theorem dL_law_1704 : decode cL_law 1704 = .ok (.invokevirtual 162, 3) := by decide +kernel
theorem dL_law_1707 : decode cL_law 1707 = .ok (.iload 6, 2) := by decide +kernel
theorem dL_law_1709 : decode cL_law 1709 = .ok (.if_icmp .eq 5, 3) := by decide +kernel
theorem dL_law_1712 : decode cL_law 1712 = .ok (.iconst 0, 1) := by decide +kernel
theorem dL_law_1713 : decode cL_law 1713 = .ok (.ireturn, 1) := by decide +kernel
theorem dL_law_1714 : decode cL_law 1714 = .ok (.iload 6, 2) := by decide +kernel
theorem dL_law_1716 : decode cL_law 1716 = .ok (.ifCond .ne 15, 3) := by decide +kernel
theorem dL_law_1719 : decode cL_law 1719 = .ok (.aload_n 3, 1) := by decide +kernel
theorem dL_law_1720 : decode cL_law 1720 = .ok (.iconst 0, 1) := by decide +kernel
theorem dL_law_1721 : decode cL_law 1721 = .ok (.laload, 1) := by decide +kernel
theorem dL_law_1722 : decode cL_law 1722 = .ok (.iload 7, 2) := by decide +kernel
theorem dL_law_1724 : decode cL_law 1724 = .ok (.i2l, 1) := by decide +kernel
theorem dL_law_1725 : decode cL_law 1725 = .ok (.lcmp, 1) := by decide +kernel
theorem dL_law_1726 : decode cL_law 1726 = .ok (.ifCond .eq 5, 3) := by decide +kernel
theorem dL_law_1729 : decode cL_law 1729 = .ok (.iconst 0, 1) := by decide +kernel
theorem dL_law_1730 : decode cL_law 1730 = .ok (.ireturn, 1) := by decide +kernel
theorem dL_law_1731 : decode cL_law 1731 = .ok (.goto 911, 3) := by decide +kernel
theorem dL_law_1734 : decode cL_law 1734 = .ok (.aload_n 1, 1) := by decide +kernel
theorem dL_law_1735 : decode cL_law 1735 = .ok (.aload_n 3, 1) := by decide +kernel
theorem dL_law_1736 : decode cL_law 1736 = .ok (.invokestatic 259, 3) := by decide +kernel
theorem dL_law_1739 : decode cL_law 1739 = .ok (.istore 6, 2) := by decide +kernel
theorem dL_law_1741 : decode cL_law 1741 = .ok (.aload_n 2, 1) := by decide +kernel
theorem dL_law_1742 : decode cL_law 1742 = .ok (.invokevirtual 261, 3) := by decide +kernel
theorem dL_law_1745 : decode cL_law 1745 = .ok (.istore 7, 2) := by decide +kernel
theorem dL_law_1747 : decode cL_law 1747 = .ok (.aload_n 2, 1) := by decide +kernel
theorem dL_law_1748 : decode cL_law 1748 = .ok (.invokevirtual 162, 3) := by decide +kernel
theorem dL_law_1751 : decode cL_law 1751 = .ok (.iload 6, 2) := by decide +kernel
theorem dL_law_1753 : decode cL_law 1753 = .ok (.if_icmp .eq 5, 3) := by decide +kernel
theorem dL_law_1756 : decode cL_law 1756 = .ok (.iconst 0, 1) := by decide +kernel
theorem dL_law_1757 : decode cL_law 1757 = .ok (.ireturn, 1) := by decide +kernel
theorem dL_law_1758 : decode cL_law 1758 = .ok (.iload 6, 2) := by decide +kernel
theorem dL_law_1760 : decode cL_law 1760 = .ok (.ifCond .ne 15, 3) := by decide +kernel
theorem dL_law_1763 : decode cL_law 1763 = .ok (.aload_n 3, 1) := by decide +kernel
theorem dL_law_1764 : decode cL_law 1764 = .ok (.iconst 0, 1) := by decide +kernel
theorem dL_law_1765 : decode cL_law 1765 = .ok (.laload, 1) := by decide +kernel
theorem dL_law_1766 : decode cL_law 1766 = .ok (.iload 7, 2) := by decide +kernel
theorem dL_law_1768 : decode cL_law 1768 = .ok (.i2l, 1) := by decide +kernel
theorem dL_law_1769 : decode cL_law 1769 = .ok (.lcmp, 1) := by decide +kernel
theorem dL_law_1770 : decode cL_law 1770 = .ok (.ifCond .eq 5, 3) := by decide +kernel
theorem dL_law_1773 : decode cL_law 1773 = .ok (.iconst 0, 1) := by decide +kernel
theorem dL_law_1774 : decode cL_law 1774 = .ok (.ireturn, 1) := by decide +kernel
theorem dL_law_1775 : decode cL_law 1775 = .ok (.goto 867, 3) := by decide +kernel
theorem dL_law_1778 : decode cL_law 1778 = .ok (.aload_n 1, 1) := by decide +kernel
theorem dL_law_1779 : decode cL_law 1779 = .ok (.aload_n 3, 1) := by decide +kernel
theorem dL_law_1780 : decode cL_law 1780 = .ok (.invokestatic 262, 3) := by decide +kernel
theorem dL_law_1783 : decode cL_law 1783 = .ok (.istore 6, 2) := by decide +kernel
theorem dL_law_1785 : decode cL_law 1785 = .ok (.aload_n 2, 1) := by decide +kernel
theorem dL_law_1786 : decode cL_law 1786 = .ok (.invokevirtual 264, 3) := by decide +kernel
theorem dL_law_1789 : decode cL_law 1789 = .ok (.istore 7, 2) := by decide +kernel
theorem dL_law_1791 : decode cL_law 1791 = .ok (.aload_n 2, 1) := by decide +kernel
theorem dL_law_1792 : decode cL_law 1792 = .ok (.invokevirtual 162, 3) := by decide +kernel
theorem dL_law_1795 : decode cL_law 1795 = .ok (.iload 6, 2) := by decide +kernel
theorem dL_law_1797 : decode cL_law 1797 = .ok (.if_icmp .eq 5, 3) := by decide +kernel
theorem dL_law_1800 : decode cL_law 1800 = .ok (.iconst 0, 1) := by decide +kernel
theorem dL_law_1801 : decode cL_law 1801 = .ok (.ireturn, 1) := by decide +kernel
theorem dL_law_1802 : decode cL_law 1802 = .ok (.iload 6, 2) := by decide +kernel
theorem dL_law_1804 : decode cL_law 1804 = .ok (.ifCond .ne 15, 3) := by decide +kernel
theorem dL_law_1807 : decode cL_law 1807 = .ok (.aload_n 3, 1) := by decide +kernel
theorem dL_law_1808 : decode cL_law 1808 = .ok (.iconst 0, 1) := by decide +kernel
theorem dL_law_1809 : decode cL_law 1809 = .ok (.laload, 1) := by decide +kernel
theorem dL_law_1810 : decode cL_law 1810 = .ok (.iload 7, 2) := by decide +kernel
theorem dL_law_1812 : decode cL_law 1812 = .ok (.i2l, 1) := by decide +kernel
theorem dL_law_1813 : decode cL_law 1813 = .ok (.lcmp, 1) := by decide +kernel
theorem dL_law_1814 : decode cL_law 1814 = .ok (.ifCond .eq 5, 3) := by decide +kernel
theorem dL_law_1817 : decode cL_law 1817 = .ok (.iconst 0, 1) := by decide +kernel
theorem dL_law_1818 : decode cL_law 1818 = .ok (.ireturn, 1) := by decide +kernel
theorem dL_law_1819 : decode cL_law 1819 = .ok (.goto 823, 3) := by decide +kernel
theorem dL_law_1822 : decode cL_law 1822 = .ok (.aload_n 1, 1) := by decide +kernel
theorem dL_law_1823 : decode cL_law 1823 = .ok (.invokevirtual 265, 3) := by decide +kernel
theorem dL_law_1826 : decode cL_law 1826 = .ok (.aload_n 2, 1) := by decide +kernel
theorem dL_law_1827 : decode cL_law 1827 = .ok (.invokevirtual 268, 3) := by decide +kernel
theorem dL_law_1830 : decode cL_law 1830 = .ok (.if_icmp .eq 812, 3) := by decide +kernel
theorem dL_law_1833 : decode cL_law 1833 = .ok (.iconst 0, 1) := by decide +kernel
theorem dL_law_1834 : decode cL_law 1834 = .ok (.ireturn, 1) := by decide +kernel
theorem dL_law_1835 : decode cL_law 1835 = .ok (.aload_n 1, 1) := by decide +kernel
theorem dL_law_1836 : decode cL_law 1836 = .ok (.invokevirtual 269, 3) := by decide +kernel
theorem dL_law_1839 : decode cL_law 1839 = .ok (.aload_n 2, 1) := by decide +kernel
theorem dL_law_1840 : decode cL_law 1840 = .ok (.invokevirtual 272, 3) := by decide +kernel
theorem dL_law_1843 : decode cL_law 1843 = .ok (.if_icmp .eq 799, 3) := by decide +kernel
theorem dL_law_1846 : decode cL_law 1846 = .ok (.iconst 0, 1) := by decide +kernel
theorem dL_law_1847 : decode cL_law 1847 = .ok (.ireturn, 1) := by decide +kernel
theorem dL_law_1848 : decode cL_law 1848 = .ok (.aload_n 1, 1) := by decide +kernel
theorem dL_law_1849 : decode cL_law 1849 = .ok (.invokevirtual 273, 3) := by decide +kernel
theorem dL_law_1852 : decode cL_law 1852 = .ok (.aload_n 2, 1) := by decide +kernel
theorem dL_law_1853 : decode cL_law 1853 = .ok (.invokevirtual 276, 3) := by decide +kernel
theorem dL_law_1856 : decode cL_law 1856 = .ok (.if_icmp .eq 786, 3) := by decide +kernel
theorem dL_law_1859 : decode cL_law 1859 = .ok (.iconst 0, 1) := by decide +kernel
theorem dL_law_1860 : decode cL_law 1860 = .ok (.ireturn, 1) := by decide +kernel
theorem dL_law_1861 : decode cL_law 1861 = .ok (.aload_n 1, 1) := by decide +kernel
theorem dL_law_1862 : decode cL_law 1862 = .ok (.invokevirtual 277, 3) := by decide +kernel
theorem dL_law_1865 : decode cL_law 1865 = .ok (.aload_n 2, 1) := by decide +kernel
theorem dL_law_1866 : decode cL_law 1866 = .ok (.invokevirtual 280, 3) := by decide +kernel
theorem dL_law_1869 : decode cL_law 1869 = .ok (.if_icmp .eq 773, 3) := by decide +kernel
theorem dL_law_1872 : decode cL_law 1872 = .ok (.iconst 0, 1) := by decide +kernel
theorem dL_law_1873 : decode cL_law 1873 = .ok (.ireturn, 1) := by decide +kernel
theorem dL_law_1874 : decode cL_law 1874 = .ok (.aload_n 1, 1) := by decide +kernel
theorem dL_law_1875 : decode cL_law 1875 = .ok (.aload 4, 2) := by decide +kernel
theorem dL_law_1877 : decode cL_law 1877 = .ok (.invokestatic 281, 3) := by decide +kernel
theorem dL_law_1880 : decode cL_law 1880 = .ok (.istore 6, 2) := by decide +kernel
theorem dL_law_1882 : decode cL_law 1882 = .ok (.aload_n 2, 1) := by decide +kernel
theorem dL_law_1883 : decode cL_law 1883 = .ok (.invokevirtual 284, 3) := by decide +kernel
theorem dL_law_1886 : decode cL_law 1886 = .ok (.dstore 7, 2) := by decide +kernel
theorem dL_law_1888 : decode cL_law 1888 = .ok (.aload_n 2, 1) := by decide +kernel
theorem dL_law_1889 : decode cL_law 1889 = .ok (.invokevirtual 162, 3) := by decide +kernel
theorem dL_law_1892 : decode cL_law 1892 = .ok (.iload 6, 2) := by decide +kernel
theorem dL_law_1894 : decode cL_law 1894 = .ok (.if_icmp .eq 5, 3) := by decide +kernel
theorem dL_law_1897 : decode cL_law 1897 = .ok (.iconst 0, 1) := by decide +kernel
theorem dL_law_1898 : decode cL_law 1898 = .ok (.ireturn, 1) := by decide +kernel
theorem dL_law_1899 : decode cL_law 1899 = .ok (.iload 6, 2) := by decide +kernel
theorem dL_law_1901 : decode cL_law 1901 = .ok (.ifCond .ne 35, 3) := by decide +kernel
theorem dL_law_1904 : decode cL_law 1904 = .ok (.aload 4, 2) := by decide +kernel
theorem dL_law_1906 : decode cL_law 1906 = .ok (.iconst 0, 1) := by decide +kernel
theorem dL_law_1907 : decode cL_law 1907 = .ok (.daload, 1) := by decide +kernel
theorem dL_law_1908 : decode cL_law 1908 = .ok (.dload 7, 2) := by decide +kernel
theorem dL_law_1910 : decode cL_law 1910 = .ok (.dcmp .l, 1) := by decide +kernel
theorem dL_law_1911 : decode cL_law 1911 = .ok (.ifCond .eq 25, 3) := by decide +kernel
theorem dL_law_1914 : decode cL_law 1914 = .ok (.aload 4, 2) := by decide +kernel
theorem dL_law_1916 : decode cL_law 1916 = .ok (.iconst 0, 1) := by decide +kernel
theorem dL_law_1917 : decode cL_law 1917 = .ok (.daload, 1) := by decide +kernel
theorem dL_law_1918 : decode cL_law 1918 = .ok (.aload 4, 2) := by decide +kernel
theorem dL_law_1920 : decode cL_law 1920 = .ok (.iconst 0, 1) := by decide +kernel
theorem dL_law_1921 : decode cL_law 1921 = .ok (.daload, 1) := by decide +kernel
theorem dL_law_1922 : decode cL_law 1922 = .ok (.dcmp .l, 1) := by decide +kernel
theorem dL_law_1923 : decode cL_law 1923 = .ok (.ifCond .eq 11, 3) := by decide +kernel
theorem dL_law_1926 : decode cL_law 1926 = .ok (.dload 7, 2) := by decide +kernel
theorem dL_law_1928 : decode cL_law 1928 = .ok (.dload 7, 2) := by decide +kernel
theorem dL_law_1930 : decode cL_law 1930 = .ok (.dcmp .l, 1) := by decide +kernel
theorem dL_law_1931 : decode cL_law 1931 = .ok (.ifCond .ne 5, 3) := by decide +kernel
theorem dL_law_1934 : decode cL_law 1934 = .ok (.iconst 0, 1) := by decide +kernel
theorem dL_law_1935 : decode cL_law 1935 = .ok (.ireturn, 1) := by decide +kernel
theorem dL_law_1936 : decode cL_law 1936 = .ok (.goto 706, 3) := by decide +kernel
theorem dL_law_1939 : decode cL_law 1939 = .ok (.aload_n 1, 1) := by decide +kernel
theorem dL_law_1940 : decode cL_law 1940 = .ok (.aload 4, 2) := by decide +kernel
theorem dL_law_1942 : decode cL_law 1942 = .ok (.invokestatic 285, 3) := by decide +kernel
theorem dL_law_1945 : decode cL_law 1945 = .ok (.istore 6, 2) := by decide +kernel
theorem dL_law_1947 : decode cL_law 1947 = .ok (.aload_n 2, 1) := by decide +kernel
theorem dL_law_1948 : decode cL_law 1948 = .ok (.invokevirtual 287, 3) := by decide +kernel
theorem dL_law_1951 : decode cL_law 1951 = .ok (.fstore 7, 2) := by decide +kernel
theorem dL_law_1953 : decode cL_law 1953 = .ok (.aload_n 2, 1) := by decide +kernel
theorem dL_law_1954 : decode cL_law 1954 = .ok (.invokevirtual 162, 3) := by decide +kernel
theorem dL_law_1957 : decode cL_law 1957 = .ok (.iload 6, 2) := by decide +kernel
theorem dL_law_1959 : decode cL_law 1959 = .ok (.if_icmp .eq 5, 3) := by decide +kernel
theorem dL_law_1962 : decode cL_law 1962 = .ok (.iconst 0, 1) := by decide +kernel
theorem dL_law_1963 : decode cL_law 1963 = .ok (.ireturn, 1) := by decide +kernel
theorem dL_law_1964 : decode cL_law 1964 = .ok (.iload 6, 2) := by decide +kernel
theorem dL_law_1966 : decode cL_law 1966 = .ok (.ifCond .ne 36, 3) := by decide +kernel
theorem dL_law_1969 : decode cL_law 1969 = .ok (.aload 4, 2) := by decide +kernel
theorem dL_law_1971 : decode cL_law 1971 = .ok (.iconst 0, 1) := by decide +kernel
theorem dL_law_1972 : decode cL_law 1972 = .ok (.daload, 1) := by decide +kernel
theorem dL_law_1973 : decode cL_law 1973 = .ok (.fload 7, 2) := by decide +kernel
theorem dL_law_1975 : decode cL_law 1975 = .ok (.f2d, 1) := by decide +kernel
theorem dL_law_1976 : decode cL_law 1976 = .ok (.dcmp .l, 1) := by decide +kernel
theorem dL_law_1977 : decode cL_law 1977 = .ok (.ifCond .eq 25, 3) := by decide +kernel
theorem dL_law_1980 : decode cL_law 1980 = .ok (.aload 4, 2) := by decide +kernel
theorem dL_law_1982 : decode cL_law 1982 = .ok (.iconst 0, 1) := by decide +kernel
theorem dL_law_1983 : decode cL_law 1983 = .ok (.daload, 1) := by decide +kernel
theorem dL_law_1984 : decode cL_law 1984 = .ok (.aload 4, 2) := by decide +kernel
theorem dL_law_1986 : decode cL_law 1986 = .ok (.iconst 0, 1) := by decide +kernel
theorem dL_law_1987 : decode cL_law 1987 = .ok (.daload, 1) := by decide +kernel
theorem dL_law_1988 : decode cL_law 1988 = .ok (.dcmp .l, 1) := by decide +kernel
theorem dL_law_1989 : decode cL_law 1989 = .ok (.ifCond .eq 11, 3) := by decide +kernel
theorem dL_law_1992 : decode cL_law 1992 = .ok (.fload 7, 2) := by decide +kernel
theorem dL_law_1994 : decode cL_law 1994 = .ok (.fload 7, 2) := by decide +kernel
theorem dL_law_1996 : decode cL_law 1996 = .ok (.fcmp .l, 1) := by decide +kernel
theorem dL_law_1997 : decode cL_law 1997 = .ok (.ifCond .ne 5, 3) := by decide +kernel
theorem dL_law_2000 : decode cL_law 2000 = .ok (.iconst 0, 1) := by decide +kernel
theorem dL_law_2001 : decode cL_law 2001 = .ok (.ireturn, 1) := by decide +kernel
theorem dL_law_2002 : decode cL_law 2002 = .ok (.goto 640, 3) := by decide +kernel
theorem dL_law_2005 : decode cL_law 2005 = .ok (.aload_n 1, 1) := by decide +kernel
theorem dL_law_2006 : decode cL_law 2006 = .ok (.aload_n 0, 1) := by decide +kernel
theorem dL_law_2007 : decode cL_law 2007 = .ok (.iload 5, 2) := by decide +kernel
theorem dL_law_2009 : decode cL_law 2009 = .ok (.iconst 1, 1) := by decide +kernel
theorem dL_law_2010 : decode cL_law 2010 = .ok (.iadd, 1) := by decide +kernel
theorem dL_law_2011 : decode cL_law 2011 = .ok (.iaload, 1) := by decide +kernel
theorem dL_law_2012 : decode cL_law 2012 = .ok (.i2c, 1) := by decide +kernel
theorem dL_law_2013 : decode cL_law 2013 = .ok (.aload_n 3, 1) := by decide +kernel
theorem dL_law_2014 : decode cL_law 2014 = .ok (.invokestatic 288, 3) := by decide +kernel
theorem dL_law_2017 : decode cL_law 2017 = .ok (.istore 6, 2) := by decide +kernel
theorem dL_law_2019 : decode cL_law 2019 = .ok (.aload_n 2, 1) := by decide +kernel
theorem dL_law_2020 : decode cL_law 2020 = .ok (.aload_n 0, 1) := by decide +kernel
theorem dL_law_2021 : decode cL_law 2021 = .ok (.iload 5, 2) := by decide +kernel
theorem dL_law_2023 : decode cL_law 2023 = .ok (.iconst 1, 1) := by decide +kernel
theorem dL_law_2024 : decode cL_law 2024 = .ok (.iadd, 1) := by decide +kernel
theorem dL_law_2025 : decode cL_law 2025 = .ok (.iaload, 1) := by decide +kernel
theorem dL_law_2026 : decode cL_law 2026 = .ok (.i2c, 1) := by decide +kernel
theorem dL_law_2027 : decode cL_law 2027 = .ok (.invokevirtual 290, 3) := by decide +kernel
theorem dL_law_2030 : decode cL_law 2030 = .ok (.istore 7, 2) := by decide +kernel
theorem dL_law_2032 : decode cL_law 2032 = .ok (.aload_n 2, 1) := by decide +kernel
theorem dL_law_2033 : decode cL_law 2033 = .ok (.invokevirtual 162, 3) := by decide +kernel
theorem dL_law_2036 : decode cL_law 2036 = .ok (.iload 6, 2) := by decide +kernel
theorem dL_law_2038 : decode cL_law 2038 = .ok (.if_icmp .eq 5, 3) := by decide +kernel
theorem dL_law_2041 : decode cL_law 2041 = .ok (.iconst 0, 1) := by decide +kernel
theorem dL_law_2042 : decode cL_law 2042 = .ok (.ireturn, 1) := by decide +kernel
theorem dL_law_2043 : decode cL_law 2043 = .ok (.iload 6, 2) := by decide +kernel
theorem dL_law_2045 : decode cL_law 2045 = .ok (.ifCond .ne 15, 3) := by decide +kernel
theorem dL_law_2048 : decode cL_law 2048 = .ok (.aload_n 3, 1) := by decide +kernel
theorem dL_law_2049 : decode cL_law 2049 = .ok (.iconst 0, 1) := by decide +kernel
theorem dL_law_2050 : decode cL_law 2050 = .ok (.laload, 1) := by decide +kernel
theorem dL_law_2051 : decode cL_law 2051 = .ok (.iload 7, 2) := by decide +kernel
theorem dL_law_2053 : decode cL_law 2053 = .ok (.i2l, 1) := by decide +kernel
theorem dL_law_2054 : decode cL_law 2054 = .ok (.lcmp, 1) := by decide +kernel
theorem dL_law_2055 : decode cL_law 2055 = .ok (.ifCond .eq 5, 3) := by decide +kernel
theorem dL_law_2058 : decode cL_law 2058 = .ok (.iconst 0, 1) := by decide +kernel
theorem dL_law_2059 : decode cL_law 2059 = .ok (.ireturn, 1) := by decide +kernel
theorem dL_law_2060 : decode cL_law 2060 = .ok (.goto 582, 3) := by decide +kernel
theorem dL_law_2063 : decode cL_law 2063 = .ok (.aload_n 1, 1) := by decide +kernel
theorem dL_law_2064 : decode cL_law 2064 = .ok (.invokevirtual 291, 3) := by decide +kernel
theorem dL_law_2067 : decode cL_law 2067 = .ok (.aload_n 2, 1) := by decide +kernel
theorem dL_law_2068 : decode cL_law 2068 = .ok (.invokevirtual 294, 3) := by decide +kernel
theorem dL_law_2071 : decode cL_law 2071 = .ok (.if_icmp .eq 571, 3) := by decide +kernel
theorem dL_law_2074 : decode cL_law 2074 = .ok (.iconst 0, 1) := by decide +kernel
theorem dL_law_2075 : decode cL_law 2075 = .ok (.ireturn, 1) := by decide +kernel
theorem dL_law_2076 : decode cL_law 2076 = .ok (.aload_n 1, 1) := by decide +kernel
theorem dL_law_2077 : decode cL_law 2077 = .ok (.aload_n 3, 1) := by decide +kernel
theorem dL_law_2078 : decode cL_law 2078 = .ok (.invokestatic 295, 3) := by decide +kernel
theorem dL_law_2081 : decode cL_law 2081 = .ok (.istore 6, 2) := by decide +kernel
theorem dL_law_2083 : decode cL_law 2083 = .ok (.aload_n 2, 1) := by decide +kernel
theorem dL_law_2084 : decode cL_law 2084 = .ok (.invokevirtual 297, 3) := by decide +kernel
theorem dL_law_2087 : decode cL_law 2087 = .ok (.istore 7, 2) := by decide +kernel
theorem dL_law_2089 : decode cL_law 2089 = .ok (.aload_n 2, 1) := by decide +kernel
theorem dL_law_2090 : decode cL_law 2090 = .ok (.invokevirtual 162, 3) := by decide +kernel
theorem dL_law_2093 : decode cL_law 2093 = .ok (.iload 6, 2) := by decide +kernel
theorem dL_law_2095 : decode cL_law 2095 = .ok (.if_icmp .eq 5, 3) := by decide +kernel
theorem dL_law_2098 : decode cL_law 2098 = .ok (.iconst 0, 1) := by decide +kernel
theorem dL_law_2099 : decode cL_law 2099 = .ok (.ireturn, 1) := by decide +kernel
theorem dL_law_2100 : decode cL_law 2100 = .ok (.iload 6, 2) := by decide +kernel
theorem dL_law_2102 : decode cL_law 2102 = .ok (.ifCond .ne 15, 3) := by decide +kernel
theorem dL_law_2105 : decode cL_law 2105 = .ok (.aload_n 3, 1) := by decide +kernel
theorem dL_law_2106 : decode cL_law 2106 = .ok (.iconst 0, 1) := by decide +kernel
theorem dL_law_2107 : decode cL_law 2107 = .ok (.laload, 1) := by decide +kernel
theorem dL_law_2108 : decode cL_law 2108 = .ok (.iload 7, 2) := by decide +kernel
theorem dL_law_2110 : decode cL_law 2110 = .ok (.i2l, 1) := by decide +kernel
theorem dL_law_2111 : decode cL_law 2111 = .ok (.lcmp, 1) := by decide +kernel
theorem dL_law_2112 : decode cL_law 2112 = .ok (.ifCond .eq 5, 3) := by decide +kernel
theorem dL_law_2115 : decode cL_law 2115 = .ok (.iconst 0, 1) := by decide +kernel
theorem dL_law_2116 : decode cL_law 2116 = .ok (.ireturn, 1) := by decide +kernel
theorem dL_law_2117 : decode cL_law 2117 = .ok (.goto 525, 3) := by decide +kernel
theorem dL_law_2120 : decode cL_law 2120 = .ok (.aload_n 1, 1) := by decide +kernel
theorem dL_law_2121 : decode cL_law 2121 = .ok (.aload_n 0, 1) := by decide +kernel
theorem dL_law_2122 : decode cL_law 2122 = .ok (.iload 5, 2) := by decide +kernel
theorem dL_law_2124 : decode cL_law 2124 = .ok (.iconst 1, 1) := by decide +kernel
theorem dL_law_2125 : decode cL_law 2125 = .ok (.iadd, 1) := by decide +kernel
theorem dL_law_2126 : decode cL_law 2126 = .ok (.iaload, 1) := by decide +kernel
theorem dL_law_2127 : decode cL_law 2127 = .ok (.aload_n 3, 1) := by decide +kernel
theorem dL_law_2128 : decode cL_law 2128 = .ok (.invokestatic 298, 3) := by decide +kernel
theorem dL_law_2131 : decode cL_law 2131 = .ok (.istore 6, 2) := by decide +kernel
theorem dL_law_2133 : decode cL_law 2133 = .ok (.aload_n 2, 1) := by decide +kernel
theorem dL_law_2134 : decode cL_law 2134 = .ok (.aload_n 0, 1) := by decide +kernel
theorem dL_law_2135 : decode cL_law 2135 = .ok (.iload 5, 2) := by decide +kernel
theorem dL_law_2137 : decode cL_law 2137 = .ok (.iconst 1, 1) := by decide +kernel
theorem dL_law_2138 : decode cL_law 2138 = .ok (.iadd, 1) := by decide +kernel
theorem dL_law_2139 : decode cL_law 2139 = .ok (.iaload, 1) := by decide +kernel
theorem dL_law_2140 : decode cL_law 2140 = .ok (.invokevirtual 300, 3) := by decide +kernel
theorem dL_law_2143 : decode cL_law 2143 = .ok (.istore 7, 2) := by decide +kernel
theorem dL_law_2145 : decode cL_law 2145 = .ok (.aload_n 2, 1) := by decide +kernel
theorem dL_law_2146 : decode cL_law 2146 = .ok (.invokevirtual 162, 3) := by decide +kernel
theorem dL_law_2149 : decode cL_law 2149 = .ok (.iload 6, 2) := by decide +kernel
theorem dL_law_2151 : decode cL_law 2151 = .ok (.if_icmp .eq 5, 3) := by decide +kernel
theorem dL_law_2154 : decode cL_law 2154 = .ok (.iconst 0, 1) := by decide +kernel
theorem dL_law_2155 : decode cL_law 2155 = .ok (.ireturn, 1) := by decide +kernel
theorem dL_law_2156 : decode cL_law 2156 = .ok (.iload 6, 2) := by decide +kernel
theorem dL_law_2158 : decode cL_law 2158 = .ok (.ifCond .ne 22, 3) := by decide +kernel
theorem dL_law_2161 : decode cL_law 2161 = .ok (.aload_n 3, 1) := by decide +kernel
theorem dL_law_2162 : decode cL_law 2162 = .ok (.iconst 0, 1) := by decide +kernel
theorem dL_law_2163 : decode cL_law 2163 = .ok (.laload, 1) := by decide +kernel
theorem dL_law_2164 : decode cL_law 2164 = .ok (.iload 7, 2) := by decide +kernel
theorem dL_law_2166 : decode cL_law 2166 = .ok (.ifCond .eq 7, 3) := by decide +kernel
theorem dL_law_2169 : decode cL_law 2169 = .ok (.lconst 1, 1) := by decide +kernel
theorem dL_law_2170 : decode cL_law 2170 = .ok (.goto 4, 3) := by decide +kernel
theorem dL_law_2173 : decode cL_law 2173 = .ok (.lconst 0, 1) := by decide +kernel
theorem dL_law_2174 : decode cL_law 2174 = .ok (.lcmp, 1) := by decide +kernel
theorem dL_law_2175 : decode cL_law 2175 = .ok (.ifCond .eq 5, 3) := by decide +kernel
theorem dL_law_2178 : decode cL_law 2178 = .ok (.iconst 0, 1) := by decide +kernel
theorem dL_law_2179 : decode cL_law 2179 = .ok (.ireturn, 1) := by decide +kernel
theorem dL_law_2180 : decode cL_law 2180 = .ok (.goto 462, 3) := by decide +kernel
theorem dL_law_2183 : decode cL_law 2183 = .ok (.aload_n 1, 1) := by decide +kernel
theorem dL_law_2184 : decode cL_law 2184 = .ok (.aload_n 3, 1) := by decide +kernel
theorem dL_law_2185 : decode cL_law 2185 = .ok (.invokestatic 301, 3) := by decide +kernel
theorem dL_law_2188 : decode cL_law 2188 = .ok (.istore 6, 2) := by decide +kernel
theorem dL_law_2190 : decode cL_law 2190 = .ok (.aload_n 2, 1) := by decide +kernel
theorem dL_law_2191 : decode cL_law 2191 = .ok (.invokevirtual 303, 3) := by decide +kernel
theorem dL_law_2194 : decode cL_law 2194 = .ok (.istore 7, 2) := by decide +kernel
theorem dL_law_2196 : decode cL_law 2196 = .ok (.aload_n 2, 1) := by decide +kernel
theorem dL_law_2197 : decode cL_law 2197 = .ok (.invokevirtual 162, 3) := by decide +kernel
theorem dL_law_2200 : decode cL_law 2200 = .ok (.iload 6, 2) := by decide +kernel
theorem dL_law_2202 : decode cL_law 2202 = .ok (.if_icmp .eq 5, 3) := by decide +kernel
theorem dL_law_2205 : decode cL_law 2205 = .ok (.iconst 0, 1) := by decide +kernel
theorem dL_law_2206 : decode cL_law 2206 = .ok (.ireturn, 1) := by decide +kernel
theorem dL_law_2207 : decode cL_law 2207 = .ok (.iload 6, 2) := by decide +kernel
theorem dL_law_2209 : decode cL_law 2209 = .ok (.ifCond .ne 15, 3) := by decide +kernel
theorem dL_law_2212 : decode cL_law 2212 = .ok (.aload_n 3, 1) := by decide +kernel
theorem dL_law_2213 : decode cL_law 2213 = .ok (.iconst 0, 1) := by decide +kernel
theorem dL_law_2214 : decode cL_law 2214 = .ok (.laload, 1) := by decide +kernel
theorem dL_law_2215 : decode cL_law 2215 = .ok (.iload 7, 2) := by decide +kernel
theorem dL_law_2217 : decode cL_law 2217 = .ok (.i2l, 1) := by decide +kernel
theorem dL_law_2218 : decode cL_law 2218 = .ok (.lcmp, 1) := by decide +kernel
theorem dL_law_2219 : decode cL_law 2219 = .ok (.ifCond .eq 5, 3) := by decide +kernel
theorem dL_law_2222 : decode cL_law 2222 = .ok (.iconst 0, 1) := by decide +kernel
theorem dL_law_2223 : decode cL_law 2223 = .ok (.ireturn, 1) := by decide +kernel
theorem dL_law_2224 : decode cL_law 2224 = .ok (.goto 418, 3) := by decide +kernel
theorem dL_law_2227 : decode cL_law 2227 = .ok (.aload_n 1, 1) := by decide +kernel
theorem dL_law_2228 : decode cL_law 2228 = .ok (.aload_n 3, 1) := by decide +kernel
theorem dL_law_2229 : decode cL_law 2229 = .ok (.invokestatic 304, 3) := by decide +kernel
theorem dL_law_2232 : decode cL_law 2232 = .ok (.istore 6, 2) := by decide +kernel
theorem dL_law_2234 : decode cL_law 2234 = .ok (.aload_n 2, 1) := by decide +kernel
theorem dL_law_2235 : decode cL_law 2235 = .ok (.invokevirtual 306, 3) := by decide +kernel
theorem dL_law_2238 : decode cL_law 2238 = .ok (.istore 7, 2) := by decide +kernel
theorem dL_law_2240 : decode cL_law 2240 = .ok (.aload_n 2, 1) := by decide +kernel
theorem dL_law_2241 : decode cL_law 2241 = .ok (.invokevirtual 162, 3) := by decide +kernel
theorem dL_law_2244 : decode cL_law 2244 = .ok (.iload 6, 2) := by decide +kernel
theorem dL_law_2246 : decode cL_law 2246 = .ok (.if_icmp .eq 5, 3) := by decide +kernel
theorem dL_law_2249 : decode cL_law 2249 = .ok (.iconst 0, 1) := by decide +kernel
theorem dL_law_2250 : decode cL_law 2250 = .ok (.ireturn, 1) := by decide +kernel
theorem dL_law_2251 : decode cL_law 2251 = .ok (.iload 6, 2) := by decide +kernel
theorem dL_law_2253 : decode cL_law 2253 = .ok (.ifCond .ne 15, 3) := by decide +kernel
theorem dL_law_2256 : decode cL_law 2256 = .ok (.aload_n 3, 1) := by decide +kernel
theorem dL_law_2257 : decode cL_law 2257 = .ok (.iconst 0, 1) := by decide +kernel
theorem dL_law_2258 : decode cL_law 2258 = .ok (.laload, 1) := by decide +kernel
theorem dL_law_2259 : decode cL_law 2259 = .ok (.iload 7, 2) := by decide +kernel
theorem dL_law_2261 : decode cL_law 2261 = .ok (.i2l, 1) := by decide +kernel
theorem dL_law_2262 : decode cL_law 2262 = .ok (.lcmp, 1) := by decide +kernel
theorem dL_law_2263 : decode cL_law 2263 = .ok (.ifCond .eq 5, 3) := by decide +kernel
theorem dL_law_2266 : decode cL_law 2266 = .ok (.iconst 0, 1) := by decide +kernel
theorem dL_law_2267 : decode cL_law 2267 = .ok (.ireturn, 1) := by decide +kernel
theorem dL_law_2268 : decode cL_law 2268 = .ok (.goto 374, 3) := by decide +kernel
theorem dL_law_2271 : decode cL_law 2271 = .ok (.aload_n 1, 1) := by decide +kernel
theorem dL_law_2272 : decode cL_law 2272 = .ok (.aload_n 0, 1) := by decide +kernel
theorem dL_law_2273 : decode cL_law 2273 = .ok (.iload 5, 2) := by decide +kernel
theorem dL_law_2275 : decode cL_law 2275 = .ok (.iconst 1, 1) := by decide +kernel
theorem dL_law_2276 : decode cL_law 2276 = .ok (.iadd, 1) := by decide +kernel
theorem dL_law_2277 : decode cL_law 2277 = .ok (.iaload, 1) := by decide +kernel
theorem dL_law_2278 : decode cL_law 2278 = .ok (.aload_n 3, 1) := by decide +kernel
theorem dL_law_2279 : decode cL_law 2279 = .ok (.invokestatic 307, 3) := by decide +kernel
theorem dL_law_2282 : decode cL_law 2282 = .ok (.istore 6, 2) := by decide +kernel
theorem dL_law_2284 : decode cL_law 2284 = .ok (.aload_n 2, 1) := by decide +kernel
theorem dL_law_2285 : decode cL_law 2285 = .ok (.aload_n 0, 1) := by decide +kernel
theorem dL_law_2286 : decode cL_law 2286 = .ok (.iload 5, 2) := by decide +kernel
theorem dL_law_2288 : decode cL_law 2288 = .ok (.iconst 1, 1) := by decide +kernel
theorem dL_law_2289 : decode cL_law 2289 = .ok (.iadd, 1) := by decide +kernel
theorem dL_law_2290 : decode cL_law 2290 = .ok (.iaload, 1) := by decide +kernel
theorem dL_law_2291 : decode cL_law 2291 = .ok (.invokevirtual 309, 3) := by decide +kernel
theorem dL_law_2294 : decode cL_law 2294 = .ok (.istore 7, 2) := by decide +kernel
theorem dL_law_2296 : decode cL_law 2296 = .ok (.aload_n 2, 1) := by decide +kernel
theorem dL_law_2297 : decode cL_law 2297 = .ok (.invokevirtual 162, 3) := by decide +kernel
theorem dL_law_2300 : decode cL_law 2300 = .ok (.iload 6, 2) := by decide +kernel
theorem dL_law_2302 : decode cL_law 2302 = .ok (.if_icmp .eq 5, 3) := by decide +kernel
theorem dL_law_2305 : decode cL_law 2305 = .ok (.iconst 0, 1) := by decide +kernel
theorem dL_law_2306 : decode cL_law 2306 = .ok (.ireturn, 1) := by decide +kernel
theorem dL_law_2307 : decode cL_law 2307 = .ok (.iload 6, 2) := by decide +kernel
theorem dL_law_2309 : decode cL_law 2309 = .ok (.ifCond .ne 15, 3) := by decide +kernel
theorem dL_law_2312 : decode cL_law 2312 = .ok (.aload_n 3, 1) := by decide +kernel
theorem dL_law_2313 : decode cL_law 2313 = .ok (.iconst 0, 1) := by decide +kernel
theorem dL_law_2314 : decode cL_law 2314 = .ok (.laload, 1) := by decide +kernel
theorem dL_law_2315 : decode cL_law 2315 = .ok (.iload 7, 2) := by decide +kernel
theorem dL_law_2317 : decode cL_law 2317 = .ok (.i2l, 1) := by decide +kernel
theorem dL_law_2318 : decode cL_law 2318 = .ok (.lcmp, 1) := by decide +kernel
theorem dL_law_2319 : decode cL_law 2319 = .ok (.ifCond .eq 5, 3) := by decide +kernel
theorem dL_law_2322 : decode cL_law 2322 = .ok (.iconst 0, 1) := by decide +kernel
theorem dL_law_2323 : decode cL_law 2323 = .ok (.ireturn, 1) := by decide +kernel
theorem dL_law_2324 : decode cL_law 2324 = .ok (.goto 318, 3) := by decide +kernel
theorem dL_law_2327 : decode cL_law 2327 = .ok (.aload_n 1, 1) := by decide +kernel
theorem dL_law_2328 : decode cL_law 2328 = .ok (.invokevirtual 310, 3) := by decide +kernel
theorem dL_law_2331 : decode cL_law 2331 = .ok (.aload_n 2, 1) := by decide +kernel
theorem dL_law_2332 : decode cL_law 2332 = .ok (.invokevirtual 313, 3) := by decide +kernel
theorem dL_law_2335 : decode cL_law 2335 = .ok (.if_icmp .eq 307, 3) := by decide +kernel
theorem dL_law_2338 : decode cL_law 2338 = .ok (.iconst 0, 1) := by decide +kernel
theorem dL_law_2339 : decode cL_law 2339 = .ok (.ireturn, 1) := by decide +kernel
theorem dL_law_2340 : decode cL_law 2340 = .ok (.aload_n 1, 1) := by decide +kernel
theorem dL_law_2341 : decode cL_law 2341 = .ok (.aload_n 0, 1) := by decide +kernel
theorem dL_law_2342 : decode cL_law 2342 = .ok (.iload 5, 2) := by decide +kernel
theorem dL_law_2344 : decode cL_law 2344 = .ok (.iconst 1, 1) := by decide +kernel
theorem dL_law_2345 : decode cL_law 2345 = .ok (.iadd, 1) := by decide +kernel
theorem dL_law_2346 : decode cL_law 2346 = .ok (.iaload, 1) := by decide +kernel
theorem dL_law_2347 : decode cL_law 2347 = .ok (.aload_n 3, 1) := by decide +kernel
theorem dL_law_2348 : decode cL_law 2348 = .ok (.invokestatic 314, 3) := by decide +kernel
theorem dL_law_2351 : decode cL_law 2351 = .ok (.istore 6, 2) := by decide +kernel
theorem dL_law_2353 : decode cL_law 2353 = .ok (.aload_n 2, 1) := by decide +kernel
theorem dL_law_2354 : decode cL_law 2354 = .ok (.aload_n 0, 1) := by decide +kernel
theorem dL_law_2355 : decode cL_law 2355 = .ok (.iload 5, 2) := by decide +kernel
theorem dL_law_2357 : decode cL_law 2357 = .ok (.iconst 1, 1) := by decide +kernel
theorem dL_law_2358 : decode cL_law 2358 = .ok (.iadd, 1) := by decide +kernel
theorem dL_law_2359 : decode cL_law 2359 = .ok (.iaload, 1) := by decide +kernel
theorem dL_law_2360 : decode cL_law 2360 = .ok (.invokevirtual 316, 3) := by decide +kernel
theorem dL_law_2363 : decode cL_law 2363 = .ok (.istore 7, 2) := by decide +kernel
theorem dL_law_2365 : decode cL_law 2365 = .ok (.aload_n 2, 1) := by decide +kernel
theorem dL_law_2366 : decode cL_law 2366 = .ok (.invokevirtual 162, 3) := by decide +kernel
theorem dL_law_2369 : decode cL_law 2369 = .ok (.iload 6, 2) := by decide +kernel
theorem dL_law_2371 : decode cL_law 2371 = .ok (.if_icmp .eq 5, 3) := by decide +kernel
theorem dL_law_2374 : decode cL_law 2374 = .ok (.iconst 0, 1) := by decide +kernel
theorem dL_law_2375 : decode cL_law 2375 = .ok (.ireturn, 1) := by decide +kernel
theorem dL_law_2376 : decode cL_law 2376 = .ok (.iload 6, 2) := by decide +kernel
theorem dL_law_2378 : decode cL_law 2378 = .ok (.ifCond .ne 15, 3) := by decide +kernel
theorem dL_law_2381 : decode cL_law 2381 = .ok (.aload_n 3, 1) := by decide +kernel
theorem dL_law_2382 : decode cL_law 2382 = .ok (.iconst 0, 1) := by decide +kernel
theorem dL_law_2383 : decode cL_law 2383 = .ok (.laload, 1) := by decide +kernel
theorem dL_law_2384 : decode cL_law 2384 = .ok (.iload 7, 2) := by decide +kernel
theorem dL_law_2386 : decode cL_law 2386 = .ok (.i2l, 1) := by decide +kernel
theorem dL_law_2387 : decode cL_law 2387 = .ok (.lcmp, 1) := by decide +kernel
theorem dL_law_2388 : decode cL_law 2388 = .ok (.ifCond .eq 5, 3) := by decide +kernel
theorem dL_law_2391 : decode cL_law 2391 = .ok (.iconst 0, 1) := by decide +kernel
theorem dL_law_2392 : decode cL_law 2392 = .ok (.ireturn, 1) := by decide +kernel
theorem dL_law_2393 : decode cL_law 2393 = .ok (.goto 249, 3) := by decide +kernel
theorem dL_law_2396 : decode cL_law 2396 = .ok (.aload_n 1, 1) := by decide +kernel
theorem dL_law_2397 : decode cL_law 2397 = .ok (.aload_n 3, 1) := by decide +kernel
theorem dL_law_2398 : decode cL_law 2398 = .ok (.invokestatic 317, 3) := by decide +kernel
theorem dL_law_2401 : decode cL_law 2401 = .ok (.istore 6, 2) := by decide +kernel
theorem dL_law_2403 : decode cL_law 2403 = .ok (.aload_n 2, 1) := by decide +kernel
theorem dL_law_2404 : decode cL_law 2404 = .ok (.invokevirtual 319, 3) := by decide +kernel
theorem dL_law_2407 : decode cL_law 2407 = .ok (.istore 7, 2) := by decide +kernel
theorem dL_law_2409 : decode cL_law 2409 = .ok (.aload_n 2, 1) := by decide +kernel
theorem dL_law_2410 : decode cL_law 2410 = .ok (.invokevirtual 162, 3) := by decide +kernel
theorem dL_law_2413 : decode cL_law 2413 = .ok (.iload 6, 2) := by decide +kernel
theorem dL_law_2415 : decode cL_law 2415 = .ok (.if_icmp .eq 5, 3) := by decide +kernel
theorem dL_law_2418 : decode cL_law 2418 = .ok (.iconst 0, 1) := by decide +kernel
theorem dL_law_2419 : decode cL_law 2419 = .ok (.ireturn, 1) := by decide +kernel
theorem dL_law_2420 : decode cL_law 2420 = .ok (.iload 6, 2) := by decide +kernel
theorem dL_law_2422 : decode cL_law 2422 = .ok (.ifCond .ne 15, 3) := by decide +kernel
theorem dL_law_2425 : decode cL_law 2425 = .ok (.aload_n 3, 1) := by decide +kernel
theorem dL_law_2426 : decode cL_law 2426 = .ok (.iconst 0, 1) := by decide +kernel
theorem dL_law_2427 : decode cL_law 2427 = .ok (.laload, 1) := by decide +kernel
theorem dL_law_2428 : decode cL_law 2428 = .ok (.iload 7, 2) := by decide +kernel
theorem dL_law_2430 : decode cL_law 2430 = .ok (.i2l, 1) := by decide +kernel
theorem dL_law_2431 : decode cL_law 2431 = .ok (.lcmp, 1) := by decide +kernel
theorem dL_law_2432 : decode cL_law 2432 = .ok (.ifCond .eq 5, 3) := by decide +kernel
theorem dL_law_2435 : decode cL_law 2435 = .ok (.iconst 0, 1) := by decide +kernel
theorem dL_law_2436 : decode cL_law 2436 = .ok (.ireturn, 1) := by decide +kernel
theorem dL_law_2437 : decode cL_law 2437 = .ok (.goto 205, 3) := by decide +kernel
theorem dL_law_2440 : decode cL_law 2440 = .ok (.aload_n 1, 1) := by decide +kernel
theorem dL_law_2441 : decode cL_law 2441 = .ok (.aload_n 3, 1) := by decide +kernel
theorem dL_law_2442 : decode cL_law 2442 = .ok (.invokestatic 320, 3) := by decide +kernel
theorem dL_law_2445 : decode cL_law 2445 = .ok (.istore 6, 2) := by decide +kernel
theorem dL_law_2447 : decode cL_law 2447 = .ok (.aload_n 2, 1) := by decide +kernel
theorem dL_law_2448 : decode cL_law 2448 = .ok (.invokevirtual 322, 3) := by decide +kernel
theorem dL_law_2451 : decode cL_law 2451 = .ok (.istore 7, 2) := by decide +kernel
theorem dL_law_2453 : decode cL_law 2453 = .ok (.aload_n 2, 1) := by decide +kernel
theorem dL_law_2454 : decode cL_law 2454 = .ok (.invokevirtual 162, 3) := by decide +kernel
theorem dL_law_2457 : decode cL_law 2457 = .ok (.iload 6, 2) := by decide +kernel
theorem dL_law_2459 : decode cL_law 2459 = .ok (.if_icmp .eq 5, 3) := by decide +kernel
theorem dL_law_2462 : decode cL_law 2462 = .ok (.iconst 0, 1) := by decide +kernel
theorem dL_law_2463 : decode cL_law 2463 = .ok (.ireturn, 1) := by decide +kernel
theorem dL_law_2464 : decode cL_law 2464 = .ok (.iload 6, 2) := by decide +kernel
theorem dL_law_2466 : decode cL_law 2466 = .ok (.ifCond .ne 15, 3) := by decide +kernel
theorem dL_law_2469 : decode cL_law 2469 = .ok (.aload_n 3, 1) := by decide +kernel
theorem dL_law_2470 : decode cL_law 2470 = .ok (.iconst 0, 1) := by decide +kernel
theorem dL_law_2471 : decode cL_law 2471 = .ok (.laload, 1) := by decide +kernel
theorem dL_law_2472 : decode cL_law 2472 = .ok (.iload 7, 2) := by decide +kernel
theorem dL_law_2474 : decode cL_law 2474 = .ok (.i2l, 1) := by decide +kernel
theorem dL_law_2475 : decode cL_law 2475 = .ok (.lcmp, 1) := by decide +kernel
theorem dL_law_2476 : decode cL_law 2476 = .ok (.ifCond .eq 5, 3) := by decide +kernel
theorem dL_law_2479 : decode cL_law 2479 = .ok (.iconst 0, 1) := by decide +kernel
theorem dL_law_2480 : decode cL_law 2480 = .ok (.ireturn, 1) := by decide +kernel
theorem dL_law_2481 : decode cL_law 2481 = .ok (.goto 161, 3) := by decide +kernel
theorem dL_law_2484 : decode cL_law 2484 = .ok (.aload_n 1, 1) := by decide +kernel
theorem dL_law_2485 : decode cL_law 2485 = .ok (.aload_n 3, 1) := by decide +kernel
theorem dL_law_2486 : decode cL_law 2486 = .ok (.invokestatic 323, 3) := by decide +kernel
theorem dL_law_2489 : decode cL_law 2489 = .ok (.istore 6, 2) := by decide +kernel
theorem dL_law_2491 : decode cL_law 2491 = .ok (.aload_n 2, 1) := by decide +kernel
theorem dL_law_2492 : decode cL_law 2492 = .ok (.invokevirtual 325, 3) := by decide +kernel
theorem dL_law_2495 : decode cL_law 2495 = .ok (.istore 7, 2) := by decide +kernel
theorem dL_law_2497 : decode cL_law 2497 = .ok (.aload_n 2, 1) := by decide +kernel
theorem dL_law_2498 : decode cL_law 2498 = .ok (.invokevirtual 162, 3) := by decide +kernel
theorem dL_law_2501 : decode cL_law 2501 = .ok (.iload 6, 2) := by decide +kernel
theorem dL_law_2503 : decode cL_law 2503 = .ok (.if_icmp .eq 5, 3) := by decide +kernel
theorem dL_law_2506 : decode cL_law 2506 = .ok (.iconst 0, 1) := by decide +kernel
theorem dL_law_2507 : decode cL_law 2507 = .ok (.ireturn, 1) := by decide +kernel
theorem dL_law_2508 : decode cL_law 2508 = .ok (.iload 6, 2) := by decide +kernel
theorem dL_law_2510 : decode cL_law 2510 = .ok (.ifCond .ne 15, 3) := by decide +kernel
theorem dL_law_2513 : decode cL_law 2513 = .ok (.aload_n 3, 1) := by decide +kernel
theorem dL_law_2514 : decode cL_law 2514 = .ok (.iconst 0, 1) := by decide +kernel
theorem dL_law_2515 : decode cL_law 2515 = .ok (.laload, 1) := by decide +kernel
theorem dL_law_2516 : decode cL_law 2516 = .ok (.iload 7, 2) := by decide +kernel
theorem dL_law_2518 : decode cL_law 2518 = .ok (.i2l, 1) := by decide +kernel
theorem dL_law_2519 : decode cL_law 2519 = .ok (.lcmp, 1) := by decide +kernel
theorem dL_law_2520 : decode cL_law 2520 = .ok (.ifCond .eq 5, 3) := by decide +kernel
theorem dL_law_2523 : decode cL_law 2523 = .ok (.iconst 0, 1) := by decide +kernel
theorem dL_law_2524 : decode cL_law 2524 = .ok (.ireturn, 1) := by decide +kernel
theorem dL_law_2525 : decode cL_law 2525 = .ok (.goto 117, 3) := by decide +kernel
theorem dL_law_2528 : decode cL_law 2528 = .ok (.aload_n 1, 1) := by decide +kernel
theorem dL_law_2529 : decode cL_law 2529 = .ok (.aload_n 3, 1) := by decide +kernel
theorem dL_law_2530 : decode cL_law 2530 = .ok (.invokestatic 326, 3) := by decide +kernel
theorem dL_law_2533 : decode cL_law 2533 = .ok (.istore 6, 2) := by decide +kernel
theorem dL_law_2535 : decode cL_law 2535 = .ok (.aload_n 2, 1) := by decide +kernel
theorem dL_law_2536 : decode cL_law 2536 = .ok (.invokevirtual 328, 3) := by decide +kernel
theorem dL_law_2539 : decode cL_law 2539 = .ok (.istore 7, 2) := by decide +kernel
theorem dL_law_2541 : decode cL_law 2541 = .ok (.aload_n 2, 1) := by decide +kernel
theorem dL_law_2542 : decode cL_law 2542 = .ok (.invokevirtual 162, 3) := by decide +kernel
theorem dL_law_2545 : decode cL_law 2545 = .ok (.iload 6, 2) := by decide +kernel
theorem dL_law_2547 : decode cL_law 2547 = .ok (.if_icmp .eq 5, 3) := by decide +kernel
theorem dL_law_2550 : decode cL_law 2550 = .ok (.iconst 0, 1) := by decide +kernel
theorem dL_law_2551 : decode cL_law 2551 = .ok (.ireturn, 1) := by decide +kernel
theorem dL_law_2552 : decode cL_law 2552 = .ok (.iload 6, 2) := by decide +kernel
theorem dL_law_2554 : decode cL_law 2554 = .ok (.ifCond .ne 15, 3) := by decide +kernel
theorem dL_law_2557 : decode cL_law 2557 = .ok (.aload_n 3, 1) := by decide +kernel
theorem dL_law_2558 : decode cL_law 2558 = .ok (.iconst 0, 1) := by decide +kernel
theorem dL_law_2559 : decode cL_law 2559 = .ok (.laload, 1) := by decide +kernel
theorem dL_law_2560 : decode cL_law 2560 = .ok (.iload 7, 2) := by decide +kernel
theorem dL_law_2562 : decode cL_law 2562 = .ok (.i2l, 1) := by decide +kernel
theorem dL_law_2563 : decode cL_law 2563 = .ok (.lcmp, 1) := by decide +kernel
theorem dL_law_2564 : decode cL_law 2564 = .ok (.ifCond .eq 5, 3) := by decide +kernel
theorem dL_law_2567 : decode cL_law 2567 = .ok (.iconst 0, 1) := by decide +kernel
theorem dL_law_2568 : decode cL_law 2568 = .ok (.ireturn, 1) := by decide +kernel
theorem dL_law_2569 : decode cL_law 2569 = .ok (.goto 73, 3) := by decide +kernel
theorem dL_law_2572 : decode cL_law 2572 = .ok (.aload_n 1, 1) := by decide +kernel
theorem dL_law_2573 : decode cL_law 2573 = .ok (.invokevirtual 329, 3) := by decide +kernel
theorem dL_law_2576 : decode cL_law 2576 = .ok (.aload_n 2, 1) := by decide +kernel
theorem dL_law_2577 : decode cL_law 2577 = .ok (.invokevirtual 332, 3) := by decide +kernel
theorem dL_law_2580 : decode cL_law 2580 = .ok (.if_icmp .eq 62, 3) := by decide +kernel
theorem dL_law_2583 : decode cL_law 2583 = .ok (.iconst 0, 1) := by decide +kernel
theorem dL_law_2584 : decode cL_law 2584 = .ok (.ireturn, 1) := by decide +kernel
theorem dL_law_2585 : decode cL_law 2585 = .ok (.aload_n 1, 1) := by decide +kernel
theorem dL_law_2586 : decode cL_law 2586 = .ok (.invokevirtual 333, 3) := by decide +kernel
theorem dL_law_2589 : decode cL_law 2589 = .ok (.aload_n 2, 1) := by decide +kernel
theorem dL_law_2590 : decode cL_law 2590 = .ok (.invokevirtual 336, 3) := by decide +kernel
theorem dL_law_2593 : decode cL_law 2593 = .ok (.if_icmp .eq 49, 3) := by decide +kernel
theorem dL_law_2596 : decode cL_law 2596 = .ok (.iconst 0, 1) := by decide +kernel
theorem dL_law_2597 : decode cL_law 2597 = .ok (.ireturn, 1) := by decide +kernel
theorem dL_law_2598 : decode cL_law 2598 = .ok (.aload_n 1, 1) := by decide +kernel
theorem dL_law_2599 : decode cL_law 2599 = .ok (.aload_n 3, 1) := by decide +kernel
theorem dL_law_2600 : decode cL_law 2600 = .ok (.invokestatic 337, 3) := by decide +kernel
theorem dL_law_2603 : decode cL_law 2603 = .ok (.istore 6, 2) := by decide +kernel
theorem dL_law_2605 : decode cL_law 2605 = .ok (.aload_n 2, 1) := by decide +kernel
theorem dL_law_2606 : decode cL_law 2606 = .ok (.invokevirtual 339, 3) := by decide +kernel
theorem dL_law_2609 : decode cL_law 2609 = .ok (.istore 7, 2) := by decide +kernel
theorem dL_law_2611 : decode cL_law 2611 = .ok (.aload_n 2, 1) := by decide +kernel
theorem dL_law_2612 : decode cL_law 2612 = .ok (.invokevirtual 162, 3) := by decide +kernel
theorem dL_law_2615 : decode cL_law 2615 = .ok (.iload 6, 2) := by decide +kernel
theorem dL_law_2617 : decode cL_law 2617 = .ok (.if_icmp .eq 5, 3) := by decide +kernel
theorem dL_law_2620 : decode cL_law 2620 = .ok (.iconst 0, 1) := by decide +kernel
theorem dL_law_2621 : decode cL_law 2621 = .ok (.ireturn, 1) := by decide +kernel
theorem dL_law_2622 : decode cL_law 2622 = .ok (.iload 6, 2) := by decide +kernel
theorem dL_law_2624 : decode cL_law 2624 = .ok (.ifCond .ne 15, 3) := by decide +kernel
theorem dL_law_2627 : decode cL_law 2627 = .ok (.aload_n 3, 1) := by decide +kernel
theorem dL_law_2628 : decode cL_law 2628 = .ok (.iconst 0, 1) := by decide +kernel
theorem dL_law_2629 : decode cL_law 2629 = .ok (.laload, 1) := by decide +kernel
theorem dL_law_2630 : decode cL_law 2630 = .ok (.iload 7, 2) := by decide +kernel
theorem dL_law_2632 : decode cL_law 2632 = .ok (.i2l, 1) := by decide +kernel
theorem dL_law_2633 : decode cL_law 2633 = .ok (.lcmp, 1) := by decide +kernel
theorem dL_law_2634 : decode cL_law 2634 = .ok (.ifCond .eq 5, 3) := by decide +kernel
theorem dL_law_2637 : decode cL_law 2637 = .ok (.iconst 0, 1) := by decide +kernel
theorem dL_law_2638 : decode cL_law 2638 = .ok (.ireturn, 1) := by decide +kernel
theorem dL_law_2639 : decode cL_law 2639 = .ok (.goto 3, 3) := by decide +kernel
theorem dL_law_2642 : decode cL_law 2642 = .ok (.iinc 5 4, 3) := by decide +kernel
theorem dL_law_2645 : decode cL_law 2645 = .ok (.goto (-2617), 3) := by decide +kernel
theorem dL_law_2648 : decode cL_law 2648 = .ok (.iconst 1, 1) := by decide +kernel
theorem dL_law_2649 : decode cL_law 2649 = .ok (.ireturn, 1) := by decide +kernel
def f_L_c272 (g : GC) (K : Int32 → XW → Option (Int32 × XW)) (z5 : Int32) (w : XW) : Option (Int32 × XW) := (bI (f_L_addSection w) (fun r1 w1 => (bI (f_X11_addSection w1) (fun r2 w2 => (bI (f_X11_thrown w2) (fun r3 w3 => (if r3 = r1 then (if r1 = 0 then (if (lg_cmp w3.2.1 (Int32.toInt64 r2)) = 0 then (K (z5 + 4) w3) else (some (0, w3))) else (K (z5 + 4) w3)) else (some (0, w3)))))))))
set_option maxRecDepth 100000 in
theorem S_L_c272 {g : GC} (hl : g.1.stackTraces = false) {K : Int32 → XW → Option (Int32 × XW)} {B Bs : Nat} (hB : B ≤ 603072) (hBs : Bs ≤ 7178346) (hK : ∀ (z5 : Int32) (w : XW), VE g cL_law 9 RL (some .boolean) [] room_1 603072 7178346 oI B Bs 28 [(0, .ref g.2.2.2.2.2.2.1), (1, .ref (g.2.1 + 0)), (2, .ref (g.2.1 + 141)), (3, .ref (g.2.1 + 150)), (4, .ref (g.2.1 + 151)), (5, .int z5)] [] w (K z5 w)) (z5 : Int32) (w : XW) (kc ks : Nat) (h1 : kc + 4 ≤ B) (h2 : ks + 24 ≤ Bs) : VE g cL_law 9 RL (some .boolean) [] room_1 603072 7178346 oI kc ks 272 [(0, .ref g.2.2.2.2.2.2.1), (1, .ref (g.2.1 + 0)), (2, .ref (g.2.1 + 141)), (3, .ref (g.2.1 + 150)), (4, .ref (g.2.1 + 151)), (5, .int z5)] [] w (f_L_c272 g K z5 w) := by
  unfold f_L_c272
  refine v_aload_n dL_law_272 rfl 1 rfl ?_
  refine v_aload_n dL_law_273 rfl 3 rfl ?_
  refine v_callSh (As := [.ref (g.2.1 + 0), .ref (g.2.1 + 150)]) ch_L_156 (S_L_addSection hl) rfl rfl (Nat.le_of_ble_eq_true rfl) dL_law_274 (CR_law (by decide) (by decide) (by omega) (by omega)) (fun r1 w1 => ?_)
  refine v_istore dL_law_277 (Nat.le_of_ble_eq_true rfl) rfl ?_
  refine v_aload_n dL_law_279 rfl 3 rfl ?_
  refine v_callVi (As := []) cv_L_161 (S_X11_addSection hl) tt_141 rfl rfl rfl (Nat.le_of_ble_eq_true rfl) dL_law_280 (CR_law (by decide) (by decide) (by omega) (by omega)) (fun r2 w2 => ?_)
  refine v_istore dL_law_283 (Nat.le_of_ble_eq_true rfl) rfl ?_
  refine v_aload_n dL_law_285 rfl 4 rfl ?_
  refine v_callVi (As := []) cv_L_162 (S_X11_thrown hl) tt_141 rfl rfl rfl (Nat.le_of_ble_eq_true rfl) dL_law_286 (CR_law (by decide) (by decide) (by omega) (by omega)) (fun r3 w3 => ?_)
  refine v_iload dL_law_289 1 rfl ?_
  refine v_icmp_eq (tgt := 296) dL_law_291 (by decide) ?_ ?_
  · refine v_iload dL_law_296 1 rfl ?_
    refine v_if_ne (tgt := 313) dL_law_298 (by decide) ?_ ?_
    · refine v_goto (tgt := 2642) dL_law_313 (by decide) ?_
      refine v_iinc (v := (z5 + 4)) dL_law_2642 (q := 7) rfl rfl (Nat.le_of_ble_eq_true rfl) rfl ?_
      refine v_goto (tgt := 28) dL_law_2645 (by decide) ?_
      refine v_sub [3, 4, 5, 6, 7, 0] rfl ?_
      refine v_widen B Bs (by omega) (by omega) ?_
      exact hK _ _
    · refine v_aload_n dL_law_301 rfl 5 rfl ?_
      refine v_iconst (v := 0) dL_law_302 (by decide) ?_
      refine v_lald0 dL_law_303 ?_
      refine v_iload dL_law_304 0 rfl ?_
      refine v_i2l dL_law_306 ?_
      refine v_lcmp dL_law_307 ?_
      refine v_if_eq (tgt := 313) dL_law_308 (by decide) ?_ ?_
      · refine v_goto (tgt := 2642) dL_law_313 (by decide) ?_
        refine v_iinc (v := (z5 + 4)) dL_law_2642 (q := 7) rfl rfl (Nat.le_of_ble_eq_true rfl) rfl ?_
        refine v_goto (tgt := 28) dL_law_2645 (by decide) ?_
        refine v_sub [3, 4, 5, 6, 7, 0] rfl ?_
        refine v_widen B Bs (by omega) (by omega) ?_
        exact hK _ _
      · refine v_iconst (v := 0) dL_law_311 (by decide) ?_
        exact v_zret dL_law_312 rfl rfl rfl (by omega) (by omega)
  · refine v_iconst (v := 0) dL_law_294 (by decide) ?_
    exact v_zret dL_law_295 rfl rfl rfl (by omega) (by omega)
def f_L_c316 (g : GC) (K : Int32 → XW → Option (Int32 × XW)) (z5 : Int32) (w : XW) : Option (Int32 × XW) := (if inB (z5 + 1) g.2.2.2.2.2.2.2.1 then (if inB (z5 + 2) g.2.2.2.2.2.2.2.1 then (bI (f_L_pour (g.2.2.2.2.2.2.2.2 (Int32.toNatClampNeg (z5 + 1))) (g.2.2.2.2.2.2.2.2 (Int32.toNatClampNeg (z5 + 2))) w) (fun r3 w3 => (if inB (z5 + 1) g.2.2.2.2.2.2.2.1 then (if inB (z5 + 2) g.2.2.2.2.2.2.2.1 then (bI (f_X11_pour (g.2.2.2.2.2.2.2.2 (Int32.toNatClampNeg (z5 + 1))) (g.2.2.2.2.2.2.2.2 (Int32.toNatClampNeg (z5 + 2))) w3) (fun r6 w6 => (bI (f_X11_thrown w6) (fun r7 w7 => (if r7 = r3 then (if r3 = 0 then (if (lg_cmp w7.2.1 (Int32.toInt64 r6)) = 0 then (K (z5 + 4) w7) else (some (0, w7))) else (K (z5 + 4) w7)) else (some (0, w7))))))) else none) else none))) else none) else none)
set_option maxRecDepth 100000 in
theorem S_L_c316 {g : GC} (hl : g.1.stackTraces = false) {K : Int32 → XW → Option (Int32 × XW)} {B Bs : Nat} (hB : B ≤ 603072) (hBs : Bs ≤ 7178346) (hK : ∀ (z5 : Int32) (w : XW), VE g cL_law 9 RL (some .boolean) [] room_1 603072 7178346 oI B Bs 28 [(0, .ref g.2.2.2.2.2.2.1), (1, .ref (g.2.1 + 0)), (2, .ref (g.2.1 + 141)), (3, .ref (g.2.1 + 150)), (4, .ref (g.2.1 + 151)), (5, .int z5)] [] w (K z5 w)) (z5 : Int32) (w : XW) (kc ks : Nat) (h1 : kc + 4 ≤ B) (h2 : ks + 24 ≤ Bs) : VE g cL_law 9 RL (some .boolean) [] room_1 603072 7178346 oI kc ks 316 [(0, .ref g.2.2.2.2.2.2.1), (1, .ref (g.2.1 + 0)), (2, .ref (g.2.1 + 141)), (3, .ref (g.2.1 + 150)), (4, .ref (g.2.1 + 151)), (5, .int z5)] [] w (f_L_c316 g K z5 w) := by
  unfold f_L_c316
  refine v_aload_n dL_law_316 rfl 1 rfl ?_
  refine v_aload_n dL_law_317 rfl 0 rfl ?_
  refine v_iload dL_law_318 5 rfl ?_
  refine v_iconst (v := 1) dL_law_320 (by decide) ?_
  refine v_iadd dL_law_321 ?_
  refine v_guard (fun h1 => ?_)
  refine v_sld h1 dL_law_322 ?_
  refine v_aload_n dL_law_323 rfl 0 rfl ?_
  refine v_iload dL_law_324 5 rfl ?_
  refine v_iconst (v := 2) dL_law_326 (by decide) ?_
  refine v_iadd dL_law_327 ?_
  refine v_guard (fun h2 => ?_)
  refine v_sld h2 dL_law_328 ?_
  refine v_aload_n dL_law_329 rfl 3 rfl ?_
  refine v_callSh (As := [.ref (g.2.1 + 0), .int (g.2.2.2.2.2.2.2.2 (Int32.toNatClampNeg (z5 + 1))), .int (g.2.2.2.2.2.2.2.2 (Int32.toNatClampNeg (z5 + 2))), .ref (g.2.1 + 150)]) ch_L_165 (S_L_pour hl) rfl rfl (Nat.le_of_ble_eq_true rfl) dL_law_330 (CR_law (by decide) (by decide) (by omega) (by omega)) (fun r3 w3 => ?_)
  refine v_istore dL_law_333 (Nat.le_of_ble_eq_true rfl) rfl ?_
  refine v_aload_n dL_law_335 rfl 3 rfl ?_
  refine v_aload_n dL_law_336 rfl 1 rfl ?_
  refine v_iload dL_law_337 6 rfl ?_
  refine v_iconst (v := 1) dL_law_339 (by decide) ?_
  refine v_iadd dL_law_340 ?_
  refine v_guard (fun h4 => ?_)
  refine v_sld h4 dL_law_341 ?_
  refine v_aload_n dL_law_342 rfl 1 rfl ?_
  refine v_iload dL_law_343 6 rfl ?_
  refine v_iconst (v := 2) dL_law_345 (by decide) ?_
  refine v_iadd dL_law_346 ?_
  refine v_guard (fun h5 => ?_)
  refine v_sld h5 dL_law_347 ?_
  refine v_callVi (As := [.int (g.2.2.2.2.2.2.2.2 (Int32.toNatClampNeg (z5 + 1))), .int (g.2.2.2.2.2.2.2.2 (Int32.toNatClampNeg (z5 + 2)))]) cv_L_168 (S_X11_pour hl) tt_141 rfl rfl rfl (Nat.le_of_ble_eq_true rfl) dL_law_348 (CR_law (by decide) (by decide) (by omega) (by omega)) (fun r6 w6 => ?_)
  refine v_istore dL_law_351 (Nat.le_of_ble_eq_true rfl) rfl ?_
  refine v_aload_n dL_law_353 rfl 4 rfl ?_
  refine v_callVi (As := []) cv_L_162 (S_X11_thrown hl) tt_141 rfl rfl rfl (Nat.le_of_ble_eq_true rfl) dL_law_354 (CR_law (by decide) (by decide) (by omega) (by omega)) (fun r7 w7 => ?_)
  refine v_iload dL_law_357 1 rfl ?_
  refine v_icmp_eq (tgt := 364) dL_law_359 (by decide) ?_ ?_
  · refine v_iload dL_law_364 1 rfl ?_
    refine v_if_ne (tgt := 381) dL_law_366 (by decide) ?_ ?_
    · refine v_goto (tgt := 2642) dL_law_381 (by decide) ?_
      refine v_iinc (v := (z5 + 4)) dL_law_2642 (q := 7) rfl rfl (Nat.le_of_ble_eq_true rfl) rfl ?_
      refine v_goto (tgt := 28) dL_law_2645 (by decide) ?_
      refine v_sub [3, 4, 5, 6, 7, 0] rfl ?_
      refine v_widen B Bs (by omega) (by omega) ?_
      exact hK _ _
    · refine v_aload_n dL_law_369 rfl 5 rfl ?_
      refine v_iconst (v := 0) dL_law_370 (by decide) ?_
      refine v_lald0 dL_law_371 ?_
      refine v_iload dL_law_372 0 rfl ?_
      refine v_i2l dL_law_374 ?_
      refine v_lcmp dL_law_375 ?_
      refine v_if_eq (tgt := 381) dL_law_376 (by decide) ?_ ?_
      · refine v_goto (tgt := 2642) dL_law_381 (by decide) ?_
        refine v_iinc (v := (z5 + 4)) dL_law_2642 (q := 7) rfl rfl (Nat.le_of_ble_eq_true rfl) rfl ?_
        refine v_goto (tgt := 28) dL_law_2645 (by decide) ?_
        refine v_sub [3, 4, 5, 6, 7, 0] rfl ?_
        refine v_widen B Bs (by omega) (by omega) ?_
        exact hK _ _
      · refine v_iconst (v := 0) dL_law_379 (by decide) ?_
        exact v_zret dL_law_380 rfl rfl rfl (by omega) (by omega)
  · refine v_iconst (v := 0) dL_law_362 (by decide) ?_
    exact v_zret dL_law_363 rfl rfl rfl (by omega) (by omega)
def f_L_c384 (g : GC) (K : Int32 → XW → Option (Int32 × XW)) (z5 : Int32) (w : XW) : Option (Int32 × XW) := (if inB (z5 + 1) g.2.2.2.2.2.2.2.1 then (if inB (z5 + 2) g.2.2.2.2.2.2.2.1 then (bI (f_L_tag (g.2.2.2.2.2.2.2.2 (Int32.toNatClampNeg (z5 + 1))) (((Int32.toUInt32 (g.2.2.2.2.2.2.2.2 (Int32.toNatClampNeg (z5 + 2)))) % 65536).toInt32) w) (fun r3 w3 => (if inB (z5 + 1) g.2.2.2.2.2.2.2.1 then (if inB (z5 + 2) g.2.2.2.2.2.2.2.1 then (bI (f_X11_tag (g.2.2.2.2.2.2.2.2 (Int32.toNatClampNeg (z5 + 1))) (((Int32.toUInt32 (g.2.2.2.2.2.2.2.2 (Int32.toNatClampNeg (z5 + 2)))) % 65536).toInt32) w3) (fun r6 w6 => (bI (f_X11_thrown w6) (fun r7 w7 => (if r7 = r3 then (if r3 = 0 then (if (lg_cmp w7.2.1 (Int32.toInt64 r6)) = 0 then (K (z5 + 4) w7) else (some (0, w7))) else (K (z5 + 4) w7)) else (some (0, w7))))))) else none) else none))) else none) else none)
set_option maxRecDepth 100000 in
theorem S_L_c384 {g : GC} (hl : g.1.stackTraces = false) {K : Int32 → XW → Option (Int32 × XW)} {B Bs : Nat} (hB : B ≤ 603072) (hBs : Bs ≤ 7178346) (hK : ∀ (z5 : Int32) (w : XW), VE g cL_law 9 RL (some .boolean) [] room_1 603072 7178346 oI B Bs 28 [(0, .ref g.2.2.2.2.2.2.1), (1, .ref (g.2.1 + 0)), (2, .ref (g.2.1 + 141)), (3, .ref (g.2.1 + 150)), (4, .ref (g.2.1 + 151)), (5, .int z5)] [] w (K z5 w)) (z5 : Int32) (w : XW) (kc ks : Nat) (h1 : kc + 4 ≤ B) (h2 : ks + 24 ≤ Bs) : VE g cL_law 9 RL (some .boolean) [] room_1 603072 7178346 oI kc ks 384 [(0, .ref g.2.2.2.2.2.2.1), (1, .ref (g.2.1 + 0)), (2, .ref (g.2.1 + 141)), (3, .ref (g.2.1 + 150)), (4, .ref (g.2.1 + 151)), (5, .int z5)] [] w (f_L_c384 g K z5 w) := by
  unfold f_L_c384
  refine v_aload_n dL_law_384 rfl 1 rfl ?_
  refine v_aload_n dL_law_385 rfl 0 rfl ?_
  refine v_iload dL_law_386 5 rfl ?_
  refine v_iconst (v := 1) dL_law_388 (by decide) ?_
  refine v_iadd dL_law_389 ?_
  refine v_guard (fun h1 => ?_)
  refine v_sld h1 dL_law_390 ?_
  refine v_aload_n dL_law_391 rfl 0 rfl ?_
  refine v_iload dL_law_392 5 rfl ?_
  refine v_iconst (v := 2) dL_law_394 (by decide) ?_
  refine v_iadd dL_law_395 ?_
  refine v_guard (fun h2 => ?_)
  refine v_sld h2 dL_law_396 ?_
  refine v_i2c dL_law_397 ?_
  refine v_aload_n dL_law_398 rfl 3 rfl ?_
  refine v_callSh (As := [.ref (g.2.1 + 0), .int (g.2.2.2.2.2.2.2.2 (Int32.toNatClampNeg (z5 + 1))), .int (((Int32.toUInt32 (g.2.2.2.2.2.2.2.2 (Int32.toNatClampNeg (z5 + 2)))) % 65536).toInt32), .ref (g.2.1 + 150)]) ch_L_169 (S_L_tag hl) rfl rfl (Nat.le_of_ble_eq_true rfl) dL_law_399 (CR_law (by decide) (by decide) (by omega) (by omega)) (fun r3 w3 => ?_)
  refine v_istore dL_law_402 (Nat.le_of_ble_eq_true rfl) rfl ?_
  refine v_aload_n dL_law_404 rfl 3 rfl ?_
  refine v_aload_n dL_law_405 rfl 1 rfl ?_
  refine v_iload dL_law_406 6 rfl ?_
  refine v_iconst (v := 1) dL_law_408 (by decide) ?_
  refine v_iadd dL_law_409 ?_
  refine v_guard (fun h4 => ?_)
  refine v_sld h4 dL_law_410 ?_
  refine v_aload_n dL_law_411 rfl 1 rfl ?_
  refine v_iload dL_law_412 6 rfl ?_
  refine v_iconst (v := 2) dL_law_414 (by decide) ?_
  refine v_iadd dL_law_415 ?_
  refine v_guard (fun h5 => ?_)
  refine v_sld h5 dL_law_416 ?_
  refine v_i2c dL_law_417 ?_
  refine v_callVi (As := [.int (g.2.2.2.2.2.2.2.2 (Int32.toNatClampNeg (z5 + 1))), .int (((Int32.toUInt32 (g.2.2.2.2.2.2.2.2 (Int32.toNatClampNeg (z5 + 2)))) % 65536).toInt32)]) cv_L_172 (S_X11_tag hl) tt_141 rfl rfl rfl (Nat.le_of_ble_eq_true rfl) dL_law_418 (CR_law (by decide) (by decide) (by omega) (by omega)) (fun r6 w6 => ?_)
  refine v_istore dL_law_421 (Nat.le_of_ble_eq_true rfl) rfl ?_
  refine v_aload_n dL_law_423 rfl 4 rfl ?_
  refine v_callVi (As := []) cv_L_162 (S_X11_thrown hl) tt_141 rfl rfl rfl (Nat.le_of_ble_eq_true rfl) dL_law_424 (CR_law (by decide) (by decide) (by omega) (by omega)) (fun r7 w7 => ?_)
  refine v_iload dL_law_427 1 rfl ?_
  refine v_icmp_eq (tgt := 434) dL_law_429 (by decide) ?_ ?_
  · refine v_iload dL_law_434 1 rfl ?_
    refine v_if_ne (tgt := 451) dL_law_436 (by decide) ?_ ?_
    · refine v_goto (tgt := 2642) dL_law_451 (by decide) ?_
      refine v_iinc (v := (z5 + 4)) dL_law_2642 (q := 7) rfl rfl (Nat.le_of_ble_eq_true rfl) rfl ?_
      refine v_goto (tgt := 28) dL_law_2645 (by decide) ?_
      refine v_sub [3, 4, 5, 6, 7, 0] rfl ?_
      refine v_widen B Bs (by omega) (by omega) ?_
      exact hK _ _
    · refine v_aload_n dL_law_439 rfl 5 rfl ?_
      refine v_iconst (v := 0) dL_law_440 (by decide) ?_
      refine v_lald0 dL_law_441 ?_
      refine v_iload dL_law_442 0 rfl ?_
      refine v_i2l dL_law_444 ?_
      refine v_lcmp dL_law_445 ?_
      refine v_if_eq (tgt := 451) dL_law_446 (by decide) ?_ ?_
      · refine v_goto (tgt := 2642) dL_law_451 (by decide) ?_
        refine v_iinc (v := (z5 + 4)) dL_law_2642 (q := 7) rfl rfl (Nat.le_of_ble_eq_true rfl) rfl ?_
        refine v_goto (tgt := 28) dL_law_2645 (by decide) ?_
        refine v_sub [3, 4, 5, 6, 7, 0] rfl ?_
        refine v_widen B Bs (by omega) (by omega) ?_
        exact hK _ _
      · refine v_iconst (v := 0) dL_law_449 (by decide) ?_
        exact v_zret dL_law_450 rfl rfl rfl (by omega) (by omega)
  · refine v_iconst (v := 0) dL_law_432 (by decide) ?_
    exact v_zret dL_law_433 rfl rfl rfl (by omega) (by omega)
def f_L_c454 (g : GC) (K : Int32 → XW → Option (Int32 × XW)) (z5 : Int32) (w : XW) : Option (Int32 × XW) := (if inB (z5 + 1) g.2.2.2.2.2.2.2.1 then (if inB (z5 + 2) g.2.2.2.2.2.2.2.1 then (bI (f_L_untag (g.2.2.2.2.2.2.2.2 (Int32.toNatClampNeg (z5 + 1))) (((Int32.toUInt32 (g.2.2.2.2.2.2.2.2 (Int32.toNatClampNeg (z5 + 2)))) % 65536).toInt32) w) (fun r3 w3 => (if inB (z5 + 1) g.2.2.2.2.2.2.2.1 then (if inB (z5 + 2) g.2.2.2.2.2.2.2.1 then (bI (f_X11_untag (g.2.2.2.2.2.2.2.2 (Int32.toNatClampNeg (z5 + 1))) (((Int32.toUInt32 (g.2.2.2.2.2.2.2.2 (Int32.toNatClampNeg (z5 + 2)))) % 65536).toInt32) w3) (fun r6 w6 => (bI (f_X11_thrown w6) (fun r7 w7 => (if r7 = r3 then (if r3 = 0 then (if (lg_cmp w7.2.1 (Int32.toInt64 r6)) = 0 then (K (z5 + 4) w7) else (some (0, w7))) else (K (z5 + 4) w7)) else (some (0, w7))))))) else none) else none))) else none) else none)
set_option maxRecDepth 100000 in
theorem S_L_c454 {g : GC} (hl : g.1.stackTraces = false) {K : Int32 → XW → Option (Int32 × XW)} {B Bs : Nat} (hB : B ≤ 603072) (hBs : Bs ≤ 7178346) (hK : ∀ (z5 : Int32) (w : XW), VE g cL_law 9 RL (some .boolean) [] room_1 603072 7178346 oI B Bs 28 [(0, .ref g.2.2.2.2.2.2.1), (1, .ref (g.2.1 + 0)), (2, .ref (g.2.1 + 141)), (3, .ref (g.2.1 + 150)), (4, .ref (g.2.1 + 151)), (5, .int z5)] [] w (K z5 w)) (z5 : Int32) (w : XW) (kc ks : Nat) (h1 : kc + 4 ≤ B) (h2 : ks + 24 ≤ Bs) : VE g cL_law 9 RL (some .boolean) [] room_1 603072 7178346 oI kc ks 454 [(0, .ref g.2.2.2.2.2.2.1), (1, .ref (g.2.1 + 0)), (2, .ref (g.2.1 + 141)), (3, .ref (g.2.1 + 150)), (4, .ref (g.2.1 + 151)), (5, .int z5)] [] w (f_L_c454 g K z5 w) := by
  unfold f_L_c454
  refine v_aload_n dL_law_454 rfl 1 rfl ?_
  refine v_aload_n dL_law_455 rfl 0 rfl ?_
  refine v_iload dL_law_456 5 rfl ?_
  refine v_iconst (v := 1) dL_law_458 (by decide) ?_
  refine v_iadd dL_law_459 ?_
  refine v_guard (fun h1 => ?_)
  refine v_sld h1 dL_law_460 ?_
  refine v_aload_n dL_law_461 rfl 0 rfl ?_
  refine v_iload dL_law_462 5 rfl ?_
  refine v_iconst (v := 2) dL_law_464 (by decide) ?_
  refine v_iadd dL_law_465 ?_
  refine v_guard (fun h2 => ?_)
  refine v_sld h2 dL_law_466 ?_
  refine v_i2c dL_law_467 ?_
  refine v_aload_n dL_law_468 rfl 3 rfl ?_
  refine v_callSh (As := [.ref (g.2.1 + 0), .int (g.2.2.2.2.2.2.2.2 (Int32.toNatClampNeg (z5 + 1))), .int (((Int32.toUInt32 (g.2.2.2.2.2.2.2.2 (Int32.toNatClampNeg (z5 + 2)))) % 65536).toInt32), .ref (g.2.1 + 150)]) ch_L_173 (S_L_untag hl) rfl rfl (Nat.le_of_ble_eq_true rfl) dL_law_469 (CR_law (by decide) (by decide) (by omega) (by omega)) (fun r3 w3 => ?_)
  refine v_istore dL_law_472 (Nat.le_of_ble_eq_true rfl) rfl ?_
  refine v_aload_n dL_law_474 rfl 3 rfl ?_
  refine v_aload_n dL_law_475 rfl 1 rfl ?_
  refine v_iload dL_law_476 6 rfl ?_
  refine v_iconst (v := 1) dL_law_478 (by decide) ?_
  refine v_iadd dL_law_479 ?_
  refine v_guard (fun h4 => ?_)
  refine v_sld h4 dL_law_480 ?_
  refine v_aload_n dL_law_481 rfl 1 rfl ?_
  refine v_iload dL_law_482 6 rfl ?_
  refine v_iconst (v := 2) dL_law_484 (by decide) ?_
  refine v_iadd dL_law_485 ?_
  refine v_guard (fun h5 => ?_)
  refine v_sld h5 dL_law_486 ?_
  refine v_i2c dL_law_487 ?_
  refine v_callVi (As := [.int (g.2.2.2.2.2.2.2.2 (Int32.toNatClampNeg (z5 + 1))), .int (((Int32.toUInt32 (g.2.2.2.2.2.2.2.2 (Int32.toNatClampNeg (z5 + 2)))) % 65536).toInt32)]) cv_L_175 (S_X11_untag hl) tt_141 rfl rfl rfl (Nat.le_of_ble_eq_true rfl) dL_law_488 (CR_law (by decide) (by decide) (by omega) (by omega)) (fun r6 w6 => ?_)
  refine v_istore dL_law_491 (Nat.le_of_ble_eq_true rfl) rfl ?_
  refine v_aload_n dL_law_493 rfl 4 rfl ?_
  refine v_callVi (As := []) cv_L_162 (S_X11_thrown hl) tt_141 rfl rfl rfl (Nat.le_of_ble_eq_true rfl) dL_law_494 (CR_law (by decide) (by decide) (by omega) (by omega)) (fun r7 w7 => ?_)
  refine v_iload dL_law_497 1 rfl ?_
  refine v_icmp_eq (tgt := 504) dL_law_499 (by decide) ?_ ?_
  · refine v_iload dL_law_504 1 rfl ?_
    refine v_if_ne (tgt := 521) dL_law_506 (by decide) ?_ ?_
    · refine v_goto (tgt := 2642) dL_law_521 (by decide) ?_
      refine v_iinc (v := (z5 + 4)) dL_law_2642 (q := 7) rfl rfl (Nat.le_of_ble_eq_true rfl) rfl ?_
      refine v_goto (tgt := 28) dL_law_2645 (by decide) ?_
      refine v_sub [3, 4, 5, 6, 7, 0] rfl ?_
      refine v_widen B Bs (by omega) (by omega) ?_
      exact hK _ _
    · refine v_aload_n dL_law_509 rfl 5 rfl ?_
      refine v_iconst (v := 0) dL_law_510 (by decide) ?_
      refine v_lald0 dL_law_511 ?_
      refine v_iload dL_law_512 0 rfl ?_
      refine v_i2l dL_law_514 ?_
      refine v_lcmp dL_law_515 ?_
      refine v_if_eq (tgt := 521) dL_law_516 (by decide) ?_ ?_
      · refine v_goto (tgt := 2642) dL_law_521 (by decide) ?_
        refine v_iinc (v := (z5 + 4)) dL_law_2642 (q := 7) rfl rfl (Nat.le_of_ble_eq_true rfl) rfl ?_
        refine v_goto (tgt := 28) dL_law_2645 (by decide) ?_
        refine v_sub [3, 4, 5, 6, 7, 0] rfl ?_
        refine v_widen B Bs (by omega) (by omega) ?_
        exact hK _ _
      · refine v_iconst (v := 0) dL_law_519 (by decide) ?_
        exact v_zret dL_law_520 rfl rfl rfl (by omega) (by omega)
  · refine v_iconst (v := 0) dL_law_502 (by decide) ?_
    exact v_zret dL_law_503 rfl rfl rfl (by omega) (by omega)
def f_L_c524 (g : GC) (K : Int32 → XW → Option (Int32 × XW)) (z5 : Int32) (w : XW) : Option (Int32 × XW) := (bI (f_X10_sectionCount w) (fun r1 w1 => (bI (f_X11_sectionCount w1) (fun r2 w2 => (if r1 = r2 then (K (z5 + 4) w2) else (some (0, w2)))))))
set_option maxRecDepth 100000 in
theorem S_L_c524 {g : GC} (hl : g.1.stackTraces = false) {K : Int32 → XW → Option (Int32 × XW)} {B Bs : Nat} (hB : B ≤ 603072) (hBs : Bs ≤ 7178346) (hK : ∀ (z5 : Int32) (w : XW), VE g cL_law 9 RL (some .boolean) [] room_1 603072 7178346 oI B Bs 28 [(0, .ref g.2.2.2.2.2.2.1), (1, .ref (g.2.1 + 0)), (2, .ref (g.2.1 + 141)), (3, .ref (g.2.1 + 150)), (4, .ref (g.2.1 + 151)), (5, .int z5)] [] w (K z5 w)) (z5 : Int32) (w : XW) (kc ks : Nat) (h1 : kc + 4 ≤ B) (h2 : ks + 24 ≤ Bs) : VE g cL_law 9 RL (some .boolean) [] room_1 603072 7178346 oI kc ks 524 [(0, .ref g.2.2.2.2.2.2.1), (1, .ref (g.2.1 + 0)), (2, .ref (g.2.1 + 141)), (3, .ref (g.2.1 + 150)), (4, .ref (g.2.1 + 151)), (5, .int z5)] [] w (f_L_c524 g K z5 w) := by
  unfold f_L_c524
  refine v_aload_n dL_law_524 rfl 1 rfl ?_
  refine v_callVi (As := []) cv_L_176 (S_X10_sectionCount hl) tt_0 rfl rfl rfl (Nat.le_of_ble_eq_true rfl) dL_law_525 (CR_law (by decide) (by decide) (by omega) (by omega)) (fun r1 w1 => ?_)
  refine v_aload_n dL_law_528 rfl 2 rfl ?_
  refine v_callVi (As := []) cv_L_179 (S_X11_sectionCount hl) tt_141 rfl rfl rfl (Nat.le_of_ble_eq_true rfl) dL_law_529 (CR_law (by decide) (by decide) (by omega) (by omega)) (fun r2 w2 => ?_)
  refine v_icmp_eq (tgt := 2642) dL_law_532 (by decide) ?_ ?_
  · refine v_iinc (v := (z5 + 4)) dL_law_2642 (q := 5) rfl rfl (Nat.le_of_ble_eq_true rfl) rfl ?_
    refine v_goto (tgt := 28) dL_law_2645 (by decide) ?_
    refine v_sub [1, 2, 3, 4, 5, 0] rfl ?_
    refine v_widen B Bs (by omega) (by omega) ?_
    exact hK _ _
  · refine v_iconst (v := 0) dL_law_535 (by decide) ?_
    exact v_zret dL_law_536 rfl rfl rfl (by omega) (by omega)
def f_L_c537 (g : GC) (K : Int32 → XW → Option (Int32 × XW)) (z5 : Int32) (w : XW) : Option (Int32 × XW) := (if inB (z5 + 1) g.2.2.2.2.2.2.2.1 then (bI (f_L_water (g.2.2.2.2.2.2.2.2 (Int32.toNatClampNeg (z5 + 1))) w) (fun r2 w2 => (if inB (z5 + 1) g.2.2.2.2.2.2.2.1 then (bI (f_X11_water (g.2.2.2.2.2.2.2.2 (Int32.toNatClampNeg (z5 + 1))) w2) (fun r4 w4 => (bI (f_X11_thrown w4) (fun r5 w5 => (if r5 = r2 then (if r2 = 0 then (if (lg_cmp w5.2.1 (Int32.toInt64 r4)) = 0 then (K (z5 + 4) w5) else (some (0, w5))) else (K (z5 + 4) w5)) else (some (0, w5))))))) else none))) else none)
set_option maxRecDepth 100000 in
theorem S_L_c537 {g : GC} (hl : g.1.stackTraces = false) {K : Int32 → XW → Option (Int32 × XW)} {B Bs : Nat} (hB : B ≤ 603072) (hBs : Bs ≤ 7178346) (hK : ∀ (z5 : Int32) (w : XW), VE g cL_law 9 RL (some .boolean) [] room_1 603072 7178346 oI B Bs 28 [(0, .ref g.2.2.2.2.2.2.1), (1, .ref (g.2.1 + 0)), (2, .ref (g.2.1 + 141)), (3, .ref (g.2.1 + 150)), (4, .ref (g.2.1 + 151)), (5, .int z5)] [] w (K z5 w)) (z5 : Int32) (w : XW) (kc ks : Nat) (h1 : kc + 4 ≤ B) (h2 : ks + 24 ≤ Bs) : VE g cL_law 9 RL (some .boolean) [] room_1 603072 7178346 oI kc ks 537 [(0, .ref g.2.2.2.2.2.2.1), (1, .ref (g.2.1 + 0)), (2, .ref (g.2.1 + 141)), (3, .ref (g.2.1 + 150)), (4, .ref (g.2.1 + 151)), (5, .int z5)] [] w (f_L_c537 g K z5 w) := by
  unfold f_L_c537
  refine v_aload_n dL_law_537 rfl 1 rfl ?_
  refine v_aload_n dL_law_538 rfl 0 rfl ?_
  refine v_iload dL_law_539 5 rfl ?_
  refine v_iconst (v := 1) dL_law_541 (by decide) ?_
  refine v_iadd dL_law_542 ?_
  refine v_guard (fun h1 => ?_)
  refine v_sld h1 dL_law_543 ?_
  refine v_aload_n dL_law_544 rfl 3 rfl ?_
  refine v_callSh (As := [.ref (g.2.1 + 0), .int (g.2.2.2.2.2.2.2.2 (Int32.toNatClampNeg (z5 + 1))), .ref (g.2.1 + 150)]) ch_L_180 (S_L_water hl) rfl rfl (Nat.le_of_ble_eq_true rfl) dL_law_545 (CR_law (by decide) (by decide) (by omega) (by omega)) (fun r2 w2 => ?_)
  refine v_istore dL_law_548 (Nat.le_of_ble_eq_true rfl) rfl ?_
  refine v_aload_n dL_law_550 rfl 3 rfl ?_
  refine v_aload_n dL_law_551 rfl 1 rfl ?_
  refine v_iload dL_law_552 6 rfl ?_
  refine v_iconst (v := 1) dL_law_554 (by decide) ?_
  refine v_iadd dL_law_555 ?_
  refine v_guard (fun h3 => ?_)
  refine v_sld h3 dL_law_556 ?_
  refine v_callVi (As := [.int (g.2.2.2.2.2.2.2.2 (Int32.toNatClampNeg (z5 + 1)))]) cv_L_183 (S_X11_water hl) tt_141 rfl rfl rfl (Nat.le_of_ble_eq_true rfl) dL_law_557 (CR_law (by decide) (by decide) (by omega) (by omega)) (fun r4 w4 => ?_)
  refine v_istore dL_law_560 (Nat.le_of_ble_eq_true rfl) rfl ?_
  refine v_aload_n dL_law_562 rfl 4 rfl ?_
  refine v_callVi (As := []) cv_L_162 (S_X11_thrown hl) tt_141 rfl rfl rfl (Nat.le_of_ble_eq_true rfl) dL_law_563 (CR_law (by decide) (by decide) (by omega) (by omega)) (fun r5 w5 => ?_)
  refine v_iload dL_law_566 1 rfl ?_
  refine v_icmp_eq (tgt := 573) dL_law_568 (by decide) ?_ ?_
  · refine v_iload dL_law_573 1 rfl ?_
    refine v_if_ne (tgt := 590) dL_law_575 (by decide) ?_ ?_
    · refine v_goto (tgt := 2642) dL_law_590 (by decide) ?_
      refine v_iinc (v := (z5 + 4)) dL_law_2642 (q := 7) rfl rfl (Nat.le_of_ble_eq_true rfl) rfl ?_
      refine v_goto (tgt := 28) dL_law_2645 (by decide) ?_
      refine v_sub [3, 4, 5, 6, 7, 0] rfl ?_
      refine v_widen B Bs (by omega) (by omega) ?_
      exact hK _ _
    · refine v_aload_n dL_law_578 rfl 5 rfl ?_
      refine v_iconst (v := 0) dL_law_579 (by decide) ?_
      refine v_lald0 dL_law_580 ?_
      refine v_iload dL_law_581 0 rfl ?_
      refine v_i2l dL_law_583 ?_
      refine v_lcmp dL_law_584 ?_
      refine v_if_eq (tgt := 590) dL_law_585 (by decide) ?_ ?_
      · refine v_goto (tgt := 2642) dL_law_590 (by decide) ?_
        refine v_iinc (v := (z5 + 4)) dL_law_2642 (q := 7) rfl rfl (Nat.le_of_ble_eq_true rfl) rfl ?_
        refine v_goto (tgt := 28) dL_law_2645 (by decide) ?_
        refine v_sub [3, 4, 5, 6, 7, 0] rfl ?_
        refine v_widen B Bs (by omega) (by omega) ?_
        exact hK _ _
      · refine v_iconst (v := 0) dL_law_588 (by decide) ?_
        exact v_zret dL_law_589 rfl rfl rfl (by omega) (by omega)
  · refine v_iconst (v := 0) dL_law_571 (by decide) ?_
    exact v_zret dL_law_572 rfl rfl rfl (by omega) (by omega)
def f_L_c593 (g : GC) (K : Int32 → XW → Option (Int32 × XW)) (z5 : Int32) (w : XW) : Option (Int32 × XW) := (if inB (z5 + 1) g.2.2.2.2.2.2.2.1 then (if inB (z5 + 2) g.2.2.2.2.2.2.2.1 then (bI (f_L_hasTerm (g.2.2.2.2.2.2.2.2 (Int32.toNatClampNeg (z5 + 1))) (((Int32.toUInt32 (g.2.2.2.2.2.2.2.2 (Int32.toNatClampNeg (z5 + 2)))) % 65536).toInt32) w) (fun r3 w3 => (if inB (z5 + 1) g.2.2.2.2.2.2.2.1 then (if inB (z5 + 2) g.2.2.2.2.2.2.2.1 then (bI (f_X11_hasTerm (g.2.2.2.2.2.2.2.2 (Int32.toNatClampNeg (z5 + 1))) (((Int32.toUInt32 (g.2.2.2.2.2.2.2.2 (Int32.toNatClampNeg (z5 + 2)))) % 65536).toInt32) w3) (fun r6 w6 => (bI (f_X11_thrown w6) (fun r7 w7 => (if r7 = r3 then (if r3 = 0 then (if r6 = 0 then (if (lg_cmp w7.2.1 0) = 0 then (K (z5 + 4) w7) else (some (0, w7))) else (if (lg_cmp w7.2.1 1) = 0 then (K (z5 + 4) w7) else (some (0, w7)))) else (K (z5 + 4) w7)) else (some (0, w7))))))) else none) else none))) else none) else none)
set_option maxRecDepth 100000 in
theorem S_L_c593 {g : GC} (hl : g.1.stackTraces = false) {K : Int32 → XW → Option (Int32 × XW)} {B Bs : Nat} (hB : B ≤ 603072) (hBs : Bs ≤ 7178346) (hK : ∀ (z5 : Int32) (w : XW), VE g cL_law 9 RL (some .boolean) [] room_1 603072 7178346 oI B Bs 28 [(0, .ref g.2.2.2.2.2.2.1), (1, .ref (g.2.1 + 0)), (2, .ref (g.2.1 + 141)), (3, .ref (g.2.1 + 150)), (4, .ref (g.2.1 + 151)), (5, .int z5)] [] w (K z5 w)) (z5 : Int32) (w : XW) (kc ks : Nat) (h1 : kc + 4 ≤ B) (h2 : ks + 24 ≤ Bs) : VE g cL_law 9 RL (some .boolean) [] room_1 603072 7178346 oI kc ks 593 [(0, .ref g.2.2.2.2.2.2.1), (1, .ref (g.2.1 + 0)), (2, .ref (g.2.1 + 141)), (3, .ref (g.2.1 + 150)), (4, .ref (g.2.1 + 151)), (5, .int z5)] [] w (f_L_c593 g K z5 w) := by
  unfold f_L_c593
  refine v_aload_n dL_law_593 rfl 1 rfl ?_
  refine v_aload_n dL_law_594 rfl 0 rfl ?_
  refine v_iload dL_law_595 5 rfl ?_
  refine v_iconst (v := 1) dL_law_597 (by decide) ?_
  refine v_iadd dL_law_598 ?_
  refine v_guard (fun h1 => ?_)
  refine v_sld h1 dL_law_599 ?_
  refine v_aload_n dL_law_600 rfl 0 rfl ?_
  refine v_iload dL_law_601 5 rfl ?_
  refine v_iconst (v := 2) dL_law_603 (by decide) ?_
  refine v_iadd dL_law_604 ?_
  refine v_guard (fun h2 => ?_)
  refine v_sld h2 dL_law_605 ?_
  refine v_i2c dL_law_606 ?_
  refine v_aload_n dL_law_607 rfl 3 rfl ?_
  refine v_callSh (As := [.ref (g.2.1 + 0), .int (g.2.2.2.2.2.2.2.2 (Int32.toNatClampNeg (z5 + 1))), .int (((Int32.toUInt32 (g.2.2.2.2.2.2.2.2 (Int32.toNatClampNeg (z5 + 2)))) % 65536).toInt32), .ref (g.2.1 + 150)]) ch_L_184 (S_L_hasTerm hl) rfl rfl (Nat.le_of_ble_eq_true rfl) dL_law_608 (CR_law (by decide) (by decide) (by omega) (by omega)) (fun r3 w3 => ?_)
  refine v_istore dL_law_611 (Nat.le_of_ble_eq_true rfl) rfl ?_
  refine v_aload_n dL_law_613 rfl 3 rfl ?_
  refine v_aload_n dL_law_614 rfl 1 rfl ?_
  refine v_iload dL_law_615 6 rfl ?_
  refine v_iconst (v := 1) dL_law_617 (by decide) ?_
  refine v_iadd dL_law_618 ?_
  refine v_guard (fun h4 => ?_)
  refine v_sld h4 dL_law_619 ?_
  refine v_aload_n dL_law_620 rfl 1 rfl ?_
  refine v_iload dL_law_621 6 rfl ?_
  refine v_iconst (v := 2) dL_law_623 (by decide) ?_
  refine v_iadd dL_law_624 ?_
  refine v_guard (fun h5 => ?_)
  refine v_sld h5 dL_law_625 ?_
  refine v_i2c dL_law_626 ?_
  refine v_callVi (As := [.int (g.2.2.2.2.2.2.2.2 (Int32.toNatClampNeg (z5 + 1))), .int (((Int32.toUInt32 (g.2.2.2.2.2.2.2.2 (Int32.toNatClampNeg (z5 + 2)))) % 65536).toInt32)]) cv_L_186 (S_X11_hasTerm hl) tt_141 rfl rfl rfl (Nat.le_of_ble_eq_true rfl) dL_law_627 (CR_law (by decide) (by decide) (by omega) (by omega)) (fun r6 w6 => ?_)
  refine v_istore dL_law_630 (Nat.le_of_ble_eq_true rfl) rfl ?_
  refine v_aload_n dL_law_632 rfl 4 rfl ?_
  refine v_callVi (As := []) cv_L_162 (S_X11_thrown hl) tt_141 rfl rfl rfl (Nat.le_of_ble_eq_true rfl) dL_law_633 (CR_law (by decide) (by decide) (by omega) (by omega)) (fun r7 w7 => ?_)
  refine v_iload dL_law_636 1 rfl ?_
  refine v_icmp_eq (tgt := 643) dL_law_638 (by decide) ?_ ?_
  · refine v_iload dL_law_643 1 rfl ?_
    refine v_if_ne (tgt := 667) dL_law_645 (by decide) ?_ ?_
    · refine v_goto (tgt := 2642) dL_law_667 (by decide) ?_
      refine v_iinc (v := (z5 + 4)) dL_law_2642 (q := 7) rfl rfl (Nat.le_of_ble_eq_true rfl) rfl ?_
      refine v_goto (tgt := 28) dL_law_2645 (by decide) ?_
      refine v_sub [3, 4, 5, 6, 7, 0] rfl ?_
      refine v_widen B Bs (by omega) (by omega) ?_
      exact hK _ _
    · refine v_aload_n dL_law_648 rfl 5 rfl ?_
      refine v_iconst (v := 0) dL_law_649 (by decide) ?_
      refine v_lald0 dL_law_650 ?_
      refine v_iload dL_law_651 0 rfl ?_
      refine v_if_eq (tgt := 660) dL_law_653 (by decide) ?_ ?_
      · refine v_lconst (v := 0) dL_law_660 rfl ?_
        refine v_lcmp dL_law_661 ?_
        refine v_if_eq (tgt := 667) dL_law_662 (by decide) ?_ ?_
        · refine v_goto (tgt := 2642) dL_law_667 (by decide) ?_
          refine v_iinc (v := (z5 + 4)) dL_law_2642 (q := 7) rfl rfl (Nat.le_of_ble_eq_true rfl) rfl ?_
          refine v_goto (tgt := 28) dL_law_2645 (by decide) ?_
          refine v_sub [3, 4, 5, 6, 7, 0] rfl ?_
          refine v_widen B Bs (by omega) (by omega) ?_
          exact hK _ _
        · refine v_iconst (v := 0) dL_law_665 (by decide) ?_
          exact v_zret dL_law_666 rfl rfl rfl (by omega) (by omega)
      · refine v_lconst (v := 1) dL_law_656 rfl ?_
        refine v_goto (tgt := 661) dL_law_657 (by decide) ?_
        refine v_lcmp dL_law_661 ?_
        refine v_if_eq (tgt := 667) dL_law_662 (by decide) ?_ ?_
        · refine v_goto (tgt := 2642) dL_law_667 (by decide) ?_
          refine v_iinc (v := (z5 + 4)) dL_law_2642 (q := 7) rfl rfl (Nat.le_of_ble_eq_true rfl) rfl ?_
          refine v_goto (tgt := 28) dL_law_2645 (by decide) ?_
          refine v_sub [3, 4, 5, 6, 7, 0] rfl ?_
          refine v_widen B Bs (by omega) (by omega) ?_
          exact hK _ _
        · refine v_iconst (v := 0) dL_law_665 (by decide) ?_
          exact v_zret dL_law_666 rfl rfl rfl (by omega) (by omega)
  · refine v_iconst (v := 0) dL_law_641 (by decide) ?_
    exact v_zret dL_law_642 rfl rfl rfl (by omega) (by omega)
def f_L_c670 (g : GC) (K : Int32 → XW → Option (Int32 × XW)) (z5 : Int32) (w : XW) : Option (Int32 × XW) := (if inB (z5 + 1) g.2.2.2.2.2.2.2.1 then (bI (f_L_sectionsWith (((Int32.toUInt32 (g.2.2.2.2.2.2.2.2 (Int32.toNatClampNeg (z5 + 1)))) % 65536).toInt32) w) (fun r2 w2 => (if inB (z5 + 1) g.2.2.2.2.2.2.2.1 then (bI (f_X11_sectionsWith (((Int32.toUInt32 (g.2.2.2.2.2.2.2.2 (Int32.toNatClampNeg (z5 + 1)))) % 65536).toInt32) w2) (fun r4 w4 => (bI (f_X11_thrown w4) (fun r5 w5 => (if r5 = r2 then (if r2 = 0 then (if (lg_cmp w5.2.1 (Int32.toInt64 r4)) = 0 then (K (z5 + 4) w5) else (some (0, w5))) else (K (z5 + 4) w5)) else (some (0, w5))))))) else none))) else none)
set_option maxRecDepth 100000 in
theorem S_L_c670 {g : GC} (hl : g.1.stackTraces = false) {K : Int32 → XW → Option (Int32 × XW)} {B Bs : Nat} (hB : B ≤ 603072) (hBs : Bs ≤ 7178346) (hK : ∀ (z5 : Int32) (w : XW), VE g cL_law 9 RL (some .boolean) [] room_1 603072 7178346 oI B Bs 28 [(0, .ref g.2.2.2.2.2.2.1), (1, .ref (g.2.1 + 0)), (2, .ref (g.2.1 + 141)), (3, .ref (g.2.1 + 150)), (4, .ref (g.2.1 + 151)), (5, .int z5)] [] w (K z5 w)) (z5 : Int32) (w : XW) (kc ks : Nat) (h1 : kc + 4 ≤ B) (h2 : ks + 24 ≤ Bs) : VE g cL_law 9 RL (some .boolean) [] room_1 603072 7178346 oI kc ks 670 [(0, .ref g.2.2.2.2.2.2.1), (1, .ref (g.2.1 + 0)), (2, .ref (g.2.1 + 141)), (3, .ref (g.2.1 + 150)), (4, .ref (g.2.1 + 151)), (5, .int z5)] [] w (f_L_c670 g K z5 w) := by
  unfold f_L_c670
  refine v_aload_n dL_law_670 rfl 1 rfl ?_
  refine v_aload_n dL_law_671 rfl 0 rfl ?_
  refine v_iload dL_law_672 5 rfl ?_
  refine v_iconst (v := 1) dL_law_674 (by decide) ?_
  refine v_iadd dL_law_675 ?_
  refine v_guard (fun h1 => ?_)
  refine v_sld h1 dL_law_676 ?_
  refine v_i2c dL_law_677 ?_
  refine v_aload_n dL_law_678 rfl 3 rfl ?_
  refine v_callSh (As := [.ref (g.2.1 + 0), .int (((Int32.toUInt32 (g.2.2.2.2.2.2.2.2 (Int32.toNatClampNeg (z5 + 1)))) % 65536).toInt32), .ref (g.2.1 + 150)]) ch_L_187 (S_L_sectionsWith hl) rfl rfl (Nat.le_of_ble_eq_true rfl) dL_law_679 (CR_law (by decide) (by decide) (by omega) (by omega)) (fun r2 w2 => ?_)
  refine v_istore dL_law_682 (Nat.le_of_ble_eq_true rfl) rfl ?_
  refine v_aload_n dL_law_684 rfl 3 rfl ?_
  refine v_aload_n dL_law_685 rfl 1 rfl ?_
  refine v_iload dL_law_686 6 rfl ?_
  refine v_iconst (v := 1) dL_law_688 (by decide) ?_
  refine v_iadd dL_law_689 ?_
  refine v_guard (fun h3 => ?_)
  refine v_sld h3 dL_law_690 ?_
  refine v_i2c dL_law_691 ?_
  refine v_callVi (As := [.int (((Int32.toUInt32 (g.2.2.2.2.2.2.2.2 (Int32.toNatClampNeg (z5 + 1)))) % 65536).toInt32)]) cv_L_190 (S_X11_sectionsWith hl) tt_141 rfl rfl rfl (Nat.le_of_ble_eq_true rfl) dL_law_692 (CR_law (by decide) (by decide) (by omega) (by omega)) (fun r4 w4 => ?_)
  refine v_istore dL_law_695 (Nat.le_of_ble_eq_true rfl) rfl ?_
  refine v_aload_n dL_law_697 rfl 4 rfl ?_
  refine v_callVi (As := []) cv_L_162 (S_X11_thrown hl) tt_141 rfl rfl rfl (Nat.le_of_ble_eq_true rfl) dL_law_698 (CR_law (by decide) (by decide) (by omega) (by omega)) (fun r5 w5 => ?_)
  refine v_iload dL_law_701 1 rfl ?_
  refine v_icmp_eq (tgt := 708) dL_law_703 (by decide) ?_ ?_
  · refine v_iload dL_law_708 1 rfl ?_
    refine v_if_ne (tgt := 725) dL_law_710 (by decide) ?_ ?_
    · refine v_goto (tgt := 2642) dL_law_725 (by decide) ?_
      refine v_iinc (v := (z5 + 4)) dL_law_2642 (q := 7) rfl rfl (Nat.le_of_ble_eq_true rfl) rfl ?_
      refine v_goto (tgt := 28) dL_law_2645 (by decide) ?_
      refine v_sub [3, 4, 5, 6, 7, 0] rfl ?_
      refine v_widen B Bs (by omega) (by omega) ?_
      exact hK _ _
    · refine v_aload_n dL_law_713 rfl 5 rfl ?_
      refine v_iconst (v := 0) dL_law_714 (by decide) ?_
      refine v_lald0 dL_law_715 ?_
      refine v_iload dL_law_716 0 rfl ?_
      refine v_i2l dL_law_718 ?_
      refine v_lcmp dL_law_719 ?_
      refine v_if_eq (tgt := 725) dL_law_720 (by decide) ?_ ?_
      · refine v_goto (tgt := 2642) dL_law_725 (by decide) ?_
        refine v_iinc (v := (z5 + 4)) dL_law_2642 (q := 7) rfl rfl (Nat.le_of_ble_eq_true rfl) rfl ?_
        refine v_goto (tgt := 28) dL_law_2645 (by decide) ?_
        refine v_sub [3, 4, 5, 6, 7, 0] rfl ?_
        refine v_widen B Bs (by omega) (by omega) ?_
        exact hK _ _
      · refine v_iconst (v := 0) dL_law_723 (by decide) ?_
        exact v_zret dL_law_724 rfl rfl rfl (by omega) (by omega)
  · refine v_iconst (v := 0) dL_law_706 (by decide) ?_
    exact v_zret dL_law_707 rfl rfl rfl (by omega) (by omega)
def f_L_c728 (g : GC) (K : Int32 → XW → Option (Int32 × XW)) (z5 : Int32) (w : XW) : Option (Int32 × XW) := (if inB (z5 + 1) g.2.2.2.2.2.2.2.1 then (bI (f_L_sectionByWater (g.2.2.2.2.2.2.2.2 (Int32.toNatClampNeg (z5 + 1))) w) (fun r2 w2 => (if inB (z5 + 1) g.2.2.2.2.2.2.2.1 then (bI (f_X11_sectionByWater (g.2.2.2.2.2.2.2.2 (Int32.toNatClampNeg (z5 + 1))) w2) (fun r4 w4 => (bI (f_X11_thrown w4) (fun r5 w5 => (if r5 = r2 then (if r2 = 0 then (if (lg_cmp w5.2.1 (Int32.toInt64 r4)) = 0 then (K (z5 + 4) w5) else (some (0, w5))) else (K (z5 + 4) w5)) else (some (0, w5))))))) else none))) else none)
set_option maxRecDepth 100000 in
theorem S_L_c728 {g : GC} (hl : g.1.stackTraces = false) {K : Int32 → XW → Option (Int32 × XW)} {B Bs : Nat} (hB : B ≤ 603072) (hBs : Bs ≤ 7178346) (hK : ∀ (z5 : Int32) (w : XW), VE g cL_law 9 RL (some .boolean) [] room_1 603072 7178346 oI B Bs 28 [(0, .ref g.2.2.2.2.2.2.1), (1, .ref (g.2.1 + 0)), (2, .ref (g.2.1 + 141)), (3, .ref (g.2.1 + 150)), (4, .ref (g.2.1 + 151)), (5, .int z5)] [] w (K z5 w)) (z5 : Int32) (w : XW) (kc ks : Nat) (h1 : kc + 4 ≤ B) (h2 : ks + 24 ≤ Bs) : VE g cL_law 9 RL (some .boolean) [] room_1 603072 7178346 oI kc ks 728 [(0, .ref g.2.2.2.2.2.2.1), (1, .ref (g.2.1 + 0)), (2, .ref (g.2.1 + 141)), (3, .ref (g.2.1 + 150)), (4, .ref (g.2.1 + 151)), (5, .int z5)] [] w (f_L_c728 g K z5 w) := by
  unfold f_L_c728
  refine v_aload_n dL_law_728 rfl 1 rfl ?_
  refine v_aload_n dL_law_729 rfl 0 rfl ?_
  refine v_iload dL_law_730 5 rfl ?_
  refine v_iconst (v := 1) dL_law_732 (by decide) ?_
  refine v_iadd dL_law_733 ?_
  refine v_guard (fun h1 => ?_)
  refine v_sld h1 dL_law_734 ?_
  refine v_aload_n dL_law_735 rfl 3 rfl ?_
  refine v_callSh (As := [.ref (g.2.1 + 0), .int (g.2.2.2.2.2.2.2.2 (Int32.toNatClampNeg (z5 + 1))), .ref (g.2.1 + 150)]) ch_L_191 (S_L_sectionByWater hl) rfl rfl (Nat.le_of_ble_eq_true rfl) dL_law_736 (CR_law (by decide) (by decide) (by omega) (by omega)) (fun r2 w2 => ?_)
  refine v_istore dL_law_739 (Nat.le_of_ble_eq_true rfl) rfl ?_
  refine v_aload_n dL_law_741 rfl 3 rfl ?_
  refine v_aload_n dL_law_742 rfl 1 rfl ?_
  refine v_iload dL_law_743 6 rfl ?_
  refine v_iconst (v := 1) dL_law_745 (by decide) ?_
  refine v_iadd dL_law_746 ?_
  refine v_guard (fun h3 => ?_)
  refine v_sld h3 dL_law_747 ?_
  refine v_callVi (As := [.int (g.2.2.2.2.2.2.2.2 (Int32.toNatClampNeg (z5 + 1)))]) cv_L_193 (S_X11_sectionByWater hl) tt_141 rfl rfl rfl (Nat.le_of_ble_eq_true rfl) dL_law_748 (CR_law (by decide) (by decide) (by omega) (by omega)) (fun r4 w4 => ?_)
  refine v_istore dL_law_751 (Nat.le_of_ble_eq_true rfl) rfl ?_
  refine v_aload_n dL_law_753 rfl 4 rfl ?_
  refine v_callVi (As := []) cv_L_162 (S_X11_thrown hl) tt_141 rfl rfl rfl (Nat.le_of_ble_eq_true rfl) dL_law_754 (CR_law (by decide) (by decide) (by omega) (by omega)) (fun r5 w5 => ?_)
  refine v_iload dL_law_757 1 rfl ?_
  refine v_icmp_eq (tgt := 764) dL_law_759 (by decide) ?_ ?_
  · refine v_iload dL_law_764 1 rfl ?_
    refine v_if_ne (tgt := 781) dL_law_766 (by decide) ?_ ?_
    · refine v_goto (tgt := 2642) dL_law_781 (by decide) ?_
      refine v_iinc (v := (z5 + 4)) dL_law_2642 (q := 7) rfl rfl (Nat.le_of_ble_eq_true rfl) rfl ?_
      refine v_goto (tgt := 28) dL_law_2645 (by decide) ?_
      refine v_sub [3, 4, 5, 6, 7, 0] rfl ?_
      refine v_widen B Bs (by omega) (by omega) ?_
      exact hK _ _
    · refine v_aload_n dL_law_769 rfl 5 rfl ?_
      refine v_iconst (v := 0) dL_law_770 (by decide) ?_
      refine v_lald0 dL_law_771 ?_
      refine v_iload dL_law_772 0 rfl ?_
      refine v_i2l dL_law_774 ?_
      refine v_lcmp dL_law_775 ?_
      refine v_if_eq (tgt := 781) dL_law_776 (by decide) ?_ ?_
      · refine v_goto (tgt := 2642) dL_law_781 (by decide) ?_
        refine v_iinc (v := (z5 + 4)) dL_law_2642 (q := 7) rfl rfl (Nat.le_of_ble_eq_true rfl) rfl ?_
        refine v_goto (tgt := 28) dL_law_2645 (by decide) ?_
        refine v_sub [3, 4, 5, 6, 7, 0] rfl ?_
        refine v_widen B Bs (by omega) (by omega) ?_
        exact hK _ _
      · refine v_iconst (v := 0) dL_law_779 (by decide) ?_
        exact v_zret dL_law_780 rfl rfl rfl (by omega) (by omega)
  · refine v_iconst (v := 0) dL_law_762 (by decide) ?_
    exact v_zret dL_law_763 rfl rfl rfl (by omega) (by omega)
def f_L_c784 (g : GC) (K : Int32 → XW → Option (Int32 × XW)) (z5 : Int32) (w : XW) : Option (Int32 × XW) := (if inB (z5 + 1) g.2.2.2.2.2.2.2.1 then (bI (f_L_fold (g.2.2.2.2.2.2.2.2 (Int32.toNatClampNeg (z5 + 1))) w) (fun r2 w2 => (if inB (z5 + 1) g.2.2.2.2.2.2.2.1 then (bI (f_X11_fold (g.2.2.2.2.2.2.2.2 (Int32.toNatClampNeg (z5 + 1))) w2) (fun r4 w4 => (bI (f_X11_thrown w4) (fun r5 w5 => (if r5 = r2 then (if r2 = 0 then (if (lg_cmp w5.2.1 (Int32.toInt64 r4)) = 0 then (K (z5 + 4) w5) else (some (0, w5))) else (K (z5 + 4) w5)) else (some (0, w5))))))) else none))) else none)
set_option maxRecDepth 100000 in
theorem S_L_c784 {g : GC} (hl : g.1.stackTraces = false) {K : Int32 → XW → Option (Int32 × XW)} {B Bs : Nat} (hB : B ≤ 603072) (hBs : Bs ≤ 7178346) (hK : ∀ (z5 : Int32) (w : XW), VE g cL_law 9 RL (some .boolean) [] room_1 603072 7178346 oI B Bs 28 [(0, .ref g.2.2.2.2.2.2.1), (1, .ref (g.2.1 + 0)), (2, .ref (g.2.1 + 141)), (3, .ref (g.2.1 + 150)), (4, .ref (g.2.1 + 151)), (5, .int z5)] [] w (K z5 w)) (z5 : Int32) (w : XW) (kc ks : Nat) (h1 : kc + 4 ≤ B) (h2 : ks + 24 ≤ Bs) : VE g cL_law 9 RL (some .boolean) [] room_1 603072 7178346 oI kc ks 784 [(0, .ref g.2.2.2.2.2.2.1), (1, .ref (g.2.1 + 0)), (2, .ref (g.2.1 + 141)), (3, .ref (g.2.1 + 150)), (4, .ref (g.2.1 + 151)), (5, .int z5)] [] w (f_L_c784 g K z5 w) := by
  unfold f_L_c784
  refine v_aload_n dL_law_784 rfl 1 rfl ?_
  refine v_aload_n dL_law_785 rfl 0 rfl ?_
  refine v_iload dL_law_786 5 rfl ?_
  refine v_iconst (v := 1) dL_law_788 (by decide) ?_
  refine v_iadd dL_law_789 ?_
  refine v_guard (fun h1 => ?_)
  refine v_sld h1 dL_law_790 ?_
  refine v_aload_n dL_law_791 rfl 3 rfl ?_
  refine v_callSh (As := [.ref (g.2.1 + 0), .int (g.2.2.2.2.2.2.2.2 (Int32.toNatClampNeg (z5 + 1))), .ref (g.2.1 + 150)]) ch_L_194 (S_L_fold hl) rfl rfl (Nat.le_of_ble_eq_true rfl) dL_law_792 (CR_law (by decide) (by decide) (by omega) (by omega)) (fun r2 w2 => ?_)
  refine v_istore dL_law_795 (Nat.le_of_ble_eq_true rfl) rfl ?_
  refine v_aload_n dL_law_797 rfl 3 rfl ?_
  refine v_aload_n dL_law_798 rfl 1 rfl ?_
  refine v_iload dL_law_799 6 rfl ?_
  refine v_iconst (v := 1) dL_law_801 (by decide) ?_
  refine v_iadd dL_law_802 ?_
  refine v_guard (fun h3 => ?_)
  refine v_sld h3 dL_law_803 ?_
  refine v_callVi (As := [.int (g.2.2.2.2.2.2.2.2 (Int32.toNatClampNeg (z5 + 1)))]) cv_L_196 (S_X11_fold hl) tt_141 rfl rfl rfl (Nat.le_of_ble_eq_true rfl) dL_law_804 (CR_law (by decide) (by decide) (by omega) (by omega)) (fun r4 w4 => ?_)
  refine v_istore dL_law_807 (Nat.le_of_ble_eq_true rfl) rfl ?_
  refine v_aload_n dL_law_809 rfl 4 rfl ?_
  refine v_callVi (As := []) cv_L_162 (S_X11_thrown hl) tt_141 rfl rfl rfl (Nat.le_of_ble_eq_true rfl) dL_law_810 (CR_law (by decide) (by decide) (by omega) (by omega)) (fun r5 w5 => ?_)
  refine v_iload dL_law_813 1 rfl ?_
  refine v_icmp_eq (tgt := 820) dL_law_815 (by decide) ?_ ?_
  · refine v_iload dL_law_820 1 rfl ?_
    refine v_if_ne (tgt := 837) dL_law_822 (by decide) ?_ ?_
    · refine v_goto (tgt := 2642) dL_law_837 (by decide) ?_
      refine v_iinc (v := (z5 + 4)) dL_law_2642 (q := 7) rfl rfl (Nat.le_of_ble_eq_true rfl) rfl ?_
      refine v_goto (tgt := 28) dL_law_2645 (by decide) ?_
      refine v_sub [3, 4, 5, 6, 7, 0] rfl ?_
      refine v_widen B Bs (by omega) (by omega) ?_
      exact hK _ _
    · refine v_aload_n dL_law_825 rfl 5 rfl ?_
      refine v_iconst (v := 0) dL_law_826 (by decide) ?_
      refine v_lald0 dL_law_827 ?_
      refine v_iload dL_law_828 0 rfl ?_
      refine v_i2l dL_law_830 ?_
      refine v_lcmp dL_law_831 ?_
      refine v_if_eq (tgt := 837) dL_law_832 (by decide) ?_ ?_
      · refine v_goto (tgt := 2642) dL_law_837 (by decide) ?_
        refine v_iinc (v := (z5 + 4)) dL_law_2642 (q := 7) rfl rfl (Nat.le_of_ble_eq_true rfl) rfl ?_
        refine v_goto (tgt := 28) dL_law_2645 (by decide) ?_
        refine v_sub [3, 4, 5, 6, 7, 0] rfl ?_
        refine v_widen B Bs (by omega) (by omega) ?_
        exact hK _ _
      · refine v_iconst (v := 0) dL_law_835 (by decide) ?_
        exact v_zret dL_law_836 rfl rfl rfl (by omega) (by omega)
  · refine v_iconst (v := 0) dL_law_818 (by decide) ?_
    exact v_zret dL_law_819 rfl rfl rfl (by omega) (by omega)
def f_L_c840 (g : GC) (K : Int32 → XW → Option (Int32 × XW)) (z5 : Int32) (w : XW) : Option (Int32 × XW) := (bI (f_L_unfold w) (fun r1 w1 => (bI (f_X11_unfold w1) (fun r2 w2 => (bI (f_X11_thrown w2) (fun r3 w3 => (if r3 = r1 then (if r1 = 0 then (if (lg_cmp w3.2.1 (Int32.toInt64 r2)) = 0 then (K (z5 + 4) w3) else (some (0, w3))) else (K (z5 + 4) w3)) else (some (0, w3)))))))))
set_option maxRecDepth 100000 in
theorem S_L_c840 {g : GC} (hl : g.1.stackTraces = false) {K : Int32 → XW → Option (Int32 × XW)} {B Bs : Nat} (hB : B ≤ 603072) (hBs : Bs ≤ 7178346) (hK : ∀ (z5 : Int32) (w : XW), VE g cL_law 9 RL (some .boolean) [] room_1 603072 7178346 oI B Bs 28 [(0, .ref g.2.2.2.2.2.2.1), (1, .ref (g.2.1 + 0)), (2, .ref (g.2.1 + 141)), (3, .ref (g.2.1 + 150)), (4, .ref (g.2.1 + 151)), (5, .int z5)] [] w (K z5 w)) (z5 : Int32) (w : XW) (kc ks : Nat) (h1 : kc + 4 ≤ B) (h2 : ks + 24 ≤ Bs) : VE g cL_law 9 RL (some .boolean) [] room_1 603072 7178346 oI kc ks 840 [(0, .ref g.2.2.2.2.2.2.1), (1, .ref (g.2.1 + 0)), (2, .ref (g.2.1 + 141)), (3, .ref (g.2.1 + 150)), (4, .ref (g.2.1 + 151)), (5, .int z5)] [] w (f_L_c840 g K z5 w) := by
  unfold f_L_c840
  refine v_aload_n dL_law_840 rfl 1 rfl ?_
  refine v_aload_n dL_law_841 rfl 3 rfl ?_
  refine v_callSh (As := [.ref (g.2.1 + 0), .ref (g.2.1 + 150)]) ch_L_197 (S_L_unfold hl) rfl rfl (Nat.le_of_ble_eq_true rfl) dL_law_842 (CR_law (by decide) (by decide) (by omega) (by omega)) (fun r1 w1 => ?_)
  refine v_istore dL_law_845 (Nat.le_of_ble_eq_true rfl) rfl ?_
  refine v_aload_n dL_law_847 rfl 3 rfl ?_
  refine v_callVi (As := []) cv_L_199 (S_X11_unfold hl) tt_141 rfl rfl rfl (Nat.le_of_ble_eq_true rfl) dL_law_848 (CR_law (by decide) (by decide) (by omega) (by omega)) (fun r2 w2 => ?_)
  refine v_istore dL_law_851 (Nat.le_of_ble_eq_true rfl) rfl ?_
  refine v_aload_n dL_law_853 rfl 4 rfl ?_
  refine v_callVi (As := []) cv_L_162 (S_X11_thrown hl) tt_141 rfl rfl rfl (Nat.le_of_ble_eq_true rfl) dL_law_854 (CR_law (by decide) (by decide) (by omega) (by omega)) (fun r3 w3 => ?_)
  refine v_iload dL_law_857 1 rfl ?_
  refine v_icmp_eq (tgt := 864) dL_law_859 (by decide) ?_ ?_
  · refine v_iload dL_law_864 1 rfl ?_
    refine v_if_ne (tgt := 881) dL_law_866 (by decide) ?_ ?_
    · refine v_goto (tgt := 2642) dL_law_881 (by decide) ?_
      refine v_iinc (v := (z5 + 4)) dL_law_2642 (q := 7) rfl rfl (Nat.le_of_ble_eq_true rfl) rfl ?_
      refine v_goto (tgt := 28) dL_law_2645 (by decide) ?_
      refine v_sub [3, 4, 5, 6, 7, 0] rfl ?_
      refine v_widen B Bs (by omega) (by omega) ?_
      exact hK _ _
    · refine v_aload_n dL_law_869 rfl 5 rfl ?_
      refine v_iconst (v := 0) dL_law_870 (by decide) ?_
      refine v_lald0 dL_law_871 ?_
      refine v_iload dL_law_872 0 rfl ?_
      refine v_i2l dL_law_874 ?_
      refine v_lcmp dL_law_875 ?_
      refine v_if_eq (tgt := 881) dL_law_876 (by decide) ?_ ?_
      · refine v_goto (tgt := 2642) dL_law_881 (by decide) ?_
        refine v_iinc (v := (z5 + 4)) dL_law_2642 (q := 7) rfl rfl (Nat.le_of_ble_eq_true rfl) rfl ?_
        refine v_goto (tgt := 28) dL_law_2645 (by decide) ?_
        refine v_sub [3, 4, 5, 6, 7, 0] rfl ?_
        refine v_widen B Bs (by omega) (by omega) ?_
        exact hK _ _
      · refine v_iconst (v := 0) dL_law_879 (by decide) ?_
        exact v_zret dL_law_880 rfl rfl rfl (by omega) (by omega)
  · refine v_iconst (v := 0) dL_law_862 (by decide) ?_
    exact v_zret dL_law_863 rfl rfl rfl (by omega) (by omega)
def f_L_c884 (g : GC) (K : Int32 → XW → Option (Int32 × XW)) (z5 : Int32) (w : XW) : Option (Int32 × XW) := (bI (f_X10_foldedCount w) (fun r1 w1 => (bI (f_X11_foldedCount w1) (fun r2 w2 => (if r1 = r2 then (K (z5 + 4) w2) else (some (0, w2)))))))
set_option maxRecDepth 100000 in
theorem S_L_c884 {g : GC} (hl : g.1.stackTraces = false) {K : Int32 → XW → Option (Int32 × XW)} {B Bs : Nat} (hB : B ≤ 603072) (hBs : Bs ≤ 7178346) (hK : ∀ (z5 : Int32) (w : XW), VE g cL_law 9 RL (some .boolean) [] room_1 603072 7178346 oI B Bs 28 [(0, .ref g.2.2.2.2.2.2.1), (1, .ref (g.2.1 + 0)), (2, .ref (g.2.1 + 141)), (3, .ref (g.2.1 + 150)), (4, .ref (g.2.1 + 151)), (5, .int z5)] [] w (K z5 w)) (z5 : Int32) (w : XW) (kc ks : Nat) (h1 : kc + 4 ≤ B) (h2 : ks + 24 ≤ Bs) : VE g cL_law 9 RL (some .boolean) [] room_1 603072 7178346 oI kc ks 884 [(0, .ref g.2.2.2.2.2.2.1), (1, .ref (g.2.1 + 0)), (2, .ref (g.2.1 + 141)), (3, .ref (g.2.1 + 150)), (4, .ref (g.2.1 + 151)), (5, .int z5)] [] w (f_L_c884 g K z5 w) := by
  unfold f_L_c884
  refine v_aload_n dL_law_884 rfl 1 rfl ?_
  refine v_callVi (As := []) cv_L_200 (S_X10_foldedCount hl) tt_0 rfl rfl rfl (Nat.le_of_ble_eq_true rfl) dL_law_885 (CR_law (by decide) (by decide) (by omega) (by omega)) (fun r1 w1 => ?_)
  refine v_aload_n dL_law_888 rfl 2 rfl ?_
  refine v_callVi (As := []) cv_L_203 (S_X11_foldedCount hl) tt_141 rfl rfl rfl (Nat.le_of_ble_eq_true rfl) dL_law_889 (CR_law (by decide) (by decide) (by omega) (by omega)) (fun r2 w2 => ?_)
  refine v_icmp_eq (tgt := 2642) dL_law_892 (by decide) ?_ ?_
  · refine v_iinc (v := (z5 + 4)) dL_law_2642 (q := 5) rfl rfl (Nat.le_of_ble_eq_true rfl) rfl ?_
    refine v_goto (tgt := 28) dL_law_2645 (by decide) ?_
    refine v_sub [1, 2, 3, 4, 5, 0] rfl ?_
    refine v_widen B Bs (by omega) (by omega) ?_
    exact hK _ _
  · refine v_iconst (v := 0) dL_law_895 (by decide) ?_
    exact v_zret dL_law_896 rfl rfl rfl (by omega) (by omega)
def f_L_c897 (g : GC) (K : Int32 → XW → Option (Int32 × XW)) (z5 : Int32) (w : XW) : Option (Int32 × XW) := (if inB (z5 + 1) g.2.2.2.2.2.2.2.1 then (bI (f_L_layerOf (g.2.2.2.2.2.2.2.2 (Int32.toNatClampNeg (z5 + 1))) w) (fun r2 w2 => (if inB (z5 + 1) g.2.2.2.2.2.2.2.1 then (bI (f_X11_layerOf (g.2.2.2.2.2.2.2.2 (Int32.toNatClampNeg (z5 + 1))) w2) (fun r4 w4 => (bI (f_X11_thrown w4) (fun r5 w5 => (if r5 = r2 then (if r2 = 0 then (if (lg_cmp w5.2.1 (Int32.toInt64 r4)) = 0 then (K (z5 + 4) w5) else (some (0, w5))) else (K (z5 + 4) w5)) else (some (0, w5))))))) else none))) else none)
set_option maxRecDepth 100000 in
theorem S_L_c897 {g : GC} (hl : g.1.stackTraces = false) {K : Int32 → XW → Option (Int32 × XW)} {B Bs : Nat} (hB : B ≤ 603072) (hBs : Bs ≤ 7178346) (hK : ∀ (z5 : Int32) (w : XW), VE g cL_law 9 RL (some .boolean) [] room_1 603072 7178346 oI B Bs 28 [(0, .ref g.2.2.2.2.2.2.1), (1, .ref (g.2.1 + 0)), (2, .ref (g.2.1 + 141)), (3, .ref (g.2.1 + 150)), (4, .ref (g.2.1 + 151)), (5, .int z5)] [] w (K z5 w)) (z5 : Int32) (w : XW) (kc ks : Nat) (h1 : kc + 4 ≤ B) (h2 : ks + 24 ≤ Bs) : VE g cL_law 9 RL (some .boolean) [] room_1 603072 7178346 oI kc ks 897 [(0, .ref g.2.2.2.2.2.2.1), (1, .ref (g.2.1 + 0)), (2, .ref (g.2.1 + 141)), (3, .ref (g.2.1 + 150)), (4, .ref (g.2.1 + 151)), (5, .int z5)] [] w (f_L_c897 g K z5 w) := by
  unfold f_L_c897
  refine v_aload_n dL_law_897 rfl 1 rfl ?_
  refine v_aload_n dL_law_898 rfl 0 rfl ?_
  refine v_iload dL_law_899 5 rfl ?_
  refine v_iconst (v := 1) dL_law_901 (by decide) ?_
  refine v_iadd dL_law_902 ?_
  refine v_guard (fun h1 => ?_)
  refine v_sld h1 dL_law_903 ?_
  refine v_aload_n dL_law_904 rfl 3 rfl ?_
  refine v_callSh (As := [.ref (g.2.1 + 0), .int (g.2.2.2.2.2.2.2.2 (Int32.toNatClampNeg (z5 + 1))), .ref (g.2.1 + 150)]) ch_L_204 (S_L_layerOf hl) rfl rfl (Nat.le_of_ble_eq_true rfl) dL_law_905 (CR_law (by decide) (by decide) (by omega) (by omega)) (fun r2 w2 => ?_)
  refine v_istore dL_law_908 (Nat.le_of_ble_eq_true rfl) rfl ?_
  refine v_aload_n dL_law_910 rfl 3 rfl ?_
  refine v_aload_n dL_law_911 rfl 1 rfl ?_
  refine v_iload dL_law_912 6 rfl ?_
  refine v_iconst (v := 1) dL_law_914 (by decide) ?_
  refine v_iadd dL_law_915 ?_
  refine v_guard (fun h3 => ?_)
  refine v_sld h3 dL_law_916 ?_
  refine v_callVi (As := [.int (g.2.2.2.2.2.2.2.2 (Int32.toNatClampNeg (z5 + 1)))]) cv_L_206 (S_X11_layerOf hl) tt_141 rfl rfl rfl (Nat.le_of_ble_eq_true rfl) dL_law_917 (CR_law (by decide) (by decide) (by omega) (by omega)) (fun r4 w4 => ?_)
  refine v_istore dL_law_920 (Nat.le_of_ble_eq_true rfl) rfl ?_
  refine v_aload_n dL_law_922 rfl 4 rfl ?_
  refine v_callVi (As := []) cv_L_162 (S_X11_thrown hl) tt_141 rfl rfl rfl (Nat.le_of_ble_eq_true rfl) dL_law_923 (CR_law (by decide) (by decide) (by omega) (by omega)) (fun r5 w5 => ?_)
  refine v_iload dL_law_926 1 rfl ?_
  refine v_icmp_eq (tgt := 933) dL_law_928 (by decide) ?_ ?_
  · refine v_iload dL_law_933 1 rfl ?_
    refine v_if_ne (tgt := 950) dL_law_935 (by decide) ?_ ?_
    · refine v_goto (tgt := 2642) dL_law_950 (by decide) ?_
      refine v_iinc (v := (z5 + 4)) dL_law_2642 (q := 7) rfl rfl (Nat.le_of_ble_eq_true rfl) rfl ?_
      refine v_goto (tgt := 28) dL_law_2645 (by decide) ?_
      refine v_sub [3, 4, 5, 6, 7, 0] rfl ?_
      refine v_widen B Bs (by omega) (by omega) ?_
      exact hK _ _
    · refine v_aload_n dL_law_938 rfl 5 rfl ?_
      refine v_iconst (v := 0) dL_law_939 (by decide) ?_
      refine v_lald0 dL_law_940 ?_
      refine v_iload dL_law_941 0 rfl ?_
      refine v_i2l dL_law_943 ?_
      refine v_lcmp dL_law_944 ?_
      refine v_if_eq (tgt := 950) dL_law_945 (by decide) ?_ ?_
      · refine v_goto (tgt := 2642) dL_law_950 (by decide) ?_
        refine v_iinc (v := (z5 + 4)) dL_law_2642 (q := 7) rfl rfl (Nat.le_of_ble_eq_true rfl) rfl ?_
        refine v_goto (tgt := 28) dL_law_2645 (by decide) ?_
        refine v_sub [3, 4, 5, 6, 7, 0] rfl ?_
        refine v_widen B Bs (by omega) (by omega) ?_
        exact hK _ _
      · refine v_iconst (v := 0) dL_law_948 (by decide) ?_
        exact v_zret dL_law_949 rfl rfl rfl (by omega) (by omega)
  · refine v_iconst (v := 0) dL_law_931 (by decide) ?_
    exact v_zret dL_law_932 rfl rfl rfl (by omega) (by omega)
def f_L_c953 (g : GC) (K : Int32 → XW → Option (Int32 × XW)) (z5 : Int32) (w : XW) : Option (Int32 × XW) := (if inB (z5 + 1) g.2.2.2.2.2.2.2.1 then (bI (f_L_sectionIn (g.2.2.2.2.2.2.2.2 (Int32.toNatClampNeg (z5 + 1))) w) (fun r2 w2 => (if inB (z5 + 1) g.2.2.2.2.2.2.2.1 then (bI (f_X11_sectionIn (g.2.2.2.2.2.2.2.2 (Int32.toNatClampNeg (z5 + 1))) w2) (fun r4 w4 => (bI (f_X11_thrown w4) (fun r5 w5 => (if r5 = r2 then (if r2 = 0 then (if (lg_cmp w5.2.1 (Int32.toInt64 r4)) = 0 then (K (z5 + 4) w5) else (some (0, w5))) else (K (z5 + 4) w5)) else (some (0, w5))))))) else none))) else none)
set_option maxRecDepth 100000 in
theorem S_L_c953 {g : GC} (hl : g.1.stackTraces = false) {K : Int32 → XW → Option (Int32 × XW)} {B Bs : Nat} (hB : B ≤ 603072) (hBs : Bs ≤ 7178346) (hK : ∀ (z5 : Int32) (w : XW), VE g cL_law 9 RL (some .boolean) [] room_1 603072 7178346 oI B Bs 28 [(0, .ref g.2.2.2.2.2.2.1), (1, .ref (g.2.1 + 0)), (2, .ref (g.2.1 + 141)), (3, .ref (g.2.1 + 150)), (4, .ref (g.2.1 + 151)), (5, .int z5)] [] w (K z5 w)) (z5 : Int32) (w : XW) (kc ks : Nat) (h1 : kc + 4 ≤ B) (h2 : ks + 24 ≤ Bs) : VE g cL_law 9 RL (some .boolean) [] room_1 603072 7178346 oI kc ks 953 [(0, .ref g.2.2.2.2.2.2.1), (1, .ref (g.2.1 + 0)), (2, .ref (g.2.1 + 141)), (3, .ref (g.2.1 + 150)), (4, .ref (g.2.1 + 151)), (5, .int z5)] [] w (f_L_c953 g K z5 w) := by
  unfold f_L_c953
  refine v_aload_n dL_law_953 rfl 1 rfl ?_
  refine v_aload_n dL_law_954 rfl 0 rfl ?_
  refine v_iload dL_law_955 5 rfl ?_
  refine v_iconst (v := 1) dL_law_957 (by decide) ?_
  refine v_iadd dL_law_958 ?_
  refine v_guard (fun h1 => ?_)
  refine v_sld h1 dL_law_959 ?_
  refine v_aload_n dL_law_960 rfl 3 rfl ?_
  refine v_callSh (As := [.ref (g.2.1 + 0), .int (g.2.2.2.2.2.2.2.2 (Int32.toNatClampNeg (z5 + 1))), .ref (g.2.1 + 150)]) ch_L_207 (S_L_sectionIn hl) rfl rfl (Nat.le_of_ble_eq_true rfl) dL_law_961 (CR_law (by decide) (by decide) (by omega) (by omega)) (fun r2 w2 => ?_)
  refine v_istore dL_law_964 (Nat.le_of_ble_eq_true rfl) rfl ?_
  refine v_aload_n dL_law_966 rfl 3 rfl ?_
  refine v_aload_n dL_law_967 rfl 1 rfl ?_
  refine v_iload dL_law_968 6 rfl ?_
  refine v_iconst (v := 1) dL_law_970 (by decide) ?_
  refine v_iadd dL_law_971 ?_
  refine v_guard (fun h3 => ?_)
  refine v_sld h3 dL_law_972 ?_
  refine v_callVi (As := [.int (g.2.2.2.2.2.2.2.2 (Int32.toNatClampNeg (z5 + 1)))]) cv_L_209 (S_X11_sectionIn hl) tt_141 rfl rfl rfl (Nat.le_of_ble_eq_true rfl) dL_law_973 (CR_law (by decide) (by decide) (by omega) (by omega)) (fun r4 w4 => ?_)
  refine v_istore dL_law_976 (Nat.le_of_ble_eq_true rfl) rfl ?_
  refine v_aload_n dL_law_978 rfl 4 rfl ?_
  refine v_callVi (As := []) cv_L_162 (S_X11_thrown hl) tt_141 rfl rfl rfl (Nat.le_of_ble_eq_true rfl) dL_law_979 (CR_law (by decide) (by decide) (by omega) (by omega)) (fun r5 w5 => ?_)
  refine v_iload dL_law_982 1 rfl ?_
  refine v_icmp_eq (tgt := 989) dL_law_984 (by decide) ?_ ?_
  · refine v_iload dL_law_989 1 rfl ?_
    refine v_if_ne (tgt := 1006) dL_law_991 (by decide) ?_ ?_
    · refine v_goto (tgt := 2642) dL_law_1006 (by decide) ?_
      refine v_iinc (v := (z5 + 4)) dL_law_2642 (q := 7) rfl rfl (Nat.le_of_ble_eq_true rfl) rfl ?_
      refine v_goto (tgt := 28) dL_law_2645 (by decide) ?_
      refine v_sub [3, 4, 5, 6, 7, 0] rfl ?_
      refine v_widen B Bs (by omega) (by omega) ?_
      exact hK _ _
    · refine v_aload_n dL_law_994 rfl 5 rfl ?_
      refine v_iconst (v := 0) dL_law_995 (by decide) ?_
      refine v_lald0 dL_law_996 ?_
      refine v_iload dL_law_997 0 rfl ?_
      refine v_i2l dL_law_999 ?_
      refine v_lcmp dL_law_1000 ?_
      refine v_if_eq (tgt := 1006) dL_law_1001 (by decide) ?_ ?_
      · refine v_goto (tgt := 2642) dL_law_1006 (by decide) ?_
        refine v_iinc (v := (z5 + 4)) dL_law_2642 (q := 7) rfl rfl (Nat.le_of_ble_eq_true rfl) rfl ?_
        refine v_goto (tgt := 28) dL_law_2645 (by decide) ?_
        refine v_sub [3, 4, 5, 6, 7, 0] rfl ?_
        refine v_widen B Bs (by omega) (by omega) ?_
        exact hK _ _
      · refine v_iconst (v := 0) dL_law_1004 (by decide) ?_
        exact v_zret dL_law_1005 rfl rfl rfl (by omega) (by omega)
  · refine v_iconst (v := 0) dL_law_987 (by decide) ?_
    exact v_zret dL_law_988 rfl rfl rfl (by omega) (by omega)
def f_L_c1009 (g : GC) (K : Int32 → XW → Option (Int32 × XW)) (z5 : Int32) (w : XW) : Option (Int32 × XW) := (if inB (z5 + 1) g.2.2.2.2.2.2.2.1 then (bI (f_L_canFold (g.2.2.2.2.2.2.2.2 (Int32.toNatClampNeg (z5 + 1))) w) (fun r2 w2 => (if inB (z5 + 1) g.2.2.2.2.2.2.2.1 then (bI (f_X11_canFold (g.2.2.2.2.2.2.2.2 (Int32.toNatClampNeg (z5 + 1))) w2) (fun r4 w4 => (bI (f_X11_thrown w4) (fun r5 w5 => (if r5 = r2 then (if r2 = 0 then (if r4 = 0 then (if (lg_cmp w5.2.1 0) = 0 then (K (z5 + 4) w5) else (some (0, w5))) else (if (lg_cmp w5.2.1 1) = 0 then (K (z5 + 4) w5) else (some (0, w5)))) else (K (z5 + 4) w5)) else (some (0, w5))))))) else none))) else none)
set_option maxRecDepth 100000 in
theorem S_L_c1009 {g : GC} (hl : g.1.stackTraces = false) {K : Int32 → XW → Option (Int32 × XW)} {B Bs : Nat} (hB : B ≤ 603072) (hBs : Bs ≤ 7178346) (hK : ∀ (z5 : Int32) (w : XW), VE g cL_law 9 RL (some .boolean) [] room_1 603072 7178346 oI B Bs 28 [(0, .ref g.2.2.2.2.2.2.1), (1, .ref (g.2.1 + 0)), (2, .ref (g.2.1 + 141)), (3, .ref (g.2.1 + 150)), (4, .ref (g.2.1 + 151)), (5, .int z5)] [] w (K z5 w)) (z5 : Int32) (w : XW) (kc ks : Nat) (h1 : kc + 4 ≤ B) (h2 : ks + 24 ≤ Bs) : VE g cL_law 9 RL (some .boolean) [] room_1 603072 7178346 oI kc ks 1009 [(0, .ref g.2.2.2.2.2.2.1), (1, .ref (g.2.1 + 0)), (2, .ref (g.2.1 + 141)), (3, .ref (g.2.1 + 150)), (4, .ref (g.2.1 + 151)), (5, .int z5)] [] w (f_L_c1009 g K z5 w) := by
  unfold f_L_c1009
  refine v_aload_n dL_law_1009 rfl 1 rfl ?_
  refine v_aload_n dL_law_1010 rfl 0 rfl ?_
  refine v_iload dL_law_1011 5 rfl ?_
  refine v_iconst (v := 1) dL_law_1013 (by decide) ?_
  refine v_iadd dL_law_1014 ?_
  refine v_guard (fun h1 => ?_)
  refine v_sld h1 dL_law_1015 ?_
  refine v_aload_n dL_law_1016 rfl 3 rfl ?_
  refine v_callSh (As := [.ref (g.2.1 + 0), .int (g.2.2.2.2.2.2.2.2 (Int32.toNatClampNeg (z5 + 1))), .ref (g.2.1 + 150)]) ch_L_210 (S_L_canFold hl) rfl rfl (Nat.le_of_ble_eq_true rfl) dL_law_1017 (CR_law (by decide) (by decide) (by omega) (by omega)) (fun r2 w2 => ?_)
  refine v_istore dL_law_1020 (Nat.le_of_ble_eq_true rfl) rfl ?_
  refine v_aload_n dL_law_1022 rfl 3 rfl ?_
  refine v_aload_n dL_law_1023 rfl 1 rfl ?_
  refine v_iload dL_law_1024 6 rfl ?_
  refine v_iconst (v := 1) dL_law_1026 (by decide) ?_
  refine v_iadd dL_law_1027 ?_
  refine v_guard (fun h3 => ?_)
  refine v_sld h3 dL_law_1028 ?_
  refine v_callVi (As := [.int (g.2.2.2.2.2.2.2.2 (Int32.toNatClampNeg (z5 + 1)))]) cv_L_212 (S_X11_canFold hl) tt_141 rfl rfl rfl (Nat.le_of_ble_eq_true rfl) dL_law_1029 (CR_law (by decide) (by decide) (by omega) (by omega)) (fun r4 w4 => ?_)
  refine v_istore dL_law_1032 (Nat.le_of_ble_eq_true rfl) rfl ?_
  refine v_aload_n dL_law_1034 rfl 4 rfl ?_
  refine v_callVi (As := []) cv_L_162 (S_X11_thrown hl) tt_141 rfl rfl rfl (Nat.le_of_ble_eq_true rfl) dL_law_1035 (CR_law (by decide) (by decide) (by omega) (by omega)) (fun r5 w5 => ?_)
  refine v_iload dL_law_1038 1 rfl ?_
  refine v_icmp_eq (tgt := 1045) dL_law_1040 (by decide) ?_ ?_
  · refine v_iload dL_law_1045 1 rfl ?_
    refine v_if_ne (tgt := 1069) dL_law_1047 (by decide) ?_ ?_
    · refine v_goto (tgt := 2642) dL_law_1069 (by decide) ?_
      refine v_iinc (v := (z5 + 4)) dL_law_2642 (q := 7) rfl rfl (Nat.le_of_ble_eq_true rfl) rfl ?_
      refine v_goto (tgt := 28) dL_law_2645 (by decide) ?_
      refine v_sub [3, 4, 5, 6, 7, 0] rfl ?_
      refine v_widen B Bs (by omega) (by omega) ?_
      exact hK _ _
    · refine v_aload_n dL_law_1050 rfl 5 rfl ?_
      refine v_iconst (v := 0) dL_law_1051 (by decide) ?_
      refine v_lald0 dL_law_1052 ?_
      refine v_iload dL_law_1053 0 rfl ?_
      refine v_if_eq (tgt := 1062) dL_law_1055 (by decide) ?_ ?_
      · refine v_lconst (v := 0) dL_law_1062 rfl ?_
        refine v_lcmp dL_law_1063 ?_
        refine v_if_eq (tgt := 1069) dL_law_1064 (by decide) ?_ ?_
        · refine v_goto (tgt := 2642) dL_law_1069 (by decide) ?_
          refine v_iinc (v := (z5 + 4)) dL_law_2642 (q := 7) rfl rfl (Nat.le_of_ble_eq_true rfl) rfl ?_
          refine v_goto (tgt := 28) dL_law_2645 (by decide) ?_
          refine v_sub [3, 4, 5, 6, 7, 0] rfl ?_
          refine v_widen B Bs (by omega) (by omega) ?_
          exact hK _ _
        · refine v_iconst (v := 0) dL_law_1067 (by decide) ?_
          exact v_zret dL_law_1068 rfl rfl rfl (by omega) (by omega)
      · refine v_lconst (v := 1) dL_law_1058 rfl ?_
        refine v_goto (tgt := 1063) dL_law_1059 (by decide) ?_
        refine v_lcmp dL_law_1063 ?_
        refine v_if_eq (tgt := 1069) dL_law_1064 (by decide) ?_ ?_
        · refine v_goto (tgt := 2642) dL_law_1069 (by decide) ?_
          refine v_iinc (v := (z5 + 4)) dL_law_2642 (q := 7) rfl rfl (Nat.le_of_ble_eq_true rfl) rfl ?_
          refine v_goto (tgt := 28) dL_law_2645 (by decide) ?_
          refine v_sub [3, 4, 5, 6, 7, 0] rfl ?_
          refine v_widen B Bs (by omega) (by omega) ?_
          exact hK _ _
        · refine v_iconst (v := 0) dL_law_1067 (by decide) ?_
          exact v_zret dL_law_1068 rfl rfl rfl (by omega) (by omega)
  · refine v_iconst (v := 0) dL_law_1043 (by decide) ?_
    exact v_zret dL_law_1044 rfl rfl rfl (by omega) (by omega)
def f_L_c1072 (g : GC) (K : Int32 → XW → Option (Int32 × XW)) (z5 : Int32) (w : XW) : Option (Int32 × XW) := (bI (f_X10_completions w) (fun r1 w1 => (bI (f_X11_completions w1) (fun r2 w2 => (if r1 = r2 then (K (z5 + 4) w2) else (some (0, w2)))))))
set_option maxRecDepth 100000 in
theorem S_L_c1072 {g : GC} (hl : g.1.stackTraces = false) {K : Int32 → XW → Option (Int32 × XW)} {B Bs : Nat} (hB : B ≤ 603072) (hBs : Bs ≤ 7178346) (hK : ∀ (z5 : Int32) (w : XW), VE g cL_law 9 RL (some .boolean) [] room_1 603072 7178346 oI B Bs 28 [(0, .ref g.2.2.2.2.2.2.1), (1, .ref (g.2.1 + 0)), (2, .ref (g.2.1 + 141)), (3, .ref (g.2.1 + 150)), (4, .ref (g.2.1 + 151)), (5, .int z5)] [] w (K z5 w)) (z5 : Int32) (w : XW) (kc ks : Nat) (h1 : kc + 4 ≤ B) (h2 : ks + 24 ≤ Bs) : VE g cL_law 9 RL (some .boolean) [] room_1 603072 7178346 oI kc ks 1072 [(0, .ref g.2.2.2.2.2.2.1), (1, .ref (g.2.1 + 0)), (2, .ref (g.2.1 + 141)), (3, .ref (g.2.1 + 150)), (4, .ref (g.2.1 + 151)), (5, .int z5)] [] w (f_L_c1072 g K z5 w) := by
  unfold f_L_c1072
  refine v_aload_n dL_law_1072 rfl 1 rfl ?_
  refine v_callVi (As := []) cv_L_213 (S_X10_completions hl) tt_0 rfl rfl rfl (Nat.le_of_ble_eq_true rfl) dL_law_1073 (CR_law (by decide) (by decide) (by omega) (by omega)) (fun r1 w1 => ?_)
  refine v_aload_n dL_law_1076 rfl 2 rfl ?_
  refine v_callVi (As := []) cv_L_216 (S_X11_completions hl) tt_141 rfl rfl rfl (Nat.le_of_ble_eq_true rfl) dL_law_1077 (CR_law (by decide) (by decide) (by omega) (by omega)) (fun r2 w2 => ?_)
  refine v_icmp_eq (tgt := 2642) dL_law_1080 (by decide) ?_ ?_
  · refine v_iinc (v := (z5 + 4)) dL_law_2642 (q := 5) rfl rfl (Nat.le_of_ble_eq_true rfl) rfl ?_
    refine v_goto (tgt := 28) dL_law_2645 (by decide) ?_
    refine v_sub [1, 2, 3, 4, 5, 0] rfl ?_
    refine v_widen B Bs (by omega) (by omega) ?_
    exact hK _ _
  · refine v_iconst (v := 0) dL_law_1083 (by decide) ?_
    exact v_zret dL_law_1084 rfl rfl rfl (by omega) (by omega)
def f_L_c1085 (g : GC) (K : Int32 → XW → Option (Int32 × XW)) (z5 : Int32) (w : XW) : Option (Int32 × XW) := (bI (f_X10_completionsByOrders w) (fun r1 w1 => (bI (f_X11_completionsByOrders w1) (fun r2 w2 => (if r1 = r2 then (K (z5 + 4) w2) else (some (0, w2)))))))
set_option maxRecDepth 100000 in
theorem S_L_c1085 {g : GC} (hl : g.1.stackTraces = false) {K : Int32 → XW → Option (Int32 × XW)} {B Bs : Nat} (hB : B ≤ 603072) (hBs : Bs ≤ 7178346) (hK : ∀ (z5 : Int32) (w : XW), VE g cL_law 9 RL (some .boolean) [] room_1 603072 7178346 oI B Bs 28 [(0, .ref g.2.2.2.2.2.2.1), (1, .ref (g.2.1 + 0)), (2, .ref (g.2.1 + 141)), (3, .ref (g.2.1 + 150)), (4, .ref (g.2.1 + 151)), (5, .int z5)] [] w (K z5 w)) (z5 : Int32) (w : XW) (kc ks : Nat) (h1 : kc + 4 ≤ B) (h2 : ks + 24 ≤ Bs) : VE g cL_law 9 RL (some .boolean) [] room_1 603072 7178346 oI kc ks 1085 [(0, .ref g.2.2.2.2.2.2.1), (1, .ref (g.2.1 + 0)), (2, .ref (g.2.1 + 141)), (3, .ref (g.2.1 + 150)), (4, .ref (g.2.1 + 151)), (5, .int z5)] [] w (f_L_c1085 g K z5 w) := by
  unfold f_L_c1085
  refine v_aload_n dL_law_1085 rfl 1 rfl ?_
  refine v_callVi (As := []) cv_L_217 (S_X10_completionsByOrders hl) tt_0 rfl rfl rfl (Nat.le_of_ble_eq_true rfl) dL_law_1086 (CR_law (by decide) (by decide) (by omega) (by omega)) (fun r1 w1 => ?_)
  refine v_aload_n dL_law_1089 rfl 2 rfl ?_
  refine v_callVi (As := []) cv_L_220 (S_X11_completionsByOrders hl) tt_141 rfl rfl rfl (Nat.le_of_ble_eq_true rfl) dL_law_1090 (CR_law (by decide) (by decide) (by omega) (by omega)) (fun r2 w2 => ?_)
  refine v_icmp_eq (tgt := 2642) dL_law_1093 (by decide) ?_ ?_
  · refine v_iinc (v := (z5 + 4)) dL_law_2642 (q := 5) rfl rfl (Nat.le_of_ble_eq_true rfl) rfl ?_
    refine v_goto (tgt := 28) dL_law_2645 (by decide) ?_
    refine v_sub [1, 2, 3, 4, 5, 0] rfl ?_
    refine v_widen B Bs (by omega) (by omega) ?_
    exact hK _ _
  · refine v_iconst (v := 0) dL_law_1096 (by decide) ?_
    exact v_zret dL_law_1097 rfl rfl rfl (by omega) (by omega)
def f_L_c1098 (g : GC) (K : Int32 → XW → Option (Int32 × XW)) (z5 : Int32) (w : XW) : Option (Int32 × XW) := (if inB (z5 + 1) g.2.2.2.2.2.2.2.1 then (if inB (z5 + 2) g.2.2.2.2.2.2.2.1 then (if inB (z5 + 3) g.2.2.2.2.2.2.2.1 then (bI (f_L_layPipe (g.2.2.2.2.2.2.2.2 (Int32.toNatClampNeg (z5 + 1))) (g.2.2.2.2.2.2.2.2 (Int32.toNatClampNeg (z5 + 2))) (g.2.2.2.2.2.2.2.2 (Int32.toNatClampNeg (z5 + 3))) w) (fun r4 w4 => (if inB (z5 + 1) g.2.2.2.2.2.2.2.1 then (if inB (z5 + 2) g.2.2.2.2.2.2.2.1 then (if inB (z5 + 3) g.2.2.2.2.2.2.2.1 then (bI (f_X11_layPipe (g.2.2.2.2.2.2.2.2 (Int32.toNatClampNeg (z5 + 1))) (g.2.2.2.2.2.2.2.2 (Int32.toNatClampNeg (z5 + 2))) (g.2.2.2.2.2.2.2.2 (Int32.toNatClampNeg (z5 + 3))) w4) (fun r8 w8 => (bI (f_X11_thrown w8) (fun r9 w9 => (if r9 = r4 then (if r4 = 0 then (if (lg_cmp w9.2.1 (Int32.toInt64 r8)) = 0 then (K (z5 + 4) w9) else (some (0, w9))) else (K (z5 + 4) w9)) else (some (0, w9))))))) else none) else none) else none))) else none) else none) else none)
set_option maxRecDepth 100000 in
theorem S_L_c1098 {g : GC} (hl : g.1.stackTraces = false) {K : Int32 → XW → Option (Int32 × XW)} {B Bs : Nat} (hB : B ≤ 603072) (hBs : Bs ≤ 7178346) (hK : ∀ (z5 : Int32) (w : XW), VE g cL_law 9 RL (some .boolean) [] room_1 603072 7178346 oI B Bs 28 [(0, .ref g.2.2.2.2.2.2.1), (1, .ref (g.2.1 + 0)), (2, .ref (g.2.1 + 141)), (3, .ref (g.2.1 + 150)), (4, .ref (g.2.1 + 151)), (5, .int z5)] [] w (K z5 w)) (z5 : Int32) (w : XW) (kc ks : Nat) (h1 : kc + 4 ≤ B) (h2 : ks + 24 ≤ Bs) : VE g cL_law 9 RL (some .boolean) [] room_1 603072 7178346 oI kc ks 1098 [(0, .ref g.2.2.2.2.2.2.1), (1, .ref (g.2.1 + 0)), (2, .ref (g.2.1 + 141)), (3, .ref (g.2.1 + 150)), (4, .ref (g.2.1 + 151)), (5, .int z5)] [] w (f_L_c1098 g K z5 w) := by
  unfold f_L_c1098
  refine v_aload_n dL_law_1098 rfl 1 rfl ?_
  refine v_aload_n dL_law_1099 rfl 0 rfl ?_
  refine v_iload dL_law_1100 5 rfl ?_
  refine v_iconst (v := 1) dL_law_1102 (by decide) ?_
  refine v_iadd dL_law_1103 ?_
  refine v_guard (fun h1 => ?_)
  refine v_sld h1 dL_law_1104 ?_
  refine v_aload_n dL_law_1105 rfl 0 rfl ?_
  refine v_iload dL_law_1106 5 rfl ?_
  refine v_iconst (v := 2) dL_law_1108 (by decide) ?_
  refine v_iadd dL_law_1109 ?_
  refine v_guard (fun h2 => ?_)
  refine v_sld h2 dL_law_1110 ?_
  refine v_aload_n dL_law_1111 rfl 0 rfl ?_
  refine v_iload dL_law_1112 5 rfl ?_
  refine v_iconst (v := 3) dL_law_1114 (by decide) ?_
  refine v_iadd dL_law_1115 ?_
  refine v_guard (fun h3 => ?_)
  refine v_sld h3 dL_law_1116 ?_
  refine v_aload_n dL_law_1117 rfl 3 rfl ?_
  refine v_callSh (As := [.ref (g.2.1 + 0), .int (g.2.2.2.2.2.2.2.2 (Int32.toNatClampNeg (z5 + 1))), .int (g.2.2.2.2.2.2.2.2 (Int32.toNatClampNeg (z5 + 2))), .int (g.2.2.2.2.2.2.2.2 (Int32.toNatClampNeg (z5 + 3))), .ref (g.2.1 + 150)]) ch_L_221 (S_L_layPipe hl) rfl rfl (Nat.le_of_ble_eq_true rfl) dL_law_1118 (CR_law (by decide) (by decide) (by omega) (by omega)) (fun r4 w4 => ?_)
  refine v_istore dL_law_1121 (Nat.le_of_ble_eq_true rfl) rfl ?_
  refine v_aload_n dL_law_1123 rfl 3 rfl ?_
  refine v_aload_n dL_law_1124 rfl 1 rfl ?_
  refine v_iload dL_law_1125 6 rfl ?_
  refine v_iconst (v := 1) dL_law_1127 (by decide) ?_
  refine v_iadd dL_law_1128 ?_
  refine v_guard (fun h5 => ?_)
  refine v_sld h5 dL_law_1129 ?_
  refine v_aload_n dL_law_1130 rfl 1 rfl ?_
  refine v_iload dL_law_1131 6 rfl ?_
  refine v_iconst (v := 2) dL_law_1133 (by decide) ?_
  refine v_iadd dL_law_1134 ?_
  refine v_guard (fun h6 => ?_)
  refine v_sld h6 dL_law_1135 ?_
  refine v_aload_n dL_law_1136 rfl 1 rfl ?_
  refine v_iload dL_law_1137 6 rfl ?_
  refine v_iconst (v := 3) dL_law_1139 (by decide) ?_
  refine v_iadd dL_law_1140 ?_
  refine v_guard (fun h7 => ?_)
  refine v_sld h7 dL_law_1141 ?_
  refine v_callVi (As := [.int (g.2.2.2.2.2.2.2.2 (Int32.toNatClampNeg (z5 + 1))), .int (g.2.2.2.2.2.2.2.2 (Int32.toNatClampNeg (z5 + 2))), .int (g.2.2.2.2.2.2.2.2 (Int32.toNatClampNeg (z5 + 3)))]) cv_L_224 (S_X11_layPipe hl) tt_141 rfl rfl rfl (Nat.le_of_ble_eq_true rfl) dL_law_1142 (CR_law (by decide) (by decide) (by omega) (by omega)) (fun r8 w8 => ?_)
  refine v_istore dL_law_1145 (Nat.le_of_ble_eq_true rfl) rfl ?_
  refine v_aload_n dL_law_1147 rfl 4 rfl ?_
  refine v_callVi (As := []) cv_L_162 (S_X11_thrown hl) tt_141 rfl rfl rfl (Nat.le_of_ble_eq_true rfl) dL_law_1148 (CR_law (by decide) (by decide) (by omega) (by omega)) (fun r9 w9 => ?_)
  refine v_iload dL_law_1151 1 rfl ?_
  refine v_icmp_eq (tgt := 1158) dL_law_1153 (by decide) ?_ ?_
  · refine v_iload dL_law_1158 1 rfl ?_
    refine v_if_ne (tgt := 1175) dL_law_1160 (by decide) ?_ ?_
    · refine v_goto (tgt := 2642) dL_law_1175 (by decide) ?_
      refine v_iinc (v := (z5 + 4)) dL_law_2642 (q := 7) rfl rfl (Nat.le_of_ble_eq_true rfl) rfl ?_
      refine v_goto (tgt := 28) dL_law_2645 (by decide) ?_
      refine v_sub [3, 4, 5, 6, 7, 0] rfl ?_
      refine v_widen B Bs (by omega) (by omega) ?_
      exact hK _ _
    · refine v_aload_n dL_law_1163 rfl 5 rfl ?_
      refine v_iconst (v := 0) dL_law_1164 (by decide) ?_
      refine v_lald0 dL_law_1165 ?_
      refine v_iload dL_law_1166 0 rfl ?_
      refine v_i2l dL_law_1168 ?_
      refine v_lcmp dL_law_1169 ?_
      refine v_if_eq (tgt := 1175) dL_law_1170 (by decide) ?_ ?_
      · refine v_goto (tgt := 2642) dL_law_1175 (by decide) ?_
        refine v_iinc (v := (z5 + 4)) dL_law_2642 (q := 7) rfl rfl (Nat.le_of_ble_eq_true rfl) rfl ?_
        refine v_goto (tgt := 28) dL_law_2645 (by decide) ?_
        refine v_sub [3, 4, 5, 6, 7, 0] rfl ?_
        refine v_widen B Bs (by omega) (by omega) ?_
        exact hK _ _
      · refine v_iconst (v := 0) dL_law_1173 (by decide) ?_
        exact v_zret dL_law_1174 rfl rfl rfl (by omega) (by omega)
  · refine v_iconst (v := 0) dL_law_1156 (by decide) ?_
    exact v_zret dL_law_1157 rfl rfl rfl (by omega) (by omega)
def f_L_c1178 (g : GC) (K : Int32 → XW → Option (Int32 × XW)) (z5 : Int32) (w : XW) : Option (Int32 × XW) := (if inB (z5 + 1) g.2.2.2.2.2.2.2.1 then (bI (f_L_removePipe (g.2.2.2.2.2.2.2.2 (Int32.toNatClampNeg (z5 + 1))) w) (fun r2 w2 => (if inB (z5 + 1) g.2.2.2.2.2.2.2.1 then (bI (f_X11_removePipe (g.2.2.2.2.2.2.2.2 (Int32.toNatClampNeg (z5 + 1))) w2) (fun r4 w4 => (bI (f_X11_thrown w4) (fun r5 w5 => (if r5 = r2 then (if r2 = 0 then (if (lg_cmp w5.2.1 (Int32.toInt64 r4)) = 0 then (K (z5 + 4) w5) else (some (0, w5))) else (K (z5 + 4) w5)) else (some (0, w5))))))) else none))) else none)
set_option maxRecDepth 100000 in
theorem S_L_c1178 {g : GC} (hl : g.1.stackTraces = false) {K : Int32 → XW → Option (Int32 × XW)} {B Bs : Nat} (hB : B ≤ 603072) (hBs : Bs ≤ 7178346) (hK : ∀ (z5 : Int32) (w : XW), VE g cL_law 9 RL (some .boolean) [] room_1 603072 7178346 oI B Bs 28 [(0, .ref g.2.2.2.2.2.2.1), (1, .ref (g.2.1 + 0)), (2, .ref (g.2.1 + 141)), (3, .ref (g.2.1 + 150)), (4, .ref (g.2.1 + 151)), (5, .int z5)] [] w (K z5 w)) (z5 : Int32) (w : XW) (kc ks : Nat) (h1 : kc + 4 ≤ B) (h2 : ks + 24 ≤ Bs) : VE g cL_law 9 RL (some .boolean) [] room_1 603072 7178346 oI kc ks 1178 [(0, .ref g.2.2.2.2.2.2.1), (1, .ref (g.2.1 + 0)), (2, .ref (g.2.1 + 141)), (3, .ref (g.2.1 + 150)), (4, .ref (g.2.1 + 151)), (5, .int z5)] [] w (f_L_c1178 g K z5 w) := by
  unfold f_L_c1178
  refine v_aload_n dL_law_1178 rfl 1 rfl ?_
  refine v_aload_n dL_law_1179 rfl 0 rfl ?_
  refine v_iload dL_law_1180 5 rfl ?_
  refine v_iconst (v := 1) dL_law_1182 (by decide) ?_
  refine v_iadd dL_law_1183 ?_
  refine v_guard (fun h1 => ?_)
  refine v_sld h1 dL_law_1184 ?_
  refine v_aload_n dL_law_1185 rfl 3 rfl ?_
  refine v_callSh (As := [.ref (g.2.1 + 0), .int (g.2.2.2.2.2.2.2.2 (Int32.toNatClampNeg (z5 + 1))), .ref (g.2.1 + 150)]) ch_L_225 (S_L_removePipe hl) rfl rfl (Nat.le_of_ble_eq_true rfl) dL_law_1186 (CR_law (by decide) (by decide) (by omega) (by omega)) (fun r2 w2 => ?_)
  refine v_istore dL_law_1189 (Nat.le_of_ble_eq_true rfl) rfl ?_
  refine v_aload_n dL_law_1191 rfl 3 rfl ?_
  refine v_aload_n dL_law_1192 rfl 1 rfl ?_
  refine v_iload dL_law_1193 6 rfl ?_
  refine v_iconst (v := 1) dL_law_1195 (by decide) ?_
  refine v_iadd dL_law_1196 ?_
  refine v_guard (fun h3 => ?_)
  refine v_sld h3 dL_law_1197 ?_
  refine v_callVi (As := [.int (g.2.2.2.2.2.2.2.2 (Int32.toNatClampNeg (z5 + 1)))]) cv_L_227 (S_X11_removePipe hl) tt_141 rfl rfl rfl (Nat.le_of_ble_eq_true rfl) dL_law_1198 (CR_law (by decide) (by decide) (by omega) (by omega)) (fun r4 w4 => ?_)
  refine v_istore dL_law_1201 (Nat.le_of_ble_eq_true rfl) rfl ?_
  refine v_aload_n dL_law_1203 rfl 4 rfl ?_
  refine v_callVi (As := []) cv_L_162 (S_X11_thrown hl) tt_141 rfl rfl rfl (Nat.le_of_ble_eq_true rfl) dL_law_1204 (CR_law (by decide) (by decide) (by omega) (by omega)) (fun r5 w5 => ?_)
  refine v_iload dL_law_1207 1 rfl ?_
  refine v_icmp_eq (tgt := 1214) dL_law_1209 (by decide) ?_ ?_
  · refine v_iload dL_law_1214 1 rfl ?_
    refine v_if_ne (tgt := 1231) dL_law_1216 (by decide) ?_ ?_
    · refine v_goto (tgt := 2642) dL_law_1231 (by decide) ?_
      refine v_iinc (v := (z5 + 4)) dL_law_2642 (q := 7) rfl rfl (Nat.le_of_ble_eq_true rfl) rfl ?_
      refine v_goto (tgt := 28) dL_law_2645 (by decide) ?_
      refine v_sub [3, 4, 5, 6, 7, 0] rfl ?_
      refine v_widen B Bs (by omega) (by omega) ?_
      exact hK _ _
    · refine v_aload_n dL_law_1219 rfl 5 rfl ?_
      refine v_iconst (v := 0) dL_law_1220 (by decide) ?_
      refine v_lald0 dL_law_1221 ?_
      refine v_iload dL_law_1222 0 rfl ?_
      refine v_i2l dL_law_1224 ?_
      refine v_lcmp dL_law_1225 ?_
      refine v_if_eq (tgt := 1231) dL_law_1226 (by decide) ?_ ?_
      · refine v_goto (tgt := 2642) dL_law_1231 (by decide) ?_
        refine v_iinc (v := (z5 + 4)) dL_law_2642 (q := 7) rfl rfl (Nat.le_of_ble_eq_true rfl) rfl ?_
        refine v_goto (tgt := 28) dL_law_2645 (by decide) ?_
        refine v_sub [3, 4, 5, 6, 7, 0] rfl ?_
        refine v_widen B Bs (by omega) (by omega) ?_
        exact hK _ _
      · refine v_iconst (v := 0) dL_law_1229 (by decide) ?_
        exact v_zret dL_law_1230 rfl rfl rfl (by omega) (by omega)
  · refine v_iconst (v := 0) dL_law_1212 (by decide) ?_
    exact v_zret dL_law_1213 rfl rfl rfl (by omega) (by omega)
def f_L_c1234 (g : GC) (K : Int32 → XW → Option (Int32 × XW)) (z5 : Int32) (w : XW) : Option (Int32 × XW) := (if inB (z5 + 1) g.2.2.2.2.2.2.2.1 then (bI (f_L_breakPipe (g.2.2.2.2.2.2.2.2 (Int32.toNatClampNeg (z5 + 1))) w) (fun r2 w2 => (if inB (z5 + 1) g.2.2.2.2.2.2.2.1 then (bI (f_X11_breakPipe (g.2.2.2.2.2.2.2.2 (Int32.toNatClampNeg (z5 + 1))) w2) (fun r4 w4 => (bI (f_X11_thrown w4) (fun r5 w5 => (if r5 = r2 then (if r2 = 0 then (if (lg_cmp w5.2.1 (Int32.toInt64 r4)) = 0 then (K (z5 + 4) w5) else (some (0, w5))) else (K (z5 + 4) w5)) else (some (0, w5))))))) else none))) else none)
set_option maxRecDepth 100000 in
theorem S_L_c1234 {g : GC} (hl : g.1.stackTraces = false) {K : Int32 → XW → Option (Int32 × XW)} {B Bs : Nat} (hB : B ≤ 603072) (hBs : Bs ≤ 7178346) (hK : ∀ (z5 : Int32) (w : XW), VE g cL_law 9 RL (some .boolean) [] room_1 603072 7178346 oI B Bs 28 [(0, .ref g.2.2.2.2.2.2.1), (1, .ref (g.2.1 + 0)), (2, .ref (g.2.1 + 141)), (3, .ref (g.2.1 + 150)), (4, .ref (g.2.1 + 151)), (5, .int z5)] [] w (K z5 w)) (z5 : Int32) (w : XW) (kc ks : Nat) (h1 : kc + 4 ≤ B) (h2 : ks + 24 ≤ Bs) : VE g cL_law 9 RL (some .boolean) [] room_1 603072 7178346 oI kc ks 1234 [(0, .ref g.2.2.2.2.2.2.1), (1, .ref (g.2.1 + 0)), (2, .ref (g.2.1 + 141)), (3, .ref (g.2.1 + 150)), (4, .ref (g.2.1 + 151)), (5, .int z5)] [] w (f_L_c1234 g K z5 w) := by
  unfold f_L_c1234
  refine v_aload_n dL_law_1234 rfl 1 rfl ?_
  refine v_aload_n dL_law_1235 rfl 0 rfl ?_
  refine v_iload dL_law_1236 5 rfl ?_
  refine v_iconst (v := 1) dL_law_1238 (by decide) ?_
  refine v_iadd dL_law_1239 ?_
  refine v_guard (fun h1 => ?_)
  refine v_sld h1 dL_law_1240 ?_
  refine v_aload_n dL_law_1241 rfl 3 rfl ?_
  refine v_callSh (As := [.ref (g.2.1 + 0), .int (g.2.2.2.2.2.2.2.2 (Int32.toNatClampNeg (z5 + 1))), .ref (g.2.1 + 150)]) ch_L_228 (S_L_breakPipe hl) rfl rfl (Nat.le_of_ble_eq_true rfl) dL_law_1242 (CR_law (by decide) (by decide) (by omega) (by omega)) (fun r2 w2 => ?_)
  refine v_istore dL_law_1245 (Nat.le_of_ble_eq_true rfl) rfl ?_
  refine v_aload_n dL_law_1247 rfl 3 rfl ?_
  refine v_aload_n dL_law_1248 rfl 1 rfl ?_
  refine v_iload dL_law_1249 6 rfl ?_
  refine v_iconst (v := 1) dL_law_1251 (by decide) ?_
  refine v_iadd dL_law_1252 ?_
  refine v_guard (fun h3 => ?_)
  refine v_sld h3 dL_law_1253 ?_
  refine v_callVi (As := [.int (g.2.2.2.2.2.2.2.2 (Int32.toNatClampNeg (z5 + 1)))]) cv_L_230 (S_X11_breakPipe hl) tt_141 rfl rfl rfl (Nat.le_of_ble_eq_true rfl) dL_law_1254 (CR_law (by decide) (by decide) (by omega) (by omega)) (fun r4 w4 => ?_)
  refine v_istore dL_law_1257 (Nat.le_of_ble_eq_true rfl) rfl ?_
  refine v_aload_n dL_law_1259 rfl 4 rfl ?_
  refine v_callVi (As := []) cv_L_162 (S_X11_thrown hl) tt_141 rfl rfl rfl (Nat.le_of_ble_eq_true rfl) dL_law_1260 (CR_law (by decide) (by decide) (by omega) (by omega)) (fun r5 w5 => ?_)
  refine v_iload dL_law_1263 1 rfl ?_
  refine v_icmp_eq (tgt := 1270) dL_law_1265 (by decide) ?_ ?_
  · refine v_iload dL_law_1270 1 rfl ?_
    refine v_if_ne (tgt := 1287) dL_law_1272 (by decide) ?_ ?_
    · refine v_goto (tgt := 2642) dL_law_1287 (by decide) ?_
      refine v_iinc (v := (z5 + 4)) dL_law_2642 (q := 7) rfl rfl (Nat.le_of_ble_eq_true rfl) rfl ?_
      refine v_goto (tgt := 28) dL_law_2645 (by decide) ?_
      refine v_sub [3, 4, 5, 6, 7, 0] rfl ?_
      refine v_widen B Bs (by omega) (by omega) ?_
      exact hK _ _
    · refine v_aload_n dL_law_1275 rfl 5 rfl ?_
      refine v_iconst (v := 0) dL_law_1276 (by decide) ?_
      refine v_lald0 dL_law_1277 ?_
      refine v_iload dL_law_1278 0 rfl ?_
      refine v_i2l dL_law_1280 ?_
      refine v_lcmp dL_law_1281 ?_
      refine v_if_eq (tgt := 1287) dL_law_1282 (by decide) ?_ ?_
      · refine v_goto (tgt := 2642) dL_law_1287 (by decide) ?_
        refine v_iinc (v := (z5 + 4)) dL_law_2642 (q := 7) rfl rfl (Nat.le_of_ble_eq_true rfl) rfl ?_
        refine v_goto (tgt := 28) dL_law_2645 (by decide) ?_
        refine v_sub [3, 4, 5, 6, 7, 0] rfl ?_
        refine v_widen B Bs (by omega) (by omega) ?_
        exact hK _ _
      · refine v_iconst (v := 0) dL_law_1285 (by decide) ?_
        exact v_zret dL_law_1286 rfl rfl rfl (by omega) (by omega)
  · refine v_iconst (v := 0) dL_law_1268 (by decide) ?_
    exact v_zret dL_law_1269 rfl rfl rfl (by omega) (by omega)
def f_L_c1290 (g : GC) (K : Int32 → XW → Option (Int32 × XW)) (z5 : Int32) (w : XW) : Option (Int32 × XW) := (if inB (z5 + 1) g.2.2.2.2.2.2.2.1 then (bI (f_L_mendPipe (g.2.2.2.2.2.2.2.2 (Int32.toNatClampNeg (z5 + 1))) w) (fun r2 w2 => (if inB (z5 + 1) g.2.2.2.2.2.2.2.1 then (bI (f_X11_mendPipe (g.2.2.2.2.2.2.2.2 (Int32.toNatClampNeg (z5 + 1))) w2) (fun r4 w4 => (bI (f_X11_thrown w4) (fun r5 w5 => (if r5 = r2 then (if r2 = 0 then (if (lg_cmp w5.2.1 (Int32.toInt64 r4)) = 0 then (K (z5 + 4) w5) else (some (0, w5))) else (K (z5 + 4) w5)) else (some (0, w5))))))) else none))) else none)
set_option maxRecDepth 100000 in
theorem S_L_c1290 {g : GC} (hl : g.1.stackTraces = false) {K : Int32 → XW → Option (Int32 × XW)} {B Bs : Nat} (hB : B ≤ 603072) (hBs : Bs ≤ 7178346) (hK : ∀ (z5 : Int32) (w : XW), VE g cL_law 9 RL (some .boolean) [] room_1 603072 7178346 oI B Bs 28 [(0, .ref g.2.2.2.2.2.2.1), (1, .ref (g.2.1 + 0)), (2, .ref (g.2.1 + 141)), (3, .ref (g.2.1 + 150)), (4, .ref (g.2.1 + 151)), (5, .int z5)] [] w (K z5 w)) (z5 : Int32) (w : XW) (kc ks : Nat) (h1 : kc + 4 ≤ B) (h2 : ks + 24 ≤ Bs) : VE g cL_law 9 RL (some .boolean) [] room_1 603072 7178346 oI kc ks 1290 [(0, .ref g.2.2.2.2.2.2.1), (1, .ref (g.2.1 + 0)), (2, .ref (g.2.1 + 141)), (3, .ref (g.2.1 + 150)), (4, .ref (g.2.1 + 151)), (5, .int z5)] [] w (f_L_c1290 g K z5 w) := by
  unfold f_L_c1290
  refine v_aload_n dL_law_1290 rfl 1 rfl ?_
  refine v_aload_n dL_law_1291 rfl 0 rfl ?_
  refine v_iload dL_law_1292 5 rfl ?_
  refine v_iconst (v := 1) dL_law_1294 (by decide) ?_
  refine v_iadd dL_law_1295 ?_
  refine v_guard (fun h1 => ?_)
  refine v_sld h1 dL_law_1296 ?_
  refine v_aload_n dL_law_1297 rfl 3 rfl ?_
  refine v_callSh (As := [.ref (g.2.1 + 0), .int (g.2.2.2.2.2.2.2.2 (Int32.toNatClampNeg (z5 + 1))), .ref (g.2.1 + 150)]) ch_L_231 (S_L_mendPipe hl) rfl rfl (Nat.le_of_ble_eq_true rfl) dL_law_1298 (CR_law (by decide) (by decide) (by omega) (by omega)) (fun r2 w2 => ?_)
  refine v_istore dL_law_1301 (Nat.le_of_ble_eq_true rfl) rfl ?_
  refine v_aload_n dL_law_1303 rfl 3 rfl ?_
  refine v_aload_n dL_law_1304 rfl 1 rfl ?_
  refine v_iload dL_law_1305 6 rfl ?_
  refine v_iconst (v := 1) dL_law_1307 (by decide) ?_
  refine v_iadd dL_law_1308 ?_
  refine v_guard (fun h3 => ?_)
  refine v_sld h3 dL_law_1309 ?_
  refine v_callVi (As := [.int (g.2.2.2.2.2.2.2.2 (Int32.toNatClampNeg (z5 + 1)))]) cv_L_233 (S_X11_mendPipe hl) tt_141 rfl rfl rfl (Nat.le_of_ble_eq_true rfl) dL_law_1310 (CR_law (by decide) (by decide) (by omega) (by omega)) (fun r4 w4 => ?_)
  refine v_istore dL_law_1313 (Nat.le_of_ble_eq_true rfl) rfl ?_
  refine v_aload_n dL_law_1315 rfl 4 rfl ?_
  refine v_callVi (As := []) cv_L_162 (S_X11_thrown hl) tt_141 rfl rfl rfl (Nat.le_of_ble_eq_true rfl) dL_law_1316 (CR_law (by decide) (by decide) (by omega) (by omega)) (fun r5 w5 => ?_)
  refine v_iload dL_law_1319 1 rfl ?_
  refine v_icmp_eq (tgt := 1326) dL_law_1321 (by decide) ?_ ?_
  · refine v_iload dL_law_1326 1 rfl ?_
    refine v_if_ne (tgt := 1343) dL_law_1328 (by decide) ?_ ?_
    · refine v_goto (tgt := 2642) dL_law_1343 (by decide) ?_
      refine v_iinc (v := (z5 + 4)) dL_law_2642 (q := 7) rfl rfl (Nat.le_of_ble_eq_true rfl) rfl ?_
      refine v_goto (tgt := 28) dL_law_2645 (by decide) ?_
      refine v_sub [3, 4, 5, 6, 7, 0] rfl ?_
      refine v_widen B Bs (by omega) (by omega) ?_
      exact hK _ _
    · refine v_aload_n dL_law_1331 rfl 5 rfl ?_
      refine v_iconst (v := 0) dL_law_1332 (by decide) ?_
      refine v_lald0 dL_law_1333 ?_
      refine v_iload dL_law_1334 0 rfl ?_
      refine v_i2l dL_law_1336 ?_
      refine v_lcmp dL_law_1337 ?_
      refine v_if_eq (tgt := 1343) dL_law_1338 (by decide) ?_ ?_
      · refine v_goto (tgt := 2642) dL_law_1343 (by decide) ?_
        refine v_iinc (v := (z5 + 4)) dL_law_2642 (q := 7) rfl rfl (Nat.le_of_ble_eq_true rfl) rfl ?_
        refine v_goto (tgt := 28) dL_law_2645 (by decide) ?_
        refine v_sub [3, 4, 5, 6, 7, 0] rfl ?_
        refine v_widen B Bs (by omega) (by omega) ?_
        exact hK _ _
      · refine v_iconst (v := 0) dL_law_1341 (by decide) ?_
        exact v_zret dL_law_1342 rfl rfl rfl (by omega) (by omega)
  · refine v_iconst (v := 0) dL_law_1324 (by decide) ?_
    exact v_zret dL_law_1325 rfl rfl rfl (by omega) (by omega)
def f_L_c1346 (g : GC) (K : Int32 → XW → Option (Int32 × XW)) (z5 : Int32) (w : XW) : Option (Int32 × XW) := (bI (f_X10_pipeCount w) (fun r1 w1 => (bI (f_X11_pipeCount w1) (fun r2 w2 => (if r1 = r2 then (K (z5 + 4) w2) else (some (0, w2)))))))
set_option maxRecDepth 100000 in
theorem S_L_c1346 {g : GC} (hl : g.1.stackTraces = false) {K : Int32 → XW → Option (Int32 × XW)} {B Bs : Nat} (hB : B ≤ 603072) (hBs : Bs ≤ 7178346) (hK : ∀ (z5 : Int32) (w : XW), VE g cL_law 9 RL (some .boolean) [] room_1 603072 7178346 oI B Bs 28 [(0, .ref g.2.2.2.2.2.2.1), (1, .ref (g.2.1 + 0)), (2, .ref (g.2.1 + 141)), (3, .ref (g.2.1 + 150)), (4, .ref (g.2.1 + 151)), (5, .int z5)] [] w (K z5 w)) (z5 : Int32) (w : XW) (kc ks : Nat) (h1 : kc + 4 ≤ B) (h2 : ks + 24 ≤ Bs) : VE g cL_law 9 RL (some .boolean) [] room_1 603072 7178346 oI kc ks 1346 [(0, .ref g.2.2.2.2.2.2.1), (1, .ref (g.2.1 + 0)), (2, .ref (g.2.1 + 141)), (3, .ref (g.2.1 + 150)), (4, .ref (g.2.1 + 151)), (5, .int z5)] [] w (f_L_c1346 g K z5 w) := by
  unfold f_L_c1346
  refine v_aload_n dL_law_1346 rfl 1 rfl ?_
  refine v_callVi (As := []) cv_L_234 (S_X10_pipeCount hl) tt_0 rfl rfl rfl (Nat.le_of_ble_eq_true rfl) dL_law_1347 (CR_law (by decide) (by decide) (by omega) (by omega)) (fun r1 w1 => ?_)
  refine v_aload_n dL_law_1350 rfl 2 rfl ?_
  refine v_callVi (As := []) cv_L_237 (S_X11_pipeCount hl) tt_141 rfl rfl rfl (Nat.le_of_ble_eq_true rfl) dL_law_1351 (CR_law (by decide) (by decide) (by omega) (by omega)) (fun r2 w2 => ?_)
  refine v_icmp_eq (tgt := 2642) dL_law_1354 (by decide) ?_ ?_
  · refine v_iinc (v := (z5 + 4)) dL_law_2642 (q := 5) rfl rfl (Nat.le_of_ble_eq_true rfl) rfl ?_
    refine v_goto (tgt := 28) dL_law_2645 (by decide) ?_
    refine v_sub [1, 2, 3, 4, 5, 0] rfl ?_
    refine v_widen B Bs (by omega) (by omega) ?_
    exact hK _ _
  · refine v_iconst (v := 0) dL_law_1357 (by decide) ?_
    exact v_zret dL_law_1358 rfl rfl rfl (by omega) (by omega)
def f_L_c1359 (g : GC) (K : Int32 → XW → Option (Int32 × XW)) (z5 : Int32) (w : XW) : Option (Int32 × XW) := (if inB (z5 + 1) g.2.2.2.2.2.2.2.1 then (bI (f_L_pipeFrom (g.2.2.2.2.2.2.2.2 (Int32.toNatClampNeg (z5 + 1))) w) (fun r2 w2 => (if inB (z5 + 1) g.2.2.2.2.2.2.2.1 then (bI (f_X11_pipeFrom (g.2.2.2.2.2.2.2.2 (Int32.toNatClampNeg (z5 + 1))) w2) (fun r4 w4 => (bI (f_X11_thrown w4) (fun r5 w5 => (if r5 = r2 then (if r2 = 0 then (if (lg_cmp w5.2.1 (Int32.toInt64 r4)) = 0 then (K (z5 + 4) w5) else (some (0, w5))) else (K (z5 + 4) w5)) else (some (0, w5))))))) else none))) else none)
set_option maxRecDepth 100000 in
theorem S_L_c1359 {g : GC} (hl : g.1.stackTraces = false) {K : Int32 → XW → Option (Int32 × XW)} {B Bs : Nat} (hB : B ≤ 603072) (hBs : Bs ≤ 7178346) (hK : ∀ (z5 : Int32) (w : XW), VE g cL_law 9 RL (some .boolean) [] room_1 603072 7178346 oI B Bs 28 [(0, .ref g.2.2.2.2.2.2.1), (1, .ref (g.2.1 + 0)), (2, .ref (g.2.1 + 141)), (3, .ref (g.2.1 + 150)), (4, .ref (g.2.1 + 151)), (5, .int z5)] [] w (K z5 w)) (z5 : Int32) (w : XW) (kc ks : Nat) (h1 : kc + 4 ≤ B) (h2 : ks + 24 ≤ Bs) : VE g cL_law 9 RL (some .boolean) [] room_1 603072 7178346 oI kc ks 1359 [(0, .ref g.2.2.2.2.2.2.1), (1, .ref (g.2.1 + 0)), (2, .ref (g.2.1 + 141)), (3, .ref (g.2.1 + 150)), (4, .ref (g.2.1 + 151)), (5, .int z5)] [] w (f_L_c1359 g K z5 w) := by
  unfold f_L_c1359
  refine v_aload_n dL_law_1359 rfl 1 rfl ?_
  refine v_aload_n dL_law_1360 rfl 0 rfl ?_
  refine v_iload dL_law_1361 5 rfl ?_
  refine v_iconst (v := 1) dL_law_1363 (by decide) ?_
  refine v_iadd dL_law_1364 ?_
  refine v_guard (fun h1 => ?_)
  refine v_sld h1 dL_law_1365 ?_
  refine v_aload_n dL_law_1366 rfl 3 rfl ?_
  refine v_callSh (As := [.ref (g.2.1 + 0), .int (g.2.2.2.2.2.2.2.2 (Int32.toNatClampNeg (z5 + 1))), .ref (g.2.1 + 150)]) ch_L_238 (S_L_pipeFrom hl) rfl rfl (Nat.le_of_ble_eq_true rfl) dL_law_1367 (CR_law (by decide) (by decide) (by omega) (by omega)) (fun r2 w2 => ?_)
  refine v_istore dL_law_1370 (Nat.le_of_ble_eq_true rfl) rfl ?_
  refine v_aload_n dL_law_1372 rfl 3 rfl ?_
  refine v_aload_n dL_law_1373 rfl 1 rfl ?_
  refine v_iload dL_law_1374 6 rfl ?_
  refine v_iconst (v := 1) dL_law_1376 (by decide) ?_
  refine v_iadd dL_law_1377 ?_
  refine v_guard (fun h3 => ?_)
  refine v_sld h3 dL_law_1378 ?_
  refine v_callVi (As := [.int (g.2.2.2.2.2.2.2.2 (Int32.toNatClampNeg (z5 + 1)))]) cv_L_240 (S_X11_pipeFrom hl) tt_141 rfl rfl rfl (Nat.le_of_ble_eq_true rfl) dL_law_1379 (CR_law (by decide) (by decide) (by omega) (by omega)) (fun r4 w4 => ?_)
  refine v_istore dL_law_1382 (Nat.le_of_ble_eq_true rfl) rfl ?_
  refine v_aload_n dL_law_1384 rfl 4 rfl ?_
  refine v_callVi (As := []) cv_L_162 (S_X11_thrown hl) tt_141 rfl rfl rfl (Nat.le_of_ble_eq_true rfl) dL_law_1385 (CR_law (by decide) (by decide) (by omega) (by omega)) (fun r5 w5 => ?_)
  refine v_iload dL_law_1388 1 rfl ?_
  refine v_icmp_eq (tgt := 1395) dL_law_1390 (by decide) ?_ ?_
  · refine v_iload dL_law_1395 1 rfl ?_
    refine v_if_ne (tgt := 1412) dL_law_1397 (by decide) ?_ ?_
    · refine v_goto (tgt := 2642) dL_law_1412 (by decide) ?_
      refine v_iinc (v := (z5 + 4)) dL_law_2642 (q := 7) rfl rfl (Nat.le_of_ble_eq_true rfl) rfl ?_
      refine v_goto (tgt := 28) dL_law_2645 (by decide) ?_
      refine v_sub [3, 4, 5, 6, 7, 0] rfl ?_
      refine v_widen B Bs (by omega) (by omega) ?_
      exact hK _ _
    · refine v_aload_n dL_law_1400 rfl 5 rfl ?_
      refine v_iconst (v := 0) dL_law_1401 (by decide) ?_
      refine v_lald0 dL_law_1402 ?_
      refine v_iload dL_law_1403 0 rfl ?_
      refine v_i2l dL_law_1405 ?_
      refine v_lcmp dL_law_1406 ?_
      refine v_if_eq (tgt := 1412) dL_law_1407 (by decide) ?_ ?_
      · refine v_goto (tgt := 2642) dL_law_1412 (by decide) ?_
        refine v_iinc (v := (z5 + 4)) dL_law_2642 (q := 7) rfl rfl (Nat.le_of_ble_eq_true rfl) rfl ?_
        refine v_goto (tgt := 28) dL_law_2645 (by decide) ?_
        refine v_sub [3, 4, 5, 6, 7, 0] rfl ?_
        refine v_widen B Bs (by omega) (by omega) ?_
        exact hK _ _
      · refine v_iconst (v := 0) dL_law_1410 (by decide) ?_
        exact v_zret dL_law_1411 rfl rfl rfl (by omega) (by omega)
  · refine v_iconst (v := 0) dL_law_1393 (by decide) ?_
    exact v_zret dL_law_1394 rfl rfl rfl (by omega) (by omega)
def f_L_c1415 (g : GC) (K : Int32 → XW → Option (Int32 × XW)) (z5 : Int32) (w : XW) : Option (Int32 × XW) := (if inB (z5 + 1) g.2.2.2.2.2.2.2.1 then (bI (f_L_pipeTo (g.2.2.2.2.2.2.2.2 (Int32.toNatClampNeg (z5 + 1))) w) (fun r2 w2 => (if inB (z5 + 1) g.2.2.2.2.2.2.2.1 then (bI (f_X11_pipeTo (g.2.2.2.2.2.2.2.2 (Int32.toNatClampNeg (z5 + 1))) w2) (fun r4 w4 => (bI (f_X11_thrown w4) (fun r5 w5 => (if r5 = r2 then (if r2 = 0 then (if (lg_cmp w5.2.1 (Int32.toInt64 r4)) = 0 then (K (z5 + 4) w5) else (some (0, w5))) else (K (z5 + 4) w5)) else (some (0, w5))))))) else none))) else none)
set_option maxRecDepth 100000 in
theorem S_L_c1415 {g : GC} (hl : g.1.stackTraces = false) {K : Int32 → XW → Option (Int32 × XW)} {B Bs : Nat} (hB : B ≤ 603072) (hBs : Bs ≤ 7178346) (hK : ∀ (z5 : Int32) (w : XW), VE g cL_law 9 RL (some .boolean) [] room_1 603072 7178346 oI B Bs 28 [(0, .ref g.2.2.2.2.2.2.1), (1, .ref (g.2.1 + 0)), (2, .ref (g.2.1 + 141)), (3, .ref (g.2.1 + 150)), (4, .ref (g.2.1 + 151)), (5, .int z5)] [] w (K z5 w)) (z5 : Int32) (w : XW) (kc ks : Nat) (h1 : kc + 4 ≤ B) (h2 : ks + 24 ≤ Bs) : VE g cL_law 9 RL (some .boolean) [] room_1 603072 7178346 oI kc ks 1415 [(0, .ref g.2.2.2.2.2.2.1), (1, .ref (g.2.1 + 0)), (2, .ref (g.2.1 + 141)), (3, .ref (g.2.1 + 150)), (4, .ref (g.2.1 + 151)), (5, .int z5)] [] w (f_L_c1415 g K z5 w) := by
  unfold f_L_c1415
  refine v_aload_n dL_law_1415 rfl 1 rfl ?_
  refine v_aload_n dL_law_1416 rfl 0 rfl ?_
  refine v_iload dL_law_1417 5 rfl ?_
  refine v_iconst (v := 1) dL_law_1419 (by decide) ?_
  refine v_iadd dL_law_1420 ?_
  refine v_guard (fun h1 => ?_)
  refine v_sld h1 dL_law_1421 ?_
  refine v_aload_n dL_law_1422 rfl 3 rfl ?_
  refine v_callSh (As := [.ref (g.2.1 + 0), .int (g.2.2.2.2.2.2.2.2 (Int32.toNatClampNeg (z5 + 1))), .ref (g.2.1 + 150)]) ch_L_241 (S_L_pipeTo hl) rfl rfl (Nat.le_of_ble_eq_true rfl) dL_law_1423 (CR_law (by decide) (by decide) (by omega) (by omega)) (fun r2 w2 => ?_)
  refine v_istore dL_law_1426 (Nat.le_of_ble_eq_true rfl) rfl ?_
  refine v_aload_n dL_law_1428 rfl 3 rfl ?_
  refine v_aload_n dL_law_1429 rfl 1 rfl ?_
  refine v_iload dL_law_1430 6 rfl ?_
  refine v_iconst (v := 1) dL_law_1432 (by decide) ?_
  refine v_iadd dL_law_1433 ?_
  refine v_guard (fun h3 => ?_)
  refine v_sld h3 dL_law_1434 ?_
  refine v_callVi (As := [.int (g.2.2.2.2.2.2.2.2 (Int32.toNatClampNeg (z5 + 1)))]) cv_L_243 (S_X11_pipeTo hl) tt_141 rfl rfl rfl (Nat.le_of_ble_eq_true rfl) dL_law_1435 (CR_law (by decide) (by decide) (by omega) (by omega)) (fun r4 w4 => ?_)
  refine v_istore dL_law_1438 (Nat.le_of_ble_eq_true rfl) rfl ?_
  refine v_aload_n dL_law_1440 rfl 4 rfl ?_
  refine v_callVi (As := []) cv_L_162 (S_X11_thrown hl) tt_141 rfl rfl rfl (Nat.le_of_ble_eq_true rfl) dL_law_1441 (CR_law (by decide) (by decide) (by omega) (by omega)) (fun r5 w5 => ?_)
  refine v_iload dL_law_1444 1 rfl ?_
  refine v_icmp_eq (tgt := 1451) dL_law_1446 (by decide) ?_ ?_
  · refine v_iload dL_law_1451 1 rfl ?_
    refine v_if_ne (tgt := 1468) dL_law_1453 (by decide) ?_ ?_
    · refine v_goto (tgt := 2642) dL_law_1468 (by decide) ?_
      refine v_iinc (v := (z5 + 4)) dL_law_2642 (q := 7) rfl rfl (Nat.le_of_ble_eq_true rfl) rfl ?_
      refine v_goto (tgt := 28) dL_law_2645 (by decide) ?_
      refine v_sub [3, 4, 5, 6, 7, 0] rfl ?_
      refine v_widen B Bs (by omega) (by omega) ?_
      exact hK _ _
    · refine v_aload_n dL_law_1456 rfl 5 rfl ?_
      refine v_iconst (v := 0) dL_law_1457 (by decide) ?_
      refine v_lald0 dL_law_1458 ?_
      refine v_iload dL_law_1459 0 rfl ?_
      refine v_i2l dL_law_1461 ?_
      refine v_lcmp dL_law_1462 ?_
      refine v_if_eq (tgt := 1468) dL_law_1463 (by decide) ?_ ?_
      · refine v_goto (tgt := 2642) dL_law_1468 (by decide) ?_
        refine v_iinc (v := (z5 + 4)) dL_law_2642 (q := 7) rfl rfl (Nat.le_of_ble_eq_true rfl) rfl ?_
        refine v_goto (tgt := 28) dL_law_2645 (by decide) ?_
        refine v_sub [3, 4, 5, 6, 7, 0] rfl ?_
        refine v_widen B Bs (by omega) (by omega) ?_
        exact hK _ _
      · refine v_iconst (v := 0) dL_law_1466 (by decide) ?_
        exact v_zret dL_law_1467 rfl rfl rfl (by omega) (by omega)
  · refine v_iconst (v := 0) dL_law_1449 (by decide) ?_
    exact v_zret dL_law_1450 rfl rfl rfl (by omega) (by omega)
def f_L_c1471 (g : GC) (K : Int32 → XW → Option (Int32 × XW)) (z5 : Int32) (w : XW) : Option (Int32 × XW) := (if inB (z5 + 1) g.2.2.2.2.2.2.2.1 then (bI (f_L_capacity (g.2.2.2.2.2.2.2.2 (Int32.toNatClampNeg (z5 + 1))) w) (fun r2 w2 => (if inB (z5 + 1) g.2.2.2.2.2.2.2.1 then (bI (f_X11_capacity (g.2.2.2.2.2.2.2.2 (Int32.toNatClampNeg (z5 + 1))) w2) (fun r4 w4 => (bI (f_X11_thrown w4) (fun r5 w5 => (if r5 = r2 then (if r2 = 0 then (if (lg_cmp w5.2.1 (Int32.toInt64 r4)) = 0 then (K (z5 + 4) w5) else (some (0, w5))) else (K (z5 + 4) w5)) else (some (0, w5))))))) else none))) else none)
set_option maxRecDepth 100000 in
theorem S_L_c1471 {g : GC} (hl : g.1.stackTraces = false) {K : Int32 → XW → Option (Int32 × XW)} {B Bs : Nat} (hB : B ≤ 603072) (hBs : Bs ≤ 7178346) (hK : ∀ (z5 : Int32) (w : XW), VE g cL_law 9 RL (some .boolean) [] room_1 603072 7178346 oI B Bs 28 [(0, .ref g.2.2.2.2.2.2.1), (1, .ref (g.2.1 + 0)), (2, .ref (g.2.1 + 141)), (3, .ref (g.2.1 + 150)), (4, .ref (g.2.1 + 151)), (5, .int z5)] [] w (K z5 w)) (z5 : Int32) (w : XW) (kc ks : Nat) (h1 : kc + 4 ≤ B) (h2 : ks + 24 ≤ Bs) : VE g cL_law 9 RL (some .boolean) [] room_1 603072 7178346 oI kc ks 1471 [(0, .ref g.2.2.2.2.2.2.1), (1, .ref (g.2.1 + 0)), (2, .ref (g.2.1 + 141)), (3, .ref (g.2.1 + 150)), (4, .ref (g.2.1 + 151)), (5, .int z5)] [] w (f_L_c1471 g K z5 w) := by
  unfold f_L_c1471
  refine v_aload_n dL_law_1471 rfl 1 rfl ?_
  refine v_aload_n dL_law_1472 rfl 0 rfl ?_
  refine v_iload dL_law_1473 5 rfl ?_
  refine v_iconst (v := 1) dL_law_1475 (by decide) ?_
  refine v_iadd dL_law_1476 ?_
  refine v_guard (fun h1 => ?_)
  refine v_sld h1 dL_law_1477 ?_
  refine v_aload_n dL_law_1478 rfl 3 rfl ?_
  refine v_callSh (As := [.ref (g.2.1 + 0), .int (g.2.2.2.2.2.2.2.2 (Int32.toNatClampNeg (z5 + 1))), .ref (g.2.1 + 150)]) ch_L_244 (S_L_capacity hl) rfl rfl (Nat.le_of_ble_eq_true rfl) dL_law_1479 (CR_law (by decide) (by decide) (by omega) (by omega)) (fun r2 w2 => ?_)
  refine v_istore dL_law_1482 (Nat.le_of_ble_eq_true rfl) rfl ?_
  refine v_aload_n dL_law_1484 rfl 3 rfl ?_
  refine v_aload_n dL_law_1485 rfl 1 rfl ?_
  refine v_iload dL_law_1486 6 rfl ?_
  refine v_iconst (v := 1) dL_law_1488 (by decide) ?_
  refine v_iadd dL_law_1489 ?_
  refine v_guard (fun h3 => ?_)
  refine v_sld h3 dL_law_1490 ?_
  refine v_callVi (As := [.int (g.2.2.2.2.2.2.2.2 (Int32.toNatClampNeg (z5 + 1)))]) cv_L_246 (S_X11_capacity hl) tt_141 rfl rfl rfl (Nat.le_of_ble_eq_true rfl) dL_law_1491 (CR_law (by decide) (by decide) (by omega) (by omega)) (fun r4 w4 => ?_)
  refine v_istore dL_law_1494 (Nat.le_of_ble_eq_true rfl) rfl ?_
  refine v_aload_n dL_law_1496 rfl 4 rfl ?_
  refine v_callVi (As := []) cv_L_162 (S_X11_thrown hl) tt_141 rfl rfl rfl (Nat.le_of_ble_eq_true rfl) dL_law_1497 (CR_law (by decide) (by decide) (by omega) (by omega)) (fun r5 w5 => ?_)
  refine v_iload dL_law_1500 1 rfl ?_
  refine v_icmp_eq (tgt := 1507) dL_law_1502 (by decide) ?_ ?_
  · refine v_iload dL_law_1507 1 rfl ?_
    refine v_if_ne (tgt := 1524) dL_law_1509 (by decide) ?_ ?_
    · refine v_goto (tgt := 2642) dL_law_1524 (by decide) ?_
      refine v_iinc (v := (z5 + 4)) dL_law_2642 (q := 7) rfl rfl (Nat.le_of_ble_eq_true rfl) rfl ?_
      refine v_goto (tgt := 28) dL_law_2645 (by decide) ?_
      refine v_sub [3, 4, 5, 6, 7, 0] rfl ?_
      refine v_widen B Bs (by omega) (by omega) ?_
      exact hK _ _
    · refine v_aload_n dL_law_1512 rfl 5 rfl ?_
      refine v_iconst (v := 0) dL_law_1513 (by decide) ?_
      refine v_lald0 dL_law_1514 ?_
      refine v_iload dL_law_1515 0 rfl ?_
      refine v_i2l dL_law_1517 ?_
      refine v_lcmp dL_law_1518 ?_
      refine v_if_eq (tgt := 1524) dL_law_1519 (by decide) ?_ ?_
      · refine v_goto (tgt := 2642) dL_law_1524 (by decide) ?_
        refine v_iinc (v := (z5 + 4)) dL_law_2642 (q := 7) rfl rfl (Nat.le_of_ble_eq_true rfl) rfl ?_
        refine v_goto (tgt := 28) dL_law_2645 (by decide) ?_
        refine v_sub [3, 4, 5, 6, 7, 0] rfl ?_
        refine v_widen B Bs (by omega) (by omega) ?_
        exact hK _ _
      · refine v_iconst (v := 0) dL_law_1522 (by decide) ?_
        exact v_zret dL_law_1523 rfl rfl rfl (by omega) (by omega)
  · refine v_iconst (v := 0) dL_law_1505 (by decide) ?_
    exact v_zret dL_law_1506 rfl rfl rfl (by omega) (by omega)
def f_L_c1527 (g : GC) (K : Int32 → XW → Option (Int32 × XW)) (z5 : Int32) (w : XW) : Option (Int32 × XW) := (if inB (z5 + 1) g.2.2.2.2.2.2.2.1 then (bI (f_L_isBroken (g.2.2.2.2.2.2.2.2 (Int32.toNatClampNeg (z5 + 1))) w) (fun r2 w2 => (if inB (z5 + 1) g.2.2.2.2.2.2.2.1 then (bI (f_X11_isBroken (g.2.2.2.2.2.2.2.2 (Int32.toNatClampNeg (z5 + 1))) w2) (fun r4 w4 => (bI (f_X11_thrown w4) (fun r5 w5 => (if r5 = r2 then (if r2 = 0 then (if r4 = 0 then (if (lg_cmp w5.2.1 0) = 0 then (K (z5 + 4) w5) else (some (0, w5))) else (if (lg_cmp w5.2.1 1) = 0 then (K (z5 + 4) w5) else (some (0, w5)))) else (K (z5 + 4) w5)) else (some (0, w5))))))) else none))) else none)
set_option maxRecDepth 100000 in
theorem S_L_c1527 {g : GC} (hl : g.1.stackTraces = false) {K : Int32 → XW → Option (Int32 × XW)} {B Bs : Nat} (hB : B ≤ 603072) (hBs : Bs ≤ 7178346) (hK : ∀ (z5 : Int32) (w : XW), VE g cL_law 9 RL (some .boolean) [] room_1 603072 7178346 oI B Bs 28 [(0, .ref g.2.2.2.2.2.2.1), (1, .ref (g.2.1 + 0)), (2, .ref (g.2.1 + 141)), (3, .ref (g.2.1 + 150)), (4, .ref (g.2.1 + 151)), (5, .int z5)] [] w (K z5 w)) (z5 : Int32) (w : XW) (kc ks : Nat) (h1 : kc + 4 ≤ B) (h2 : ks + 24 ≤ Bs) : VE g cL_law 9 RL (some .boolean) [] room_1 603072 7178346 oI kc ks 1527 [(0, .ref g.2.2.2.2.2.2.1), (1, .ref (g.2.1 + 0)), (2, .ref (g.2.1 + 141)), (3, .ref (g.2.1 + 150)), (4, .ref (g.2.1 + 151)), (5, .int z5)] [] w (f_L_c1527 g K z5 w) := by
  unfold f_L_c1527
  refine v_aload_n dL_law_1527 rfl 1 rfl ?_
  refine v_aload_n dL_law_1528 rfl 0 rfl ?_
  refine v_iload dL_law_1529 5 rfl ?_
  refine v_iconst (v := 1) dL_law_1531 (by decide) ?_
  refine v_iadd dL_law_1532 ?_
  refine v_guard (fun h1 => ?_)
  refine v_sld h1 dL_law_1533 ?_
  refine v_aload_n dL_law_1534 rfl 3 rfl ?_
  refine v_callSh (As := [.ref (g.2.1 + 0), .int (g.2.2.2.2.2.2.2.2 (Int32.toNatClampNeg (z5 + 1))), .ref (g.2.1 + 150)]) ch_L_247 (S_L_isBroken hl) rfl rfl (Nat.le_of_ble_eq_true rfl) dL_law_1535 (CR_law (by decide) (by decide) (by omega) (by omega)) (fun r2 w2 => ?_)
  refine v_istore dL_law_1538 (Nat.le_of_ble_eq_true rfl) rfl ?_
  refine v_aload_n dL_law_1540 rfl 3 rfl ?_
  refine v_aload_n dL_law_1541 rfl 1 rfl ?_
  refine v_iload dL_law_1542 6 rfl ?_
  refine v_iconst (v := 1) dL_law_1544 (by decide) ?_
  refine v_iadd dL_law_1545 ?_
  refine v_guard (fun h3 => ?_)
  refine v_sld h3 dL_law_1546 ?_
  refine v_callVi (As := [.int (g.2.2.2.2.2.2.2.2 (Int32.toNatClampNeg (z5 + 1)))]) cv_L_249 (S_X11_isBroken hl) tt_141 rfl rfl rfl (Nat.le_of_ble_eq_true rfl) dL_law_1547 (CR_law (by decide) (by decide) (by omega) (by omega)) (fun r4 w4 => ?_)
  refine v_istore dL_law_1550 (Nat.le_of_ble_eq_true rfl) rfl ?_
  refine v_aload_n dL_law_1552 rfl 4 rfl ?_
  refine v_callVi (As := []) cv_L_162 (S_X11_thrown hl) tt_141 rfl rfl rfl (Nat.le_of_ble_eq_true rfl) dL_law_1553 (CR_law (by decide) (by decide) (by omega) (by omega)) (fun r5 w5 => ?_)
  refine v_iload dL_law_1556 1 rfl ?_
  refine v_icmp_eq (tgt := 1563) dL_law_1558 (by decide) ?_ ?_
  · refine v_iload dL_law_1563 1 rfl ?_
    refine v_if_ne (tgt := 1587) dL_law_1565 (by decide) ?_ ?_
    · refine v_goto (tgt := 2642) dL_law_1587 (by decide) ?_
      refine v_iinc (v := (z5 + 4)) dL_law_2642 (q := 7) rfl rfl (Nat.le_of_ble_eq_true rfl) rfl ?_
      refine v_goto (tgt := 28) dL_law_2645 (by decide) ?_
      refine v_sub [3, 4, 5, 6, 7, 0] rfl ?_
      refine v_widen B Bs (by omega) (by omega) ?_
      exact hK _ _
    · refine v_aload_n dL_law_1568 rfl 5 rfl ?_
      refine v_iconst (v := 0) dL_law_1569 (by decide) ?_
      refine v_lald0 dL_law_1570 ?_
      refine v_iload dL_law_1571 0 rfl ?_
      refine v_if_eq (tgt := 1580) dL_law_1573 (by decide) ?_ ?_
      · refine v_lconst (v := 0) dL_law_1580 rfl ?_
        refine v_lcmp dL_law_1581 ?_
        refine v_if_eq (tgt := 1587) dL_law_1582 (by decide) ?_ ?_
        · refine v_goto (tgt := 2642) dL_law_1587 (by decide) ?_
          refine v_iinc (v := (z5 + 4)) dL_law_2642 (q := 7) rfl rfl (Nat.le_of_ble_eq_true rfl) rfl ?_
          refine v_goto (tgt := 28) dL_law_2645 (by decide) ?_
          refine v_sub [3, 4, 5, 6, 7, 0] rfl ?_
          refine v_widen B Bs (by omega) (by omega) ?_
          exact hK _ _
        · refine v_iconst (v := 0) dL_law_1585 (by decide) ?_
          exact v_zret dL_law_1586 rfl rfl rfl (by omega) (by omega)
      · refine v_lconst (v := 1) dL_law_1576 rfl ?_
        refine v_goto (tgt := 1581) dL_law_1577 (by decide) ?_
        refine v_lcmp dL_law_1581 ?_
        refine v_if_eq (tgt := 1587) dL_law_1582 (by decide) ?_ ?_
        · refine v_goto (tgt := 2642) dL_law_1587 (by decide) ?_
          refine v_iinc (v := (z5 + 4)) dL_law_2642 (q := 7) rfl rfl (Nat.le_of_ble_eq_true rfl) rfl ?_
          refine v_goto (tgt := 28) dL_law_2645 (by decide) ?_
          refine v_sub [3, 4, 5, 6, 7, 0] rfl ?_
          refine v_widen B Bs (by omega) (by omega) ?_
          exact hK _ _
        · refine v_iconst (v := 0) dL_law_1585 (by decide) ?_
          exact v_zret dL_law_1586 rfl rfl rfl (by omega) (by omega)
  · refine v_iconst (v := 0) dL_law_1561 (by decide) ?_
    exact v_zret dL_law_1562 rfl rfl rfl (by omega) (by omega)
def f_L_c1590 (g : GC) (K : Int32 → XW → Option (Int32 × XW)) (z5 : Int32) (w : XW) : Option (Int32 × XW) := (bI (f_L_greatestFlow w) (fun r1 w1 => (bI (f_X11_greatestFlow w1) (fun r2 w2 => (bI (f_X11_thrown w2) (fun r3 w3 => (if r3 = r1 then (if r1 = 0 then (if (lg_cmp w3.2.1 (Int32.toInt64 r2)) = 0 then (K (z5 + 4) w3) else (some (0, w3))) else (K (z5 + 4) w3)) else (some (0, w3)))))))))
set_option maxRecDepth 100000 in
theorem S_L_c1590 {g : GC} (hl : g.1.stackTraces = false) {K : Int32 → XW → Option (Int32 × XW)} {B Bs : Nat} (hB : B ≤ 603072) (hBs : Bs ≤ 7178346) (hK : ∀ (z5 : Int32) (w : XW), VE g cL_law 9 RL (some .boolean) [] room_1 603072 7178346 oI B Bs 28 [(0, .ref g.2.2.2.2.2.2.1), (1, .ref (g.2.1 + 0)), (2, .ref (g.2.1 + 141)), (3, .ref (g.2.1 + 150)), (4, .ref (g.2.1 + 151)), (5, .int z5)] [] w (K z5 w)) (z5 : Int32) (w : XW) (kc ks : Nat) (h1 : kc + 4 ≤ B) (h2 : ks + 24 ≤ Bs) : VE g cL_law 9 RL (some .boolean) [] room_1 603072 7178346 oI kc ks 1590 [(0, .ref g.2.2.2.2.2.2.1), (1, .ref (g.2.1 + 0)), (2, .ref (g.2.1 + 141)), (3, .ref (g.2.1 + 150)), (4, .ref (g.2.1 + 151)), (5, .int z5)] [] w (f_L_c1590 g K z5 w) := by
  unfold f_L_c1590
  refine v_aload_n dL_law_1590 rfl 1 rfl ?_
  refine v_aload_n dL_law_1591 rfl 3 rfl ?_
  refine v_callSh (As := [.ref (g.2.1 + 0), .ref (g.2.1 + 150)]) ch_L_250 (S_L_greatestFlow hl) rfl rfl (Nat.le_of_ble_eq_true rfl) dL_law_1592 (CR_law (by decide) (by decide) (by omega) (by omega)) (fun r1 w1 => ?_)
  refine v_istore dL_law_1595 (Nat.le_of_ble_eq_true rfl) rfl ?_
  refine v_aload_n dL_law_1597 rfl 3 rfl ?_
  refine v_callVi (As := []) cv_L_252 (S_X11_greatestFlow hl) tt_141 rfl rfl rfl (Nat.le_of_ble_eq_true rfl) dL_law_1598 (CR_law (by decide) (by decide) (by omega) (by omega)) (fun r2 w2 => ?_)
  refine v_istore dL_law_1601 (Nat.le_of_ble_eq_true rfl) rfl ?_
  refine v_aload_n dL_law_1603 rfl 4 rfl ?_
  refine v_callVi (As := []) cv_L_162 (S_X11_thrown hl) tt_141 rfl rfl rfl (Nat.le_of_ble_eq_true rfl) dL_law_1604 (CR_law (by decide) (by decide) (by omega) (by omega)) (fun r3 w3 => ?_)
  refine v_iload dL_law_1607 1 rfl ?_
  refine v_icmp_eq (tgt := 1614) dL_law_1609 (by decide) ?_ ?_
  · refine v_iload dL_law_1614 1 rfl ?_
    refine v_if_ne (tgt := 1631) dL_law_1616 (by decide) ?_ ?_
    · refine v_goto (tgt := 2642) dL_law_1631 (by decide) ?_
      refine v_iinc (v := (z5 + 4)) dL_law_2642 (q := 7) rfl rfl (Nat.le_of_ble_eq_true rfl) rfl ?_
      refine v_goto (tgt := 28) dL_law_2645 (by decide) ?_
      refine v_sub [3, 4, 5, 6, 7, 0] rfl ?_
      refine v_widen B Bs (by omega) (by omega) ?_
      exact hK _ _
    · refine v_aload_n dL_law_1619 rfl 5 rfl ?_
      refine v_iconst (v := 0) dL_law_1620 (by decide) ?_
      refine v_lald0 dL_law_1621 ?_
      refine v_iload dL_law_1622 0 rfl ?_
      refine v_i2l dL_law_1624 ?_
      refine v_lcmp dL_law_1625 ?_
      refine v_if_eq (tgt := 1631) dL_law_1626 (by decide) ?_ ?_
      · refine v_goto (tgt := 2642) dL_law_1631 (by decide) ?_
        refine v_iinc (v := (z5 + 4)) dL_law_2642 (q := 7) rfl rfl (Nat.le_of_ble_eq_true rfl) rfl ?_
        refine v_goto (tgt := 28) dL_law_2645 (by decide) ?_
        refine v_sub [3, 4, 5, 6, 7, 0] rfl ?_
        refine v_widen B Bs (by omega) (by omega) ?_
        exact hK _ _
      · refine v_iconst (v := 0) dL_law_1629 (by decide) ?_
        exact v_zret dL_law_1630 rfl rfl rfl (by omega) (by omega)
  · refine v_iconst (v := 0) dL_law_1612 (by decide) ?_
    exact v_zret dL_law_1613 rfl rfl rfl (by omega) (by omega)
def f_L_c1634 (g : GC) (K : Int32 → XW → Option (Int32 × XW)) (z5 : Int32) (w : XW) : Option (Int32 × XW) := (bI (f_L_smallestCut w) (fun r1 w1 => (bI (f_X11_smallestCut w1) (fun r2 w2 => (bI (f_X11_thrown w2) (fun r3 w3 => (if r3 = r1 then (if r1 = 0 then (if (lg_cmp w3.2.1 (Int32.toInt64 r2)) = 0 then (K (z5 + 4) w3) else (some (0, w3))) else (K (z5 + 4) w3)) else (some (0, w3)))))))))
set_option maxRecDepth 100000 in
theorem S_L_c1634 {g : GC} (hl : g.1.stackTraces = false) {K : Int32 → XW → Option (Int32 × XW)} {B Bs : Nat} (hB : B ≤ 603072) (hBs : Bs ≤ 7178346) (hK : ∀ (z5 : Int32) (w : XW), VE g cL_law 9 RL (some .boolean) [] room_1 603072 7178346 oI B Bs 28 [(0, .ref g.2.2.2.2.2.2.1), (1, .ref (g.2.1 + 0)), (2, .ref (g.2.1 + 141)), (3, .ref (g.2.1 + 150)), (4, .ref (g.2.1 + 151)), (5, .int z5)] [] w (K z5 w)) (z5 : Int32) (w : XW) (kc ks : Nat) (h1 : kc + 4 ≤ B) (h2 : ks + 24 ≤ Bs) : VE g cL_law 9 RL (some .boolean) [] room_1 603072 7178346 oI kc ks 1634 [(0, .ref g.2.2.2.2.2.2.1), (1, .ref (g.2.1 + 0)), (2, .ref (g.2.1 + 141)), (3, .ref (g.2.1 + 150)), (4, .ref (g.2.1 + 151)), (5, .int z5)] [] w (f_L_c1634 g K z5 w) := by
  unfold f_L_c1634
  refine v_aload_n dL_law_1634 rfl 1 rfl ?_
  refine v_aload_n dL_law_1635 rfl 3 rfl ?_
  refine v_callSh (As := [.ref (g.2.1 + 0), .ref (g.2.1 + 150)]) ch_L_253 (S_L_smallestCut hl) rfl rfl (Nat.le_of_ble_eq_true rfl) dL_law_1636 (CR_law (by decide) (by decide) (by omega) (by omega)) (fun r1 w1 => ?_)
  refine v_istore dL_law_1639 (Nat.le_of_ble_eq_true rfl) rfl ?_
  refine v_aload_n dL_law_1641 rfl 3 rfl ?_
  refine v_callVi (As := []) cv_L_255 (S_X11_smallestCut hl) tt_141 rfl rfl rfl (Nat.le_of_ble_eq_true rfl) dL_law_1642 (CR_law (by decide) (by decide) (by omega) (by omega)) (fun r2 w2 => ?_)
  refine v_istore dL_law_1645 (Nat.le_of_ble_eq_true rfl) rfl ?_
  refine v_aload_n dL_law_1647 rfl 4 rfl ?_
  refine v_callVi (As := []) cv_L_162 (S_X11_thrown hl) tt_141 rfl rfl rfl (Nat.le_of_ble_eq_true rfl) dL_law_1648 (CR_law (by decide) (by decide) (by omega) (by omega)) (fun r3 w3 => ?_)
  refine v_iload dL_law_1651 1 rfl ?_
  refine v_icmp_eq (tgt := 1658) dL_law_1653 (by decide) ?_ ?_
  · refine v_iload dL_law_1658 1 rfl ?_
    refine v_if_ne (tgt := 1675) dL_law_1660 (by decide) ?_ ?_
    · refine v_goto (tgt := 2642) dL_law_1675 (by decide) ?_
      refine v_iinc (v := (z5 + 4)) dL_law_2642 (q := 7) rfl rfl (Nat.le_of_ble_eq_true rfl) rfl ?_
      refine v_goto (tgt := 28) dL_law_2645 (by decide) ?_
      refine v_sub [3, 4, 5, 6, 7, 0] rfl ?_
      refine v_widen B Bs (by omega) (by omega) ?_
      exact hK _ _
    · refine v_aload_n dL_law_1663 rfl 5 rfl ?_
      refine v_iconst (v := 0) dL_law_1664 (by decide) ?_
      refine v_lald0 dL_law_1665 ?_
      refine v_iload dL_law_1666 0 rfl ?_
      refine v_i2l dL_law_1668 ?_
      refine v_lcmp dL_law_1669 ?_
      refine v_if_eq (tgt := 1675) dL_law_1670 (by decide) ?_ ?_
      · refine v_goto (tgt := 2642) dL_law_1675 (by decide) ?_
        refine v_iinc (v := (z5 + 4)) dL_law_2642 (q := 7) rfl rfl (Nat.le_of_ble_eq_true rfl) rfl ?_
        refine v_goto (tgt := 28) dL_law_2645 (by decide) ?_
        refine v_sub [3, 4, 5, 6, 7, 0] rfl ?_
        refine v_widen B Bs (by omega) (by omega) ?_
        exact hK _ _
      · refine v_iconst (v := 0) dL_law_1673 (by decide) ?_
        exact v_zret dL_law_1674 rfl rfl rfl (by omega) (by omega)
  · refine v_iconst (v := 0) dL_law_1656 (by decide) ?_
    exact v_zret dL_law_1657 rfl rfl rfl (by omega) (by omega)
def f_L_c1678 (g : GC) (K : Int32 → XW → Option (Int32 × XW)) (z5 : Int32) (w : XW) : Option (Int32 × XW) := (if inB (z5 + 1) g.2.2.2.2.2.2.2.1 then (bI (f_L_lossOf (g.2.2.2.2.2.2.2.2 (Int32.toNatClampNeg (z5 + 1))) w) (fun r2 w2 => (if inB (z5 + 1) g.2.2.2.2.2.2.2.1 then (bI (f_X11_lossOf (g.2.2.2.2.2.2.2.2 (Int32.toNatClampNeg (z5 + 1))) w2) (fun r4 w4 => (bI (f_X11_thrown w4) (fun r5 w5 => (if r5 = r2 then (if r2 = 0 then (if (lg_cmp w5.2.1 (Int32.toInt64 r4)) = 0 then (K (z5 + 4) w5) else (some (0, w5))) else (K (z5 + 4) w5)) else (some (0, w5))))))) else none))) else none)
set_option maxRecDepth 100000 in
theorem S_L_c1678 {g : GC} (hl : g.1.stackTraces = false) {K : Int32 → XW → Option (Int32 × XW)} {B Bs : Nat} (hB : B ≤ 603072) (hBs : Bs ≤ 7178346) (hK : ∀ (z5 : Int32) (w : XW), VE g cL_law 9 RL (some .boolean) [] room_1 603072 7178346 oI B Bs 28 [(0, .ref g.2.2.2.2.2.2.1), (1, .ref (g.2.1 + 0)), (2, .ref (g.2.1 + 141)), (3, .ref (g.2.1 + 150)), (4, .ref (g.2.1 + 151)), (5, .int z5)] [] w (K z5 w)) (z5 : Int32) (w : XW) (kc ks : Nat) (h1 : kc + 4 ≤ B) (h2 : ks + 24 ≤ Bs) : VE g cL_law 9 RL (some .boolean) [] room_1 603072 7178346 oI kc ks 1678 [(0, .ref g.2.2.2.2.2.2.1), (1, .ref (g.2.1 + 0)), (2, .ref (g.2.1 + 141)), (3, .ref (g.2.1 + 150)), (4, .ref (g.2.1 + 151)), (5, .int z5)] [] w (f_L_c1678 g K z5 w) := by
  unfold f_L_c1678
  refine v_aload_n dL_law_1678 rfl 1 rfl ?_
  refine v_aload_n dL_law_1679 rfl 0 rfl ?_
  refine v_iload dL_law_1680 5 rfl ?_
  refine v_iconst (v := 1) dL_law_1682 (by decide) ?_
  refine v_iadd dL_law_1683 ?_
  refine v_guard (fun h1 => ?_)
  refine v_sld h1 dL_law_1684 ?_
  refine v_aload_n dL_law_1685 rfl 3 rfl ?_
  refine v_callSh (As := [.ref (g.2.1 + 0), .int (g.2.2.2.2.2.2.2.2 (Int32.toNatClampNeg (z5 + 1))), .ref (g.2.1 + 150)]) ch_L_256 (S_L_lossOf hl) rfl rfl (Nat.le_of_ble_eq_true rfl) dL_law_1686 (CR_law (by decide) (by decide) (by omega) (by omega)) (fun r2 w2 => ?_)
  refine v_istore dL_law_1689 (Nat.le_of_ble_eq_true rfl) rfl ?_
  refine v_aload_n dL_law_1691 rfl 3 rfl ?_
  refine v_aload_n dL_law_1692 rfl 1 rfl ?_
  refine v_iload dL_law_1693 6 rfl ?_
  refine v_iconst (v := 1) dL_law_1695 (by decide) ?_
  refine v_iadd dL_law_1696 ?_
  refine v_guard (fun h3 => ?_)
  refine v_sld h3 dL_law_1697 ?_
  refine v_callVi (As := [.int (g.2.2.2.2.2.2.2.2 (Int32.toNatClampNeg (z5 + 1)))]) cv_L_258 (S_X11_lossOf hl) tt_141 rfl rfl rfl (Nat.le_of_ble_eq_true rfl) dL_law_1698 (CR_law (by decide) (by decide) (by omega) (by omega)) (fun r4 w4 => ?_)
  refine v_istore dL_law_1701 (Nat.le_of_ble_eq_true rfl) rfl ?_
  refine v_aload_n dL_law_1703 rfl 4 rfl ?_
  refine v_callVi (As := []) cv_L_162 (S_X11_thrown hl) tt_141 rfl rfl rfl (Nat.le_of_ble_eq_true rfl) dL_law_1704 (CR_law (by decide) (by decide) (by omega) (by omega)) (fun r5 w5 => ?_)
  refine v_iload dL_law_1707 1 rfl ?_
  refine v_icmp_eq (tgt := 1714) dL_law_1709 (by decide) ?_ ?_
  · refine v_iload dL_law_1714 1 rfl ?_
    refine v_if_ne (tgt := 1731) dL_law_1716 (by decide) ?_ ?_
    · refine v_goto (tgt := 2642) dL_law_1731 (by decide) ?_
      refine v_iinc (v := (z5 + 4)) dL_law_2642 (q := 7) rfl rfl (Nat.le_of_ble_eq_true rfl) rfl ?_
      refine v_goto (tgt := 28) dL_law_2645 (by decide) ?_
      refine v_sub [3, 4, 5, 6, 7, 0] rfl ?_
      refine v_widen B Bs (by omega) (by omega) ?_
      exact hK _ _
    · refine v_aload_n dL_law_1719 rfl 5 rfl ?_
      refine v_iconst (v := 0) dL_law_1720 (by decide) ?_
      refine v_lald0 dL_law_1721 ?_
      refine v_iload dL_law_1722 0 rfl ?_
      refine v_i2l dL_law_1724 ?_
      refine v_lcmp dL_law_1725 ?_
      refine v_if_eq (tgt := 1731) dL_law_1726 (by decide) ?_ ?_
      · refine v_goto (tgt := 2642) dL_law_1731 (by decide) ?_
        refine v_iinc (v := (z5 + 4)) dL_law_2642 (q := 7) rfl rfl (Nat.le_of_ble_eq_true rfl) rfl ?_
        refine v_goto (tgt := 28) dL_law_2645 (by decide) ?_
        refine v_sub [3, 4, 5, 6, 7, 0] rfl ?_
        refine v_widen B Bs (by omega) (by omega) ?_
        exact hK _ _
      · refine v_iconst (v := 0) dL_law_1729 (by decide) ?_
        exact v_zret dL_law_1730 rfl rfl rfl (by omega) (by omega)
  · refine v_iconst (v := 0) dL_law_1712 (by decide) ?_
    exact v_zret dL_law_1713 rfl rfl rfl (by omega) (by omega)
def f_L_c1734 (g : GC) (K : Int32 → XW → Option (Int32 × XW)) (z5 : Int32) (w : XW) : Option (Int32 × XW) := (bI (f_L_drain w) (fun r1 w1 => (bI (f_X11_drain w1) (fun r2 w2 => (bI (f_X11_thrown w2) (fun r3 w3 => (if r3 = r1 then (if r1 = 0 then (if (lg_cmp w3.2.1 (Int32.toInt64 r2)) = 0 then (K (z5 + 4) w3) else (some (0, w3))) else (K (z5 + 4) w3)) else (some (0, w3)))))))))
set_option maxRecDepth 100000 in
theorem S_L_c1734 {g : GC} (hl : g.1.stackTraces = false) {K : Int32 → XW → Option (Int32 × XW)} {B Bs : Nat} (hB : B ≤ 603072) (hBs : Bs ≤ 7178346) (hK : ∀ (z5 : Int32) (w : XW), VE g cL_law 9 RL (some .boolean) [] room_1 603072 7178346 oI B Bs 28 [(0, .ref g.2.2.2.2.2.2.1), (1, .ref (g.2.1 + 0)), (2, .ref (g.2.1 + 141)), (3, .ref (g.2.1 + 150)), (4, .ref (g.2.1 + 151)), (5, .int z5)] [] w (K z5 w)) (z5 : Int32) (w : XW) (kc ks : Nat) (h1 : kc + 4 ≤ B) (h2 : ks + 24 ≤ Bs) : VE g cL_law 9 RL (some .boolean) [] room_1 603072 7178346 oI kc ks 1734 [(0, .ref g.2.2.2.2.2.2.1), (1, .ref (g.2.1 + 0)), (2, .ref (g.2.1 + 141)), (3, .ref (g.2.1 + 150)), (4, .ref (g.2.1 + 151)), (5, .int z5)] [] w (f_L_c1734 g K z5 w) := by
  unfold f_L_c1734
  refine v_aload_n dL_law_1734 rfl 1 rfl ?_
  refine v_aload_n dL_law_1735 rfl 3 rfl ?_
  refine v_callSh (As := [.ref (g.2.1 + 0), .ref (g.2.1 + 150)]) ch_L_259 (S_L_drain hl) rfl rfl (Nat.le_of_ble_eq_true rfl) dL_law_1736 (CR_law (by decide) (by decide) (by omega) (by omega)) (fun r1 w1 => ?_)
  refine v_istore dL_law_1739 (Nat.le_of_ble_eq_true rfl) rfl ?_
  refine v_aload_n dL_law_1741 rfl 3 rfl ?_
  refine v_callVi (As := []) cv_L_261 (S_X11_drain hl) tt_141 rfl rfl rfl (Nat.le_of_ble_eq_true rfl) dL_law_1742 (CR_law (by decide) (by decide) (by omega) (by omega)) (fun r2 w2 => ?_)
  refine v_istore dL_law_1745 (Nat.le_of_ble_eq_true rfl) rfl ?_
  refine v_aload_n dL_law_1747 rfl 4 rfl ?_
  refine v_callVi (As := []) cv_L_162 (S_X11_thrown hl) tt_141 rfl rfl rfl (Nat.le_of_ble_eq_true rfl) dL_law_1748 (CR_law (by decide) (by decide) (by omega) (by omega)) (fun r3 w3 => ?_)
  refine v_iload dL_law_1751 1 rfl ?_
  refine v_icmp_eq (tgt := 1758) dL_law_1753 (by decide) ?_ ?_
  · refine v_iload dL_law_1758 1 rfl ?_
    refine v_if_ne (tgt := 1775) dL_law_1760 (by decide) ?_ ?_
    · refine v_goto (tgt := 2642) dL_law_1775 (by decide) ?_
      refine v_iinc (v := (z5 + 4)) dL_law_2642 (q := 7) rfl rfl (Nat.le_of_ble_eq_true rfl) rfl ?_
      refine v_goto (tgt := 28) dL_law_2645 (by decide) ?_
      refine v_sub [3, 4, 5, 6, 7, 0] rfl ?_
      refine v_widen B Bs (by omega) (by omega) ?_
      exact hK _ _
    · refine v_aload_n dL_law_1763 rfl 5 rfl ?_
      refine v_iconst (v := 0) dL_law_1764 (by decide) ?_
      refine v_lald0 dL_law_1765 ?_
      refine v_iload dL_law_1766 0 rfl ?_
      refine v_i2l dL_law_1768 ?_
      refine v_lcmp dL_law_1769 ?_
      refine v_if_eq (tgt := 1775) dL_law_1770 (by decide) ?_ ?_
      · refine v_goto (tgt := 2642) dL_law_1775 (by decide) ?_
        refine v_iinc (v := (z5 + 4)) dL_law_2642 (q := 7) rfl rfl (Nat.le_of_ble_eq_true rfl) rfl ?_
        refine v_goto (tgt := 28) dL_law_2645 (by decide) ?_
        refine v_sub [3, 4, 5, 6, 7, 0] rfl ?_
        refine v_widen B Bs (by omega) (by omega) ?_
        exact hK _ _
      · refine v_iconst (v := 0) dL_law_1773 (by decide) ?_
        exact v_zret dL_law_1774 rfl rfl rfl (by omega) (by omega)
  · refine v_iconst (v := 0) dL_law_1756 (by decide) ?_
    exact v_zret dL_law_1757 rfl rfl rfl (by omega) (by omega)
def f_L_c1778 (g : GC) (K : Int32 → XW → Option (Int32 × XW)) (z5 : Int32) (w : XW) : Option (Int32 × XW) := (bI (f_L_seep w) (fun r1 w1 => (bI (f_X11_seep w1) (fun r2 w2 => (bI (f_X11_thrown w2) (fun r3 w3 => (if r3 = r1 then (if r1 = 0 then (if (lg_cmp w3.2.1 (Int32.toInt64 r2)) = 0 then (K (z5 + 4) w3) else (some (0, w3))) else (K (z5 + 4) w3)) else (some (0, w3)))))))))
set_option maxRecDepth 100000 in
theorem S_L_c1778 {g : GC} (hl : g.1.stackTraces = false) {K : Int32 → XW → Option (Int32 × XW)} {B Bs : Nat} (hB : B ≤ 603072) (hBs : Bs ≤ 7178346) (hK : ∀ (z5 : Int32) (w : XW), VE g cL_law 9 RL (some .boolean) [] room_1 603072 7178346 oI B Bs 28 [(0, .ref g.2.2.2.2.2.2.1), (1, .ref (g.2.1 + 0)), (2, .ref (g.2.1 + 141)), (3, .ref (g.2.1 + 150)), (4, .ref (g.2.1 + 151)), (5, .int z5)] [] w (K z5 w)) (z5 : Int32) (w : XW) (kc ks : Nat) (h1 : kc + 4 ≤ B) (h2 : ks + 24 ≤ Bs) : VE g cL_law 9 RL (some .boolean) [] room_1 603072 7178346 oI kc ks 1778 [(0, .ref g.2.2.2.2.2.2.1), (1, .ref (g.2.1 + 0)), (2, .ref (g.2.1 + 141)), (3, .ref (g.2.1 + 150)), (4, .ref (g.2.1 + 151)), (5, .int z5)] [] w (f_L_c1778 g K z5 w) := by
  unfold f_L_c1778
  refine v_aload_n dL_law_1778 rfl 1 rfl ?_
  refine v_aload_n dL_law_1779 rfl 3 rfl ?_
  refine v_callSh (As := [.ref (g.2.1 + 0), .ref (g.2.1 + 150)]) ch_L_262 (S_L_seep hl) rfl rfl (Nat.le_of_ble_eq_true rfl) dL_law_1780 (CR_law (by decide) (by decide) (by omega) (by omega)) (fun r1 w1 => ?_)
  refine v_istore dL_law_1783 (Nat.le_of_ble_eq_true rfl) rfl ?_
  refine v_aload_n dL_law_1785 rfl 3 rfl ?_
  refine v_callVi (As := []) cv_L_264 (S_X11_seep hl) tt_141 rfl rfl rfl (Nat.le_of_ble_eq_true rfl) dL_law_1786 (CR_law (by decide) (by decide) (by omega) (by omega)) (fun r2 w2 => ?_)
  refine v_istore dL_law_1789 (Nat.le_of_ble_eq_true rfl) rfl ?_
  refine v_aload_n dL_law_1791 rfl 4 rfl ?_
  refine v_callVi (As := []) cv_L_162 (S_X11_thrown hl) tt_141 rfl rfl rfl (Nat.le_of_ble_eq_true rfl) dL_law_1792 (CR_law (by decide) (by decide) (by omega) (by omega)) (fun r3 w3 => ?_)
  refine v_iload dL_law_1795 1 rfl ?_
  refine v_icmp_eq (tgt := 1802) dL_law_1797 (by decide) ?_ ?_
  · refine v_iload dL_law_1802 1 rfl ?_
    refine v_if_ne (tgt := 1819) dL_law_1804 (by decide) ?_ ?_
    · refine v_goto (tgt := 2642) dL_law_1819 (by decide) ?_
      refine v_iinc (v := (z5 + 4)) dL_law_2642 (q := 7) rfl rfl (Nat.le_of_ble_eq_true rfl) rfl ?_
      refine v_goto (tgt := 28) dL_law_2645 (by decide) ?_
      refine v_sub [3, 4, 5, 6, 7, 0] rfl ?_
      refine v_widen B Bs (by omega) (by omega) ?_
      exact hK _ _
    · refine v_aload_n dL_law_1807 rfl 5 rfl ?_
      refine v_iconst (v := 0) dL_law_1808 (by decide) ?_
      refine v_lald0 dL_law_1809 ?_
      refine v_iload dL_law_1810 0 rfl ?_
      refine v_i2l dL_law_1812 ?_
      refine v_lcmp dL_law_1813 ?_
      refine v_if_eq (tgt := 1819) dL_law_1814 (by decide) ?_ ?_
      · refine v_goto (tgt := 2642) dL_law_1819 (by decide) ?_
        refine v_iinc (v := (z5 + 4)) dL_law_2642 (q := 7) rfl rfl (Nat.le_of_ble_eq_true rfl) rfl ?_
        refine v_goto (tgt := 28) dL_law_2645 (by decide) ?_
        refine v_sub [3, 4, 5, 6, 7, 0] rfl ?_
        refine v_widen B Bs (by omega) (by omega) ?_
        exact hK _ _
      · refine v_iconst (v := 0) dL_law_1817 (by decide) ?_
        exact v_zret dL_law_1818 rfl rfl rfl (by omega) (by omega)
  · refine v_iconst (v := 0) dL_law_1800 (by decide) ?_
    exact v_zret dL_law_1801 rfl rfl rfl (by omega) (by omega)
def f_L_c1822 (g : GC) (K : Int32 → XW → Option (Int32 × XW)) (z5 : Int32) (w : XW) : Option (Int32 × XW) := (bI (f_X10_totalWater w) (fun r1 w1 => (bI (f_X11_totalWater w1) (fun r2 w2 => (if r1 = r2 then (K (z5 + 4) w2) else (some (0, w2)))))))
set_option maxRecDepth 100000 in
theorem S_L_c1822 {g : GC} (hl : g.1.stackTraces = false) {K : Int32 → XW → Option (Int32 × XW)} {B Bs : Nat} (hB : B ≤ 603072) (hBs : Bs ≤ 7178346) (hK : ∀ (z5 : Int32) (w : XW), VE g cL_law 9 RL (some .boolean) [] room_1 603072 7178346 oI B Bs 28 [(0, .ref g.2.2.2.2.2.2.1), (1, .ref (g.2.1 + 0)), (2, .ref (g.2.1 + 141)), (3, .ref (g.2.1 + 150)), (4, .ref (g.2.1 + 151)), (5, .int z5)] [] w (K z5 w)) (z5 : Int32) (w : XW) (kc ks : Nat) (h1 : kc + 4 ≤ B) (h2 : ks + 24 ≤ Bs) : VE g cL_law 9 RL (some .boolean) [] room_1 603072 7178346 oI kc ks 1822 [(0, .ref g.2.2.2.2.2.2.1), (1, .ref (g.2.1 + 0)), (2, .ref (g.2.1 + 141)), (3, .ref (g.2.1 + 150)), (4, .ref (g.2.1 + 151)), (5, .int z5)] [] w (f_L_c1822 g K z5 w) := by
  unfold f_L_c1822
  refine v_aload_n dL_law_1822 rfl 1 rfl ?_
  refine v_callVi (As := []) cv_L_265 (S_X10_totalWater hl) tt_0 rfl rfl rfl (Nat.le_of_ble_eq_true rfl) dL_law_1823 (CR_law (by decide) (by decide) (by omega) (by omega)) (fun r1 w1 => ?_)
  refine v_aload_n dL_law_1826 rfl 2 rfl ?_
  refine v_callVi (As := []) cv_L_268 (S_X11_totalWater hl) tt_141 rfl rfl rfl (Nat.le_of_ble_eq_true rfl) dL_law_1827 (CR_law (by decide) (by decide) (by omega) (by omega)) (fun r2 w2 => ?_)
  refine v_icmp_eq (tgt := 2642) dL_law_1830 (by decide) ?_ ?_
  · refine v_iinc (v := (z5 + 4)) dL_law_2642 (q := 5) rfl rfl (Nat.le_of_ble_eq_true rfl) rfl ?_
    refine v_goto (tgt := 28) dL_law_2645 (by decide) ?_
    refine v_sub [1, 2, 3, 4, 5, 0] rfl ?_
    refine v_widen B Bs (by omega) (by omega) ?_
    exact hK _ _
  · refine v_iconst (v := 0) dL_law_1833 (by decide) ?_
    exact v_zret dL_law_1834 rfl rfl rfl (by omega) (by omega)
def f_L_c1835 (g : GC) (K : Int32 → XW → Option (Int32 × XW)) (z5 : Int32) (w : XW) : Option (Int32 × XW) := (bI (f_X10_totalWaterByAccounts w) (fun r1 w1 => (bI (f_X11_totalWaterByAccounts w1) (fun r2 w2 => (if r1 = r2 then (K (z5 + 4) w2) else (some (0, w2)))))))
set_option maxRecDepth 100000 in
theorem S_L_c1835 {g : GC} (hl : g.1.stackTraces = false) {K : Int32 → XW → Option (Int32 × XW)} {B Bs : Nat} (hB : B ≤ 603072) (hBs : Bs ≤ 7178346) (hK : ∀ (z5 : Int32) (w : XW), VE g cL_law 9 RL (some .boolean) [] room_1 603072 7178346 oI B Bs 28 [(0, .ref g.2.2.2.2.2.2.1), (1, .ref (g.2.1 + 0)), (2, .ref (g.2.1 + 141)), (3, .ref (g.2.1 + 150)), (4, .ref (g.2.1 + 151)), (5, .int z5)] [] w (K z5 w)) (z5 : Int32) (w : XW) (kc ks : Nat) (h1 : kc + 4 ≤ B) (h2 : ks + 24 ≤ Bs) : VE g cL_law 9 RL (some .boolean) [] room_1 603072 7178346 oI kc ks 1835 [(0, .ref g.2.2.2.2.2.2.1), (1, .ref (g.2.1 + 0)), (2, .ref (g.2.1 + 141)), (3, .ref (g.2.1 + 150)), (4, .ref (g.2.1 + 151)), (5, .int z5)] [] w (f_L_c1835 g K z5 w) := by
  unfold f_L_c1835
  refine v_aload_n dL_law_1835 rfl 1 rfl ?_
  refine v_callVi (As := []) cv_L_269 (S_X10_totalWaterByAccounts hl) tt_0 rfl rfl rfl (Nat.le_of_ble_eq_true rfl) dL_law_1836 (CR_law (by decide) (by decide) (by omega) (by omega)) (fun r1 w1 => ?_)
  refine v_aload_n dL_law_1839 rfl 2 rfl ?_
  refine v_callVi (As := []) cv_L_272 (S_X11_totalWaterByAccounts hl) tt_141 rfl rfl rfl (Nat.le_of_ble_eq_true rfl) dL_law_1840 (CR_law (by decide) (by decide) (by omega) (by omega)) (fun r2 w2 => ?_)
  refine v_icmp_eq (tgt := 2642) dL_law_1843 (by decide) ?_ ?_
  · refine v_iinc (v := (z5 + 4)) dL_law_2642 (q := 5) rfl rfl (Nat.le_of_ble_eq_true rfl) rfl ?_
    refine v_goto (tgt := 28) dL_law_2645 (by decide) ?_
    refine v_sub [1, 2, 3, 4, 5, 0] rfl ?_
    refine v_widen B Bs (by omega) (by omega) ?_
    exact hK _ _
  · refine v_iconst (v := 0) dL_law_1846 (by decide) ?_
    exact v_zret dL_law_1847 rfl rfl rfl (by omega) (by omega)
def f_L_c1848 (g : GC) (K : Int32 → XW → Option (Int32 × XW)) (z5 : Int32) (w : XW) : Option (Int32 × XW) := (bI (f_X10_poured w) (fun r1 w1 => (bI (f_X11_poured w1) (fun r2 w2 => (if r1 = r2 then (K (z5 + 4) w2) else (some (0, w2)))))))
set_option maxRecDepth 100000 in
theorem S_L_c1848 {g : GC} (hl : g.1.stackTraces = false) {K : Int32 → XW → Option (Int32 × XW)} {B Bs : Nat} (hB : B ≤ 603072) (hBs : Bs ≤ 7178346) (hK : ∀ (z5 : Int32) (w : XW), VE g cL_law 9 RL (some .boolean) [] room_1 603072 7178346 oI B Bs 28 [(0, .ref g.2.2.2.2.2.2.1), (1, .ref (g.2.1 + 0)), (2, .ref (g.2.1 + 141)), (3, .ref (g.2.1 + 150)), (4, .ref (g.2.1 + 151)), (5, .int z5)] [] w (K z5 w)) (z5 : Int32) (w : XW) (kc ks : Nat) (h1 : kc + 4 ≤ B) (h2 : ks + 24 ≤ Bs) : VE g cL_law 9 RL (some .boolean) [] room_1 603072 7178346 oI kc ks 1848 [(0, .ref g.2.2.2.2.2.2.1), (1, .ref (g.2.1 + 0)), (2, .ref (g.2.1 + 141)), (3, .ref (g.2.1 + 150)), (4, .ref (g.2.1 + 151)), (5, .int z5)] [] w (f_L_c1848 g K z5 w) := by
  unfold f_L_c1848
  refine v_aload_n dL_law_1848 rfl 1 rfl ?_
  refine v_callVi (As := []) cv_L_273 (S_X10_poured hl) tt_0 rfl rfl rfl (Nat.le_of_ble_eq_true rfl) dL_law_1849 (CR_law (by decide) (by decide) (by omega) (by omega)) (fun r1 w1 => ?_)
  refine v_aload_n dL_law_1852 rfl 2 rfl ?_
  refine v_callVi (As := []) cv_L_276 (S_X11_poured hl) tt_141 rfl rfl rfl (Nat.le_of_ble_eq_true rfl) dL_law_1853 (CR_law (by decide) (by decide) (by omega) (by omega)) (fun r2 w2 => ?_)
  refine v_icmp_eq (tgt := 2642) dL_law_1856 (by decide) ?_ ?_
  · refine v_iinc (v := (z5 + 4)) dL_law_2642 (q := 5) rfl rfl (Nat.le_of_ble_eq_true rfl) rfl ?_
    refine v_goto (tgt := 28) dL_law_2645 (by decide) ?_
    refine v_sub [1, 2, 3, 4, 5, 0] rfl ?_
    refine v_widen B Bs (by omega) (by omega) ?_
    exact hK _ _
  · refine v_iconst (v := 0) dL_law_1859 (by decide) ?_
    exact v_zret dL_law_1860 rfl rfl rfl (by omega) (by omega)
def f_L_c1861 (g : GC) (K : Int32 → XW → Option (Int32 × XW)) (z5 : Int32) (w : XW) : Option (Int32 × XW) := (bI (f_X10_leaked w) (fun r1 w1 => (bI (f_X11_leaked w1) (fun r2 w2 => (if r1 = r2 then (K (z5 + 4) w2) else (some (0, w2)))))))
set_option maxRecDepth 100000 in
theorem S_L_c1861 {g : GC} (hl : g.1.stackTraces = false) {K : Int32 → XW → Option (Int32 × XW)} {B Bs : Nat} (hB : B ≤ 603072) (hBs : Bs ≤ 7178346) (hK : ∀ (z5 : Int32) (w : XW), VE g cL_law 9 RL (some .boolean) [] room_1 603072 7178346 oI B Bs 28 [(0, .ref g.2.2.2.2.2.2.1), (1, .ref (g.2.1 + 0)), (2, .ref (g.2.1 + 141)), (3, .ref (g.2.1 + 150)), (4, .ref (g.2.1 + 151)), (5, .int z5)] [] w (K z5 w)) (z5 : Int32) (w : XW) (kc ks : Nat) (h1 : kc + 4 ≤ B) (h2 : ks + 24 ≤ Bs) : VE g cL_law 9 RL (some .boolean) [] room_1 603072 7178346 oI kc ks 1861 [(0, .ref g.2.2.2.2.2.2.1), (1, .ref (g.2.1 + 0)), (2, .ref (g.2.1 + 141)), (3, .ref (g.2.1 + 150)), (4, .ref (g.2.1 + 151)), (5, .int z5)] [] w (f_L_c1861 g K z5 w) := by
  unfold f_L_c1861
  refine v_aload_n dL_law_1861 rfl 1 rfl ?_
  refine v_callVi (As := []) cv_L_277 (S_X10_leaked hl) tt_0 rfl rfl rfl (Nat.le_of_ble_eq_true rfl) dL_law_1862 (CR_law (by decide) (by decide) (by omega) (by omega)) (fun r1 w1 => ?_)
  refine v_aload_n dL_law_1865 rfl 2 rfl ?_
  refine v_callVi (As := []) cv_L_280 (S_X11_leaked hl) tt_141 rfl rfl rfl (Nat.le_of_ble_eq_true rfl) dL_law_1866 (CR_law (by decide) (by decide) (by omega) (by omega)) (fun r2 w2 => ?_)
  refine v_icmp_eq (tgt := 2642) dL_law_1869 (by decide) ?_ ?_
  · refine v_iinc (v := (z5 + 4)) dL_law_2642 (q := 5) rfl rfl (Nat.le_of_ble_eq_true rfl) rfl ?_
    refine v_goto (tgt := 28) dL_law_2645 (by decide) ?_
    refine v_sub [1, 2, 3, 4, 5, 0] rfl ?_
    refine v_widen B Bs (by omega) (by omega) ?_
    exact hK _ _
  · refine v_iconst (v := 0) dL_law_1872 (by decide) ?_
    exact v_zret dL_law_1873 rfl rfl rfl (by omega) (by omega)
def f_L_c1874 (g : GC) (K : Int32 → XW → Option (Int32 × XW)) (z5 : Int32) (w : XW) : Option (Int32 × XW) := (bI (f_L_meanWater w) (fun r1 w1 => (bD (f_X11_meanWater w1) (fun r2 w2 => (bI (f_X11_thrown w2) (fun r3 w3 => (if r3 = r1 then (if r1 = 0 then (if (Op.cmpValue (FP.dcmp w3.2.2 r2) .l) = 0 then (K (z5 + 4) w3) else (if (Op.cmpValue (FP.dcmp w3.2.2 w3.2.2) .l) = 0 then (some (0, w3)) else (if (Op.cmpValue (FP.dcmp r2 r2) .l) = 0 then (some (0, w3)) else (K (z5 + 4) w3)))) else (K (z5 + 4) w3)) else (some (0, w3)))))))))
set_option maxRecDepth 100000 in
theorem S_L_c1874 {g : GC} (hl : g.1.stackTraces = false) {K : Int32 → XW → Option (Int32 × XW)} {B Bs : Nat} (hB : B ≤ 603072) (hBs : Bs ≤ 7178346) (hK : ∀ (z5 : Int32) (w : XW), VE g cL_law 9 RL (some .boolean) [] room_1 603072 7178346 oI B Bs 28 [(0, .ref g.2.2.2.2.2.2.1), (1, .ref (g.2.1 + 0)), (2, .ref (g.2.1 + 141)), (3, .ref (g.2.1 + 150)), (4, .ref (g.2.1 + 151)), (5, .int z5)] [] w (K z5 w)) (z5 : Int32) (w : XW) (kc ks : Nat) (h1 : kc + 4 ≤ B) (h2 : ks + 24 ≤ Bs) : VE g cL_law 9 RL (some .boolean) [] room_1 603072 7178346 oI kc ks 1874 [(0, .ref g.2.2.2.2.2.2.1), (1, .ref (g.2.1 + 0)), (2, .ref (g.2.1 + 141)), (3, .ref (g.2.1 + 150)), (4, .ref (g.2.1 + 151)), (5, .int z5)] [] w (f_L_c1874 g K z5 w) := by
  unfold f_L_c1874
  refine v_aload_n dL_law_1874 rfl 1 rfl ?_
  refine v_aload dL_law_1875 4 rfl ?_
  refine v_callSh (As := [.ref (g.2.1 + 0), .ref (g.2.1 + 151)]) ch_L_281 (S_L_meanWater hl) rfl rfl (Nat.le_of_ble_eq_true rfl) dL_law_1877 (CR_law (by decide) (by decide) (by omega) (by omega)) (fun r1 w1 => ?_)
  refine v_istore dL_law_1880 (Nat.le_of_ble_eq_true rfl) rfl ?_
  refine v_aload_n dL_law_1882 rfl 3 rfl ?_
  refine v_callVd (As := []) cv_L_284 (S_X11_meanWater hl) tt_141 rfl rfl rfl (Nat.le_of_ble_eq_true rfl) dL_law_1883 (CR_law (by decide) (by decide) (by omega) (by omega)) (fun r2 w2 => ?_)
  refine v_dstore dL_law_1886 (Nat.le_of_ble_eq_true rfl) rfl ?_
  refine v_aload_n dL_law_1888 rfl 4 rfl ?_
  refine v_callVi (As := []) cv_L_162 (S_X11_thrown hl) tt_141 rfl rfl rfl (Nat.le_of_ble_eq_true rfl) dL_law_1889 (CR_law (by decide) (by decide) (by omega) (by omega)) (fun r3 w3 => ?_)
  refine v_iload dL_law_1892 1 rfl ?_
  refine v_icmp_eq (tgt := 1899) dL_law_1894 (by decide) ?_ ?_
  · refine v_iload dL_law_1899 1 rfl ?_
    refine v_if_ne (tgt := 1936) dL_law_1901 (by decide) ?_ ?_
    · refine v_goto (tgt := 2642) dL_law_1936 (by decide) ?_
      refine v_iinc (v := (z5 + 4)) dL_law_2642 (q := 7) rfl rfl (Nat.le_of_ble_eq_true rfl) rfl ?_
      refine v_goto (tgt := 28) dL_law_2645 (by decide) ?_
      refine v_sub [3, 4, 5, 6, 7, 0] rfl ?_
      refine v_widen B Bs (by omega) (by omega) ?_
      exact hK _ _
    · refine v_aload dL_law_1904 6 rfl ?_
      refine v_iconst (v := 0) dL_law_1906 (by decide) ?_
      refine v_dald0 dL_law_1907 ?_
      refine v_dload dL_law_1908 0 rfl ?_
      refine v_dcmp dL_law_1910 ?_
      refine v_if_eq (tgt := 1936) dL_law_1911 (by decide) ?_ ?_
      · refine v_goto (tgt := 2642) dL_law_1936 (by decide) ?_
        refine v_iinc (v := (z5 + 4)) dL_law_2642 (q := 7) rfl rfl (Nat.le_of_ble_eq_true rfl) rfl ?_
        refine v_goto (tgt := 28) dL_law_2645 (by decide) ?_
        refine v_sub [3, 4, 5, 6, 7, 0] rfl ?_
        refine v_widen B Bs (by omega) (by omega) ?_
        exact hK _ _
      · refine v_aload dL_law_1914 6 rfl ?_
        refine v_iconst (v := 0) dL_law_1916 (by decide) ?_
        refine v_dald0 dL_law_1917 ?_
        refine v_aload dL_law_1918 6 rfl ?_
        refine v_iconst (v := 0) dL_law_1920 (by decide) ?_
        refine v_dald0 dL_law_1921 ?_
        refine v_dcmp dL_law_1922 ?_
        refine v_if_eq (tgt := 1934) dL_law_1923 (by decide) ?_ ?_
        · refine v_iconst (v := 0) dL_law_1934 (by decide) ?_
          exact v_zret dL_law_1935 rfl rfl rfl (by omega) (by omega)
        · refine v_dload dL_law_1926 0 rfl ?_
          refine v_dload dL_law_1928 0 rfl ?_
          refine v_dcmp dL_law_1930 ?_
          refine v_if_ne (tgt := 1936) dL_law_1931 (by decide) ?_ ?_
          · refine v_goto (tgt := 2642) dL_law_1936 (by decide) ?_
            refine v_iinc (v := (z5 + 4)) dL_law_2642 (q := 7) rfl rfl (Nat.le_of_ble_eq_true rfl) rfl ?_
            refine v_goto (tgt := 28) dL_law_2645 (by decide) ?_
            refine v_sub [3, 4, 5, 6, 7, 0] rfl ?_
            refine v_widen B Bs (by omega) (by omega) ?_
            exact hK _ _
          · refine v_iconst (v := 0) dL_law_1934 (by decide) ?_
            exact v_zret dL_law_1935 rfl rfl rfl (by omega) (by omega)
  · refine v_iconst (v := 0) dL_law_1897 (by decide) ?_
    exact v_zret dL_law_1898 rfl rfl rfl (by omega) (by omega)
def f_L_c1939 (g : GC) (K : Int32 → XW → Option (Int32 × XW)) (z5 : Int32) (w : XW) : Option (Int32 × XW) := (bI (f_L_leakedShare w) (fun r1 w1 => (bF (f_X11_leakedShare w1) (fun r2 w2 => (bI (f_X11_thrown w2) (fun r3 w3 => (if r3 = r1 then (if r1 = 0 then (if okF64 (FP.f2d r2) then (if (Op.cmpValue (FP.dcmp w3.2.2 (FP.f2d r2)) .l) = 0 then (K (z5 + 4) w3) else (if (Op.cmpValue (FP.dcmp w3.2.2 w3.2.2) .l) = 0 then (some (0, w3)) else (if (Op.cmpValue (FP.fcmp r2 r2) .l) = 0 then (some (0, w3)) else (K (z5 + 4) w3)))) else none) else (K (z5 + 4) w3)) else (some (0, w3)))))))))
set_option maxRecDepth 100000 in
theorem S_L_c1939 {g : GC} (hl : g.1.stackTraces = false) {K : Int32 → XW → Option (Int32 × XW)} {B Bs : Nat} (hB : B ≤ 603072) (hBs : Bs ≤ 7178346) (hK : ∀ (z5 : Int32) (w : XW), VE g cL_law 9 RL (some .boolean) [] room_1 603072 7178346 oI B Bs 28 [(0, .ref g.2.2.2.2.2.2.1), (1, .ref (g.2.1 + 0)), (2, .ref (g.2.1 + 141)), (3, .ref (g.2.1 + 150)), (4, .ref (g.2.1 + 151)), (5, .int z5)] [] w (K z5 w)) (z5 : Int32) (w : XW) (kc ks : Nat) (h1 : kc + 4 ≤ B) (h2 : ks + 24 ≤ Bs) : VE g cL_law 9 RL (some .boolean) [] room_1 603072 7178346 oI kc ks 1939 [(0, .ref g.2.2.2.2.2.2.1), (1, .ref (g.2.1 + 0)), (2, .ref (g.2.1 + 141)), (3, .ref (g.2.1 + 150)), (4, .ref (g.2.1 + 151)), (5, .int z5)] [] w (f_L_c1939 g K z5 w) := by
  unfold f_L_c1939
  refine v_aload_n dL_law_1939 rfl 1 rfl ?_
  refine v_aload dL_law_1940 4 rfl ?_
  refine v_callSh (As := [.ref (g.2.1 + 0), .ref (g.2.1 + 151)]) ch_L_285 (S_L_leakedShare hl) rfl rfl (Nat.le_of_ble_eq_true rfl) dL_law_1942 (CR_law (by decide) (by decide) (by omega) (by omega)) (fun r1 w1 => ?_)
  refine v_istore dL_law_1945 (Nat.le_of_ble_eq_true rfl) rfl ?_
  refine v_aload_n dL_law_1947 rfl 3 rfl ?_
  refine v_callVf (As := []) cv_L_287 (S_X11_leakedShare hl) tt_141 rfl rfl rfl (Nat.le_of_ble_eq_true rfl) dL_law_1948 (CR_law (by decide) (by decide) (by omega) (by omega)) (fun r2 w2 => ?_)
  refine v_fstore dL_law_1951 (Nat.le_of_ble_eq_true rfl) rfl ?_
  refine v_aload_n dL_law_1953 rfl 4 rfl ?_
  refine v_callVi (As := []) cv_L_162 (S_X11_thrown hl) tt_141 rfl rfl rfl (Nat.le_of_ble_eq_true rfl) dL_law_1954 (CR_law (by decide) (by decide) (by omega) (by omega)) (fun r3 w3 => ?_)
  refine v_iload dL_law_1957 1 rfl ?_
  refine v_icmp_eq (tgt := 1964) dL_law_1959 (by decide) ?_ ?_
  · refine v_iload dL_law_1964 1 rfl ?_
    refine v_if_ne (tgt := 2002) dL_law_1966 (by decide) ?_ ?_
    · refine v_goto (tgt := 2642) dL_law_2002 (by decide) ?_
      refine v_iinc (v := (z5 + 4)) dL_law_2642 (q := 7) rfl rfl (Nat.le_of_ble_eq_true rfl) rfl ?_
      refine v_goto (tgt := 28) dL_law_2645 (by decide) ?_
      refine v_sub [3, 4, 5, 6, 7, 0] rfl ?_
      refine v_widen B Bs (by omega) (by omega) ?_
      exact hK _ _
    · refine v_aload dL_law_1969 6 rfl ?_
      refine v_iconst (v := 0) dL_law_1971 (by decide) ?_
      refine v_dald0 dL_law_1972 ?_
      refine v_fload dL_law_1973 0 rfl ?_
      refine v_guard (fun h4 => ?_)
      refine v_f2d dL_law_1975 (okF64_ok h4) ?_
      refine v_dcmp dL_law_1976 ?_
      refine v_if_eq (tgt := 2002) dL_law_1977 (by decide) ?_ ?_
      · refine v_goto (tgt := 2642) dL_law_2002 (by decide) ?_
        refine v_iinc (v := (z5 + 4)) dL_law_2642 (q := 7) rfl rfl (Nat.le_of_ble_eq_true rfl) rfl ?_
        refine v_goto (tgt := 28) dL_law_2645 (by decide) ?_
        refine v_sub [3, 4, 5, 6, 7, 0] rfl ?_
        refine v_widen B Bs (by omega) (by omega) ?_
        exact hK _ _
      · refine v_aload dL_law_1980 6 rfl ?_
        refine v_iconst (v := 0) dL_law_1982 (by decide) ?_
        refine v_dald0 dL_law_1983 ?_
        refine v_aload dL_law_1984 6 rfl ?_
        refine v_iconst (v := 0) dL_law_1986 (by decide) ?_
        refine v_dald0 dL_law_1987 ?_
        refine v_dcmp dL_law_1988 ?_
        refine v_if_eq (tgt := 2000) dL_law_1989 (by decide) ?_ ?_
        · refine v_iconst (v := 0) dL_law_2000 (by decide) ?_
          exact v_zret dL_law_2001 rfl rfl rfl (by omega) (by omega)
        · refine v_fload dL_law_1992 0 rfl ?_
          refine v_fload dL_law_1994 0 rfl ?_
          refine v_fcmp dL_law_1996 ?_
          refine v_if_ne (tgt := 2002) dL_law_1997 (by decide) ?_ ?_
          · refine v_goto (tgt := 2642) dL_law_2002 (by decide) ?_
            refine v_iinc (v := (z5 + 4)) dL_law_2642 (q := 7) rfl rfl (Nat.le_of_ble_eq_true rfl) rfl ?_
            refine v_goto (tgt := 28) dL_law_2645 (by decide) ?_
            refine v_sub [3, 4, 5, 6, 7, 0] rfl ?_
            refine v_widen B Bs (by omega) (by omega) ?_
            exact hK _ _
          · refine v_iconst (v := 0) dL_law_2000 (by decide) ?_
            exact v_zret dL_law_2001 rfl rfl rfl (by omega) (by omega)
  · refine v_iconst (v := 0) dL_law_1962 (by decide) ?_
    exact v_zret dL_law_1963 rfl rfl rfl (by omega) (by omega)
def f_L_c2005 (g : GC) (K : Int32 → XW → Option (Int32 × XW)) (z5 : Int32) (w : XW) : Option (Int32 × XW) := (if inB (z5 + 1) g.2.2.2.2.2.2.2.1 then (bI (f_L_feed (((Int32.toUInt32 (g.2.2.2.2.2.2.2.2 (Int32.toNatClampNeg (z5 + 1)))) % 65536).toInt32) w) (fun r2 w2 => (if inB (z5 + 1) g.2.2.2.2.2.2.2.1 then (bI (f_X11_feed (((Int32.toUInt32 (g.2.2.2.2.2.2.2.2 (Int32.toNatClampNeg (z5 + 1)))) % 65536).toInt32) w2) (fun r4 w4 => (bI (f_X11_thrown w4) (fun r5 w5 => (if r5 = r2 then (if r2 = 0 then (if (lg_cmp w5.2.1 (Int32.toInt64 r4)) = 0 then (K (z5 + 4) w5) else (some (0, w5))) else (K (z5 + 4) w5)) else (some (0, w5))))))) else none))) else none)
set_option maxRecDepth 100000 in
theorem S_L_c2005 {g : GC} (hl : g.1.stackTraces = false) {K : Int32 → XW → Option (Int32 × XW)} {B Bs : Nat} (hB : B ≤ 603072) (hBs : Bs ≤ 7178346) (hK : ∀ (z5 : Int32) (w : XW), VE g cL_law 9 RL (some .boolean) [] room_1 603072 7178346 oI B Bs 28 [(0, .ref g.2.2.2.2.2.2.1), (1, .ref (g.2.1 + 0)), (2, .ref (g.2.1 + 141)), (3, .ref (g.2.1 + 150)), (4, .ref (g.2.1 + 151)), (5, .int z5)] [] w (K z5 w)) (z5 : Int32) (w : XW) (kc ks : Nat) (h1 : kc + 4 ≤ B) (h2 : ks + 24 ≤ Bs) : VE g cL_law 9 RL (some .boolean) [] room_1 603072 7178346 oI kc ks 2005 [(0, .ref g.2.2.2.2.2.2.1), (1, .ref (g.2.1 + 0)), (2, .ref (g.2.1 + 141)), (3, .ref (g.2.1 + 150)), (4, .ref (g.2.1 + 151)), (5, .int z5)] [] w (f_L_c2005 g K z5 w) := by
  unfold f_L_c2005
  refine v_aload_n dL_law_2005 rfl 1 rfl ?_
  refine v_aload_n dL_law_2006 rfl 0 rfl ?_
  refine v_iload dL_law_2007 5 rfl ?_
  refine v_iconst (v := 1) dL_law_2009 (by decide) ?_
  refine v_iadd dL_law_2010 ?_
  refine v_guard (fun h1 => ?_)
  refine v_sld h1 dL_law_2011 ?_
  refine v_i2c dL_law_2012 ?_
  refine v_aload_n dL_law_2013 rfl 3 rfl ?_
  refine v_callSh (As := [.ref (g.2.1 + 0), .int (((Int32.toUInt32 (g.2.2.2.2.2.2.2.2 (Int32.toNatClampNeg (z5 + 1)))) % 65536).toInt32), .ref (g.2.1 + 150)]) ch_L_288 (S_L_feed hl) rfl rfl (Nat.le_of_ble_eq_true rfl) dL_law_2014 (CR_law (by decide) (by decide) (by omega) (by omega)) (fun r2 w2 => ?_)
  refine v_istore dL_law_2017 (Nat.le_of_ble_eq_true rfl) rfl ?_
  refine v_aload_n dL_law_2019 rfl 3 rfl ?_
  refine v_aload_n dL_law_2020 rfl 1 rfl ?_
  refine v_iload dL_law_2021 6 rfl ?_
  refine v_iconst (v := 1) dL_law_2023 (by decide) ?_
  refine v_iadd dL_law_2024 ?_
  refine v_guard (fun h3 => ?_)
  refine v_sld h3 dL_law_2025 ?_
  refine v_i2c dL_law_2026 ?_
  refine v_callVi (As := [.int (((Int32.toUInt32 (g.2.2.2.2.2.2.2.2 (Int32.toNatClampNeg (z5 + 1)))) % 65536).toInt32)]) cv_L_290 (S_X11_feed hl) tt_141 rfl rfl rfl (Nat.le_of_ble_eq_true rfl) dL_law_2027 (CR_law (by decide) (by decide) (by omega) (by omega)) (fun r4 w4 => ?_)
  refine v_istore dL_law_2030 (Nat.le_of_ble_eq_true rfl) rfl ?_
  refine v_aload_n dL_law_2032 rfl 4 rfl ?_
  refine v_callVi (As := []) cv_L_162 (S_X11_thrown hl) tt_141 rfl rfl rfl (Nat.le_of_ble_eq_true rfl) dL_law_2033 (CR_law (by decide) (by decide) (by omega) (by omega)) (fun r5 w5 => ?_)
  refine v_iload dL_law_2036 1 rfl ?_
  refine v_icmp_eq (tgt := 2043) dL_law_2038 (by decide) ?_ ?_
  · refine v_iload dL_law_2043 1 rfl ?_
    refine v_if_ne (tgt := 2060) dL_law_2045 (by decide) ?_ ?_
    · refine v_goto (tgt := 2642) dL_law_2060 (by decide) ?_
      refine v_iinc (v := (z5 + 4)) dL_law_2642 (q := 7) rfl rfl (Nat.le_of_ble_eq_true rfl) rfl ?_
      refine v_goto (tgt := 28) dL_law_2645 (by decide) ?_
      refine v_sub [3, 4, 5, 6, 7, 0] rfl ?_
      refine v_widen B Bs (by omega) (by omega) ?_
      exact hK _ _
    · refine v_aload_n dL_law_2048 rfl 5 rfl ?_
      refine v_iconst (v := 0) dL_law_2049 (by decide) ?_
      refine v_lald0 dL_law_2050 ?_
      refine v_iload dL_law_2051 0 rfl ?_
      refine v_i2l dL_law_2053 ?_
      refine v_lcmp dL_law_2054 ?_
      refine v_if_eq (tgt := 2060) dL_law_2055 (by decide) ?_ ?_
      · refine v_goto (tgt := 2642) dL_law_2060 (by decide) ?_
        refine v_iinc (v := (z5 + 4)) dL_law_2642 (q := 7) rfl rfl (Nat.le_of_ble_eq_true rfl) rfl ?_
        refine v_goto (tgt := 28) dL_law_2645 (by decide) ?_
        refine v_sub [3, 4, 5, 6, 7, 0] rfl ?_
        refine v_widen B Bs (by omega) (by omega) ?_
        exact hK _ _
      · refine v_iconst (v := 0) dL_law_2058 (by decide) ?_
        exact v_zret dL_law_2059 rfl rfl rfl (by omega) (by omega)
  · refine v_iconst (v := 0) dL_law_2041 (by decide) ?_
    exact v_zret dL_law_2042 rfl rfl rfl (by omega) (by omega)
def f_L_c2063 (g : GC) (K : Int32 → XW → Option (Int32 × XW)) (z5 : Int32) (w : XW) : Option (Int32 × XW) := (bI (f_X10_clearText w) (fun r1 w1 => (bI (f_X11_clearText w1) (fun r2 w2 => (if r1 = r2 then (K (z5 + 4) w2) else (some (0, w2)))))))
set_option maxRecDepth 100000 in
theorem S_L_c2063 {g : GC} (hl : g.1.stackTraces = false) {K : Int32 → XW → Option (Int32 × XW)} {B Bs : Nat} (hB : B ≤ 603072) (hBs : Bs ≤ 7178346) (hK : ∀ (z5 : Int32) (w : XW), VE g cL_law 9 RL (some .boolean) [] room_1 603072 7178346 oI B Bs 28 [(0, .ref g.2.2.2.2.2.2.1), (1, .ref (g.2.1 + 0)), (2, .ref (g.2.1 + 141)), (3, .ref (g.2.1 + 150)), (4, .ref (g.2.1 + 151)), (5, .int z5)] [] w (K z5 w)) (z5 : Int32) (w : XW) (kc ks : Nat) (h1 : kc + 4 ≤ B) (h2 : ks + 24 ≤ Bs) : VE g cL_law 9 RL (some .boolean) [] room_1 603072 7178346 oI kc ks 2063 [(0, .ref g.2.2.2.2.2.2.1), (1, .ref (g.2.1 + 0)), (2, .ref (g.2.1 + 141)), (3, .ref (g.2.1 + 150)), (4, .ref (g.2.1 + 151)), (5, .int z5)] [] w (f_L_c2063 g K z5 w) := by
  unfold f_L_c2063
  refine v_aload_n dL_law_2063 rfl 1 rfl ?_
  refine v_callVi (As := []) cv_L_291 (S_X10_clearText hl) tt_0 rfl rfl rfl (Nat.le_of_ble_eq_true rfl) dL_law_2064 (CR_law (by decide) (by decide) (by omega) (by omega)) (fun r1 w1 => ?_)
  refine v_aload_n dL_law_2067 rfl 2 rfl ?_
  refine v_callVi (As := []) cv_L_294 (S_X11_clearText hl) tt_141 rfl rfl rfl (Nat.le_of_ble_eq_true rfl) dL_law_2068 (CR_law (by decide) (by decide) (by omega) (by omega)) (fun r2 w2 => ?_)
  refine v_icmp_eq (tgt := 2642) dL_law_2071 (by decide) ?_ ?_
  · refine v_iinc (v := (z5 + 4)) dL_law_2642 (q := 5) rfl rfl (Nat.le_of_ble_eq_true rfl) rfl ?_
    refine v_goto (tgt := 28) dL_law_2645 (by decide) ?_
    refine v_sub [1, 2, 3, 4, 5, 0] rfl ?_
    refine v_widen B Bs (by omega) (by omega) ?_
    exact hK _ _
  · refine v_iconst (v := 0) dL_law_2074 (by decide) ?_
    exact v_zret dL_law_2075 rfl rfl rfl (by omega) (by omega)
def f_L_c2076 (g : GC) (K : Int32 → XW → Option (Int32 × XW)) (z5 : Int32) (w : XW) : Option (Int32 × XW) := (bI (f_L_search w) (fun r1 w1 => (bI (f_X11_search w1) (fun r2 w2 => (bI (f_X11_thrown w2) (fun r3 w3 => (if r3 = r1 then (if r1 = 0 then (if (lg_cmp w3.2.1 (Int32.toInt64 r2)) = 0 then (K (z5 + 4) w3) else (some (0, w3))) else (K (z5 + 4) w3)) else (some (0, w3)))))))))
set_option maxRecDepth 100000 in
theorem S_L_c2076 {g : GC} (hl : g.1.stackTraces = false) {K : Int32 → XW → Option (Int32 × XW)} {B Bs : Nat} (hB : B ≤ 603072) (hBs : Bs ≤ 7178346) (hK : ∀ (z5 : Int32) (w : XW), VE g cL_law 9 RL (some .boolean) [] room_1 603072 7178346 oI B Bs 28 [(0, .ref g.2.2.2.2.2.2.1), (1, .ref (g.2.1 + 0)), (2, .ref (g.2.1 + 141)), (3, .ref (g.2.1 + 150)), (4, .ref (g.2.1 + 151)), (5, .int z5)] [] w (K z5 w)) (z5 : Int32) (w : XW) (kc ks : Nat) (h1 : kc + 4 ≤ B) (h2 : ks + 24 ≤ Bs) : VE g cL_law 9 RL (some .boolean) [] room_1 603072 7178346 oI kc ks 2076 [(0, .ref g.2.2.2.2.2.2.1), (1, .ref (g.2.1 + 0)), (2, .ref (g.2.1 + 141)), (3, .ref (g.2.1 + 150)), (4, .ref (g.2.1 + 151)), (5, .int z5)] [] w (f_L_c2076 g K z5 w) := by
  unfold f_L_c2076
  refine v_aload_n dL_law_2076 rfl 1 rfl ?_
  refine v_aload_n dL_law_2077 rfl 3 rfl ?_
  refine v_callSh (As := [.ref (g.2.1 + 0), .ref (g.2.1 + 150)]) ch_L_295 (S_L_search hl) rfl rfl (Nat.le_of_ble_eq_true rfl) dL_law_2078 (CR_law (by decide) (by decide) (by omega) (by omega)) (fun r1 w1 => ?_)
  refine v_istore dL_law_2081 (Nat.le_of_ble_eq_true rfl) rfl ?_
  refine v_aload_n dL_law_2083 rfl 3 rfl ?_
  refine v_callVi (As := []) cv_L_297 (S_X11_search hl) tt_141 rfl rfl rfl (Nat.le_of_ble_eq_true rfl) dL_law_2084 (CR_law (by decide) (by decide) (by omega) (by omega)) (fun r2 w2 => ?_)
  refine v_istore dL_law_2087 (Nat.le_of_ble_eq_true rfl) rfl ?_
  refine v_aload_n dL_law_2089 rfl 4 rfl ?_
  refine v_callVi (As := []) cv_L_162 (S_X11_thrown hl) tt_141 rfl rfl rfl (Nat.le_of_ble_eq_true rfl) dL_law_2090 (CR_law (by decide) (by decide) (by omega) (by omega)) (fun r3 w3 => ?_)
  refine v_iload dL_law_2093 1 rfl ?_
  refine v_icmp_eq (tgt := 2100) dL_law_2095 (by decide) ?_ ?_
  · refine v_iload dL_law_2100 1 rfl ?_
    refine v_if_ne (tgt := 2117) dL_law_2102 (by decide) ?_ ?_
    · refine v_goto (tgt := 2642) dL_law_2117 (by decide) ?_
      refine v_iinc (v := (z5 + 4)) dL_law_2642 (q := 7) rfl rfl (Nat.le_of_ble_eq_true rfl) rfl ?_
      refine v_goto (tgt := 28) dL_law_2645 (by decide) ?_
      refine v_sub [3, 4, 5, 6, 7, 0] rfl ?_
      refine v_widen B Bs (by omega) (by omega) ?_
      exact hK _ _
    · refine v_aload_n dL_law_2105 rfl 5 rfl ?_
      refine v_iconst (v := 0) dL_law_2106 (by decide) ?_
      refine v_lald0 dL_law_2107 ?_
      refine v_iload dL_law_2108 0 rfl ?_
      refine v_i2l dL_law_2110 ?_
      refine v_lcmp dL_law_2111 ?_
      refine v_if_eq (tgt := 2117) dL_law_2112 (by decide) ?_ ?_
      · refine v_goto (tgt := 2642) dL_law_2117 (by decide) ?_
        refine v_iinc (v := (z5 + 4)) dL_law_2642 (q := 7) rfl rfl (Nat.le_of_ble_eq_true rfl) rfl ?_
        refine v_goto (tgt := 28) dL_law_2645 (by decide) ?_
        refine v_sub [3, 4, 5, 6, 7, 0] rfl ?_
        refine v_widen B Bs (by omega) (by omega) ?_
        exact hK _ _
      · refine v_iconst (v := 0) dL_law_2115 (by decide) ?_
        exact v_zret dL_law_2116 rfl rfl rfl (by omega) (by omega)
  · refine v_iconst (v := 0) dL_law_2098 (by decide) ?_
    exact v_zret dL_law_2099 rfl rfl rfl (by omega) (by omega)
def f_L_c2120 (g : GC) (K : Int32 → XW → Option (Int32 × XW)) (z5 : Int32) (w : XW) : Option (Int32 × XW) := (if inB (z5 + 1) g.2.2.2.2.2.2.2.1 then (bI (f_L_matches (g.2.2.2.2.2.2.2.2 (Int32.toNatClampNeg (z5 + 1))) w) (fun r2 w2 => (if inB (z5 + 1) g.2.2.2.2.2.2.2.1 then (bI (f_X11_matches (g.2.2.2.2.2.2.2.2 (Int32.toNatClampNeg (z5 + 1))) w2) (fun r4 w4 => (bI (f_X11_thrown w4) (fun r5 w5 => (if r5 = r2 then (if r2 = 0 then (if r4 = 0 then (if (lg_cmp w5.2.1 0) = 0 then (K (z5 + 4) w5) else (some (0, w5))) else (if (lg_cmp w5.2.1 1) = 0 then (K (z5 + 4) w5) else (some (0, w5)))) else (K (z5 + 4) w5)) else (some (0, w5))))))) else none))) else none)
set_option maxRecDepth 100000 in
theorem S_L_c2120 {g : GC} (hl : g.1.stackTraces = false) {K : Int32 → XW → Option (Int32 × XW)} {B Bs : Nat} (hB : B ≤ 603072) (hBs : Bs ≤ 7178346) (hK : ∀ (z5 : Int32) (w : XW), VE g cL_law 9 RL (some .boolean) [] room_1 603072 7178346 oI B Bs 28 [(0, .ref g.2.2.2.2.2.2.1), (1, .ref (g.2.1 + 0)), (2, .ref (g.2.1 + 141)), (3, .ref (g.2.1 + 150)), (4, .ref (g.2.1 + 151)), (5, .int z5)] [] w (K z5 w)) (z5 : Int32) (w : XW) (kc ks : Nat) (h1 : kc + 4 ≤ B) (h2 : ks + 24 ≤ Bs) : VE g cL_law 9 RL (some .boolean) [] room_1 603072 7178346 oI kc ks 2120 [(0, .ref g.2.2.2.2.2.2.1), (1, .ref (g.2.1 + 0)), (2, .ref (g.2.1 + 141)), (3, .ref (g.2.1 + 150)), (4, .ref (g.2.1 + 151)), (5, .int z5)] [] w (f_L_c2120 g K z5 w) := by
  unfold f_L_c2120
  refine v_aload_n dL_law_2120 rfl 1 rfl ?_
  refine v_aload_n dL_law_2121 rfl 0 rfl ?_
  refine v_iload dL_law_2122 5 rfl ?_
  refine v_iconst (v := 1) dL_law_2124 (by decide) ?_
  refine v_iadd dL_law_2125 ?_
  refine v_guard (fun h1 => ?_)
  refine v_sld h1 dL_law_2126 ?_
  refine v_aload_n dL_law_2127 rfl 3 rfl ?_
  refine v_callSh (As := [.ref (g.2.1 + 0), .int (g.2.2.2.2.2.2.2.2 (Int32.toNatClampNeg (z5 + 1))), .ref (g.2.1 + 150)]) ch_L_298 (S_L_matches hl) rfl rfl (Nat.le_of_ble_eq_true rfl) dL_law_2128 (CR_law (by decide) (by decide) (by omega) (by omega)) (fun r2 w2 => ?_)
  refine v_istore dL_law_2131 (Nat.le_of_ble_eq_true rfl) rfl ?_
  refine v_aload_n dL_law_2133 rfl 3 rfl ?_
  refine v_aload_n dL_law_2134 rfl 1 rfl ?_
  refine v_iload dL_law_2135 6 rfl ?_
  refine v_iconst (v := 1) dL_law_2137 (by decide) ?_
  refine v_iadd dL_law_2138 ?_
  refine v_guard (fun h3 => ?_)
  refine v_sld h3 dL_law_2139 ?_
  refine v_callVi (As := [.int (g.2.2.2.2.2.2.2.2 (Int32.toNatClampNeg (z5 + 1)))]) cv_L_300 (S_X11_matches hl) tt_141 rfl rfl rfl (Nat.le_of_ble_eq_true rfl) dL_law_2140 (CR_law (by decide) (by decide) (by omega) (by omega)) (fun r4 w4 => ?_)
  refine v_istore dL_law_2143 (Nat.le_of_ble_eq_true rfl) rfl ?_
  refine v_aload_n dL_law_2145 rfl 4 rfl ?_
  refine v_callVi (As := []) cv_L_162 (S_X11_thrown hl) tt_141 rfl rfl rfl (Nat.le_of_ble_eq_true rfl) dL_law_2146 (CR_law (by decide) (by decide) (by omega) (by omega)) (fun r5 w5 => ?_)
  refine v_iload dL_law_2149 1 rfl ?_
  refine v_icmp_eq (tgt := 2156) dL_law_2151 (by decide) ?_ ?_
  · refine v_iload dL_law_2156 1 rfl ?_
    refine v_if_ne (tgt := 2180) dL_law_2158 (by decide) ?_ ?_
    · refine v_goto (tgt := 2642) dL_law_2180 (by decide) ?_
      refine v_iinc (v := (z5 + 4)) dL_law_2642 (q := 7) rfl rfl (Nat.le_of_ble_eq_true rfl) rfl ?_
      refine v_goto (tgt := 28) dL_law_2645 (by decide) ?_
      refine v_sub [3, 4, 5, 6, 7, 0] rfl ?_
      refine v_widen B Bs (by omega) (by omega) ?_
      exact hK _ _
    · refine v_aload_n dL_law_2161 rfl 5 rfl ?_
      refine v_iconst (v := 0) dL_law_2162 (by decide) ?_
      refine v_lald0 dL_law_2163 ?_
      refine v_iload dL_law_2164 0 rfl ?_
      refine v_if_eq (tgt := 2173) dL_law_2166 (by decide) ?_ ?_
      · refine v_lconst (v := 0) dL_law_2173 rfl ?_
        refine v_lcmp dL_law_2174 ?_
        refine v_if_eq (tgt := 2180) dL_law_2175 (by decide) ?_ ?_
        · refine v_goto (tgt := 2642) dL_law_2180 (by decide) ?_
          refine v_iinc (v := (z5 + 4)) dL_law_2642 (q := 7) rfl rfl (Nat.le_of_ble_eq_true rfl) rfl ?_
          refine v_goto (tgt := 28) dL_law_2645 (by decide) ?_
          refine v_sub [3, 4, 5, 6, 7, 0] rfl ?_
          refine v_widen B Bs (by omega) (by omega) ?_
          exact hK _ _
        · refine v_iconst (v := 0) dL_law_2178 (by decide) ?_
          exact v_zret dL_law_2179 rfl rfl rfl (by omega) (by omega)
      · refine v_lconst (v := 1) dL_law_2169 rfl ?_
        refine v_goto (tgt := 2174) dL_law_2170 (by decide) ?_
        refine v_lcmp dL_law_2174 ?_
        refine v_if_eq (tgt := 2180) dL_law_2175 (by decide) ?_ ?_
        · refine v_goto (tgt := 2642) dL_law_2180 (by decide) ?_
          refine v_iinc (v := (z5 + 4)) dL_law_2642 (q := 7) rfl rfl (Nat.le_of_ble_eq_true rfl) rfl ?_
          refine v_goto (tgt := 28) dL_law_2645 (by decide) ?_
          refine v_sub [3, 4, 5, 6, 7, 0] rfl ?_
          refine v_widen B Bs (by omega) (by omega) ?_
          exact hK _ _
        · refine v_iconst (v := 0) dL_law_2178 (by decide) ?_
          exact v_zret dL_law_2179 rfl rfl rfl (by omega) (by omega)
  · refine v_iconst (v := 0) dL_law_2154 (by decide) ?_
    exact v_zret dL_law_2155 rfl rfl rfl (by omega) (by omega)
def f_L_c2183 (g : GC) (K : Int32 → XW → Option (Int32 × XW)) (z5 : Int32) (w : XW) : Option (Int32 × XW) := (bI (f_L_execute w) (fun r1 w1 => (bI (f_X11_execute w1) (fun r2 w2 => (bI (f_X11_thrown w2) (fun r3 w3 => (if r3 = r1 then (if r1 = 0 then (if (lg_cmp w3.2.1 (Int32.toInt64 r2)) = 0 then (K (z5 + 4) w3) else (some (0, w3))) else (K (z5 + 4) w3)) else (some (0, w3)))))))))
set_option maxRecDepth 100000 in
theorem S_L_c2183 {g : GC} (hl : g.1.stackTraces = false) {K : Int32 → XW → Option (Int32 × XW)} {B Bs : Nat} (hB : B ≤ 603072) (hBs : Bs ≤ 7178346) (hK : ∀ (z5 : Int32) (w : XW), VE g cL_law 9 RL (some .boolean) [] room_1 603072 7178346 oI B Bs 28 [(0, .ref g.2.2.2.2.2.2.1), (1, .ref (g.2.1 + 0)), (2, .ref (g.2.1 + 141)), (3, .ref (g.2.1 + 150)), (4, .ref (g.2.1 + 151)), (5, .int z5)] [] w (K z5 w)) (z5 : Int32) (w : XW) (kc ks : Nat) (h1 : kc + 4 ≤ B) (h2 : ks + 24 ≤ Bs) : VE g cL_law 9 RL (some .boolean) [] room_1 603072 7178346 oI kc ks 2183 [(0, .ref g.2.2.2.2.2.2.1), (1, .ref (g.2.1 + 0)), (2, .ref (g.2.1 + 141)), (3, .ref (g.2.1 + 150)), (4, .ref (g.2.1 + 151)), (5, .int z5)] [] w (f_L_c2183 g K z5 w) := by
  unfold f_L_c2183
  refine v_aload_n dL_law_2183 rfl 1 rfl ?_
  refine v_aload_n dL_law_2184 rfl 3 rfl ?_
  refine v_callSh (As := [.ref (g.2.1 + 0), .ref (g.2.1 + 150)]) ch_L_301 (S_L_execute hl) rfl rfl (Nat.le_of_ble_eq_true rfl) dL_law_2185 (CR_law (by decide) (by decide) (by omega) (by omega)) (fun r1 w1 => ?_)
  refine v_istore dL_law_2188 (Nat.le_of_ble_eq_true rfl) rfl ?_
  refine v_aload_n dL_law_2190 rfl 3 rfl ?_
  refine v_callVi (As := []) cv_L_303 (S_X11_execute hl) tt_141 rfl rfl rfl (Nat.le_of_ble_eq_true rfl) dL_law_2191 (CR_law (by decide) (by decide) (by omega) (by omega)) (fun r2 w2 => ?_)
  refine v_istore dL_law_2194 (Nat.le_of_ble_eq_true rfl) rfl ?_
  refine v_aload_n dL_law_2196 rfl 4 rfl ?_
  refine v_callVi (As := []) cv_L_162 (S_X11_thrown hl) tt_141 rfl rfl rfl (Nat.le_of_ble_eq_true rfl) dL_law_2197 (CR_law (by decide) (by decide) (by omega) (by omega)) (fun r3 w3 => ?_)
  refine v_iload dL_law_2200 1 rfl ?_
  refine v_icmp_eq (tgt := 2207) dL_law_2202 (by decide) ?_ ?_
  · refine v_iload dL_law_2207 1 rfl ?_
    refine v_if_ne (tgt := 2224) dL_law_2209 (by decide) ?_ ?_
    · refine v_goto (tgt := 2642) dL_law_2224 (by decide) ?_
      refine v_iinc (v := (z5 + 4)) dL_law_2642 (q := 7) rfl rfl (Nat.le_of_ble_eq_true rfl) rfl ?_
      refine v_goto (tgt := 28) dL_law_2645 (by decide) ?_
      refine v_sub [3, 4, 5, 6, 7, 0] rfl ?_
      refine v_widen B Bs (by omega) (by omega) ?_
      exact hK _ _
    · refine v_aload_n dL_law_2212 rfl 5 rfl ?_
      refine v_iconst (v := 0) dL_law_2213 (by decide) ?_
      refine v_lald0 dL_law_2214 ?_
      refine v_iload dL_law_2215 0 rfl ?_
      refine v_i2l dL_law_2217 ?_
      refine v_lcmp dL_law_2218 ?_
      refine v_if_eq (tgt := 2224) dL_law_2219 (by decide) ?_ ?_
      · refine v_goto (tgt := 2642) dL_law_2224 (by decide) ?_
        refine v_iinc (v := (z5 + 4)) dL_law_2642 (q := 7) rfl rfl (Nat.le_of_ble_eq_true rfl) rfl ?_
        refine v_goto (tgt := 28) dL_law_2645 (by decide) ?_
        refine v_sub [3, 4, 5, 6, 7, 0] rfl ?_
        refine v_widen B Bs (by omega) (by omega) ?_
        exact hK _ _
      · refine v_iconst (v := 0) dL_law_2222 (by decide) ?_
        exact v_zret dL_law_2223 rfl rfl rfl (by omega) (by omega)
  · refine v_iconst (v := 0) dL_law_2205 (by decide) ?_
    exact v_zret dL_law_2206 rfl rfl rfl (by omega) (by omega)
def f_L_c2227 (g : GC) (K : Int32 → XW → Option (Int32 × XW)) (z5 : Int32) (w : XW) : Option (Int32 × XW) := (bI (f_L_faultPosition w) (fun r1 w1 => (bI (f_X11_faultPosition w1) (fun r2 w2 => (bI (f_X11_thrown w2) (fun r3 w3 => (if r3 = r1 then (if r1 = 0 then (if (lg_cmp w3.2.1 (Int32.toInt64 r2)) = 0 then (K (z5 + 4) w3) else (some (0, w3))) else (K (z5 + 4) w3)) else (some (0, w3)))))))))
set_option maxRecDepth 100000 in
theorem S_L_c2227 {g : GC} (hl : g.1.stackTraces = false) {K : Int32 → XW → Option (Int32 × XW)} {B Bs : Nat} (hB : B ≤ 603072) (hBs : Bs ≤ 7178346) (hK : ∀ (z5 : Int32) (w : XW), VE g cL_law 9 RL (some .boolean) [] room_1 603072 7178346 oI B Bs 28 [(0, .ref g.2.2.2.2.2.2.1), (1, .ref (g.2.1 + 0)), (2, .ref (g.2.1 + 141)), (3, .ref (g.2.1 + 150)), (4, .ref (g.2.1 + 151)), (5, .int z5)] [] w (K z5 w)) (z5 : Int32) (w : XW) (kc ks : Nat) (h1 : kc + 4 ≤ B) (h2 : ks + 24 ≤ Bs) : VE g cL_law 9 RL (some .boolean) [] room_1 603072 7178346 oI kc ks 2227 [(0, .ref g.2.2.2.2.2.2.1), (1, .ref (g.2.1 + 0)), (2, .ref (g.2.1 + 141)), (3, .ref (g.2.1 + 150)), (4, .ref (g.2.1 + 151)), (5, .int z5)] [] w (f_L_c2227 g K z5 w) := by
  unfold f_L_c2227
  refine v_aload_n dL_law_2227 rfl 1 rfl ?_
  refine v_aload_n dL_law_2228 rfl 3 rfl ?_
  refine v_callSh (As := [.ref (g.2.1 + 0), .ref (g.2.1 + 150)]) ch_L_304 (S_L_faultPosition hl) rfl rfl (Nat.le_of_ble_eq_true rfl) dL_law_2229 (CR_law (by decide) (by decide) (by omega) (by omega)) (fun r1 w1 => ?_)
  refine v_istore dL_law_2232 (Nat.le_of_ble_eq_true rfl) rfl ?_
  refine v_aload_n dL_law_2234 rfl 3 rfl ?_
  refine v_callVi (As := []) cv_L_306 (S_X11_faultPosition hl) tt_141 rfl rfl rfl (Nat.le_of_ble_eq_true rfl) dL_law_2235 (CR_law (by decide) (by decide) (by omega) (by omega)) (fun r2 w2 => ?_)
  refine v_istore dL_law_2238 (Nat.le_of_ble_eq_true rfl) rfl ?_
  refine v_aload_n dL_law_2240 rfl 4 rfl ?_
  refine v_callVi (As := []) cv_L_162 (S_X11_thrown hl) tt_141 rfl rfl rfl (Nat.le_of_ble_eq_true rfl) dL_law_2241 (CR_law (by decide) (by decide) (by omega) (by omega)) (fun r3 w3 => ?_)
  refine v_iload dL_law_2244 1 rfl ?_
  refine v_icmp_eq (tgt := 2251) dL_law_2246 (by decide) ?_ ?_
  · refine v_iload dL_law_2251 1 rfl ?_
    refine v_if_ne (tgt := 2268) dL_law_2253 (by decide) ?_ ?_
    · refine v_goto (tgt := 2642) dL_law_2268 (by decide) ?_
      refine v_iinc (v := (z5 + 4)) dL_law_2642 (q := 7) rfl rfl (Nat.le_of_ble_eq_true rfl) rfl ?_
      refine v_goto (tgt := 28) dL_law_2645 (by decide) ?_
      refine v_sub [3, 4, 5, 6, 7, 0] rfl ?_
      refine v_widen B Bs (by omega) (by omega) ?_
      exact hK _ _
    · refine v_aload_n dL_law_2256 rfl 5 rfl ?_
      refine v_iconst (v := 0) dL_law_2257 (by decide) ?_
      refine v_lald0 dL_law_2258 ?_
      refine v_iload dL_law_2259 0 rfl ?_
      refine v_i2l dL_law_2261 ?_
      refine v_lcmp dL_law_2262 ?_
      refine v_if_eq (tgt := 2268) dL_law_2263 (by decide) ?_ ?_
      · refine v_goto (tgt := 2642) dL_law_2268 (by decide) ?_
        refine v_iinc (v := (z5 + 4)) dL_law_2642 (q := 7) rfl rfl (Nat.le_of_ble_eq_true rfl) rfl ?_
        refine v_goto (tgt := 28) dL_law_2645 (by decide) ?_
        refine v_sub [3, 4, 5, 6, 7, 0] rfl ?_
        refine v_widen B Bs (by omega) (by omega) ?_
        exact hK _ _
      · refine v_iconst (v := 0) dL_law_2266 (by decide) ?_
        exact v_zret dL_law_2267 rfl rfl rfl (by omega) (by omega)
  · refine v_iconst (v := 0) dL_law_2249 (by decide) ?_
    exact v_zret dL_law_2250 rfl rfl rfl (by omega) (by omega)
def f_L_c2271 (g : GC) (K : Int32 → XW → Option (Int32 × XW)) (z5 : Int32) (w : XW) : Option (Int32 × XW) := (if inB (z5 + 1) g.2.2.2.2.2.2.2.1 then (bI (f_L_writeSection (g.2.2.2.2.2.2.2.2 (Int32.toNatClampNeg (z5 + 1))) w) (fun r2 w2 => (if inB (z5 + 1) g.2.2.2.2.2.2.2.1 then (bI (f_X11_writeSection (g.2.2.2.2.2.2.2.2 (Int32.toNatClampNeg (z5 + 1))) w2) (fun r4 w4 => (bI (f_X11_thrown w4) (fun r5 w5 => (if r5 = r2 then (if r2 = 0 then (if (lg_cmp w5.2.1 (Int32.toInt64 r4)) = 0 then (K (z5 + 4) w5) else (some (0, w5))) else (K (z5 + 4) w5)) else (some (0, w5))))))) else none))) else none)
set_option maxRecDepth 100000 in
theorem S_L_c2271 {g : GC} (hl : g.1.stackTraces = false) {K : Int32 → XW → Option (Int32 × XW)} {B Bs : Nat} (hB : B ≤ 603072) (hBs : Bs ≤ 7178346) (hK : ∀ (z5 : Int32) (w : XW), VE g cL_law 9 RL (some .boolean) [] room_1 603072 7178346 oI B Bs 28 [(0, .ref g.2.2.2.2.2.2.1), (1, .ref (g.2.1 + 0)), (2, .ref (g.2.1 + 141)), (3, .ref (g.2.1 + 150)), (4, .ref (g.2.1 + 151)), (5, .int z5)] [] w (K z5 w)) (z5 : Int32) (w : XW) (kc ks : Nat) (h1 : kc + 4 ≤ B) (h2 : ks + 24 ≤ Bs) : VE g cL_law 9 RL (some .boolean) [] room_1 603072 7178346 oI kc ks 2271 [(0, .ref g.2.2.2.2.2.2.1), (1, .ref (g.2.1 + 0)), (2, .ref (g.2.1 + 141)), (3, .ref (g.2.1 + 150)), (4, .ref (g.2.1 + 151)), (5, .int z5)] [] w (f_L_c2271 g K z5 w) := by
  unfold f_L_c2271
  refine v_aload_n dL_law_2271 rfl 1 rfl ?_
  refine v_aload_n dL_law_2272 rfl 0 rfl ?_
  refine v_iload dL_law_2273 5 rfl ?_
  refine v_iconst (v := 1) dL_law_2275 (by decide) ?_
  refine v_iadd dL_law_2276 ?_
  refine v_guard (fun h1 => ?_)
  refine v_sld h1 dL_law_2277 ?_
  refine v_aload_n dL_law_2278 rfl 3 rfl ?_
  refine v_callSh (As := [.ref (g.2.1 + 0), .int (g.2.2.2.2.2.2.2.2 (Int32.toNatClampNeg (z5 + 1))), .ref (g.2.1 + 150)]) ch_L_307 (S_L_writeSection hl) rfl rfl (Nat.le_of_ble_eq_true rfl) dL_law_2279 (CR_law (by decide) (by decide) (by omega) (by omega)) (fun r2 w2 => ?_)
  refine v_istore dL_law_2282 (Nat.le_of_ble_eq_true rfl) rfl ?_
  refine v_aload_n dL_law_2284 rfl 3 rfl ?_
  refine v_aload_n dL_law_2285 rfl 1 rfl ?_
  refine v_iload dL_law_2286 6 rfl ?_
  refine v_iconst (v := 1) dL_law_2288 (by decide) ?_
  refine v_iadd dL_law_2289 ?_
  refine v_guard (fun h3 => ?_)
  refine v_sld h3 dL_law_2290 ?_
  refine v_callVi (As := [.int (g.2.2.2.2.2.2.2.2 (Int32.toNatClampNeg (z5 + 1)))]) cv_L_309 (S_X11_writeSection hl) tt_141 rfl rfl rfl (Nat.le_of_ble_eq_true rfl) dL_law_2291 (CR_law (by decide) (by decide) (by omega) (by omega)) (fun r4 w4 => ?_)
  refine v_istore dL_law_2294 (Nat.le_of_ble_eq_true rfl) rfl ?_
  refine v_aload_n dL_law_2296 rfl 4 rfl ?_
  refine v_callVi (As := []) cv_L_162 (S_X11_thrown hl) tt_141 rfl rfl rfl (Nat.le_of_ble_eq_true rfl) dL_law_2297 (CR_law (by decide) (by decide) (by omega) (by omega)) (fun r5 w5 => ?_)
  refine v_iload dL_law_2300 1 rfl ?_
  refine v_icmp_eq (tgt := 2307) dL_law_2302 (by decide) ?_ ?_
  · refine v_iload dL_law_2307 1 rfl ?_
    refine v_if_ne (tgt := 2324) dL_law_2309 (by decide) ?_ ?_
    · refine v_goto (tgt := 2642) dL_law_2324 (by decide) ?_
      refine v_iinc (v := (z5 + 4)) dL_law_2642 (q := 7) rfl rfl (Nat.le_of_ble_eq_true rfl) rfl ?_
      refine v_goto (tgt := 28) dL_law_2645 (by decide) ?_
      refine v_sub [3, 4, 5, 6, 7, 0] rfl ?_
      refine v_widen B Bs (by omega) (by omega) ?_
      exact hK _ _
    · refine v_aload_n dL_law_2312 rfl 5 rfl ?_
      refine v_iconst (v := 0) dL_law_2313 (by decide) ?_
      refine v_lald0 dL_law_2314 ?_
      refine v_iload dL_law_2315 0 rfl ?_
      refine v_i2l dL_law_2317 ?_
      refine v_lcmp dL_law_2318 ?_
      refine v_if_eq (tgt := 2324) dL_law_2319 (by decide) ?_ ?_
      · refine v_goto (tgt := 2642) dL_law_2324 (by decide) ?_
        refine v_iinc (v := (z5 + 4)) dL_law_2642 (q := 7) rfl rfl (Nat.le_of_ble_eq_true rfl) rfl ?_
        refine v_goto (tgt := 28) dL_law_2645 (by decide) ?_
        refine v_sub [3, 4, 5, 6, 7, 0] rfl ?_
        refine v_widen B Bs (by omega) (by omega) ?_
        exact hK _ _
      · refine v_iconst (v := 0) dL_law_2322 (by decide) ?_
        exact v_zret dL_law_2323 rfl rfl rfl (by omega) (by omega)
  · refine v_iconst (v := 0) dL_law_2305 (by decide) ?_
    exact v_zret dL_law_2306 rfl rfl rfl (by omega) (by omega)
def f_L_c2327 (g : GC) (K : Int32 → XW → Option (Int32 × XW)) (z5 : Int32) (w : XW) : Option (Int32 × XW) := (bI (f_X10_writePile w) (fun r1 w1 => (bI (f_X11_writePile w1) (fun r2 w2 => (if r1 = r2 then (K (z5 + 4) w2) else (some (0, w2)))))))
set_option maxRecDepth 100000 in
theorem S_L_c2327 {g : GC} (hl : g.1.stackTraces = false) {K : Int32 → XW → Option (Int32 × XW)} {B Bs : Nat} (hB : B ≤ 603072) (hBs : Bs ≤ 7178346) (hK : ∀ (z5 : Int32) (w : XW), VE g cL_law 9 RL (some .boolean) [] room_1 603072 7178346 oI B Bs 28 [(0, .ref g.2.2.2.2.2.2.1), (1, .ref (g.2.1 + 0)), (2, .ref (g.2.1 + 141)), (3, .ref (g.2.1 + 150)), (4, .ref (g.2.1 + 151)), (5, .int z5)] [] w (K z5 w)) (z5 : Int32) (w : XW) (kc ks : Nat) (h1 : kc + 4 ≤ B) (h2 : ks + 24 ≤ Bs) : VE g cL_law 9 RL (some .boolean) [] room_1 603072 7178346 oI kc ks 2327 [(0, .ref g.2.2.2.2.2.2.1), (1, .ref (g.2.1 + 0)), (2, .ref (g.2.1 + 141)), (3, .ref (g.2.1 + 150)), (4, .ref (g.2.1 + 151)), (5, .int z5)] [] w (f_L_c2327 g K z5 w) := by
  unfold f_L_c2327
  refine v_aload_n dL_law_2327 rfl 1 rfl ?_
  refine v_callVi (As := []) cv_L_310 (S_X10_writePile hl) tt_0 rfl rfl rfl (Nat.le_of_ble_eq_true rfl) dL_law_2328 (CR_law (by decide) (by decide) (by omega) (by omega)) (fun r1 w1 => ?_)
  refine v_aload_n dL_law_2331 rfl 2 rfl ?_
  refine v_callVi (As := []) cv_L_313 (S_X11_writePile hl) tt_141 rfl rfl rfl (Nat.le_of_ble_eq_true rfl) dL_law_2332 (CR_law (by decide) (by decide) (by omega) (by omega)) (fun r2 w2 => ?_)
  refine v_icmp_eq (tgt := 2642) dL_law_2335 (by decide) ?_ ?_
  · refine v_iinc (v := (z5 + 4)) dL_law_2642 (q := 5) rfl rfl (Nat.le_of_ble_eq_true rfl) rfl ?_
    refine v_goto (tgt := 28) dL_law_2645 (by decide) ?_
    refine v_sub [1, 2, 3, 4, 5, 0] rfl ?_
    refine v_widen B Bs (by omega) (by omega) ?_
    exact hK _ _
  · refine v_iconst (v := 0) dL_law_2338 (by decide) ?_
    exact v_zret dL_law_2339 rfl rfl rfl (by omega) (by omega)
def f_L_c2340 (g : GC) (K : Int32 → XW → Option (Int32 × XW)) (z5 : Int32) (w : XW) : Option (Int32 × XW) := (if inB (z5 + 1) g.2.2.2.2.2.2.2.1 then (bI (f_L_lineCharacter (g.2.2.2.2.2.2.2.2 (Int32.toNatClampNeg (z5 + 1))) w) (fun r2 w2 => (if inB (z5 + 1) g.2.2.2.2.2.2.2.1 then (bI (f_X11_lineCharacter (g.2.2.2.2.2.2.2.2 (Int32.toNatClampNeg (z5 + 1))) w2) (fun r4 w4 => (bI (f_X11_thrown w4) (fun r5 w5 => (if r5 = r2 then (if r2 = 0 then (if (lg_cmp w5.2.1 (Int32.toInt64 r4)) = 0 then (K (z5 + 4) w5) else (some (0, w5))) else (K (z5 + 4) w5)) else (some (0, w5))))))) else none))) else none)
set_option maxRecDepth 100000 in
theorem S_L_c2340 {g : GC} (hl : g.1.stackTraces = false) {K : Int32 → XW → Option (Int32 × XW)} {B Bs : Nat} (hB : B ≤ 603072) (hBs : Bs ≤ 7178346) (hK : ∀ (z5 : Int32) (w : XW), VE g cL_law 9 RL (some .boolean) [] room_1 603072 7178346 oI B Bs 28 [(0, .ref g.2.2.2.2.2.2.1), (1, .ref (g.2.1 + 0)), (2, .ref (g.2.1 + 141)), (3, .ref (g.2.1 + 150)), (4, .ref (g.2.1 + 151)), (5, .int z5)] [] w (K z5 w)) (z5 : Int32) (w : XW) (kc ks : Nat) (h1 : kc + 4 ≤ B) (h2 : ks + 24 ≤ Bs) : VE g cL_law 9 RL (some .boolean) [] room_1 603072 7178346 oI kc ks 2340 [(0, .ref g.2.2.2.2.2.2.1), (1, .ref (g.2.1 + 0)), (2, .ref (g.2.1 + 141)), (3, .ref (g.2.1 + 150)), (4, .ref (g.2.1 + 151)), (5, .int z5)] [] w (f_L_c2340 g K z5 w) := by
  unfold f_L_c2340
  refine v_aload_n dL_law_2340 rfl 1 rfl ?_
  refine v_aload_n dL_law_2341 rfl 0 rfl ?_
  refine v_iload dL_law_2342 5 rfl ?_
  refine v_iconst (v := 1) dL_law_2344 (by decide) ?_
  refine v_iadd dL_law_2345 ?_
  refine v_guard (fun h1 => ?_)
  refine v_sld h1 dL_law_2346 ?_
  refine v_aload_n dL_law_2347 rfl 3 rfl ?_
  refine v_callSh (As := [.ref (g.2.1 + 0), .int (g.2.2.2.2.2.2.2.2 (Int32.toNatClampNeg (z5 + 1))), .ref (g.2.1 + 150)]) ch_L_314 (S_L_lineCharacter hl) rfl rfl (Nat.le_of_ble_eq_true rfl) dL_law_2348 (CR_law (by decide) (by decide) (by omega) (by omega)) (fun r2 w2 => ?_)
  refine v_istore dL_law_2351 (Nat.le_of_ble_eq_true rfl) rfl ?_
  refine v_aload_n dL_law_2353 rfl 3 rfl ?_
  refine v_aload_n dL_law_2354 rfl 1 rfl ?_
  refine v_iload dL_law_2355 6 rfl ?_
  refine v_iconst (v := 1) dL_law_2357 (by decide) ?_
  refine v_iadd dL_law_2358 ?_
  refine v_guard (fun h3 => ?_)
  refine v_sld h3 dL_law_2359 ?_
  refine v_callVi (As := [.int (g.2.2.2.2.2.2.2.2 (Int32.toNatClampNeg (z5 + 1)))]) cv_L_316 (S_X11_lineCharacter hl) tt_141 rfl rfl rfl (Nat.le_of_ble_eq_true rfl) dL_law_2360 (CR_law (by decide) (by decide) (by omega) (by omega)) (fun r4 w4 => ?_)
  refine v_istore dL_law_2363 (Nat.le_of_ble_eq_true rfl) rfl ?_
  refine v_aload_n dL_law_2365 rfl 4 rfl ?_
  refine v_callVi (As := []) cv_L_162 (S_X11_thrown hl) tt_141 rfl rfl rfl (Nat.le_of_ble_eq_true rfl) dL_law_2366 (CR_law (by decide) (by decide) (by omega) (by omega)) (fun r5 w5 => ?_)
  refine v_iload dL_law_2369 1 rfl ?_
  refine v_icmp_eq (tgt := 2376) dL_law_2371 (by decide) ?_ ?_
  · refine v_iload dL_law_2376 1 rfl ?_
    refine v_if_ne (tgt := 2393) dL_law_2378 (by decide) ?_ ?_
    · refine v_goto (tgt := 2642) dL_law_2393 (by decide) ?_
      refine v_iinc (v := (z5 + 4)) dL_law_2642 (q := 7) rfl rfl (Nat.le_of_ble_eq_true rfl) rfl ?_
      refine v_goto (tgt := 28) dL_law_2645 (by decide) ?_
      refine v_sub [3, 4, 5, 6, 7, 0] rfl ?_
      refine v_widen B Bs (by omega) (by omega) ?_
      exact hK _ _
    · refine v_aload_n dL_law_2381 rfl 5 rfl ?_
      refine v_iconst (v := 0) dL_law_2382 (by decide) ?_
      refine v_lald0 dL_law_2383 ?_
      refine v_iload dL_law_2384 0 rfl ?_
      refine v_i2l dL_law_2386 ?_
      refine v_lcmp dL_law_2387 ?_
      refine v_if_eq (tgt := 2393) dL_law_2388 (by decide) ?_ ?_
      · refine v_goto (tgt := 2642) dL_law_2393 (by decide) ?_
        refine v_iinc (v := (z5 + 4)) dL_law_2642 (q := 7) rfl rfl (Nat.le_of_ble_eq_true rfl) rfl ?_
        refine v_goto (tgt := 28) dL_law_2645 (by decide) ?_
        refine v_sub [3, 4, 5, 6, 7, 0] rfl ?_
        refine v_widen B Bs (by omega) (by omega) ?_
        exact hK _ _
      · refine v_iconst (v := 0) dL_law_2391 (by decide) ?_
        exact v_zret dL_law_2392 rfl rfl rfl (by omega) (by omega)
  · refine v_iconst (v := 0) dL_law_2374 (by decide) ?_
    exact v_zret dL_law_2375 rfl rfl rfl (by omega) (by omega)
def f_L_c2396 (g : GC) (K : Int32 → XW → Option (Int32 × XW)) (z5 : Int32) (w : XW) : Option (Int32 × XW) := (bI (f_L_denial w) (fun r1 w1 => (bI (f_X11_denial w1) (fun r2 w2 => (bI (f_X11_thrown w2) (fun r3 w3 => (if r3 = r1 then (if r1 = 0 then (if (lg_cmp w3.2.1 (Int32.toInt64 r2)) = 0 then (K (z5 + 4) w3) else (some (0, w3))) else (K (z5 + 4) w3)) else (some (0, w3)))))))))
set_option maxRecDepth 100000 in
theorem S_L_c2396 {g : GC} (hl : g.1.stackTraces = false) {K : Int32 → XW → Option (Int32 × XW)} {B Bs : Nat} (hB : B ≤ 603072) (hBs : Bs ≤ 7178346) (hK : ∀ (z5 : Int32) (w : XW), VE g cL_law 9 RL (some .boolean) [] room_1 603072 7178346 oI B Bs 28 [(0, .ref g.2.2.2.2.2.2.1), (1, .ref (g.2.1 + 0)), (2, .ref (g.2.1 + 141)), (3, .ref (g.2.1 + 150)), (4, .ref (g.2.1 + 151)), (5, .int z5)] [] w (K z5 w)) (z5 : Int32) (w : XW) (kc ks : Nat) (h1 : kc + 4 ≤ B) (h2 : ks + 24 ≤ Bs) : VE g cL_law 9 RL (some .boolean) [] room_1 603072 7178346 oI kc ks 2396 [(0, .ref g.2.2.2.2.2.2.1), (1, .ref (g.2.1 + 0)), (2, .ref (g.2.1 + 141)), (3, .ref (g.2.1 + 150)), (4, .ref (g.2.1 + 151)), (5, .int z5)] [] w (f_L_c2396 g K z5 w) := by
  unfold f_L_c2396
  refine v_aload_n dL_law_2396 rfl 1 rfl ?_
  refine v_aload_n dL_law_2397 rfl 3 rfl ?_
  refine v_callSh (As := [.ref (g.2.1 + 0), .ref (g.2.1 + 150)]) ch_L_317 (S_L_denial hl) rfl rfl (Nat.le_of_ble_eq_true rfl) dL_law_2398 (CR_law (by decide) (by decide) (by omega) (by omega)) (fun r1 w1 => ?_)
  refine v_istore dL_law_2401 (Nat.le_of_ble_eq_true rfl) rfl ?_
  refine v_aload_n dL_law_2403 rfl 3 rfl ?_
  refine v_callVi (As := []) cv_L_319 (S_X11_denial hl) tt_141 rfl rfl rfl (Nat.le_of_ble_eq_true rfl) dL_law_2404 (CR_law (by decide) (by decide) (by omega) (by omega)) (fun r2 w2 => ?_)
  refine v_istore dL_law_2407 (Nat.le_of_ble_eq_true rfl) rfl ?_
  refine v_aload_n dL_law_2409 rfl 4 rfl ?_
  refine v_callVi (As := []) cv_L_162 (S_X11_thrown hl) tt_141 rfl rfl rfl (Nat.le_of_ble_eq_true rfl) dL_law_2410 (CR_law (by decide) (by decide) (by omega) (by omega)) (fun r3 w3 => ?_)
  refine v_iload dL_law_2413 1 rfl ?_
  refine v_icmp_eq (tgt := 2420) dL_law_2415 (by decide) ?_ ?_
  · refine v_iload dL_law_2420 1 rfl ?_
    refine v_if_ne (tgt := 2437) dL_law_2422 (by decide) ?_ ?_
    · refine v_goto (tgt := 2642) dL_law_2437 (by decide) ?_
      refine v_iinc (v := (z5 + 4)) dL_law_2642 (q := 7) rfl rfl (Nat.le_of_ble_eq_true rfl) rfl ?_
      refine v_goto (tgt := 28) dL_law_2645 (by decide) ?_
      refine v_sub [3, 4, 5, 6, 7, 0] rfl ?_
      refine v_widen B Bs (by omega) (by omega) ?_
      exact hK _ _
    · refine v_aload_n dL_law_2425 rfl 5 rfl ?_
      refine v_iconst (v := 0) dL_law_2426 (by decide) ?_
      refine v_lald0 dL_law_2427 ?_
      refine v_iload dL_law_2428 0 rfl ?_
      refine v_i2l dL_law_2430 ?_
      refine v_lcmp dL_law_2431 ?_
      refine v_if_eq (tgt := 2437) dL_law_2432 (by decide) ?_ ?_
      · refine v_goto (tgt := 2642) dL_law_2437 (by decide) ?_
        refine v_iinc (v := (z5 + 4)) dL_law_2642 (q := 7) rfl rfl (Nat.le_of_ble_eq_true rfl) rfl ?_
        refine v_goto (tgt := 28) dL_law_2645 (by decide) ?_
        refine v_sub [3, 4, 5, 6, 7, 0] rfl ?_
        refine v_widen B Bs (by omega) (by omega) ?_
        exact hK _ _
      · refine v_iconst (v := 0) dL_law_2435 (by decide) ?_
        exact v_zret dL_law_2436 rfl rfl rfl (by omega) (by omega)
  · refine v_iconst (v := 0) dL_law_2418 (by decide) ?_
    exact v_zret dL_law_2419 rfl rfl rfl (by omega) (by omega)
def f_L_c2440 (g : GC) (K : Int32 → XW → Option (Int32 × XW)) (z5 : Int32) (w : XW) : Option (Int32 × XW) := (bI (f_L_denialDetail w) (fun r1 w1 => (bI (f_X11_denialDetail w1) (fun r2 w2 => (bI (f_X11_thrown w2) (fun r3 w3 => (if r3 = r1 then (if r1 = 0 then (if (lg_cmp w3.2.1 (Int32.toInt64 r2)) = 0 then (K (z5 + 4) w3) else (some (0, w3))) else (K (z5 + 4) w3)) else (some (0, w3)))))))))
set_option maxRecDepth 100000 in
theorem S_L_c2440 {g : GC} (hl : g.1.stackTraces = false) {K : Int32 → XW → Option (Int32 × XW)} {B Bs : Nat} (hB : B ≤ 603072) (hBs : Bs ≤ 7178346) (hK : ∀ (z5 : Int32) (w : XW), VE g cL_law 9 RL (some .boolean) [] room_1 603072 7178346 oI B Bs 28 [(0, .ref g.2.2.2.2.2.2.1), (1, .ref (g.2.1 + 0)), (2, .ref (g.2.1 + 141)), (3, .ref (g.2.1 + 150)), (4, .ref (g.2.1 + 151)), (5, .int z5)] [] w (K z5 w)) (z5 : Int32) (w : XW) (kc ks : Nat) (h1 : kc + 4 ≤ B) (h2 : ks + 24 ≤ Bs) : VE g cL_law 9 RL (some .boolean) [] room_1 603072 7178346 oI kc ks 2440 [(0, .ref g.2.2.2.2.2.2.1), (1, .ref (g.2.1 + 0)), (2, .ref (g.2.1 + 141)), (3, .ref (g.2.1 + 150)), (4, .ref (g.2.1 + 151)), (5, .int z5)] [] w (f_L_c2440 g K z5 w) := by
  unfold f_L_c2440
  refine v_aload_n dL_law_2440 rfl 1 rfl ?_
  refine v_aload_n dL_law_2441 rfl 3 rfl ?_
  refine v_callSh (As := [.ref (g.2.1 + 0), .ref (g.2.1 + 150)]) ch_L_320 (S_L_denialDetail hl) rfl rfl (Nat.le_of_ble_eq_true rfl) dL_law_2442 (CR_law (by decide) (by decide) (by omega) (by omega)) (fun r1 w1 => ?_)
  refine v_istore dL_law_2445 (Nat.le_of_ble_eq_true rfl) rfl ?_
  refine v_aload_n dL_law_2447 rfl 3 rfl ?_
  refine v_callVi (As := []) cv_L_322 (S_X11_denialDetail hl) tt_141 rfl rfl rfl (Nat.le_of_ble_eq_true rfl) dL_law_2448 (CR_law (by decide) (by decide) (by omega) (by omega)) (fun r2 w2 => ?_)
  refine v_istore dL_law_2451 (Nat.le_of_ble_eq_true rfl) rfl ?_
  refine v_aload_n dL_law_2453 rfl 4 rfl ?_
  refine v_callVi (As := []) cv_L_162 (S_X11_thrown hl) tt_141 rfl rfl rfl (Nat.le_of_ble_eq_true rfl) dL_law_2454 (CR_law (by decide) (by decide) (by omega) (by omega)) (fun r3 w3 => ?_)
  refine v_iload dL_law_2457 1 rfl ?_
  refine v_icmp_eq (tgt := 2464) dL_law_2459 (by decide) ?_ ?_
  · refine v_iload dL_law_2464 1 rfl ?_
    refine v_if_ne (tgt := 2481) dL_law_2466 (by decide) ?_ ?_
    · refine v_goto (tgt := 2642) dL_law_2481 (by decide) ?_
      refine v_iinc (v := (z5 + 4)) dL_law_2642 (q := 7) rfl rfl (Nat.le_of_ble_eq_true rfl) rfl ?_
      refine v_goto (tgt := 28) dL_law_2645 (by decide) ?_
      refine v_sub [3, 4, 5, 6, 7, 0] rfl ?_
      refine v_widen B Bs (by omega) (by omega) ?_
      exact hK _ _
    · refine v_aload_n dL_law_2469 rfl 5 rfl ?_
      refine v_iconst (v := 0) dL_law_2470 (by decide) ?_
      refine v_lald0 dL_law_2471 ?_
      refine v_iload dL_law_2472 0 rfl ?_
      refine v_i2l dL_law_2474 ?_
      refine v_lcmp dL_law_2475 ?_
      refine v_if_eq (tgt := 2481) dL_law_2476 (by decide) ?_ ?_
      · refine v_goto (tgt := 2642) dL_law_2481 (by decide) ?_
        refine v_iinc (v := (z5 + 4)) dL_law_2642 (q := 7) rfl rfl (Nat.le_of_ble_eq_true rfl) rfl ?_
        refine v_goto (tgt := 28) dL_law_2645 (by decide) ?_
        refine v_sub [3, 4, 5, 6, 7, 0] rfl ?_
        refine v_widen B Bs (by omega) (by omega) ?_
        exact hK _ _
      · refine v_iconst (v := 0) dL_law_2479 (by decide) ?_
        exact v_zret dL_law_2480 rfl rfl rfl (by omega) (by omega)
  · refine v_iconst (v := 0) dL_law_2462 (by decide) ?_
    exact v_zret dL_law_2463 rfl rfl rfl (by omega) (by omega)
def f_L_c2484 (g : GC) (K : Int32 → XW → Option (Int32 × XW)) (z5 : Int32) (w : XW) : Option (Int32 × XW) := (bI (f_L_denialCause w) (fun r1 w1 => (bI (f_X11_denialCause w1) (fun r2 w2 => (bI (f_X11_thrown w2) (fun r3 w3 => (if r3 = r1 then (if r1 = 0 then (if (lg_cmp w3.2.1 (Int32.toInt64 r2)) = 0 then (K (z5 + 4) w3) else (some (0, w3))) else (K (z5 + 4) w3)) else (some (0, w3)))))))))
set_option maxRecDepth 100000 in
theorem S_L_c2484 {g : GC} (hl : g.1.stackTraces = false) {K : Int32 → XW → Option (Int32 × XW)} {B Bs : Nat} (hB : B ≤ 603072) (hBs : Bs ≤ 7178346) (hK : ∀ (z5 : Int32) (w : XW), VE g cL_law 9 RL (some .boolean) [] room_1 603072 7178346 oI B Bs 28 [(0, .ref g.2.2.2.2.2.2.1), (1, .ref (g.2.1 + 0)), (2, .ref (g.2.1 + 141)), (3, .ref (g.2.1 + 150)), (4, .ref (g.2.1 + 151)), (5, .int z5)] [] w (K z5 w)) (z5 : Int32) (w : XW) (kc ks : Nat) (h1 : kc + 4 ≤ B) (h2 : ks + 24 ≤ Bs) : VE g cL_law 9 RL (some .boolean) [] room_1 603072 7178346 oI kc ks 2484 [(0, .ref g.2.2.2.2.2.2.1), (1, .ref (g.2.1 + 0)), (2, .ref (g.2.1 + 141)), (3, .ref (g.2.1 + 150)), (4, .ref (g.2.1 + 151)), (5, .int z5)] [] w (f_L_c2484 g K z5 w) := by
  unfold f_L_c2484
  refine v_aload_n dL_law_2484 rfl 1 rfl ?_
  refine v_aload_n dL_law_2485 rfl 3 rfl ?_
  refine v_callSh (As := [.ref (g.2.1 + 0), .ref (g.2.1 + 150)]) ch_L_323 (S_L_denialCause hl) rfl rfl (Nat.le_of_ble_eq_true rfl) dL_law_2486 (CR_law (by decide) (by decide) (by omega) (by omega)) (fun r1 w1 => ?_)
  refine v_istore dL_law_2489 (Nat.le_of_ble_eq_true rfl) rfl ?_
  refine v_aload_n dL_law_2491 rfl 3 rfl ?_
  refine v_callVi (As := []) cv_L_325 (S_X11_denialCause hl) tt_141 rfl rfl rfl (Nat.le_of_ble_eq_true rfl) dL_law_2492 (CR_law (by decide) (by decide) (by omega) (by omega)) (fun r2 w2 => ?_)
  refine v_istore dL_law_2495 (Nat.le_of_ble_eq_true rfl) rfl ?_
  refine v_aload_n dL_law_2497 rfl 4 rfl ?_
  refine v_callVi (As := []) cv_L_162 (S_X11_thrown hl) tt_141 rfl rfl rfl (Nat.le_of_ble_eq_true rfl) dL_law_2498 (CR_law (by decide) (by decide) (by omega) (by omega)) (fun r3 w3 => ?_)
  refine v_iload dL_law_2501 1 rfl ?_
  refine v_icmp_eq (tgt := 2508) dL_law_2503 (by decide) ?_ ?_
  · refine v_iload dL_law_2508 1 rfl ?_
    refine v_if_ne (tgt := 2525) dL_law_2510 (by decide) ?_ ?_
    · refine v_goto (tgt := 2642) dL_law_2525 (by decide) ?_
      refine v_iinc (v := (z5 + 4)) dL_law_2642 (q := 7) rfl rfl (Nat.le_of_ble_eq_true rfl) rfl ?_
      refine v_goto (tgt := 28) dL_law_2645 (by decide) ?_
      refine v_sub [3, 4, 5, 6, 7, 0] rfl ?_
      refine v_widen B Bs (by omega) (by omega) ?_
      exact hK _ _
    · refine v_aload_n dL_law_2513 rfl 5 rfl ?_
      refine v_iconst (v := 0) dL_law_2514 (by decide) ?_
      refine v_lald0 dL_law_2515 ?_
      refine v_iload dL_law_2516 0 rfl ?_
      refine v_i2l dL_law_2518 ?_
      refine v_lcmp dL_law_2519 ?_
      refine v_if_eq (tgt := 2525) dL_law_2520 (by decide) ?_ ?_
      · refine v_goto (tgt := 2642) dL_law_2525 (by decide) ?_
        refine v_iinc (v := (z5 + 4)) dL_law_2642 (q := 7) rfl rfl (Nat.le_of_ble_eq_true rfl) rfl ?_
        refine v_goto (tgt := 28) dL_law_2645 (by decide) ?_
        refine v_sub [3, 4, 5, 6, 7, 0] rfl ?_
        refine v_widen B Bs (by omega) (by omega) ?_
        exact hK _ _
      · refine v_iconst (v := 0) dL_law_2523 (by decide) ?_
        exact v_zret dL_law_2524 rfl rfl rfl (by omega) (by omega)
  · refine v_iconst (v := 0) dL_law_2506 (by decide) ?_
    exact v_zret dL_law_2507 rfl rfl rfl (by omega) (by omega)
def f_L_c2528 (g : GC) (K : Int32 → XW → Option (Int32 × XW)) (z5 : Int32) (w : XW) : Option (Int32 × XW) := (bI (f_L_undo w) (fun r1 w1 => (bI (f_X11_undo w1) (fun r2 w2 => (bI (f_X11_thrown w2) (fun r3 w3 => (if r3 = r1 then (if r1 = 0 then (if (lg_cmp w3.2.1 (Int32.toInt64 r2)) = 0 then (K (z5 + 4) w3) else (some (0, w3))) else (K (z5 + 4) w3)) else (some (0, w3)))))))))
set_option maxRecDepth 100000 in
theorem S_L_c2528 {g : GC} (hl : g.1.stackTraces = false) {K : Int32 → XW → Option (Int32 × XW)} {B Bs : Nat} (hB : B ≤ 603072) (hBs : Bs ≤ 7178346) (hK : ∀ (z5 : Int32) (w : XW), VE g cL_law 9 RL (some .boolean) [] room_1 603072 7178346 oI B Bs 28 [(0, .ref g.2.2.2.2.2.2.1), (1, .ref (g.2.1 + 0)), (2, .ref (g.2.1 + 141)), (3, .ref (g.2.1 + 150)), (4, .ref (g.2.1 + 151)), (5, .int z5)] [] w (K z5 w)) (z5 : Int32) (w : XW) (kc ks : Nat) (h1 : kc + 4 ≤ B) (h2 : ks + 24 ≤ Bs) : VE g cL_law 9 RL (some .boolean) [] room_1 603072 7178346 oI kc ks 2528 [(0, .ref g.2.2.2.2.2.2.1), (1, .ref (g.2.1 + 0)), (2, .ref (g.2.1 + 141)), (3, .ref (g.2.1 + 150)), (4, .ref (g.2.1 + 151)), (5, .int z5)] [] w (f_L_c2528 g K z5 w) := by
  unfold f_L_c2528
  refine v_aload_n dL_law_2528 rfl 1 rfl ?_
  refine v_aload_n dL_law_2529 rfl 3 rfl ?_
  refine v_callSh (As := [.ref (g.2.1 + 0), .ref (g.2.1 + 150)]) ch_L_326 (S_L_undo hl) rfl rfl (Nat.le_of_ble_eq_true rfl) dL_law_2530 (CR_law (by decide) (by decide) (by omega) (by omega)) (fun r1 w1 => ?_)
  refine v_istore dL_law_2533 (Nat.le_of_ble_eq_true rfl) rfl ?_
  refine v_aload_n dL_law_2535 rfl 3 rfl ?_
  refine v_callVi (As := []) cv_L_328 (S_X11_undo hl) tt_141 rfl rfl rfl (Nat.le_of_ble_eq_true rfl) dL_law_2536 (CR_law (by decide) (by decide) (by omega) (by omega)) (fun r2 w2 => ?_)
  refine v_istore dL_law_2539 (Nat.le_of_ble_eq_true rfl) rfl ?_
  refine v_aload_n dL_law_2541 rfl 4 rfl ?_
  refine v_callVi (As := []) cv_L_162 (S_X11_thrown hl) tt_141 rfl rfl rfl (Nat.le_of_ble_eq_true rfl) dL_law_2542 (CR_law (by decide) (by decide) (by omega) (by omega)) (fun r3 w3 => ?_)
  refine v_iload dL_law_2545 1 rfl ?_
  refine v_icmp_eq (tgt := 2552) dL_law_2547 (by decide) ?_ ?_
  · refine v_iload dL_law_2552 1 rfl ?_
    refine v_if_ne (tgt := 2569) dL_law_2554 (by decide) ?_ ?_
    · refine v_goto (tgt := 2642) dL_law_2569 (by decide) ?_
      refine v_iinc (v := (z5 + 4)) dL_law_2642 (q := 7) rfl rfl (Nat.le_of_ble_eq_true rfl) rfl ?_
      refine v_goto (tgt := 28) dL_law_2645 (by decide) ?_
      refine v_sub [3, 4, 5, 6, 7, 0] rfl ?_
      refine v_widen B Bs (by omega) (by omega) ?_
      exact hK _ _
    · refine v_aload_n dL_law_2557 rfl 5 rfl ?_
      refine v_iconst (v := 0) dL_law_2558 (by decide) ?_
      refine v_lald0 dL_law_2559 ?_
      refine v_iload dL_law_2560 0 rfl ?_
      refine v_i2l dL_law_2562 ?_
      refine v_lcmp dL_law_2563 ?_
      refine v_if_eq (tgt := 2569) dL_law_2564 (by decide) ?_ ?_
      · refine v_goto (tgt := 2642) dL_law_2569 (by decide) ?_
        refine v_iinc (v := (z5 + 4)) dL_law_2642 (q := 7) rfl rfl (Nat.le_of_ble_eq_true rfl) rfl ?_
        refine v_goto (tgt := 28) dL_law_2645 (by decide) ?_
        refine v_sub [3, 4, 5, 6, 7, 0] rfl ?_
        refine v_widen B Bs (by omega) (by omega) ?_
        exact hK _ _
      · refine v_iconst (v := 0) dL_law_2567 (by decide) ?_
        exact v_zret dL_law_2568 rfl rfl rfl (by omega) (by omega)
  · refine v_iconst (v := 0) dL_law_2550 (by decide) ?_
    exact v_zret dL_law_2551 rfl rfl rfl (by omega) (by omega)
def f_L_c2572 (g : GC) (K : Int32 → XW → Option (Int32 × XW)) (z5 : Int32) (w : XW) : Option (Int32 × XW) := (bI (f_X10_undoCount w) (fun r1 w1 => (bI (f_X11_undoCount w1) (fun r2 w2 => (if r1 = r2 then (K (z5 + 4) w2) else (some (0, w2)))))))
set_option maxRecDepth 100000 in
theorem S_L_c2572 {g : GC} (hl : g.1.stackTraces = false) {K : Int32 → XW → Option (Int32 × XW)} {B Bs : Nat} (hB : B ≤ 603072) (hBs : Bs ≤ 7178346) (hK : ∀ (z5 : Int32) (w : XW), VE g cL_law 9 RL (some .boolean) [] room_1 603072 7178346 oI B Bs 28 [(0, .ref g.2.2.2.2.2.2.1), (1, .ref (g.2.1 + 0)), (2, .ref (g.2.1 + 141)), (3, .ref (g.2.1 + 150)), (4, .ref (g.2.1 + 151)), (5, .int z5)] [] w (K z5 w)) (z5 : Int32) (w : XW) (kc ks : Nat) (h1 : kc + 4 ≤ B) (h2 : ks + 24 ≤ Bs) : VE g cL_law 9 RL (some .boolean) [] room_1 603072 7178346 oI kc ks 2572 [(0, .ref g.2.2.2.2.2.2.1), (1, .ref (g.2.1 + 0)), (2, .ref (g.2.1 + 141)), (3, .ref (g.2.1 + 150)), (4, .ref (g.2.1 + 151)), (5, .int z5)] [] w (f_L_c2572 g K z5 w) := by
  unfold f_L_c2572
  refine v_aload_n dL_law_2572 rfl 1 rfl ?_
  refine v_callVi (As := []) cv_L_329 (S_X10_undoCount hl) tt_0 rfl rfl rfl (Nat.le_of_ble_eq_true rfl) dL_law_2573 (CR_law (by decide) (by decide) (by omega) (by omega)) (fun r1 w1 => ?_)
  refine v_aload_n dL_law_2576 rfl 2 rfl ?_
  refine v_callVi (As := []) cv_L_332 (S_X11_undoCount hl) tt_141 rfl rfl rfl (Nat.le_of_ble_eq_true rfl) dL_law_2577 (CR_law (by decide) (by decide) (by omega) (by omega)) (fun r2 w2 => ?_)
  refine v_icmp_eq (tgt := 2642) dL_law_2580 (by decide) ?_ ?_
  · refine v_iinc (v := (z5 + 4)) dL_law_2642 (q := 5) rfl rfl (Nat.le_of_ble_eq_true rfl) rfl ?_
    refine v_goto (tgt := 28) dL_law_2645 (by decide) ?_
    refine v_sub [1, 2, 3, 4, 5, 0] rfl ?_
    refine v_widen B Bs (by omega) (by omega) ?_
    exact hK _ _
  · refine v_iconst (v := 0) dL_law_2583 (by decide) ?_
    exact v_zret dL_law_2584 rfl rfl rfl (by omega) (by omega)
def f_L_c2585 (g : GC) (K : Int32 → XW → Option (Int32 × XW)) (z5 : Int32) (w : XW) : Option (Int32 × XW) := (bI (f_X10_saveSnapshot w) (fun r1 w1 => (bI (f_X11_saveSnapshot w1) (fun r2 w2 => (if r1 = r2 then (K (z5 + 4) w2) else (some (0, w2)))))))
set_option maxRecDepth 100000 in
theorem S_L_c2585 {g : GC} (hl : g.1.stackTraces = false) {K : Int32 → XW → Option (Int32 × XW)} {B Bs : Nat} (hB : B ≤ 603072) (hBs : Bs ≤ 7178346) (hK : ∀ (z5 : Int32) (w : XW), VE g cL_law 9 RL (some .boolean) [] room_1 603072 7178346 oI B Bs 28 [(0, .ref g.2.2.2.2.2.2.1), (1, .ref (g.2.1 + 0)), (2, .ref (g.2.1 + 141)), (3, .ref (g.2.1 + 150)), (4, .ref (g.2.1 + 151)), (5, .int z5)] [] w (K z5 w)) (z5 : Int32) (w : XW) (kc ks : Nat) (h1 : kc + 4 ≤ B) (h2 : ks + 24 ≤ Bs) : VE g cL_law 9 RL (some .boolean) [] room_1 603072 7178346 oI kc ks 2585 [(0, .ref g.2.2.2.2.2.2.1), (1, .ref (g.2.1 + 0)), (2, .ref (g.2.1 + 141)), (3, .ref (g.2.1 + 150)), (4, .ref (g.2.1 + 151)), (5, .int z5)] [] w (f_L_c2585 g K z5 w) := by
  unfold f_L_c2585
  refine v_aload_n dL_law_2585 rfl 1 rfl ?_
  refine v_callVi (As := []) cv_L_333 (S_X10_saveSnapshot hl) tt_0 rfl rfl rfl (Nat.le_of_ble_eq_true rfl) dL_law_2586 (CR_law (by decide) (by decide) (by omega) (by omega)) (fun r1 w1 => ?_)
  refine v_aload_n dL_law_2589 rfl 2 rfl ?_
  refine v_callVi (As := []) cv_L_336 (S_X11_saveSnapshot hl) tt_141 rfl rfl rfl (Nat.le_of_ble_eq_true rfl) dL_law_2590 (CR_law (by decide) (by decide) (by omega) (by omega)) (fun r2 w2 => ?_)
  refine v_icmp_eq (tgt := 2642) dL_law_2593 (by decide) ?_ ?_
  · refine v_iinc (v := (z5 + 4)) dL_law_2642 (q := 5) rfl rfl (Nat.le_of_ble_eq_true rfl) rfl ?_
    refine v_goto (tgt := 28) dL_law_2645 (by decide) ?_
    refine v_sub [1, 2, 3, 4, 5, 0] rfl ?_
    refine v_widen B Bs (by omega) (by omega) ?_
    exact hK _ _
  · refine v_iconst (v := 0) dL_law_2596 (by decide) ?_
    exact v_zret dL_law_2597 rfl rfl rfl (by omega) (by omega)
def f_L_c2598 (g : GC) (K : Int32 → XW → Option (Int32 × XW)) (z5 : Int32) (w : XW) : Option (Int32 × XW) := (bI (f_L_restoreSnapshot w) (fun r1 w1 => (bI (f_X11_restoreSnapshot w1) (fun r2 w2 => (bI (f_X11_thrown w2) (fun r3 w3 => (if r3 = r1 then (if r1 = 0 then (if (lg_cmp w3.2.1 (Int32.toInt64 r2)) = 0 then (K (z5 + 4) w3) else (some (0, w3))) else (K (z5 + 4) w3)) else (some (0, w3)))))))))
set_option maxRecDepth 100000 in
theorem S_L_c2598 {g : GC} (hl : g.1.stackTraces = false) {K : Int32 → XW → Option (Int32 × XW)} {B Bs : Nat} (hB : B ≤ 603072) (hBs : Bs ≤ 7178346) (hK : ∀ (z5 : Int32) (w : XW), VE g cL_law 9 RL (some .boolean) [] room_1 603072 7178346 oI B Bs 28 [(0, .ref g.2.2.2.2.2.2.1), (1, .ref (g.2.1 + 0)), (2, .ref (g.2.1 + 141)), (3, .ref (g.2.1 + 150)), (4, .ref (g.2.1 + 151)), (5, .int z5)] [] w (K z5 w)) (z5 : Int32) (w : XW) (kc ks : Nat) (h1 : kc + 4 ≤ B) (h2 : ks + 24 ≤ Bs) : VE g cL_law 9 RL (some .boolean) [] room_1 603072 7178346 oI kc ks 2598 [(0, .ref g.2.2.2.2.2.2.1), (1, .ref (g.2.1 + 0)), (2, .ref (g.2.1 + 141)), (3, .ref (g.2.1 + 150)), (4, .ref (g.2.1 + 151)), (5, .int z5)] [] w (f_L_c2598 g K z5 w) := by
  unfold f_L_c2598
  refine v_aload_n dL_law_2598 rfl 1 rfl ?_
  refine v_aload_n dL_law_2599 rfl 3 rfl ?_
  refine v_callSh (As := [.ref (g.2.1 + 0), .ref (g.2.1 + 150)]) ch_L_337 (S_L_restoreSnapshot hl) rfl rfl (Nat.le_of_ble_eq_true rfl) dL_law_2600 (CR_law (by decide) (by decide) (by omega) (by omega)) (fun r1 w1 => ?_)
  refine v_istore dL_law_2603 (Nat.le_of_ble_eq_true rfl) rfl ?_
  refine v_aload_n dL_law_2605 rfl 3 rfl ?_
  refine v_callVi (As := []) cv_L_339 (S_X11_restoreSnapshot hl) tt_141 rfl rfl rfl (Nat.le_of_ble_eq_true rfl) dL_law_2606 (CR_law (by decide) (by decide) (by omega) (by omega)) (fun r2 w2 => ?_)
  refine v_istore dL_law_2609 (Nat.le_of_ble_eq_true rfl) rfl ?_
  refine v_aload_n dL_law_2611 rfl 4 rfl ?_
  refine v_callVi (As := []) cv_L_162 (S_X11_thrown hl) tt_141 rfl rfl rfl (Nat.le_of_ble_eq_true rfl) dL_law_2612 (CR_law (by decide) (by decide) (by omega) (by omega)) (fun r3 w3 => ?_)
  refine v_iload dL_law_2615 1 rfl ?_
  refine v_icmp_eq (tgt := 2622) dL_law_2617 (by decide) ?_ ?_
  · refine v_iload dL_law_2622 1 rfl ?_
    refine v_if_ne (tgt := 2639) dL_law_2624 (by decide) ?_ ?_
    · refine v_goto (tgt := 2642) dL_law_2639 (by decide) ?_
      refine v_iinc (v := (z5 + 4)) dL_law_2642 (q := 7) rfl rfl (Nat.le_of_ble_eq_true rfl) rfl ?_
      refine v_goto (tgt := 28) dL_law_2645 (by decide) ?_
      refine v_sub [3, 4, 5, 6, 7, 0] rfl ?_
      refine v_widen B Bs (by omega) (by omega) ?_
      exact hK _ _
    · refine v_aload_n dL_law_2627 rfl 5 rfl ?_
      refine v_iconst (v := 0) dL_law_2628 (by decide) ?_
      refine v_lald0 dL_law_2629 ?_
      refine v_iload dL_law_2630 0 rfl ?_
      refine v_i2l dL_law_2632 ?_
      refine v_lcmp dL_law_2633 ?_
      refine v_if_eq (tgt := 2639) dL_law_2634 (by decide) ?_ ?_
      · refine v_goto (tgt := 2642) dL_law_2639 (by decide) ?_
        refine v_iinc (v := (z5 + 4)) dL_law_2642 (q := 7) rfl rfl (Nat.le_of_ble_eq_true rfl) rfl ?_
        refine v_goto (tgt := 28) dL_law_2645 (by decide) ?_
        refine v_sub [3, 4, 5, 6, 7, 0] rfl ?_
        refine v_widen B Bs (by omega) (by omega) ?_
        exact hK _ _
      · refine v_iconst (v := 0) dL_law_2637 (by decide) ?_
        exact v_zret dL_law_2638 rfl rfl rfl (by omega) (by omega)
  · refine v_iconst (v := 0) dL_law_2620 (by decide) ?_
    exact v_zret dL_law_2621 rfl rfl rfl (by omega) (by omega)
/-- what the law computes from the head of its loop on -/
def f_L_law_28 (g : GC) : Nat → Int32 → XW → Option (Int32 × XW)
  | 0, _, _ => none
  | n + 1, z5, w => (if ((Int32.ofNat g.2.2.2.2.2.2.2.1) - 4) < z5 then (some (1, w)) else (if inB z5 g.2.2.2.2.2.2.2.1 then (if ((g.2.2.2.2.2.2.2.2 (Int32.toNatClampNeg z5)) &&& 63) = 0 then (f_L_c272 g (f_L_law_28 g n) z5 w) else (if ((g.2.2.2.2.2.2.2.2 (Int32.toNatClampNeg z5)) &&& 63) = 1 then (f_L_c316 g (f_L_law_28 g n) z5 w) else (if ((g.2.2.2.2.2.2.2.2 (Int32.toNatClampNeg z5)) &&& 63) = 2 then (f_L_c384 g (f_L_law_28 g n) z5 w) else (if ((g.2.2.2.2.2.2.2.2 (Int32.toNatClampNeg z5)) &&& 63) = 3 then (f_L_c454 g (f_L_law_28 g n) z5 w) else (if ((g.2.2.2.2.2.2.2.2 (Int32.toNatClampNeg z5)) &&& 63) = 4 then (f_L_c524 g (f_L_law_28 g n) z5 w) else (if ((g.2.2.2.2.2.2.2.2 (Int32.toNatClampNeg z5)) &&& 63) = 5 then (f_L_c537 g (f_L_law_28 g n) z5 w) else (if ((g.2.2.2.2.2.2.2.2 (Int32.toNatClampNeg z5)) &&& 63) = 6 then (f_L_c593 g (f_L_law_28 g n) z5 w) else (if ((g.2.2.2.2.2.2.2.2 (Int32.toNatClampNeg z5)) &&& 63) = 7 then (f_L_c670 g (f_L_law_28 g n) z5 w) else (if ((g.2.2.2.2.2.2.2.2 (Int32.toNatClampNeg z5)) &&& 63) = 8 then (f_L_c728 g (f_L_law_28 g n) z5 w) else (if ((g.2.2.2.2.2.2.2.2 (Int32.toNatClampNeg z5)) &&& 63) = 9 then (f_L_c784 g (f_L_law_28 g n) z5 w) else (if ((g.2.2.2.2.2.2.2.2 (Int32.toNatClampNeg z5)) &&& 63) = 10 then (f_L_c840 g (f_L_law_28 g n) z5 w) else (if ((g.2.2.2.2.2.2.2.2 (Int32.toNatClampNeg z5)) &&& 63) = 11 then (f_L_c884 g (f_L_law_28 g n) z5 w) else (if ((g.2.2.2.2.2.2.2.2 (Int32.toNatClampNeg z5)) &&& 63) = 12 then (f_L_c897 g (f_L_law_28 g n) z5 w) else (if ((g.2.2.2.2.2.2.2.2 (Int32.toNatClampNeg z5)) &&& 63) = 13 then (f_L_c953 g (f_L_law_28 g n) z5 w) else (if ((g.2.2.2.2.2.2.2.2 (Int32.toNatClampNeg z5)) &&& 63) = 14 then (f_L_c1009 g (f_L_law_28 g n) z5 w) else (if ((g.2.2.2.2.2.2.2.2 (Int32.toNatClampNeg z5)) &&& 63) = 15 then (f_L_c1072 g (f_L_law_28 g n) z5 w) else (if ((g.2.2.2.2.2.2.2.2 (Int32.toNatClampNeg z5)) &&& 63) = 16 then (f_L_c1085 g (f_L_law_28 g n) z5 w) else (if ((g.2.2.2.2.2.2.2.2 (Int32.toNatClampNeg z5)) &&& 63) = 17 then (f_L_c1098 g (f_L_law_28 g n) z5 w) else (if ((g.2.2.2.2.2.2.2.2 (Int32.toNatClampNeg z5)) &&& 63) = 18 then (f_L_c1178 g (f_L_law_28 g n) z5 w) else (if ((g.2.2.2.2.2.2.2.2 (Int32.toNatClampNeg z5)) &&& 63) = 19 then (f_L_c1234 g (f_L_law_28 g n) z5 w) else (if ((g.2.2.2.2.2.2.2.2 (Int32.toNatClampNeg z5)) &&& 63) = 20 then (f_L_c1290 g (f_L_law_28 g n) z5 w) else (if ((g.2.2.2.2.2.2.2.2 (Int32.toNatClampNeg z5)) &&& 63) = 21 then (f_L_c1346 g (f_L_law_28 g n) z5 w) else (if ((g.2.2.2.2.2.2.2.2 (Int32.toNatClampNeg z5)) &&& 63) = 22 then (f_L_c1359 g (f_L_law_28 g n) z5 w) else (if ((g.2.2.2.2.2.2.2.2 (Int32.toNatClampNeg z5)) &&& 63) = 23 then (f_L_c1415 g (f_L_law_28 g n) z5 w) else (if ((g.2.2.2.2.2.2.2.2 (Int32.toNatClampNeg z5)) &&& 63) = 24 then (f_L_c1471 g (f_L_law_28 g n) z5 w) else (if ((g.2.2.2.2.2.2.2.2 (Int32.toNatClampNeg z5)) &&& 63) = 25 then (f_L_c1527 g (f_L_law_28 g n) z5 w) else (if ((g.2.2.2.2.2.2.2.2 (Int32.toNatClampNeg z5)) &&& 63) = 26 then (f_L_c1590 g (f_L_law_28 g n) z5 w) else (if ((g.2.2.2.2.2.2.2.2 (Int32.toNatClampNeg z5)) &&& 63) = 27 then (f_L_c1634 g (f_L_law_28 g n) z5 w) else (if ((g.2.2.2.2.2.2.2.2 (Int32.toNatClampNeg z5)) &&& 63) = 28 then (f_L_c1678 g (f_L_law_28 g n) z5 w) else (if ((g.2.2.2.2.2.2.2.2 (Int32.toNatClampNeg z5)) &&& 63) = 29 then (f_L_c1734 g (f_L_law_28 g n) z5 w) else (if ((g.2.2.2.2.2.2.2.2 (Int32.toNatClampNeg z5)) &&& 63) = 30 then (f_L_c1778 g (f_L_law_28 g n) z5 w) else (if ((g.2.2.2.2.2.2.2.2 (Int32.toNatClampNeg z5)) &&& 63) = 31 then (f_L_c1822 g (f_L_law_28 g n) z5 w) else (if ((g.2.2.2.2.2.2.2.2 (Int32.toNatClampNeg z5)) &&& 63) = 32 then (f_L_c1835 g (f_L_law_28 g n) z5 w) else (if ((g.2.2.2.2.2.2.2.2 (Int32.toNatClampNeg z5)) &&& 63) = 33 then (f_L_c1848 g (f_L_law_28 g n) z5 w) else (if ((g.2.2.2.2.2.2.2.2 (Int32.toNatClampNeg z5)) &&& 63) = 34 then (f_L_c1861 g (f_L_law_28 g n) z5 w) else (if ((g.2.2.2.2.2.2.2.2 (Int32.toNatClampNeg z5)) &&& 63) = 35 then (f_L_c1874 g (f_L_law_28 g n) z5 w) else (if ((g.2.2.2.2.2.2.2.2 (Int32.toNatClampNeg z5)) &&& 63) = 36 then (f_L_c1939 g (f_L_law_28 g n) z5 w) else (if ((g.2.2.2.2.2.2.2.2 (Int32.toNatClampNeg z5)) &&& 63) = 37 then (f_L_c2005 g (f_L_law_28 g n) z5 w) else (if ((g.2.2.2.2.2.2.2.2 (Int32.toNatClampNeg z5)) &&& 63) = 38 then (f_L_c2063 g (f_L_law_28 g n) z5 w) else (if ((g.2.2.2.2.2.2.2.2 (Int32.toNatClampNeg z5)) &&& 63) = 39 then (f_L_c2076 g (f_L_law_28 g n) z5 w) else (if ((g.2.2.2.2.2.2.2.2 (Int32.toNatClampNeg z5)) &&& 63) = 40 then (f_L_c2120 g (f_L_law_28 g n) z5 w) else (if ((g.2.2.2.2.2.2.2.2 (Int32.toNatClampNeg z5)) &&& 63) = 41 then (f_L_c2183 g (f_L_law_28 g n) z5 w) else (if ((g.2.2.2.2.2.2.2.2 (Int32.toNatClampNeg z5)) &&& 63) = 42 then (f_L_c2227 g (f_L_law_28 g n) z5 w) else (if ((g.2.2.2.2.2.2.2.2 (Int32.toNatClampNeg z5)) &&& 63) = 43 then (f_L_c2271 g (f_L_law_28 g n) z5 w) else (if ((g.2.2.2.2.2.2.2.2 (Int32.toNatClampNeg z5)) &&& 63) = 44 then (f_L_c2327 g (f_L_law_28 g n) z5 w) else (if ((g.2.2.2.2.2.2.2.2 (Int32.toNatClampNeg z5)) &&& 63) = 45 then (f_L_c2340 g (f_L_law_28 g n) z5 w) else (if ((g.2.2.2.2.2.2.2.2 (Int32.toNatClampNeg z5)) &&& 63) = 46 then (f_L_c2396 g (f_L_law_28 g n) z5 w) else (if ((g.2.2.2.2.2.2.2.2 (Int32.toNatClampNeg z5)) &&& 63) = 47 then (f_L_c2440 g (f_L_law_28 g n) z5 w) else (if ((g.2.2.2.2.2.2.2.2 (Int32.toNatClampNeg z5)) &&& 63) = 48 then (f_L_c2484 g (f_L_law_28 g n) z5 w) else (if ((g.2.2.2.2.2.2.2.2 (Int32.toNatClampNeg z5)) &&& 63) = 49 then (f_L_c2528 g (f_L_law_28 g n) z5 w) else (if ((g.2.2.2.2.2.2.2.2 (Int32.toNatClampNeg z5)) &&& 63) = 50 then (f_L_c2572 g (f_L_law_28 g n) z5 w) else (if ((g.2.2.2.2.2.2.2.2 (Int32.toNatClampNeg z5)) &&& 63) = 51 then (f_L_c2585 g (f_L_law_28 g n) z5 w) else (if ((g.2.2.2.2.2.2.2.2 (Int32.toNatClampNeg z5)) &&& 63) = 52 then (f_L_c2598 g (f_L_law_28 g n) z5 w) else (f_L_law_28 g n (z5 + 4) w)))))))))))))))))))))))))))))))))))))))))))))))))))))) else none))
set_option maxRecDepth 100000 in
theorem S_L_law_28 {g : GC} (hl : g.1.stackTraces = false) : ∀ (n : Nat) (z5 : Int32) (w : XW) (kc ks : Nat), kc + 4 * n ≤ 603072 → ks + 24 * n ≤ 7178346 → VE g cL_law 9 RL (some .boolean) [] room_1 603072 7178346 oI kc ks 28 [(0, .ref g.2.2.2.2.2.2.1), (1, .ref (g.2.1 + 0)), (2, .ref (g.2.1 + 141)), (3, .ref (g.2.1 + 150)), (4, .ref (g.2.1 + 151)), (5, .int z5)] [] w (f_L_law_28 g n z5 w) := by
  intro n
  induction n with
  | zero => intro z5 w kc ks hkc hks; exact v_none
  | succ n ih =>
    intro z5 w kc ks hkc hks
    rw [f_L_law_28]
    have a1 : kc + 4 ≤ 603072 - 4 * n := by omega
    have a2 : ks + 24 ≤ 7178346 - 24 * n := by omega
    have a3 : ∀ (z5 : Int32) (w : XW), VE g cL_law 9 RL (some .boolean) [] room_1 603072 7178346 oI (603072 - 4 * n) (7178346 - 24 * n) 28 [(0, .ref g.2.2.2.2.2.2.1), (1, .ref (g.2.1 + 0)), (2, .ref (g.2.1 + 141)), (3, .ref (g.2.1 + 150)), (4, .ref (g.2.1 + 151)), (5, .int z5)] [] w (f_L_law_28 g n z5 w) := fun z5 w => ih z5 w _ _ (by omega) (by omega)
    refine v_iload dL_law_28 5 rfl ?_
    refine v_aload_n dL_law_30 rfl 0 rfl ?_
    refine v_slen dL_law_31 ?_
    refine v_iconst (v := 4) dL_law_32 (by decide) ?_
    refine v_isub dL_law_33 ?_
    refine v_icmp_gt (tgt := 2648) dL_law_34 (by decide) ?_ ?_
    · refine v_iconst (v := 1) dL_law_2648 (by decide) ?_
      exact v_zret dL_law_2649 rfl rfl rfl (by omega) (by omega)
    · refine v_aload_n dL_law_37 rfl 0 rfl ?_
      refine v_iload dL_law_38 5 rfl ?_
      refine v_guard (fun h1 => ?_)
      refine v_sld h1 dL_law_40 ?_
      refine v_bipush (v := 63) dL_law_41 (by decide) ?_
      refine v_iand dL_law_43 ?_
      refine v_split (fun h2 => ?_) (fun h2 => ?_)
      · refine v_tsIn (tgt := 272) (off := (228)) 0 h2 dL_law_44 (by decide) (by decide) (by decide) (by decide) ?_
        refine v_sub [0, 1, 2, 3, 4, 5] rfl ?_
        exact S_L_c272 hl (by omega) (by omega) a3 _ _ _ _ a1 a2
      refine v_split (fun h3 => ?_) (fun h3 => ?_)
      · refine v_tsIn (tgt := 316) (off := (272)) 1 h3 dL_law_44 (by decide) (by decide) (by decide) (by decide) ?_
        refine v_sub [0, 1, 2, 3, 4, 5] rfl ?_
        exact S_L_c316 hl (by omega) (by omega) a3 _ _ _ _ a1 a2
      refine v_split (fun h4 => ?_) (fun h4 => ?_)
      · refine v_tsIn (tgt := 384) (off := (340)) 2 h4 dL_law_44 (by decide) (by decide) (by decide) (by decide) ?_
        refine v_sub [0, 1, 2, 3, 4, 5] rfl ?_
        exact S_L_c384 hl (by omega) (by omega) a3 _ _ _ _ a1 a2
      refine v_split (fun h5 => ?_) (fun h5 => ?_)
      · refine v_tsIn (tgt := 454) (off := (410)) 3 h5 dL_law_44 (by decide) (by decide) (by decide) (by decide) ?_
        refine v_sub [0, 1, 2, 3, 4, 5] rfl ?_
        exact S_L_c454 hl (by omega) (by omega) a3 _ _ _ _ a1 a2
      refine v_split (fun h6 => ?_) (fun h6 => ?_)
      · refine v_tsIn (tgt := 524) (off := (480)) 4 h6 dL_law_44 (by decide) (by decide) (by decide) (by decide) ?_
        refine v_sub [0, 1, 2, 3, 4, 5] rfl ?_
        exact S_L_c524 hl (by omega) (by omega) a3 _ _ _ _ a1 a2
      refine v_split (fun h7 => ?_) (fun h7 => ?_)
      · refine v_tsIn (tgt := 537) (off := (493)) 5 h7 dL_law_44 (by decide) (by decide) (by decide) (by decide) ?_
        refine v_sub [0, 1, 2, 3, 4, 5] rfl ?_
        exact S_L_c537 hl (by omega) (by omega) a3 _ _ _ _ a1 a2
      refine v_split (fun h8 => ?_) (fun h8 => ?_)
      · refine v_tsIn (tgt := 593) (off := (549)) 6 h8 dL_law_44 (by decide) (by decide) (by decide) (by decide) ?_
        refine v_sub [0, 1, 2, 3, 4, 5] rfl ?_
        exact S_L_c593 hl (by omega) (by omega) a3 _ _ _ _ a1 a2
      refine v_split (fun h9 => ?_) (fun h9 => ?_)
      · refine v_tsIn (tgt := 670) (off := (626)) 7 h9 dL_law_44 (by decide) (by decide) (by decide) (by decide) ?_
        refine v_sub [0, 1, 2, 3, 4, 5] rfl ?_
        exact S_L_c670 hl (by omega) (by omega) a3 _ _ _ _ a1 a2
      refine v_split (fun h10 => ?_) (fun h10 => ?_)
      · refine v_tsIn (tgt := 728) (off := (684)) 8 h10 dL_law_44 (by decide) (by decide) (by decide) (by decide) ?_
        refine v_sub [0, 1, 2, 3, 4, 5] rfl ?_
        exact S_L_c728 hl (by omega) (by omega) a3 _ _ _ _ a1 a2
      refine v_split (fun h11 => ?_) (fun h11 => ?_)
      · refine v_tsIn (tgt := 784) (off := (740)) 9 h11 dL_law_44 (by decide) (by decide) (by decide) (by decide) ?_
        refine v_sub [0, 1, 2, 3, 4, 5] rfl ?_
        exact S_L_c784 hl (by omega) (by omega) a3 _ _ _ _ a1 a2
      refine v_split (fun h12 => ?_) (fun h12 => ?_)
      · refine v_tsIn (tgt := 840) (off := (796)) 10 h12 dL_law_44 (by decide) (by decide) (by decide) (by decide) ?_
        refine v_sub [0, 1, 2, 3, 4, 5] rfl ?_
        exact S_L_c840 hl (by omega) (by omega) a3 _ _ _ _ a1 a2
      refine v_split (fun h13 => ?_) (fun h13 => ?_)
      · refine v_tsIn (tgt := 884) (off := (840)) 11 h13 dL_law_44 (by decide) (by decide) (by decide) (by decide) ?_
        refine v_sub [0, 1, 2, 3, 4, 5] rfl ?_
        exact S_L_c884 hl (by omega) (by omega) a3 _ _ _ _ a1 a2
      refine v_split (fun h14 => ?_) (fun h14 => ?_)
      · refine v_tsIn (tgt := 897) (off := (853)) 12 h14 dL_law_44 (by decide) (by decide) (by decide) (by decide) ?_
        refine v_sub [0, 1, 2, 3, 4, 5] rfl ?_
        exact S_L_c897 hl (by omega) (by omega) a3 _ _ _ _ a1 a2
      refine v_split (fun h15 => ?_) (fun h15 => ?_)
      · refine v_tsIn (tgt := 953) (off := (909)) 13 h15 dL_law_44 (by decide) (by decide) (by decide) (by decide) ?_
        refine v_sub [0, 1, 2, 3, 4, 5] rfl ?_
        exact S_L_c953 hl (by omega) (by omega) a3 _ _ _ _ a1 a2
      refine v_split (fun h16 => ?_) (fun h16 => ?_)
      · refine v_tsIn (tgt := 1009) (off := (965)) 14 h16 dL_law_44 (by decide) (by decide) (by decide) (by decide) ?_
        refine v_sub [0, 1, 2, 3, 4, 5] rfl ?_
        exact S_L_c1009 hl (by omega) (by omega) a3 _ _ _ _ a1 a2
      refine v_split (fun h17 => ?_) (fun h17 => ?_)
      · refine v_tsIn (tgt := 1072) (off := (1028)) 15 h17 dL_law_44 (by decide) (by decide) (by decide) (by decide) ?_
        refine v_sub [0, 1, 2, 3, 4, 5] rfl ?_
        exact S_L_c1072 hl (by omega) (by omega) a3 _ _ _ _ a1 a2
      refine v_split (fun h18 => ?_) (fun h18 => ?_)
      · refine v_tsIn (tgt := 1085) (off := (1041)) 16 h18 dL_law_44 (by decide) (by decide) (by decide) (by decide) ?_
        refine v_sub [0, 1, 2, 3, 4, 5] rfl ?_
        exact S_L_c1085 hl (by omega) (by omega) a3 _ _ _ _ a1 a2
      refine v_split (fun h19 => ?_) (fun h19 => ?_)
      · refine v_tsIn (tgt := 1098) (off := (1054)) 17 h19 dL_law_44 (by decide) (by decide) (by decide) (by decide) ?_
        refine v_sub [0, 1, 2, 3, 4, 5] rfl ?_
        exact S_L_c1098 hl (by omega) (by omega) a3 _ _ _ _ a1 a2
      refine v_split (fun h20 => ?_) (fun h20 => ?_)
      · refine v_tsIn (tgt := 1178) (off := (1134)) 18 h20 dL_law_44 (by decide) (by decide) (by decide) (by decide) ?_
        refine v_sub [0, 1, 2, 3, 4, 5] rfl ?_
        exact S_L_c1178 hl (by omega) (by omega) a3 _ _ _ _ a1 a2
      refine v_split (fun h21 => ?_) (fun h21 => ?_)
      · refine v_tsIn (tgt := 1234) (off := (1190)) 19 h21 dL_law_44 (by decide) (by decide) (by decide) (by decide) ?_
        refine v_sub [0, 1, 2, 3, 4, 5] rfl ?_
        exact S_L_c1234 hl (by omega) (by omega) a3 _ _ _ _ a1 a2
      refine v_split (fun h22 => ?_) (fun h22 => ?_)
      · refine v_tsIn (tgt := 1290) (off := (1246)) 20 h22 dL_law_44 (by decide) (by decide) (by decide) (by decide) ?_
        refine v_sub [0, 1, 2, 3, 4, 5] rfl ?_
        exact S_L_c1290 hl (by omega) (by omega) a3 _ _ _ _ a1 a2
      refine v_split (fun h23 => ?_) (fun h23 => ?_)
      · refine v_tsIn (tgt := 1346) (off := (1302)) 21 h23 dL_law_44 (by decide) (by decide) (by decide) (by decide) ?_
        refine v_sub [0, 1, 2, 3, 4, 5] rfl ?_
        exact S_L_c1346 hl (by omega) (by omega) a3 _ _ _ _ a1 a2
      refine v_split (fun h24 => ?_) (fun h24 => ?_)
      · refine v_tsIn (tgt := 1359) (off := (1315)) 22 h24 dL_law_44 (by decide) (by decide) (by decide) (by decide) ?_
        refine v_sub [0, 1, 2, 3, 4, 5] rfl ?_
        exact S_L_c1359 hl (by omega) (by omega) a3 _ _ _ _ a1 a2
      refine v_split (fun h25 => ?_) (fun h25 => ?_)
      · refine v_tsIn (tgt := 1415) (off := (1371)) 23 h25 dL_law_44 (by decide) (by decide) (by decide) (by decide) ?_
        refine v_sub [0, 1, 2, 3, 4, 5] rfl ?_
        exact S_L_c1415 hl (by omega) (by omega) a3 _ _ _ _ a1 a2
      refine v_split (fun h26 => ?_) (fun h26 => ?_)
      · refine v_tsIn (tgt := 1471) (off := (1427)) 24 h26 dL_law_44 (by decide) (by decide) (by decide) (by decide) ?_
        refine v_sub [0, 1, 2, 3, 4, 5] rfl ?_
        exact S_L_c1471 hl (by omega) (by omega) a3 _ _ _ _ a1 a2
      refine v_split (fun h27 => ?_) (fun h27 => ?_)
      · refine v_tsIn (tgt := 1527) (off := (1483)) 25 h27 dL_law_44 (by decide) (by decide) (by decide) (by decide) ?_
        refine v_sub [0, 1, 2, 3, 4, 5] rfl ?_
        exact S_L_c1527 hl (by omega) (by omega) a3 _ _ _ _ a1 a2
      refine v_split (fun h28 => ?_) (fun h28 => ?_)
      · refine v_tsIn (tgt := 1590) (off := (1546)) 26 h28 dL_law_44 (by decide) (by decide) (by decide) (by decide) ?_
        refine v_sub [0, 1, 2, 3, 4, 5] rfl ?_
        exact S_L_c1590 hl (by omega) (by omega) a3 _ _ _ _ a1 a2
      refine v_split (fun h29 => ?_) (fun h29 => ?_)
      · refine v_tsIn (tgt := 1634) (off := (1590)) 27 h29 dL_law_44 (by decide) (by decide) (by decide) (by decide) ?_
        refine v_sub [0, 1, 2, 3, 4, 5] rfl ?_
        exact S_L_c1634 hl (by omega) (by omega) a3 _ _ _ _ a1 a2
      refine v_split (fun h30 => ?_) (fun h30 => ?_)
      · refine v_tsIn (tgt := 1678) (off := (1634)) 28 h30 dL_law_44 (by decide) (by decide) (by decide) (by decide) ?_
        refine v_sub [0, 1, 2, 3, 4, 5] rfl ?_
        exact S_L_c1678 hl (by omega) (by omega) a3 _ _ _ _ a1 a2
      refine v_split (fun h31 => ?_) (fun h31 => ?_)
      · refine v_tsIn (tgt := 1734) (off := (1690)) 29 h31 dL_law_44 (by decide) (by decide) (by decide) (by decide) ?_
        refine v_sub [0, 1, 2, 3, 4, 5] rfl ?_
        exact S_L_c1734 hl (by omega) (by omega) a3 _ _ _ _ a1 a2
      refine v_split (fun h32 => ?_) (fun h32 => ?_)
      · refine v_tsIn (tgt := 1778) (off := (1734)) 30 h32 dL_law_44 (by decide) (by decide) (by decide) (by decide) ?_
        refine v_sub [0, 1, 2, 3, 4, 5] rfl ?_
        exact S_L_c1778 hl (by omega) (by omega) a3 _ _ _ _ a1 a2
      refine v_split (fun h33 => ?_) (fun h33 => ?_)
      · refine v_tsIn (tgt := 1822) (off := (1778)) 31 h33 dL_law_44 (by decide) (by decide) (by decide) (by decide) ?_
        refine v_sub [0, 1, 2, 3, 4, 5] rfl ?_
        exact S_L_c1822 hl (by omega) (by omega) a3 _ _ _ _ a1 a2
      refine v_split (fun h34 => ?_) (fun h34 => ?_)
      · refine v_tsIn (tgt := 1835) (off := (1791)) 32 h34 dL_law_44 (by decide) (by decide) (by decide) (by decide) ?_
        refine v_sub [0, 1, 2, 3, 4, 5] rfl ?_
        exact S_L_c1835 hl (by omega) (by omega) a3 _ _ _ _ a1 a2
      refine v_split (fun h35 => ?_) (fun h35 => ?_)
      · refine v_tsIn (tgt := 1848) (off := (1804)) 33 h35 dL_law_44 (by decide) (by decide) (by decide) (by decide) ?_
        refine v_sub [0, 1, 2, 3, 4, 5] rfl ?_
        exact S_L_c1848 hl (by omega) (by omega) a3 _ _ _ _ a1 a2
      refine v_split (fun h36 => ?_) (fun h36 => ?_)
      · refine v_tsIn (tgt := 1861) (off := (1817)) 34 h36 dL_law_44 (by decide) (by decide) (by decide) (by decide) ?_
        refine v_sub [0, 1, 2, 3, 4, 5] rfl ?_
        exact S_L_c1861 hl (by omega) (by omega) a3 _ _ _ _ a1 a2
      refine v_split (fun h37 => ?_) (fun h37 => ?_)
      · refine v_tsIn (tgt := 1874) (off := (1830)) 35 h37 dL_law_44 (by decide) (by decide) (by decide) (by decide) ?_
        refine v_sub [0, 1, 2, 3, 4, 5] rfl ?_
        exact S_L_c1874 hl (by omega) (by omega) a3 _ _ _ _ a1 a2
      refine v_split (fun h38 => ?_) (fun h38 => ?_)
      · refine v_tsIn (tgt := 1939) (off := (1895)) 36 h38 dL_law_44 (by decide) (by decide) (by decide) (by decide) ?_
        refine v_sub [0, 1, 2, 3, 4, 5] rfl ?_
        exact S_L_c1939 hl (by omega) (by omega) a3 _ _ _ _ a1 a2
      refine v_split (fun h39 => ?_) (fun h39 => ?_)
      · refine v_tsIn (tgt := 2005) (off := (1961)) 37 h39 dL_law_44 (by decide) (by decide) (by decide) (by decide) ?_
        refine v_sub [0, 1, 2, 3, 4, 5] rfl ?_
        exact S_L_c2005 hl (by omega) (by omega) a3 _ _ _ _ a1 a2
      refine v_split (fun h40 => ?_) (fun h40 => ?_)
      · refine v_tsIn (tgt := 2063) (off := (2019)) 38 h40 dL_law_44 (by decide) (by decide) (by decide) (by decide) ?_
        refine v_sub [0, 1, 2, 3, 4, 5] rfl ?_
        exact S_L_c2063 hl (by omega) (by omega) a3 _ _ _ _ a1 a2
      refine v_split (fun h41 => ?_) (fun h41 => ?_)
      · refine v_tsIn (tgt := 2076) (off := (2032)) 39 h41 dL_law_44 (by decide) (by decide) (by decide) (by decide) ?_
        refine v_sub [0, 1, 2, 3, 4, 5] rfl ?_
        exact S_L_c2076 hl (by omega) (by omega) a3 _ _ _ _ a1 a2
      refine v_split (fun h42 => ?_) (fun h42 => ?_)
      · refine v_tsIn (tgt := 2120) (off := (2076)) 40 h42 dL_law_44 (by decide) (by decide) (by decide) (by decide) ?_
        refine v_sub [0, 1, 2, 3, 4, 5] rfl ?_
        exact S_L_c2120 hl (by omega) (by omega) a3 _ _ _ _ a1 a2
      refine v_split (fun h43 => ?_) (fun h43 => ?_)
      · refine v_tsIn (tgt := 2183) (off := (2139)) 41 h43 dL_law_44 (by decide) (by decide) (by decide) (by decide) ?_
        refine v_sub [0, 1, 2, 3, 4, 5] rfl ?_
        exact S_L_c2183 hl (by omega) (by omega) a3 _ _ _ _ a1 a2
      refine v_split (fun h44 => ?_) (fun h44 => ?_)
      · refine v_tsIn (tgt := 2227) (off := (2183)) 42 h44 dL_law_44 (by decide) (by decide) (by decide) (by decide) ?_
        refine v_sub [0, 1, 2, 3, 4, 5] rfl ?_
        exact S_L_c2227 hl (by omega) (by omega) a3 _ _ _ _ a1 a2
      refine v_split (fun h45 => ?_) (fun h45 => ?_)
      · refine v_tsIn (tgt := 2271) (off := (2227)) 43 h45 dL_law_44 (by decide) (by decide) (by decide) (by decide) ?_
        refine v_sub [0, 1, 2, 3, 4, 5] rfl ?_
        exact S_L_c2271 hl (by omega) (by omega) a3 _ _ _ _ a1 a2
      refine v_split (fun h46 => ?_) (fun h46 => ?_)
      · refine v_tsIn (tgt := 2327) (off := (2283)) 44 h46 dL_law_44 (by decide) (by decide) (by decide) (by decide) ?_
        refine v_sub [0, 1, 2, 3, 4, 5] rfl ?_
        exact S_L_c2327 hl (by omega) (by omega) a3 _ _ _ _ a1 a2
      refine v_split (fun h47 => ?_) (fun h47 => ?_)
      · refine v_tsIn (tgt := 2340) (off := (2296)) 45 h47 dL_law_44 (by decide) (by decide) (by decide) (by decide) ?_
        refine v_sub [0, 1, 2, 3, 4, 5] rfl ?_
        exact S_L_c2340 hl (by omega) (by omega) a3 _ _ _ _ a1 a2
      refine v_split (fun h48 => ?_) (fun h48 => ?_)
      · refine v_tsIn (tgt := 2396) (off := (2352)) 46 h48 dL_law_44 (by decide) (by decide) (by decide) (by decide) ?_
        refine v_sub [0, 1, 2, 3, 4, 5] rfl ?_
        exact S_L_c2396 hl (by omega) (by omega) a3 _ _ _ _ a1 a2
      refine v_split (fun h49 => ?_) (fun h49 => ?_)
      · refine v_tsIn (tgt := 2440) (off := (2396)) 47 h49 dL_law_44 (by decide) (by decide) (by decide) (by decide) ?_
        refine v_sub [0, 1, 2, 3, 4, 5] rfl ?_
        exact S_L_c2440 hl (by omega) (by omega) a3 _ _ _ _ a1 a2
      refine v_split (fun h50 => ?_) (fun h50 => ?_)
      · refine v_tsIn (tgt := 2484) (off := (2440)) 48 h50 dL_law_44 (by decide) (by decide) (by decide) (by decide) ?_
        refine v_sub [0, 1, 2, 3, 4, 5] rfl ?_
        exact S_L_c2484 hl (by omega) (by omega) a3 _ _ _ _ a1 a2
      refine v_split (fun h51 => ?_) (fun h51 => ?_)
      · refine v_tsIn (tgt := 2528) (off := (2484)) 49 h51 dL_law_44 (by decide) (by decide) (by decide) (by decide) ?_
        refine v_sub [0, 1, 2, 3, 4, 5] rfl ?_
        exact S_L_c2528 hl (by omega) (by omega) a3 _ _ _ _ a1 a2
      refine v_split (fun h52 => ?_) (fun h52 => ?_)
      · refine v_tsIn (tgt := 2572) (off := (2528)) 50 h52 dL_law_44 (by decide) (by decide) (by decide) (by decide) ?_
        refine v_sub [0, 1, 2, 3, 4, 5] rfl ?_
        exact S_L_c2572 hl (by omega) (by omega) a3 _ _ _ _ a1 a2
      refine v_split (fun h53 => ?_) (fun h53 => ?_)
      · refine v_tsIn (tgt := 2585) (off := (2541)) 51 h53 dL_law_44 (by decide) (by decide) (by decide) (by decide) ?_
        refine v_sub [0, 1, 2, 3, 4, 5] rfl ?_
        exact S_L_c2585 hl (by omega) (by omega) a3 _ _ _ _ a1 a2
      refine v_split (fun h54 => ?_) (fun h54 => ?_)
      · refine v_tsIn (tgt := 2598) (off := (2554)) 52 h54 dL_law_44 (by decide) (by decide) (by decide) (by decide) ?_
        refine v_sub [0, 1, 2, 3, 4, 5] rfl ?_
        exact S_L_c2598 hl (by omega) (by omega) a3 _ _ _ _ a1 a2
      have h2 := v_tsNe (z := 0) (by decide) h2
      have h3 := v_tsNe (z := 1) (by decide) h3
      have h4 := v_tsNe (z := 2) (by decide) h4
      have h5 := v_tsNe (z := 3) (by decide) h5
      have h6 := v_tsNe (z := 4) (by decide) h6
      have h7 := v_tsNe (z := 5) (by decide) h7
      have h8 := v_tsNe (z := 6) (by decide) h8
      have h9 := v_tsNe (z := 7) (by decide) h9
      have h10 := v_tsNe (z := 8) (by decide) h10
      have h11 := v_tsNe (z := 9) (by decide) h11
      have h12 := v_tsNe (z := 10) (by decide) h12
      have h13 := v_tsNe (z := 11) (by decide) h13
      have h14 := v_tsNe (z := 12) (by decide) h14
      have h15 := v_tsNe (z := 13) (by decide) h15
      have h16 := v_tsNe (z := 14) (by decide) h16
      have h17 := v_tsNe (z := 15) (by decide) h17
      have h18 := v_tsNe (z := 16) (by decide) h18
      have h19 := v_tsNe (z := 17) (by decide) h19
      have h20 := v_tsNe (z := 18) (by decide) h20
      have h21 := v_tsNe (z := 19) (by decide) h21
      have h22 := v_tsNe (z := 20) (by decide) h22
      have h23 := v_tsNe (z := 21) (by decide) h23
      have h24 := v_tsNe (z := 22) (by decide) h24
      have h25 := v_tsNe (z := 23) (by decide) h25
      have h26 := v_tsNe (z := 24) (by decide) h26
      have h27 := v_tsNe (z := 25) (by decide) h27
      have h28 := v_tsNe (z := 26) (by decide) h28
      have h29 := v_tsNe (z := 27) (by decide) h29
      have h30 := v_tsNe (z := 28) (by decide) h30
      have h31 := v_tsNe (z := 29) (by decide) h31
      have h32 := v_tsNe (z := 30) (by decide) h32
      have h33 := v_tsNe (z := 31) (by decide) h33
      have h34 := v_tsNe (z := 32) (by decide) h34
      have h35 := v_tsNe (z := 33) (by decide) h35
      have h36 := v_tsNe (z := 34) (by decide) h36
      have h37 := v_tsNe (z := 35) (by decide) h37
      have h38 := v_tsNe (z := 36) (by decide) h38
      have h39 := v_tsNe (z := 37) (by decide) h39
      have h40 := v_tsNe (z := 38) (by decide) h40
      have h41 := v_tsNe (z := 39) (by decide) h41
      have h42 := v_tsNe (z := 40) (by decide) h42
      have h43 := v_tsNe (z := 41) (by decide) h43
      have h44 := v_tsNe (z := 42) (by decide) h44
      have h45 := v_tsNe (z := 43) (by decide) h45
      have h46 := v_tsNe (z := 44) (by decide) h46
      have h47 := v_tsNe (z := 45) (by decide) h47
      have h48 := v_tsNe (z := 46) (by decide) h48
      have h49 := v_tsNe (z := 47) (by decide) h49
      have h50 := v_tsNe (z := 48) (by decide) h50
      have h51 := v_tsNe (z := 49) (by decide) h51
      have h52 := v_tsNe (z := 50) (by decide) h52
      have h53 := v_tsNe (z := 51) (by decide) h53
      have h54 := v_tsNe (z := 52) (by decide) h54
      refine v_tsOut (tgt := 2642) dL_law_44 (by omega) (by decide) ?_
      refine v_iinc (v := (z5 + 4)) dL_law_2642 (q := 5) rfl rfl (Nat.le_of_ble_eq_true rfl) rfl ?_
      refine v_goto (tgt := 28) dL_law_2645 (by decide) ?_
      refine v_sub [1, 2, 3, 4, 5, 0] rfl ?_
      refine v_widen _ _ (by omega) (by omega) (a3 _ _)
