theorem d_Law_law_267 : decode c_Law_law 267 = .ok (.iload 5, 2) := by decide +kernel
theorem d_Law_law_269 : decode c_Law_law 269 = .ok (.if_icmp .eq 5, 3) := by decide +kernel
theorem d_Law_law_272 : decode c_Law_law 272 = .ok (.iconst 0, 1) := by decide +kernel
theorem d_Law_law_273 : decode c_Law_law 273 = .ok (.ireturn, 1) := by decide +kernel
theorem d_Law_law_274 : decode c_Law_law 274 = .ok (.iload 5, 2) := by decide +kernel
theorem d_Law_law_276 : decode c_Law_law 276 = .ok (.ifCond .ne 15, 3) := by decide +kernel
theorem d_Law_law_279 : decode c_Law_law 279 = .ok (.aload_n 3, 1) := by decide +kernel
theorem d_Law_law_280 : decode c_Law_law 280 = .ok (.iconst 0, 1) := by decide +kernel
theorem d_Law_law_281 : decode c_Law_law 281 = .ok (.laload, 1) := by decide +kernel
theorem d_Law_law_282 : decode c_Law_law 282 = .ok (.iload 6, 2) := by decide +kernel
theorem d_Law_law_284 : decode c_Law_law 284 = .ok (.i2l, 1) := by decide +kernel
theorem d_Law_law_285 : decode c_Law_law 285 = .ok (.lcmp, 1) := by decide +kernel
theorem d_Law_law_286 : decode c_Law_law 286 = .ok (.ifCond .eq 5, 3) := by decide +kernel
theorem d_Law_law_289 : decode c_Law_law 289 = .ok (.iconst 0, 1) := by decide +kernel
theorem d_Law_law_290 : decode c_Law_law 290 = .ok (.ireturn, 1) := by decide +kernel
theorem d_Law_law_291 : decode c_Law_law 291 = .ok (.goto 565, 3) := by decide +kernel
theorem d_Law_law_294 : decode c_Law_law 294 = .ok (.aload_n 1, 1) := by decide +kernel
theorem d_Law_law_295 : decode c_Law_law 295 = .ok (.aload_n 0, 1) := by decide +kernel
theorem d_Law_law_296 : decode c_Law_law 296 = .ok (.iload 4, 2) := by decide +kernel
theorem d_Law_law_298 : decode c_Law_law 298 = .ok (.iconst 1, 1) := by decide +kernel
theorem d_Law_law_299 : decode c_Law_law 299 = .ok (.iadd, 1) := by decide +kernel
theorem d_Law_law_300 : decode c_Law_law 300 = .ok (.iaload, 1) := by decide +kernel
theorem d_Law_law_301 : decode c_Law_law 301 = .ok (.invokevirtual 76, 3) := by decide +kernel
theorem d_Law_law_304 : decode c_Law_law 304 = .ok (.aload_n 2, 1) := by decide +kernel
theorem d_Law_law_305 : decode c_Law_law 305 = .ok (.aload_n 0, 1) := by decide +kernel
theorem d_Law_law_306 : decode c_Law_law 306 = .ok (.iload 4, 2) := by decide +kernel
theorem d_Law_law_308 : decode c_Law_law 308 = .ok (.iconst 1, 1) := by decide +kernel
theorem d_Law_law_309 : decode c_Law_law 309 = .ok (.iadd, 1) := by decide +kernel
theorem d_Law_law_310 : decode c_Law_law 310 = .ok (.iaload, 1) := by decide +kernel
theorem d_Law_law_311 : decode c_Law_law 311 = .ok (.invokevirtual 79, 3) := by decide +kernel
theorem d_Law_law_314 : decode c_Law_law 314 = .ok (.if_icmp .eq 542, 3) := by decide +kernel
theorem d_Law_law_317 : decode c_Law_law 317 = .ok (.iconst 0, 1) := by decide +kernel
theorem d_Law_law_318 : decode c_Law_law 318 = .ok (.ireturn, 1) := by decide +kernel
theorem d_Law_law_319 : decode c_Law_law 319 = .ok (.aload_n 1, 1) := by decide +kernel
theorem d_Law_law_320 : decode c_Law_law 320 = .ok (.aload_n 0, 1) := by decide +kernel
theorem d_Law_law_321 : decode c_Law_law 321 = .ok (.iload 4, 2) := by decide +kernel
theorem d_Law_law_323 : decode c_Law_law 323 = .ok (.iconst 1, 1) := by decide +kernel
theorem d_Law_law_324 : decode c_Law_law 324 = .ok (.iadd, 1) := by decide +kernel
theorem d_Law_law_325 : decode c_Law_law 325 = .ok (.iaload, 1) := by decide +kernel
theorem d_Law_law_326 : decode c_Law_law 326 = .ok (.aload_n 0, 1) := by decide +kernel
theorem d_Law_law_327 : decode c_Law_law 327 = .ok (.iload 4, 2) := by decide +kernel
theorem d_Law_law_329 : decode c_Law_law 329 = .ok (.iconst 2, 1) := by decide +kernel
theorem d_Law_law_330 : decode c_Law_law 330 = .ok (.iadd, 1) := by decide +kernel
theorem d_Law_law_331 : decode c_Law_law 331 = .ok (.iaload, 1) := by decide +kernel
theorem d_Law_law_332 : decode c_Law_law 332 = .ok (.aload_n 3, 1) := by decide +kernel
theorem d_Law_law_333 : decode c_Law_law 333 = .ok (.invokestatic 80, 3) := by decide +kernel
theorem d_Law_law_336 : decode c_Law_law 336 = .ok (.istore 5, 2) := by decide +kernel
theorem d_Law_law_338 : decode c_Law_law 338 = .ok (.aload_n 2, 1) := by decide +kernel
theorem d_Law_law_339 : decode c_Law_law 339 = .ok (.aload_n 0, 1) := by decide +kernel
theorem d_Law_law_340 : decode c_Law_law 340 = .ok (.iload 4, 2) := by decide +kernel
theorem d_Law_law_342 : decode c_Law_law 342 = .ok (.iconst 1, 1) := by decide +kernel
theorem d_Law_law_343 : decode c_Law_law 343 = .ok (.iadd, 1) := by decide +kernel
theorem d_Law_law_344 : decode c_Law_law 344 = .ok (.iaload, 1) := by decide +kernel
theorem d_Law_law_345 : decode c_Law_law 345 = .ok (.aload_n 0, 1) := by decide +kernel
theorem d_Law_law_346 : decode c_Law_law 346 = .ok (.iload 4, 2) := by decide +kernel
theorem d_Law_law_348 : decode c_Law_law 348 = .ok (.iconst 2, 1) := by decide +kernel
theorem d_Law_law_349 : decode c_Law_law 349 = .ok (.iadd, 1) := by decide +kernel
theorem d_Law_law_350 : decode c_Law_law 350 = .ok (.iaload, 1) := by decide +kernel
theorem d_Law_law_351 : decode c_Law_law 351 = .ok (.invokevirtual 83, 3) := by decide +kernel
theorem d_Law_law_354 : decode c_Law_law 354 = .ok (.istore 6, 2) := by decide +kernel
theorem d_Law_law_356 : decode c_Law_law 356 = .ok (.aload_n 2, 1) := by decide +kernel
theorem d_Law_law_357 : decode c_Law_law 357 = .ok (.invokevirtual 69, 3) := by decide +kernel
theorem d_Law_law_360 : decode c_Law_law 360 = .ok (.iload 5, 2) := by decide +kernel
theorem d_Law_law_362 : decode c_Law_law 362 = .ok (.if_icmp .eq 5, 3) := by decide +kernel
theorem d_Law_law_365 : decode c_Law_law 365 = .ok (.iconst 0, 1) := by decide +kernel
theorem d_Law_law_366 : decode c_Law_law 366 = .ok (.ireturn, 1) := by decide +kernel
theorem d_Law_law_367 : decode c_Law_law 367 = .ok (.iload 5, 2) := by decide +kernel
theorem d_Law_law_369 : decode c_Law_law 369 = .ok (.ifCond .ne 15, 3) := by decide +kernel
theorem d_Law_law_372 : decode c_Law_law 372 = .ok (.aload_n 3, 1) := by decide +kernel
theorem d_Law_law_373 : decode c_Law_law 373 = .ok (.iconst 0, 1) := by decide +kernel
theorem d_Law_law_374 : decode c_Law_law 374 = .ok (.laload, 1) := by decide +kernel
theorem d_Law_law_375 : decode c_Law_law 375 = .ok (.iload 6, 2) := by decide +kernel
theorem d_Law_law_377 : decode c_Law_law 377 = .ok (.i2l, 1) := by decide +kernel
theorem d_Law_law_378 : decode c_Law_law 378 = .ok (.lcmp, 1) := by decide +kernel
theorem d_Law_law_379 : decode c_Law_law 379 = .ok (.ifCond .eq 5, 3) := by decide +kernel
theorem d_Law_law_382 : decode c_Law_law 382 = .ok (.iconst 0, 1) := by decide +kernel
theorem d_Law_law_383 : decode c_Law_law 383 = .ok (.ireturn, 1) := by decide +kernel
theorem d_Law_law_384 : decode c_Law_law 384 = .ok (.goto 472, 3) := by decide +kernel
theorem d_Law_law_387 : decode c_Law_law 387 = .ok (.aload_n 1, 1) := by decide +kernel
theorem d_Law_law_388 : decode c_Law_law 388 = .ok (.aload_n 0, 1) := by decide +kernel
theorem d_Law_law_389 : decode c_Law_law 389 = .ok (.iload 4, 2) := by decide +kernel
theorem d_Law_law_391 : decode c_Law_law 391 = .ok (.iconst 1, 1) := by decide +kernel
theorem d_Law_law_392 : decode c_Law_law 392 = .ok (.iadd, 1) := by decide +kernel
theorem d_Law_law_393 : decode c_Law_law 393 = .ok (.iaload, 1) := by decide +kernel
theorem d_Law_law_394 : decode c_Law_law 394 = .ok (.aload_n 0, 1) := by decide +kernel
theorem d_Law_law_395 : decode c_Law_law 395 = .ok (.iload 4, 2) := by decide +kernel
theorem d_Law_law_397 : decode c_Law_law 397 = .ok (.iconst 2, 1) := by decide +kernel
theorem d_Law_law_398 : decode c_Law_law 398 = .ok (.iadd, 1) := by decide +kernel
theorem d_Law_law_399 : decode c_Law_law 399 = .ok (.iaload, 1) := by decide +kernel
theorem d_Law_law_400 : decode c_Law_law 400 = .ok (.aload_n 3, 1) := by decide +kernel
theorem d_Law_law_401 : decode c_Law_law 401 = .ok (.invokestatic 84, 3) := by decide +kernel
theorem d_Law_law_404 : decode c_Law_law 404 = .ok (.istore 5, 2) := by decide +kernel
theorem d_Law_law_406 : decode c_Law_law 406 = .ok (.aload_n 2, 1) := by decide +kernel
theorem d_Law_law_407 : decode c_Law_law 407 = .ok (.aload_n 0, 1) := by decide +kernel
theorem d_Law_law_408 : decode c_Law_law 408 = .ok (.iload 4, 2) := by decide +kernel
theorem d_Law_law_410 : decode c_Law_law 410 = .ok (.iconst 1, 1) := by decide +kernel
theorem d_Law_law_411 : decode c_Law_law 411 = .ok (.iadd, 1) := by decide +kernel
theorem d_Law_law_412 : decode c_Law_law 412 = .ok (.iaload, 1) := by decide +kernel
theorem d_Law_law_413 : decode c_Law_law 413 = .ok (.aload_n 0, 1) := by decide +kernel
theorem d_Law_law_414 : decode c_Law_law 414 = .ok (.iload 4, 2) := by decide +kernel
theorem d_Law_law_416 : decode c_Law_law 416 = .ok (.iconst 2, 1) := by decide +kernel
theorem d_Law_law_417 : decode c_Law_law 417 = .ok (.iadd, 1) := by decide +kernel
theorem d_Law_law_418 : decode c_Law_law 418 = .ok (.iaload, 1) := by decide +kernel
theorem d_Law_law_419 : decode c_Law_law 419 = .ok (.invokevirtual 86, 3) := by decide +kernel
theorem d_Law_law_422 : decode c_Law_law 422 = .ok (.istore 6, 2) := by decide +kernel
theorem d_Law_law_424 : decode c_Law_law 424 = .ok (.aload_n 2, 1) := by decide +kernel
theorem d_Law_law_425 : decode c_Law_law 425 = .ok (.invokevirtual 69, 3) := by decide +kernel
theorem d_Law_law_428 : decode c_Law_law 428 = .ok (.iload 5, 2) := by decide +kernel
theorem d_Law_law_430 : decode c_Law_law 430 = .ok (.if_icmp .eq 5, 3) := by decide +kernel
theorem d_Law_law_433 : decode c_Law_law 433 = .ok (.iconst 0, 1) := by decide +kernel
theorem d_Law_law_434 : decode c_Law_law 434 = .ok (.ireturn, 1) := by decide +kernel
theorem d_Law_law_435 : decode c_Law_law 435 = .ok (.iload 5, 2) := by decide +kernel
theorem d_Law_law_437 : decode c_Law_law 437 = .ok (.ifCond .ne 15, 3) := by decide +kernel
theorem d_Law_law_440 : decode c_Law_law 440 = .ok (.aload_n 3, 1) := by decide +kernel
theorem d_Law_law_441 : decode c_Law_law 441 = .ok (.iconst 0, 1) := by decide +kernel
theorem d_Law_law_442 : decode c_Law_law 442 = .ok (.laload, 1) := by decide +kernel
theorem d_Law_law_443 : decode c_Law_law 443 = .ok (.iload 6, 2) := by decide +kernel
theorem d_Law_law_445 : decode c_Law_law 445 = .ok (.i2l, 1) := by decide +kernel
theorem d_Law_law_446 : decode c_Law_law 446 = .ok (.lcmp, 1) := by decide +kernel
theorem d_Law_law_447 : decode c_Law_law 447 = .ok (.ifCond .eq 5, 3) := by decide +kernel
theorem d_Law_law_450 : decode c_Law_law 450 = .ok (.iconst 0, 1) := by decide +kernel
theorem d_Law_law_451 : decode c_Law_law 451 = .ok (.ireturn, 1) := by decide +kernel
theorem d_Law_law_452 : decode c_Law_law 452 = .ok (.goto 404, 3) := by decide +kernel
theorem d_Law_law_455 : decode c_Law_law 455 = .ok (.aload_n 1, 1) := by decide +kernel
theorem d_Law_law_456 : decode c_Law_law 456 = .ok (.aload_n 0, 1) := by decide +kernel
theorem d_Law_law_457 : decode c_Law_law 457 = .ok (.iload 4, 2) := by decide +kernel
theorem d_Law_law_459 : decode c_Law_law 459 = .ok (.iconst 1, 1) := by decide +kernel
theorem d_Law_law_460 : decode c_Law_law 460 = .ok (.iadd, 1) := by decide +kernel
theorem d_Law_law_461 : decode c_Law_law 461 = .ok (.iaload, 1) := by decide +kernel
theorem d_Law_law_462 : decode c_Law_law 462 = .ok (.aload_n 0, 1) := by decide +kernel
theorem d_Law_law_463 : decode c_Law_law 463 = .ok (.iload 4, 2) := by decide +kernel
theorem d_Law_law_465 : decode c_Law_law 465 = .ok (.iconst 2, 1) := by decide +kernel
theorem d_Law_law_466 : decode c_Law_law 466 = .ok (.iadd, 1) := by decide +kernel
theorem d_Law_law_467 : decode c_Law_law 467 = .ok (.iaload, 1) := by decide +kernel
theorem d_Law_law_468 : decode c_Law_law 468 = .ok (.aload_n 0, 1) := by decide +kernel
theorem d_Law_law_469 : decode c_Law_law 469 = .ok (.iload 4, 2) := by decide +kernel
theorem d_Law_law_471 : decode c_Law_law 471 = .ok (.iconst 3, 1) := by decide +kernel
theorem d_Law_law_472 : decode c_Law_law 472 = .ok (.iadd, 1) := by decide +kernel
theorem d_Law_law_473 : decode c_Law_law 473 = .ok (.iaload, 1) := by decide +kernel
theorem d_Law_law_474 : decode c_Law_law 474 = .ok (.aload_n 3, 1) := by decide +kernel
theorem d_Law_law_475 : decode c_Law_law 475 = .ok (.invokestatic 87, 3) := by decide +kernel
theorem d_Law_law_478 : decode c_Law_law 478 = .ok (.istore 5, 2) := by decide +kernel
theorem d_Law_law_480 : decode c_Law_law 480 = .ok (.aload_n 2, 1) := by decide +kernel
theorem d_Law_law_481 : decode c_Law_law 481 = .ok (.aload_n 0, 1) := by decide +kernel
theorem d_Law_law_482 : decode c_Law_law 482 = .ok (.iload 4, 2) := by decide +kernel
theorem d_Law_law_484 : decode c_Law_law 484 = .ok (.iconst 1, 1) := by decide +kernel
theorem d_Law_law_485 : decode c_Law_law 485 = .ok (.iadd, 1) := by decide +kernel
theorem d_Law_law_486 : decode c_Law_law 486 = .ok (.iaload, 1) := by decide +kernel
theorem d_Law_law_487 : decode c_Law_law 487 = .ok (.aload_n 0, 1) := by decide +kernel
theorem d_Law_law_488 : decode c_Law_law 488 = .ok (.iload 4, 2) := by decide +kernel
theorem d_Law_law_490 : decode c_Law_law 490 = .ok (.iconst 2, 1) := by decide +kernel
theorem d_Law_law_491 : decode c_Law_law 491 = .ok (.iadd, 1) := by decide +kernel
theorem d_Law_law_492 : decode c_Law_law 492 = .ok (.iaload, 1) := by decide +kernel
theorem d_Law_law_493 : decode c_Law_law 493 = .ok (.aload_n 0, 1) := by decide +kernel
theorem d_Law_law_494 : decode c_Law_law 494 = .ok (.iload 4, 2) := by decide +kernel
theorem d_Law_law_496 : decode c_Law_law 496 = .ok (.iconst 3, 1) := by decide +kernel
theorem d_Law_law_497 : decode c_Law_law 497 = .ok (.iadd, 1) := by decide +kernel
theorem d_Law_law_498 : decode c_Law_law 498 = .ok (.iaload, 1) := by decide +kernel
theorem d_Law_law_499 : decode c_Law_law 499 = .ok (.invokevirtual 90, 3) := by decide +kernel
theorem d_Law_law_502 : decode c_Law_law 502 = .ok (.istore 6, 2) := by decide +kernel
theorem d_Law_law_504 : decode c_Law_law 504 = .ok (.aload_n 2, 1) := by decide +kernel
theorem d_Law_law_505 : decode c_Law_law 505 = .ok (.invokevirtual 69, 3) := by decide +kernel
theorem d_Law_law_508 : decode c_Law_law 508 = .ok (.iload 5, 2) := by decide +kernel
theorem d_Law_law_510 : decode c_Law_law 510 = .ok (.if_icmp .eq 5, 3) := by decide +kernel
theorem d_Law_law_513 : decode c_Law_law 513 = .ok (.iconst 0, 1) := by decide +kernel
theorem d_Law_law_514 : decode c_Law_law 514 = .ok (.ireturn, 1) := by decide +kernel
theorem d_Law_law_515 : decode c_Law_law 515 = .ok (.iload 5, 2) := by decide +kernel
theorem d_Law_law_517 : decode c_Law_law 517 = .ok (.ifCond .ne 15, 3) := by decide +kernel
theorem d_Law_law_520 : decode c_Law_law 520 = .ok (.aload_n 3, 1) := by decide +kernel
theorem d_Law_law_521 : decode c_Law_law 521 = .ok (.iconst 0, 1) := by decide +kernel
theorem d_Law_law_522 : decode c_Law_law 522 = .ok (.laload, 1) := by decide +kernel
theorem d_Law_law_523 : decode c_Law_law 523 = .ok (.iload 6, 2) := by decide +kernel
theorem d_Law_law_525 : decode c_Law_law 525 = .ok (.i2l, 1) := by decide +kernel
theorem d_Law_law_526 : decode c_Law_law 526 = .ok (.lcmp, 1) := by decide +kernel
theorem d_Law_law_527 : decode c_Law_law 527 = .ok (.ifCond .eq 5, 3) := by decide +kernel
theorem d_Law_law_530 : decode c_Law_law 530 = .ok (.iconst 0, 1) := by decide +kernel
theorem d_Law_law_531 : decode c_Law_law 531 = .ok (.ireturn, 1) := by decide +kernel
theorem d_Law_law_532 : decode c_Law_law 532 = .ok (.goto 324, 3) := by decide +kernel
theorem d_Law_law_535 : decode c_Law_law 535 = .ok (.aload_n 1, 1) := by decide +kernel
theorem d_Law_law_536 : decode c_Law_law 536 = .ok (.aload_n 0, 1) := by decide +kernel
theorem d_Law_law_537 : decode c_Law_law 537 = .ok (.iload 4, 2) := by decide +kernel
theorem d_Law_law_539 : decode c_Law_law 539 = .ok (.iconst 1, 1) := by decide +kernel
theorem d_Law_law_540 : decode c_Law_law 540 = .ok (.iadd, 1) := by decide +kernel
theorem d_Law_law_541 : decode c_Law_law 541 = .ok (.iaload, 1) := by decide +kernel
theorem d_Law_law_542 : decode c_Law_law 542 = .ok (.aload_n 0, 1) := by decide +kernel
theorem d_Law_law_543 : decode c_Law_law 543 = .ok (.iload 4, 2) := by decide +kernel
theorem d_Law_law_545 : decode c_Law_law 545 = .ok (.iconst 2, 1) := by decide +kernel
theorem d_Law_law_546 : decode c_Law_law 546 = .ok (.iadd, 1) := by decide +kernel
theorem d_Law_law_547 : decode c_Law_law 547 = .ok (.iaload, 1) := by decide +kernel
theorem d_Law_law_548 : decode c_Law_law 548 = .ok (.aload_n 0, 1) := by decide +kernel
theorem d_Law_law_549 : decode c_Law_law 549 = .ok (.iload 4, 2) := by decide +kernel
theorem d_Law_law_551 : decode c_Law_law 551 = .ok (.iconst 3, 1) := by decide +kernel
theorem d_Law_law_552 : decode c_Law_law 552 = .ok (.iadd, 1) := by decide +kernel
theorem d_Law_law_553 : decode c_Law_law 553 = .ok (.iaload, 1) := by decide +kernel
theorem d_Law_law_554 : decode c_Law_law 554 = .ok (.aload_n 0, 1) := by decide +kernel
theorem d_Law_law_555 : decode c_Law_law 555 = .ok (.iload 4, 2) := by decide +kernel
theorem d_Law_law_557 : decode c_Law_law 557 = .ok (.iconst 4, 1) := by decide +kernel
theorem d_Law_law_558 : decode c_Law_law 558 = .ok (.iadd, 1) := by decide +kernel
theorem d_Law_law_559 : decode c_Law_law 559 = .ok (.iaload, 1) := by decide +kernel
theorem d_Law_law_560 : decode c_Law_law 560 = .ok (.aload_n 3, 1) := by decide +kernel
theorem d_Law_law_561 : decode c_Law_law 561 = .ok (.invokestatic 91, 3) := by decide +kernel
theorem d_Law_law_564 : decode c_Law_law 564 = .ok (.istore 5, 2) := by decide +kernel
theorem d_Law_law_566 : decode c_Law_law 566 = .ok (.aload_n 2, 1) := by decide +kernel
theorem d_Law_law_567 : decode c_Law_law 567 = .ok (.aload_n 0, 1) := by decide +kernel
theorem d_Law_law_568 : decode c_Law_law 568 = .ok (.iload 4, 2) := by decide +kernel
theorem d_Law_law_570 : decode c_Law_law 570 = .ok (.iconst 1, 1) := by decide +kernel
theorem d_Law_law_571 : decode c_Law_law 571 = .ok (.iadd, 1) := by decide +kernel
theorem d_Law_law_572 : decode c_Law_law 572 = .ok (.iaload, 1) := by decide +kernel
theorem d_Law_law_573 : decode c_Law_law 573 = .ok (.aload_n 0, 1) := by decide +kernel
theorem d_Law_law_574 : decode c_Law_law 574 = .ok (.iload 4, 2) := by decide +kernel
theorem d_Law_law_576 : decode c_Law_law 576 = .ok (.iconst 2, 1) := by decide +kernel
theorem d_Law_law_577 : decode c_Law_law 577 = .ok (.iadd, 1) := by decide +kernel
theorem d_Law_law_578 : decode c_Law_law 578 = .ok (.iaload, 1) := by decide +kernel
theorem d_Law_law_579 : decode c_Law_law 579 = .ok (.aload_n 0, 1) := by decide +kernel
theorem d_Law_law_580 : decode c_Law_law 580 = .ok (.iload 4, 2) := by decide +kernel
theorem d_Law_law_582 : decode c_Law_law 582 = .ok (.iconst 3, 1) := by decide +kernel
theorem d_Law_law_583 : decode c_Law_law 583 = .ok (.iadd, 1) := by decide +kernel
theorem d_Law_law_584 : decode c_Law_law 584 = .ok (.iaload, 1) := by decide +kernel
theorem d_Law_law_585 : decode c_Law_law 585 = .ok (.aload_n 0, 1) := by decide +kernel
theorem d_Law_law_586 : decode c_Law_law 586 = .ok (.iload 4, 2) := by decide +kernel
theorem d_Law_law_588 : decode c_Law_law 588 = .ok (.iconst 4, 1) := by decide +kernel
theorem d_Law_law_589 : decode c_Law_law 589 = .ok (.iadd, 1) := by decide +kernel
theorem d_Law_law_590 : decode c_Law_law 590 = .ok (.iaload, 1) := by decide +kernel
theorem d_Law_law_591 : decode c_Law_law 591 = .ok (.invokevirtual 94, 3) := by decide +kernel
theorem d_Law_law_594 : decode c_Law_law 594 = .ok (.istore 6, 2) := by decide +kernel
theorem d_Law_law_596 : decode c_Law_law 596 = .ok (.aload_n 2, 1) := by decide +kernel
theorem d_Law_law_597 : decode c_Law_law 597 = .ok (.invokevirtual 69, 3) := by decide +kernel
theorem d_Law_law_600 : decode c_Law_law 600 = .ok (.iload 5, 2) := by decide +kernel
theorem d_Law_law_602 : decode c_Law_law 602 = .ok (.if_icmp .eq 5, 3) := by decide +kernel
theorem d_Law_law_605 : decode c_Law_law 605 = .ok (.iconst 0, 1) := by decide +kernel
theorem d_Law_law_606 : decode c_Law_law 606 = .ok (.ireturn, 1) := by decide +kernel
theorem d_Law_law_607 : decode c_Law_law 607 = .ok (.iload 5, 2) := by decide +kernel
theorem d_Law_law_609 : decode c_Law_law 609 = .ok (.ifCond .ne 15, 3) := by decide +kernel
theorem d_Law_law_612 : decode c_Law_law 612 = .ok (.aload_n 3, 1) := by decide +kernel
theorem d_Law_law_613 : decode c_Law_law 613 = .ok (.iconst 0, 1) := by decide +kernel
theorem d_Law_law_614 : decode c_Law_law 614 = .ok (.laload, 1) := by decide +kernel
theorem d_Law_law_615 : decode c_Law_law 615 = .ok (.iload 6, 2) := by decide +kernel
theorem d_Law_law_617 : decode c_Law_law 617 = .ok (.i2l, 1) := by decide +kernel
theorem d_Law_law_618 : decode c_Law_law 618 = .ok (.lcmp, 1) := by decide +kernel
theorem d_Law_law_619 : decode c_Law_law 619 = .ok (.ifCond .eq 5, 3) := by decide +kernel
theorem d_Law_law_622 : decode c_Law_law 622 = .ok (.iconst 0, 1) := by decide +kernel
theorem d_Law_law_623 : decode c_Law_law 623 = .ok (.ireturn, 1) := by decide +kernel
theorem d_Law_law_624 : decode c_Law_law 624 = .ok (.goto 232, 3) := by decide +kernel
theorem d_Law_law_627 : decode c_Law_law 627 = .ok (.aload_n 1, 1) := by decide +kernel
theorem d_Law_law_628 : decode c_Law_law 628 = .ok (.aload_n 0, 1) := by decide +kernel
theorem d_Law_law_629 : decode c_Law_law 629 = .ok (.iload 4, 2) := by decide +kernel
theorem d_Law_law_631 : decode c_Law_law 631 = .ok (.iconst 1, 1) := by decide +kernel
theorem d_Law_law_632 : decode c_Law_law 632 = .ok (.iadd, 1) := by decide +kernel
theorem d_Law_law_633 : decode c_Law_law 633 = .ok (.iaload, 1) := by decide +kernel
theorem d_Law_law_634 : decode c_Law_law 634 = .ok (.aload_n 0, 1) := by decide +kernel
theorem d_Law_law_635 : decode c_Law_law 635 = .ok (.iload 4, 2) := by decide +kernel
theorem d_Law_law_637 : decode c_Law_law 637 = .ok (.iconst 2, 1) := by decide +kernel
theorem d_Law_law_638 : decode c_Law_law 638 = .ok (.iadd, 1) := by decide +kernel
theorem d_Law_law_639 : decode c_Law_law 639 = .ok (.iaload, 1) := by decide +kernel
theorem d_Law_law_640 : decode c_Law_law 640 = .ok (.aload_n 0, 1) := by decide +kernel
theorem d_Law_law_641 : decode c_Law_law 641 = .ok (.iload 4, 2) := by decide +kernel
theorem d_Law_law_643 : decode c_Law_law 643 = .ok (.iconst 3, 1) := by decide +kernel
theorem d_Law_law_644 : decode c_Law_law 644 = .ok (.iadd, 1) := by decide +kernel
theorem d_Law_law_645 : decode c_Law_law 645 = .ok (.iaload, 1) := by decide +kernel
theorem d_Law_law_646 : decode c_Law_law 646 = .ok (.aload_n 0, 1) := by decide +kernel
theorem d_Law_law_647 : decode c_Law_law 647 = .ok (.iload 4, 2) := by decide +kernel
theorem d_Law_law_649 : decode c_Law_law 649 = .ok (.iconst 4, 1) := by decide +kernel
theorem d_Law_law_650 : decode c_Law_law 650 = .ok (.iadd, 1) := by decide +kernel
theorem d_Law_law_651 : decode c_Law_law 651 = .ok (.iaload, 1) := by decide +kernel
theorem d_Law_law_652 : decode c_Law_law 652 = .ok (.aload_n 0, 1) := by decide +kernel
theorem d_Law_law_653 : decode c_Law_law 653 = .ok (.iload 4, 2) := by decide +kernel
theorem d_Law_law_655 : decode c_Law_law 655 = .ok (.iconst 5, 1) := by decide +kernel
theorem d_Law_law_656 : decode c_Law_law 656 = .ok (.iadd, 1) := by decide +kernel
theorem d_Law_law_657 : decode c_Law_law 657 = .ok (.iaload, 1) := by decide +kernel
theorem d_Law_law_658 : decode c_Law_law 658 = .ok (.aload_n 3, 1) := by decide +kernel
theorem d_Law_law_659 : decode c_Law_law 659 = .ok (.invokestatic 95, 3) := by decide +kernel
theorem d_Law_law_662 : decode c_Law_law 662 = .ok (.istore 5, 2) := by decide +kernel
theorem d_Law_law_664 : decode c_Law_law 664 = .ok (.aload_n 2, 1) := by decide +kernel
theorem d_Law_law_665 : decode c_Law_law 665 = .ok (.aload_n 0, 1) := by decide +kernel
theorem d_Law_law_666 : decode c_Law_law 666 = .ok (.iload 4, 2) := by decide +kernel
theorem d_Law_law_668 : decode c_Law_law 668 = .ok (.iconst 1, 1) := by decide +kernel
theorem d_Law_law_669 : decode c_Law_law 669 = .ok (.iadd, 1) := by decide +kernel
theorem d_Law_law_670 : decode c_Law_law 670 = .ok (.iaload, 1) := by decide +kernel
theorem d_Law_law_671 : decode c_Law_law 671 = .ok (.aload_n 0, 1) := by decide +kernel
theorem d_Law_law_672 : decode c_Law_law 672 = .ok (.iload 4, 2) := by decide +kernel
theorem d_Law_law_674 : decode c_Law_law 674 = .ok (.iconst 2, 1) := by decide +kernel
theorem d_Law_law_675 : decode c_Law_law 675 = .ok (.iadd, 1) := by decide +kernel
theorem d_Law_law_676 : decode c_Law_law 676 = .ok (.iaload, 1) := by decide +kernel
theorem d_Law_law_677 : decode c_Law_law 677 = .ok (.aload_n 0, 1) := by decide +kernel
theorem d_Law_law_678 : decode c_Law_law 678 = .ok (.iload 4, 2) := by decide +kernel
theorem d_Law_law_680 : decode c_Law_law 680 = .ok (.iconst 3, 1) := by decide +kernel
theorem d_Law_law_681 : decode c_Law_law 681 = .ok (.iadd, 1) := by decide +kernel
theorem d_Law_law_682 : decode c_Law_law 682 = .ok (.iaload, 1) := by decide +kernel
theorem d_Law_law_683 : decode c_Law_law 683 = .ok (.aload_n 0, 1) := by decide +kernel
theorem d_Law_law_684 : decode c_Law_law 684 = .ok (.iload 4, 2) := by decide +kernel
theorem d_Law_law_686 : decode c_Law_law 686 = .ok (.iconst 4, 1) := by decide +kernel
theorem d_Law_law_687 : decode c_Law_law 687 = .ok (.iadd, 1) := by decide +kernel
theorem d_Law_law_688 : decode c_Law_law 688 = .ok (.iaload, 1) := by decide +kernel
theorem d_Law_law_689 : decode c_Law_law 689 = .ok (.aload_n 0, 1) := by decide +kernel
theorem d_Law_law_690 : decode c_Law_law 690 = .ok (.iload 4, 2) := by decide +kernel
theorem d_Law_law_692 : decode c_Law_law 692 = .ok (.iconst 5, 1) := by decide +kernel
theorem d_Law_law_693 : decode c_Law_law 693 = .ok (.iadd, 1) := by decide +kernel
theorem d_Law_law_694 : decode c_Law_law 694 = .ok (.iaload, 1) := by decide +kernel
theorem d_Law_law_695 : decode c_Law_law 695 = .ok (.invokevirtual 97, 3) := by decide +kernel
theorem d_Law_law_698 : decode c_Law_law 698 = .ok (.istore 6, 2) := by decide +kernel
theorem d_Law_law_700 : decode c_Law_law 700 = .ok (.aload_n 2, 1) := by decide +kernel
theorem d_Law_law_701 : decode c_Law_law 701 = .ok (.invokevirtual 69, 3) := by decide +kernel
theorem d_Law_law_704 : decode c_Law_law 704 = .ok (.iload 5, 2) := by decide +kernel
theorem d_Law_law_706 : decode c_Law_law 706 = .ok (.if_icmp .eq 5, 3) := by decide +kernel
theorem d_Law_law_709 : decode c_Law_law 709 = .ok (.iconst 0, 1) := by decide +kernel
theorem d_Law_law_710 : decode c_Law_law 710 = .ok (.ireturn, 1) := by decide +kernel
theorem d_Law_law_711 : decode c_Law_law 711 = .ok (.iload 5, 2) := by decide +kernel
theorem d_Law_law_713 : decode c_Law_law 713 = .ok (.ifCond .ne 15, 3) := by decide +kernel
theorem d_Law_law_716 : decode c_Law_law 716 = .ok (.aload_n 3, 1) := by decide +kernel
theorem d_Law_law_717 : decode c_Law_law 717 = .ok (.iconst 0, 1) := by decide +kernel
theorem d_Law_law_718 : decode c_Law_law 718 = .ok (.laload, 1) := by decide +kernel
theorem d_Law_law_719 : decode c_Law_law 719 = .ok (.iload 6, 2) := by decide +kernel
theorem d_Law_law_721 : decode c_Law_law 721 = .ok (.i2l, 1) := by decide +kernel
theorem d_Law_law_722 : decode c_Law_law 722 = .ok (.lcmp, 1) := by decide +kernel
theorem d_Law_law_723 : decode c_Law_law 723 = .ok (.ifCond .eq 5, 3) := by decide +kernel
theorem d_Law_law_726 : decode c_Law_law 726 = .ok (.iconst 0, 1) := by decide +kernel
theorem d_Law_law_727 : decode c_Law_law 727 = .ok (.ireturn, 1) := by decide +kernel
theorem d_Law_law_728 : decode c_Law_law 728 = .ok (.goto 128, 3) := by decide +kernel
theorem d_Law_law_731 : decode c_Law_law 731 = .ok (.aload_n 1, 1) := by decide +kernel
theorem d_Law_law_732 : decode c_Law_law 732 = .ok (.aload_n 3, 1) := by decide +kernel
theorem d_Law_law_733 : decode c_Law_law 733 = .ok (.invokestatic 98, 3) := by decide +kernel
theorem d_Law_law_736 : decode c_Law_law 736 = .ok (.istore 5, 2) := by decide +kernel
theorem d_Law_law_738 : decode c_Law_law 738 = .ok (.aload_n 2, 1) := by decide +kernel
theorem d_Law_law_739 : decode c_Law_law 739 = .ok (.invokevirtual 100, 3) := by decide +kernel
theorem d_Law_law_742 : decode c_Law_law 742 = .ok (.istore 6, 2) := by decide +kernel
theorem d_Law_law_744 : decode c_Law_law 744 = .ok (.aload_n 2, 1) := by decide +kernel
theorem d_Law_law_745 : decode c_Law_law 745 = .ok (.invokevirtual 69, 3) := by decide +kernel
theorem d_Law_law_748 : decode c_Law_law 748 = .ok (.iload 5, 2) := by decide +kernel
theorem d_Law_law_750 : decode c_Law_law 750 = .ok (.if_icmp .eq 5, 3) := by decide +kernel
theorem d_Law_law_753 : decode c_Law_law 753 = .ok (.iconst 0, 1) := by decide +kernel
theorem d_Law_law_754 : decode c_Law_law 754 = .ok (.ireturn, 1) := by decide +kernel
theorem d_Law_law_755 : decode c_Law_law 755 = .ok (.iload 5, 2) := by decide +kernel
theorem d_Law_law_757 : decode c_Law_law 757 = .ok (.ifCond .ne 15, 3) := by decide +kernel
theorem d_Law_law_760 : decode c_Law_law 760 = .ok (.aload_n 3, 1) := by decide +kernel
theorem d_Law_law_761 : decode c_Law_law 761 = .ok (.iconst 0, 1) := by decide +kernel
theorem d_Law_law_762 : decode c_Law_law 762 = .ok (.laload, 1) := by decide +kernel
theorem d_Law_law_763 : decode c_Law_law 763 = .ok (.iload 6, 2) := by decide +kernel
theorem d_Law_law_765 : decode c_Law_law 765 = .ok (.i2l, 1) := by decide +kernel
theorem d_Law_law_766 : decode c_Law_law 766 = .ok (.lcmp, 1) := by decide +kernel
theorem d_Law_law_767 : decode c_Law_law 767 = .ok (.ifCond .eq 5, 3) := by decide +kernel
theorem d_Law_law_770 : decode c_Law_law 770 = .ok (.iconst 0, 1) := by decide +kernel
theorem d_Law_law_771 : decode c_Law_law 771 = .ok (.ireturn, 1) := by decide +kernel
theorem d_Law_law_772 : decode c_Law_law 772 = .ok (.goto 84, 3) := by decide +kernel
theorem d_Law_law_775 : decode c_Law_law 775 = .ok (.aload_n 1, 1) := by decide +kernel
theorem d_Law_law_776 : decode c_Law_law 776 = .ok (.aload_n 0, 1) := by decide +kernel
theorem d_Law_law_777 : decode c_Law_law 777 = .ok (.iload 4, 2) := by decide +kernel
theorem d_Law_law_779 : decode c_Law_law 779 = .ok (.iconst 1, 1) := by decide +kernel
theorem d_Law_law_780 : decode c_Law_law 780 = .ok (.iadd, 1) := by decide +kernel
theorem d_Law_law_781 : decode c_Law_law 781 = .ok (.iaload, 1) := by decide +kernel
theorem d_Law_law_782 : decode c_Law_law 782 = .ok (.aload_n 3, 1) := by decide +kernel
theorem d_Law_law_783 : decode c_Law_law 783 = .ok (.invokestatic 101, 3) := by decide +kernel
theorem d_Law_law_786 : decode c_Law_law 786 = .ok (.istore 5, 2) := by decide +kernel
theorem d_Law_law_788 : decode c_Law_law 788 = .ok (.aload_n 2, 1) := by decide +kernel
theorem d_Law_law_789 : decode c_Law_law 789 = .ok (.aload_n 0, 1) := by decide +kernel
theorem d_Law_law_790 : decode c_Law_law 790 = .ok (.iload 4, 2) := by decide +kernel
theorem d_Law_law_792 : decode c_Law_law 792 = .ok (.iconst 1, 1) := by decide +kernel
theorem d_Law_law_793 : decode c_Law_law 793 = .ok (.iadd, 1) := by decide +kernel
theorem d_Law_law_794 : decode c_Law_law 794 = .ok (.iaload, 1) := by decide +kernel
theorem d_Law_law_795 : decode c_Law_law 795 = .ok (.invokevirtual 104, 3) := by decide +kernel
theorem d_Law_law_798 : decode c_Law_law 798 = .ok (.istore 6, 2) := by decide +kernel
theorem d_Law_law_800 : decode c_Law_law 800 = .ok (.aload_n 2, 1) := by decide +kernel
theorem d_Law_law_801 : decode c_Law_law 801 = .ok (.invokevirtual 69, 3) := by decide +kernel
theorem d_Law_law_804 : decode c_Law_law 804 = .ok (.iload 5, 2) := by decide +kernel
theorem d_Law_law_806 : decode c_Law_law 806 = .ok (.if_icmp .eq 5, 3) := by decide +kernel
theorem d_Law_law_809 : decode c_Law_law 809 = .ok (.iconst 0, 1) := by decide +kernel
theorem d_Law_law_810 : decode c_Law_law 810 = .ok (.ireturn, 1) := by decide +kernel
theorem d_Law_law_811 : decode c_Law_law 811 = .ok (.iload 5, 2) := by decide +kernel
theorem d_Law_law_813 : decode c_Law_law 813 = .ok (.ifCond .ne 15, 3) := by decide +kernel
theorem d_Law_law_816 : decode c_Law_law 816 = .ok (.aload_n 3, 1) := by decide +kernel
theorem d_Law_law_817 : decode c_Law_law 817 = .ok (.iconst 0, 1) := by decide +kernel
theorem d_Law_law_818 : decode c_Law_law 818 = .ok (.laload, 1) := by decide +kernel
theorem d_Law_law_819 : decode c_Law_law 819 = .ok (.iload 6, 2) := by decide +kernel
theorem d_Law_law_821 : decode c_Law_law 821 = .ok (.i2l, 1) := by decide +kernel
theorem d_Law_law_822 : decode c_Law_law 822 = .ok (.lcmp, 1) := by decide +kernel
theorem d_Law_law_823 : decode c_Law_law 823 = .ok (.ifCond .eq 5, 3) := by decide +kernel
theorem d_Law_law_826 : decode c_Law_law 826 = .ok (.iconst 0, 1) := by decide +kernel
theorem d_Law_law_827 : decode c_Law_law 827 = .ok (.ireturn, 1) := by decide +kernel
theorem d_Law_law_828 : decode c_Law_law 828 = .ok (.goto 28, 3) := by decide +kernel
theorem d_Law_law_831 : decode c_Law_law 831 = .ok (.aload_n 1, 1) := by decide +kernel
theorem d_Law_law_832 : decode c_Law_law 832 = .ok (.aload_n 0, 1) := by decide +kernel
theorem d_Law_law_833 : decode c_Law_law 833 = .ok (.iload 4, 2) := by decide +kernel
theorem d_Law_law_835 : decode c_Law_law 835 = .ok (.iconst 1, 1) := by decide +kernel
theorem d_Law_law_836 : decode c_Law_law 836 = .ok (.iadd, 1) := by decide +kernel
theorem d_Law_law_837 : decode c_Law_law 837 = .ok (.iaload, 1) := by decide +kernel
theorem d_Law_law_838 : decode c_Law_law 838 = .ok (.invokevirtual 105, 3) := by decide +kernel
theorem d_Law_law_841 : decode c_Law_law 841 = .ok (.aload_n 2, 1) := by decide +kernel
theorem d_Law_law_842 : decode c_Law_law 842 = .ok (.aload_n 0, 1) := by decide +kernel
theorem d_Law_law_843 : decode c_Law_law 843 = .ok (.iload 4, 2) := by decide +kernel
theorem d_Law_law_845 : decode c_Law_law 845 = .ok (.iconst 1, 1) := by decide +kernel
theorem d_Law_law_846 : decode c_Law_law 846 = .ok (.iadd, 1) := by decide +kernel
theorem d_Law_law_847 : decode c_Law_law 847 = .ok (.iaload, 1) := by decide +kernel
theorem d_Law_law_848 : decode c_Law_law 848 = .ok (.invokevirtual 108, 3) := by decide +kernel
theorem d_Law_law_851 : decode c_Law_law 851 = .ok (.if_icmp .eq 5, 3) := by decide +kernel
theorem d_Law_law_854 : decode c_Law_law 854 = .ok (.iconst 0, 1) := by decide +kernel
theorem d_Law_law_855 : decode c_Law_law 855 = .ok (.ireturn, 1) := by decide +kernel
theorem d_Law_law_856 : decode c_Law_law 856 = .ok (.iinc 4 6, 3) := by decide +kernel
theorem d_Law_law_859 : decode c_Law_law 859 = .ok (.goto (-836), 3) := by decide +kernel
theorem d_Law_law_862 : decode c_Law_law 862 = .ok (.iconst 1, 1) := by decide +kernel
theorem d_Law_law_863 : decode c_Law_law 863 = .ok (.ireturn, 1) := by decide +kernel
