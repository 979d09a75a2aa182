/-! the law: decode rows (printed by gen/law.py) -/
theorem d_La_law_364 : decode code 364 = .ok (.iaload, 1) := by decide +kernel
theorem d_La_law_365 : decode code 365 = .ok (.invokevirtual 31, 3) := by decide +kernel
theorem d_La_law_368 : decode code 368 = .ok (.aload_n 2, 1) := by decide +kernel
theorem d_La_law_369 : decode code 369 = .ok (.aload_n 0, 1) := by decide +kernel
theorem d_La_law_370 : decode code 370 = .ok (.iload_n 3, 1) := by decide +kernel
theorem d_La_law_371 : decode code 371 = .ok (.iconst 1, 1) := by decide +kernel
theorem d_La_law_372 : decode code 372 = .ok (.iadd, 1) := by decide +kernel
theorem d_La_law_373 : decode code 373 = .ok (.iaload, 1) := by decide +kernel
theorem d_La_law_374 : decode code 374 = .ok (.aload_n 0, 1) := by decide +kernel
theorem d_La_law_375 : decode code 375 = .ok (.iload_n 3, 1) := by decide +kernel
theorem d_La_law_376 : decode code 376 = .ok (.iconst 2, 1) := by decide +kernel
theorem d_La_law_377 : decode code 377 = .ok (.iadd, 1) := by decide +kernel
theorem d_La_law_378 : decode code 378 = .ok (.iaload, 1) := by decide +kernel
theorem d_La_law_379 : decode code 379 = .ok (.invokevirtual 34, 3) := by decide +kernel
theorem d_La_law_382 : decode code 382 = .ok (.if_icmp .eq 904, 3) := by decide +kernel
theorem d_La_law_385 : decode code 385 = .ok (.iconst 0, 1) := by decide +kernel
theorem d_La_law_386 : decode code 386 = .ok (.ireturn, 1) := by decide +kernel
theorem d_La_law_387 : decode code 387 = .ok (.aload_n 1, 1) := by decide +kernel
theorem d_La_law_388 : decode code 388 = .ok (.aload_n 0, 1) := by decide +kernel
theorem d_La_law_389 : decode code 389 = .ok (.iload_n 3, 1) := by decide +kernel
theorem d_La_law_390 : decode code 390 = .ok (.iconst 1, 1) := by decide +kernel
theorem d_La_law_391 : decode code 391 = .ok (.iadd, 1) := by decide +kernel
theorem d_La_law_392 : decode code 392 = .ok (.iaload, 1) := by decide +kernel
theorem d_La_law_393 : decode code 393 = .ok (.invokevirtual 35, 3) := by decide +kernel
theorem d_La_law_396 : decode code 396 = .ok (.aload_n 2, 1) := by decide +kernel
theorem d_La_law_397 : decode code 397 = .ok (.aload_n 0, 1) := by decide +kernel
theorem d_La_law_398 : decode code 398 = .ok (.iload_n 3, 1) := by decide +kernel
theorem d_La_law_399 : decode code 399 = .ok (.iconst 1, 1) := by decide +kernel
theorem d_La_law_400 : decode code 400 = .ok (.iadd, 1) := by decide +kernel
theorem d_La_law_401 : decode code 401 = .ok (.iaload, 1) := by decide +kernel
theorem d_La_law_402 : decode code 402 = .ok (.invokevirtual 39, 3) := by decide +kernel
theorem d_La_law_405 : decode code 405 = .ok (.if_icmp .eq 881, 3) := by decide +kernel
theorem d_La_law_408 : decode code 408 = .ok (.iconst 0, 1) := by decide +kernel
theorem d_La_law_409 : decode code 409 = .ok (.ireturn, 1) := by decide +kernel
theorem d_La_law_410 : decode code 410 = .ok (.aload_n 1, 1) := by decide +kernel
theorem d_La_law_411 : decode code 411 = .ok (.aload_n 0, 1) := by decide +kernel
theorem d_La_law_412 : decode code 412 = .ok (.iload_n 3, 1) := by decide +kernel
theorem d_La_law_413 : decode code 413 = .ok (.iconst 1, 1) := by decide +kernel
theorem d_La_law_414 : decode code 414 = .ok (.iadd, 1) := by decide +kernel
theorem d_La_law_415 : decode code 415 = .ok (.iaload, 1) := by decide +kernel
theorem d_La_law_416 : decode code 416 = .ok (.aload_n 0, 1) := by decide +kernel
theorem d_La_law_417 : decode code 417 = .ok (.iload_n 3, 1) := by decide +kernel
theorem d_La_law_418 : decode code 418 = .ok (.iconst 2, 1) := by decide +kernel
theorem d_La_law_419 : decode code 419 = .ok (.iadd, 1) := by decide +kernel
theorem d_La_law_420 : decode code 420 = .ok (.iaload, 1) := by decide +kernel
theorem d_La_law_421 : decode code 421 = .ok (.invokevirtual 40, 3) := by decide +kernel
theorem d_La_law_424 : decode code 424 = .ok (.aload_n 2, 1) := by decide +kernel
theorem d_La_law_425 : decode code 425 = .ok (.aload_n 0, 1) := by decide +kernel
theorem d_La_law_426 : decode code 426 = .ok (.iload_n 3, 1) := by decide +kernel
theorem d_La_law_427 : decode code 427 = .ok (.iconst 1, 1) := by decide +kernel
theorem d_La_law_428 : decode code 428 = .ok (.iadd, 1) := by decide +kernel
theorem d_La_law_429 : decode code 429 = .ok (.iaload, 1) := by decide +kernel
theorem d_La_law_430 : decode code 430 = .ok (.aload_n 0, 1) := by decide +kernel
theorem d_La_law_431 : decode code 431 = .ok (.iload_n 3, 1) := by decide +kernel
theorem d_La_law_432 : decode code 432 = .ok (.iconst 2, 1) := by decide +kernel
theorem d_La_law_433 : decode code 433 = .ok (.iadd, 1) := by decide +kernel
theorem d_La_law_434 : decode code 434 = .ok (.iaload, 1) := by decide +kernel
theorem d_La_law_435 : decode code 435 = .ok (.invokevirtual 43, 3) := by decide +kernel
theorem d_La_law_438 : decode code 438 = .ok (.if_icmp .eq 848, 3) := by decide +kernel
theorem d_La_law_441 : decode code 441 = .ok (.iconst 0, 1) := by decide +kernel
theorem d_La_law_442 : decode code 442 = .ok (.ireturn, 1) := by decide +kernel
theorem d_La_law_443 : decode code 443 = .ok (.aload_n 1, 1) := by decide +kernel
theorem d_La_law_444 : decode code 444 = .ok (.aload_n 0, 1) := by decide +kernel
theorem d_La_law_445 : decode code 445 = .ok (.iload_n 3, 1) := by decide +kernel
theorem d_La_law_446 : decode code 446 = .ok (.iconst 1, 1) := by decide +kernel
theorem d_La_law_447 : decode code 447 = .ok (.iadd, 1) := by decide +kernel
theorem d_La_law_448 : decode code 448 = .ok (.iaload, 1) := by decide +kernel
theorem d_La_law_449 : decode code 449 = .ok (.aload_n 0, 1) := by decide +kernel
theorem d_La_law_450 : decode code 450 = .ok (.iload_n 3, 1) := by decide +kernel
theorem d_La_law_451 : decode code 451 = .ok (.iconst 2, 1) := by decide +kernel
theorem d_La_law_452 : decode code 452 = .ok (.iadd, 1) := by decide +kernel
theorem d_La_law_453 : decode code 453 = .ok (.iaload, 1) := by decide +kernel
theorem d_La_law_454 : decode code 454 = .ok (.aload_n 0, 1) := by decide +kernel
theorem d_La_law_455 : decode code 455 = .ok (.iload_n 3, 1) := by decide +kernel
theorem d_La_law_456 : decode code 456 = .ok (.iconst 3, 1) := by decide +kernel
theorem d_La_law_457 : decode code 457 = .ok (.iadd, 1) := by decide +kernel
theorem d_La_law_458 : decode code 458 = .ok (.iaload, 1) := by decide +kernel
theorem d_La_law_459 : decode code 459 = .ok (.aload_n 0, 1) := by decide +kernel
theorem d_La_law_460 : decode code 460 = .ok (.iload_n 3, 1) := by decide +kernel
theorem d_La_law_461 : decode code 461 = .ok (.iconst 4, 1) := by decide +kernel
theorem d_La_law_462 : decode code 462 = .ok (.iadd, 1) := by decide +kernel
theorem d_La_law_463 : decode code 463 = .ok (.iaload, 1) := by decide +kernel
theorem d_La_law_464 : decode code 464 = .ok (.aload_n 0, 1) := by decide +kernel
theorem d_La_law_465 : decode code 465 = .ok (.iload_n 3, 1) := by decide +kernel
theorem d_La_law_466 : decode code 466 = .ok (.iconst 5, 1) := by decide +kernel
theorem d_La_law_467 : decode code 467 = .ok (.iadd, 1) := by decide +kernel
theorem d_La_law_468 : decode code 468 = .ok (.iaload, 1) := by decide +kernel
theorem d_La_law_469 : decode code 469 = .ok (.invokevirtual 44, 3) := by decide +kernel
theorem d_La_law_472 : decode code 472 = .ok (.aload_n 2, 1) := by decide +kernel
theorem d_La_law_473 : decode code 473 = .ok (.aload_n 0, 1) := by decide +kernel
theorem d_La_law_474 : decode code 474 = .ok (.iload_n 3, 1) := by decide +kernel
theorem d_La_law_475 : decode code 475 = .ok (.iconst 1, 1) := by decide +kernel
theorem d_La_law_476 : decode code 476 = .ok (.iadd, 1) := by decide +kernel
theorem d_La_law_477 : decode code 477 = .ok (.iaload, 1) := by decide +kernel
theorem d_La_law_478 : decode code 478 = .ok (.aload_n 0, 1) := by decide +kernel
theorem d_La_law_479 : decode code 479 = .ok (.iload_n 3, 1) := by decide +kernel
theorem d_La_law_480 : decode code 480 = .ok (.iconst 2, 1) := by decide +kernel
theorem d_La_law_481 : decode code 481 = .ok (.iadd, 1) := by decide +kernel
theorem d_La_law_482 : decode code 482 = .ok (.iaload, 1) := by decide +kernel
theorem d_La_law_483 : decode code 483 = .ok (.aload_n 0, 1) := by decide +kernel
theorem d_La_law_484 : decode code 484 = .ok (.iload_n 3, 1) := by decide +kernel
theorem d_La_law_485 : decode code 485 = .ok (.iconst 3, 1) := by decide +kernel
theorem d_La_law_486 : decode code 486 = .ok (.iadd, 1) := by decide +kernel
theorem d_La_law_487 : decode code 487 = .ok (.iaload, 1) := by decide +kernel
theorem d_La_law_488 : decode code 488 = .ok (.aload_n 0, 1) := by decide +kernel
theorem d_La_law_489 : decode code 489 = .ok (.iload_n 3, 1) := by decide +kernel
theorem d_La_law_490 : decode code 490 = .ok (.iconst 4, 1) := by decide +kernel
theorem d_La_law_491 : decode code 491 = .ok (.iadd, 1) := by decide +kernel
theorem d_La_law_492 : decode code 492 = .ok (.iaload, 1) := by decide +kernel
theorem d_La_law_493 : decode code 493 = .ok (.aload_n 0, 1) := by decide +kernel
theorem d_La_law_494 : decode code 494 = .ok (.iload_n 3, 1) := by decide +kernel
theorem d_La_law_495 : decode code 495 = .ok (.iconst 5, 1) := by decide +kernel
theorem d_La_law_496 : decode code 496 = .ok (.iadd, 1) := by decide +kernel
theorem d_La_law_497 : decode code 497 = .ok (.iaload, 1) := by decide +kernel
theorem d_La_law_498 : decode code 498 = .ok (.invokevirtual 48, 3) := by decide +kernel
theorem d_La_law_501 : decode code 501 = .ok (.if_icmp .eq 785, 3) := by decide +kernel
theorem d_La_law_504 : decode code 504 = .ok (.iconst 0, 1) := by decide +kernel
theorem d_La_law_505 : decode code 505 = .ok (.ireturn, 1) := by decide +kernel
theorem d_La_law_506 : decode code 506 = .ok (.aload_n 1, 1) := by decide +kernel
theorem d_La_law_507 : decode code 507 = .ok (.aload_n 0, 1) := by decide +kernel
theorem d_La_law_508 : decode code 508 = .ok (.iload_n 3, 1) := by decide +kernel
theorem d_La_law_509 : decode code 509 = .ok (.iconst 1, 1) := by decide +kernel
theorem d_La_law_510 : decode code 510 = .ok (.iadd, 1) := by decide +kernel
theorem d_La_law_511 : decode code 511 = .ok (.iaload, 1) := by decide +kernel
theorem d_La_law_512 : decode code 512 = .ok (.invokevirtual 49, 3) := by decide +kernel
theorem d_La_law_515 : decode code 515 = .ok (.aload_n 2, 1) := by decide +kernel
theorem d_La_law_516 : decode code 516 = .ok (.aload_n 0, 1) := by decide +kernel
theorem d_La_law_517 : decode code 517 = .ok (.iload_n 3, 1) := by decide +kernel
theorem d_La_law_518 : decode code 518 = .ok (.iconst 1, 1) := by decide +kernel
theorem d_La_law_519 : decode code 519 = .ok (.iadd, 1) := by decide +kernel
theorem d_La_law_520 : decode code 520 = .ok (.iaload, 1) := by decide +kernel
theorem d_La_law_521 : decode code 521 = .ok (.invokevirtual 52, 3) := by decide +kernel
theorem d_La_law_524 : decode code 524 = .ok (.if_icmp .eq 762, 3) := by decide +kernel
theorem d_La_law_527 : decode code 527 = .ok (.iconst 0, 1) := by decide +kernel
theorem d_La_law_528 : decode code 528 = .ok (.ireturn, 1) := by decide +kernel
theorem d_La_law_529 : decode code 529 = .ok (.aload_n 1, 1) := by decide +kernel
theorem d_La_law_530 : decode code 530 = .ok (.invokevirtual 53, 3) := by decide +kernel
theorem d_La_law_533 : decode code 533 = .ok (.aload_n 2, 1) := by decide +kernel
theorem d_La_law_534 : decode code 534 = .ok (.invokevirtual 57, 3) := by decide +kernel
theorem d_La_law_537 : decode code 537 = .ok (.if_icmp .eq 749, 3) := by decide +kernel
theorem d_La_law_540 : decode code 540 = .ok (.iconst 0, 1) := by decide +kernel
theorem d_La_law_541 : decode code 541 = .ok (.ireturn, 1) := by decide +kernel
theorem d_La_law_542 : decode code 542 = .ok (.aload_n 1, 1) := by decide +kernel
theorem d_La_law_543 : decode code 543 = .ok (.invokevirtual 58, 3) := by decide +kernel
theorem d_La_law_546 : decode code 546 = .ok (.aload_n 2, 1) := by decide +kernel
theorem d_La_law_547 : decode code 547 = .ok (.invokevirtual 61, 3) := by decide +kernel
theorem d_La_law_550 : decode code 550 = .ok (.if_icmp .eq 736, 3) := by decide +kernel
theorem d_La_law_553 : decode code 553 = .ok (.iconst 0, 1) := by decide +kernel
theorem d_La_law_554 : decode code 554 = .ok (.ireturn, 1) := by decide +kernel
theorem d_La_law_555 : decode code 555 = .ok (.aload_n 1, 1) := by decide +kernel
