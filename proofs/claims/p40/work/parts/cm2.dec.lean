/-! The law, decoded, 2 -/
theorem dL_law_378 : decode code 378 = .ok (.dup, 1) := by decide +kernel
theorem dL_law_379 : decode code 379 = .ok (.iconst 1, 1) := by decide +kernel
theorem dL_law_380 : decode code 380 = .ok (.sipush 1003, 3) := by decide +kernel
theorem dL_law_383 : decode code 383 = .ok (.iastore, 1) := by decide +kernel
theorem dL_law_384 : decode code 384 = .ok (.dup, 1) := by decide +kernel
theorem dL_law_385 : decode code 385 = .ok (.iconst 2, 1) := by decide +kernel
theorem dL_law_386 : decode code 386 = .ok (.iconst 0, 1) := by decide +kernel
theorem dL_law_387 : decode code 387 = .ok (.iastore, 1) := by decide +kernel
theorem dL_law_388 : decode code 388 = .ok (.astore 7, 2) := by decide +kernel
theorem dL_law_390 : decode code 390 = .ok (.iconst 3, 1) := by decide +kernel
theorem dL_law_391 : decode code 391 = .ok (.newarray .int, 2) := by decide +kernel
theorem dL_law_393 : decode code 393 = .ok (.dup, 1) := by decide +kernel
theorem dL_law_394 : decode code 394 = .ok (.iconst 0, 1) := by decide +kernel
theorem dL_law_395 : decode code 395 = .ok (.sipush 2001, 3) := by decide +kernel
theorem dL_law_398 : decode code 398 = .ok (.iastore, 1) := by decide +kernel
theorem dL_law_399 : decode code 399 = .ok (.dup, 1) := by decide +kernel
theorem dL_law_400 : decode code 400 = .ok (.iconst 1, 1) := by decide +kernel
theorem dL_law_401 : decode code 401 = .ok (.sipush 1004, 3) := by decide +kernel
theorem dL_law_404 : decode code 404 = .ok (.iastore, 1) := by decide +kernel
theorem dL_law_405 : decode code 405 = .ok (.dup, 1) := by decide +kernel
theorem dL_law_406 : decode code 406 = .ok (.iconst 2, 1) := by decide +kernel
theorem dL_law_407 : decode code 407 = .ok (.iconst 0, 1) := by decide +kernel
theorem dL_law_408 : decode code 408 = .ok (.iastore, 1) := by decide +kernel
theorem dL_law_409 : decode code 409 = .ok (.astore 8, 2) := by decide +kernel
theorem dL_law_411 : decode code 411 = .ok (.aload_n 1, 1) := by decide +kernel
theorem dL_law_412 : decode code 412 = .ok (.iconst 5, 1) := by decide +kernel
theorem dL_law_413 : decode code 413 = .ok (.iconst 0, 1) := by decide +kernel
theorem dL_law_414 : decode code 414 = .ok (.invokevirtual 50, 3) := by decide +kernel
theorem dL_law_417 : decode code 417 = .ok (.aload 7, 2) := by decide +kernel
theorem dL_law_419 : decode code 419 = .ok (.iload_n 2, 1) := by decide +kernel
theorem dL_law_420 : decode code 420 = .ok (.iaload, 1) := by decide +kernel
theorem dL_law_421 : decode code 421 = .ok (.if_icmp .ne 75, 3) := by decide +kernel
theorem dL_law_424 : decode code 424 = .ok (.aload_n 1, 1) := by decide +kernel
theorem dL_law_425 : decode code 425 = .ok (.iconst 5, 1) := by decide +kernel
theorem dL_law_426 : decode code 426 = .ok (.iconst 1, 1) := by decide +kernel
theorem dL_law_427 : decode code 427 = .ok (.invokevirtual 50, 3) := by decide +kernel
theorem dL_law_430 : decode code 430 = .ok (.sipush 1004, 3) := by decide +kernel
theorem dL_law_433 : decode code 433 = .ok (.if_icmp .ne 63, 3) := by decide +kernel
theorem dL_law_436 : decode code 436 = .ok (.aload_n 1, 1) := by decide +kernel
theorem dL_law_437 : decode code 437 = .ok (.bipush 6, 2) := by decide +kernel
theorem dL_law_439 : decode code 439 = .ok (.iconst 0, 1) := by decide +kernel
theorem dL_law_440 : decode code 440 = .ok (.invokevirtual 50, 3) := by decide +kernel
theorem dL_law_443 : decode code 443 = .ok (.sipush 2001, 3) := by decide +kernel
theorem dL_law_446 : decode code 446 = .ok (.if_icmp .ne 50, 3) := by decide +kernel
theorem dL_law_449 : decode code 449 = .ok (.aload_n 1, 1) := by decide +kernel
theorem dL_law_450 : decode code 450 = .ok (.bipush 6, 2) := by decide +kernel
theorem dL_law_452 : decode code 452 = .ok (.iconst 1, 1) := by decide +kernel
theorem dL_law_453 : decode code 453 = .ok (.invokevirtual 50, 3) := by decide +kernel
theorem dL_law_456 : decode code 456 = .ok (.aload 8, 2) := by decide +kernel
theorem dL_law_458 : decode code 458 = .ok (.iload_n 3, 1) := by decide +kernel
theorem dL_law_459 : decode code 459 = .ok (.iaload, 1) := by decide +kernel
theorem dL_law_460 : decode code 460 = .ok (.if_icmp .ne 36, 3) := by decide +kernel
theorem dL_law_463 : decode code 463 = .ok (.aload_n 1, 1) := by decide +kernel
theorem dL_law_464 : decode code 464 = .ok (.iconst 5, 1) := by decide +kernel
theorem dL_law_465 : decode code 465 = .ok (.iconst 3, 1) := by decide +kernel
theorem dL_law_466 : decode code 466 = .ok (.invokevirtual 50, 3) := by decide +kernel
theorem dL_law_469 : decode code 469 = .ok (.sipush 2000, 3) := by decide +kernel
theorem dL_law_472 : decode code 472 = .ok (.if_icmp .ne 24, 3) := by decide +kernel
theorem dL_law_475 : decode code 475 = .ok (.aload_n 1, 1) := by decide +kernel
theorem dL_law_476 : decode code 476 = .ok (.iconst 2, 1) := by decide +kernel
theorem dL_law_477 : decode code 477 = .ok (.iconst 3, 1) := by decide +kernel
theorem dL_law_478 : decode code 478 = .ok (.invokevirtual 50, 3) := by decide +kernel
theorem dL_law_481 : decode code 481 = .ok (.sipush 3000, 3) := by decide +kernel
theorem dL_law_484 : decode code 484 = .ok (.if_icmp .ne 12, 3) := by decide +kernel
theorem dL_law_487 : decode code 487 = .ok (.aload_n 1, 1) := by decide +kernel
theorem dL_law_488 : decode code 488 = .ok (.iconst 1, 1) := by decide +kernel
theorem dL_law_489 : decode code 489 = .ok (.iconst 2, 1) := by decide +kernel
theorem dL_law_490 : decode code 490 = .ok (.invokevirtual 50, 3) := by decide +kernel
theorem dL_law_493 : decode code 493 = .ok (.ifCond .eq 5, 3) := by decide +kernel
theorem dL_law_496 : decode code 496 = .ok (.iconst 0, 1) := by decide +kernel
theorem dL_law_497 : decode code 497 = .ok (.ireturn, 1) := by decide +kernel
theorem dL_law_498 : decode code 498 = .ok (.aload_n 1, 1) := by decide +kernel
theorem dL_law_499 : decode code 499 = .ok (.iconst 2, 1) := by decide +kernel
theorem dL_law_500 : decode code 500 = .ok (.invokevirtual 96, 3) := by decide +kernel
theorem dL_law_503 : decode code 503 = .ok (.ifCond .ne 213, 3) := by decide +kernel
theorem dL_law_506 : decode code 506 = .ok (.aload_n 1, 1) := by decide +kernel
theorem dL_law_507 : decode code 507 = .ok (.iconst 0, 1) := by decide +kernel
theorem dL_law_508 : decode code 508 = .ok (.invokevirtual 96, 3) := by decide +kernel
theorem dL_law_511 : decode code 511 = .ok (.iconst 1, 1) := by decide +kernel
theorem dL_law_512 : decode code 512 = .ok (.if_icmp .ne 204, 3) := by decide +kernel
theorem dL_law_515 : decode code 515 = .ok (.aload_n 1, 1) := by decide +kernel
theorem dL_law_516 : decode code 516 = .ok (.iconst 2, 1) := by decide +kernel
theorem dL_law_517 : decode code 517 = .ok (.invokevirtual 96, 3) := by decide +kernel
theorem dL_law_520 : decode code 520 = .ok (.ifCond .ne 196, 3) := by decide +kernel
theorem dL_law_523 : decode code 523 = .ok (.aload_n 1, 1) := by decide +kernel
theorem dL_law_524 : decode code 524 = .ok (.bipush 9, 2) := by decide +kernel
theorem dL_law_526 : decode code 526 = .ok (.invokevirtual 44, 3) := by decide +kernel
theorem dL_law_529 : decode code 529 = .ok (.iconst 4, 1) := by decide +kernel
theorem dL_law_530 : decode code 530 = .ok (.if_icmp .ne 186, 3) := by decide +kernel
theorem dL_law_533 : decode code 533 = .ok (.aload_n 1, 1) := by decide +kernel
theorem dL_law_534 : decode code 534 = .ok (.invokevirtual 99, 3) := by decide +kernel
theorem dL_law_537 : decode code 537 = .ok (.iconst 4, 1) := by decide +kernel
theorem dL_law_538 : decode code 538 = .ok (.if_icmp .ne 178, 3) := by decide +kernel
theorem dL_law_541 : decode code 541 = .ok (.aload_n 1, 1) := by decide +kernel
theorem dL_law_542 : decode code 542 = .ok (.iconst 0, 1) := by decide +kernel
theorem dL_law_543 : decode code 543 = .ok (.invokevirtual 96, 3) := by decide +kernel
theorem dL_law_546 : decode code 546 = .ok (.iload_n 2, 1) := by decide +kernel
theorem dL_law_547 : decode code 547 = .ok (.ifCond .ne 7, 3) := by decide +kernel
theorem dL_law_550 : decode code 550 = .ok (.iconst 2, 1) := by decide +kernel
theorem dL_law_551 : decode code 551 = .ok (.goto 14, 3) := by decide +kernel
