theorem d_L_law_445 : decode c_L_law 445 = .ok (.ireturn, 1) := by decide +kernel
theorem d_L_law_446 : decode c_L_law 446 = .ok (.goto 726, 3) := by decide +kernel
theorem d_L_law_449 : decode c_L_law 449 = .ok (.aload_n 1, 1) := by decide +kernel
theorem d_L_law_450 : decode c_L_law 450 = .ok (.aload_n 0, 1) := by decide +kernel
theorem d_L_law_451 : decode c_L_law 451 = .ok (.iload 5, 2) := by decide +kernel
theorem d_L_law_453 : decode c_L_law 453 = .ok (.iconst 1, 1) := by decide +kernel
theorem d_L_law_454 : decode c_L_law 454 = .ok (.iadd, 1) := by decide +kernel
theorem d_L_law_455 : decode c_L_law 455 = .ok (.iaload, 1) := by decide +kernel
theorem d_L_law_456 : decode c_L_law 456 = .ok (.i2d, 1) := by decide +kernel
theorem d_L_law_457 : decode c_L_law 457 = .ok (.ldc2_w 96, 3) := by decide +kernel
theorem d_L_law_460 : decode c_L_law 460 = .ok (.dmul, 1) := by decide +kernel
theorem d_L_law_461 : decode c_L_law 461 = .ok (.aload_n 0, 1) := by decide +kernel
theorem d_L_law_462 : decode c_L_law 462 = .ok (.iload 5, 2) := by decide +kernel
theorem d_L_law_464 : decode c_L_law 464 = .ok (.iconst 2, 1) := by decide +kernel
theorem d_L_law_465 : decode c_L_law 465 = .ok (.iadd, 1) := by decide +kernel
theorem d_L_law_466 : decode c_L_law 466 = .ok (.iaload, 1) := by decide +kernel
theorem d_L_law_467 : decode c_L_law 467 = .ok (.aload_n 3, 1) := by decide +kernel
theorem d_L_law_468 : decode c_L_law 468 = .ok (.invokestatic 98, 3) := by decide +kernel
theorem d_L_law_471 : decode c_L_law 471 = .ok (.istore 6, 2) := by decide +kernel
theorem d_L_law_473 : decode c_L_law 473 = .ok (.aload_n 2, 1) := by decide +kernel
theorem d_L_law_474 : decode c_L_law 474 = .ok (.aload_n 0, 1) := by decide +kernel
theorem d_L_law_475 : decode c_L_law 475 = .ok (.iload 5, 2) := by decide +kernel
theorem d_L_law_477 : decode c_L_law 477 = .ok (.iconst 1, 1) := by decide +kernel
theorem d_L_law_478 : decode c_L_law 478 = .ok (.iadd, 1) := by decide +kernel
theorem d_L_law_479 : decode c_L_law 479 = .ok (.iaload, 1) := by decide +kernel
theorem d_L_law_480 : decode c_L_law 480 = .ok (.i2d, 1) := by decide +kernel
theorem d_L_law_481 : decode c_L_law 481 = .ok (.ldc2_w 96, 3) := by decide +kernel
theorem d_L_law_484 : decode c_L_law 484 = .ok (.dmul, 1) := by decide +kernel
theorem d_L_law_485 : decode c_L_law 485 = .ok (.aload_n 0, 1) := by decide +kernel
theorem d_L_law_486 : decode c_L_law 486 = .ok (.iload 5, 2) := by decide +kernel
theorem d_L_law_488 : decode c_L_law 488 = .ok (.iconst 2, 1) := by decide +kernel
theorem d_L_law_489 : decode c_L_law 489 = .ok (.iadd, 1) := by decide +kernel
theorem d_L_law_490 : decode c_L_law 490 = .ok (.iaload, 1) := by decide +kernel
theorem d_L_law_491 : decode c_L_law 491 = .ok (.invokevirtual 101, 3) := by decide +kernel
theorem d_L_law_494 : decode c_L_law 494 = .ok (.istore 7, 2) := by decide +kernel
theorem d_L_law_496 : decode c_L_law 496 = .ok (.aload_n 2, 1) := by decide +kernel
theorem d_L_law_497 : decode c_L_law 497 = .ok (.invokevirtual 80, 3) := by decide +kernel
theorem d_L_law_500 : decode c_L_law 500 = .ok (.iload 6, 2) := by decide +kernel
theorem d_L_law_502 : decode c_L_law 502 = .ok (.if_icmp .eq 5, 3) := by decide +kernel
theorem d_L_law_505 : decode c_L_law 505 = .ok (.iconst 0, 1) := by decide +kernel
theorem d_L_law_506 : decode c_L_law 506 = .ok (.ireturn, 1) := by decide +kernel
theorem d_L_law_507 : decode c_L_law 507 = .ok (.iload 6, 2) := by decide +kernel
theorem d_L_law_509 : decode c_L_law 509 = .ok (.ifCond .ne 15, 3) := by decide +kernel
theorem d_L_law_512 : decode c_L_law 512 = .ok (.aload_n 3, 1) := by decide +kernel
theorem d_L_law_513 : decode c_L_law 513 = .ok (.iconst 0, 1) := by decide +kernel
theorem d_L_law_514 : decode c_L_law 514 = .ok (.laload, 1) := by decide +kernel
theorem d_L_law_515 : decode c_L_law 515 = .ok (.iload 7, 2) := by decide +kernel
theorem d_L_law_517 : decode c_L_law 517 = .ok (.i2l, 1) := by decide +kernel
theorem d_L_law_518 : decode c_L_law 518 = .ok (.lcmp, 1) := by decide +kernel
theorem d_L_law_519 : decode c_L_law 519 = .ok (.ifCond .eq 5, 3) := by decide +kernel
theorem d_L_law_522 : decode c_L_law 522 = .ok (.iconst 0, 1) := by decide +kernel
theorem d_L_law_523 : decode c_L_law 523 = .ok (.ireturn, 1) := by decide +kernel
theorem d_L_law_524 : decode c_L_law 524 = .ok (.goto 648, 3) := by decide +kernel
theorem d_L_law_527 : decode c_L_law 527 = .ok (.aload_n 1, 1) := by decide +kernel
theorem d_L_law_528 : decode c_L_law 528 = .ok (.aload_n 0, 1) := by decide +kernel
theorem d_L_law_529 : decode c_L_law 529 = .ok (.iload 5, 2) := by decide +kernel
theorem d_L_law_531 : decode c_L_law 531 = .ok (.iconst 1, 1) := by decide +kernel
theorem d_L_law_532 : decode c_L_law 532 = .ok (.iadd, 1) := by decide +kernel
theorem d_L_law_533 : decode c_L_law 533 = .ok (.iaload, 1) := by decide +kernel
theorem d_L_law_534 : decode c_L_law 534 = .ok (.aload_n 0, 1) := by decide +kernel
theorem d_L_law_535 : decode c_L_law 535 = .ok (.iload 5, 2) := by decide +kernel
theorem d_L_law_537 : decode c_L_law 537 = .ok (.iconst 2, 1) := by decide +kernel
theorem d_L_law_538 : decode c_L_law 538 = .ok (.iadd, 1) := by decide +kernel
theorem d_L_law_539 : decode c_L_law 539 = .ok (.iaload, 1) := by decide +kernel
theorem d_L_law_540 : decode c_L_law 540 = .ok (.aload_n 3, 1) := by decide +kernel
theorem d_L_law_541 : decode c_L_law 541 = .ok (.invokestatic 102, 3) := by decide +kernel
theorem d_L_law_544 : decode c_L_law 544 = .ok (.istore 6, 2) := by decide +kernel
theorem d_L_law_546 : decode c_L_law 546 = .ok (.aload_n 2, 1) := by decide +kernel
theorem d_L_law_547 : decode c_L_law 547 = .ok (.aload_n 0, 1) := by decide +kernel
theorem d_L_law_548 : decode c_L_law 548 = .ok (.iload 5, 2) := by decide +kernel
theorem d_L_law_550 : decode c_L_law 550 = .ok (.iconst 1, 1) := by decide +kernel
theorem d_L_law_551 : decode c_L_law 551 = .ok (.iadd, 1) := by decide +kernel
theorem d_L_law_552 : decode c_L_law 552 = .ok (.iaload, 1) := by decide +kernel
theorem d_L_law_553 : decode c_L_law 553 = .ok (.aload_n 0, 1) := by decide +kernel
theorem d_L_law_554 : decode c_L_law 554 = .ok (.iload 5, 2) := by decide +kernel
theorem d_L_law_556 : decode c_L_law 556 = .ok (.iconst 2, 1) := by decide +kernel
theorem d_L_law_557 : decode c_L_law 557 = .ok (.iadd, 1) := by decide +kernel
theorem d_L_law_558 : decode c_L_law 558 = .ok (.iaload, 1) := by decide +kernel
theorem d_L_law_559 : decode c_L_law 559 = .ok (.invokevirtual 105, 3) := by decide +kernel
theorem d_L_law_562 : decode c_L_law 562 = .ok (.istore 7, 2) := by decide +kernel
theorem d_L_law_564 : decode c_L_law 564 = .ok (.aload_n 2, 1) := by decide +kernel
theorem d_L_law_565 : decode c_L_law 565 = .ok (.invokevirtual 80, 3) := by decide +kernel
theorem d_L_law_568 : decode c_L_law 568 = .ok (.iload 6, 2) := by decide +kernel
theorem d_L_law_570 : decode c_L_law 570 = .ok (.if_icmp .eq 5, 3) := by decide +kernel
theorem d_L_law_573 : decode c_L_law 573 = .ok (.iconst 0, 1) := by decide +kernel
theorem d_L_law_574 : decode c_L_law 574 = .ok (.ireturn, 1) := by decide +kernel
theorem d_L_law_575 : decode c_L_law 575 = .ok (.iload 6, 2) := by decide +kernel
theorem d_L_law_577 : decode c_L_law 577 = .ok (.ifCond .ne 15, 3) := by decide +kernel
theorem d_L_law_580 : decode c_L_law 580 = .ok (.aload_n 3, 1) := by decide +kernel
theorem d_L_law_581 : decode c_L_law 581 = .ok (.iconst 0, 1) := by decide +kernel
theorem d_L_law_582 : decode c_L_law 582 = .ok (.laload, 1) := by decide +kernel
theorem d_L_law_583 : decode c_L_law 583 = .ok (.iload 7, 2) := by decide +kernel
theorem d_L_law_585 : decode c_L_law 585 = .ok (.i2l, 1) := by decide +kernel
theorem d_L_law_586 : decode c_L_law 586 = .ok (.lcmp, 1) := by decide +kernel
theorem d_L_law_587 : decode c_L_law 587 = .ok (.ifCond .eq 5, 3) := by decide +kernel
theorem d_L_law_590 : decode c_L_law 590 = .ok (.iconst 0, 1) := by decide +kernel
theorem d_L_law_591 : decode c_L_law 591 = .ok (.ireturn, 1) := by decide +kernel
theorem d_L_law_592 : decode c_L_law 592 = .ok (.goto 580, 3) := by decide +kernel
theorem d_L_law_595 : decode c_L_law 595 = .ok (.aload_n 1, 1) := by decide +kernel
theorem d_L_law_596 : decode c_L_law 596 = .ok (.aload_n 0, 1) := by decide +kernel
theorem d_L_law_597 : decode c_L_law 597 = .ok (.iload 5, 2) := by decide +kernel
theorem d_L_law_599 : decode c_L_law 599 = .ok (.iconst 1, 1) := by decide +kernel
theorem d_L_law_600 : decode c_L_law 600 = .ok (.iadd, 1) := by decide +kernel
theorem d_L_law_601 : decode c_L_law 601 = .ok (.iaload, 1) := by decide +kernel
theorem d_L_law_602 : decode c_L_law 602 = .ok (.aload_n 3, 1) := by decide +kernel
theorem d_L_law_603 : decode c_L_law 603 = .ok (.invokestatic 106, 3) := by decide +kernel
theorem d_L_law_606 : decode c_L_law 606 = .ok (.istore 6, 2) := by decide +kernel
theorem d_L_law_608 : decode c_L_law 608 = .ok (.aload_n 2, 1) := by decide +kernel
theorem d_L_law_609 : decode c_L_law 609 = .ok (.aload_n 0, 1) := by decide +kernel
theorem d_L_law_610 : decode c_L_law 610 = .ok (.iload 5, 2) := by decide +kernel
theorem d_L_law_612 : decode c_L_law 612 = .ok (.iconst 1, 1) := by decide +kernel
theorem d_L_law_613 : decode c_L_law 613 = .ok (.iadd, 1) := by decide +kernel
theorem d_L_law_614 : decode c_L_law 614 = .ok (.iaload, 1) := by decide +kernel
theorem d_L_law_615 : decode c_L_law 615 = .ok (.invokevirtual 109, 3) := by decide +kernel
theorem d_L_law_618 : decode c_L_law 618 = .ok (.istore 7, 2) := by decide +kernel
theorem d_L_law_620 : decode c_L_law 620 = .ok (.aload_n 2, 1) := by decide +kernel
theorem d_L_law_621 : decode c_L_law 621 = .ok (.invokevirtual 80, 3) := by decide +kernel
theorem d_L_law_624 : decode c_L_law 624 = .ok (.iload 6, 2) := by decide +kernel
theorem d_L_law_626 : decode c_L_law 626 = .ok (.if_icmp .eq 5, 3) := by decide +kernel
theorem d_L_law_629 : decode c_L_law 629 = .ok (.iconst 0, 1) := by decide +kernel
