theorem dl_505 : decode code 505 = .ok (.aload_n 2, 1) := by decide +kernel
theorem dl_506 : decode code 506 = .ok (.aload_n 0, 1) := by decide +kernel
theorem dl_507 : decode code 507 = .ok (.iload_n 3, 1) := by decide +kernel
theorem dl_508 : decode code 508 = .ok (.iconst 1, 1) := by decide +kernel
theorem dl_509 : decode code 509 = .ok (.iadd, 1) := by decide +kernel
theorem dl_510 : decode code 510 = .ok (.iaload, 1) := by decide +kernel
theorem dl_511 : decode code 511 = .ok (.aload_n 0, 1) := by decide +kernel
theorem dl_512 : decode code 512 = .ok (.iload_n 3, 1) := by decide +kernel
theorem dl_513 : decode code 513 = .ok (.iconst 2, 1) := by decide +kernel
theorem dl_514 : decode code 514 = .ok (.iadd, 1) := by decide +kernel
theorem dl_515 : decode code 515 = .ok (.iaload, 1) := by decide +kernel
theorem dl_516 : decode code 516 = .ok (.invokevirtual 67, 3) := by decide +kernel
theorem dl_519 : decode code 519 = .ok (.if_icmp .eq 471, 3) := by decide +kernel
theorem dl_522 : decode code 522 = .ok (.iconst 0, 1) := by decide +kernel
theorem dl_523 : decode code 523 = .ok (.ireturn, 1) := by decide +kernel
theorem dl_524 : decode code 524 = .ok (.aload_n 1, 1) := by decide +kernel
theorem dl_525 : decode code 525 = .ok (.aload_n 0, 1) := by decide +kernel
theorem dl_526 : decode code 526 = .ok (.iload_n 3, 1) := by decide +kernel
theorem dl_527 : decode code 527 = .ok (.iconst 1, 1) := by decide +kernel
theorem dl_528 : decode code 528 = .ok (.iadd, 1) := by decide +kernel
theorem dl_529 : decode code 529 = .ok (.iaload, 1) := by decide +kernel
theorem dl_530 : decode code 530 = .ok (.invokevirtual 68, 3) := by decide +kernel
theorem dl_533 : decode code 533 = .ok (.aload_n 2, 1) := by decide +kernel
theorem dl_534 : decode code 534 = .ok (.aload_n 0, 1) := by decide +kernel
theorem dl_535 : decode code 535 = .ok (.iload_n 3, 1) := by decide +kernel
theorem dl_536 : decode code 536 = .ok (.iconst 1, 1) := by decide +kernel
theorem dl_537 : decode code 537 = .ok (.iadd, 1) := by decide +kernel
theorem dl_538 : decode code 538 = .ok (.iaload, 1) := by decide +kernel
theorem dl_539 : decode code 539 = .ok (.invokevirtual 71, 3) := by decide +kernel
theorem dl_542 : decode code 542 = .ok (.if_icmp .eq 448, 3) := by decide +kernel
theorem dl_545 : decode code 545 = .ok (.iconst 0, 1) := by decide +kernel
theorem dl_546 : decode code 546 = .ok (.ireturn, 1) := by decide +kernel
theorem dl_547 : decode code 547 = .ok (.aload_n 1, 1) := by decide +kernel
theorem dl_548 : decode code 548 = .ok (.aload_n 0, 1) := by decide +kernel
theorem dl_549 : decode code 549 = .ok (.iload_n 3, 1) := by decide +kernel
theorem dl_550 : decode code 550 = .ok (.iconst 1, 1) := by decide +kernel
theorem dl_551 : decode code 551 = .ok (.iadd, 1) := by decide +kernel
theorem dl_552 : decode code 552 = .ok (.iaload, 1) := by decide +kernel
theorem dl_553 : decode code 553 = .ok (.invokevirtual 72, 3) := by decide +kernel
theorem dl_556 : decode code 556 = .ok (.aload_n 2, 1) := by decide +kernel
theorem dl_557 : decode code 557 = .ok (.aload_n 0, 1) := by decide +kernel
theorem dl_558 : decode code 558 = .ok (.iload_n 3, 1) := by decide +kernel
theorem dl_559 : decode code 559 = .ok (.iconst 1, 1) := by decide +kernel
theorem dl_560 : decode code 560 = .ok (.iadd, 1) := by decide +kernel
theorem dl_561 : decode code 561 = .ok (.iaload, 1) := by decide +kernel
theorem dl_562 : decode code 562 = .ok (.invokevirtual 75, 3) := by decide +kernel
theorem dl_565 : decode code 565 = .ok (.if_icmp .eq 425, 3) := by decide +kernel
theorem dl_568 : decode code 568 = .ok (.iconst 0, 1) := by decide +kernel
theorem dl_569 : decode code 569 = .ok (.ireturn, 1) := by decide +kernel
theorem dl_570 : decode code 570 = .ok (.aload_n 1, 1) := by decide +kernel
theorem dl_571 : decode code 571 = .ok (.invokevirtual 76, 3) := by decide +kernel
theorem dl_574 : decode code 574 = .ok (.aload_n 2, 1) := by decide +kernel
theorem dl_575 : decode code 575 = .ok (.invokevirtual 79, 3) := by decide +kernel
theorem dl_578 : decode code 578 = .ok (.if_icmp .eq 412, 3) := by decide +kernel
theorem dl_581 : decode code 581 = .ok (.iconst 0, 1) := by decide +kernel
theorem dl_582 : decode code 582 = .ok (.ireturn, 1) := by decide +kernel
theorem dl_583 : decode code 583 = .ok (.aload_n 1, 1) := by decide +kernel
theorem dl_584 : decode code 584 = .ok (.aload_n 0, 1) := by decide +kernel
theorem dl_585 : decode code 585 = .ok (.iload_n 3, 1) := by decide +kernel
theorem dl_586 : decode code 586 = .ok (.iconst 1, 1) := by decide +kernel
theorem dl_587 : decode code 587 = .ok (.iadd, 1) := by decide +kernel
theorem dl_588 : decode code 588 = .ok (.iaload, 1) := by decide +kernel
theorem dl_589 : decode code 589 = .ok (.invokevirtual 80, 3) := by decide +kernel
theorem dl_592 : decode code 592 = .ok (.aload_n 2, 1) := by decide +kernel
theorem dl_593 : decode code 593 = .ok (.aload_n 0, 1) := by decide +kernel
theorem dl_594 : decode code 594 = .ok (.iload_n 3, 1) := by decide +kernel
theorem dl_595 : decode code 595 = .ok (.iconst 1, 1) := by decide +kernel
theorem dl_596 : decode code 596 = .ok (.iadd, 1) := by decide +kernel
theorem dl_597 : decode code 597 = .ok (.iaload, 1) := by decide +kernel
theorem dl_598 : decode code 598 = .ok (.invokevirtual 83, 3) := by decide +kernel
theorem dl_601 : decode code 601 = .ok (.if_icmp .eq 389, 3) := by decide +kernel
theorem dl_604 : decode code 604 = .ok (.iconst 0, 1) := by decide +kernel
theorem dl_605 : decode code 605 = .ok (.ireturn, 1) := by decide +kernel
theorem dl_606 : decode code 606 = .ok (.aload_n 1, 1) := by decide +kernel
theorem dl_607 : decode code 607 = .ok (.aload_n 0, 1) := by decide +kernel
theorem dl_608 : decode code 608 = .ok (.iload_n 3, 1) := by decide +kernel
theorem dl_609 : decode code 609 = .ok (.iconst 1, 1) := by decide +kernel
theorem dl_610 : decode code 610 = .ok (.iadd, 1) := by decide +kernel
theorem dl_611 : decode code 611 = .ok (.iaload, 1) := by decide +kernel
theorem dl_612 : decode code 612 = .ok (.invokevirtual 84, 3) := by decide +kernel
theorem dl_615 : decode code 615 = .ok (.aload_n 2, 1) := by decide +kernel
theorem dl_616 : decode code 616 = .ok (.aload_n 0, 1) := by decide +kernel
theorem dl_617 : decode code 617 = .ok (.iload_n 3, 1) := by decide +kernel
theorem dl_618 : decode code 618 = .ok (.iconst 1, 1) := by decide +kernel
theorem dl_619 : decode code 619 = .ok (.iadd, 1) := by decide +kernel
theorem dl_620 : decode code 620 = .ok (.iaload, 1) := by decide +kernel
theorem dl_621 : decode code 621 = .ok (.invokevirtual 87, 3) := by decide +kernel
theorem dl_624 : decode code 624 = .ok (.if_icmp .eq 366, 3) := by decide +kernel
theorem dl_627 : decode code 627 = .ok (.iconst 0, 1) := by decide +kernel
theorem dl_628 : decode code 628 = .ok (.ireturn, 1) := by decide +kernel
theorem dl_629 : decode code 629 = .ok (.aload_n 1, 1) := by decide +kernel
theorem dl_630 : decode code 630 = .ok (.aload_n 0, 1) := by decide +kernel
theorem dl_631 : decode code 631 = .ok (.iload_n 3, 1) := by decide +kernel
theorem dl_632 : decode code 632 = .ok (.iconst 1, 1) := by decide +kernel
theorem dl_633 : decode code 633 = .ok (.iadd, 1) := by decide +kernel
