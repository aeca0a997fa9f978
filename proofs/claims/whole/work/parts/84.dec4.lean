/-! the law, decoded -/
theorem dL_506 : decode code 506 = .ok (.aload_n 2, 1) := by decide +kernel
theorem dL_507 : decode code 507 = .ok (.aload_n 0, 1) := by decide +kernel
theorem dL_508 : decode code 508 = .ok (.iload_n 3, 1) := by decide +kernel
theorem dL_509 : decode code 509 = .ok (.iconst 1, 1) := by decide +kernel
theorem dL_510 : decode code 510 = .ok (.iadd, 1) := by decide +kernel
theorem dL_511 : decode code 511 = .ok (.iaload, 1) := by decide +kernel
theorem dL_512 : decode code 512 = .ok (.aload_n 0, 1) := by decide +kernel
theorem dL_513 : decode code 513 = .ok (.iload_n 3, 1) := by decide +kernel
theorem dL_514 : decode code 514 = .ok (.iconst 2, 1) := by decide +kernel
theorem dL_515 : decode code 515 = .ok (.iadd, 1) := by decide +kernel
theorem dL_516 : decode code 516 = .ok (.iaload, 1) := by decide +kernel
theorem dL_517 : decode code 517 = .ok (.invokevirtual 53, 3) := by decide +kernel
theorem dL_520 : decode code 520 = .ok (.if_icmp .eq 235, 3) := by decide +kernel
theorem dL_523 : decode code 523 = .ok (.iconst 0, 1) := by decide +kernel
theorem dL_524 : decode code 524 = .ok (.ireturn, 1) := by decide +kernel
theorem dL_525 : decode code 525 = .ok (.aload_n 1, 1) := by decide +kernel
theorem dL_526 : decode code 526 = .ok (.invokevirtual 54, 3) := by decide +kernel
theorem dL_529 : decode code 529 = .ok (.aload_n 2, 1) := by decide +kernel
theorem dL_530 : decode code 530 = .ok (.invokevirtual 58, 3) := by decide +kernel
theorem dL_533 : decode code 533 = .ok (.if_icmp .eq 222, 3) := by decide +kernel
theorem dL_536 : decode code 536 = .ok (.iconst 0, 1) := by decide +kernel
theorem dL_537 : decode code 537 = .ok (.ireturn, 1) := by decide +kernel
theorem dL_538 : decode code 538 = .ok (.aload_n 1, 1) := by decide +kernel
theorem dL_539 : decode code 539 = .ok (.invokevirtual 59, 3) := by decide +kernel
theorem dL_542 : decode code 542 = .ok (.aload_n 2, 1) := by decide +kernel
theorem dL_543 : decode code 543 = .ok (.invokevirtual 62, 3) := by decide +kernel
theorem dL_546 : decode code 546 = .ok (.if_icmp .eq 209, 3) := by decide +kernel
theorem dL_549 : decode code 549 = .ok (.iconst 0, 1) := by decide +kernel
theorem dL_550 : decode code 550 = .ok (.ireturn, 1) := by decide +kernel
theorem dL_551 : decode code 551 = .ok (.aload_n 1, 1) := by decide +kernel
theorem dL_552 : decode code 552 = .ok (.invokevirtual 63, 3) := by decide +kernel
theorem dL_555 : decode code 555 = .ok (.aload_n 2, 1) := by decide +kernel
theorem dL_556 : decode code 556 = .ok (.invokevirtual 66, 3) := by decide +kernel
theorem dL_559 : decode code 559 = .ok (.if_icmp .eq 196, 3) := by decide +kernel
theorem dL_562 : decode code 562 = .ok (.iconst 0, 1) := by decide +kernel
theorem dL_563 : decode code 563 = .ok (.ireturn, 1) := by decide +kernel
theorem dL_564 : decode code 564 = .ok (.aload_n 1, 1) := by decide +kernel
theorem dL_565 : decode code 565 = .ok (.aload_n 0, 1) := by decide +kernel
theorem dL_566 : decode code 566 = .ok (.iload_n 3, 1) := by decide +kernel
theorem dL_567 : decode code 567 = .ok (.iconst 1, 1) := by decide +kernel
theorem dL_568 : decode code 568 = .ok (.iadd, 1) := by decide +kernel
theorem dL_569 : decode code 569 = .ok (.iaload, 1) := by decide +kernel
theorem dL_570 : decode code 570 = .ok (.aload_n 0, 1) := by decide +kernel
theorem dL_571 : decode code 571 = .ok (.iload_n 3, 1) := by decide +kernel
theorem dL_572 : decode code 572 = .ok (.iconst 2, 1) := by decide +kernel
theorem dL_573 : decode code 573 = .ok (.iadd, 1) := by decide +kernel
theorem dL_574 : decode code 574 = .ok (.iaload, 1) := by decide +kernel
theorem dL_575 : decode code 575 = .ok (.invokevirtual 67, 3) := by decide +kernel
theorem dL_578 : decode code 578 = .ok (.aload_n 2, 1) := by decide +kernel
theorem dL_579 : decode code 579 = .ok (.aload_n 0, 1) := by decide +kernel
theorem dL_580 : decode code 580 = .ok (.iload_n 3, 1) := by decide +kernel
theorem dL_581 : decode code 581 = .ok (.iconst 1, 1) := by decide +kernel
theorem dL_582 : decode code 582 = .ok (.iadd, 1) := by decide +kernel
theorem dL_583 : decode code 583 = .ok (.iaload, 1) := by decide +kernel
theorem dL_584 : decode code 584 = .ok (.aload_n 0, 1) := by decide +kernel
theorem dL_585 : decode code 585 = .ok (.iload_n 3, 1) := by decide +kernel
theorem dL_586 : decode code 586 = .ok (.iconst 2, 1) := by decide +kernel
theorem dL_587 : decode code 587 = .ok (.iadd, 1) := by decide +kernel
theorem dL_588 : decode code 588 = .ok (.iaload, 1) := by decide +kernel
theorem dL_589 : decode code 589 = .ok (.invokevirtual 70, 3) := by decide +kernel
theorem dL_592 : decode code 592 = .ok (.if_icmp .eq 163, 3) := by decide +kernel
theorem dL_595 : decode code 595 = .ok (.iconst 0, 1) := by decide +kernel
theorem dL_596 : decode code 596 = .ok (.ireturn, 1) := by decide +kernel
theorem dL_597 : decode code 597 = .ok (.aload_n 1, 1) := by decide +kernel
theorem dL_598 : decode code 598 = .ok (.invokevirtual 71, 3) := by decide +kernel
theorem dL_601 : decode code 601 = .ok (.aload_n 2, 1) := by decide +kernel
theorem dL_602 : decode code 602 = .ok (.invokevirtual 74, 3) := by decide +kernel
theorem dL_605 : decode code 605 = .ok (.if_icmp .eq 150, 3) := by decide +kernel
theorem dL_608 : decode code 608 = .ok (.iconst 0, 1) := by decide +kernel
theorem dL_609 : decode code 609 = .ok (.ireturn, 1) := by decide +kernel
theorem dL_610 : decode code 610 = .ok (.aload_n 1, 1) := by decide +kernel
theorem dL_611 : decode code 611 = .ok (.invokevirtual 75, 3) := by decide +kernel
theorem dL_614 : decode code 614 = .ok (.aload_n 2, 1) := by decide +kernel
theorem dL_615 : decode code 615 = .ok (.invokevirtual 78, 3) := by decide +kernel
theorem dL_618 : decode code 618 = .ok (.if_icmp .eq 137, 3) := by decide +kernel
theorem dL_621 : decode code 621 = .ok (.iconst 0, 1) := by decide +kernel
theorem dL_622 : decode code 622 = .ok (.ireturn, 1) := by decide +kernel
theorem dL_623 : decode code 623 = .ok (.aload_n 1, 1) := by decide +kernel
theorem dL_624 : decode code 624 = .ok (.invokevirtual 79, 3) := by decide +kernel
theorem dL_627 : decode code 627 = .ok (.aload_n 2, 1) := by decide +kernel
theorem dL_628 : decode code 628 = .ok (.invokevirtual 82, 3) := by decide +kernel
theorem dL_631 : decode code 631 = .ok (.if_icmp .eq 124, 3) := by decide +kernel
theorem dL_634 : decode code 634 = .ok (.iconst 0, 1) := by decide +kernel
theorem dL_635 : decode code 635 = .ok (.ireturn, 1) := by decide +kernel
theorem dL_636 : decode code 636 = .ok (.aload_n 1, 1) := by decide +kernel
