/-! THE LAW: its instructions, printed -/
theorem lz_d_490 : decode code 490 = .ok (.aload_n 0, 1) := by decide +kernel
theorem lz_d_491 : decode code 491 = .ok (.iload_n 3, 1) := by decide +kernel
theorem lz_d_492 : decode code 492 = .ok (.iconst 1, 1) := by decide +kernel
theorem lz_d_493 : decode code 493 = .ok (.iadd, 1) := by decide +kernel
theorem lz_d_494 : decode code 494 = .ok (.iaload, 1) := by decide +kernel
theorem lz_d_495 : decode code 495 = .ok (.i2c, 1) := by decide +kernel
theorem lz_d_496 : decode code 496 = .ok (.invokevirtual 73, 3) := by decide +kernel
theorem lz_d_499 : decode code 499 = .ok (.if_icmp .eq 330, 3) := by decide +kernel
theorem lz_d_502 : decode code 502 = .ok (.iconst 0, 1) := by decide +kernel
theorem lz_d_503 : decode code 503 = .ok (.ireturn, 1) := by decide +kernel
theorem lz_d_504 : decode code 504 = .ok (.aload_n 1, 1) := by decide +kernel
theorem lz_d_505 : decode code 505 = .ok (.invokevirtual 74, 3) := by decide +kernel
theorem lz_d_508 : decode code 508 = .ok (.aload_n 2, 1) := by decide +kernel
theorem lz_d_509 : decode code 509 = .ok (.invokevirtual 77, 3) := by decide +kernel
theorem lz_d_512 : decode code 512 = .ok (.if_icmp .eq 317, 3) := by decide +kernel
theorem lz_d_515 : decode code 515 = .ok (.iconst 0, 1) := by decide +kernel
theorem lz_d_516 : decode code 516 = .ok (.ireturn, 1) := by decide +kernel
theorem lz_d_517 : decode code 517 = .ok (.aload_n 1, 1) := by decide +kernel
theorem lz_d_518 : decode code 518 = .ok (.invokevirtual 78, 3) := by decide +kernel
theorem lz_d_521 : decode code 521 = .ok (.aload_n 2, 1) := by decide +kernel
theorem lz_d_522 : decode code 522 = .ok (.invokevirtual 81, 3) := by decide +kernel
theorem lz_d_525 : decode code 525 = .ok (.if_icmp .eq 304, 3) := by decide +kernel
theorem lz_d_528 : decode code 528 = .ok (.iconst 0, 1) := by decide +kernel
theorem lz_d_529 : decode code 529 = .ok (.ireturn, 1) := by decide +kernel
theorem lz_d_530 : decode code 530 = .ok (.aload_n 1, 1) := by decide +kernel
theorem lz_d_531 : decode code 531 = .ok (.invokevirtual 82, 3) := by decide +kernel
theorem lz_d_534 : decode code 534 = .ok (.aload_n 2, 1) := by decide +kernel
theorem lz_d_535 : decode code 535 = .ok (.invokevirtual 85, 3) := by decide +kernel
theorem lz_d_538 : decode code 538 = .ok (.if_icmp .eq 291, 3) := by decide +kernel
theorem lz_d_541 : decode code 541 = .ok (.iconst 0, 1) := by decide +kernel
theorem lz_d_542 : decode code 542 = .ok (.ireturn, 1) := by decide +kernel
theorem lz_d_543 : decode code 543 = .ok (.aload_n 1, 1) := by decide +kernel
theorem lz_d_544 : decode code 544 = .ok (.invokevirtual 86, 3) := by decide +kernel
theorem lz_d_547 : decode code 547 = .ok (.aload_n 2, 1) := by decide +kernel
theorem lz_d_548 : decode code 548 = .ok (.invokevirtual 89, 3) := by decide +kernel
theorem lz_d_551 : decode code 551 = .ok (.if_icmp .eq 278, 3) := by decide +kernel
theorem lz_d_554 : decode code 554 = .ok (.iconst 0, 1) := by decide +kernel
theorem lz_d_555 : decode code 555 = .ok (.ireturn, 1) := by decide +kernel
theorem lz_d_556 : decode code 556 = .ok (.aload_n 1, 1) := by decide +kernel
theorem lz_d_557 : decode code 557 = .ok (.invokevirtual 90, 3) := by decide +kernel
theorem lz_d_560 : decode code 560 = .ok (.aload_n 2, 1) := by decide +kernel
theorem lz_d_561 : decode code 561 = .ok (.invokevirtual 93, 3) := by decide +kernel
theorem lz_d_564 : decode code 564 = .ok (.if_icmp .eq 265, 3) := by decide +kernel
theorem lz_d_567 : decode code 567 = .ok (.iconst 0, 1) := by decide +kernel
theorem lz_d_568 : decode code 568 = .ok (.ireturn, 1) := by decide +kernel
theorem lz_d_569 : decode code 569 = .ok (.aload_n 1, 1) := by decide +kernel
theorem lz_d_570 : decode code 570 = .ok (.aload_n 0, 1) := by decide +kernel
theorem lz_d_571 : decode code 571 = .ok (.iload_n 3, 1) := by decide +kernel
theorem lz_d_572 : decode code 572 = .ok (.iconst 1, 1) := by decide +kernel
theorem lz_d_573 : decode code 573 = .ok (.iadd, 1) := by decide +kernel
theorem lz_d_574 : decode code 574 = .ok (.iaload, 1) := by decide +kernel
theorem lz_d_575 : decode code 575 = .ok (.aload_n 0, 1) := by decide +kernel
theorem lz_d_576 : decode code 576 = .ok (.iload_n 3, 1) := by decide +kernel
theorem lz_d_577 : decode code 577 = .ok (.iconst 2, 1) := by decide +kernel
theorem lz_d_578 : decode code 578 = .ok (.iadd, 1) := by decide +kernel
theorem lz_d_579 : decode code 579 = .ok (.iaload, 1) := by decide +kernel
theorem lz_d_580 : decode code 580 = .ok (.invokevirtual 94, 3) := by decide +kernel
theorem lz_d_583 : decode code 583 = .ok (.aload_n 2, 1) := by decide +kernel
theorem lz_d_584 : decode code 584 = .ok (.aload_n 0, 1) := by decide +kernel
theorem lz_d_585 : decode code 585 = .ok (.iload_n 3, 1) := by decide +kernel
theorem lz_d_586 : decode code 586 = .ok (.iconst 1, 1) := by decide +kernel
theorem lz_d_587 : decode code 587 = .ok (.iadd, 1) := by decide +kernel
theorem lz_d_588 : decode code 588 = .ok (.iaload, 1) := by decide +kernel
theorem lz_d_589 : decode code 589 = .ok (.aload_n 0, 1) := by decide +kernel
theorem lz_d_590 : decode code 590 = .ok (.iload_n 3, 1) := by decide +kernel
theorem lz_d_591 : decode code 591 = .ok (.iconst 2, 1) := by decide +kernel
theorem lz_d_592 : decode code 592 = .ok (.iadd, 1) := by decide +kernel
theorem lz_d_593 : decode code 593 = .ok (.iaload, 1) := by decide +kernel
theorem lz_d_594 : decode code 594 = .ok (.invokevirtual 97, 3) := by decide +kernel
theorem lz_d_597 : decode code 597 = .ok (.if_icmp .eq 232, 3) := by decide +kernel
theorem lz_d_600 : decode code 600 = .ok (.iconst 0, 1) := by decide +kernel
theorem lz_d_601 : decode code 601 = .ok (.ireturn, 1) := by decide +kernel
theorem lz_d_602 : decode code 602 = .ok (.aload_n 1, 1) := by decide +kernel
theorem lz_d_603 : decode code 603 = .ok (.aload_n 0, 1) := by decide +kernel
theorem lz_d_604 : decode code 604 = .ok (.iload_n 3, 1) := by decide +kernel
theorem lz_d_605 : decode code 605 = .ok (.iconst 1, 1) := by decide +kernel
theorem lz_d_606 : decode code 606 = .ok (.iadd, 1) := by decide +kernel
theorem lz_d_607 : decode code 607 = .ok (.iaload, 1) := by decide +kernel
theorem lz_d_608 : decode code 608 = .ok (.aload_n 0, 1) := by decide +kernel
theorem lz_d_609 : decode code 609 = .ok (.iload_n 3, 1) := by decide +kernel
theorem lz_d_610 : decode code 610 = .ok (.iconst 2, 1) := by decide +kernel
theorem lz_d_611 : decode code 611 = .ok (.iadd, 1) := by decide +kernel
theorem lz_d_612 : decode code 612 = .ok (.iaload, 1) := by decide +kernel
theorem lz_d_613 : decode code 613 = .ok (.aload_n 0, 1) := by decide +kernel
theorem lz_d_614 : decode code 614 = .ok (.iload_n 3, 1) := by decide +kernel
theorem lz_d_615 : decode code 615 = .ok (.iconst 3, 1) := by decide +kernel
theorem lz_d_616 : decode code 616 = .ok (.iadd, 1) := by decide +kernel
theorem lz_d_617 : decode code 617 = .ok (.iaload, 1) := by decide +kernel
theorem lz_d_618 : decode code 618 = .ok (.invokevirtual 98, 3) := by decide +kernel
theorem lz_d_621 : decode code 621 = .ok (.aload_n 2, 1) := by decide +kernel
theorem lz_d_622 : decode code 622 = .ok (.aload_n 0, 1) := by decide +kernel
theorem lz_d_623 : decode code 623 = .ok (.iload_n 3, 1) := by decide +kernel
theorem lz_d_624 : decode code 624 = .ok (.iconst 1, 1) := by decide +kernel
theorem lz_d_625 : decode code 625 = .ok (.iadd, 1) := by decide +kernel
theorem lz_d_626 : decode code 626 = .ok (.iaload, 1) := by decide +kernel
theorem lz_d_627 : decode code 627 = .ok (.aload_n 0, 1) := by decide +kernel
theorem lz_d_628 : decode code 628 = .ok (.iload_n 3, 1) := by decide +kernel
theorem lz_d_629 : decode code 629 = .ok (.iconst 2, 1) := by decide +kernel
theorem lz_d_630 : decode code 630 = .ok (.iadd, 1) := by decide +kernel
theorem lz_d_631 : decode code 631 = .ok (.iaload, 1) := by decide +kernel
theorem lz_d_632 : decode code 632 = .ok (.aload_n 0, 1) := by decide +kernel
theorem lz_d_633 : decode code 633 = .ok (.iload_n 3, 1) := by decide +kernel
theorem lz_d_634 : decode code 634 = .ok (.iconst 3, 1) := by decide +kernel
theorem lz_d_635 : decode code 635 = .ok (.iadd, 1) := by decide +kernel
theorem lz_d_636 : decode code 636 = .ok (.iaload, 1) := by decide +kernel
theorem lz_d_637 : decode code 637 = .ok (.invokevirtual 102, 3) := by decide +kernel
theorem lz_d_640 : decode code 640 = .ok (.if_icmp .eq 189, 3) := by decide +kernel
theorem lz_d_643 : decode code 643 = .ok (.iconst 0, 1) := by decide +kernel
theorem lz_d_644 : decode code 644 = .ok (.ireturn, 1) := by decide +kernel
theorem lz_d_645 : decode code 645 = .ok (.aload_n 1, 1) := by decide +kernel
theorem lz_d_646 : decode code 646 = .ok (.aload_n 0, 1) := by decide +kernel
theorem lz_d_647 : decode code 647 = .ok (.iload_n 3, 1) := by decide +kernel
theorem lz_d_648 : decode code 648 = .ok (.iconst 1, 1) := by decide +kernel
theorem lz_d_649 : decode code 649 = .ok (.iadd, 1) := by decide +kernel
theorem lz_d_650 : decode code 650 = .ok (.iaload, 1) := by decide +kernel
theorem lz_d_651 : decode code 651 = .ok (.aload_n 0, 1) := by decide +kernel
theorem lz_d_652 : decode code 652 = .ok (.iload_n 3, 1) := by decide +kernel
theorem lz_d_653 : decode code 653 = .ok (.iconst 2, 1) := by decide +kernel
theorem lz_d_654 : decode code 654 = .ok (.iadd, 1) := by decide +kernel
theorem lz_d_655 : decode code 655 = .ok (.iaload, 1) := by decide +kernel
theorem lz_d_656 : decode code 656 = .ok (.invokevirtual 103, 3) := by decide +kernel
theorem lz_d_659 : decode code 659 = .ok (.aload_n 2, 1) := by decide +kernel
theorem lz_d_660 : decode code 660 = .ok (.aload_n 0, 1) := by decide +kernel
theorem lz_d_661 : decode code 661 = .ok (.iload_n 3, 1) := by decide +kernel
theorem lz_d_662 : decode code 662 = .ok (.iconst 1, 1) := by decide +kernel
theorem lz_d_663 : decode code 663 = .ok (.iadd, 1) := by decide +kernel
theorem lz_d_664 : decode code 664 = .ok (.iaload, 1) := by decide +kernel
theorem lz_d_665 : decode code 665 = .ok (.aload_n 0, 1) := by decide +kernel
theorem lz_d_666 : decode code 666 = .ok (.iload_n 3, 1) := by decide +kernel
theorem lz_d_667 : decode code 667 = .ok (.iconst 2, 1) := by decide +kernel
