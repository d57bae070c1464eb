theorem gd_LA_law_524 : (decode code 524 = .ok (.iload_n 3, 1)) ∧ (decode code 525 = .ok (.iconst 2, 1)) ∧ (decode code 526 = .ok (.iadd, 1)) ∧ (decode code 527 = .ok (.iaload, 1)) ∧ (decode code 528 = .ok (.invokevirtual 61, 3)) ∧ (decode code 531 = .ok (.pop, 1)) ∧ (decode code 532 = .ok (.aload_n 2, 1)) ∧ (decode code 533 = .ok (.aload_n 0, 1)) ∧ (decode code 534 = .ok (.iload_n 3, 1)) ∧ (decode code 535 = .ok (.iconst 1, 1)) := by decide +kernel
theorem d_LA_law_524 : decode code 524 = .ok (.iload_n 3, 1) := gd_LA_law_524.1
theorem d_LA_law_525 : decode code 525 = .ok (.iconst 2, 1) := gd_LA_law_524.2.1
theorem d_LA_law_526 : decode code 526 = .ok (.iadd, 1) := gd_LA_law_524.2.2.1
theorem d_LA_law_527 : decode code 527 = .ok (.iaload, 1) := gd_LA_law_524.2.2.2.1
theorem d_LA_law_528 : decode code 528 = .ok (.invokevirtual 61, 3) := gd_LA_law_524.2.2.2.2.1
theorem d_LA_law_531 : decode code 531 = .ok (.pop, 1) := gd_LA_law_524.2.2.2.2.2.1
theorem d_LA_law_532 : decode code 532 = .ok (.aload_n 2, 1) := gd_LA_law_524.2.2.2.2.2.2.1
theorem d_LA_law_533 : decode code 533 = .ok (.aload_n 0, 1) := gd_LA_law_524.2.2.2.2.2.2.2.1
theorem d_LA_law_534 : decode code 534 = .ok (.iload_n 3, 1) := gd_LA_law_524.2.2.2.2.2.2.2.2.1
theorem d_LA_law_535 : decode code 535 = .ok (.iconst 1, 1) := gd_LA_law_524.2.2.2.2.2.2.2.2.2
theorem gd_LA_law_536 : (decode code 536 = .ok (.iadd, 1)) ∧ (decode code 537 = .ok (.iaload, 1)) ∧ (decode code 538 = .ok (.aload_n 0, 1)) ∧ (decode code 539 = .ok (.iload_n 3, 1)) ∧ (decode code 540 = .ok (.iconst 2, 1)) ∧ (decode code 541 = .ok (.iadd, 1)) ∧ (decode code 542 = .ok (.iaload, 1)) ∧ (decode code 543 = .ok (.invokevirtual 65, 3)) ∧ (decode code 546 = .ok (.pop, 1)) ∧ (decode code 547 = .ok (.goto 362, 3)) := by decide +kernel
theorem d_LA_law_536 : decode code 536 = .ok (.iadd, 1) := gd_LA_law_536.1
theorem d_LA_law_537 : decode code 537 = .ok (.iaload, 1) := gd_LA_law_536.2.1
theorem d_LA_law_538 : decode code 538 = .ok (.aload_n 0, 1) := gd_LA_law_536.2.2.1
theorem d_LA_law_539 : decode code 539 = .ok (.iload_n 3, 1) := gd_LA_law_536.2.2.2.1
theorem d_LA_law_540 : decode code 540 = .ok (.iconst 2, 1) := gd_LA_law_536.2.2.2.2.1
theorem d_LA_law_541 : decode code 541 = .ok (.iadd, 1) := gd_LA_law_536.2.2.2.2.2.1
theorem d_LA_law_542 : decode code 542 = .ok (.iaload, 1) := gd_LA_law_536.2.2.2.2.2.2.1
theorem d_LA_law_543 : decode code 543 = .ok (.invokevirtual 65, 3) := gd_LA_law_536.2.2.2.2.2.2.2.1
theorem d_LA_law_546 : decode code 546 = .ok (.pop, 1) := gd_LA_law_536.2.2.2.2.2.2.2.2.1
theorem d_LA_law_547 : decode code 547 = .ok (.goto 362, 3) := gd_LA_law_536.2.2.2.2.2.2.2.2.2
theorem gd_LA_law_550 : (decode code 550 = .ok (.aload_n 1, 1)) ∧ (decode code 551 = .ok (.aload_n 0, 1)) ∧ (decode code 552 = .ok (.iload_n 3, 1)) ∧ (decode code 553 = .ok (.iconst 1, 1)) ∧ (decode code 554 = .ok (.iadd, 1)) ∧ (decode code 555 = .ok (.iaload, 1)) ∧ (decode code 556 = .ok (.aload_n 0, 1)) ∧ (decode code 557 = .ok (.iload_n 3, 1)) ∧ (decode code 558 = .ok (.iconst 2, 1)) ∧ (decode code 559 = .ok (.iadd, 1)) := by decide +kernel
theorem d_LA_law_550 : decode code 550 = .ok (.aload_n 1, 1) := gd_LA_law_550.1
theorem d_LA_law_551 : decode code 551 = .ok (.aload_n 0, 1) := gd_LA_law_550.2.1
theorem d_LA_law_552 : decode code 552 = .ok (.iload_n 3, 1) := gd_LA_law_550.2.2.1
theorem d_LA_law_553 : decode code 553 = .ok (.iconst 1, 1) := gd_LA_law_550.2.2.2.1
theorem d_LA_law_554 : decode code 554 = .ok (.iadd, 1) := gd_LA_law_550.2.2.2.2.1
theorem d_LA_law_555 : decode code 555 = .ok (.iaload, 1) := gd_LA_law_550.2.2.2.2.2.1
theorem d_LA_law_556 : decode code 556 = .ok (.aload_n 0, 1) := gd_LA_law_550.2.2.2.2.2.2.1
theorem d_LA_law_557 : decode code 557 = .ok (.iload_n 3, 1) := gd_LA_law_550.2.2.2.2.2.2.2.1
theorem d_LA_law_558 : decode code 558 = .ok (.iconst 2, 1) := gd_LA_law_550.2.2.2.2.2.2.2.2.1
theorem d_LA_law_559 : decode code 559 = .ok (.iadd, 1) := gd_LA_law_550.2.2.2.2.2.2.2.2.2
theorem gd_LA_law_560 : (decode code 560 = .ok (.iaload, 1)) ∧ (decode code 561 = .ok (.invokevirtual 66, 3)) ∧ (decode code 564 = .ok (.pop, 1)) ∧ (decode code 565 = .ok (.aload_n 2, 1)) ∧ (decode code 566 = .ok (.aload_n 0, 1)) ∧ (decode code 567 = .ok (.iload_n 3, 1)) ∧ (decode code 568 = .ok (.iconst 1, 1)) ∧ (decode code 569 = .ok (.iadd, 1)) ∧ (decode code 570 = .ok (.iaload, 1)) ∧ (decode code 571 = .ok (.aload_n 0, 1)) := by decide +kernel
theorem d_LA_law_560 : decode code 560 = .ok (.iaload, 1) := gd_LA_law_560.1
theorem d_LA_law_561 : decode code 561 = .ok (.invokevirtual 66, 3) := gd_LA_law_560.2.1
theorem d_LA_law_564 : decode code 564 = .ok (.pop, 1) := gd_LA_law_560.2.2.1
theorem d_LA_law_565 : decode code 565 = .ok (.aload_n 2, 1) := gd_LA_law_560.2.2.2.1
theorem d_LA_law_566 : decode code 566 = .ok (.aload_n 0, 1) := gd_LA_law_560.2.2.2.2.1
theorem d_LA_law_567 : decode code 567 = .ok (.iload_n 3, 1) := gd_LA_law_560.2.2.2.2.2.1
theorem d_LA_law_568 : decode code 568 = .ok (.iconst 1, 1) := gd_LA_law_560.2.2.2.2.2.2.1
theorem d_LA_law_569 : decode code 569 = .ok (.iadd, 1) := gd_LA_law_560.2.2.2.2.2.2.2.1
theorem d_LA_law_570 : decode code 570 = .ok (.iaload, 1) := gd_LA_law_560.2.2.2.2.2.2.2.2.1
theorem d_LA_law_571 : decode code 571 = .ok (.aload_n 0, 1) := gd_LA_law_560.2.2.2.2.2.2.2.2.2
theorem gd_LA_law_572 : (decode code 572 = .ok (.iload_n 3, 1)) ∧ (decode code 573 = .ok (.iconst 2, 1)) ∧ (decode code 574 = .ok (.iadd, 1)) ∧ (decode code 575 = .ok (.iaload, 1)) ∧ (decode code 576 = .ok (.invokevirtual 69, 3)) ∧ (decode code 579 = .ok (.pop, 1)) ∧ (decode code 580 = .ok (.goto 329, 3)) ∧ (decode code 583 = .ok (.aload_n 1, 1)) ∧ (decode code 584 = .ok (.aload_n 0, 1)) ∧ (decode code 585 = .ok (.iload_n 3, 1)) := by decide +kernel
theorem d_LA_law_572 : decode code 572 = .ok (.iload_n 3, 1) := gd_LA_law_572.1
theorem d_LA_law_573 : decode code 573 = .ok (.iconst 2, 1) := gd_LA_law_572.2.1
theorem d_LA_law_574 : decode code 574 = .ok (.iadd, 1) := gd_LA_law_572.2.2.1
theorem d_LA_law_575 : decode code 575 = .ok (.iaload, 1) := gd_LA_law_572.2.2.2.1
theorem d_LA_law_576 : decode code 576 = .ok (.invokevirtual 69, 3) := gd_LA_law_572.2.2.2.2.1
theorem d_LA_law_579 : decode code 579 = .ok (.pop, 1) := gd_LA_law_572.2.2.2.2.2.1
theorem d_LA_law_580 : decode code 580 = .ok (.goto 329, 3) := gd_LA_law_572.2.2.2.2.2.2.1
theorem d_LA_law_583 : decode code 583 = .ok (.aload_n 1, 1) := gd_LA_law_572.2.2.2.2.2.2.2.1
theorem d_LA_law_584 : decode code 584 = .ok (.aload_n 0, 1) := gd_LA_law_572.2.2.2.2.2.2.2.2.1
theorem d_LA_law_585 : decode code 585 = .ok (.iload_n 3, 1) := gd_LA_law_572.2.2.2.2.2.2.2.2.2
theorem gd_LA_law_586 : (decode code 586 = .ok (.iconst 1, 1)) ∧ (decode code 587 = .ok (.iadd, 1)) ∧ (decode code 588 = .ok (.iaload, 1)) ∧ (decode code 589 = .ok (.aload_n 0, 1)) ∧ (decode code 590 = .ok (.iload_n 3, 1)) ∧ (decode code 591 = .ok (.iconst 2, 1)) ∧ (decode code 592 = .ok (.iadd, 1)) ∧ (decode code 593 = .ok (.iaload, 1)) ∧ (decode code 594 = .ok (.invokevirtual 70, 3)) ∧ (decode code 597 = .ok (.pop, 1)) := by decide +kernel
theorem d_LA_law_586 : decode code 586 = .ok (.iconst 1, 1) := gd_LA_law_586.1
theorem d_LA_law_587 : decode code 587 = .ok (.iadd, 1) := gd_LA_law_586.2.1
theorem d_LA_law_588 : decode code 588 = .ok (.iaload, 1) := gd_LA_law_586.2.2.1
theorem d_LA_law_589 : decode code 589 = .ok (.aload_n 0, 1) := gd_LA_law_586.2.2.2.1
theorem d_LA_law_590 : decode code 590 = .ok (.iload_n 3, 1) := gd_LA_law_586.2.2.2.2.1
theorem d_LA_law_591 : decode code 591 = .ok (.iconst 2, 1) := gd_LA_law_586.2.2.2.2.2.1
theorem d_LA_law_592 : decode code 592 = .ok (.iadd, 1) := gd_LA_law_586.2.2.2.2.2.2.1
theorem d_LA_law_593 : decode code 593 = .ok (.iaload, 1) := gd_LA_law_586.2.2.2.2.2.2.2.1
theorem d_LA_law_594 : decode code 594 = .ok (.invokevirtual 70, 3) := gd_LA_law_586.2.2.2.2.2.2.2.2.1
theorem d_LA_law_597 : decode code 597 = .ok (.pop, 1) := gd_LA_law_586.2.2.2.2.2.2.2.2.2
theorem gd_LA_law_598 : (decode code 598 = .ok (.aload_n 2, 1)) ∧ (decode code 599 = .ok (.aload_n 0, 1)) ∧ (decode code 600 = .ok (.iload_n 3, 1)) ∧ (decode code 601 = .ok (.iconst 1, 1)) ∧ (decode code 602 = .ok (.iadd, 1)) ∧ (decode code 603 = .ok (.iaload, 1)) ∧ (decode code 604 = .ok (.aload_n 0, 1)) ∧ (decode code 605 = .ok (.iload_n 3, 1)) ∧ (decode code 606 = .ok (.iconst 2, 1)) ∧ (decode code 607 = .ok (.iadd, 1)) := by decide +kernel
theorem d_LA_law_598 : decode code 598 = .ok (.aload_n 2, 1) := gd_LA_law_598.1
theorem d_LA_law_599 : decode code 599 = .ok (.aload_n 0, 1) := gd_LA_law_598.2.1
theorem d_LA_law_600 : decode code 600 = .ok (.iload_n 3, 1) := gd_LA_law_598.2.2.1
theorem d_LA_law_601 : decode code 601 = .ok (.iconst 1, 1) := gd_LA_law_598.2.2.2.1
theorem d_LA_law_602 : decode code 602 = .ok (.iadd, 1) := gd_LA_law_598.2.2.2.2.1
theorem d_LA_law_603 : decode code 603 = .ok (.iaload, 1) := gd_LA_law_598.2.2.2.2.2.1
theorem d_LA_law_604 : decode code 604 = .ok (.aload_n 0, 1) := gd_LA_law_598.2.2.2.2.2.2.1
theorem d_LA_law_605 : decode code 605 = .ok (.iload_n 3, 1) := gd_LA_law_598.2.2.2.2.2.2.2.1
theorem d_LA_law_606 : decode code 606 = .ok (.iconst 2, 1) := gd_LA_law_598.2.2.2.2.2.2.2.2.1
theorem d_LA_law_607 : decode code 607 = .ok (.iadd, 1) := gd_LA_law_598.2.2.2.2.2.2.2.2.2
theorem gd_LA_law_608 : (decode code 608 = .ok (.iaload, 1)) ∧ (decode code 609 = .ok (.invokevirtual 73, 3)) ∧ (decode code 612 = .ok (.pop, 1)) ∧ (decode code 613 = .ok (.goto 296, 3)) ∧ (decode code 616 = .ok (.aload_n 1, 1)) ∧ (decode code 617 = .ok (.aload_n 0, 1)) ∧ (decode code 618 = .ok (.iload_n 3, 1)) ∧ (decode code 619 = .ok (.iconst 1, 1)) ∧ (decode code 620 = .ok (.iadd, 1)) ∧ (decode code 621 = .ok (.iaload, 1)) := by decide +kernel
theorem d_LA_law_608 : decode code 608 = .ok (.iaload, 1) := gd_LA_law_608.1
theorem d_LA_law_609 : decode code 609 = .ok (.invokevirtual 73, 3) := gd_LA_law_608.2.1
theorem d_LA_law_612 : decode code 612 = .ok (.pop, 1) := gd_LA_law_608.2.2.1
theorem d_LA_law_613 : decode code 613 = .ok (.goto 296, 3) := gd_LA_law_608.2.2.2.1
theorem d_LA_law_616 : decode code 616 = .ok (.aload_n 1, 1) := gd_LA_law_608.2.2.2.2.1
theorem d_LA_law_617 : decode code 617 = .ok (.aload_n 0, 1) := gd_LA_law_608.2.2.2.2.2.1
theorem d_LA_law_618 : decode code 618 = .ok (.iload_n 3, 1) := gd_LA_law_608.2.2.2.2.2.2.1
theorem d_LA_law_619 : decode code 619 = .ok (.iconst 1, 1) := gd_LA_law_608.2.2.2.2.2.2.2.1
theorem d_LA_law_620 : decode code 620 = .ok (.iadd, 1) := gd_LA_law_608.2.2.2.2.2.2.2.2.1
theorem d_LA_law_621 : decode code 621 = .ok (.iaload, 1) := gd_LA_law_608.2.2.2.2.2.2.2.2.2
theorem gd_LA_law_622 : (decode code 622 = .ok (.aload_n 0, 1)) ∧ (decode code 623 = .ok (.iload_n 3, 1)) ∧ (decode code 624 = .ok (.iconst 2, 1)) ∧ (decode code 625 = .ok (.iadd, 1)) ∧ (decode code 626 = .ok (.iaload, 1)) ∧ (decode code 627 = .ok (.invokevirtual 74, 3)) ∧ (decode code 630 = .ok (.pop, 1)) ∧ (decode code 631 = .ok (.aload_n 2, 1)) ∧ (decode code 632 = .ok (.aload_n 0, 1)) ∧ (decode code 633 = .ok (.iload_n 3, 1)) := by decide +kernel
theorem d_LA_law_622 : decode code 622 = .ok (.aload_n 0, 1) := gd_LA_law_622.1
theorem d_LA_law_623 : decode code 623 = .ok (.iload_n 3, 1) := gd_LA_law_622.2.1
theorem d_LA_law_624 : decode code 624 = .ok (.iconst 2, 1) := gd_LA_law_622.2.2.1
theorem d_LA_law_625 : decode code 625 = .ok (.iadd, 1) := gd_LA_law_622.2.2.2.1
theorem d_LA_law_626 : decode code 626 = .ok (.iaload, 1) := gd_LA_law_622.2.2.2.2.1
theorem d_LA_law_627 : decode code 627 = .ok (.invokevirtual 74, 3) := gd_LA_law_622.2.2.2.2.2.1
theorem d_LA_law_630 : decode code 630 = .ok (.pop, 1) := gd_LA_law_622.2.2.2.2.2.2.1
theorem d_LA_law_631 : decode code 631 = .ok (.aload_n 2, 1) := gd_LA_law_622.2.2.2.2.2.2.2.1
theorem d_LA_law_632 : decode code 632 = .ok (.aload_n 0, 1) := gd_LA_law_622.2.2.2.2.2.2.2.2.1
theorem d_LA_law_633 : decode code 633 = .ok (.iload_n 3, 1) := gd_LA_law_622.2.2.2.2.2.2.2.2.2
theorem gd_LA_law_634 : (decode code 634 = .ok (.iconst 1, 1)) ∧ (decode code 635 = .ok (.iadd, 1)) ∧ (decode code 636 = .ok (.iaload, 1)) ∧ (decode code 637 = .ok (.aload_n 0, 1)) ∧ (decode code 638 = .ok (.iload_n 3, 1)) ∧ (decode code 639 = .ok (.iconst 2, 1)) ∧ (decode code 640 = .ok (.iadd, 1)) ∧ (decode code 641 = .ok (.iaload, 1)) ∧ (decode code 642 = .ok (.invokevirtual 77, 3)) ∧ (decode code 645 = .ok (.pop, 1)) := by decide +kernel
theorem d_LA_law_634 : decode code 634 = .ok (.iconst 1, 1) := gd_LA_law_634.1
theorem d_LA_law_635 : decode code 635 = .ok (.iadd, 1) := gd_LA_law_634.2.1
theorem d_LA_law_636 : decode code 636 = .ok (.iaload, 1) := gd_LA_law_634.2.2.1
theorem d_LA_law_637 : decode code 637 = .ok (.aload_n 0, 1) := gd_LA_law_634.2.2.2.1
theorem d_LA_law_638 : decode code 638 = .ok (.iload_n 3, 1) := gd_LA_law_634.2.2.2.2.1
theorem d_LA_law_639 : decode code 639 = .ok (.iconst 2, 1) := gd_LA_law_634.2.2.2.2.2.1
theorem d_LA_law_640 : decode code 640 = .ok (.iadd, 1) := gd_LA_law_634.2.2.2.2.2.2.1
theorem d_LA_law_641 : decode code 641 = .ok (.iaload, 1) := gd_LA_law_634.2.2.2.2.2.2.2.1
theorem d_LA_law_642 : decode code 642 = .ok (.invokevirtual 77, 3) := gd_LA_law_634.2.2.2.2.2.2.2.2.1
theorem d_LA_law_645 : decode code 645 = .ok (.pop, 1) := gd_LA_law_634.2.2.2.2.2.2.2.2.2
theorem gd_LA_law_646 : (decode code 646 = .ok (.goto 263, 3)) ∧ (decode code 649 = .ok (.aload_n 1, 1)) ∧ (decode code 650 = .ok (.aload_n 0, 1)) ∧ (decode code 651 = .ok (.iload_n 3, 1)) ∧ (decode code 652 = .ok (.iconst 1, 1)) ∧ (decode code 653 = .ok (.iadd, 1)) ∧ (decode code 654 = .ok (.iaload, 1)) ∧ (decode code 655 = .ok (.aload_n 0, 1)) ∧ (decode code 656 = .ok (.iload_n 3, 1)) ∧ (decode code 657 = .ok (.iconst 2, 1)) := by decide +kernel
theorem d_LA_law_646 : decode code 646 = .ok (.goto 263, 3) := gd_LA_law_646.1
theorem d_LA_law_649 : decode code 649 = .ok (.aload_n 1, 1) := gd_LA_law_646.2.1
theorem d_LA_law_650 : decode code 650 = .ok (.aload_n 0, 1) := gd_LA_law_646.2.2.1
theorem d_LA_law_651 : decode code 651 = .ok (.iload_n 3, 1) := gd_LA_law_646.2.2.2.1
theorem d_LA_law_652 : decode code 652 = .ok (.iconst 1, 1) := gd_LA_law_646.2.2.2.2.1
theorem d_LA_law_653 : decode code 653 = .ok (.iadd, 1) := gd_LA_law_646.2.2.2.2.2.1
theorem d_LA_law_654 : decode code 654 = .ok (.iaload, 1) := gd_LA_law_646.2.2.2.2.2.2.1
theorem d_LA_law_655 : decode code 655 = .ok (.aload_n 0, 1) := gd_LA_law_646.2.2.2.2.2.2.2.1
theorem d_LA_law_656 : decode code 656 = .ok (.iload_n 3, 1) := gd_LA_law_646.2.2.2.2.2.2.2.2.1
theorem d_LA_law_657 : decode code 657 = .ok (.iconst 2, 1) := gd_LA_law_646.2.2.2.2.2.2.2.2.2
theorem gd_LA_law_658 : (decode code 658 = .ok (.iadd, 1)) ∧ (decode code 659 = .ok (.iaload, 1)) ∧ (decode code 660 = .ok (.aload_n 0, 1)) ∧ (decode code 661 = .ok (.iload_n 3, 1)) ∧ (decode code 662 = .ok (.iconst 3, 1)) ∧ (decode code 663 = .ok (.iadd, 1)) ∧ (decode code 664 = .ok (.iaload, 1)) ∧ (decode code 665 = .ok (.invokevirtual 78, 3)) ∧ (decode code 668 = .ok (.pop, 1)) ∧ (decode code 669 = .ok (.aload_n 2, 1)) := by decide +kernel
theorem d_LA_law_658 : decode code 658 = .ok (.iadd, 1) := gd_LA_law_658.1
theorem d_LA_law_659 : decode code 659 = .ok (.iaload, 1) := gd_LA_law_658.2.1
theorem d_LA_law_660 : decode code 660 = .ok (.aload_n 0, 1) := gd_LA_law_658.2.2.1
theorem d_LA_law_661 : decode code 661 = .ok (.iload_n 3, 1) := gd_LA_law_658.2.2.2.1
theorem d_LA_law_662 : decode code 662 = .ok (.iconst 3, 1) := gd_LA_law_658.2.2.2.2.1
theorem d_LA_law_663 : decode code 663 = .ok (.iadd, 1) := gd_LA_law_658.2.2.2.2.2.1
theorem d_LA_law_664 : decode code 664 = .ok (.iaload, 1) := gd_LA_law_658.2.2.2.2.2.2.1
theorem d_LA_law_665 : decode code 665 = .ok (.invokevirtual 78, 3) := gd_LA_law_658.2.2.2.2.2.2.2.1
theorem d_LA_law_668 : decode code 668 = .ok (.pop, 1) := gd_LA_law_658.2.2.2.2.2.2.2.2.1
theorem d_LA_law_669 : decode code 669 = .ok (.aload_n 2, 1) := gd_LA_law_658.2.2.2.2.2.2.2.2.2
theorem gd_LA_law_670 : (decode code 670 = .ok (.aload_n 0, 1)) ∧ (decode code 671 = .ok (.iload_n 3, 1)) ∧ (decode code 672 = .ok (.iconst 1, 1)) ∧ (decode code 673 = .ok (.iadd, 1)) ∧ (decode code 674 = .ok (.iaload, 1)) ∧ (decode code 675 = .ok (.aload_n 0, 1)) ∧ (decode code 676 = .ok (.iload_n 3, 1)) ∧ (decode code 677 = .ok (.iconst 2, 1)) ∧ (decode code 678 = .ok (.iadd, 1)) ∧ (decode code 679 = .ok (.iaload, 1)) := by decide +kernel
theorem d_LA_law_670 : decode code 670 = .ok (.aload_n 0, 1) := gd_LA_law_670.1
theorem d_LA_law_671 : decode code 671 = .ok (.iload_n 3, 1) := gd_LA_law_670.2.1
theorem d_LA_law_672 : decode code 672 = .ok (.iconst 1, 1) := gd_LA_law_670.2.2.1
theorem d_LA_law_673 : decode code 673 = .ok (.iadd, 1) := gd_LA_law_670.2.2.2.1
theorem d_LA_law_674 : decode code 674 = .ok (.iaload, 1) := gd_LA_law_670.2.2.2.2.1
theorem d_LA_law_675 : decode code 675 = .ok (.aload_n 0, 1) := gd_LA_law_670.2.2.2.2.2.1
theorem d_LA_law_676 : decode code 676 = .ok (.iload_n 3, 1) := gd_LA_law_670.2.2.2.2.2.2.1
theorem d_LA_law_677 : decode code 677 = .ok (.iconst 2, 1) := gd_LA_law_670.2.2.2.2.2.2.2.1
theorem d_LA_law_678 : decode code 678 = .ok (.iadd, 1) := gd_LA_law_670.2.2.2.2.2.2.2.2.1
theorem d_LA_law_679 : decode code 679 = .ok (.iaload, 1) := gd_LA_law_670.2.2.2.2.2.2.2.2.2
theorem gd_LA_law_680 : (decode code 680 = .ok (.aload_n 0, 1)) ∧ (decode code 681 = .ok (.iload_n 3, 1)) ∧ (decode code 682 = .ok (.iconst 3, 1)) ∧ (decode code 683 = .ok (.iadd, 1)) ∧ (decode code 684 = .ok (.iaload, 1)) ∧ (decode code 685 = .ok (.invokevirtual 81, 3)) ∧ (decode code 688 = .ok (.pop, 1)) ∧ (decode code 689 = .ok (.goto 220, 3)) ∧ (decode code 692 = .ok (.aload_n 1, 1)) ∧ (decode code 693 = .ok (.aload_n 0, 1)) := by decide +kernel
theorem d_LA_law_680 : decode code 680 = .ok (.aload_n 0, 1) := gd_LA_law_680.1
theorem d_LA_law_681 : decode code 681 = .ok (.iload_n 3, 1) := gd_LA_law_680.2.1
theorem d_LA_law_682 : decode code 682 = .ok (.iconst 3, 1) := gd_LA_law_680.2.2.1
theorem d_LA_law_683 : decode code 683 = .ok (.iadd, 1) := gd_LA_law_680.2.2.2.1
theorem d_LA_law_684 : decode code 684 = .ok (.iaload, 1) := gd_LA_law_680.2.2.2.2.1
theorem d_LA_law_685 : decode code 685 = .ok (.invokevirtual 81, 3) := gd_LA_law_680.2.2.2.2.2.1
theorem d_LA_law_688 : decode code 688 = .ok (.pop, 1) := gd_LA_law_680.2.2.2.2.2.2.1
theorem d_LA_law_689 : decode code 689 = .ok (.goto 220, 3) := gd_LA_law_680.2.2.2.2.2.2.2.1
theorem d_LA_law_692 : decode code 692 = .ok (.aload_n 1, 1) := gd_LA_law_680.2.2.2.2.2.2.2.2.1
theorem d_LA_law_693 : decode code 693 = .ok (.aload_n 0, 1) := gd_LA_law_680.2.2.2.2.2.2.2.2.2
theorem gd_LA_law_694 : (decode code 694 = .ok (.iload_n 3, 1)) ∧ (decode code 695 = .ok (.iconst 1, 1)) ∧ (decode code 696 = .ok (.iadd, 1)) ∧ (decode code 697 = .ok (.iaload, 1)) ∧ (decode code 698 = .ok (.aload_n 0, 1)) ∧ (decode code 699 = .ok (.iload_n 3, 1)) ∧ (decode code 700 = .ok (.iconst 2, 1)) ∧ (decode code 701 = .ok (.iadd, 1)) ∧ (decode code 702 = .ok (.iaload, 1)) ∧ (decode code 703 = .ok (.aload_n 0, 1)) := by decide +kernel
theorem d_LA_law_694 : decode code 694 = .ok (.iload_n 3, 1) := gd_LA_law_694.1
theorem d_LA_law_695 : decode code 695 = .ok (.iconst 1, 1) := gd_LA_law_694.2.1
theorem d_LA_law_696 : decode code 696 = .ok (.iadd, 1) := gd_LA_law_694.2.2.1
theorem d_LA_law_697 : decode code 697 = .ok (.iaload, 1) := gd_LA_law_694.2.2.2.1
theorem d_LA_law_698 : decode code 698 = .ok (.aload_n 0, 1) := gd_LA_law_694.2.2.2.2.1
theorem d_LA_law_699 : decode code 699 = .ok (.iload_n 3, 1) := gd_LA_law_694.2.2.2.2.2.1
theorem d_LA_law_700 : decode code 700 = .ok (.iconst 2, 1) := gd_LA_law_694.2.2.2.2.2.2.1
theorem d_LA_law_701 : decode code 701 = .ok (.iadd, 1) := gd_LA_law_694.2.2.2.2.2.2.2.1
theorem d_LA_law_702 : decode code 702 = .ok (.iaload, 1) := gd_LA_law_694.2.2.2.2.2.2.2.2.1
theorem d_LA_law_703 : decode code 703 = .ok (.aload_n 0, 1) := gd_LA_law_694.2.2.2.2.2.2.2.2.2
