theorem d_Law_law_515 : decode code 515 = .ok (.laload, 1) := by decide +kernel
theorem d_Law_law_516 : decode code 516 = .ok (.iload 6, 2) := by decide +kernel
theorem d_Law_law_518 : decode code 518 = .ok (.i2l, 1) := by decide +kernel
theorem d_Law_law_519 : decode code 519 = .ok (.lcmp, 1) := by decide +kernel
theorem d_Law_law_520 : decode code 520 = .ok (.ifCond .eq 5, 3) := by decide +kernel
theorem d_Law_law_523 : decode code 523 = .ok (.iconst 0, 1) := by decide +kernel
theorem d_Law_law_524 : decode code 524 = .ok (.ireturn, 1) := by decide +kernel
theorem d_Law_law_525 : decode code 525 = .ok (.goto 856, 3) := by decide +kernel
theorem d_Law_law_528 : decode code 528 = .ok (.aload_n 1, 1) := by decide +kernel
theorem d_Law_law_529 : decode code 529 = .ok (.aload_n 0, 1) := by decide +kernel
theorem d_Law_law_530 : decode code 530 = .ok (.iload 4, 2) := by decide +kernel
theorem d_Law_law_532 : decode code 532 = .ok (.iconst 1, 1) := by decide +kernel
theorem d_Law_law_533 : decode code 533 = .ok (.iadd, 1) := by decide +kernel
theorem d_Law_law_534 : decode code 534 = .ok (.iaload, 1) := by decide +kernel
theorem d_Law_law_535 : decode code 535 = .ok (.invokevirtual 70, 3) := by decide +kernel
theorem d_Law_law_538 : decode code 538 = .ok (.aload_n 2, 1) := by decide +kernel
theorem d_Law_law_539 : decode code 539 = .ok (.aload_n 0, 1) := by decide +kernel
theorem d_Law_law_540 : decode code 540 = .ok (.iload 4, 2) := by decide +kernel
theorem d_Law_law_542 : decode code 542 = .ok (.iconst 1, 1) := by decide +kernel
theorem d_Law_law_543 : decode code 543 = .ok (.iadd, 1) := by decide +kernel
theorem d_Law_law_544 : decode code 544 = .ok (.iaload, 1) := by decide +kernel
theorem d_Law_law_545 : decode code 545 = .ok (.invokevirtual 74, 3) := by decide +kernel
theorem d_Law_law_548 : decode code 548 = .ok (.if_icmp .eq 833, 3) := by decide +kernel
theorem d_Law_law_551 : decode code 551 = .ok (.iconst 0, 1) := by decide +kernel
theorem d_Law_law_552 : decode code 552 = .ok (.ireturn, 1) := by decide +kernel
theorem d_Law_law_553 : decode code 553 = .ok (.aload_n 1, 1) := by decide +kernel
theorem d_Law_law_554 : decode code 554 = .ok (.aload_n 0, 1) := by decide +kernel
theorem d_Law_law_555 : decode code 555 = .ok (.iload 4, 2) := by decide +kernel
theorem d_Law_law_557 : decode code 557 = .ok (.iconst 1, 1) := by decide +kernel
theorem d_Law_law_558 : decode code 558 = .ok (.iadd, 1) := by decide +kernel
theorem d_Law_law_559 : decode code 559 = .ok (.iaload, 1) := by decide +kernel
theorem d_Law_law_560 : decode code 560 = .ok (.aload_n 0, 1) := by decide +kernel
theorem d_Law_law_561 : decode code 561 = .ok (.iload 4, 2) := by decide +kernel
theorem d_Law_law_563 : decode code 563 = .ok (.iconst 2, 1) := by decide +kernel
theorem d_Law_law_564 : decode code 564 = .ok (.iadd, 1) := by decide +kernel
theorem d_Law_law_565 : decode code 565 = .ok (.iaload, 1) := by decide +kernel
theorem d_Law_law_566 : decode code 566 = .ok (.invokevirtual 75, 3) := by decide +kernel
theorem d_Law_law_569 : decode code 569 = .ok (.aload_n 2, 1) := by decide +kernel
theorem d_Law_law_570 : decode code 570 = .ok (.aload_n 0, 1) := by decide +kernel
theorem d_Law_law_571 : decode code 571 = .ok (.iload 4, 2) := by decide +kernel
theorem d_Law_law_573 : decode code 573 = .ok (.iconst 1, 1) := by decide +kernel
theorem d_Law_law_574 : decode code 574 = .ok (.iadd, 1) := by decide +kernel
theorem d_Law_law_575 : decode code 575 = .ok (.iaload, 1) := by decide +kernel
theorem d_Law_law_576 : decode code 576 = .ok (.aload_n 0, 1) := by decide +kernel
theorem d_Law_law_577 : decode code 577 = .ok (.iload 4, 2) := by decide +kernel
theorem d_Law_law_579 : decode code 579 = .ok (.iconst 2, 1) := by decide +kernel
theorem d_Law_law_580 : decode code 580 = .ok (.iadd, 1) := by decide +kernel
theorem d_Law_law_581 : decode code 581 = .ok (.iaload, 1) := by decide +kernel
theorem d_Law_law_582 : decode code 582 = .ok (.invokevirtual 78, 3) := by decide +kernel
theorem d_Law_law_585 : decode code 585 = .ok (.if_icmp .eq 796, 3) := by decide +kernel
theorem d_Law_law_588 : decode code 588 = .ok (.iconst 0, 1) := by decide +kernel
theorem d_Law_law_589 : decode code 589 = .ok (.ireturn, 1) := by decide +kernel
theorem d_Law_law_590 : decode code 590 = .ok (.aload_n 1, 1) := by decide +kernel
theorem d_Law_law_591 : decode code 591 = .ok (.aload_n 0, 1) := by decide +kernel
theorem d_Law_law_592 : decode code 592 = .ok (.iload 4, 2) := by decide +kernel
theorem d_Law_law_594 : decode code 594 = .ok (.iconst 1, 1) := by decide +kernel
theorem d_Law_law_595 : decode code 595 = .ok (.iadd, 1) := by decide +kernel
theorem d_Law_law_596 : decode code 596 = .ok (.iaload, 1) := by decide +kernel
theorem d_Law_law_597 : decode code 597 = .ok (.aload_n 0, 1) := by decide +kernel
theorem d_Law_law_598 : decode code 598 = .ok (.iload 4, 2) := by decide +kernel
theorem d_Law_law_600 : decode code 600 = .ok (.iconst 2, 1) := by decide +kernel
theorem d_Law_law_601 : decode code 601 = .ok (.iadd, 1) := by decide +kernel
theorem d_Law_law_602 : decode code 602 = .ok (.iaload, 1) := by decide +kernel
theorem d_Law_law_603 : decode code 603 = .ok (.invokevirtual 79, 3) := by decide +kernel
theorem d_Law_law_606 : decode code 606 = .ok (.aload_n 2, 1) := by decide +kernel
theorem d_Law_law_607 : decode code 607 = .ok (.aload_n 0, 1) := by decide +kernel
theorem d_Law_law_608 : decode code 608 = .ok (.iload 4, 2) := by decide +kernel
theorem d_Law_law_610 : decode code 610 = .ok (.iconst 1, 1) := by decide +kernel
theorem d_Law_law_611 : decode code 611 = .ok (.iadd, 1) := by decide +kernel
theorem d_Law_law_612 : decode code 612 = .ok (.iaload, 1) := by decide +kernel
theorem d_Law_law_613 : decode code 613 = .ok (.aload_n 0, 1) := by decide +kernel
theorem d_Law_law_614 : decode code 614 = .ok (.iload 4, 2) := by decide +kernel
theorem d_Law_law_616 : decode code 616 = .ok (.iconst 2, 1) := by decide +kernel
theorem d_Law_law_617 : decode code 617 = .ok (.iadd, 1) := by decide +kernel
theorem d_Law_law_618 : decode code 618 = .ok (.iaload, 1) := by decide +kernel
theorem d_Law_law_619 : decode code 619 = .ok (.invokevirtual 83, 3) := by decide +kernel
theorem d_Law_law_622 : decode code 622 = .ok (.if_icmp .eq 759, 3) := by decide +kernel
theorem d_Law_law_625 : decode code 625 = .ok (.iconst 0, 1) := by decide +kernel
theorem d_Law_law_626 : decode code 626 = .ok (.ireturn, 1) := by decide +kernel
theorem d_Law_law_627 : decode code 627 = .ok (.aload_n 1, 1) := by decide +kernel
theorem d_Law_law_628 : decode code 628 = .ok (.invokevirtual 84, 3) := by decide +kernel
theorem d_Law_law_631 : decode code 631 = .ok (.aload_n 2, 1) := by decide +kernel
theorem d_Law_law_632 : decode code 632 = .ok (.invokevirtual 87, 3) := by decide +kernel
theorem d_Law_law_635 : decode code 635 = .ok (.if_icmp .eq 746, 3) := by decide +kernel
theorem d_Law_law_638 : decode code 638 = .ok (.iconst 0, 1) := by decide +kernel
theorem d_Law_law_639 : decode code 639 = .ok (.ireturn, 1) := by decide +kernel
theorem d_Law_law_640 : decode code 640 = .ok (.aload_n 1, 1) := by decide +kernel
theorem d_Law_law_641 : decode code 641 = .ok (.aload_n 0, 1) := by decide +kernel
theorem d_Law_law_642 : decode code 642 = .ok (.iload 4, 2) := by decide +kernel
theorem d_Law_law_644 : decode code 644 = .ok (.iconst 1, 1) := by decide +kernel
theorem d_Law_law_645 : decode code 645 = .ok (.iadd, 1) := by decide +kernel
theorem d_Law_law_646 : decode code 646 = .ok (.iaload, 1) := by decide +kernel
theorem d_Law_law_647 : decode code 647 = .ok (.invokevirtual 88, 3) := by decide +kernel
theorem d_Law_law_650 : decode code 650 = .ok (.aload_n 2, 1) := by decide +kernel
theorem d_Law_law_651 : decode code 651 = .ok (.aload_n 0, 1) := by decide +kernel
theorem d_Law_law_652 : decode code 652 = .ok (.iload 4, 2) := by decide +kernel
theorem d_Law_law_654 : decode code 654 = .ok (.iconst 1, 1) := by decide +kernel
theorem d_Law_law_655 : decode code 655 = .ok (.iadd, 1) := by decide +kernel
theorem d_Law_law_656 : decode code 656 = .ok (.iaload, 1) := by decide +kernel
theorem d_Law_law_657 : decode code 657 = .ok (.invokevirtual 91, 3) := by decide +kernel
theorem d_Law_law_660 : decode code 660 = .ok (.if_icmp .eq 721, 3) := by decide +kernel
theorem d_Law_law_663 : decode code 663 = .ok (.iconst 0, 1) := by decide +kernel
theorem d_Law_law_664 : decode code 664 = .ok (.ireturn, 1) := by decide +kernel
theorem d_Law_law_665 : decode code 665 = .ok (.aload_n 1, 1) := by decide +kernel
theorem d_Law_law_666 : decode code 666 = .ok (.invokevirtual 92, 3) := by decide +kernel
theorem d_Law_law_669 : decode code 669 = .ok (.aload_n 2, 1) := by decide +kernel
theorem d_Law_law_670 : decode code 670 = .ok (.invokevirtual 95, 3) := by decide +kernel
theorem d_Law_law_673 : decode code 673 = .ok (.if_icmp .eq 708, 3) := by decide +kernel
theorem d_Law_law_676 : decode code 676 = .ok (.iconst 0, 1) := by decide +kernel
theorem d_Law_law_677 : decode code 677 = .ok (.ireturn, 1) := by decide +kernel
theorem d_Law_law_678 : decode code 678 = .ok (.aload_n 1, 1) := by decide +kernel
theorem d_Law_law_679 : decode code 679 = .ok (.invokevirtual 96, 3) := by decide +kernel
theorem d_Law_law_682 : decode code 682 = .ok (.aload_n 2, 1) := by decide +kernel
theorem d_Law_law_683 : decode code 683 = .ok (.invokevirtual 99, 3) := by decide +kernel
theorem d_Law_law_686 : decode code 686 = .ok (.if_icmp .eq 695, 3) := by decide +kernel
theorem d_Law_law_689 : decode code 689 = .ok (.iconst 0, 1) := by decide +kernel
theorem d_Law_law_690 : decode code 690 = .ok (.ireturn, 1) := by decide +kernel
theorem d_Law_law_691 : decode code 691 = .ok (.aload_n 1, 1) := by decide +kernel
theorem d_Law_law_692 : decode code 692 = .ok (.aload_n 0, 1) := by decide +kernel
theorem d_Law_law_693 : decode code 693 = .ok (.iload 4, 2) := by decide +kernel
