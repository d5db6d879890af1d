/-! The law, decoded, 3 -/
theorem dL_law_554 : decode code 554 = .ok (.iload_n 2, 1) := by decide +kernel
theorem dL_law_555 : decode code 555 = .ok (.iconst 1, 1) := by decide +kernel
theorem dL_law_556 : decode code 556 = .ok (.if_icmp .ne 7, 3) := by decide +kernel
theorem dL_law_559 : decode code 559 = .ok (.iconst 1, 1) := by decide +kernel
theorem dL_law_560 : decode code 560 = .ok (.goto 5, 3) := by decide +kernel
theorem dL_law_563 : decode code 563 = .ok (.bipush (-2), 2) := by decide +kernel
theorem dL_law_565 : decode code 565 = .ok (.if_icmp .ne 151, 3) := by decide +kernel
theorem dL_law_568 : decode code 568 = .ok (.aload_n 1, 1) := by decide +kernel
theorem dL_law_569 : decode code 569 = .ok (.bipush 9, 2) := by decide +kernel
theorem dL_law_571 : decode code 571 = .ok (.invokevirtual 44, 3) := by decide +kernel
theorem dL_law_574 : decode code 574 = .ok (.iload_n 2, 1) := by decide +kernel
theorem dL_law_575 : decode code 575 = .ok (.ifCond .ne 7, 3) := by decide +kernel
theorem dL_law_578 : decode code 578 = .ok (.iconst 3, 1) := by decide +kernel
theorem dL_law_579 : decode code 579 = .ok (.goto 13, 3) := by decide +kernel
theorem dL_law_582 : decode code 582 = .ok (.iload_n 2, 1) := by decide +kernel
theorem dL_law_583 : decode code 583 = .ok (.iconst 1, 1) := by decide +kernel
theorem dL_law_584 : decode code 584 = .ok (.if_icmp .ne 7, 3) := by decide +kernel
theorem dL_law_587 : decode code 587 = .ok (.iconst 5, 1) := by decide +kernel
theorem dL_law_588 : decode code 588 = .ok (.goto 4, 3) := by decide +kernel
theorem dL_law_591 : decode code 591 = .ok (.iconst 4, 1) := by decide +kernel
theorem dL_law_592 : decode code 592 = .ok (.if_icmp .ne 124, 3) := by decide +kernel
theorem dL_law_595 : decode code 595 = .ok (.aload_n 1, 1) := by decide +kernel
theorem dL_law_596 : decode code 596 = .ok (.invokevirtual 102, 3) := by decide +kernel
theorem dL_law_599 : decode code 599 = .ok (.iconst 4, 1) := by decide +kernel
theorem dL_law_600 : decode code 600 = .ok (.if_icmp .ne 116, 3) := by decide +kernel
theorem dL_law_603 : decode code 603 = .ok (.aload_n 1, 1) := by decide +kernel
theorem dL_law_604 : decode code 604 = .ok (.iconst 1, 1) := by decide +kernel
theorem dL_law_605 : decode code 605 = .ok (.invokevirtual 96, 3) := by decide +kernel
theorem dL_law_608 : decode code 608 = .ok (.iconst 1, 1) := by decide +kernel
theorem dL_law_609 : decode code 609 = .ok (.if_icmp .ne 107, 3) := by decide +kernel
theorem dL_law_612 : decode code 612 = .ok (.aload_n 1, 1) := by decide +kernel
theorem dL_law_613 : decode code 613 = .ok (.bipush 9, 2) := by decide +kernel
theorem dL_law_615 : decode code 615 = .ok (.invokevirtual 44, 3) := by decide +kernel
theorem dL_law_618 : decode code 618 = .ok (.iconst 5, 1) := by decide +kernel
theorem dL_law_619 : decode code 619 = .ok (.if_icmp .ne 97, 3) := by decide +kernel
theorem dL_law_622 : decode code 622 = .ok (.aload_n 1, 1) := by decide +kernel
theorem dL_law_623 : decode code 623 = .ok (.iconst 2, 1) := by decide +kernel
theorem dL_law_624 : decode code 624 = .ok (.invokevirtual 96, 3) := by decide +kernel
theorem dL_law_627 : decode code 627 = .ok (.ifCond .ne 89, 3) := by decide +kernel
theorem dL_law_630 : decode code 630 = .ok (.aload_n 1, 1) := by decide +kernel
theorem dL_law_631 : decode code 631 = .ok (.invokevirtual 105, 3) := by decide +kernel
theorem dL_law_634 : decode code 634 = .ok (.iconst 1, 1) := by decide +kernel
theorem dL_law_635 : decode code 635 = .ok (.if_icmp .ne 81, 3) := by decide +kernel
theorem dL_law_638 : decode code 638 = .ok (.aload_n 1, 1) := by decide +kernel
theorem dL_law_639 : decode code 639 = .ok (.iconst 1, 1) := by decide +kernel
theorem dL_law_640 : decode code 640 = .ok (.invokevirtual 96, 3) := by decide +kernel
theorem dL_law_643 : decode code 643 = .ok (.iload_n 3, 1) := by decide +kernel
theorem dL_law_644 : decode code 644 = .ok (.ifCond .ne 7, 3) := by decide +kernel
theorem dL_law_647 : decode code 647 = .ok (.iconst 2, 1) := by decide +kernel
theorem dL_law_648 : decode code 648 = .ok (.goto 14, 3) := by decide +kernel
theorem dL_law_651 : decode code 651 = .ok (.iload_n 3, 1) := by decide +kernel
theorem dL_law_652 : decode code 652 = .ok (.iconst 1, 1) := by decide +kernel
theorem dL_law_653 : decode code 653 = .ok (.if_icmp .ne 7, 3) := by decide +kernel
theorem dL_law_656 : decode code 656 = .ok (.iconst 1, 1) := by decide +kernel
theorem dL_law_657 : decode code 657 = .ok (.goto 5, 3) := by decide +kernel
theorem dL_law_660 : decode code 660 = .ok (.bipush (-2), 2) := by decide +kernel
theorem dL_law_662 : decode code 662 = .ok (.if_icmp .ne 54, 3) := by decide +kernel
theorem dL_law_665 : decode code 665 = .ok (.iload_n 3, 1) := by decide +kernel
theorem dL_law_666 : decode code 666 = .ok (.iconst 2, 1) := by decide +kernel
theorem dL_law_667 : decode code 667 = .ok (.if_icmp .ge 22, 3) := by decide +kernel
theorem dL_law_670 : decode code 670 = .ok (.aload_n 1, 1) := by decide +kernel
theorem dL_law_671 : decode code 671 = .ok (.invokevirtual 108, 3) := by decide +kernel
theorem dL_law_674 : decode code 674 = .ok (.iconst 2, 1) := by decide +kernel
theorem dL_law_675 : decode code 675 = .ok (.if_icmp .ne 41, 3) := by decide +kernel
theorem dL_law_678 : decode code 678 = .ok (.aload_n 1, 1) := by decide +kernel
theorem dL_law_679 : decode code 679 = .ok (.bipush 9, 2) := by decide +kernel
theorem dL_law_681 : decode code 681 = .ok (.invokevirtual 44, 3) := by decide +kernel
theorem dL_law_684 : decode code 684 = .ok (.bipush 6, 2) := by decide +kernel
theorem dL_law_686 : decode code 686 = .ok (.if_icmp .ne 30, 3) := by decide +kernel
theorem dL_law_689 : decode code 689 = .ok (.aload_n 1, 1) := by decide +kernel
theorem dL_law_690 : decode code 690 = .ok (.iconst 0, 1) := by decide +kernel
theorem dL_law_691 : decode code 691 = .ok (.invokevirtual 96, 3) := by decide +kernel
theorem dL_law_694 : decode code 694 = .ok (.iload_n 2, 1) := by decide +kernel
theorem dL_law_695 : decode code 695 = .ok (.ifCond .ne 7, 3) := by decide +kernel
theorem dL_law_698 : decode code 698 = .ok (.iconst 3, 1) := by decide +kernel
theorem dL_law_699 : decode code 699 = .ok (.goto 14, 3) := by decide +kernel
theorem dL_law_702 : decode code 702 = .ok (.iload_n 2, 1) := by decide +kernel
theorem dL_law_703 : decode code 703 = .ok (.iconst 1, 1) := by decide +kernel
theorem dL_law_704 : decode code 704 = .ok (.if_icmp .ne 7, 3) := by decide +kernel
theorem dL_law_707 : decode code 707 = .ok (.iconst 2, 1) := by decide +kernel
theorem dL_law_708 : decode code 708 = .ok (.goto 5, 3) := by decide +kernel
theorem dL_law_711 : decode code 711 = .ok (.bipush (-2), 2) := by decide +kernel
theorem dL_law_713 : decode code 713 = .ok (.if_icmp .eq 5, 3) := by decide +kernel
theorem dL_law_716 : decode code 716 = .ok (.iconst 0, 1) := by decide +kernel
theorem dL_law_717 : decode code 717 = .ok (.ireturn, 1) := by decide +kernel
theorem dL_law_718 : decode code 718 = .ok (.aload_n 1, 1) := by decide +kernel
theorem dL_law_719 : decode code 719 = .ok (.ldc 111, 2) := by decide +kernel
theorem dL_law_721 : decode code 721 = .ok (.invokestatic 41, 3) := by decide +kernel
theorem dL_law_724 : decode code 724 = .ok (.bipush 11, 2) := by decide +kernel
theorem dL_law_726 : decode code 726 = .ok (.if_icmp .ne 135, 3) := by decide +kernel
theorem dL_law_729 : decode code 729 = .ok (.aload_n 1, 1) := by decide +kernel
theorem dL_law_730 : decode code 730 = .ok (.iconst 3, 1) := by decide +kernel
theorem dL_law_731 : decode code 731 = .ok (.invokevirtual 44, 3) := by decide +kernel
theorem dL_law_734 : decode code 734 = .ok (.bipush 10, 2) := by decide +kernel
theorem dL_law_736 : decode code 736 = .ok (.if_icmp .ne 125, 3) := by decide +kernel
theorem dL_law_739 : decode code 739 = .ok (.aload_n 1, 1) := by decide +kernel
theorem dL_law_740 : decode code 740 = .ok (.invokevirtual 47, 3) := by decide +kernel
theorem dL_law_743 : decode code 743 = .ok (.ifCond .ne 118, 3) := by decide +kernel
theorem dL_law_746 : decode code 746 = .ok (.aload_n 1, 1) := by decide +kernel
theorem dL_law_747 : decode code 747 = .ok (.iconst 4, 1) := by decide +kernel
