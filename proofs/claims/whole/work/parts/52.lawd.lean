/-! the law: decode rows (printed by gen/law.py) -/
theorem d_La_law_556 : decode code 556 = .ok (.invokevirtual 62, 3) := by decide +kernel
theorem d_La_law_559 : decode code 559 = .ok (.aload_n 2, 1) := by decide +kernel
theorem d_La_law_560 : decode code 560 = .ok (.invokevirtual 65, 3) := by decide +kernel
theorem d_La_law_563 : decode code 563 = .ok (.if_icmp .eq 723, 3) := by decide +kernel
theorem d_La_law_566 : decode code 566 = .ok (.iconst 0, 1) := by decide +kernel
theorem d_La_law_567 : decode code 567 = .ok (.ireturn, 1) := by decide +kernel
theorem d_La_law_568 : decode code 568 = .ok (.aload_n 1, 1) := by decide +kernel
theorem d_La_law_569 : decode code 569 = .ok (.invokevirtual 66, 3) := by decide +kernel
theorem d_La_law_572 : decode code 572 = .ok (.aload_n 2, 1) := by decide +kernel
theorem d_La_law_573 : decode code 573 = .ok (.invokevirtual 69, 3) := by decide +kernel
theorem d_La_law_576 : decode code 576 = .ok (.if_icmp .eq 710, 3) := by decide +kernel
theorem d_La_law_579 : decode code 579 = .ok (.iconst 0, 1) := by decide +kernel
theorem d_La_law_580 : decode code 580 = .ok (.ireturn, 1) := by decide +kernel
theorem d_La_law_581 : decode code 581 = .ok (.aload_n 1, 1) := by decide +kernel
theorem d_La_law_582 : decode code 582 = .ok (.invokevirtual 70, 3) := by decide +kernel
theorem d_La_law_585 : decode code 585 = .ok (.aload_n 2, 1) := by decide +kernel
theorem d_La_law_586 : decode code 586 = .ok (.invokevirtual 73, 3) := by decide +kernel
theorem d_La_law_589 : decode code 589 = .ok (.if_icmp .eq 697, 3) := by decide +kernel
theorem d_La_law_592 : decode code 592 = .ok (.iconst 0, 1) := by decide +kernel
theorem d_La_law_593 : decode code 593 = .ok (.ireturn, 1) := by decide +kernel
theorem d_La_law_594 : decode code 594 = .ok (.aload_n 1, 1) := by decide +kernel
theorem d_La_law_595 : decode code 595 = .ok (.invokevirtual 74, 3) := by decide +kernel
theorem d_La_law_598 : decode code 598 = .ok (.aload_n 2, 1) := by decide +kernel
theorem d_La_law_599 : decode code 599 = .ok (.invokevirtual 77, 3) := by decide +kernel
theorem d_La_law_602 : decode code 602 = .ok (.if_icmp .eq 684, 3) := by decide +kernel
theorem d_La_law_605 : decode code 605 = .ok (.iconst 0, 1) := by decide +kernel
theorem d_La_law_606 : decode code 606 = .ok (.ireturn, 1) := by decide +kernel
theorem d_La_law_607 : decode code 607 = .ok (.aload_n 1, 1) := by decide +kernel
theorem d_La_law_608 : decode code 608 = .ok (.aload_n 0, 1) := by decide +kernel
theorem d_La_law_609 : decode code 609 = .ok (.iload_n 3, 1) := by decide +kernel
theorem d_La_law_610 : decode code 610 = .ok (.iconst 1, 1) := by decide +kernel
theorem d_La_law_611 : decode code 611 = .ok (.iadd, 1) := by decide +kernel
theorem d_La_law_612 : decode code 612 = .ok (.iaload, 1) := by decide +kernel
theorem d_La_law_613 : decode code 613 = .ok (.invokevirtual 78, 3) := by decide +kernel
theorem d_La_law_616 : decode code 616 = .ok (.aload_n 2, 1) := by decide +kernel
theorem d_La_law_617 : decode code 617 = .ok (.aload_n 0, 1) := by decide +kernel
theorem d_La_law_618 : decode code 618 = .ok (.iload_n 3, 1) := by decide +kernel
theorem d_La_law_619 : decode code 619 = .ok (.iconst 1, 1) := by decide +kernel
theorem d_La_law_620 : decode code 620 = .ok (.iadd, 1) := by decide +kernel
theorem d_La_law_621 : decode code 621 = .ok (.iaload, 1) := by decide +kernel
theorem d_La_law_622 : decode code 622 = .ok (.invokevirtual 81, 3) := by decide +kernel
theorem d_La_law_625 : decode code 625 = .ok (.if_icmp .eq 661, 3) := by decide +kernel
theorem d_La_law_628 : decode code 628 = .ok (.iconst 0, 1) := by decide +kernel
theorem d_La_law_629 : decode code 629 = .ok (.ireturn, 1) := by decide +kernel
theorem d_La_law_630 : decode code 630 = .ok (.aload_n 1, 1) := by decide +kernel
theorem d_La_law_631 : decode code 631 = .ok (.aload_n 0, 1) := by decide +kernel
theorem d_La_law_632 : decode code 632 = .ok (.iload_n 3, 1) := by decide +kernel
theorem d_La_law_633 : decode code 633 = .ok (.iconst 1, 1) := by decide +kernel
theorem d_La_law_634 : decode code 634 = .ok (.iadd, 1) := by decide +kernel
theorem d_La_law_635 : decode code 635 = .ok (.iaload, 1) := by decide +kernel
theorem d_La_law_636 : decode code 636 = .ok (.aload_n 0, 1) := by decide +kernel
theorem d_La_law_637 : decode code 637 = .ok (.iload_n 3, 1) := by decide +kernel
theorem d_La_law_638 : decode code 638 = .ok (.iconst 2, 1) := by decide +kernel
theorem d_La_law_639 : decode code 639 = .ok (.iadd, 1) := by decide +kernel
theorem d_La_law_640 : decode code 640 = .ok (.iaload, 1) := by decide +kernel
theorem d_La_law_641 : decode code 641 = .ok (.invokevirtual 82, 3) := by decide +kernel
theorem d_La_law_644 : decode code 644 = .ok (.aload_n 2, 1) := by decide +kernel
theorem d_La_law_645 : decode code 645 = .ok (.aload_n 0, 1) := by decide +kernel
theorem d_La_law_646 : decode code 646 = .ok (.iload_n 3, 1) := by decide +kernel
theorem d_La_law_647 : decode code 647 = .ok (.iconst 1, 1) := by decide +kernel
theorem d_La_law_648 : decode code 648 = .ok (.iadd, 1) := by decide +kernel
theorem d_La_law_649 : decode code 649 = .ok (.iaload, 1) := by decide +kernel
theorem d_La_law_650 : decode code 650 = .ok (.aload_n 0, 1) := by decide +kernel
theorem d_La_law_651 : decode code 651 = .ok (.iload_n 3, 1) := by decide +kernel
theorem d_La_law_652 : decode code 652 = .ok (.iconst 2, 1) := by decide +kernel
theorem d_La_law_653 : decode code 653 = .ok (.iadd, 1) := by decide +kernel
theorem d_La_law_654 : decode code 654 = .ok (.iaload, 1) := by decide +kernel
theorem d_La_law_655 : decode code 655 = .ok (.invokevirtual 85, 3) := by decide +kernel
theorem d_La_law_658 : decode code 658 = .ok (.if_icmp .eq 628, 3) := by decide +kernel
theorem d_La_law_661 : decode code 661 = .ok (.iconst 0, 1) := by decide +kernel
theorem d_La_law_662 : decode code 662 = .ok (.ireturn, 1) := by decide +kernel
theorem d_La_law_663 : decode code 663 = .ok (.aload_n 1, 1) := by decide +kernel
theorem d_La_law_664 : decode code 664 = .ok (.aload_n 0, 1) := by decide +kernel
theorem d_La_law_665 : decode code 665 = .ok (.iload_n 3, 1) := by decide +kernel
theorem d_La_law_666 : decode code 666 = .ok (.iconst 1, 1) := by decide +kernel
theorem d_La_law_667 : decode code 667 = .ok (.iadd, 1) := by decide +kernel
theorem d_La_law_668 : decode code 668 = .ok (.iaload, 1) := by decide +kernel
theorem d_La_law_669 : decode code 669 = .ok (.aload_n 0, 1) := by decide +kernel
theorem d_La_law_670 : decode code 670 = .ok (.iload_n 3, 1) := by decide +kernel
theorem d_La_law_671 : decode code 671 = .ok (.iconst 2, 1) := by decide +kernel
theorem d_La_law_672 : decode code 672 = .ok (.iadd, 1) := by decide +kernel
theorem d_La_law_673 : decode code 673 = .ok (.iaload, 1) := by decide +kernel
theorem d_La_law_674 : decode code 674 = .ok (.invokevirtual 86, 3) := by decide +kernel
theorem d_La_law_677 : decode code 677 = .ok (.aload_n 2, 1) := by decide +kernel
theorem d_La_law_678 : decode code 678 = .ok (.aload_n 0, 1) := by decide +kernel
theorem d_La_law_679 : decode code 679 = .ok (.iload_n 3, 1) := by decide +kernel
theorem d_La_law_680 : decode code 680 = .ok (.iconst 1, 1) := by decide +kernel
theorem d_La_law_681 : decode code 681 = .ok (.iadd, 1) := by decide +kernel
theorem d_La_law_682 : decode code 682 = .ok (.iaload, 1) := by decide +kernel
theorem d_La_law_683 : decode code 683 = .ok (.aload_n 0, 1) := by decide +kernel
theorem d_La_law_684 : decode code 684 = .ok (.iload_n 3, 1) := by decide +kernel
theorem d_La_law_685 : decode code 685 = .ok (.iconst 2, 1) := by decide +kernel
theorem d_La_law_686 : decode code 686 = .ok (.iadd, 1) := by decide +kernel
theorem d_La_law_687 : decode code 687 = .ok (.iaload, 1) := by decide +kernel
theorem d_La_law_688 : decode code 688 = .ok (.invokevirtual 89, 3) := by decide +kernel
theorem d_La_law_691 : decode code 691 = .ok (.if_icmp .eq 595, 3) := by decide +kernel
theorem d_La_law_694 : decode code 694 = .ok (.iconst 0, 1) := by decide +kernel
theorem d_La_law_695 : decode code 695 = .ok (.ireturn, 1) := by decide +kernel
theorem d_La_law_696 : decode code 696 = .ok (.aload_n 1, 1) := by decide +kernel
theorem d_La_law_697 : decode code 697 = .ok (.aload_n 0, 1) := by decide +kernel
theorem d_La_law_698 : decode code 698 = .ok (.iload_n 3, 1) := by decide +kernel
theorem d_La_law_699 : decode code 699 = .ok (.iconst 1, 1) := by decide +kernel
theorem d_La_law_700 : decode code 700 = .ok (.iadd, 1) := by decide +kernel
theorem d_La_law_701 : decode code 701 = .ok (.iaload, 1) := by decide +kernel
theorem d_La_law_702 : decode code 702 = .ok (.aload_n 0, 1) := by decide +kernel
theorem d_La_law_703 : decode code 703 = .ok (.iload_n 3, 1) := by decide +kernel
theorem d_La_law_704 : decode code 704 = .ok (.iconst 2, 1) := by decide +kernel
theorem d_La_law_705 : decode code 705 = .ok (.iadd, 1) := by decide +kernel
theorem d_La_law_706 : decode code 706 = .ok (.iaload, 1) := by decide +kernel
theorem d_La_law_707 : decode code 707 = .ok (.invokevirtual 90, 3) := by decide +kernel
theorem d_La_law_710 : decode code 710 = .ok (.aload_n 2, 1) := by decide +kernel
theorem d_La_law_711 : decode code 711 = .ok (.aload_n 0, 1) := by decide +kernel
theorem d_La_law_712 : decode code 712 = .ok (.iload_n 3, 1) := by decide +kernel
theorem d_La_law_713 : decode code 713 = .ok (.iconst 1, 1) := by decide +kernel
theorem d_La_law_714 : decode code 714 = .ok (.iadd, 1) := by decide +kernel
theorem d_La_law_715 : decode code 715 = .ok (.iaload, 1) := by decide +kernel
theorem d_La_law_716 : decode code 716 = .ok (.aload_n 0, 1) := by decide +kernel
theorem d_La_law_717 : decode code 717 = .ok (.iload_n 3, 1) := by decide +kernel
theorem d_La_law_718 : decode code 718 = .ok (.iconst 2, 1) := by decide +kernel
theorem d_La_law_719 : decode code 719 = .ok (.iadd, 1) := by decide +kernel
theorem d_La_law_720 : decode code 720 = .ok (.iaload, 1) := by decide +kernel
theorem d_La_law_721 : decode code 721 = .ok (.invokevirtual 93, 3) := by decide +kernel
theorem d_La_law_724 : decode code 724 = .ok (.if_icmp .eq 562, 3) := by decide +kernel
theorem d_La_law_727 : decode code 727 = .ok (.iconst 0, 1) := by decide +kernel
theorem d_La_law_728 : decode code 728 = .ok (.ireturn, 1) := by decide +kernel
theorem d_La_law_729 : decode code 729 = .ok (.aload_n 1, 1) := by decide +kernel
theorem d_La_law_730 : decode code 730 = .ok (.invokevirtual 94, 3) := by decide +kernel
theorem d_La_law_733 : decode code 733 = .ok (.aload_n 2, 1) := by decide +kernel
theorem d_La_law_734 : decode code 734 = .ok (.invokevirtual 97, 3) := by decide +kernel
theorem d_La_law_737 : decode code 737 = .ok (.if_icmp .eq 549, 3) := by decide +kernel
theorem d_La_law_740 : decode code 740 = .ok (.iconst 0, 1) := by decide +kernel
theorem d_La_law_741 : decode code 741 = .ok (.ireturn, 1) := by decide +kernel
theorem d_La_law_742 : decode code 742 = .ok (.aload_n 1, 1) := by decide +kernel
theorem d_La_law_743 : decode code 743 = .ok (.invokevirtual 98, 3) := by decide +kernel
theorem d_La_law_746 : decode code 746 = .ok (.aload_n 2, 1) := by decide +kernel
theorem d_La_law_747 : decode code 747 = .ok (.invokevirtual 101, 3) := by decide +kernel
theorem d_La_law_750 : decode code 750 = .ok (.if_icmp .eq 536, 3) := by decide +kernel
theorem d_La_law_753 : decode code 753 = .ok (.iconst 0, 1) := by decide +kernel
theorem d_La_law_754 : decode code 754 = .ok (.ireturn, 1) := by decide +kernel
theorem d_La_law_755 : decode code 755 = .ok (.aload_n 1, 1) := by decide +kernel
theorem d_La_law_756 : decode code 756 = .ok (.aload_n 0, 1) := by decide +kernel
theorem d_La_law_757 : decode code 757 = .ok (.iload_n 3, 1) := by decide +kernel
theorem d_La_law_758 : decode code 758 = .ok (.iconst 1, 1) := by decide +kernel
theorem d_La_law_759 : decode code 759 = .ok (.iadd, 1) := by decide +kernel
theorem d_La_law_760 : decode code 760 = .ok (.iaload, 1) := by decide +kernel
theorem d_La_law_761 : decode code 761 = .ok (.aload_n 0, 1) := by decide +kernel
theorem d_La_law_762 : decode code 762 = .ok (.iload_n 3, 1) := by decide +kernel
theorem d_La_law_763 : decode code 763 = .ok (.iconst 2, 1) := by decide +kernel
theorem d_La_law_764 : decode code 764 = .ok (.iadd, 1) := by decide +kernel
theorem d_La_law_765 : decode code 765 = .ok (.iaload, 1) := by decide +kernel
