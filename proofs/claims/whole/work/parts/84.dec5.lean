/-! the law, decoded -/
theorem dL_637 : decode code 637 = .ok (.aload_n 0, 1) := by decide +kernel
theorem dL_638 : decode code 638 = .ok (.iload_n 3, 1) := by decide +kernel
theorem dL_639 : decode code 639 = .ok (.iconst 1, 1) := by decide +kernel
theorem dL_640 : decode code 640 = .ok (.iadd, 1) := by decide +kernel
theorem dL_641 : decode code 641 = .ok (.iaload, 1) := by decide +kernel
theorem dL_642 : decode code 642 = .ok (.aload_n 0, 1) := by decide +kernel
theorem dL_643 : decode code 643 = .ok (.iload_n 3, 1) := by decide +kernel
theorem dL_644 : decode code 644 = .ok (.iconst 2, 1) := by decide +kernel
theorem dL_645 : decode code 645 = .ok (.iadd, 1) := by decide +kernel
theorem dL_646 : decode code 646 = .ok (.iaload, 1) := by decide +kernel
theorem dL_647 : decode code 647 = .ok (.invokevirtual 83, 3) := by decide +kernel
theorem dL_650 : decode code 650 = .ok (.aload_n 2, 1) := by decide +kernel
theorem dL_651 : decode code 651 = .ok (.aload_n 0, 1) := by decide +kernel
theorem dL_652 : decode code 652 = .ok (.iload_n 3, 1) := by decide +kernel
theorem dL_653 : decode code 653 = .ok (.iconst 1, 1) := by decide +kernel
theorem dL_654 : decode code 654 = .ok (.iadd, 1) := by decide +kernel
theorem dL_655 : decode code 655 = .ok (.iaload, 1) := by decide +kernel
theorem dL_656 : decode code 656 = .ok (.aload_n 0, 1) := by decide +kernel
theorem dL_657 : decode code 657 = .ok (.iload_n 3, 1) := by decide +kernel
theorem dL_658 : decode code 658 = .ok (.iconst 2, 1) := by decide +kernel
theorem dL_659 : decode code 659 = .ok (.iadd, 1) := by decide +kernel
theorem dL_660 : decode code 660 = .ok (.iaload, 1) := by decide +kernel
theorem dL_661 : decode code 661 = .ok (.invokevirtual 86, 3) := by decide +kernel
theorem dL_664 : decode code 664 = .ok (.if_icmp .eq 91, 3) := by decide +kernel
theorem dL_667 : decode code 667 = .ok (.iconst 0, 1) := by decide +kernel
theorem dL_668 : decode code 668 = .ok (.ireturn, 1) := by decide +kernel
theorem dL_669 : decode code 669 = .ok (.aload_n 1, 1) := by decide +kernel
theorem dL_670 : decode code 670 = .ok (.aload_n 0, 1) := by decide +kernel
theorem dL_671 : decode code 671 = .ok (.iload_n 3, 1) := by decide +kernel
theorem dL_672 : decode code 672 = .ok (.iconst 1, 1) := by decide +kernel
theorem dL_673 : decode code 673 = .ok (.iadd, 1) := by decide +kernel
theorem dL_674 : decode code 674 = .ok (.iaload, 1) := by decide +kernel
theorem dL_675 : decode code 675 = .ok (.invokevirtual 87, 3) := by decide +kernel
theorem dL_678 : decode code 678 = .ok (.aload_n 2, 1) := by decide +kernel
theorem dL_679 : decode code 679 = .ok (.aload_n 0, 1) := by decide +kernel
theorem dL_680 : decode code 680 = .ok (.iload_n 3, 1) := by decide +kernel
theorem dL_681 : decode code 681 = .ok (.iconst 1, 1) := by decide +kernel
theorem dL_682 : decode code 682 = .ok (.iadd, 1) := by decide +kernel
theorem dL_683 : decode code 683 = .ok (.iaload, 1) := by decide +kernel
theorem dL_684 : decode code 684 = .ok (.invokevirtual 90, 3) := by decide +kernel
theorem dL_687 : decode code 687 = .ok (.if_icmp .eq 68, 3) := by decide +kernel
theorem dL_690 : decode code 690 = .ok (.iconst 0, 1) := by decide +kernel
theorem dL_691 : decode code 691 = .ok (.ireturn, 1) := by decide +kernel
theorem dL_692 : decode code 692 = .ok (.aload_n 1, 1) := by decide +kernel
theorem dL_693 : decode code 693 = .ok (.invokevirtual 91, 3) := by decide +kernel
theorem dL_696 : decode code 696 = .ok (.aload_n 2, 1) := by decide +kernel
theorem dL_697 : decode code 697 = .ok (.invokevirtual 94, 3) := by decide +kernel
theorem dL_700 : decode code 700 = .ok (.if_icmp .eq 55, 3) := by decide +kernel
theorem dL_703 : decode code 703 = .ok (.iconst 0, 1) := by decide +kernel
theorem dL_704 : decode code 704 = .ok (.ireturn, 1) := by decide +kernel
theorem dL_705 : decode code 705 = .ok (.aload_n 1, 1) := by decide +kernel
theorem dL_706 : decode code 706 = .ok (.invokevirtual 95, 3) := by decide +kernel
theorem dL_709 : decode code 709 = .ok (.aload_n 2, 1) := by decide +kernel
theorem dL_710 : decode code 710 = .ok (.invokevirtual 98, 3) := by decide +kernel
theorem dL_713 : decode code 713 = .ok (.if_icmp .eq 42, 3) := by decide +kernel
theorem dL_716 : decode code 716 = .ok (.iconst 0, 1) := by decide +kernel
theorem dL_717 : decode code 717 = .ok (.ireturn, 1) := by decide +kernel
theorem dL_718 : decode code 718 = .ok (.aload_n 1, 1) := by decide +kernel
theorem dL_719 : decode code 719 = .ok (.aload_n 0, 1) := by decide +kernel
theorem dL_720 : decode code 720 = .ok (.iload_n 3, 1) := by decide +kernel
theorem dL_721 : decode code 721 = .ok (.iconst 1, 1) := by decide +kernel
theorem dL_722 : decode code 722 = .ok (.iadd, 1) := by decide +kernel
theorem dL_723 : decode code 723 = .ok (.iaload, 1) := by decide +kernel
theorem dL_724 : decode code 724 = .ok (.invokevirtual 99, 3) := by decide +kernel
theorem dL_727 : decode code 727 = .ok (.aload_n 2, 1) := by decide +kernel
theorem dL_728 : decode code 728 = .ok (.aload_n 0, 1) := by decide +kernel
theorem dL_729 : decode code 729 = .ok (.iload_n 3, 1) := by decide +kernel
theorem dL_730 : decode code 730 = .ok (.iconst 1, 1) := by decide +kernel
theorem dL_731 : decode code 731 = .ok (.iadd, 1) := by decide +kernel
theorem dL_732 : decode code 732 = .ok (.iaload, 1) := by decide +kernel
theorem dL_733 : decode code 733 = .ok (.invokevirtual 102, 3) := by decide +kernel
theorem dL_736 : decode code 736 = .ok (.if_icmp .eq 19, 3) := by decide +kernel
theorem dL_739 : decode code 739 = .ok (.iconst 0, 1) := by decide +kernel
theorem dL_740 : decode code 740 = .ok (.ireturn, 1) := by decide +kernel
theorem dL_741 : decode code 741 = .ok (.aload_n 1, 1) := by decide +kernel
theorem dL_742 : decode code 742 = .ok (.invokevirtual 103, 3) := by decide +kernel
theorem dL_745 : decode code 745 = .ok (.aload_n 2, 1) := by decide +kernel
theorem dL_746 : decode code 746 = .ok (.invokevirtual 107, 3) := by decide +kernel
theorem dL_749 : decode code 749 = .ok (.lcmp, 1) := by decide +kernel
theorem dL_750 : decode code 750 = .ok (.ifCond .eq 5, 3) := by decide +kernel
theorem dL_753 : decode code 753 = .ok (.iconst 0, 1) := by decide +kernel
theorem dL_754 : decode code 754 = .ok (.ireturn, 1) := by decide +kernel
theorem dL_755 : decode code 755 = .ok (.iinc 3 7, 3) := by decide +kernel
theorem dL_758 : decode code 758 = .ok (.goto (-740), 3) := by decide +kernel
theorem dL_761 : decode code 761 = .ok (.iconst 1, 1) := by decide +kernel
