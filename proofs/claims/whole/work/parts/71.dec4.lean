theorem dL_law_624 : decode code 624 = .ok (.aload_n 0, 1) := by decide +kernel
theorem dL_law_625 : decode code 625 = .ok (.iload_n 3, 1) := by decide +kernel
theorem dL_law_626 : decode code 626 = .ok (.iconst 1, 1) := by decide +kernel
theorem dL_law_627 : decode code 627 = .ok (.iadd, 1) := by decide +kernel
theorem dL_law_628 : decode code 628 = .ok (.iaload, 1) := by decide +kernel
theorem dL_law_629 : decode code 629 = .ok (.invokevirtual 61, 3) := by decide +kernel
theorem dL_law_632 : decode code 632 = .ok (.if_icmp .eq 730, 3) := by decide +kernel
theorem dL_law_635 : decode code 635 = .ok (.iconst 0, 1) := by decide +kernel
theorem dL_law_636 : decode code 636 = .ok (.ireturn, 1) := by decide +kernel
theorem dL_law_637 : decode code 637 = .ok (.aload_n 1, 1) := by decide +kernel
theorem dL_law_638 : decode code 638 = .ok (.aload_n 0, 1) := by decide +kernel
theorem dL_law_639 : decode code 639 = .ok (.iload_n 3, 1) := by decide +kernel
theorem dL_law_640 : decode code 640 = .ok (.iconst 1, 1) := by decide +kernel
theorem dL_law_641 : decode code 641 = .ok (.iadd, 1) := by decide +kernel
theorem dL_law_642 : decode code 642 = .ok (.iaload, 1) := by decide +kernel
theorem dL_law_643 : decode code 643 = .ok (.i2l, 1) := by decide +kernel
theorem dL_law_644 : decode code 644 = .ok (.bipush 32, 2) := by decide +kernel
theorem dL_law_646 : decode code 646 = .ok (.lshl, 1) := by decide +kernel
theorem dL_law_647 : decode code 647 = .ok (.aload_n 0, 1) := by decide +kernel
theorem dL_law_648 : decode code 648 = .ok (.iload_n 3, 1) := by decide +kernel
theorem dL_law_649 : decode code 649 = .ok (.iconst 2, 1) := by decide +kernel
theorem dL_law_650 : decode code 650 = .ok (.iadd, 1) := by decide +kernel
theorem dL_law_651 : decode code 651 = .ok (.iaload, 1) := by decide +kernel
theorem dL_law_652 : decode code 652 = .ok (.i2l, 1) := by decide +kernel
theorem dL_law_653 : decode code 653 = .ok (.ldc2_w 62, 3) := by decide +kernel
theorem dL_law_656 : decode code 656 = .ok (.land, 1) := by decide +kernel
theorem dL_law_657 : decode code 657 = .ok (.lor, 1) := by decide +kernel
theorem dL_law_658 : decode code 658 = .ok (.aload_n 0, 1) := by decide +kernel
theorem dL_law_659 : decode code 659 = .ok (.iload_n 3, 1) := by decide +kernel
theorem dL_law_660 : decode code 660 = .ok (.iconst 3, 1) := by decide +kernel
theorem dL_law_661 : decode code 661 = .ok (.iadd, 1) := by decide +kernel
theorem dL_law_662 : decode code 662 = .ok (.iaload, 1) := by decide +kernel
theorem dL_law_663 : decode code 663 = .ok (.invokevirtual 64, 3) := by decide +kernel
theorem dL_law_666 : decode code 666 = .ok (.aload_n 2, 1) := by decide +kernel
theorem dL_law_667 : decode code 667 = .ok (.aload_n 0, 1) := by decide +kernel
theorem dL_law_668 : decode code 668 = .ok (.iload_n 3, 1) := by decide +kernel
theorem dL_law_669 : decode code 669 = .ok (.iconst 1, 1) := by decide +kernel
theorem dL_law_670 : decode code 670 = .ok (.iadd, 1) := by decide +kernel
theorem dL_law_671 : decode code 671 = .ok (.iaload, 1) := by decide +kernel
theorem dL_law_672 : decode code 672 = .ok (.i2l, 1) := by decide +kernel
theorem dL_law_673 : decode code 673 = .ok (.bipush 32, 2) := by decide +kernel
theorem dL_law_675 : decode code 675 = .ok (.lshl, 1) := by decide +kernel
theorem dL_law_676 : decode code 676 = .ok (.aload_n 0, 1) := by decide +kernel
theorem dL_law_677 : decode code 677 = .ok (.iload_n 3, 1) := by decide +kernel
theorem dL_law_678 : decode code 678 = .ok (.iconst 2, 1) := by decide +kernel
theorem dL_law_679 : decode code 679 = .ok (.iadd, 1) := by decide +kernel
theorem dL_law_680 : decode code 680 = .ok (.iaload, 1) := by decide +kernel
theorem dL_law_681 : decode code 681 = .ok (.i2l, 1) := by decide +kernel
theorem dL_law_682 : decode code 682 = .ok (.ldc2_w 62, 3) := by decide +kernel
theorem dL_law_685 : decode code 685 = .ok (.land, 1) := by decide +kernel
theorem dL_law_686 : decode code 686 = .ok (.lor, 1) := by decide +kernel
theorem dL_law_687 : decode code 687 = .ok (.aload_n 0, 1) := by decide +kernel
theorem dL_law_688 : decode code 688 = .ok (.iload_n 3, 1) := by decide +kernel
theorem dL_law_689 : decode code 689 = .ok (.iconst 3, 1) := by decide +kernel
theorem dL_law_690 : decode code 690 = .ok (.iadd, 1) := by decide +kernel
theorem dL_law_691 : decode code 691 = .ok (.iaload, 1) := by decide +kernel
theorem dL_law_692 : decode code 692 = .ok (.invokevirtual 68, 3) := by decide +kernel
theorem dL_law_695 : decode code 695 = .ok (.if_icmp .eq 667, 3) := by decide +kernel
theorem dL_law_698 : decode code 698 = .ok (.iconst 0, 1) := by decide +kernel
theorem dL_law_699 : decode code 699 = .ok (.ireturn, 1) := by decide +kernel
theorem dL_law_700 : decode code 700 = .ok (.aload_n 1, 1) := by decide +kernel
theorem dL_law_701 : decode code 701 = .ok (.invokevirtual 69, 3) := by decide +kernel
theorem dL_law_704 : decode code 704 = .ok (.aload_n 2, 1) := by decide +kernel
theorem dL_law_705 : decode code 705 = .ok (.invokevirtual 73, 3) := by decide +kernel
theorem dL_law_708 : decode code 708 = .ok (.if_icmp .eq 654, 3) := by decide +kernel
theorem dL_law_711 : decode code 711 = .ok (.iconst 0, 1) := by decide +kernel
theorem dL_law_712 : decode code 712 = .ok (.ireturn, 1) := by decide +kernel
theorem dL_law_713 : decode code 713 = .ok (.aload_n 1, 1) := by decide +kernel
theorem dL_law_714 : decode code 714 = .ok (.invokevirtual 74, 3) := by decide +kernel
theorem dL_law_717 : decode code 717 = .ok (.aload_n 2, 1) := by decide +kernel
theorem dL_law_718 : decode code 718 = .ok (.invokevirtual 77, 3) := by decide +kernel
theorem dL_law_721 : decode code 721 = .ok (.if_icmp .eq 641, 3) := by decide +kernel
theorem dL_law_724 : decode code 724 = .ok (.iconst 0, 1) := by decide +kernel
theorem dL_law_725 : decode code 725 = .ok (.ireturn, 1) := by decide +kernel
theorem dL_law_726 : decode code 726 = .ok (.aload_n 1, 1) := by decide +kernel
theorem dL_law_727 : decode code 727 = .ok (.aload_n 0, 1) := by decide +kernel
theorem dL_law_728 : decode code 728 = .ok (.iload_n 3, 1) := by decide +kernel
theorem dL_law_729 : decode code 729 = .ok (.iconst 1, 1) := by decide +kernel
theorem dL_law_730 : decode code 730 = .ok (.iadd, 1) := by decide +kernel
theorem dL_law_731 : decode code 731 = .ok (.iaload, 1) := by decide +kernel
theorem dL_law_732 : decode code 732 = .ok (.aload_n 0, 1) := by decide +kernel
theorem dL_law_733 : decode code 733 = .ok (.iload_n 3, 1) := by decide +kernel
theorem dL_law_734 : decode code 734 = .ok (.iconst 2, 1) := by decide +kernel
theorem dL_law_735 : decode code 735 = .ok (.iadd, 1) := by decide +kernel
theorem dL_law_736 : decode code 736 = .ok (.iaload, 1) := by decide +kernel
theorem dL_law_737 : decode code 737 = .ok (.invokevirtual 78, 3) := by decide +kernel
theorem dL_law_740 : decode code 740 = .ok (.aload_n 2, 1) := by decide +kernel
theorem dL_law_741 : decode code 741 = .ok (.aload_n 0, 1) := by decide +kernel
theorem dL_law_742 : decode code 742 = .ok (.iload_n 3, 1) := by decide +kernel
theorem dL_law_743 : decode code 743 = .ok (.iconst 1, 1) := by decide +kernel
theorem dL_law_744 : decode code 744 = .ok (.iadd, 1) := by decide +kernel
theorem dL_law_745 : decode code 745 = .ok (.iaload, 1) := by decide +kernel
theorem dL_law_746 : decode code 746 = .ok (.aload_n 0, 1) := by decide +kernel
theorem dL_law_747 : decode code 747 = .ok (.iload_n 3, 1) := by decide +kernel
theorem dL_law_748 : decode code 748 = .ok (.iconst 2, 1) := by decide +kernel
