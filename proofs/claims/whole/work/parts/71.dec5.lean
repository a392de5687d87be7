theorem dL_law_749 : decode code 749 = .ok (.iadd, 1) := by decide +kernel
theorem dL_law_750 : decode code 750 = .ok (.iaload, 1) := by decide +kernel
theorem dL_law_751 : decode code 751 = .ok (.invokevirtual 81, 3) := by decide +kernel
theorem dL_law_754 : decode code 754 = .ok (.if_icmp .eq 608, 3) := by decide +kernel
theorem dL_law_757 : decode code 757 = .ok (.iconst 0, 1) := by decide +kernel
theorem dL_law_758 : decode code 758 = .ok (.ireturn, 1) := by decide +kernel
theorem dL_law_759 : decode code 759 = .ok (.aload_n 1, 1) := by decide +kernel
theorem dL_law_760 : decode code 760 = .ok (.aload_n 0, 1) := by decide +kernel
theorem dL_law_761 : decode code 761 = .ok (.iload_n 3, 1) := by decide +kernel
theorem dL_law_762 : decode code 762 = .ok (.iconst 1, 1) := by decide +kernel
theorem dL_law_763 : decode code 763 = .ok (.iadd, 1) := by decide +kernel
theorem dL_law_764 : decode code 764 = .ok (.iaload, 1) := by decide +kernel
theorem dL_law_765 : decode code 765 = .ok (.invokevirtual 82, 3) := by decide +kernel
theorem dL_law_768 : decode code 768 = .ok (.aload_n 2, 1) := by decide +kernel
theorem dL_law_769 : decode code 769 = .ok (.aload_n 0, 1) := by decide +kernel
theorem dL_law_770 : decode code 770 = .ok (.iload_n 3, 1) := by decide +kernel
theorem dL_law_771 : decode code 771 = .ok (.iconst 1, 1) := by decide +kernel
theorem dL_law_772 : decode code 772 = .ok (.iadd, 1) := by decide +kernel
theorem dL_law_773 : decode code 773 = .ok (.iaload, 1) := by decide +kernel
theorem dL_law_774 : decode code 774 = .ok (.invokevirtual 85, 3) := by decide +kernel
theorem dL_law_777 : decode code 777 = .ok (.if_icmp .eq 585, 3) := by decide +kernel
theorem dL_law_780 : decode code 780 = .ok (.iconst 0, 1) := by decide +kernel
theorem dL_law_781 : decode code 781 = .ok (.ireturn, 1) := by decide +kernel
theorem dL_law_782 : decode code 782 = .ok (.aload_n 1, 1) := by decide +kernel
theorem dL_law_783 : decode code 783 = .ok (.aload_n 0, 1) := by decide +kernel
theorem dL_law_784 : decode code 784 = .ok (.iload_n 3, 1) := by decide +kernel
theorem dL_law_785 : decode code 785 = .ok (.iconst 1, 1) := by decide +kernel
theorem dL_law_786 : decode code 786 = .ok (.iadd, 1) := by decide +kernel
theorem dL_law_787 : decode code 787 = .ok (.iaload, 1) := by decide +kernel
theorem dL_law_788 : decode code 788 = .ok (.invokevirtual 86, 3) := by decide +kernel
theorem dL_law_791 : decode code 791 = .ok (.aload_n 2, 1) := by decide +kernel
theorem dL_law_792 : decode code 792 = .ok (.aload_n 0, 1) := by decide +kernel
theorem dL_law_793 : decode code 793 = .ok (.iload_n 3, 1) := by decide +kernel
theorem dL_law_794 : decode code 794 = .ok (.iconst 1, 1) := by decide +kernel
theorem dL_law_795 : decode code 795 = .ok (.iadd, 1) := by decide +kernel
theorem dL_law_796 : decode code 796 = .ok (.iaload, 1) := by decide +kernel
theorem dL_law_797 : decode code 797 = .ok (.invokevirtual 89, 3) := by decide +kernel
theorem dL_law_800 : decode code 800 = .ok (.if_icmp .eq 562, 3) := by decide +kernel
theorem dL_law_803 : decode code 803 = .ok (.iconst 0, 1) := by decide +kernel
theorem dL_law_804 : decode code 804 = .ok (.ireturn, 1) := by decide +kernel
theorem dL_law_805 : decode code 805 = .ok (.aload_n 1, 1) := by decide +kernel
theorem dL_law_806 : decode code 806 = .ok (.invokevirtual 90, 3) := by decide +kernel
theorem dL_law_809 : decode code 809 = .ok (.aload_n 2, 1) := by decide +kernel
theorem dL_law_810 : decode code 810 = .ok (.invokevirtual 93, 3) := by decide +kernel
theorem dL_law_813 : decode code 813 = .ok (.if_icmp .eq 549, 3) := by decide +kernel
theorem dL_law_816 : decode code 816 = .ok (.iconst 0, 1) := by decide +kernel
theorem dL_law_817 : decode code 817 = .ok (.ireturn, 1) := by decide +kernel
theorem dL_law_818 : decode code 818 = .ok (.aload_n 1, 1) := by decide +kernel
theorem dL_law_819 : decode code 819 = .ok (.aload_n 0, 1) := by decide +kernel
theorem dL_law_820 : decode code 820 = .ok (.iload_n 3, 1) := by decide +kernel
theorem dL_law_821 : decode code 821 = .ok (.iconst 1, 1) := by decide +kernel
theorem dL_law_822 : decode code 822 = .ok (.iadd, 1) := by decide +kernel
theorem dL_law_823 : decode code 823 = .ok (.iaload, 1) := by decide +kernel
theorem dL_law_824 : decode code 824 = .ok (.invokevirtual 94, 3) := by decide +kernel
theorem dL_law_827 : decode code 827 = .ok (.aload_n 2, 1) := by decide +kernel
theorem dL_law_828 : decode code 828 = .ok (.aload_n 0, 1) := by decide +kernel
theorem dL_law_829 : decode code 829 = .ok (.iload_n 3, 1) := by decide +kernel
theorem dL_law_830 : decode code 830 = .ok (.iconst 1, 1) := by decide +kernel
theorem dL_law_831 : decode code 831 = .ok (.iadd, 1) := by decide +kernel
theorem dL_law_832 : decode code 832 = .ok (.iaload, 1) := by decide +kernel
theorem dL_law_833 : decode code 833 = .ok (.invokevirtual 97, 3) := by decide +kernel
theorem dL_law_836 : decode code 836 = .ok (.if_icmp .eq 526, 3) := by decide +kernel
theorem dL_law_839 : decode code 839 = .ok (.iconst 0, 1) := by decide +kernel
theorem dL_law_840 : decode code 840 = .ok (.ireturn, 1) := by decide +kernel
theorem dL_law_841 : decode code 841 = .ok (.aload_n 1, 1) := by decide +kernel
theorem dL_law_842 : decode code 842 = .ok (.aload_n 0, 1) := by decide +kernel
theorem dL_law_843 : decode code 843 = .ok (.iload_n 3, 1) := by decide +kernel
theorem dL_law_844 : decode code 844 = .ok (.iconst 1, 1) := by decide +kernel
theorem dL_law_845 : decode code 845 = .ok (.iadd, 1) := by decide +kernel
theorem dL_law_846 : decode code 846 = .ok (.iaload, 1) := by decide +kernel
theorem dL_law_847 : decode code 847 = .ok (.aload_n 0, 1) := by decide +kernel
theorem dL_law_848 : decode code 848 = .ok (.iload_n 3, 1) := by decide +kernel
theorem dL_law_849 : decode code 849 = .ok (.iconst 2, 1) := by decide +kernel
theorem dL_law_850 : decode code 850 = .ok (.iadd, 1) := by decide +kernel
theorem dL_law_851 : decode code 851 = .ok (.iaload, 1) := by decide +kernel
theorem dL_law_852 : decode code 852 = .ok (.invokevirtual 98, 3) := by decide +kernel
theorem dL_law_855 : decode code 855 = .ok (.aload_n 2, 1) := by decide +kernel
theorem dL_law_856 : decode code 856 = .ok (.aload_n 0, 1) := by decide +kernel
theorem dL_law_857 : decode code 857 = .ok (.iload_n 3, 1) := by decide +kernel
theorem dL_law_858 : decode code 858 = .ok (.iconst 1, 1) := by decide +kernel
theorem dL_law_859 : decode code 859 = .ok (.iadd, 1) := by decide +kernel
theorem dL_law_860 : decode code 860 = .ok (.iaload, 1) := by decide +kernel
theorem dL_law_861 : decode code 861 = .ok (.aload_n 0, 1) := by decide +kernel
theorem dL_law_862 : decode code 862 = .ok (.iload_n 3, 1) := by decide +kernel
theorem dL_law_863 : decode code 863 = .ok (.iconst 2, 1) := by decide +kernel
theorem dL_law_864 : decode code 864 = .ok (.iadd, 1) := by decide +kernel
theorem dL_law_865 : decode code 865 = .ok (.iaload, 1) := by decide +kernel
theorem dL_law_866 : decode code 866 = .ok (.invokevirtual 101, 3) := by decide +kernel
theorem dL_law_869 : decode code 869 = .ok (.if_icmp .eq 493, 3) := by decide +kernel
theorem dL_law_872 : decode code 872 = .ok (.iconst 0, 1) := by decide +kernel
theorem dL_law_873 : decode code 873 = .ok (.ireturn, 1) := by decide +kernel
theorem dL_law_874 : decode code 874 = .ok (.aload_n 1, 1) := by decide +kernel
theorem dL_law_875 : decode code 875 = .ok (.aload_n 0, 1) := by decide +kernel
theorem dL_law_876 : decode code 876 = .ok (.iload_n 3, 1) := by decide +kernel
theorem dL_law_877 : decode code 877 = .ok (.iconst 1, 1) := by decide +kernel
