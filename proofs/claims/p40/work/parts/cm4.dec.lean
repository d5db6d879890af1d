/-! The law, decoded, 4 -/
theorem dL_law_748 : decode code 748 = .ok (.iconst 0, 1) := by decide +kernel
theorem dL_law_749 : decode code 749 = .ok (.invokevirtual 78, 3) := by decide +kernel
theorem dL_law_752 : decode code 752 = .ok (.iconst 1, 1) := by decide +kernel
theorem dL_law_753 : decode code 753 = .ok (.if_icmp .ne 108, 3) := by decide +kernel
theorem dL_law_756 : decode code 756 = .ok (.aload_n 1, 1) := by decide +kernel
theorem dL_law_757 : decode code 757 = .ok (.iconst 2, 1) := by decide +kernel
theorem dL_law_758 : decode code 758 = .ok (.iconst 2, 1) := by decide +kernel
theorem dL_law_759 : decode code 759 = .ok (.invokevirtual 84, 3) := by decide +kernel
theorem dL_law_762 : decode code 762 = .ok (.bipush 9, 2) := by decide +kernel
theorem dL_law_764 : decode code 764 = .ok (.if_icmp .ne 97, 3) := by decide +kernel
theorem dL_law_767 : decode code 767 = .ok (.aload_n 1, 1) := by decide +kernel
theorem dL_law_768 : decode code 768 = .ok (.iconst 0, 1) := by decide +kernel
theorem dL_law_769 : decode code 769 = .ok (.iconst 2, 1) := by decide +kernel
theorem dL_law_770 : decode code 770 = .ok (.invokevirtual 113, 3) := by decide +kernel
theorem dL_law_773 : decode code 773 = .ok (.bipush 8, 2) := by decide +kernel
theorem dL_law_775 : decode code 775 = .ok (.if_icmp .ne 86, 3) := by decide +kernel
theorem dL_law_778 : decode code 778 = .ok (.aload_n 1, 1) := by decide +kernel
theorem dL_law_779 : decode code 779 = .ok (.iconst 4, 1) := by decide +kernel
theorem dL_law_780 : decode code 780 = .ok (.invokevirtual 116, 3) := by decide +kernel
theorem dL_law_783 : decode code 783 = .ok (.iconst 1, 1) := by decide +kernel
theorem dL_law_784 : decode code 784 = .ok (.if_icmp .ne 77, 3) := by decide +kernel
theorem dL_law_787 : decode code 787 = .ok (.aload_n 1, 1) := by decide +kernel
theorem dL_law_788 : decode code 788 = .ok (.iconst 1, 1) := by decide +kernel
theorem dL_law_789 : decode code 789 = .ok (.invokevirtual 90, 3) := by decide +kernel
theorem dL_law_792 : decode code 792 = .ok (.iconst 1, 1) := by decide +kernel
theorem dL_law_793 : decode code 793 = .ok (.if_icmp .ne 68, 3) := by decide +kernel
theorem dL_law_796 : decode code 796 = .ok (.aload_n 1, 1) := by decide +kernel
theorem dL_law_797 : decode code 797 = .ok (.iconst 2, 1) := by decide +kernel
theorem dL_law_798 : decode code 798 = .ok (.invokevirtual 90, 3) := by decide +kernel
theorem dL_law_801 : decode code 801 = .ok (.iconst 1, 1) := by decide +kernel
theorem dL_law_802 : decode code 802 = .ok (.if_icmp .ne 59, 3) := by decide +kernel
theorem dL_law_805 : decode code 805 = .ok (.aload_n 1, 1) := by decide +kernel
theorem dL_law_806 : decode code 806 = .ok (.iconst 3, 1) := by decide +kernel
theorem dL_law_807 : decode code 807 = .ok (.invokevirtual 90, 3) := by decide +kernel
theorem dL_law_810 : decode code 810 = .ok (.iconst 2, 1) := by decide +kernel
theorem dL_law_811 : decode code 811 = .ok (.if_icmp .ne 50, 3) := by decide +kernel
theorem dL_law_814 : decode code 814 = .ok (.aload_n 1, 1) := by decide +kernel
theorem dL_law_815 : decode code 815 = .ok (.iconst 4, 1) := by decide +kernel
theorem dL_law_816 : decode code 816 = .ok (.invokevirtual 90, 3) := by decide +kernel
theorem dL_law_819 : decode code 819 = .ok (.iconst 3, 1) := by decide +kernel
theorem dL_law_820 : decode code 820 = .ok (.if_icmp .ne 41, 3) := by decide +kernel
theorem dL_law_823 : decode code 823 = .ok (.aload_n 1, 1) := by decide +kernel
theorem dL_law_824 : decode code 824 = .ok (.iconst 0, 1) := by decide +kernel
theorem dL_law_825 : decode code 825 = .ok (.iconst 4, 1) := by decide +kernel
theorem dL_law_826 : decode code 826 = .ok (.invokevirtual 84, 3) := by decide +kernel
theorem dL_law_829 : decode code 829 = .ok (.iconst 1, 1) := by decide +kernel
theorem dL_law_830 : decode code 830 = .ok (.if_icmp .ne 31, 3) := by decide +kernel
theorem dL_law_833 : decode code 833 = .ok (.aload_n 1, 1) := by decide +kernel
theorem dL_law_834 : decode code 834 = .ok (.iconst 0, 1) := by decide +kernel
theorem dL_law_835 : decode code 835 = .ok (.iconst 0, 1) := by decide +kernel
theorem dL_law_836 : decode code 836 = .ok (.invokevirtual 119, 3) := by decide +kernel
theorem dL_law_839 : decode code 839 = .ok (.iconst 2, 1) := by decide +kernel
theorem dL_law_840 : decode code 840 = .ok (.if_icmp .ne 21, 3) := by decide +kernel
theorem dL_law_843 : decode code 843 = .ok (.aload_n 1, 1) := by decide +kernel
theorem dL_law_844 : decode code 844 = .ok (.invokevirtual 122, 3) := by decide +kernel
theorem dL_law_847 : decode code 847 = .ok (.bipush 31, 2) := by decide +kernel
theorem dL_law_849 : decode code 849 = .ok (.if_icmp .ne 12, 3) := by decide +kernel
theorem dL_law_852 : decode code 852 = .ok (.aload_n 1, 1) := by decide +kernel
theorem dL_law_853 : decode code 853 = .ok (.iconst 2, 1) := by decide +kernel
theorem dL_law_854 : decode code 854 = .ok (.iconst 0, 1) := by decide +kernel
theorem dL_law_855 : decode code 855 = .ok (.invokevirtual 78, 3) := by decide +kernel
theorem dL_law_858 : decode code 858 = .ok (.ifCond .eq 5, 3) := by decide +kernel
theorem dL_law_861 : decode code 861 = .ok (.iconst 0, 1) := by decide +kernel
theorem dL_law_862 : decode code 862 = .ok (.ireturn, 1) := by decide +kernel
theorem dL_law_863 : decode code 863 = .ok (.aload_n 1, 1) := by decide +kernel
theorem dL_law_864 : decode code 864 = .ok (.iconst 3, 1) := by decide +kernel
theorem dL_law_865 : decode code 865 = .ok (.sipush 202, 3) := by decide +kernel
theorem dL_law_868 : decode code 868 = .ok (.iconst 1, 1) := by decide +kernel
theorem dL_law_869 : decode code 869 = .ok (.invokevirtual 125, 3) := by decide +kernel
theorem dL_law_872 : decode code 872 = .ok (.ifCond .ne 186, 3) := by decide +kernel
theorem dL_law_875 : decode code 875 = .ok (.aload_n 1, 1) := by decide +kernel
theorem dL_law_876 : decode code 876 = .ok (.invokevirtual 122, 3) := by decide +kernel
theorem dL_law_879 : decode code 879 = .ok (.bipush 6, 2) := by decide +kernel
theorem dL_law_881 : decode code 881 = .ok (.if_icmp .ne 177, 3) := by decide +kernel
theorem dL_law_884 : decode code 884 = .ok (.aload_n 1, 1) := by decide +kernel
theorem dL_law_885 : decode code 885 = .ok (.iconst 1, 1) := by decide +kernel
theorem dL_law_886 : decode code 886 = .ok (.iconst 2, 1) := by decide +kernel
theorem dL_law_887 : decode code 887 = .ok (.iconst 0, 1) := by decide +kernel
theorem dL_law_888 : decode code 888 = .ok (.invokevirtual 125, 3) := by decide +kernel
theorem dL_law_891 : decode code 891 = .ok (.iconst 1, 1) := by decide +kernel
theorem dL_law_892 : decode code 892 = .ok (.if_icmp .ne 166, 3) := by decide +kernel
theorem dL_law_895 : decode code 895 = .ok (.aload_n 1, 1) := by decide +kernel
theorem dL_law_896 : decode code 896 = .ok (.invokevirtual 122, 3) := by decide +kernel
theorem dL_law_899 : decode code 899 = .ok (.iconst 2, 1) := by decide +kernel
theorem dL_law_900 : decode code 900 = .ok (.if_icmp .ne 158, 3) := by decide +kernel
theorem dL_law_903 : decode code 903 = .ok (.aload_n 1, 1) := by decide +kernel
theorem dL_law_904 : decode code 904 = .ok (.iconst 0, 1) := by decide +kernel
theorem dL_law_905 : decode code 905 = .ok (.invokevirtual 129, 3) := by decide +kernel
theorem dL_law_908 : decode code 908 = .ok (.iconst 2, 1) := by decide +kernel
theorem dL_law_909 : decode code 909 = .ok (.if_icmp .ne 149, 3) := by decide +kernel
theorem dL_law_912 : decode code 912 = .ok (.aload_n 1, 1) := by decide +kernel
theorem dL_law_913 : decode code 913 = .ok (.invokevirtual 122, 3) := by decide +kernel
theorem dL_law_916 : decode code 916 = .ok (.bipush 26, 2) := by decide +kernel
theorem dL_law_918 : decode code 918 = .ok (.if_icmp .ne 140, 3) := by decide +kernel
theorem dL_law_921 : decode code 921 = .ok (.aload_n 1, 1) := by decide +kernel
theorem dL_law_922 : decode code 922 = .ok (.iconst 1, 1) := by decide +kernel
theorem dL_law_923 : decode code 923 = .ok (.invokevirtual 132, 3) := by decide +kernel
theorem dL_law_926 : decode code 926 = .ok (.ifCond .eq 132, 3) := by decide +kernel
theorem dL_law_929 : decode code 929 = .ok (.aload_n 1, 1) := by decide +kernel
theorem dL_law_930 : decode code 930 = .ok (.invokevirtual 122, 3) := by decide +kernel
