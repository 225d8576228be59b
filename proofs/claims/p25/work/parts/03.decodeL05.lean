theorem dL_law_758 : decode cL_law 758 = .ok (.iload 21, 2) := by decide +kernel
theorem dL_law_760 : decode cL_law 760 = .ok (.iconst 2, 1) := by decide +kernel
theorem dL_law_761 : decode cL_law 761 = .ok (.invokevirtual 89, 3) := by decide +kernel
theorem dL_law_764 : decode cL_law 764 = .ok (.iconst 1, 1) := by decide +kernel
theorem dL_law_765 : decode cL_law 765 = .ok (.if_icmp .eq 39, 3) := by decide +kernel
theorem dL_law_768 : decode cL_law 768 = .ok (.aload_n 1, 1) := by decide +kernel
theorem dL_law_769 : decode cL_law 769 = .ok (.iload 18, 2) := by decide +kernel
theorem dL_law_771 : decode cL_law 771 = .ok (.iload 21, 2) := by decide +kernel
theorem dL_law_773 : decode cL_law 773 = .ok (.iconst 0, 1) := by decide +kernel
theorem dL_law_774 : decode cL_law 774 = .ok (.invokevirtual 89, 3) := by decide +kernel
theorem dL_law_777 : decode cL_law 777 = .ok (.aload_n 1, 1) := by decide +kernel
theorem dL_law_778 : decode cL_law 778 = .ok (.iload 18, 2) := by decide +kernel
theorem dL_law_780 : decode cL_law 780 = .ok (.iload 21, 2) := by decide +kernel
theorem dL_law_782 : decode cL_law 782 = .ok (.iconst 1, 1) := by decide +kernel
theorem dL_law_783 : decode cL_law 783 = .ok (.invokevirtual 89, 3) := by decide +kernel
theorem dL_law_786 : decode cL_law 786 = .ok (.if_icmp .ne 48, 3) := by decide +kernel
theorem dL_law_789 : decode cL_law 789 = .ok (.goto 15, 3) := by decide +kernel
theorem dL_law_792 : decode cL_law 792 = .ok (.aload_n 1, 1) := by decide +kernel
theorem dL_law_793 : decode cL_law 793 = .ok (.iload 18, 2) := by decide +kernel
theorem dL_law_795 : decode cL_law 795 = .ok (.iload 21, 2) := by decide +kernel
theorem dL_law_797 : decode cL_law 797 = .ok (.iconst 2, 1) := by decide +kernel
theorem dL_law_798 : decode cL_law 798 = .ok (.invokevirtual 89, 3) := by decide +kernel
theorem dL_law_801 : decode cL_law 801 = .ok (.ifCond .ne 33, 3) := by decide +kernel
theorem dL_law_804 : decode cL_law 804 = .ok (.iload 19, 2) := by decide +kernel
theorem dL_law_806 : decode cL_law 806 = .ok (.ifCond .ne 24, 3) := by decide +kernel
theorem dL_law_809 : decode cL_law 809 = .ok (.aload_n 1, 1) := by decide +kernel
theorem dL_law_810 : decode cL_law 810 = .ok (.iload 18, 2) := by decide +kernel
theorem dL_law_812 : decode cL_law 812 = .ok (.iload 21, 2) := by decide +kernel
theorem dL_law_814 : decode cL_law 814 = .ok (.iconst 0, 1) := by decide +kernel
theorem dL_law_815 : decode cL_law 815 = .ok (.invokevirtual 89, 3) := by decide +kernel
theorem dL_law_818 : decode cL_law 818 = .ok (.aload_n 2, 1) := by decide +kernel
theorem dL_law_819 : decode cL_law 819 = .ok (.iconst 4, 1) := by decide +kernel
theorem dL_law_820 : decode cL_law 820 = .ok (.iload 18, 2) := by decide +kernel
theorem dL_law_822 : decode cL_law 822 = .ok (.imul, 1) := by decide +kernel
theorem dL_law_823 : decode cL_law 823 = .ok (.iload 21, 2) := by decide +kernel
theorem dL_law_825 : decode cL_law 825 = .ok (.iadd, 1) := by decide +kernel
theorem dL_law_826 : decode cL_law 826 = .ok (.iaload, 1) := by decide +kernel
theorem dL_law_827 : decode cL_law 827 = .ok (.if_icmp .ne 7, 3) := by decide +kernel
theorem dL_law_830 : decode cL_law 830 = .ok (.iconst 1, 1) := by decide +kernel
theorem dL_law_831 : decode cL_law 831 = .ok (.goto 4, 3) := by decide +kernel
theorem dL_law_834 : decode cL_law 834 = .ok (.iconst 0, 1) := by decide +kernel
theorem dL_law_835 : decode cL_law 835 = .ok (.istore 4, 2) := by decide +kernel
theorem dL_law_837 : decode cL_law 837 = .ok (.iinc 21 1, 3) := by decide +kernel
theorem dL_law_840 : decode cL_law 840 = .ok (.goto (-129), 3) := by decide +kernel
theorem dL_law_843 : decode cL_law 843 = .ok (.iinc 18 1, 3) := by decide +kernel
theorem dL_law_846 : decode cL_law 846 = .ok (.goto (-256), 3) := by decide +kernel
theorem dL_law_849 : decode cL_law 849 = .ok (.iconst 0, 1) := by decide +kernel
theorem dL_law_850 : decode cL_law 850 = .ok (.istore 18, 2) := by decide +kernel
theorem dL_law_852 : decode cL_law 852 = .ok (.iload 18, 2) := by decide +kernel
theorem dL_law_854 : decode cL_law 854 = .ok (.iconst 4, 1) := by decide +kernel
theorem dL_law_855 : decode cL_law 855 = .ok (.if_icmp .ge 89, 3) := by decide +kernel
theorem dL_law_858 : decode cL_law 858 = .ok (.iconst 0, 1) := by decide +kernel
theorem dL_law_859 : decode cL_law 859 = .ok (.istore 19, 2) := by decide +kernel
theorem dL_law_861 : decode cL_law 861 = .ok (.iload 19, 2) := by decide +kernel
theorem dL_law_863 : decode cL_law 863 = .ok (.iconst 3, 1) := by decide +kernel
theorem dL_law_864 : decode cL_law 864 = .ok (.if_icmp .ge 74, 3) := by decide +kernel
theorem dL_law_867 : decode cL_law 867 = .ok (.iload 4, 2) := by decide +kernel
theorem dL_law_869 : decode cL_law 869 = .ok (.ifCond .eq 60, 3) := by decide +kernel
theorem dL_law_872 : decode cL_law 872 = .ok (.iload 19, 2) := by decide +kernel
theorem dL_law_874 : decode cL_law 874 = .ok (.aload_n 1, 1) := by decide +kernel
theorem dL_law_875 : decode cL_law 875 = .ok (.iconst 4, 1) := by decide +kernel
theorem dL_law_876 : decode cL_law 876 = .ok (.invokevirtual 80, 3) := by decide +kernel
theorem dL_law_879 : decode cL_law 879 = .ok (.if_icmp .lt 15, 3) := by decide +kernel
theorem dL_law_882 : decode cL_law 882 = .ok (.aload_n 1, 1) := by decide +kernel
theorem dL_law_883 : decode cL_law 883 = .ok (.iload 18, 2) := by decide +kernel
theorem dL_law_885 : decode cL_law 885 = .ok (.iload 19, 2) := by decide +kernel
theorem dL_law_887 : decode cL_law 887 = .ok (.invokevirtual 93, 3) := by decide +kernel
theorem dL_law_890 : decode cL_law 890 = .ok (.iconst (-1), 1) := by decide +kernel
theorem dL_law_891 : decode cL_law 891 = .ok (.if_icmp .ne 38, 3) := by decide +kernel
theorem dL_law_894 : decode cL_law 894 = .ok (.aload_n 1, 1) := by decide +kernel
theorem dL_law_895 : decode cL_law 895 = .ok (.iload 18, 2) := by decide +kernel
theorem dL_law_897 : decode cL_law 897 = .ok (.iload 19, 2) := by decide +kernel
theorem dL_law_899 : decode cL_law 899 = .ok (.invokevirtual 93, 3) := by decide +kernel
theorem dL_law_902 : decode cL_law 902 = .ok (.ifCond .ge 23, 3) := by decide +kernel
theorem dL_law_905 : decode cL_law 905 = .ok (.iload 19, 2) := by decide +kernel
theorem dL_law_907 : decode cL_law 907 = .ok (.iconst 2, 1) := by decide +kernel
theorem dL_law_908 : decode cL_law 908 = .ok (.if_icmp .eq 17, 3) := by decide +kernel
theorem dL_law_911 : decode cL_law 911 = .ok (.aload_n 1, 1) := by decide +kernel
theorem dL_law_912 : decode cL_law 912 = .ok (.iload 18, 2) := by decide +kernel
theorem dL_law_914 : decode cL_law 914 = .ok (.iload 19, 2) := by decide +kernel
theorem dL_law_916 : decode cL_law 916 = .ok (.iconst 1, 1) := by decide +kernel
theorem dL_law_917 : decode cL_law 917 = .ok (.iadd, 1) := by decide +kernel
theorem dL_law_918 : decode cL_law 918 = .ok (.invokevirtual 93, 3) := by decide +kernel
theorem dL_law_921 : decode cL_law 921 = .ok (.iconst (-1), 1) := by decide +kernel
theorem dL_law_922 : decode cL_law 922 = .ok (.if_icmp .ne 7, 3) := by decide +kernel
theorem dL_law_925 : decode cL_law 925 = .ok (.iconst 1, 1) := by decide +kernel
theorem dL_law_926 : decode cL_law 926 = .ok (.goto 4, 3) := by decide +kernel
theorem dL_law_929 : decode cL_law 929 = .ok (.iconst 0, 1) := by decide +kernel
theorem dL_law_930 : decode cL_law 930 = .ok (.istore 4, 2) := by decide +kernel
theorem dL_law_932 : decode cL_law 932 = .ok (.iinc 19 1, 3) := by decide +kernel
theorem dL_law_935 : decode cL_law 935 = .ok (.goto (-74), 3) := by decide +kernel
theorem dL_law_938 : decode cL_law 938 = .ok (.iinc 18 1, 3) := by decide +kernel
theorem dL_law_941 : decode cL_law 941 = .ok (.goto (-89), 3) := by decide +kernel
theorem dL_law_944 : decode cL_law 944 = .ok (.iconst 0, 1) := by decide +kernel
theorem dL_law_945 : decode cL_law 945 = .ok (.istore 18, 2) := by decide +kernel
theorem dL_law_947 : decode cL_law 947 = .ok (.iconst 0, 1) := by decide +kernel
theorem dL_law_948 : decode cL_law 948 = .ok (.istore 19, 2) := by decide +kernel
theorem dL_law_950 : decode cL_law 950 = .ok (.iload 19, 2) := by decide +kernel
theorem dL_law_952 : decode cL_law 952 = .ok (.iload 17, 2) := by decide +kernel
theorem dL_law_954 : decode cL_law 954 = .ok (.if_icmp .ge 124, 3) := by decide +kernel
