/-! the law, case by case -/
theorem dL_law_782 : decode cL_law 782 = .ok (.iconst 0, 1) := by decide +kernel
theorem dL_law_783 : decode cL_law 783 = .ok (.ireturn, 1) := by decide +kernel
theorem dL_law_784 : decode cL_law 784 = .ok (.aload_n 1, 1) := by decide +kernel
theorem dL_law_785 : decode cL_law 785 = .ok (.aload_n 0, 1) := by decide +kernel
theorem dL_law_786 : decode cL_law 786 = .ok (.iload 4, 2) := by decide +kernel
theorem dL_law_788 : decode cL_law 788 = .ok (.iconst 1, 1) := by decide +kernel
theorem dL_law_789 : decode cL_law 789 = .ok (.iadd, 1) := by decide +kernel
theorem dL_law_790 : decode cL_law 790 = .ok (.iaload, 1) := by decide +kernel
theorem dL_law_791 : decode cL_law 791 = .ok (.aload_n 0, 1) := by decide +kernel
theorem dL_law_792 : decode cL_law 792 = .ok (.iload 4, 2) := by decide +kernel
theorem dL_law_794 : decode cL_law 794 = .ok (.iconst 2, 1) := by decide +kernel
theorem dL_law_795 : decode cL_law 795 = .ok (.iadd, 1) := by decide +kernel
theorem dL_law_796 : decode cL_law 796 = .ok (.iaload, 1) := by decide +kernel
theorem dL_law_797 : decode cL_law 797 = .ok (.aload_n 0, 1) := by decide +kernel
theorem dL_law_798 : decode cL_law 798 = .ok (.iload 4, 2) := by decide +kernel
theorem dL_law_800 : decode cL_law 800 = .ok (.iconst 3, 1) := by decide +kernel
theorem dL_law_801 : decode cL_law 801 = .ok (.iadd, 1) := by decide +kernel
theorem dL_law_802 : decode cL_law 802 = .ok (.iaload, 1) := by decide +kernel
theorem dL_law_803 : decode cL_law 803 = .ok (.invokevirtual 100, 3) := by decide +kernel
theorem dL_law_806 : decode cL_law 806 = .ok (.aload_n 2, 1) := by decide +kernel
theorem dL_law_807 : decode cL_law 807 = .ok (.aload_n 0, 1) := by decide +kernel
theorem dL_law_808 : decode cL_law 808 = .ok (.iload 4, 2) := by decide +kernel
theorem dL_law_810 : decode cL_law 810 = .ok (.iconst 1, 1) := by decide +kernel
theorem dL_law_811 : decode cL_law 811 = .ok (.iadd, 1) := by decide +kernel
theorem dL_law_812 : decode cL_law 812 = .ok (.iaload, 1) := by decide +kernel
theorem dL_law_813 : decode cL_law 813 = .ok (.aload_n 0, 1) := by decide +kernel
theorem dL_law_814 : decode cL_law 814 = .ok (.iload 4, 2) := by decide +kernel
theorem dL_law_816 : decode cL_law 816 = .ok (.iconst 2, 1) := by decide +kernel
theorem dL_law_817 : decode cL_law 817 = .ok (.iadd, 1) := by decide +kernel
theorem dL_law_818 : decode cL_law 818 = .ok (.iaload, 1) := by decide +kernel
theorem dL_law_819 : decode cL_law 819 = .ok (.aload_n 0, 1) := by decide +kernel
theorem dL_law_820 : decode cL_law 820 = .ok (.iload 4, 2) := by decide +kernel
theorem dL_law_822 : decode cL_law 822 = .ok (.iconst 3, 1) := by decide +kernel
theorem dL_law_823 : decode cL_law 823 = .ok (.iadd, 1) := by decide +kernel
theorem dL_law_824 : decode cL_law 824 = .ok (.iaload, 1) := by decide +kernel
theorem dL_law_825 : decode cL_law 825 = .ok (.invokevirtual 103, 3) := by decide +kernel
theorem dL_law_828 : decode cL_law 828 = .ok (.if_icmp .eq 575, 3) := by decide +kernel
theorem dL_law_831 : decode cL_law 831 = .ok (.iconst 0, 1) := by decide +kernel
theorem dL_law_832 : decode cL_law 832 = .ok (.ireturn, 1) := by decide +kernel
theorem dL_law_833 : decode cL_law 833 = .ok (.aload_n 1, 1) := by decide +kernel
theorem dL_law_834 : decode cL_law 834 = .ok (.invokevirtual 104, 3) := by decide +kernel
theorem dL_law_837 : decode cL_law 837 = .ok (.aload_n 2, 1) := by decide +kernel
theorem dL_law_838 : decode cL_law 838 = .ok (.invokevirtual 107, 3) := by decide +kernel
theorem dL_law_841 : decode cL_law 841 = .ok (.if_icmp .eq 562, 3) := by decide +kernel
theorem dL_law_844 : decode cL_law 844 = .ok (.iconst 0, 1) := by decide +kernel
theorem dL_law_845 : decode cL_law 845 = .ok (.ireturn, 1) := by decide +kernel
theorem dL_law_846 : decode cL_law 846 = .ok (.aload_n 1, 1) := by decide +kernel
theorem dL_law_847 : decode cL_law 847 = .ok (.aload_n 0, 1) := by decide +kernel
theorem dL_law_848 : decode cL_law 848 = .ok (.iload 4, 2) := by decide +kernel
theorem dL_law_850 : decode cL_law 850 = .ok (.iconst 1, 1) := by decide +kernel
theorem dL_law_851 : decode cL_law 851 = .ok (.iadd, 1) := by decide +kernel
theorem dL_law_852 : decode cL_law 852 = .ok (.iaload, 1) := by decide +kernel
theorem dL_law_853 : decode cL_law 853 = .ok (.invokevirtual 108, 3) := by decide +kernel
theorem dL_law_856 : decode cL_law 856 = .ok (.aload_n 2, 1) := by decide +kernel
theorem dL_law_857 : decode cL_law 857 = .ok (.aload_n 0, 1) := by decide +kernel
theorem dL_law_858 : decode cL_law 858 = .ok (.iload 4, 2) := by decide +kernel
theorem dL_law_860 : decode cL_law 860 = .ok (.iconst 1, 1) := by decide +kernel
theorem dL_law_861 : decode cL_law 861 = .ok (.iadd, 1) := by decide +kernel
theorem dL_law_862 : decode cL_law 862 = .ok (.iaload, 1) := by decide +kernel
theorem dL_law_863 : decode cL_law 863 = .ok (.invokevirtual 111, 3) := by decide +kernel
theorem dL_law_866 : decode cL_law 866 = .ok (.if_icmp .eq 537, 3) := by decide +kernel
theorem dL_law_869 : decode cL_law 869 = .ok (.iconst 0, 1) := by decide +kernel
theorem dL_law_870 : decode cL_law 870 = .ok (.ireturn, 1) := by decide +kernel
theorem dL_law_871 : decode cL_law 871 = .ok (.aload_n 1, 1) := by decide +kernel
theorem dL_law_872 : decode cL_law 872 = .ok (.invokevirtual 112, 3) := by decide +kernel
theorem dL_law_875 : decode cL_law 875 = .ok (.aload_n 2, 1) := by decide +kernel
theorem dL_law_876 : decode cL_law 876 = .ok (.invokevirtual 115, 3) := by decide +kernel
theorem dL_law_879 : decode cL_law 879 = .ok (.if_icmp .eq 524, 3) := by decide +kernel
theorem dL_law_882 : decode cL_law 882 = .ok (.iconst 0, 1) := by decide +kernel
theorem dL_law_883 : decode cL_law 883 = .ok (.ireturn, 1) := by decide +kernel
theorem dL_law_884 : decode cL_law 884 = .ok (.aload_n 1, 1) := by decide +kernel
theorem dL_law_885 : decode cL_law 885 = .ok (.invokevirtual 116, 3) := by decide +kernel
theorem dL_law_888 : decode cL_law 888 = .ok (.aload_n 2, 1) := by decide +kernel
theorem dL_law_889 : decode cL_law 889 = .ok (.invokevirtual 119, 3) := by decide +kernel
theorem dL_law_892 : decode cL_law 892 = .ok (.if_icmp .eq 511, 3) := by decide +kernel
theorem dL_law_895 : decode cL_law 895 = .ok (.iconst 0, 1) := by decide +kernel
theorem dL_law_896 : decode cL_law 896 = .ok (.ireturn, 1) := by decide +kernel
theorem dL_law_897 : decode cL_law 897 = .ok (.aload_n 1, 1) := by decide +kernel
theorem dL_law_898 : decode cL_law 898 = .ok (.aload_n 0, 1) := by decide +kernel
theorem dL_law_899 : decode cL_law 899 = .ok (.iload 4, 2) := by decide +kernel
theorem dL_law_901 : decode cL_law 901 = .ok (.iconst 1, 1) := by decide +kernel
theorem dL_law_902 : decode cL_law 902 = .ok (.iadd, 1) := by decide +kernel
theorem dL_law_903 : decode cL_law 903 = .ok (.iaload, 1) := by decide +kernel
theorem dL_law_904 : decode cL_law 904 = .ok (.aload_n 0, 1) := by decide +kernel
theorem dL_law_905 : decode cL_law 905 = .ok (.iload 4, 2) := by decide +kernel
theorem dL_law_907 : decode cL_law 907 = .ok (.iconst 2, 1) := by decide +kernel
theorem dL_law_908 : decode cL_law 908 = .ok (.iadd, 1) := by decide +kernel
theorem dL_law_909 : decode cL_law 909 = .ok (.iaload, 1) := by decide +kernel
theorem dL_law_910 : decode cL_law 910 = .ok (.aload_n 0, 1) := by decide +kernel
theorem dL_law_911 : decode cL_law 911 = .ok (.iload 4, 2) := by decide +kernel
theorem dL_law_913 : decode cL_law 913 = .ok (.iconst 3, 1) := by decide +kernel
theorem dL_law_914 : decode cL_law 914 = .ok (.iadd, 1) := by decide +kernel
theorem dL_law_915 : decode cL_law 915 = .ok (.iaload, 1) := by decide +kernel
theorem dL_law_916 : decode cL_law 916 = .ok (.aload_n 0, 1) := by decide +kernel
theorem dL_law_917 : decode cL_law 917 = .ok (.iload 4, 2) := by decide +kernel
theorem dL_law_919 : decode cL_law 919 = .ok (.iconst 4, 1) := by decide +kernel
theorem dL_law_920 : decode cL_law 920 = .ok (.iadd, 1) := by decide +kernel
theorem dL_law_921 : decode cL_law 921 = .ok (.iaload, 1) := by decide +kernel
theorem dL_law_922 : decode cL_law 922 = .ok (.invokevirtual 120, 3) := by decide +kernel
theorem dL_law_925 : decode cL_law 925 = .ok (.aload_n 2, 1) := by decide +kernel
theorem dL_law_926 : decode cL_law 926 = .ok (.aload_n 0, 1) := by decide +kernel
theorem dL_law_927 : decode cL_law 927 = .ok (.iload 4, 2) := by decide +kernel
theorem dL_law_929 : decode cL_law 929 = .ok (.iconst 1, 1) := by decide +kernel
theorem dL_law_930 : decode cL_law 930 = .ok (.iadd, 1) := by decide +kernel
theorem dL_law_931 : decode cL_law 931 = .ok (.iaload, 1) := by decide +kernel
theorem dL_law_932 : decode cL_law 932 = .ok (.aload_n 0, 1) := by decide +kernel
theorem dL_law_933 : decode cL_law 933 = .ok (.iload 4, 2) := by decide +kernel
theorem dL_law_935 : decode cL_law 935 = .ok (.iconst 2, 1) := by decide +kernel
theorem dL_law_936 : decode cL_law 936 = .ok (.iadd, 1) := by decide +kernel
theorem dL_law_937 : decode cL_law 937 = .ok (.iaload, 1) := by decide +kernel
theorem dL_law_938 : decode cL_law 938 = .ok (.aload_n 0, 1) := by decide +kernel
theorem dL_law_939 : decode cL_law 939 = .ok (.iload 4, 2) := by decide +kernel
theorem dL_law_941 : decode cL_law 941 = .ok (.iconst 3, 1) := by decide +kernel
theorem dL_law_942 : decode cL_law 942 = .ok (.iadd, 1) := by decide +kernel
theorem dL_law_943 : decode cL_law 943 = .ok (.iaload, 1) := by decide +kernel
theorem dL_law_944 : decode cL_law 944 = .ok (.aload_n 0, 1) := by decide +kernel
theorem dL_law_945 : decode cL_law 945 = .ok (.iload 4, 2) := by decide +kernel
theorem dL_law_947 : decode cL_law 947 = .ok (.iconst 4, 1) := by decide +kernel
theorem dL_law_948 : decode cL_law 948 = .ok (.iadd, 1) := by decide +kernel
theorem dL_law_949 : decode cL_law 949 = .ok (.iaload, 1) := by decide +kernel
theorem dL_law_950 : decode cL_law 950 = .ok (.invokevirtual 124, 3) := by decide +kernel
theorem dL_law_953 : decode cL_law 953 = .ok (.if_icmp .eq 450, 3) := by decide +kernel
theorem dL_law_956 : decode cL_law 956 = .ok (.iconst 0, 1) := by decide +kernel
theorem dL_law_957 : decode cL_law 957 = .ok (.ireturn, 1) := by decide +kernel
theorem dL_law_958 : decode cL_law 958 = .ok (.aload_n 1, 1) := by decide +kernel
theorem dL_law_959 : decode cL_law 959 = .ok (.invokevirtual 125, 3) := by decide +kernel
theorem dL_law_962 : decode cL_law 962 = .ok (.aload_n 2, 1) := by decide +kernel
theorem dL_law_963 : decode cL_law 963 = .ok (.invokevirtual 128, 3) := by decide +kernel
theorem dL_law_966 : decode cL_law 966 = .ok (.if_icmp .eq 437, 3) := by decide +kernel
theorem dL_law_969 : decode cL_law 969 = .ok (.iconst 0, 1) := by decide +kernel
theorem dL_law_970 : decode cL_law 970 = .ok (.ireturn, 1) := by decide +kernel
theorem dL_law_971 : decode cL_law 971 = .ok (.aload_n 1, 1) := by decide +kernel
theorem dL_law_972 : decode cL_law 972 = .ok (.invokevirtual 129, 3) := by decide +kernel
theorem dL_law_975 : decode cL_law 975 = .ok (.aload_n 2, 1) := by decide +kernel
theorem dL_law_976 : decode cL_law 976 = .ok (.invokevirtual 132, 3) := by decide +kernel
theorem dL_law_979 : decode cL_law 979 = .ok (.if_icmp .eq 424, 3) := by decide +kernel
theorem dL_law_982 : decode cL_law 982 = .ok (.iconst 0, 1) := by decide +kernel
theorem dL_law_983 : decode cL_law 983 = .ok (.ireturn, 1) := by decide +kernel
theorem dL_law_984 : decode cL_law 984 = .ok (.aload_n 1, 1) := by decide +kernel
theorem dL_law_985 : decode cL_law 985 = .ok (.aload_n 0, 1) := by decide +kernel
theorem dL_law_986 : decode cL_law 986 = .ok (.iload 4, 2) := by decide +kernel
theorem dL_law_988 : decode cL_law 988 = .ok (.iconst 1, 1) := by decide +kernel
theorem dL_law_989 : decode cL_law 989 = .ok (.iadd, 1) := by decide +kernel
theorem dL_law_990 : decode cL_law 990 = .ok (.iaload, 1) := by decide +kernel
theorem dL_law_991 : decode cL_law 991 = .ok (.invokevirtual 133, 3) := by decide +kernel
theorem dL_law_994 : decode cL_law 994 = .ok (.aload_n 2, 1) := by decide +kernel
theorem dL_law_995 : decode cL_law 995 = .ok (.aload_n 0, 1) := by decide +kernel
theorem dL_law_996 : decode cL_law 996 = .ok (.iload 4, 2) := by decide +kernel
theorem dL_law_998 : decode cL_law 998 = .ok (.iconst 1, 1) := by decide +kernel
theorem dL_law_999 : decode cL_law 999 = .ok (.iadd, 1) := by decide +kernel
theorem dL_law_1000 : decode cL_law 1000 = .ok (.iaload, 1) := by decide +kernel
theorem dL_law_1001 : decode cL_law 1001 = .ok (.invokevirtual 136, 3) := by decide +kernel
theorem dL_law_1004 : decode cL_law 1004 = .ok (.if_icmp .eq 399, 3) := by decide +kernel
theorem dL_law_1007 : decode cL_law 1007 = .ok (.iconst 0, 1) := by decide +kernel
theorem dL_law_1008 : decode cL_law 1008 = .ok (.ireturn, 1) := by decide +kernel
theorem dL_law_1009 : decode cL_law 1009 = .ok (.aload_n 1, 1) := by decide +kernel
theorem dL_law_1010 : decode cL_law 1010 = .ok (.invokevirtual 137, 3) := by decide +kernel
theorem dL_law_1013 : decode cL_law 1013 = .ok (.aload_n 2, 1) := by decide +kernel
theorem dL_law_1014 : decode cL_law 1014 = .ok (.invokevirtual 140, 3) := by decide +kernel
theorem dL_law_1017 : decode cL_law 1017 = .ok (.if_icmp .eq 386, 3) := by decide +kernel
theorem dL_law_1020 : decode cL_law 1020 = .ok (.iconst 0, 1) := by decide +kernel
theorem dL_law_1021 : decode cL_law 1021 = .ok (.ireturn, 1) := by decide +kernel
theorem dL_law_1022 : decode cL_law 1022 = .ok (.aload_n 1, 1) := by decide +kernel
theorem dL_law_1023 : decode cL_law 1023 = .ok (.invokevirtual 141, 3) := by decide +kernel
theorem dL_law_1026 : decode cL_law 1026 = .ok (.aload_n 2, 1) := by decide +kernel
theorem dL_law_1027 : decode cL_law 1027 = .ok (.invokevirtual 144, 3) := by decide +kernel
theorem dL_law_1030 : decode cL_law 1030 = .ok (.if_icmp .eq 373, 3) := by decide +kernel
theorem dL_law_1033 : decode cL_law 1033 = .ok (.iconst 0, 1) := by decide +kernel
theorem dL_law_1034 : decode cL_law 1034 = .ok (.ireturn, 1) := by decide +kernel
theorem dL_law_1035 : decode cL_law 1035 = .ok (.aload_n 1, 1) := by decide +kernel
theorem dL_law_1036 : decode cL_law 1036 = .ok (.invokevirtual 145, 3) := by decide +kernel
theorem dL_law_1039 : decode cL_law 1039 = .ok (.aload_n 2, 1) := by decide +kernel
theorem dL_law_1040 : decode cL_law 1040 = .ok (.invokevirtual 148, 3) := by decide +kernel
theorem dL_law_1043 : decode cL_law 1043 = .ok (.if_icmp .eq 360, 3) := by decide +kernel
theorem dL_law_1046 : decode cL_law 1046 = .ok (.iconst 0, 1) := by decide +kernel
theorem dL_law_1047 : decode cL_law 1047 = .ok (.ireturn, 1) := by decide +kernel
theorem dL_law_1048 : decode cL_law 1048 = .ok (.aload_n 1, 1) := by decide +kernel
theorem dL_law_1049 : decode cL_law 1049 = .ok (.aload_n 0, 1) := by decide +kernel
theorem dL_law_1050 : decode cL_law 1050 = .ok (.iload 4, 2) := by decide +kernel
theorem dL_law_1052 : decode cL_law 1052 = .ok (.iconst 1, 1) := by decide +kernel
theorem dL_law_1053 : decode cL_law 1053 = .ok (.iadd, 1) := by decide +kernel
theorem dL_law_1054 : decode cL_law 1054 = .ok (.iaload, 1) := by decide +kernel
theorem dL_law_1055 : decode cL_law 1055 = .ok (.aload_n 3, 1) := by decide +kernel
theorem dL_law_1056 : decode cL_law 1056 = .ok (.invokestatic 149, 3) := by decide +kernel
theorem dL_law_1059 : decode cL_law 1059 = .ok (.istore 5, 2) := by decide +kernel
theorem dL_law_1061 : decode cL_law 1061 = .ok (.aload_n 2, 1) := by decide +kernel
theorem dL_law_1062 : decode cL_law 1062 = .ok (.aload_n 0, 1) := by decide +kernel
theorem dL_law_1063 : decode cL_law 1063 = .ok (.iload 4, 2) := by decide +kernel
theorem dL_law_1065 : decode cL_law 1065 = .ok (.iconst 1, 1) := by decide +kernel
theorem dL_law_1066 : decode cL_law 1066 = .ok (.iadd, 1) := by decide +kernel
theorem dL_law_1067 : decode cL_law 1067 = .ok (.iaload, 1) := by decide +kernel
theorem dL_law_1068 : decode cL_law 1068 = .ok (.invokevirtual 152, 3) := by decide +kernel
theorem dL_law_1071 : decode cL_law 1071 = .ok (.istore 6, 2) := by decide +kernel
theorem dL_law_1073 : decode cL_law 1073 = .ok (.aload_n 2, 1) := by decide +kernel
theorem dL_law_1074 : decode cL_law 1074 = .ok (.invokevirtual 48, 3) := by decide +kernel
theorem dL_law_1077 : decode cL_law 1077 = .ok (.iload 5, 2) := by decide +kernel
theorem dL_law_1079 : decode cL_law 1079 = .ok (.if_icmp .eq 5, 3) := by decide +kernel
theorem dL_law_1082 : decode cL_law 1082 = .ok (.iconst 0, 1) := by decide +kernel
theorem dL_law_1083 : decode cL_law 1083 = .ok (.ireturn, 1) := by decide +kernel
theorem dL_law_1084 : decode cL_law 1084 = .ok (.iload 5, 2) := by decide +kernel
theorem dL_law_1086 : decode cL_law 1086 = .ok (.ifCond .ne 15, 3) := by decide +kernel
theorem dL_law_1089 : decode cL_law 1089 = .ok (.aload_n 3, 1) := by decide +kernel
theorem dL_law_1090 : decode cL_law 1090 = .ok (.iconst 0, 1) := by decide +kernel
theorem dL_law_1091 : decode cL_law 1091 = .ok (.laload, 1) := by decide +kernel
theorem dL_law_1092 : decode cL_law 1092 = .ok (.iload 6, 2) := by decide +kernel
theorem dL_law_1094 : decode cL_law 1094 = .ok (.i2l, 1) := by decide +kernel
theorem dL_law_1095 : decode cL_law 1095 = .ok (.lcmp, 1) := by decide +kernel
theorem dL_law_1096 : decode cL_law 1096 = .ok (.ifCond .eq 5, 3) := by decide +kernel
theorem dL_law_1099 : decode cL_law 1099 = .ok (.iconst 0, 1) := by decide +kernel
theorem dL_law_1100 : decode cL_law 1100 = .ok (.ireturn, 1) := by decide +kernel
theorem dL_law_1101 : decode cL_law 1101 = .ok (.goto 302, 3) := by decide +kernel
theorem dL_law_1104 : decode cL_law 1104 = .ok (.aload_n 1, 1) := by decide +kernel
theorem dL_law_1105 : decode cL_law 1105 = .ok (.aload_n 0, 1) := by decide +kernel
theorem dL_law_1106 : decode cL_law 1106 = .ok (.iload 4, 2) := by decide +kernel
theorem dL_law_1108 : decode cL_law 1108 = .ok (.iconst 1, 1) := by decide +kernel
theorem dL_law_1109 : decode cL_law 1109 = .ok (.iadd, 1) := by decide +kernel
theorem dL_law_1110 : decode cL_law 1110 = .ok (.iaload, 1) := by decide +kernel
theorem dL_law_1111 : decode cL_law 1111 = .ok (.invokevirtual 153, 3) := by decide +kernel
theorem dL_law_1114 : decode cL_law 1114 = .ok (.aload_n 2, 1) := by decide +kernel
theorem dL_law_1115 : decode cL_law 1115 = .ok (.aload_n 0, 1) := by decide +kernel
theorem dL_law_1116 : decode cL_law 1116 = .ok (.iload 4, 2) := by decide +kernel
theorem dL_law_1118 : decode cL_law 1118 = .ok (.iconst 1, 1) := by decide +kernel
theorem dL_law_1119 : decode cL_law 1119 = .ok (.iadd, 1) := by decide +kernel
theorem dL_law_1120 : decode cL_law 1120 = .ok (.iaload, 1) := by decide +kernel
theorem dL_law_1121 : decode cL_law 1121 = .ok (.invokevirtual 156, 3) := by decide +kernel
theorem dL_law_1124 : decode cL_law 1124 = .ok (.if_icmp .eq 279, 3) := by decide +kernel
theorem dL_law_1127 : decode cL_law 1127 = .ok (.iconst 0, 1) := by decide +kernel
theorem dL_law_1128 : decode cL_law 1128 = .ok (.ireturn, 1) := by decide +kernel
theorem dL_law_1129 : decode cL_law 1129 = .ok (.aload_n 1, 1) := by decide +kernel
theorem dL_law_1130 : decode cL_law 1130 = .ok (.aload_n 0, 1) := by decide +kernel
theorem dL_law_1131 : decode cL_law 1131 = .ok (.iload 4, 2) := by decide +kernel
theorem dL_law_1133 : decode cL_law 1133 = .ok (.iconst 1, 1) := by decide +kernel
theorem dL_law_1134 : decode cL_law 1134 = .ok (.iadd, 1) := by decide +kernel
theorem dL_law_1135 : decode cL_law 1135 = .ok (.iaload, 1) := by decide +kernel
theorem dL_law_1136 : decode cL_law 1136 = .ok (.invokevirtual 157, 3) := by decide +kernel
theorem dL_law_1139 : decode cL_law 1139 = .ok (.aload_n 2, 1) := by decide +kernel
theorem dL_law_1140 : decode cL_law 1140 = .ok (.aload_n 0, 1) := by decide +kernel
theorem dL_law_1141 : decode cL_law 1141 = .ok (.iload 4, 2) := by decide +kernel
theorem dL_law_1143 : decode cL_law 1143 = .ok (.iconst 1, 1) := by decide +kernel
theorem dL_law_1144 : decode cL_law 1144 = .ok (.iadd, 1) := by decide +kernel
theorem dL_law_1145 : decode cL_law 1145 = .ok (.iaload, 1) := by decide +kernel
theorem dL_law_1146 : decode cL_law 1146 = .ok (.invokevirtual 160, 3) := by decide +kernel
theorem dL_law_1149 : decode cL_law 1149 = .ok (.if_icmp .eq 254, 3) := by decide +kernel
theorem dL_law_1152 : decode cL_law 1152 = .ok (.iconst 0, 1) := by decide +kernel
theorem dL_law_1153 : decode cL_law 1153 = .ok (.ireturn, 1) := by decide +kernel
theorem dL_law_1154 : decode cL_law 1154 = .ok (.aload_n 1, 1) := by decide +kernel
theorem dL_law_1155 : decode cL_law 1155 = .ok (.aload_n 0, 1) := by decide +kernel
theorem dL_law_1156 : decode cL_law 1156 = .ok (.iload 4, 2) := by decide +kernel
theorem dL_law_1158 : decode cL_law 1158 = .ok (.iconst 1, 1) := by decide +kernel
theorem dL_law_1159 : decode cL_law 1159 = .ok (.iadd, 1) := by decide +kernel
theorem dL_law_1160 : decode cL_law 1160 = .ok (.iaload, 1) := by decide +kernel
theorem dL_law_1161 : decode cL_law 1161 = .ok (.aload_n 0, 1) := by decide +kernel
theorem dL_law_1162 : decode cL_law 1162 = .ok (.iload 4, 2) := by decide +kernel
theorem dL_law_1164 : decode cL_law 1164 = .ok (.iconst 2, 1) := by decide +kernel
theorem dL_law_1165 : decode cL_law 1165 = .ok (.iadd, 1) := by decide +kernel
theorem dL_law_1166 : decode cL_law 1166 = .ok (.iaload, 1) := by decide +kernel
theorem dL_law_1167 : decode cL_law 1167 = .ok (.invokevirtual 161, 3) := by decide +kernel
theorem dL_law_1170 : decode cL_law 1170 = .ok (.aload_n 2, 1) := by decide +kernel
theorem dL_law_1171 : decode cL_law 1171 = .ok (.aload_n 0, 1) := by decide +kernel
theorem dL_law_1172 : decode cL_law 1172 = .ok (.iload 4, 2) := by decide +kernel
theorem dL_law_1174 : decode cL_law 1174 = .ok (.iconst 1, 1) := by decide +kernel
theorem dL_law_1175 : decode cL_law 1175 = .ok (.iadd, 1) := by decide +kernel
theorem dL_law_1176 : decode cL_law 1176 = .ok (.iaload, 1) := by decide +kernel
theorem dL_law_1177 : decode cL_law 1177 = .ok (.aload_n 0, 1) := by decide +kernel
theorem dL_law_1178 : decode cL_law 1178 = .ok (.iload 4, 2) := by decide +kernel
theorem dL_law_1180 : decode cL_law 1180 = .ok (.iconst 2, 1) := by decide +kernel
theorem dL_law_1181 : decode cL_law 1181 = .ok (.iadd, 1) := by decide +kernel
theorem dL_law_1182 : decode cL_law 1182 = .ok (.iaload, 1) := by decide +kernel
theorem dL_law_1183 : decode cL_law 1183 = .ok (.invokevirtual 164, 3) := by decide +kernel
theorem dL_law_1186 : decode cL_law 1186 = .ok (.if_icmp .eq 217, 3) := by decide +kernel
theorem dL_law_1189 : decode cL_law 1189 = .ok (.iconst 0, 1) := by decide +kernel
theorem dL_law_1190 : decode cL_law 1190 = .ok (.ireturn, 1) := by decide +kernel
theorem dL_law_1191 : decode cL_law 1191 = .ok (.aload_n 1, 1) := by decide +kernel
theorem dL_law_1192 : decode cL_law 1192 = .ok (.aload_n 0, 1) := by decide +kernel
theorem dL_law_1193 : decode cL_law 1193 = .ok (.iload 4, 2) := by decide +kernel
theorem dL_law_1195 : decode cL_law 1195 = .ok (.iconst 1, 1) := by decide +kernel
theorem dL_law_1196 : decode cL_law 1196 = .ok (.iadd, 1) := by decide +kernel
theorem dL_law_1197 : decode cL_law 1197 = .ok (.iaload, 1) := by decide +kernel
theorem dL_law_1198 : decode cL_law 1198 = .ok (.aload_n 0, 1) := by decide +kernel
theorem dL_law_1199 : decode cL_law 1199 = .ok (.iload 4, 2) := by decide +kernel
theorem dL_law_1201 : decode cL_law 1201 = .ok (.iconst 2, 1) := by decide +kernel
theorem dL_law_1202 : decode cL_law 1202 = .ok (.iadd, 1) := by decide +kernel
theorem dL_law_1203 : decode cL_law 1203 = .ok (.iaload, 1) := by decide +kernel
theorem dL_law_1204 : decode cL_law 1204 = .ok (.aload_n 0, 1) := by decide +kernel
theorem dL_law_1205 : decode cL_law 1205 = .ok (.iload 4, 2) := by decide +kernel
theorem dL_law_1207 : decode cL_law 1207 = .ok (.iconst 3, 1) := by decide +kernel
theorem dL_law_1208 : decode cL_law 1208 = .ok (.iadd, 1) := by decide +kernel
theorem dL_law_1209 : decode cL_law 1209 = .ok (.iaload, 1) := by decide +kernel
theorem dL_law_1210 : decode cL_law 1210 = .ok (.invokevirtual 165, 3) := by decide +kernel
theorem dL_law_1213 : decode cL_law 1213 = .ok (.aload_n 2, 1) := by decide +kernel
theorem dL_law_1214 : decode cL_law 1214 = .ok (.aload_n 0, 1) := by decide +kernel
theorem dL_law_1215 : decode cL_law 1215 = .ok (.iload 4, 2) := by decide +kernel
theorem dL_law_1217 : decode cL_law 1217 = .ok (.iconst 1, 1) := by decide +kernel
theorem dL_law_1218 : decode cL_law 1218 = .ok (.iadd, 1) := by decide +kernel
theorem dL_law_1219 : decode cL_law 1219 = .ok (.iaload, 1) := by decide +kernel
theorem dL_law_1220 : decode cL_law 1220 = .ok (.aload_n 0, 1) := by decide +kernel
theorem dL_law_1221 : decode cL_law 1221 = .ok (.iload 4, 2) := by decide +kernel
theorem dL_law_1223 : decode cL_law 1223 = .ok (.iconst 2, 1) := by decide +kernel
theorem dL_law_1224 : decode cL_law 1224 = .ok (.iadd, 1) := by decide +kernel
theorem dL_law_1225 : decode cL_law 1225 = .ok (.iaload, 1) := by decide +kernel
theorem dL_law_1226 : decode cL_law 1226 = .ok (.aload_n 0, 1) := by decide +kernel
theorem dL_law_1227 : decode cL_law 1227 = .ok (.iload 4, 2) := by decide +kernel
theorem dL_law_1229 : decode cL_law 1229 = .ok (.iconst 3, 1) := by decide +kernel
theorem dL_law_1230 : decode cL_law 1230 = .ok (.iadd, 1) := by decide +kernel
theorem dL_law_1231 : decode cL_law 1231 = .ok (.iaload, 1) := by decide +kernel
theorem dL_law_1232 : decode cL_law 1232 = .ok (.invokevirtual 168, 3) := by decide +kernel
theorem dL_law_1235 : decode cL_law 1235 = .ok (.if_icmp .eq 168, 3) := by decide +kernel
theorem dL_law_1238 : decode cL_law 1238 = .ok (.iconst 0, 1) := by decide +kernel
theorem dL_law_1239 : decode cL_law 1239 = .ok (.ireturn, 1) := by decide +kernel
theorem dL_law_1240 : decode cL_law 1240 = .ok (.aload_n 1, 1) := by decide +kernel
theorem dL_law_1241 : decode cL_law 1241 = .ok (.aload_n 0, 1) := by decide +kernel
theorem dL_law_1242 : decode cL_law 1242 = .ok (.iload 4, 2) := by decide +kernel
theorem dL_law_1244 : decode cL_law 1244 = .ok (.iconst 1, 1) := by decide +kernel
theorem dL_law_1245 : decode cL_law 1245 = .ok (.iadd, 1) := by decide +kernel
theorem dL_law_1246 : decode cL_law 1246 = .ok (.iaload, 1) := by decide +kernel
theorem dL_law_1247 : decode cL_law 1247 = .ok (.invokevirtual 169, 3) := by decide +kernel
theorem dL_law_1250 : decode cL_law 1250 = .ok (.aload_n 2, 1) := by decide +kernel
theorem dL_law_1251 : decode cL_law 1251 = .ok (.aload_n 0, 1) := by decide +kernel
theorem dL_law_1252 : decode cL_law 1252 = .ok (.iload 4, 2) := by decide +kernel
theorem dL_law_1254 : decode cL_law 1254 = .ok (.iconst 1, 1) := by decide +kernel
theorem dL_law_1255 : decode cL_law 1255 = .ok (.iadd, 1) := by decide +kernel
theorem dL_law_1256 : decode cL_law 1256 = .ok (.iaload, 1) := by decide +kernel
theorem dL_law_1257 : decode cL_law 1257 = .ok (.invokevirtual 172, 3) := by decide +kernel
theorem dL_law_1260 : decode cL_law 1260 = .ok (.if_icmp .eq 143, 3) := by decide +kernel
theorem dL_law_1263 : decode cL_law 1263 = .ok (.iconst 0, 1) := by decide +kernel
theorem dL_law_1264 : decode cL_law 1264 = .ok (.ireturn, 1) := by decide +kernel
theorem dL_law_1265 : decode cL_law 1265 = .ok (.aload_n 1, 1) := by decide +kernel
theorem dL_law_1266 : decode cL_law 1266 = .ok (.aload_n 0, 1) := by decide +kernel
theorem dL_law_1267 : decode cL_law 1267 = .ok (.iload 4, 2) := by decide +kernel
theorem dL_law_1269 : decode cL_law 1269 = .ok (.iconst 1, 1) := by decide +kernel
theorem dL_law_1270 : decode cL_law 1270 = .ok (.iadd, 1) := by decide +kernel
theorem dL_law_1271 : decode cL_law 1271 = .ok (.iaload, 1) := by decide +kernel
theorem dL_law_1272 : decode cL_law 1272 = .ok (.invokevirtual 173, 3) := by decide +kernel
theorem dL_law_1275 : decode cL_law 1275 = .ok (.aload_n 2, 1) := by decide +kernel
theorem dL_law_1276 : decode cL_law 1276 = .ok (.aload_n 0, 1) := by decide +kernel
theorem dL_law_1277 : decode cL_law 1277 = .ok (.iload 4, 2) := by decide +kernel
theorem dL_law_1279 : decode cL_law 1279 = .ok (.iconst 1, 1) := by decide +kernel
theorem dL_law_1280 : decode cL_law 1280 = .ok (.iadd, 1) := by decide +kernel
theorem dL_law_1281 : decode cL_law 1281 = .ok (.iaload, 1) := by decide +kernel
theorem dL_law_1282 : decode cL_law 1282 = .ok (.invokevirtual 176, 3) := by decide +kernel
theorem dL_law_1285 : decode cL_law 1285 = .ok (.if_icmp .eq 118, 3) := by decide +kernel
theorem dL_law_1288 : decode cL_law 1288 = .ok (.iconst 0, 1) := by decide +kernel
theorem dL_law_1289 : decode cL_law 1289 = .ok (.ireturn, 1) := by decide +kernel
theorem dL_law_1290 : decode cL_law 1290 = .ok (.aload_n 1, 1) := by decide +kernel
theorem dL_law_1291 : decode cL_law 1291 = .ok (.invokevirtual 177, 3) := by decide +kernel
theorem dL_law_1294 : decode cL_law 1294 = .ok (.aload_n 2, 1) := by decide +kernel
theorem dL_law_1295 : decode cL_law 1295 = .ok (.invokevirtual 180, 3) := by decide +kernel
theorem dL_law_1298 : decode cL_law 1298 = .ok (.if_icmp .eq 105, 3) := by decide +kernel
theorem dL_law_1301 : decode cL_law 1301 = .ok (.iconst 0, 1) := by decide +kernel
theorem dL_law_1302 : decode cL_law 1302 = .ok (.ireturn, 1) := by decide +kernel
theorem dL_law_1303 : decode cL_law 1303 = .ok (.aload_n 1, 1) := by decide +kernel
theorem dL_law_1304 : decode cL_law 1304 = .ok (.aload_n 0, 1) := by decide +kernel
theorem dL_law_1305 : decode cL_law 1305 = .ok (.iload 4, 2) := by decide +kernel
theorem dL_law_1307 : decode cL_law 1307 = .ok (.iconst 1, 1) := by decide +kernel
theorem dL_law_1308 : decode cL_law 1308 = .ok (.iadd, 1) := by decide +kernel
theorem dL_law_1309 : decode cL_law 1309 = .ok (.iaload, 1) := by decide +kernel
theorem dL_law_1310 : decode cL_law 1310 = .ok (.invokevirtual 181, 3) := by decide +kernel
theorem dL_law_1313 : decode cL_law 1313 = .ok (.aload_n 2, 1) := by decide +kernel
theorem dL_law_1314 : decode cL_law 1314 = .ok (.aload_n 0, 1) := by decide +kernel
theorem dL_law_1315 : decode cL_law 1315 = .ok (.iload 4, 2) := by decide +kernel
theorem dL_law_1317 : decode cL_law 1317 = .ok (.iconst 1, 1) := by decide +kernel
theorem dL_law_1318 : decode cL_law 1318 = .ok (.iadd, 1) := by decide +kernel
theorem dL_law_1319 : decode cL_law 1319 = .ok (.iaload, 1) := by decide +kernel
theorem dL_law_1320 : decode cL_law 1320 = .ok (.invokevirtual 184, 3) := by decide +kernel
theorem dL_law_1323 : decode cL_law 1323 = .ok (.if_icmp .eq 80, 3) := by decide +kernel
theorem dL_law_1326 : decode cL_law 1326 = .ok (.iconst 0, 1) := by decide +kernel
theorem dL_law_1327 : decode cL_law 1327 = .ok (.ireturn, 1) := by decide +kernel
theorem dL_law_1328 : decode cL_law 1328 = .ok (.aload_n 1, 1) := by decide +kernel
theorem dL_law_1329 : decode cL_law 1329 = .ok (.aload_n 0, 1) := by decide +kernel
theorem dL_law_1330 : decode cL_law 1330 = .ok (.iload 4, 2) := by decide +kernel
theorem dL_law_1332 : decode cL_law 1332 = .ok (.iconst 1, 1) := by decide +kernel
theorem dL_law_1333 : decode cL_law 1333 = .ok (.iadd, 1) := by decide +kernel
theorem dL_law_1334 : decode cL_law 1334 = .ok (.iaload, 1) := by decide +kernel
theorem dL_law_1335 : decode cL_law 1335 = .ok (.invokevirtual 185, 3) := by decide +kernel
theorem dL_law_1338 : decode cL_law 1338 = .ok (.aload_n 2, 1) := by decide +kernel
theorem dL_law_1339 : decode cL_law 1339 = .ok (.aload_n 0, 1) := by decide +kernel
theorem dL_law_1340 : decode cL_law 1340 = .ok (.iload 4, 2) := by decide +kernel
theorem dL_law_1342 : decode cL_law 1342 = .ok (.iconst 1, 1) := by decide +kernel
theorem dL_law_1343 : decode cL_law 1343 = .ok (.iadd, 1) := by decide +kernel
theorem dL_law_1344 : decode cL_law 1344 = .ok (.iaload, 1) := by decide +kernel
theorem dL_law_1345 : decode cL_law 1345 = .ok (.invokevirtual 188, 3) := by decide +kernel
theorem dL_law_1348 : decode cL_law 1348 = .ok (.if_icmp .eq 55, 3) := by decide +kernel
theorem dL_law_1351 : decode cL_law 1351 = .ok (.iconst 0, 1) := by decide +kernel
theorem dL_law_1352 : decode cL_law 1352 = .ok (.ireturn, 1) := by decide +kernel
theorem dL_law_1353 : decode cL_law 1353 = .ok (.aload_n 1, 1) := by decide +kernel
theorem dL_law_1354 : decode cL_law 1354 = .ok (.aload_n 0, 1) := by decide +kernel
theorem dL_law_1355 : decode cL_law 1355 = .ok (.iload 4, 2) := by decide +kernel
theorem dL_law_1357 : decode cL_law 1357 = .ok (.iconst 1, 1) := by decide +kernel
theorem dL_law_1358 : decode cL_law 1358 = .ok (.iadd, 1) := by decide +kernel
theorem dL_law_1359 : decode cL_law 1359 = .ok (.iaload, 1) := by decide +kernel
theorem dL_law_1360 : decode cL_law 1360 = .ok (.invokevirtual 189, 3) := by decide +kernel
theorem dL_law_1363 : decode cL_law 1363 = .ok (.aload_n 2, 1) := by decide +kernel
theorem dL_law_1364 : decode cL_law 1364 = .ok (.aload_n 0, 1) := by decide +kernel
theorem dL_law_1365 : decode cL_law 1365 = .ok (.iload 4, 2) := by decide +kernel
theorem dL_law_1367 : decode cL_law 1367 = .ok (.iconst 1, 1) := by decide +kernel
theorem dL_law_1368 : decode cL_law 1368 = .ok (.iadd, 1) := by decide +kernel
theorem dL_law_1369 : decode cL_law 1369 = .ok (.iaload, 1) := by decide +kernel
theorem dL_law_1370 : decode cL_law 1370 = .ok (.invokevirtual 192, 3) := by decide +kernel
theorem dL_law_1373 : decode cL_law 1373 = .ok (.if_icmp .eq 30, 3) := by decide +kernel
theorem dL_law_1376 : decode cL_law 1376 = .ok (.iconst 0, 1) := by decide +kernel
theorem dL_law_1377 : decode cL_law 1377 = .ok (.ireturn, 1) := by decide +kernel
theorem dL_law_1378 : decode cL_law 1378 = .ok (.aload_n 1, 1) := by decide +kernel
theorem dL_law_1379 : decode cL_law 1379 = .ok (.aload_n 0, 1) := by decide +kernel
theorem dL_law_1380 : decode cL_law 1380 = .ok (.iload 4, 2) := by decide +kernel
theorem dL_law_1382 : decode cL_law 1382 = .ok (.iconst 1, 1) := by decide +kernel
theorem dL_law_1383 : decode cL_law 1383 = .ok (.iadd, 1) := by decide +kernel
theorem dL_law_1384 : decode cL_law 1384 = .ok (.iaload, 1) := by decide +kernel
theorem dL_law_1385 : decode cL_law 1385 = .ok (.invokevirtual 193, 3) := by decide +kernel
theorem dL_law_1388 : decode cL_law 1388 = .ok (.aload_n 2, 1) := by decide +kernel
theorem dL_law_1389 : decode cL_law 1389 = .ok (.aload_n 0, 1) := by decide +kernel
theorem dL_law_1390 : decode cL_law 1390 = .ok (.iload 4, 2) := by decide +kernel
theorem dL_law_1392 : decode cL_law 1392 = .ok (.iconst 1, 1) := by decide +kernel
theorem dL_law_1393 : decode cL_law 1393 = .ok (.iadd, 1) := by decide +kernel
theorem dL_law_1394 : decode cL_law 1394 = .ok (.iaload, 1) := by decide +kernel
theorem dL_law_1395 : decode cL_law 1395 = .ok (.invokevirtual 196, 3) := by decide +kernel
theorem dL_law_1398 : decode cL_law 1398 = .ok (.if_icmp .eq 5, 3) := by decide +kernel
theorem dL_law_1401 : decode cL_law 1401 = .ok (.iconst 0, 1) := by decide +kernel
theorem dL_law_1402 : decode cL_law 1402 = .ok (.ireturn, 1) := by decide +kernel
theorem dL_law_1403 : decode cL_law 1403 = .ok (.iinc 4 6, 3) := by decide +kernel
theorem dL_law_1406 : decode cL_law 1406 = .ok (.goto (-1383), 3) := by decide +kernel
theorem dL_law_1409 : decode cL_law 1409 = .ok (.iconst 1, 1) := by decide +kernel
theorem dL_law_1410 : decode cL_law 1410 = .ok (.ireturn, 1) := by decide +kernel
section ZLA
variable {G : zG} {p : Program} {l : Launch} {e : Env} {R : Room} {s : State} {m : MethodId} {args : Array Value} {below : List Frame} {meth : Method} {c : Code} {H : Heap} {locs : List Loc} {cells slots : Nat} {Q : State → Prop} {own : String} {cc : ByteArray} {nL : Nat} {ret : Option FieldType} {n : Nat} {f f1 f2 : zF} {pc : Nat} {ls : Array Slot} {rest : List Value}
theorem zof_add {q k : Nat} (h : q + k < 2 ^ 31) : Int32.ofNat q + Int32.ofNat k = Int32.ofNat (q + k) := by
  apply Int32.toInt_inj.mp
  rw [Int32.toInt_add, Int32.toInt_ofNat_of_lt (by omega), Int32.toInt_ofNat_of_lt (by omega), Int32.toInt_ofNat_of_lt h]
  rw [Int.bmod_eq_of_le (by omega) (by omega)]
  omega
theorem zof_in {q L : Nat} (h : q < L) (hL : L ≤ 3072) : vp_in (Int32.ofNat q) L := by
  have h1 : (Int32.ofNat q).toInt = q := Int32.toInt_ofNat_of_lt (by omega)
  rintro (h2 | h2)
  · have h3 : (Int32.ofNat q).toInt < (0 : Int32).toInt := Int32.lt_iff_toInt_lt.mp h2
    rw [h1] at h3
    have h4 : (0 : Int32).toInt = 0 := rfl
    omega
  · have h3 : (Int32.ofNat q).toNatClampNeg = q := by
      rw [← Int32.toNat_toInt, h1]
      rfl
    omega
theorem zof_nat {q : Nat} (h : q < 2 ^ 31) : (Int32.ofNat q).toNatClampNeg = q := by
  rw [← Int32.toNat_toInt, Int32.toInt_ofNat_of_lt h]
  rfl
/-- 'script[i + k]' -/
theorem zl_arg {b L q i k : Nat} {xs : Nat → Int32} (hexec : p.tables.exec = Jvm.exec) (hb : c.code = cc) (hX : va_X b L xs s G.2.2.2) (hbl : b < G.2.2.2.size) (hj : q + 6 ≤ L ∧ L ≤ 3072) (hS : zS G n f H locs) (h0 : ls[0]? = some (.val (.ref b))) (h4 : ls[4]? = some (.val (.int (Int32.ofNat q)))) (hk : k < 6) (hkk : 0 < k)
    (d0 : decode cc pc = .ok (.aload_n 0, 1)) (d1 : decode cc (pc + 1) = .ok (.iload 4, 2)) (d2 : decode cc (pc + 3) = .ok (.iconst (k : Int), 1)) (d3 : decode cc (pc + 4) = .ok (.iadd, 1)) (d4 : decode cc (pc + 5) = .ok (.iaload, 1)) (_ : i = i)
    (kk : W p l e R s m args below meth c H locs cells slots Q (F0 m (pc + 6) ls (.int (xs (q + k)) :: rest))) : W p l e R s m args below meth c H locs cells slots Q (F0 m pc ls rest) := by
  refine lv_aload_n hexec hb d0 rfl h0 ?_
  refine lv_iload hexec hb d1 h4 ?_
  refine lv_iconst (v := Int32.ofNat k) hexec hb d2 rfl ?_
  refine lv_iadd hexec hb d3 ?_
  rw [zof_add (by omega)]
  refine va_sld (A := zA G) hexec hb hX hbl (fun h => Nat.not_le.mpr hbl h) hS.2 (zof_in (by omega) hj.2) d4 ?_
  rw [zof_nat (by omega)]
  exact kk
/-- a static call of a method with a table -/
theorem zq_callW (B : zB G p s m args meth c own cc nL ret) (hS : zS G n f H locs) {y : MethodName} {idx maxL np d : Nat} {bytes : ByteArray} {ret2 : Option FieldType} {ro : Option Value} {As st : List Value} {hh : List (Nat × Nat × Nat × Nat)}
    (hM : zMW l G y bytes maxL ret2 hh d n f As ro f2) (y1 : Cond.codeWith y bytes maxL ret2 hh ∈ zTT) (y2 : Cond.static y ∈ zTT) (y3 : Cond.initialized y.cls ∈ zTT) (y5 : y.cls ≠ "java/lang/invoke/MethodHandle" ∧ y.cls ≠ "java/lang/invoke/VarHandle" ∧ (parseMethodDescriptor y.desc).map (fun d => d.parameters.length) = some np) (hlk : Cond.methodLink own idx y ∈ zTT) (hd : d + 1 ≤ R.frames ∧ maxL + 19 + 64 * d ≤ R.locals) (hn : As.length = np) (hl : ls.size = nL) (hst : st = As.reverse ++ rest) (hW : (rest.map fun v => v.category).sum ≤ 8) (hdg : decode cc pc = .ok (.invokestatic idx, 3))
    (hcs : cells + 1 ≤ R.cells ∧ slots + 6 ≤ R.slots)
    (kk : ∀ H1 locs1, zS G n f2 H1 locs1 → W p l e R s m args below meth c H1 locs1 (cells + 1) (slots + 6) Q (F0 m (pc + 3) ls (ro.toList ++ rest))) : W p l e R s m args below meth c H locs cells slots Q (F0 m pc ls st) := by
  subst hst
  have hG : GoodIn zTT (va_wsS own idx y (Cond.codeWith y bytes maxL ret2 hh :: zTT)) := zTT_good (by
    intro w hw
    simp only [va_wsS, List.mem_append, List.mem_cons, List.not_mem_nil, or_false] at hw
    rcases hw with (rfl | rfl | rfl) | rfl | hw
    · exact hlk
    · exact y2
    · exact y3
    · exact y1
    · exact hw)
  have hr := vx_runSW (l := l) (e := e) (R := R) (below := below) (locs := locs) (cells := cells) (slots := slots) (H := H) (meth := meth) (g := F0 m pc ls (As.reverse ++ rest)) (As := As) (rest := rest) (own := own) (Ts := zTT) ⟨B.1, B.2.1, B.2.2.1, B.2.2.2.1, B.2.2.2.2.1⟩ hM (vx_cwSW np B.2.2.2.2.1 hG rfl rfl rfl y5 ⟨hd.1, by show 8 + (maxL + 11) + 64 * d ≤ R.locals; omega⟩) ⟨zPc_blind, fun U hU hW2 => ⟨rfl, by rw [hU]; exact hS.drop, zC_up B hW2⟩⟩ rfl hn hl rfl (lv_room hW) hdg ⟨hcs.1, hcs.2⟩
  intro T9 hT X
  obtain ⟨v, st₀, t, T', L, h0, X', hL, e1, e2, ⟨hv, hP⟩, sx⟩ := hr T9 hT X
  cases hv
  obtain ⟨t2, a1, b1⟩ := kk T'.heap (locs ++ L) (by rw [e1]; exact hS.app hP hL) T' rfl X'
  exact ⟨t2, sx t2 a1, b1⟩
end ZLA

section ZLAW
variable {G : zG} {p : Program} {l : Launch} {e : Env} {s : State} {m : MethodId} {b : Nat} {below : List Frame} {meth : Method} {c : Code} {H : Heap} {locs : List Loc} {cells slots : Nat} {Q : State → Prop} {N n q L : Nat} {xs : Nat → Int32} {f f9 : zF} {ls : Array Slot} {p1 p2 p3 p4 p5 : Int32}
def zlc0 (N n : Nat) (f : zF) (p1 : Int32) (p2 : Int32) (p3 : Int32) (p4 : Int32) (p5 : Int32) : Option zF :=
    ((zck n f 11 0).bind fun _ => (zbd (fX11_feed N n f 0 p1 p2 p3 p4 p5) fun f2 x1 => ((zck n f2 12 196).bind fun _ => (zbd (fX12_feed N n f2 196 p1 p2 p3 p4 p5) fun f4 x3 => (if x1 = x3 then some f4 else none)))))
set_option maxRecDepth 100000 in
set_option maxHeartbeats 4000000 in
theorem zlw0 (B : zB G p s m #[Value.ref b] meth c RL cL_law 7 (some .boolean)) (hG : zOK G) (hLf : l.stackTraces = false) (hX : va_X b L xs s G.2.2.2) (hbl : b < G.2.2.2.size) (hj : q + 6 ≤ L ∧ L ≤ 3072) (hcs : cells + 1 ≤ room_1.cells ∧ slots + 6 ≤ room_1.slots) (h : zlc0 N n f (xs (q + 1)) (xs (q + 2)) (xs (q + 3)) (xs (q + 4)) (xs (q + 5)) = some f9) (hS : zS G n f H locs) (hl : lv_has ls 7 [(0, .ref b), (1, zr G 0), (2, zr G 196), (3, zr G 215), (4, .int (Int32.ofNat q))])
    (kk : ∀ H1 locs1, zS G n f9 H1 locs1 → ∀ ls1, lv_has ls1 7 [(0, .ref b), (1, zr G 0), (2, zr G 196), (3, zr G 215), (4, .int (Int32.ofNat q))] → W p l e room_1 s m #[Value.ref b] below meth c H1 locs1 (cells + 1) (slots + 6) Q (F0 m 1403 ls1 [])) : W p l e room_1 s m #[Value.ref b] below meth c H locs cells slots Q (F0 m 220 ls []) := by
  have he := B.1
  have hb := B.2.1
  unfold zlc0 at h
  refine W.widen (Nat.le_add_right _ 1) (Nat.le_add_right _ 6) ?_
  refine z_aload_n he hb dL_law_220 rfl (lv_at hl 1 rfl) (zref_r _ _) ?_
  refine zl_arg (i := 0) (k := 1) he hb hX hbl hj hS (lv_at hl 0 rfl) (lv_at hl 4 rfl) (by decide) (by decide) dL_law_221 dL_law_222 dL_law_224 dL_law_225 dL_law_226 rfl ?_
  refine zl_arg (i := 0) (k := 2) he hb hX hbl hj hS (lv_at hl 0 rfl) (lv_at hl 4 rfl) (by decide) (by decide) dL_law_227 dL_law_228 dL_law_230 dL_law_231 dL_law_232 rfl ?_
  refine zl_arg (i := 0) (k := 3) he hb hX hbl hj hS (lv_at hl 0 rfl) (lv_at hl 4 rfl) (by decide) (by decide) dL_law_233 dL_law_234 dL_law_236 dL_law_237 dL_law_238 rfl ?_
  refine zl_arg (i := 0) (k := 4) he hb hX hbl hj hS (lv_at hl 0 rfl) (lv_at hl 4 rfl) (by decide) (by decide) dL_law_239 dL_law_240 dL_law_242 dL_law_243 dL_law_244 rfl ?_
  refine zl_arg (i := 0) (k := 5) he hb hX hbl hj hS (lv_at hl 0 rfl) (lv_at hl 4 rfl) (by decide) (by decide) dL_law_245 dL_law_246 dL_law_248 dL_law_249 dL_law_250 rfl ?_
  obtain ⟨_, hc, h⟩ := zob h
  obtain ⟨f2, x1, hx, h⟩ := zbd_i h
  refine zq_callV (ci := 11) (T := TX11) (N := 14) (rest := []) B hS (mX11_feed l G hx) zy_X11_feed zk_551 ⟨by decide, by decide⟩ hc rfl rfl hl rfl (Nat.le_of_ble_eq_true rfl) dL_law_251 hcs (fun H locs hS => ?_)
  refine z_aload_n he hb dL_law_254 rfl (lv_at hl 2 rfl) (zref_r _ _) ?_
  refine zl_arg (i := 0) (k := 1) he hb hX hbl hj hS (lv_at hl 0 rfl) (lv_at hl 4 rfl) (by decide) (by decide) dL_law_255 dL_law_256 dL_law_258 dL_law_259 dL_law_260 rfl ?_
  refine zl_arg (i := 0) (k := 2) he hb hX hbl hj hS (lv_at hl 0 rfl) (lv_at hl 4 rfl) (by decide) (by decide) dL_law_261 dL_law_262 dL_law_264 dL_law_265 dL_law_266 rfl ?_
  refine zl_arg (i := 0) (k := 3) he hb hX hbl hj hS (lv_at hl 0 rfl) (lv_at hl 4 rfl) (by decide) (by decide) dL_law_267 dL_law_268 dL_law_270 dL_law_271 dL_law_272 rfl ?_
  refine zl_arg (i := 0) (k := 4) he hb hX hbl hj hS (lv_at hl 0 rfl) (lv_at hl 4 rfl) (by decide) (by decide) dL_law_273 dL_law_274 dL_law_276 dL_law_277 dL_law_278 rfl ?_
  refine zl_arg (i := 0) (k := 5) he hb hX hbl hj hS (lv_at hl 0 rfl) (lv_at hl 4 rfl) (by decide) (by decide) dL_law_279 dL_law_280 dL_law_282 dL_law_283 dL_law_284 rfl ?_
  obtain ⟨_, hc, h⟩ := zob h
  obtain ⟨f4, x3, hx, h⟩ := zbd_i h
  refine zq_callV (ci := 12) (T := TX12) (N := 50) (rest := [_]) B hS (mX12_feed l G hx) zy_X12_feed zk_1298 ⟨by decide, by decide⟩ hc rfl rfl hl rfl (Nat.le_of_ble_eq_true rfl) dL_law_285 hcs (fun H locs hS => ?_)
  refine lv_icmp_eq (tgt := 1403) he hb dL_law_288 (by decide) (fun hc => ?_) (fun hc => ?_)
  · rw [if_pos hc] at h
    obtain rfl := Option.some.inj h
    exact kk _ _ hS _ hl
  · rw [if_neg hc] at h
    cases h
def zlc1 (N n : Nat) (f : zF) (p1 : Int32) : Option zF :=
    ((zck n f 11 0).bind fun _ => (zbd (fX11_end N n f 0 p1) fun f2 x1 => ((zck n f2 12 196).bind fun _ => (zbd (fX12_end N n f2 196 p1) fun f4 x3 => (if x1 = x3 then some f4 else none)))))
set_option maxRecDepth 100000 in
set_option maxHeartbeats 4000000 in
theorem zlw1 (B : zB G p s m #[Value.ref b] meth c RL cL_law 7 (some .boolean)) (hG : zOK G) (hLf : l.stackTraces = false) (hX : va_X b L xs s G.2.2.2) (hbl : b < G.2.2.2.size) (hj : q + 6 ≤ L ∧ L ≤ 3072) (hcs : cells + 1 ≤ room_1.cells ∧ slots + 6 ≤ room_1.slots) (h : zlc1 N n f (xs (q + 1)) = some f9) (hS : zS G n f H locs) (hl : lv_has ls 7 [(0, .ref b), (1, zr G 0), (2, zr G 196), (3, zr G 215), (4, .int (Int32.ofNat q))])
    (kk : ∀ H1 locs1, zS G n f9 H1 locs1 → ∀ ls1, lv_has ls1 7 [(0, .ref b), (1, zr G 0), (2, zr G 196), (3, zr G 215), (4, .int (Int32.ofNat q))] → W p l e room_1 s m #[Value.ref b] below meth c H1 locs1 (cells + 1) (slots + 6) Q (F0 m 1403 ls1 [])) : W p l e room_1 s m #[Value.ref b] below meth c H locs cells slots Q (F0 m 293 ls []) := by
  have he := B.1
  have hb := B.2.1
  unfold zlc1 at h
  refine W.widen (Nat.le_add_right _ 1) (Nat.le_add_right _ 6) ?_
  refine z_aload_n he hb dL_law_293 rfl (lv_at hl 1 rfl) (zref_r _ _) ?_
  refine zl_arg (i := 0) (k := 1) he hb hX hbl hj hS (lv_at hl 0 rfl) (lv_at hl 4 rfl) (by decide) (by decide) dL_law_294 dL_law_295 dL_law_297 dL_law_298 dL_law_299 rfl ?_
  obtain ⟨_, hc, h⟩ := zob h
  obtain ⟨f2, x1, hx, h⟩ := zbd_i h
  refine zq_callV (ci := 11) (T := TX11) (N := 14) (rest := []) B hS (mX11_end l G hx) zy_X11_end zk_559 ⟨by decide, by decide⟩ hc rfl rfl hl rfl (Nat.le_of_ble_eq_true rfl) dL_law_300 hcs (fun H locs hS => ?_)
  refine z_aload_n he hb dL_law_303 rfl (lv_at hl 2 rfl) (zref_r _ _) ?_
  refine zl_arg (i := 0) (k := 1) he hb hX hbl hj hS (lv_at hl 0 rfl) (lv_at hl 4 rfl) (by decide) (by decide) dL_law_304 dL_law_305 dL_law_307 dL_law_308 dL_law_309 rfl ?_
  obtain ⟨_, hc, h⟩ := zob h
  obtain ⟨f4, x3, hx, h⟩ := zbd_i h
  refine zq_callV (ci := 12) (T := TX12) (N := 50) (rest := [_]) B hS (mX12_end l G hx) zy_X12_end zk_1307 ⟨by decide, by decide⟩ hc rfl rfl hl rfl (Nat.le_of_ble_eq_true rfl) dL_law_310 hcs (fun H locs hS => ?_)
  refine lv_icmp_eq (tgt := 1403) he hb dL_law_313 (by decide) (fun hc => ?_) (fun hc => ?_)
  · rw [if_pos hc] at h
    obtain rfl := Option.some.inj h
    exact kk _ _ hS _ hl
  · rw [if_neg hc] at h
    cases h
def zlc2 (N n : Nat) (f : zF) : Option zF :=
    ((zck n f 11 0).bind fun _ => (zbd (fX11_field N n f 0) fun f2 x1 => ((zck n f2 12 196).bind fun _ => (zbd (fX12_field N n f2 196) fun f4 x3 => (if x1 = x3 then some f4 else none)))))
set_option maxRecDepth 100000 in
set_option maxHeartbeats 4000000 in
theorem zlw2 (B : zB G p s m #[Value.ref b] meth c RL cL_law 7 (some .boolean)) (hG : zOK G) (hLf : l.stackTraces = false) (hX : va_X b L xs s G.2.2.2) (hbl : b < G.2.2.2.size) (hj : q + 6 ≤ L ∧ L ≤ 3072) (hcs : cells + 1 ≤ room_1.cells ∧ slots + 6 ≤ room_1.slots) (h : zlc2 N n f = some f9) (hS : zS G n f H locs) (hl : lv_has ls 7 [(0, .ref b), (1, zr G 0), (2, zr G 196), (3, zr G 215), (4, .int (Int32.ofNat q))])
    (kk : ∀ H1 locs1, zS G n f9 H1 locs1 → ∀ ls1, lv_has ls1 7 [(0, .ref b), (1, zr G 0), (2, zr G 196), (3, zr G 215), (4, .int (Int32.ofNat q))] → W p l e room_1 s m #[Value.ref b] below meth c H1 locs1 (cells + 1) (slots + 6) Q (F0 m 1403 ls1 [])) : W p l e room_1 s m #[Value.ref b] below meth c H locs cells slots Q (F0 m 318 ls []) := by
  have he := B.1
  have hb := B.2.1
  unfold zlc2 at h
  refine W.widen (Nat.le_add_right _ 1) (Nat.le_add_right _ 6) ?_
  refine z_aload_n he hb dL_law_318 rfl (lv_at hl 1 rfl) (zref_r _ _) ?_
  obtain ⟨_, hc, h⟩ := zob h
  obtain ⟨f2, x1, hx, h⟩ := zbd_i h
  refine zq_callV (ci := 11) (T := TX11) (N := 14) (rest := []) B hS (mX11_field l G hx) zy_X11_field zk_563 ⟨by decide, by decide⟩ hc rfl rfl hl rfl (Nat.le_of_ble_eq_true rfl) dL_law_319 hcs (fun H locs hS => ?_)
  refine z_aload_n he hb dL_law_322 rfl (lv_at hl 2 rfl) (zref_r _ _) ?_
  obtain ⟨_, hc, h⟩ := zob h
  obtain ⟨f4, x3, hx, h⟩ := zbd_i h
  refine zq_callV (ci := 12) (T := TX12) (N := 50) (rest := [_]) B hS (mX12_field l G hx) zy_X12_field zk_1499 ⟨by decide, by decide⟩ hc rfl rfl hl rfl (Nat.le_of_ble_eq_true rfl) dL_law_323 hcs (fun H locs hS => ?_)
  refine lv_icmp_eq (tgt := 1403) he hb dL_law_326 (by decide) (fun hc => ?_) (fun hc => ?_)
  · rw [if_pos hc] at h
    obtain rfl := Option.some.inj h
    exact kk _ _ hS _ hl
  · rw [if_neg hc] at h
    cases h
def zlc3 (N n : Nat) (f : zF) : Option zF :=
    ((zck n f 11 0).bind fun _ => ((fX11_fault N n f 0).bind fun x1 => ((zck n f 12 196).bind fun _ => (zbd (fX12_fault N n f 196) fun f3 x2 => (if x1 = x2 then some f3 else none)))))
set_option maxRecDepth 100000 in
set_option maxHeartbeats 4000000 in
theorem zlw3 (B : zB G p s m #[Value.ref b] meth c RL cL_law 7 (some .boolean)) (hG : zOK G) (hLf : l.stackTraces = false) (hX : va_X b L xs s G.2.2.2) (hbl : b < G.2.2.2.size) (hj : q + 6 ≤ L ∧ L ≤ 3072) (hcs : cells + 1 ≤ room_1.cells ∧ slots + 6 ≤ room_1.slots) (h : zlc3 N n f = some f9) (hS : zS G n f H locs) (hl : lv_has ls 7 [(0, .ref b), (1, zr G 0), (2, zr G 196), (3, zr G 215), (4, .int (Int32.ofNat q))])
    (kk : ∀ H1 locs1, zS G n f9 H1 locs1 → ∀ ls1, lv_has ls1 7 [(0, .ref b), (1, zr G 0), (2, zr G 196), (3, zr G 215), (4, .int (Int32.ofNat q))] → W p l e room_1 s m #[Value.ref b] below meth c H1 locs1 (cells + 1) (slots + 6) Q (F0 m 1403 ls1 [])) : W p l e room_1 s m #[Value.ref b] below meth c H locs cells slots Q (F0 m 331 ls []) := by
  have he := B.1
  have hb := B.2.1
  unfold zlc3 at h
  refine W.widen (Nat.le_add_right _ 1) (Nat.le_add_right _ 6) ?_
  refine z_aload_n he hb dL_law_331 rfl (lv_at hl 1 rfl) (zref_r _ _) ?_
  obtain ⟨_, hc, h⟩ := zob h
  obtain ⟨x1, hx, h⟩ := zob h
  refine zq_callV (ci := 11) (T := TX11) (N := 14) (rest := []) B hS (mX11_fault l G hx) zy_X11_fault zk_743 ⟨by decide, by decide⟩ hc rfl rfl hl rfl (Nat.le_of_ble_eq_true rfl) dL_law_332 hcs (fun H locs hS => ?_)
  refine z_aload_n he hb dL_law_335 rfl (lv_at hl 2 rfl) (zref_r _ _) ?_
  obtain ⟨_, hc, h⟩ := zob h
  obtain ⟨f3, x2, hx, h⟩ := zbd_i h
  refine zq_callV (ci := 12) (T := TX12) (N := 50) (rest := [_]) B hS (mX12_fault l G hx) zy_X12_fault zk_1616 ⟨by decide, by decide⟩ hc rfl rfl hl rfl (Nat.le_of_ble_eq_true rfl) dL_law_336 hcs (fun H locs hS => ?_)
  refine lv_icmp_eq (tgt := 1403) he hb dL_law_339 (by decide) (fun hc => ?_) (fun hc => ?_)
  · rw [if_pos hc] at h
    obtain rfl := Option.some.inj h
    exact kk _ _ hS _ hl
  · rw [if_neg hc] at h
    cases h
def zlc4 (N n : Nat) (f : zF) (p1 : Int32) (p2 : Int32) : Option zF :=
    (zbd (fL_figure N n f 0 p1 p2 215) fun f2 x1 => ((zck n f2 12 196).bind fun _ => (zbd (fX12_figure N n f2 196 p1 p2) fun f4 x3 => ((zck n f4 12 196).bind fun _ => ((fX12_thrown N n f4 196).bind fun x5 => (if x5 = x1 then (if x1 = 0 then ((zlL n f4 1 215 (0 : Int32)).bind fun x6 => (if (lg_cmp x6 (x3.toInt64)) = 0 then some f4 else none)) else some f4) else none))))))
set_option maxRecDepth 100000 in
set_option maxHeartbeats 4000000 in
theorem zlw4 (B : zB G p s m #[Value.ref b] meth c RL cL_law 7 (some .boolean)) (hG : zOK G) (hLf : l.stackTraces = false) (hX : va_X b L xs s G.2.2.2) (hbl : b < G.2.2.2.size) (hj : q + 6 ≤ L ∧ L ≤ 3072) (hcs : cells + 1 ≤ room_1.cells ∧ slots + 6 ≤ room_1.slots) (h : zlc4 N n f (xs (q + 1)) (xs (q + 2)) = some f9) (hS : zS G n f H locs) (hl : lv_has ls 7 [(0, .ref b), (1, zr G 0), (2, zr G 196), (3, zr G 215), (4, .int (Int32.ofNat q))])
    (kk : ∀ H1 locs1, zS G n f9 H1 locs1 → ∀ ls1, lv_has ls1 7 [(0, .ref b), (1, zr G 0), (2, zr G 196), (3, zr G 215), (4, .int (Int32.ofNat q))] → W p l e room_1 s m #[Value.ref b] below meth c H1 locs1 (cells + 1) (slots + 6) Q (F0 m 1403 ls1 [])) : W p l e room_1 s m #[Value.ref b] below meth c H locs cells slots Q (F0 m 344 ls []) := by
  have he := B.1
  have hb := B.2.1
  unfold zlc4 at h
  refine z_aload_n he hb dL_law_344 rfl (lv_at hl 1 rfl) (zref_r _ _) ?_
  refine zl_arg (i := 0) (k := 1) he hb hX hbl hj hS (lv_at hl 0 rfl) (lv_at hl 4 rfl) (by decide) (by decide) dL_law_345 dL_law_346 dL_law_348 dL_law_349 dL_law_350 rfl ?_
  refine zl_arg (i := 0) (k := 2) he hb hX hbl hj hS (lv_at hl 0 rfl) (lv_at hl 4 rfl) (by decide) (by decide) dL_law_351 dL_law_352 dL_law_354 dL_law_355 dL_law_356 rfl ?_
  refine z_aload_n he hb dL_law_357 rfl (lv_at hl 3 rfl) (zref_r _ _) ?_
  obtain ⟨f2, x1, hx, h⟩ := zbd_i h
  refine zq_callW (np := 4) (rest := []) B hS (mL_figure l G hG hLf hx) zk_1212 zk_1211 zk_0 ⟨by decide +kernel, by decide +kernel, by decide +kernel⟩ zk_1210 ⟨by decide, by decide⟩ rfl hl.1 rfl (Nat.le_of_ble_eq_true rfl) dL_law_358 hcs (fun H locs hS => ?_)
  refine lv_istore (lv' := [(5, _), (0, _), (1, _), (2, _), (3, _), (4, _)]) he hb dL_law_361 hl (by decide) rfl (fun ls hl => ?_)
  refine z_aload_n he hb dL_law_363 rfl (lv_at hl 3 rfl) (zref_r _ _) ?_
  refine zl_arg (i := 1) (k := 1) he hb hX hbl hj hS (lv_at hl 1 rfl) (lv_at hl 5 rfl) (by decide) (by decide) dL_law_364 dL_law_365 dL_law_367 dL_law_368 dL_law_369 rfl ?_
  refine zl_arg (i := 1) (k := 2) he hb hX hbl hj hS (lv_at hl 1 rfl) (lv_at hl 5 rfl) (by decide) (by decide) dL_law_370 dL_law_371 dL_law_373 dL_law_374 dL_law_375 rfl ?_
  obtain ⟨_, hc, h⟩ := zob h
  obtain ⟨f4, x3, hx, h⟩ := zbd_i h
  refine zq_callV (ci := 12) (T := TX12) (N := 50) (rest := []) B hS (mX12_figure l G hx) zy_X12_figure zk_1620 ⟨by decide, by decide⟩ hc rfl rfl hl rfl (Nat.le_of_ble_eq_true rfl) dL_law_376 hcs (fun H locs hS => ?_)
  refine lv_istore (lv' := [(6, _), (5, _), (0, _), (1, _), (2, _), (3, _), (4, _)]) he hb dL_law_379 hl (by decide) rfl (fun ls hl => ?_)
  refine z_aload_n he hb dL_law_381 rfl (lv_at hl 4 rfl) (zref_r _ _) ?_
  obtain ⟨_, hc, h⟩ := zob h
  obtain ⟨x5, hx, h⟩ := zob h
  refine zq_callV (ci := 12) (T := TX12) (N := 50) (rest := []) B hS (mX12_thrown l G hx) zy_X12_thrown zk_1294 ⟨by decide, by decide⟩ hc rfl rfl hl rfl (Nat.le_of_ble_eq_true rfl) dL_law_382 hcs (fun H locs hS => ?_)
  refine lv_iload he hb dL_law_385 (lv_at hl 1 rfl) ?_
  refine lv_icmp_eq (tgt := 392) he hb dL_law_387 (by decide) (fun hc => ?_) (fun hc => ?_)
  · rw [if_pos hc] at h
    refine lv_iload he hb dL_law_392 (lv_at hl 1 rfl) ?_
    refine lv_if_ne (tgt := 409) he hb dL_law_394 (by decide) (fun hc => ?_) (fun hc => ?_)
    · rw [if_neg hc] at h
      refine lv_goto (tgt := 1403) he hb dL_law_409 (by decide) ?_
      obtain rfl := Option.some.inj h
      exact kk _ _ hS _ (lv_sub hl [2, 3, 4, 5, 6] rfl)
    · rw [if_pos hc] at h
      refine z_aload_n he hb dL_law_397 rfl (lv_at hl 5 rfl) (zref_r _ _) ?_
      refine lv_iconst (v := (0 : Int32)) he hb dL_law_398 (by decide) ?_
      obtain ⟨x6, hx, h⟩ := zob h
      refine z_ildL B hS hx dL_law_399 ?_
      refine lv_iload he hb dL_law_400 (lv_at hl 0 rfl) ?_
      refine lv_i2l (v := x3.toInt64) he hb dL_law_402 rfl ?_
      refine W.lcmp he hb dL_law_403 ?_
      refine lv_if_eq (tgt := 409) he hb dL_law_404 (by decide) (fun hc => ?_) (fun hc => ?_)
      · rw [if_pos hc] at h
        refine lv_goto (tgt := 1403) he hb dL_law_409 (by decide) ?_
        obtain rfl := Option.some.inj h
        exact kk _ _ hS _ (lv_sub hl [2, 3, 4, 5, 6] rfl)
      · rw [if_neg hc] at h
        cases h
  · rw [if_neg hc] at h
    cases h
def zlc5 (N n : Nat) (f : zF) (p1 : Int32) (p2 : Int32) : Option zF :=
    ((zck n f 11 0).bind fun _ => ((fX11_looker N n f 0 p1 p2).bind fun x1 => ((zck n f 12 196).bind fun _ => (zbd (fX12_looker N n f 196 p1 p2) fun f3 x2 => (if x1 = x2 then some f3 else none)))))
set_option maxRecDepth 100000 in
set_option maxHeartbeats 4000000 in
theorem zlw5 (B : zB G p s m #[Value.ref b] meth c RL cL_law 7 (some .boolean)) (hG : zOK G) (hLf : l.stackTraces = false) (hX : va_X b L xs s G.2.2.2) (hbl : b < G.2.2.2.size) (hj : q + 6 ≤ L ∧ L ≤ 3072) (hcs : cells + 1 ≤ room_1.cells ∧ slots + 6 ≤ room_1.slots) (h : zlc5 N n f (xs (q + 1)) (xs (q + 2)) = some f9) (hS : zS G n f H locs) (hl : lv_has ls 7 [(0, .ref b), (1, zr G 0), (2, zr G 196), (3, zr G 215), (4, .int (Int32.ofNat q))])
    (kk : ∀ H1 locs1, zS G n f9 H1 locs1 → ∀ ls1, lv_has ls1 7 [(0, .ref b), (1, zr G 0), (2, zr G 196), (3, zr G 215), (4, .int (Int32.ofNat q))] → W p l e room_1 s m #[Value.ref b] below meth c H1 locs1 (cells + 1) (slots + 6) Q (F0 m 1403 ls1 [])) : W p l e room_1 s m #[Value.ref b] below meth c H locs cells slots Q (F0 m 412 ls []) := by
  have he := B.1
  have hb := B.2.1
  unfold zlc5 at h
  refine W.widen (Nat.le_add_right _ 1) (Nat.le_add_right _ 6) ?_
  refine z_aload_n he hb dL_law_412 rfl (lv_at hl 1 rfl) (zref_r _ _) ?_
  refine zl_arg (i := 0) (k := 1) he hb hX hbl hj hS (lv_at hl 0 rfl) (lv_at hl 4 rfl) (by decide) (by decide) dL_law_413 dL_law_414 dL_law_416 dL_law_417 dL_law_418 rfl ?_
  refine zl_arg (i := 0) (k := 2) he hb hX hbl hj hS (lv_at hl 0 rfl) (lv_at hl 4 rfl) (by decide) (by decide) dL_law_419 dL_law_420 dL_law_422 dL_law_423 dL_law_424 rfl ?_
  obtain ⟨_, hc, h⟩ := zob h
  obtain ⟨x1, hx, h⟩ := zob h
  refine zq_callV (ci := 11) (T := TX11) (N := 14) (rest := []) B hS (mX11_looker l G hx) zy_X11_looker zk_747 ⟨by decide, by decide⟩ hc rfl rfl hl rfl (Nat.le_of_ble_eq_true rfl) dL_law_425 hcs (fun H locs hS => ?_)
  refine z_aload_n he hb dL_law_428 rfl (lv_at hl 2 rfl) (zref_r _ _) ?_
  refine zl_arg (i := 0) (k := 1) he hb hX hbl hj hS (lv_at hl 0 rfl) (lv_at hl 4 rfl) (by decide) (by decide) dL_law_429 dL_law_430 dL_law_432 dL_law_433 dL_law_434 rfl ?_
  refine zl_arg (i := 0) (k := 2) he hb hX hbl hj hS (lv_at hl 0 rfl) (lv_at hl 4 rfl) (by decide) (by decide) dL_law_435 dL_law_436 dL_law_438 dL_law_439 dL_law_440 rfl ?_
  obtain ⟨_, hc, h⟩ := zob h
  obtain ⟨f3, x2, hx, h⟩ := zbd_i h
  refine zq_callV (ci := 12) (T := TX12) (N := 50) (rest := [_]) B hS (mX12_looker l G hx) zy_X12_looker zk_1671 ⟨by decide, by decide⟩ hc rfl rfl hl rfl (Nat.le_of_ble_eq_true rfl) dL_law_441 hcs (fun H locs hS => ?_)
  refine lv_icmp_eq (tgt := 1403) he hb dL_law_444 (by decide) (fun hc => ?_) (fun hc => ?_)
  · rw [if_pos hc] at h
    obtain rfl := Option.some.inj h
    exact kk _ _ hS _ hl
  · rw [if_neg hc] at h
    cases h
def zlc6 (N n : Nat) (f : zF) (p1 : Int32) (p2 : Int32) (p3 : Int32) : Option zF :=
    ((zck n f 11 0).bind fun _ => ((fX11_cell N n f 0 p1 p2 p3).bind fun x1 => ((zck n f 12 196).bind fun _ => (zbd (fX12_cell N n f 196 p1 p2 p3) fun f3 x2 => (if x1 = x2 then some f3 else none)))))
set_option maxRecDepth 100000 in
set_option maxHeartbeats 4000000 in
theorem zlw6 (B : zB G p s m #[Value.ref b] meth c RL cL_law 7 (some .boolean)) (hG : zOK G) (hLf : l.stackTraces = false) (hX : va_X b L xs s G.2.2.2) (hbl : b < G.2.2.2.size) (hj : q + 6 ≤ L ∧ L ≤ 3072) (hcs : cells + 1 ≤ room_1.cells ∧ slots + 6 ≤ room_1.slots) (h : zlc6 N n f (xs (q + 1)) (xs (q + 2)) (xs (q + 3)) = some f9) (hS : zS G n f H locs) (hl : lv_has ls 7 [(0, .ref b), (1, zr G 0), (2, zr G 196), (3, zr G 215), (4, .int (Int32.ofNat q))])
    (kk : ∀ H1 locs1, zS G n f9 H1 locs1 → ∀ ls1, lv_has ls1 7 [(0, .ref b), (1, zr G 0), (2, zr G 196), (3, zr G 215), (4, .int (Int32.ofNat q))] → W p l e room_1 s m #[Value.ref b] below meth c H1 locs1 (cells + 1) (slots + 6) Q (F0 m 1403 ls1 [])) : W p l e room_1 s m #[Value.ref b] below meth c H locs cells slots Q (F0 m 449 ls []) := by
  have he := B.1
  have hb := B.2.1
  unfold zlc6 at h
  refine W.widen (Nat.le_add_right _ 1) (Nat.le_add_right _ 6) ?_
  refine z_aload_n he hb dL_law_449 rfl (lv_at hl 1 rfl) (zref_r _ _) ?_
  refine zl_arg (i := 0) (k := 1) he hb hX hbl hj hS (lv_at hl 0 rfl) (lv_at hl 4 rfl) (by decide) (by decide) dL_law_450 dL_law_451 dL_law_453 dL_law_454 dL_law_455 rfl ?_
  refine zl_arg (i := 0) (k := 2) he hb hX hbl hj hS (lv_at hl 0 rfl) (lv_at hl 4 rfl) (by decide) (by decide) dL_law_456 dL_law_457 dL_law_459 dL_law_460 dL_law_461 rfl ?_
  refine zl_arg (i := 0) (k := 3) he hb hX hbl hj hS (lv_at hl 0 rfl) (lv_at hl 4 rfl) (by decide) (by decide) dL_law_462 dL_law_463 dL_law_465 dL_law_466 dL_law_467 rfl ?_
  obtain ⟨_, hc, h⟩ := zob h
  obtain ⟨x1, hx, h⟩ := zob h
  refine zq_callV (ci := 11) (T := TX11) (N := 14) (rest := []) B hS (mX11_cell l G hx) zy_X11_cell zk_776 ⟨by decide, by decide⟩ hc rfl rfl hl rfl (Nat.le_of_ble_eq_true rfl) dL_law_468 hcs (fun H locs hS => ?_)
  refine z_aload_n he hb dL_law_471 rfl (lv_at hl 2 rfl) (zref_r _ _) ?_
  refine zl_arg (i := 0) (k := 1) he hb hX hbl hj hS (lv_at hl 0 rfl) (lv_at hl 4 rfl) (by decide) (by decide) dL_law_472 dL_law_473 dL_law_475 dL_law_476 dL_law_477 rfl ?_
  refine zl_arg (i := 0) (k := 2) he hb hX hbl hj hS (lv_at hl 0 rfl) (lv_at hl 4 rfl) (by decide) (by decide) dL_law_478 dL_law_479 dL_law_481 dL_law_482 dL_law_483 rfl ?_
  refine zl_arg (i := 0) (k := 3) he hb hX hbl hj hS (lv_at hl 0 rfl) (lv_at hl 4 rfl) (by decide) (by decide) dL_law_484 dL_law_485 dL_law_487 dL_law_488 dL_law_489 rfl ?_
  obtain ⟨_, hc, h⟩ := zob h
  obtain ⟨f3, x2, hx, h⟩ := zbd_i h
  refine zq_callV (ci := 12) (T := TX12) (N := 50) (rest := [_]) B hS (mX12_cell l G hx) zy_X12_cell zk_1679 ⟨by decide, by decide⟩ hc rfl rfl hl rfl (Nat.le_of_ble_eq_true rfl) dL_law_490 hcs (fun H locs hS => ?_)
  refine lv_icmp_eq (tgt := 1403) he hb dL_law_493 (by decide) (fun hc => ?_) (fun hc => ?_)
  · rw [if_pos hc] at h
    obtain rfl := Option.some.inj h
    exact kk _ _ hS _ hl
  · rw [if_neg hc] at h
    cases h
def zlc7 (N n : Nat) (f : zF) (p1 : Int32) : Option zF :=
    ((zck n f 11 0).bind fun _ => ((fX11_now N n f 0 p1).bind fun x1 => ((zck n f 12 196).bind fun _ => (zbd (fX12_now N n f 196 p1) fun f3 x2 => (if x1 = x2 then some f3 else none)))))
set_option maxRecDepth 100000 in
set_option maxHeartbeats 4000000 in
theorem zlw7 (B : zB G p s m #[Value.ref b] meth c RL cL_law 7 (some .boolean)) (hG : zOK G) (hLf : l.stackTraces = false) (hX : va_X b L xs s G.2.2.2) (hbl : b < G.2.2.2.size) (hj : q + 6 ≤ L ∧ L ≤ 3072) (hcs : cells + 1 ≤ room_1.cells ∧ slots + 6 ≤ room_1.slots) (h : zlc7 N n f (xs (q + 1)) = some f9) (hS : zS G n f H locs) (hl : lv_has ls 7 [(0, .ref b), (1, zr G 0), (2, zr G 196), (3, zr G 215), (4, .int (Int32.ofNat q))])
    (kk : ∀ H1 locs1, zS G n f9 H1 locs1 → ∀ ls1, lv_has ls1 7 [(0, .ref b), (1, zr G 0), (2, zr G 196), (3, zr G 215), (4, .int (Int32.ofNat q))] → W p l e room_1 s m #[Value.ref b] below meth c H1 locs1 (cells + 1) (slots + 6) Q (F0 m 1403 ls1 [])) : W p l e room_1 s m #[Value.ref b] below meth c H locs cells slots Q (F0 m 498 ls []) := by
  have he := B.1
  have hb := B.2.1
  unfold zlc7 at h
  refine W.widen (Nat.le_add_right _ 1) (Nat.le_add_right _ 6) ?_
  refine z_aload_n he hb dL_law_498 rfl (lv_at hl 1 rfl) (zref_r _ _) ?_
  refine zl_arg (i := 0) (k := 1) he hb hX hbl hj hS (lv_at hl 0 rfl) (lv_at hl 4 rfl) (by decide) (by decide) dL_law_499 dL_law_500 dL_law_502 dL_law_503 dL_law_504 rfl ?_
  obtain ⟨_, hc, h⟩ := zob h
  obtain ⟨x1, hx, h⟩ := zob h
  refine zq_callV (ci := 11) (T := TX11) (N := 14) (rest := []) B hS (mX11_now l G hx) zy_X11_now zk_786 ⟨by decide, by decide⟩ hc rfl rfl hl rfl (Nat.le_of_ble_eq_true rfl) dL_law_505 hcs (fun H locs hS => ?_)
  refine z_aload_n he hb dL_law_508 rfl (lv_at hl 2 rfl) (zref_r _ _) ?_
  refine zl_arg (i := 0) (k := 1) he hb hX hbl hj hS (lv_at hl 0 rfl) (lv_at hl 4 rfl) (by decide) (by decide) dL_law_509 dL_law_510 dL_law_512 dL_law_513 dL_law_514 rfl ?_
  obtain ⟨_, hc, h⟩ := zob h
  obtain ⟨f3, x2, hx, h⟩ := zbd_i h
  refine zq_callV (ci := 12) (T := TX12) (N := 50) (rest := [_]) B hS (mX12_now l G hx) zy_X12_now zk_1683 ⟨by decide, by decide⟩ hc rfl rfl hl rfl (Nat.le_of_ble_eq_true rfl) dL_law_515 hcs (fun H locs hS => ?_)
  refine lv_icmp_eq (tgt := 1403) he hb dL_law_518 (by decide) (fun hc => ?_) (fun hc => ?_)
  · rw [if_pos hc] at h
    obtain rfl := Option.some.inj h
    exact kk _ _ hS _ hl
  · rw [if_neg hc] at h
    cases h
def zlc8 (N n : Nat) (f : zF) (p1 : Int32) : Option zF :=
    ((zck n f 11 0).bind fun _ => ((fX11_land N n f 0 p1).bind fun x1 => ((zck n f 12 196).bind fun _ => (zbd (fX12_land N n f 196 p1) fun f3 x2 => (if x1 = x2 then some f3 else none)))))
set_option maxRecDepth 100000 in
set_option maxHeartbeats 4000000 in
theorem zlw8 (B : zB G p s m #[Value.ref b] meth c RL cL_law 7 (some .boolean)) (hG : zOK G) (hLf : l.stackTraces = false) (hX : va_X b L xs s G.2.2.2) (hbl : b < G.2.2.2.size) (hj : q + 6 ≤ L ∧ L ≤ 3072) (hcs : cells + 1 ≤ room_1.cells ∧ slots + 6 ≤ room_1.slots) (h : zlc8 N n f (xs (q + 1)) = some f9) (hS : zS G n f H locs) (hl : lv_has ls 7 [(0, .ref b), (1, zr G 0), (2, zr G 196), (3, zr G 215), (4, .int (Int32.ofNat q))])
    (kk : ∀ H1 locs1, zS G n f9 H1 locs1 → ∀ ls1, lv_has ls1 7 [(0, .ref b), (1, zr G 0), (2, zr G 196), (3, zr G 215), (4, .int (Int32.ofNat q))] → W p l e room_1 s m #[Value.ref b] below meth c H1 locs1 (cells + 1) (slots + 6) Q (F0 m 1403 ls1 [])) : W p l e room_1 s m #[Value.ref b] below meth c H locs cells slots Q (F0 m 523 ls []) := by
  have he := B.1
  have hb := B.2.1
  unfold zlc8 at h
  refine W.widen (Nat.le_add_right _ 1) (Nat.le_add_right _ 6) ?_
  refine z_aload_n he hb dL_law_523 rfl (lv_at hl 1 rfl) (zref_r _ _) ?_
  refine zl_arg (i := 0) (k := 1) he hb hX hbl hj hS (lv_at hl 0 rfl) (lv_at hl 4 rfl) (by decide) (by decide) dL_law_524 dL_law_525 dL_law_527 dL_law_528 dL_law_529 rfl ?_
  obtain ⟨_, hc, h⟩ := zob h
  obtain ⟨x1, hx, h⟩ := zob h
  refine zq_callV (ci := 11) (T := TX11) (N := 14) (rest := []) B hS (mX11_land l G hx) zy_X11_land zk_815 ⟨by decide, by decide⟩ hc rfl rfl hl rfl (Nat.le_of_ble_eq_true rfl) dL_law_530 hcs (fun H locs hS => ?_)
  refine z_aload_n he hb dL_law_533 rfl (lv_at hl 2 rfl) (zref_r _ _) ?_
  refine zl_arg (i := 0) (k := 1) he hb hX hbl hj hS (lv_at hl 0 rfl) (lv_at hl 4 rfl) (by decide) (by decide) dL_law_534 dL_law_535 dL_law_537 dL_law_538 dL_law_539 rfl ?_
  obtain ⟨_, hc, h⟩ := zob h
  obtain ⟨f3, x2, hx, h⟩ := zbd_i h
  refine zq_callV (ci := 12) (T := TX12) (N := 50) (rest := [_]) B hS (mX12_land l G hx) zy_X12_land zk_1691 ⟨by decide, by decide⟩ hc rfl rfl hl rfl (Nat.le_of_ble_eq_true rfl) dL_law_540 hcs (fun H locs hS => ?_)
  refine lv_icmp_eq (tgt := 1403) he hb dL_law_543 (by decide) (fun hc => ?_) (fun hc => ?_)
  · rw [if_pos hc] at h
    obtain rfl := Option.some.inj h
    exact kk _ _ hS _ hl
  · rw [if_neg hc] at h
    cases h
def zlc9 (N n : Nat) (f : zF) (p1 : Int32) (p2 : Int32) : Option zF :=
    ((zck n f 11 0).bind fun _ => (zbd (fX11_turn N n f 0 p1 p2) fun f2 x1 => ((zck n f2 12 196).bind fun _ => (zbd (fX12_turn N n f2 196 p1 p2) fun f4 x3 => (if x1 = x3 then some f4 else none)))))
set_option maxRecDepth 100000 in
set_option maxHeartbeats 4000000 in
theorem zlw9 (B : zB G p s m #[Value.ref b] meth c RL cL_law 7 (some .boolean)) (hG : zOK G) (hLf : l.stackTraces = false) (hX : va_X b L xs s G.2.2.2) (hbl : b < G.2.2.2.size) (hj : q + 6 ≤ L ∧ L ≤ 3072) (hcs : cells + 1 ≤ room_1.cells ∧ slots + 6 ≤ room_1.slots) (h : zlc9 N n f (xs (q + 1)) (xs (q + 2)) = some f9) (hS : zS G n f H locs) (hl : lv_has ls 7 [(0, .ref b), (1, zr G 0), (2, zr G 196), (3, zr G 215), (4, .int (Int32.ofNat q))])
    (kk : ∀ H1 locs1, zS G n f9 H1 locs1 → ∀ ls1, lv_has ls1 7 [(0, .ref b), (1, zr G 0), (2, zr G 196), (3, zr G 215), (4, .int (Int32.ofNat q))] → W p l e room_1 s m #[Value.ref b] below meth c H1 locs1 (cells + 1) (slots + 6) Q (F0 m 1403 ls1 [])) : W p l e room_1 s m #[Value.ref b] below meth c H locs cells slots Q (F0 m 548 ls []) := by
  have he := B.1
  have hb := B.2.1
  unfold zlc9 at h
  refine W.widen (Nat.le_add_right _ 1) (Nat.le_add_right _ 6) ?_
  refine z_aload_n he hb dL_law_548 rfl (lv_at hl 1 rfl) (zref_r _ _) ?_
  refine zl_arg (i := 0) (k := 1) he hb hX hbl hj hS (lv_at hl 0 rfl) (lv_at hl 4 rfl) (by decide) (by decide) dL_law_549 dL_law_550 dL_law_552 dL_law_553 dL_law_554 rfl ?_
  refine zl_arg (i := 0) (k := 2) he hb hX hbl hj hS (lv_at hl 0 rfl) (lv_at hl 4 rfl) (by decide) (by decide) dL_law_555 dL_law_556 dL_law_558 dL_law_559 dL_law_560 rfl ?_
  obtain ⟨_, hc, h⟩ := zob h
  obtain ⟨f2, x1, hx, h⟩ := zbd_i h
  refine zq_callV (ci := 11) (T := TX11) (N := 14) (rest := []) B hS (mX11_turn l G hx) zy_X11_turn zk_820 ⟨by decide, by decide⟩ hc rfl rfl hl rfl (Nat.le_of_ble_eq_true rfl) dL_law_561 hcs (fun H locs hS => ?_)
  refine z_aload_n he hb dL_law_564 rfl (lv_at hl 2 rfl) (zref_r _ _) ?_
  refine zl_arg (i := 0) (k := 1) he hb hX hbl hj hS (lv_at hl 0 rfl) (lv_at hl 4 rfl) (by decide) (by decide) dL_law_565 dL_law_566 dL_law_568 dL_law_569 dL_law_570 rfl ?_
  refine zl_arg (i := 0) (k := 2) he hb hX hbl hj hS (lv_at hl 0 rfl) (lv_at hl 4 rfl) (by decide) (by decide) dL_law_571 dL_law_572 dL_law_574 dL_law_575 dL_law_576 rfl ?_
  obtain ⟨_, hc, h⟩ := zob h
  obtain ⟨f4, x3, hx, h⟩ := zbd_i h
  refine zq_callV (ci := 12) (T := TX12) (N := 50) (rest := [_]) B hS (mX12_turn l G hx) zy_X12_turn zk_1699 ⟨by decide, by decide⟩ hc rfl rfl hl rfl (Nat.le_of_ble_eq_true rfl) dL_law_577 hcs (fun H locs hS => ?_)
  refine lv_icmp_eq (tgt := 1403) he hb dL_law_580 (by decide) (fun hc => ?_) (fun hc => ?_)
  · rw [if_pos hc] at h
    obtain rfl := Option.some.inj h
    exact kk _ _ hS _ hl
  · rw [if_neg hc] at h
    cases h
def zlc10 (N n : Nat) (f : zF) (p1 : Int32) (p2 : Int32) : Option zF :=
    ((zck n f 11 0).bind fun _ => (zbd (fX11_walk N n f 0 p1 p2) fun f2 x1 => ((zck n f2 12 196).bind fun _ => (zbd (fX12_walk N n f2 196 p1 p2) fun f4 x3 => (if x1 = x3 then some f4 else none)))))
set_option maxRecDepth 100000 in
set_option maxHeartbeats 4000000 in
theorem zlw10 (B : zB G p s m #[Value.ref b] meth c RL cL_law 7 (some .boolean)) (hG : zOK G) (hLf : l.stackTraces = false) (hX : va_X b L xs s G.2.2.2) (hbl : b < G.2.2.2.size) (hj : q + 6 ≤ L ∧ L ≤ 3072) (hcs : cells + 1 ≤ room_1.cells ∧ slots + 6 ≤ room_1.slots) (h : zlc10 N n f (xs (q + 1)) (xs (q + 2)) = some f9) (hS : zS G n f H locs) (hl : lv_has ls 7 [(0, .ref b), (1, zr G 0), (2, zr G 196), (3, zr G 215), (4, .int (Int32.ofNat q))])
    (kk : ∀ H1 locs1, zS G n f9 H1 locs1 → ∀ ls1, lv_has ls1 7 [(0, .ref b), (1, zr G 0), (2, zr G 196), (3, zr G 215), (4, .int (Int32.ofNat q))] → W p l e room_1 s m #[Value.ref b] below meth c H1 locs1 (cells + 1) (slots + 6) Q (F0 m 1403 ls1 [])) : W p l e room_1 s m #[Value.ref b] below meth c H locs cells slots Q (F0 m 585 ls []) := by
  have he := B.1
  have hb := B.2.1
  unfold zlc10 at h
  refine W.widen (Nat.le_add_right _ 1) (Nat.le_add_right _ 6) ?_
  refine z_aload_n he hb dL_law_585 rfl (lv_at hl 1 rfl) (zref_r _ _) ?_
  refine zl_arg (i := 0) (k := 1) he hb hX hbl hj hS (lv_at hl 0 rfl) (lv_at hl 4 rfl) (by decide) (by decide) dL_law_586 dL_law_587 dL_law_589 dL_law_590 dL_law_591 rfl ?_
  refine zl_arg (i := 0) (k := 2) he hb hX hbl hj hS (lv_at hl 0 rfl) (lv_at hl 4 rfl) (by decide) (by decide) dL_law_592 dL_law_593 dL_law_595 dL_law_596 dL_law_597 rfl ?_
  obtain ⟨_, hc, h⟩ := zob h
  obtain ⟨f2, x1, hx, h⟩ := zbd_i h
  refine zq_callV (ci := 11) (T := TX11) (N := 14) (rest := []) B hS (mX11_walk l G hx) zy_X11_walk zk_847 ⟨by decide, by decide⟩ hc rfl rfl hl rfl (Nat.le_of_ble_eq_true rfl) dL_law_598 hcs (fun H locs hS => ?_)
  refine z_aload_n he hb dL_law_601 rfl (lv_at hl 2 rfl) (zref_r _ _) ?_
  refine zl_arg (i := 0) (k := 1) he hb hX hbl hj hS (lv_at hl 0 rfl) (lv_at hl 4 rfl) (by decide) (by decide) dL_law_602 dL_law_603 dL_law_605 dL_law_606 dL_law_607 rfl ?_
  refine zl_arg (i := 0) (k := 2) he hb hX hbl hj hS (lv_at hl 0 rfl) (lv_at hl 4 rfl) (by decide) (by decide) dL_law_608 dL_law_609 dL_law_611 dL_law_612 dL_law_613 rfl ?_
  obtain ⟨_, hc, h⟩ := zob h
  obtain ⟨f4, x3, hx, h⟩ := zbd_i h
  refine zq_callV (ci := 12) (T := TX12) (N := 50) (rest := [_]) B hS (mX12_walk l G hx) zy_X12_walk zk_1707 ⟨by decide, by decide⟩ hc rfl rfl hl rfl (Nat.le_of_ble_eq_true rfl) dL_law_614 hcs (fun H locs hS => ?_)
  refine lv_icmp_eq (tgt := 1403) he hb dL_law_617 (by decide) (fun hc => ?_) (fun hc => ?_)
  · rw [if_pos hc] at h
    obtain rfl := Option.some.inj h
    exact kk _ _ hS _ hl
  · rw [if_neg hc] at h
    cases h
def zlc11 (N n : Nat) (f : zF) (p1 : Int32) : Option zF :=
    ((zck n f 11 0).bind fun _ => (zbd (fX11_shut N n f 0 p1) fun f2 x1 => ((zck n f2 12 196).bind fun _ => (zbd (fX12_shut N n f2 196 p1) fun f4 x3 => (if x1 = x3 then some f4 else none)))))
set_option maxRecDepth 100000 in
set_option maxHeartbeats 4000000 in
theorem zlw11 (B : zB G p s m #[Value.ref b] meth c RL cL_law 7 (some .boolean)) (hG : zOK G) (hLf : l.stackTraces = false) (hX : va_X b L xs s G.2.2.2) (hbl : b < G.2.2.2.size) (hj : q + 6 ≤ L ∧ L ≤ 3072) (hcs : cells + 1 ≤ room_1.cells ∧ slots + 6 ≤ room_1.slots) (h : zlc11 N n f (xs (q + 1)) = some f9) (hS : zS G n f H locs) (hl : lv_has ls 7 [(0, .ref b), (1, zr G 0), (2, zr G 196), (3, zr G 215), (4, .int (Int32.ofNat q))])
    (kk : ∀ H1 locs1, zS G n f9 H1 locs1 → ∀ ls1, lv_has ls1 7 [(0, .ref b), (1, zr G 0), (2, zr G 196), (3, zr G 215), (4, .int (Int32.ofNat q))] → W p l e room_1 s m #[Value.ref b] below meth c H1 locs1 (cells + 1) (slots + 6) Q (F0 m 1403 ls1 [])) : W p l e room_1 s m #[Value.ref b] below meth c H locs cells slots Q (F0 m 622 ls []) := by
  have he := B.1
  have hb := B.2.1
  unfold zlc11 at h
  refine W.widen (Nat.le_add_right _ 1) (Nat.le_add_right _ 6) ?_
  refine z_aload_n he hb dL_law_622 rfl (lv_at hl 1 rfl) (zref_r _ _) ?_
  refine zl_arg (i := 0) (k := 1) he hb hX hbl hj hS (lv_at hl 0 rfl) (lv_at hl 4 rfl) (by decide) (by decide) dL_law_623 dL_law_624 dL_law_626 dL_law_627 dL_law_628 rfl ?_
  obtain ⟨_, hc, h⟩ := zob h
  obtain ⟨f2, x1, hx, h⟩ := zbd_i h
  refine zq_callV (ci := 11) (T := TX11) (N := 14) (rest := []) B hS (mX11_shut l G hx) zy_X11_shut zk_856 ⟨by decide, by decide⟩ hc rfl rfl hl rfl (Nat.le_of_ble_eq_true rfl) dL_law_629 hcs (fun H locs hS => ?_)
  refine z_aload_n he hb dL_law_632 rfl (lv_at hl 2 rfl) (zref_r _ _) ?_
  refine zl_arg (i := 0) (k := 1) he hb hX hbl hj hS (lv_at hl 0 rfl) (lv_at hl 4 rfl) (by decide) (by decide) dL_law_633 dL_law_634 dL_law_636 dL_law_637 dL_law_638 rfl ?_
  obtain ⟨_, hc, h⟩ := zob h
  obtain ⟨f4, x3, hx, h⟩ := zbd_i h
  refine zq_callV (ci := 12) (T := TX12) (N := 50) (rest := [_]) B hS (mX12_shut l G hx) zy_X12_shut zk_1715 ⟨by decide, by decide⟩ hc rfl rfl hl rfl (Nat.le_of_ble_eq_true rfl) dL_law_639 hcs (fun H locs hS => ?_)
  refine lv_icmp_eq (tgt := 1403) he hb dL_law_642 (by decide) (fun hc => ?_) (fun hc => ?_)
  · rw [if_pos hc] at h
    obtain rfl := Option.some.inj h
    exact kk _ _ hS _ hl
  · rw [if_neg hc] at h
    cases h
def zlc12 (N n : Nat) (f : zF) (p1 : Int32) : Option zF :=
    ((zck n f 11 0).bind fun _ => (zbd (fX11_open N n f 0 p1) fun f2 x1 => ((zck n f2 12 196).bind fun _ => (zbd (fX12_open N n f2 196 p1) fun f4 x3 => (if x1 = x3 then some f4 else none)))))
set_option maxRecDepth 100000 in
set_option maxHeartbeats 4000000 in
theorem zlw12 (B : zB G p s m #[Value.ref b] meth c RL cL_law 7 (some .boolean)) (hG : zOK G) (hLf : l.stackTraces = false) (hX : va_X b L xs s G.2.2.2) (hbl : b < G.2.2.2.size) (hj : q + 6 ≤ L ∧ L ≤ 3072) (hcs : cells + 1 ≤ room_1.cells ∧ slots + 6 ≤ room_1.slots) (h : zlc12 N n f (xs (q + 1)) = some f9) (hS : zS G n f H locs) (hl : lv_has ls 7 [(0, .ref b), (1, zr G 0), (2, zr G 196), (3, zr G 215), (4, .int (Int32.ofNat q))])
    (kk : ∀ H1 locs1, zS G n f9 H1 locs1 → ∀ ls1, lv_has ls1 7 [(0, .ref b), (1, zr G 0), (2, zr G 196), (3, zr G 215), (4, .int (Int32.ofNat q))] → W p l e room_1 s m #[Value.ref b] below meth c H1 locs1 (cells + 1) (slots + 6) Q (F0 m 1403 ls1 [])) : W p l e room_1 s m #[Value.ref b] below meth c H locs cells slots Q (F0 m 647 ls []) := by
  have he := B.1
  have hb := B.2.1
  unfold zlc12 at h
  refine W.widen (Nat.le_add_right _ 1) (Nat.le_add_right _ 6) ?_
  refine z_aload_n he hb dL_law_647 rfl (lv_at hl 1 rfl) (zref_r _ _) ?_
  refine zl_arg (i := 0) (k := 1) he hb hX hbl hj hS (lv_at hl 0 rfl) (lv_at hl 4 rfl) (by decide) (by decide) dL_law_648 dL_law_649 dL_law_651 dL_law_652 dL_law_653 rfl ?_
  obtain ⟨_, hc, h⟩ := zob h
  obtain ⟨f2, x1, hx, h⟩ := zbd_i h
  refine zq_callV (ci := 11) (T := TX11) (N := 14) (rest := []) B hS (mX11_open l G hx) zy_X11_open zk_864 ⟨by decide, by decide⟩ hc rfl rfl hl rfl (Nat.le_of_ble_eq_true rfl) dL_law_654 hcs (fun H locs hS => ?_)
  refine z_aload_n he hb dL_law_657 rfl (lv_at hl 2 rfl) (zref_r _ _) ?_
  refine zl_arg (i := 0) (k := 1) he hb hX hbl hj hS (lv_at hl 0 rfl) (lv_at hl 4 rfl) (by decide) (by decide) dL_law_658 dL_law_659 dL_law_661 dL_law_662 dL_law_663 rfl ?_
  obtain ⟨_, hc, h⟩ := zob h
  obtain ⟨f4, x3, hx, h⟩ := zbd_i h
  refine zq_callV (ci := 12) (T := TX12) (N := 50) (rest := [_]) B hS (mX12_open l G hx) zy_X12_open zk_1723 ⟨by decide, by decide⟩ hc rfl rfl hl rfl (Nat.le_of_ble_eq_true rfl) dL_law_664 hcs (fun H locs hS => ?_)
  refine lv_icmp_eq (tgt := 1403) he hb dL_law_667 (by decide) (fun hc => ?_) (fun hc => ?_)
  · rw [if_pos hc] at h
    obtain rfl := Option.some.inj h
    exact kk _ _ hS _ hl
  · rw [if_neg hc] at h
    cases h
def zlc13 (N n : Nat) (f : zF) (p1 : Int32) (p2 : Int32) : Option zF :=
    ((zck n f 11 0).bind fun _ => (zbd (fX11_face N n f 0 p1 p2) fun f2 x1 => ((zck n f2 12 196).bind fun _ => (zbd (fX12_face N n f2 196 p1 p2) fun f4 x3 => (if x1 = x3 then some f4 else none)))))
set_option maxRecDepth 100000 in
set_option maxHeartbeats 4000000 in
theorem zlw13 (B : zB G p s m #[Value.ref b] meth c RL cL_law 7 (some .boolean)) (hG : zOK G) (hLf : l.stackTraces = false) (hX : va_X b L xs s G.2.2.2) (hbl : b < G.2.2.2.size) (hj : q + 6 ≤ L ∧ L ≤ 3072) (hcs : cells + 1 ≤ room_1.cells ∧ slots + 6 ≤ room_1.slots) (h : zlc13 N n f (xs (q + 1)) (xs (q + 2)) = some f9) (hS : zS G n f H locs) (hl : lv_has ls 7 [(0, .ref b), (1, zr G 0), (2, zr G 196), (3, zr G 215), (4, .int (Int32.ofNat q))])
    (kk : ∀ H1 locs1, zS G n f9 H1 locs1 → ∀ ls1, lv_has ls1 7 [(0, .ref b), (1, zr G 0), (2, zr G 196), (3, zr G 215), (4, .int (Int32.ofNat q))] → W p l e room_1 s m #[Value.ref b] below meth c H1 locs1 (cells + 1) (slots + 6) Q (F0 m 1403 ls1 [])) : W p l e room_1 s m #[Value.ref b] below meth c H locs cells slots Q (F0 m 672 ls []) := by
  have he := B.1
  have hb := B.2.1
  unfold zlc13 at h
  refine W.widen (Nat.le_add_right _ 1) (Nat.le_add_right _ 6) ?_
  refine z_aload_n he hb dL_law_672 rfl (lv_at hl 1 rfl) (zref_r _ _) ?_
  refine zl_arg (i := 0) (k := 1) he hb hX hbl hj hS (lv_at hl 0 rfl) (lv_at hl 4 rfl) (by decide) (by decide) dL_law_673 dL_law_674 dL_law_676 dL_law_677 dL_law_678 rfl ?_
  refine zl_arg (i := 0) (k := 2) he hb hX hbl hj hS (lv_at hl 0 rfl) (lv_at hl 4 rfl) (by decide) (by decide) dL_law_679 dL_law_680 dL_law_682 dL_law_683 dL_law_684 rfl ?_
  obtain ⟨_, hc, h⟩ := zob h
  obtain ⟨f2, x1, hx, h⟩ := zbd_i h
  refine zq_callV (ci := 11) (T := TX11) (N := 14) (rest := []) B hS (mX11_face l G hx) zy_X11_face zk_868 ⟨by decide, by decide⟩ hc rfl rfl hl rfl (Nat.le_of_ble_eq_true rfl) dL_law_685 hcs (fun H locs hS => ?_)
  refine z_aload_n he hb dL_law_688 rfl (lv_at hl 2 rfl) (zref_r _ _) ?_
  refine zl_arg (i := 0) (k := 1) he hb hX hbl hj hS (lv_at hl 0 rfl) (lv_at hl 4 rfl) (by decide) (by decide) dL_law_689 dL_law_690 dL_law_692 dL_law_693 dL_law_694 rfl ?_
  refine zl_arg (i := 0) (k := 2) he hb hX hbl hj hS (lv_at hl 0 rfl) (lv_at hl 4 rfl) (by decide) (by decide) dL_law_695 dL_law_696 dL_law_698 dL_law_699 dL_law_700 rfl ?_
  obtain ⟨_, hc, h⟩ := zob h
  obtain ⟨f4, x3, hx, h⟩ := zbd_i h
  refine zq_callV (ci := 12) (T := TX12) (N := 50) (rest := [_]) B hS (mX12_face l G hx) zy_X12_face zk_1727 ⟨by decide, by decide⟩ hc rfl rfl hl rfl (Nat.le_of_ble_eq_true rfl) dL_law_701 hcs (fun H locs hS => ?_)
  refine lv_icmp_eq (tgt := 1403) he hb dL_law_704 (by decide) (fun hc => ?_) (fun hc => ?_)
  · rw [if_pos hc] at h
    obtain rfl := Option.some.inj h
    exact kk _ _ hS _ hl
  · rw [if_neg hc] at h
    cases h
def zlc14 (N n : Nat) (f : zF) (p1 : Int32) : Option zF :=
    ((zck n f 11 0).bind fun _ => (zbd (fX11_hours N n f 0 p1) fun f2 x1 => ((zck n f2 12 196).bind fun _ => (zbd (fX12_hours N n f2 196 p1) fun f4 x3 => (if x1 = x3 then some f4 else none)))))
set_option maxRecDepth 100000 in
set_option maxHeartbeats 4000000 in
theorem zlw14 (B : zB G p s m #[Value.ref b] meth c RL cL_law 7 (some .boolean)) (hG : zOK G) (hLf : l.stackTraces = false) (hX : va_X b L xs s G.2.2.2) (hbl : b < G.2.2.2.size) (hj : q + 6 ≤ L ∧ L ≤ 3072) (hcs : cells + 1 ≤ room_1.cells ∧ slots + 6 ≤ room_1.slots) (h : zlc14 N n f (xs (q + 1)) = some f9) (hS : zS G n f H locs) (hl : lv_has ls 7 [(0, .ref b), (1, zr G 0), (2, zr G 196), (3, zr G 215), (4, .int (Int32.ofNat q))])
    (kk : ∀ H1 locs1, zS G n f9 H1 locs1 → ∀ ls1, lv_has ls1 7 [(0, .ref b), (1, zr G 0), (2, zr G 196), (3, zr G 215), (4, .int (Int32.ofNat q))] → W p l e room_1 s m #[Value.ref b] below meth c H1 locs1 (cells + 1) (slots + 6) Q (F0 m 1403 ls1 [])) : W p l e room_1 s m #[Value.ref b] below meth c H locs cells slots Q (F0 m 709 ls []) := by
  have he := B.1
  have hb := B.2.1
  unfold zlc14 at h
  refine W.widen (Nat.le_add_right _ 1) (Nat.le_add_right _ 6) ?_
  refine z_aload_n he hb dL_law_709 rfl (lv_at hl 1 rfl) (zref_r _ _) ?_
  refine zl_arg (i := 0) (k := 1) he hb hX hbl hj hS (lv_at hl 0 rfl) (lv_at hl 4 rfl) (by decide) (by decide) dL_law_710 dL_law_711 dL_law_713 dL_law_714 dL_law_715 rfl ?_
  obtain ⟨_, hc, h⟩ := zob h
  obtain ⟨f2, x1, hx, h⟩ := zbd_i h
  refine zq_callV (ci := 11) (T := TX11) (N := 14) (rest := []) B hS (mX11_hours l G hx) zy_X11_hours zk_881 ⟨by decide, by decide⟩ hc rfl rfl hl rfl (Nat.le_of_ble_eq_true rfl) dL_law_716 hcs (fun H locs hS => ?_)
  refine z_aload_n he hb dL_law_719 rfl (lv_at hl 2 rfl) (zref_r _ _) ?_
  refine zl_arg (i := 0) (k := 1) he hb hX hbl hj hS (lv_at hl 0 rfl) (lv_at hl 4 rfl) (by decide) (by decide) dL_law_720 dL_law_721 dL_law_723 dL_law_724 dL_law_725 rfl ?_
  obtain ⟨_, hc, h⟩ := zob h
  obtain ⟨f4, x3, hx, h⟩ := zbd_i h
  refine zq_callV (ci := 12) (T := TX12) (N := 50) (rest := [_]) B hS (mX12_hours l G hx) zy_X12_hours zk_1735 ⟨by decide, by decide⟩ hc rfl rfl hl rfl (Nat.le_of_ble_eq_true rfl) dL_law_726 hcs (fun H locs hS => ?_)
  refine lv_icmp_eq (tgt := 1403) he hb dL_law_729 (by decide) (fun hc => ?_) (fun hc => ?_)
  · rw [if_pos hc] at h
    obtain rfl := Option.some.inj h
    exact kk _ _ hS _ hl
  · rw [if_neg hc] at h
    cases h
def zlc15 (N n : Nat) (f : zF) : Option zF :=
    ((zck n f 11 0).bind fun _ => (zbd (fX11_undo N n f 0) fun f2 x1 => ((zck n f2 12 196).bind fun _ => (zbd (fX12_undo N n f2 196) fun f4 x3 => (if x1 = x3 then some f4 else none)))))
set_option maxRecDepth 100000 in
set_option maxHeartbeats 4000000 in
theorem zlw15 (B : zB G p s m #[Value.ref b] meth c RL cL_law 7 (some .boolean)) (hG : zOK G) (hLf : l.stackTraces = false) (hX : va_X b L xs s G.2.2.2) (hbl : b < G.2.2.2.size) (hj : q + 6 ≤ L ∧ L ≤ 3072) (hcs : cells + 1 ≤ room_1.cells ∧ slots + 6 ≤ room_1.slots) (h : zlc15 N n f = some f9) (hS : zS G n f H locs) (hl : lv_has ls 7 [(0, .ref b), (1, zr G 0), (2, zr G 196), (3, zr G 215), (4, .int (Int32.ofNat q))])
    (kk : ∀ H1 locs1, zS G n f9 H1 locs1 → ∀ ls1, lv_has ls1 7 [(0, .ref b), (1, zr G 0), (2, zr G 196), (3, zr G 215), (4, .int (Int32.ofNat q))] → W p l e room_1 s m #[Value.ref b] below meth c H1 locs1 (cells + 1) (slots + 6) Q (F0 m 1403 ls1 [])) : W p l e room_1 s m #[Value.ref b] below meth c H locs cells slots Q (F0 m 734 ls []) := by
  have he := B.1
  have hb := B.2.1
  unfold zlc15 at h
  refine W.widen (Nat.le_add_right _ 1) (Nat.le_add_right _ 6) ?_
  refine z_aload_n he hb dL_law_734 rfl (lv_at hl 1 rfl) (zref_r _ _) ?_
  obtain ⟨_, hc, h⟩ := zob h
  obtain ⟨f2, x1, hx, h⟩ := zbd_i h
  refine zq_callV (ci := 11) (T := TX11) (N := 14) (rest := []) B hS (mX11_undo l G hx) zy_X11_undo zk_901 ⟨by decide, by decide⟩ hc rfl rfl hl rfl (Nat.le_of_ble_eq_true rfl) dL_law_735 hcs (fun H locs hS => ?_)
  refine z_aload_n he hb dL_law_738 rfl (lv_at hl 2 rfl) (zref_r _ _) ?_
  obtain ⟨_, hc, h⟩ := zob h
  obtain ⟨f4, x3, hx, h⟩ := zbd_i h
  refine zq_callV (ci := 12) (T := TX12) (N := 50) (rest := [_]) B hS (mX12_undo l G hx) zy_X12_undo zk_1751 ⟨by decide, by decide⟩ hc rfl rfl hl rfl (Nat.le_of_ble_eq_true rfl) dL_law_739 hcs (fun H locs hS => ?_)
  refine lv_icmp_eq (tgt := 1403) he hb dL_law_742 (by decide) (fun hc => ?_) (fun hc => ?_)
  · rw [if_pos hc] at h
    obtain rfl := Option.some.inj h
    exact kk _ _ hS _ hl
  · rw [if_neg hc] at h
    cases h
def zlc16 (N n : Nat) (f : zF) (p1 : Int32) (p2 : Int32) : Option zF :=
    ((zck n f 11 0).bind fun _ => (zbd (fX11_where N n f 0 p1 p2) fun f2 x1 => ((zck n f2 12 196).bind fun _ => (zbd (fX12_where N n f2 196 p1 p2) fun f4 x3 => (if x1 = x3 then some f4 else none)))))
set_option maxRecDepth 100000 in
set_option maxHeartbeats 4000000 in
theorem zlw16 (B : zB G p s m #[Value.ref b] meth c RL cL_law 7 (some .boolean)) (hG : zOK G) (hLf : l.stackTraces = false) (hX : va_X b L xs s G.2.2.2) (hbl : b < G.2.2.2.size) (hj : q + 6 ≤ L ∧ L ≤ 3072) (hcs : cells + 1 ≤ room_1.cells ∧ slots + 6 ≤ room_1.slots) (h : zlc16 N n f (xs (q + 1)) (xs (q + 2)) = some f9) (hS : zS G n f H locs) (hl : lv_has ls 7 [(0, .ref b), (1, zr G 0), (2, zr G 196), (3, zr G 215), (4, .int (Int32.ofNat q))])
    (kk : ∀ H1 locs1, zS G n f9 H1 locs1 → ∀ ls1, lv_has ls1 7 [(0, .ref b), (1, zr G 0), (2, zr G 196), (3, zr G 215), (4, .int (Int32.ofNat q))] → W p l e room_1 s m #[Value.ref b] below meth c H1 locs1 (cells + 1) (slots + 6) Q (F0 m 1403 ls1 [])) : W p l e room_1 s m #[Value.ref b] below meth c H locs cells slots Q (F0 m 747 ls []) := by
  have he := B.1
  have hb := B.2.1
  unfold zlc16 at h
  refine W.widen (Nat.le_add_right _ 1) (Nat.le_add_right _ 6) ?_
  refine z_aload_n he hb dL_law_747 rfl (lv_at hl 1 rfl) (zref_r _ _) ?_
  refine zl_arg (i := 0) (k := 1) he hb hX hbl hj hS (lv_at hl 0 rfl) (lv_at hl 4 rfl) (by decide) (by decide) dL_law_748 dL_law_749 dL_law_751 dL_law_752 dL_law_753 rfl ?_
  refine zl_arg (i := 0) (k := 2) he hb hX hbl hj hS (lv_at hl 0 rfl) (lv_at hl 4 rfl) (by decide) (by decide) dL_law_754 dL_law_755 dL_law_757 dL_law_758 dL_law_759 rfl ?_
  obtain ⟨_, hc, h⟩ := zob h
  obtain ⟨f2, x1, hx, h⟩ := zbd_i h
  refine zq_callV (ci := 11) (T := TX11) (N := 14) (rest := []) B hS (mX11_where l G hx) zy_X11_where zk_909 ⟨by decide, by decide⟩ hc rfl rfl hl rfl (Nat.le_of_ble_eq_true rfl) dL_law_760 hcs (fun H locs hS => ?_)
  refine z_aload_n he hb dL_law_763 rfl (lv_at hl 2 rfl) (zref_r _ _) ?_
  refine zl_arg (i := 0) (k := 1) he hb hX hbl hj hS (lv_at hl 0 rfl) (lv_at hl 4 rfl) (by decide) (by decide) dL_law_764 dL_law_765 dL_law_767 dL_law_768 dL_law_769 rfl ?_
  refine zl_arg (i := 0) (k := 2) he hb hX hbl hj hS (lv_at hl 0 rfl) (lv_at hl 4 rfl) (by decide) (by decide) dL_law_770 dL_law_771 dL_law_773 dL_law_774 dL_law_775 rfl ?_
  obtain ⟨_, hc, h⟩ := zob h
  obtain ⟨f4, x3, hx, h⟩ := zbd_i h
  refine zq_callV (ci := 12) (T := TX12) (N := 50) (rest := [_]) B hS (mX12_where l G hx) zy_X12_where zk_1755 ⟨by decide, by decide⟩ hc rfl rfl hl rfl (Nat.le_of_ble_eq_true rfl) dL_law_776 hcs (fun H locs hS => ?_)
  refine lv_icmp_eq (tgt := 1403) he hb dL_law_779 (by decide) (fun hc => ?_) (fun hc => ?_)
  · rw [if_pos hc] at h
    obtain rfl := Option.some.inj h
    exact kk _ _ hS _ hl
  · rw [if_neg hc] at h
    cases h
def zlc17 (N n : Nat) (f : zF) (p1 : Int32) (p2 : Int32) (p3 : Int32) : Option zF :=
    ((zck n f 11 0).bind fun _ => (zbd (fX11_comes N n f 0 p1 p2 p3) fun f2 x1 => ((zck n f2 12 196).bind fun _ => (zbd (fX12_comes N n f2 196 p1 p2 p3) fun f4 x3 => (if x1 = x3 then some f4 else none)))))
set_option maxRecDepth 100000 in
set_option maxHeartbeats 4000000 in
theorem zlw17 (B : zB G p s m #[Value.ref b] meth c RL cL_law 7 (some .boolean)) (hG : zOK G) (hLf : l.stackTraces = false) (hX : va_X b L xs s G.2.2.2) (hbl : b < G.2.2.2.size) (hj : q + 6 ≤ L ∧ L ≤ 3072) (hcs : cells + 1 ≤ room_1.cells ∧ slots + 6 ≤ room_1.slots) (h : zlc17 N n f (xs (q + 1)) (xs (q + 2)) (xs (q + 3)) = some f9) (hS : zS G n f H locs) (hl : lv_has ls 7 [(0, .ref b), (1, zr G 0), (2, zr G 196), (3, zr G 215), (4, .int (Int32.ofNat q))])
    (kk : ∀ H1 locs1, zS G n f9 H1 locs1 → ∀ ls1, lv_has ls1 7 [(0, .ref b), (1, zr G 0), (2, zr G 196), (3, zr G 215), (4, .int (Int32.ofNat q))] → W p l e room_1 s m #[Value.ref b] below meth c H1 locs1 (cells + 1) (slots + 6) Q (F0 m 1403 ls1 [])) : W p l e room_1 s m #[Value.ref b] below meth c H locs cells slots Q (F0 m 784 ls []) := by
  have he := B.1
  have hb := B.2.1
  unfold zlc17 at h
  refine W.widen (Nat.le_add_right _ 1) (Nat.le_add_right _ 6) ?_
  refine z_aload_n he hb dL_law_784 rfl (lv_at hl 1 rfl) (zref_r _ _) ?_
  refine zl_arg (i := 0) (k := 1) he hb hX hbl hj hS (lv_at hl 0 rfl) (lv_at hl 4 rfl) (by decide) (by decide) dL_law_785 dL_law_786 dL_law_788 dL_law_789 dL_law_790 rfl ?_
  refine zl_arg (i := 0) (k := 2) he hb hX hbl hj hS (lv_at hl 0 rfl) (lv_at hl 4 rfl) (by decide) (by decide) dL_law_791 dL_law_792 dL_law_794 dL_law_795 dL_law_796 rfl ?_
  refine zl_arg (i := 0) (k := 3) he hb hX hbl hj hS (lv_at hl 0 rfl) (lv_at hl 4 rfl) (by decide) (by decide) dL_law_797 dL_law_798 dL_law_800 dL_law_801 dL_law_802 rfl ?_
  obtain ⟨_, hc, h⟩ := zob h
  obtain ⟨f2, x1, hx, h⟩ := zbd_i h
  refine zq_callV (ci := 11) (T := TX11) (N := 14) (rest := []) B hS (mX11_comes l G hx) zy_X11_comes zk_913 ⟨by decide, by decide⟩ hc rfl rfl hl rfl (Nat.le_of_ble_eq_true rfl) dL_law_803 hcs (fun H locs hS => ?_)
  refine z_aload_n he hb dL_law_806 rfl (lv_at hl 2 rfl) (zref_r _ _) ?_
  refine zl_arg (i := 0) (k := 1) he hb hX hbl hj hS (lv_at hl 0 rfl) (lv_at hl 4 rfl) (by decide) (by decide) dL_law_807 dL_law_808 dL_law_810 dL_law_811 dL_law_812 rfl ?_
  refine zl_arg (i := 0) (k := 2) he hb hX hbl hj hS (lv_at hl 0 rfl) (lv_at hl 4 rfl) (by decide) (by decide) dL_law_813 dL_law_814 dL_law_816 dL_law_817 dL_law_818 rfl ?_
  refine zl_arg (i := 0) (k := 3) he hb hX hbl hj hS (lv_at hl 0 rfl) (lv_at hl 4 rfl) (by decide) (by decide) dL_law_819 dL_law_820 dL_law_822 dL_law_823 dL_law_824 rfl ?_
  obtain ⟨_, hc, h⟩ := zob h
  obtain ⟨f4, x3, hx, h⟩ := zbd_i h
  refine zq_callV (ci := 12) (T := TX12) (N := 50) (rest := [_]) B hS (mX12_comes l G hx) zy_X12_comes zk_1767 ⟨by decide, by decide⟩ hc rfl rfl hl rfl (Nat.le_of_ble_eq_true rfl) dL_law_825 hcs (fun H locs hS => ?_)
  refine lv_icmp_eq (tgt := 1403) he hb dL_law_828 (by decide) (fun hc => ?_) (fun hc => ?_)
  · rw [if_pos hc] at h
    obtain rfl := Option.some.inj h
    exact kk _ _ hS _ hl
  · rw [if_neg hc] at h
    cases h
def zlc18 (N n : Nat) (f : zF) : Option zF :=
    ((zck n f 11 0).bind fun _ => (zbd (fX11_cover N n f 0) fun f2 x1 => ((zck n f2 12 196).bind fun _ => (zbd (fX12_cover N n f2 196) fun f4 x3 => (if x1 = x3 then some f4 else none)))))
set_option maxRecDepth 100000 in
set_option maxHeartbeats 4000000 in
theorem zlw18 (B : zB G p s m #[Value.ref b] meth c RL cL_law 7 (some .boolean)) (hG : zOK G) (hLf : l.stackTraces = false) (hX : va_X b L xs s G.2.2.2) (hbl : b < G.2.2.2.size) (hj : q + 6 ≤ L ∧ L ≤ 3072) (hcs : cells + 1 ≤ room_1.cells ∧ slots + 6 ≤ room_1.slots) (h : zlc18 N n f = some f9) (hS : zS G n f H locs) (hl : lv_has ls 7 [(0, .ref b), (1, zr G 0), (2, zr G 196), (3, zr G 215), (4, .int (Int32.ofNat q))])
    (kk : ∀ H1 locs1, zS G n f9 H1 locs1 → ∀ ls1, lv_has ls1 7 [(0, .ref b), (1, zr G 0), (2, zr G 196), (3, zr G 215), (4, .int (Int32.ofNat q))] → W p l e room_1 s m #[Value.ref b] below meth c H1 locs1 (cells + 1) (slots + 6) Q (F0 m 1403 ls1 [])) : W p l e room_1 s m #[Value.ref b] below meth c H locs cells slots Q (F0 m 833 ls []) := by
  have he := B.1
  have hb := B.2.1
  unfold zlc18 at h
  refine W.widen (Nat.le_add_right _ 1) (Nat.le_add_right _ 6) ?_
  refine z_aload_n he hb dL_law_833 rfl (lv_at hl 1 rfl) (zref_r _ _) ?_
  obtain ⟨_, hc, h⟩ := zob h
  obtain ⟨f2, x1, hx, h⟩ := zbd_i h
  refine zq_callV (ci := 11) (T := TX11) (N := 14) (rest := []) B hS (mX11_cover l G hx) zy_X11_cover zk_917 ⟨by decide, by decide⟩ hc rfl rfl hl rfl (Nat.le_of_ble_eq_true rfl) dL_law_834 hcs (fun H locs hS => ?_)
  refine z_aload_n he hb dL_law_837 rfl (lv_at hl 2 rfl) (zref_r _ _) ?_
  obtain ⟨_, hc, h⟩ := zob h
  obtain ⟨f4, x3, hx, h⟩ := zbd_i h
  refine zq_callV (ci := 12) (T := TX12) (N := 50) (rest := [_]) B hS (mX12_cover l G hx) zy_X12_cover zk_1786 ⟨by decide, by decide⟩ hc rfl rfl hl rfl (Nat.le_of_ble_eq_true rfl) dL_law_838 hcs (fun H locs hS => ?_)
  refine lv_icmp_eq (tgt := 1403) he hb dL_law_841 (by decide) (fun hc => ?_) (fun hc => ?_)
  · rw [if_pos hc] at h
    obtain rfl := Option.some.inj h
    exact kk _ _ hS _ hl
  · rw [if_neg hc] at h
    cases h
def zlc19 (N n : Nat) (f : zF) (p1 : Int32) : Option zF :=
    ((zck n f 11 0).bind fun _ => ((fX11_coverBy N n f 0 p1).bind fun x1 => ((zck n f 12 196).bind fun _ => (zbd (fX12_coverBy N n f 196 p1) fun f3 x2 => (if x1 = x2 then some f3 else none)))))
set_option maxRecDepth 100000 in
set_option maxHeartbeats 4000000 in
theorem zlw19 (B : zB G p s m #[Value.ref b] meth c RL cL_law 7 (some .boolean)) (hG : zOK G) (hLf : l.stackTraces = false) (hX : va_X b L xs s G.2.2.2) (hbl : b < G.2.2.2.size) (hj : q + 6 ≤ L ∧ L ≤ 3072) (hcs : cells + 1 ≤ room_1.cells ∧ slots + 6 ≤ room_1.slots) (h : zlc19 N n f (xs (q + 1)) = some f9) (hS : zS G n f H locs) (hl : lv_has ls 7 [(0, .ref b), (1, zr G 0), (2, zr G 196), (3, zr G 215), (4, .int (Int32.ofNat q))])
    (kk : ∀ H1 locs1, zS G n f9 H1 locs1 → ∀ ls1, lv_has ls1 7 [(0, .ref b), (1, zr G 0), (2, zr G 196), (3, zr G 215), (4, .int (Int32.ofNat q))] → W p l e room_1 s m #[Value.ref b] below meth c H1 locs1 (cells + 1) (slots + 6) Q (F0 m 1403 ls1 [])) : W p l e room_1 s m #[Value.ref b] below meth c H locs cells slots Q (F0 m 846 ls []) := by
  have he := B.1
  have hb := B.2.1
  unfold zlc19 at h
  refine W.widen (Nat.le_add_right _ 1) (Nat.le_add_right _ 6) ?_
  refine z_aload_n he hb dL_law_846 rfl (lv_at hl 1 rfl) (zref_r _ _) ?_
  refine zl_arg (i := 0) (k := 1) he hb hX hbl hj hS (lv_at hl 0 rfl) (lv_at hl 4 rfl) (by decide) (by decide) dL_law_847 dL_law_848 dL_law_850 dL_law_851 dL_law_852 rfl ?_
  obtain ⟨_, hc, h⟩ := zob h
  obtain ⟨x1, hx, h⟩ := zob h
  refine zq_callV (ci := 11) (T := TX11) (N := 14) (rest := []) B hS (mX11_coverBy l G hx) zy_X11_coverBy zk_940 ⟨by decide, by decide⟩ hc rfl rfl hl rfl (Nat.le_of_ble_eq_true rfl) dL_law_853 hcs (fun H locs hS => ?_)
  refine z_aload_n he hb dL_law_856 rfl (lv_at hl 2 rfl) (zref_r _ _) ?_
  refine zl_arg (i := 0) (k := 1) he hb hX hbl hj hS (lv_at hl 0 rfl) (lv_at hl 4 rfl) (by decide) (by decide) dL_law_857 dL_law_858 dL_law_860 dL_law_861 dL_law_862 rfl ?_
  obtain ⟨_, hc, h⟩ := zob h
  obtain ⟨f3, x2, hx, h⟩ := zbd_i h
  refine zq_callV (ci := 12) (T := TX12) (N := 50) (rest := [_]) B hS (mX12_coverBy l G hx) zy_X12_coverBy zk_1797 ⟨by decide, by decide⟩ hc rfl rfl hl rfl (Nat.le_of_ble_eq_true rfl) dL_law_863 hcs (fun H locs hS => ?_)
  refine lv_icmp_eq (tgt := 1403) he hb dL_law_866 (by decide) (fun hc => ?_) (fun hc => ?_)
  · rw [if_pos hc] at h
    obtain rfl := Option.some.inj h
    exact kk _ _ hS _ hl
  · rw [if_neg hc] at h
    cases h
end ZLAW
