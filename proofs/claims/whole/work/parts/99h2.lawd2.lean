theorem dW_726 : decode code 726 = .ok (.goto 4, 3) := by decide +kernel
theorem dW_729 : decode code 729 = .ok (.lconst 0, 1) := by decide +kernel
theorem dW_730 : decode code 730 = .ok (.lcmp, 1) := by decide +kernel
theorem dW_731 : decode code 731 = .ok (.ifCond .eq 5, 3) := by decide +kernel
theorem dW_734 : decode code 734 = .ok (.iconst 0, 1) := by decide +kernel
theorem dW_735 : decode code 735 = .ok (.ireturn, 1) := by decide +kernel
theorem dW_736 : decode code 736 = .ok (.goto 607, 3) := by decide +kernel
theorem dW_739 : decode code 739 = .ok (.aload_n 1, 1) := by decide +kernel
theorem dW_740 : decode code 740 = .ok (.aload_n 0, 1) := by decide +kernel
theorem dW_741 : decode code 741 = .ok (.iload 4, 2) := by decide +kernel
theorem dW_743 : decode code 743 = .ok (.iconst 1, 1) := by decide +kernel
theorem dW_744 : decode code 744 = .ok (.iadd, 1) := by decide +kernel
theorem dW_745 : decode code 745 = .ok (.iaload, 1) := by decide +kernel
theorem dW_746 : decode code 746 = .ok (.aload_n 0, 1) := by decide +kernel
theorem dW_747 : decode code 747 = .ok (.iload 4, 2) := by decide +kernel
theorem dW_749 : decode code 749 = .ok (.iconst 2, 1) := by decide +kernel
theorem dW_750 : decode code 750 = .ok (.iadd, 1) := by decide +kernel
theorem dW_751 : decode code 751 = .ok (.iaload, 1) := by decide +kernel
theorem dW_752 : decode code 752 = .ok (.aload_n 3, 1) := by decide +kernel
theorem dW_753 : decode code 753 = .ok (.invokestatic 127, 3) := by decide +kernel
theorem dW_756 : decode code 756 = .ok (.istore 5, 2) := by decide +kernel
theorem dW_758 : decode code 758 = .ok (.aload_n 2, 1) := by decide +kernel
theorem dW_759 : decode code 759 = .ok (.aload_n 0, 1) := by decide +kernel
theorem dW_760 : decode code 760 = .ok (.iload 4, 2) := by decide +kernel
theorem dW_762 : decode code 762 = .ok (.iconst 1, 1) := by decide +kernel
theorem dW_763 : decode code 763 = .ok (.iadd, 1) := by decide +kernel
theorem dW_764 : decode code 764 = .ok (.iaload, 1) := by decide +kernel
theorem dW_765 : decode code 765 = .ok (.aload_n 0, 1) := by decide +kernel
theorem dW_766 : decode code 766 = .ok (.iload 4, 2) := by decide +kernel
theorem dW_768 : decode code 768 = .ok (.iconst 2, 1) := by decide +kernel
theorem dW_769 : decode code 769 = .ok (.iadd, 1) := by decide +kernel
theorem dW_770 : decode code 770 = .ok (.iaload, 1) := by decide +kernel
theorem dW_771 : decode code 771 = .ok (.invokevirtual 129, 3) := by decide +kernel
theorem dW_774 : decode code 774 = .ok (.istore 6, 2) := by decide +kernel
theorem dW_776 : decode code 776 = .ok (.aload_n 2, 1) := by decide +kernel
theorem dW_777 : decode code 777 = .ok (.invokevirtual 88, 3) := by decide +kernel
theorem dW_780 : decode code 780 = .ok (.iload 5, 2) := by decide +kernel
theorem dW_782 : decode code 782 = .ok (.if_icmp .eq 5, 3) := by decide +kernel
theorem dW_785 : decode code 785 = .ok (.iconst 0, 1) := by decide +kernel
theorem dW_786 : decode code 786 = .ok (.ireturn, 1) := by decide +kernel
theorem dW_787 : decode code 787 = .ok (.iload 5, 2) := by decide +kernel
theorem dW_789 : decode code 789 = .ok (.ifCond .ne 15, 3) := by decide +kernel
theorem dW_792 : decode code 792 = .ok (.aload_n 3, 1) := by decide +kernel
theorem dW_793 : decode code 793 = .ok (.iconst 0, 1) := by decide +kernel
theorem dW_794 : decode code 794 = .ok (.laload, 1) := by decide +kernel
theorem dW_795 : decode code 795 = .ok (.iload 6, 2) := by decide +kernel
theorem dW_797 : decode code 797 = .ok (.i2l, 1) := by decide +kernel
theorem dW_798 : decode code 798 = .ok (.lcmp, 1) := by decide +kernel
theorem dW_799 : decode code 799 = .ok (.ifCond .eq 5, 3) := by decide +kernel
theorem dW_802 : decode code 802 = .ok (.iconst 0, 1) := by decide +kernel
theorem dW_803 : decode code 803 = .ok (.ireturn, 1) := by decide +kernel
theorem dW_804 : decode code 804 = .ok (.goto 539, 3) := by decide +kernel
theorem dW_807 : decode code 807 = .ok (.aload_n 1, 1) := by decide +kernel
theorem dW_808 : decode code 808 = .ok (.aload_n 0, 1) := by decide +kernel
theorem dW_809 : decode code 809 = .ok (.iload 4, 2) := by decide +kernel
theorem dW_811 : decode code 811 = .ok (.iconst 1, 1) := by decide +kernel
theorem dW_812 : decode code 812 = .ok (.iadd, 1) := by decide +kernel
theorem dW_813 : decode code 813 = .ok (.iaload, 1) := by decide +kernel
theorem dW_814 : decode code 814 = .ok (.aload_n 0, 1) := by decide +kernel
theorem dW_815 : decode code 815 = .ok (.iload 4, 2) := by decide +kernel
theorem dW_817 : decode code 817 = .ok (.iconst 2, 1) := by decide +kernel
theorem dW_818 : decode code 818 = .ok (.iadd, 1) := by decide +kernel
theorem dW_819 : decode code 819 = .ok (.iaload, 1) := by decide +kernel
theorem dW_820 : decode code 820 = .ok (.aload_n 3, 1) := by decide +kernel
theorem dW_821 : decode code 821 = .ok (.invokestatic 130, 3) := by decide +kernel
theorem dW_824 : decode code 824 = .ok (.istore 5, 2) := by decide +kernel
theorem dW_826 : decode code 826 = .ok (.aload_n 2, 1) := by decide +kernel
theorem dW_827 : decode code 827 = .ok (.aload_n 0, 1) := by decide +kernel
theorem dW_828 : decode code 828 = .ok (.iload 4, 2) := by decide +kernel
theorem dW_830 : decode code 830 = .ok (.iconst 1, 1) := by decide +kernel
theorem dW_831 : decode code 831 = .ok (.iadd, 1) := by decide +kernel
theorem dW_832 : decode code 832 = .ok (.iaload, 1) := by decide +kernel
theorem dW_833 : decode code 833 = .ok (.aload_n 0, 1) := by decide +kernel
theorem dW_834 : decode code 834 = .ok (.iload 4, 2) := by decide +kernel
theorem dW_836 : decode code 836 = .ok (.iconst 2, 1) := by decide +kernel
theorem dW_837 : decode code 837 = .ok (.iadd, 1) := by decide +kernel
theorem dW_838 : decode code 838 = .ok (.iaload, 1) := by decide +kernel
theorem dW_839 : decode code 839 = .ok (.invokevirtual 132, 3) := by decide +kernel
theorem dW_842 : decode code 842 = .ok (.istore 6, 2) := by decide +kernel
theorem dW_844 : decode code 844 = .ok (.aload_n 2, 1) := by decide +kernel
theorem dW_845 : decode code 845 = .ok (.invokevirtual 88, 3) := by decide +kernel
theorem dW_848 : decode code 848 = .ok (.iload 5, 2) := by decide +kernel
theorem dW_850 : decode code 850 = .ok (.if_icmp .eq 5, 3) := by decide +kernel
theorem dW_853 : decode code 853 = .ok (.iconst 0, 1) := by decide +kernel
theorem dW_854 : decode code 854 = .ok (.ireturn, 1) := by decide +kernel
theorem dW_855 : decode code 855 = .ok (.iload 5, 2) := by decide +kernel
theorem dW_857 : decode code 857 = .ok (.ifCond .ne 15, 3) := by decide +kernel
theorem dW_860 : decode code 860 = .ok (.aload_n 3, 1) := by decide +kernel
theorem dW_861 : decode code 861 = .ok (.iconst 0, 1) := by decide +kernel
theorem dW_862 : decode code 862 = .ok (.laload, 1) := by decide +kernel
theorem dW_863 : decode code 863 = .ok (.iload 6, 2) := by decide +kernel
theorem dW_865 : decode code 865 = .ok (.i2l, 1) := by decide +kernel
theorem dW_866 : decode code 866 = .ok (.lcmp, 1) := by decide +kernel
theorem dW_867 : decode code 867 = .ok (.ifCond .eq 5, 3) := by decide +kernel
theorem dW_870 : decode code 870 = .ok (.iconst 0, 1) := by decide +kernel
theorem dW_871 : decode code 871 = .ok (.ireturn, 1) := by decide +kernel
theorem dW_872 : decode code 872 = .ok (.goto 471, 3) := by decide +kernel
theorem dW_875 : decode code 875 = .ok (.aload_n 1, 1) := by decide +kernel
theorem dW_876 : decode code 876 = .ok (.aload_n 0, 1) := by decide +kernel
theorem dW_877 : decode code 877 = .ok (.iload 4, 2) := by decide +kernel
theorem dW_879 : decode code 879 = .ok (.iconst 1, 1) := by decide +kernel
theorem dW_880 : decode code 880 = .ok (.iadd, 1) := by decide +kernel
theorem dW_881 : decode code 881 = .ok (.iaload, 1) := by decide +kernel
theorem dW_882 : decode code 882 = .ok (.aload_n 0, 1) := by decide +kernel
theorem dW_883 : decode code 883 = .ok (.iload 4, 2) := by decide +kernel
theorem dW_885 : decode code 885 = .ok (.iconst 2, 1) := by decide +kernel
theorem dW_886 : decode code 886 = .ok (.iadd, 1) := by decide +kernel
theorem dW_887 : decode code 887 = .ok (.iaload, 1) := by decide +kernel
theorem dW_888 : decode code 888 = .ok (.aload_n 0, 1) := by decide +kernel
theorem dW_889 : decode code 889 = .ok (.iload 4, 2) := by decide +kernel
theorem dW_891 : decode code 891 = .ok (.iconst 3, 1) := by decide +kernel
theorem dW_892 : decode code 892 = .ok (.iadd, 1) := by decide +kernel
theorem dW_893 : decode code 893 = .ok (.iaload, 1) := by decide +kernel
theorem dW_894 : decode code 894 = .ok (.ifCond .eq 7, 3) := by decide +kernel
theorem dW_897 : decode code 897 = .ok (.iconst 1, 1) := by decide +kernel
theorem dW_898 : decode code 898 = .ok (.goto 4, 3) := by decide +kernel
theorem dW_901 : decode code 901 = .ok (.iconst 0, 1) := by decide +kernel
theorem dW_902 : decode code 902 = .ok (.aload_n 3, 1) := by decide +kernel
theorem dW_903 : decode code 903 = .ok (.invokestatic 133, 3) := by decide +kernel
theorem dW_906 : decode code 906 = .ok (.istore 5, 2) := by decide +kernel
theorem dW_908 : decode code 908 = .ok (.aload_n 2, 1) := by decide +kernel
theorem dW_909 : decode code 909 = .ok (.aload_n 0, 1) := by decide +kernel
theorem dW_910 : decode code 910 = .ok (.iload 4, 2) := by decide +kernel
theorem dW_912 : decode code 912 = .ok (.iconst 1, 1) := by decide +kernel
theorem dW_913 : decode code 913 = .ok (.iadd, 1) := by decide +kernel
theorem dW_914 : decode code 914 = .ok (.iaload, 1) := by decide +kernel
theorem dW_915 : decode code 915 = .ok (.aload_n 0, 1) := by decide +kernel
theorem dW_916 : decode code 916 = .ok (.iload 4, 2) := by decide +kernel
theorem dW_918 : decode code 918 = .ok (.iconst 2, 1) := by decide +kernel
theorem dW_919 : decode code 919 = .ok (.iadd, 1) := by decide +kernel
theorem dW_920 : decode code 920 = .ok (.iaload, 1) := by decide +kernel
theorem dW_921 : decode code 921 = .ok (.aload_n 0, 1) := by decide +kernel
theorem dW_922 : decode code 922 = .ok (.iload 4, 2) := by decide +kernel
theorem dW_924 : decode code 924 = .ok (.iconst 3, 1) := by decide +kernel
theorem dW_925 : decode code 925 = .ok (.iadd, 1) := by decide +kernel
theorem dW_926 : decode code 926 = .ok (.iaload, 1) := by decide +kernel
theorem dW_927 : decode code 927 = .ok (.ifCond .eq 7, 3) := by decide +kernel
theorem dW_930 : decode code 930 = .ok (.iconst 1, 1) := by decide +kernel
theorem dW_931 : decode code 931 = .ok (.goto 4, 3) := by decide +kernel
theorem dW_934 : decode code 934 = .ok (.iconst 0, 1) := by decide +kernel
theorem dW_935 : decode code 935 = .ok (.invokevirtual 136, 3) := by decide +kernel
theorem dW_938 : decode code 938 = .ok (.istore 6, 2) := by decide +kernel
theorem dW_940 : decode code 940 = .ok (.aload_n 2, 1) := by decide +kernel
theorem dW_941 : decode code 941 = .ok (.invokevirtual 88, 3) := by decide +kernel
theorem dW_944 : decode code 944 = .ok (.iload 5, 2) := by decide +kernel
theorem dW_946 : decode code 946 = .ok (.if_icmp .eq 5, 3) := by decide +kernel
theorem dW_949 : decode code 949 = .ok (.iconst 0, 1) := by decide +kernel
theorem dW_950 : decode code 950 = .ok (.ireturn, 1) := by decide +kernel
theorem dW_951 : decode code 951 = .ok (.iload 5, 2) := by decide +kernel
theorem dW_953 : decode code 953 = .ok (.ifCond .ne 15, 3) := by decide +kernel
theorem dW_956 : decode code 956 = .ok (.aload_n 3, 1) := by decide +kernel
theorem dW_957 : decode code 957 = .ok (.iconst 0, 1) := by decide +kernel
theorem dW_958 : decode code 958 = .ok (.laload, 1) := by decide +kernel
theorem dW_959 : decode code 959 = .ok (.iload 6, 2) := by decide +kernel
theorem dW_961 : decode code 961 = .ok (.i2l, 1) := by decide +kernel
theorem dW_962 : decode code 962 = .ok (.lcmp, 1) := by decide +kernel
theorem dW_963 : decode code 963 = .ok (.ifCond .eq 5, 3) := by decide +kernel
theorem dW_966 : decode code 966 = .ok (.iconst 0, 1) := by decide +kernel
theorem dW_967 : decode code 967 = .ok (.ireturn, 1) := by decide +kernel
theorem dW_968 : decode code 968 = .ok (.goto 375, 3) := by decide +kernel
theorem dW_971 : decode code 971 = .ok (.aload_n 1, 1) := by decide +kernel
theorem dW_972 : decode code 972 = .ok (.aload_n 0, 1) := by decide +kernel
theorem dW_973 : decode code 973 = .ok (.iload 4, 2) := by decide +kernel
theorem dW_975 : decode code 975 = .ok (.iconst 1, 1) := by decide +kernel
theorem dW_976 : decode code 976 = .ok (.iadd, 1) := by decide +kernel
theorem dW_977 : decode code 977 = .ok (.iaload, 1) := by decide +kernel
theorem dW_978 : decode code 978 = .ok (.aload_n 0, 1) := by decide +kernel
theorem dW_979 : decode code 979 = .ok (.iload 4, 2) := by decide +kernel
theorem dW_981 : decode code 981 = .ok (.iconst 2, 1) := by decide +kernel
theorem dW_982 : decode code 982 = .ok (.iadd, 1) := by decide +kernel
theorem dW_983 : decode code 983 = .ok (.iaload, 1) := by decide +kernel
theorem dW_984 : decode code 984 = .ok (.aload_n 3, 1) := by decide +kernel
theorem dW_985 : decode code 985 = .ok (.invokestatic 137, 3) := by decide +kernel
theorem dW_988 : decode code 988 = .ok (.istore 5, 2) := by decide +kernel
theorem dW_990 : decode code 990 = .ok (.aload_n 2, 1) := by decide +kernel
theorem dW_991 : decode code 991 = .ok (.aload_n 0, 1) := by decide +kernel
theorem dW_992 : decode code 992 = .ok (.iload 4, 2) := by decide +kernel
theorem dW_994 : decode code 994 = .ok (.iconst 1, 1) := by decide +kernel
theorem dW_995 : decode code 995 = .ok (.iadd, 1) := by decide +kernel
theorem dW_996 : decode code 996 = .ok (.iaload, 1) := by decide +kernel
theorem dW_997 : decode code 997 = .ok (.aload_n 0, 1) := by decide +kernel
theorem dW_998 : decode code 998 = .ok (.iload 4, 2) := by decide +kernel
theorem dW_1000 : decode code 1000 = .ok (.iconst 2, 1) := by decide +kernel
theorem dW_1001 : decode code 1001 = .ok (.iadd, 1) := by decide +kernel
theorem dW_1002 : decode code 1002 = .ok (.iaload, 1) := by decide +kernel
theorem dW_1003 : decode code 1003 = .ok (.invokevirtual 139, 3) := by decide +kernel
theorem dW_1006 : decode code 1006 = .ok (.istore 6, 2) := by decide +kernel
theorem dW_1008 : decode code 1008 = .ok (.aload_n 2, 1) := by decide +kernel
theorem dW_1009 : decode code 1009 = .ok (.invokevirtual 88, 3) := by decide +kernel
theorem dW_1012 : decode code 1012 = .ok (.iload 5, 2) := by decide +kernel
theorem dW_1014 : decode code 1014 = .ok (.if_icmp .eq 5, 3) := by decide +kernel
theorem dW_1017 : decode code 1017 = .ok (.iconst 0, 1) := by decide +kernel
theorem dW_1018 : decode code 1018 = .ok (.ireturn, 1) := by decide +kernel
theorem dW_1019 : decode code 1019 = .ok (.iload 5, 2) := by decide +kernel
theorem dW_1021 : decode code 1021 = .ok (.ifCond .ne 15, 3) := by decide +kernel
theorem dW_1024 : decode code 1024 = .ok (.aload_n 3, 1) := by decide +kernel
theorem dW_1025 : decode code 1025 = .ok (.iconst 0, 1) := by decide +kernel
theorem dW_1026 : decode code 1026 = .ok (.laload, 1) := by decide +kernel
theorem dW_1027 : decode code 1027 = .ok (.iload 6, 2) := by decide +kernel
theorem dW_1029 : decode code 1029 = .ok (.i2l, 1) := by decide +kernel
theorem dW_1030 : decode code 1030 = .ok (.lcmp, 1) := by decide +kernel
theorem dW_1031 : decode code 1031 = .ok (.ifCond .eq 5, 3) := by decide +kernel
theorem dW_1034 : decode code 1034 = .ok (.iconst 0, 1) := by decide +kernel
theorem dW_1035 : decode code 1035 = .ok (.ireturn, 1) := by decide +kernel
theorem dW_1036 : decode code 1036 = .ok (.goto 307, 3) := by decide +kernel
theorem dW_1039 : decode code 1039 = .ok (.aload_n 1, 1) := by decide +kernel
theorem dW_1040 : decode code 1040 = .ok (.aload_n 0, 1) := by decide +kernel
theorem dW_1041 : decode code 1041 = .ok (.iload 4, 2) := by decide +kernel
theorem dW_1043 : decode code 1043 = .ok (.iconst 1, 1) := by decide +kernel
theorem dW_1044 : decode code 1044 = .ok (.iadd, 1) := by decide +kernel
theorem dW_1045 : decode code 1045 = .ok (.iaload, 1) := by decide +kernel
theorem dW_1046 : decode code 1046 = .ok (.aload_n 3, 1) := by decide +kernel
theorem dW_1047 : decode code 1047 = .ok (.invokestatic 140, 3) := by decide +kernel
theorem dW_1050 : decode code 1050 = .ok (.istore 5, 2) := by decide +kernel
theorem dW_1052 : decode code 1052 = .ok (.aload_n 2, 1) := by decide +kernel
theorem dW_1053 : decode code 1053 = .ok (.aload_n 0, 1) := by decide +kernel
theorem dW_1054 : decode code 1054 = .ok (.iload 4, 2) := by decide +kernel
theorem dW_1056 : decode code 1056 = .ok (.iconst 1, 1) := by decide +kernel
theorem dW_1057 : decode code 1057 = .ok (.iadd, 1) := by decide +kernel
theorem dW_1058 : decode code 1058 = .ok (.iaload, 1) := by decide +kernel
theorem dW_1059 : decode code 1059 = .ok (.invokevirtual 142, 3) := by decide +kernel
theorem dW_1062 : decode code 1062 = .ok (.istore 6, 2) := by decide +kernel
theorem dW_1064 : decode code 1064 = .ok (.aload_n 2, 1) := by decide +kernel
theorem dW_1065 : decode code 1065 = .ok (.invokevirtual 88, 3) := by decide +kernel
theorem dW_1068 : decode code 1068 = .ok (.iload 5, 2) := by decide +kernel
theorem dW_1070 : decode code 1070 = .ok (.if_icmp .eq 5, 3) := by decide +kernel
theorem dW_1073 : decode code 1073 = .ok (.iconst 0, 1) := by decide +kernel
theorem dW_1074 : decode code 1074 = .ok (.ireturn, 1) := by decide +kernel
theorem dW_1075 : decode code 1075 = .ok (.iload 5, 2) := by decide +kernel
theorem dW_1077 : decode code 1077 = .ok (.ifCond .ne 15, 3) := by decide +kernel
theorem dW_1080 : decode code 1080 = .ok (.aload_n 3, 1) := by decide +kernel
theorem dW_1081 : decode code 1081 = .ok (.iconst 0, 1) := by decide +kernel
theorem dW_1082 : decode code 1082 = .ok (.laload, 1) := by decide +kernel
theorem dW_1083 : decode code 1083 = .ok (.iload 6, 2) := by decide +kernel
theorem dW_1085 : decode code 1085 = .ok (.i2l, 1) := by decide +kernel
theorem dW_1086 : decode code 1086 = .ok (.lcmp, 1) := by decide +kernel
theorem dW_1087 : decode code 1087 = .ok (.ifCond .eq 5, 3) := by decide +kernel
theorem dW_1090 : decode code 1090 = .ok (.iconst 0, 1) := by decide +kernel
theorem dW_1091 : decode code 1091 = .ok (.ireturn, 1) := by decide +kernel
theorem dW_1092 : decode code 1092 = .ok (.goto 251, 3) := by decide +kernel
theorem dW_1095 : decode code 1095 = .ok (.aload_n 1, 1) := by decide +kernel
theorem dW_1096 : decode code 1096 = .ok (.aload_n 0, 1) := by decide +kernel
theorem dW_1097 : decode code 1097 = .ok (.iload 4, 2) := by decide +kernel
theorem dW_1099 : decode code 1099 = .ok (.iconst 1, 1) := by decide +kernel
theorem dW_1100 : decode code 1100 = .ok (.iadd, 1) := by decide +kernel
theorem dW_1101 : decode code 1101 = .ok (.iaload, 1) := by decide +kernel
theorem dW_1102 : decode code 1102 = .ok (.aload_n 0, 1) := by decide +kernel
theorem dW_1103 : decode code 1103 = .ok (.iload 4, 2) := by decide +kernel
theorem dW_1105 : decode code 1105 = .ok (.iconst 2, 1) := by decide +kernel
theorem dW_1106 : decode code 1106 = .ok (.iadd, 1) := by decide +kernel
theorem dW_1107 : decode code 1107 = .ok (.iaload, 1) := by decide +kernel
theorem dW_1108 : decode code 1108 = .ok (.aload_n 3, 1) := by decide +kernel
theorem dW_1109 : decode code 1109 = .ok (.invokestatic 143, 3) := by decide +kernel
theorem dW_1112 : decode code 1112 = .ok (.istore 5, 2) := by decide +kernel
theorem dW_1114 : decode code 1114 = .ok (.aload_n 2, 1) := by decide +kernel
theorem dW_1115 : decode code 1115 = .ok (.aload_n 0, 1) := by decide +kernel
theorem dW_1116 : decode code 1116 = .ok (.iload 4, 2) := by decide +kernel
theorem dW_1118 : decode code 1118 = .ok (.iconst 1, 1) := by decide +kernel
theorem dW_1119 : decode code 1119 = .ok (.iadd, 1) := by decide +kernel
theorem dW_1120 : decode code 1120 = .ok (.iaload, 1) := by decide +kernel
theorem dW_1121 : decode code 1121 = .ok (.aload_n 0, 1) := by decide +kernel
theorem dW_1122 : decode code 1122 = .ok (.iload 4, 2) := by decide +kernel
theorem dW_1124 : decode code 1124 = .ok (.iconst 2, 1) := by decide +kernel
theorem dW_1125 : decode code 1125 = .ok (.iadd, 1) := by decide +kernel
theorem dW_1126 : decode code 1126 = .ok (.iaload, 1) := by decide +kernel
theorem dW_1127 : decode code 1127 = .ok (.invokevirtual 145, 3) := by decide +kernel
theorem dW_1130 : decode code 1130 = .ok (.istore 6, 2) := by decide +kernel
theorem dW_1132 : decode code 1132 = .ok (.aload_n 2, 1) := by decide +kernel
theorem dW_1133 : decode code 1133 = .ok (.invokevirtual 88, 3) := by decide +kernel
theorem dW_1136 : decode code 1136 = .ok (.iload 5, 2) := by decide +kernel
theorem dW_1138 : decode code 1138 = .ok (.if_icmp .eq 5, 3) := by decide +kernel
theorem dW_1141 : decode code 1141 = .ok (.iconst 0, 1) := by decide +kernel
theorem dW_1142 : decode code 1142 = .ok (.ireturn, 1) := by decide +kernel
theorem dW_1143 : decode code 1143 = .ok (.iload 5, 2) := by decide +kernel
theorem dW_1145 : decode code 1145 = .ok (.ifCond .ne 15, 3) := by decide +kernel
theorem dW_1148 : decode code 1148 = .ok (.aload_n 3, 1) := by decide +kernel
theorem dW_1149 : decode code 1149 = .ok (.iconst 0, 1) := by decide +kernel
theorem dW_1150 : decode code 1150 = .ok (.laload, 1) := by decide +kernel
theorem dW_1151 : decode code 1151 = .ok (.iload 6, 2) := by decide +kernel
theorem dW_1153 : decode code 1153 = .ok (.i2l, 1) := by decide +kernel
theorem dW_1154 : decode code 1154 = .ok (.lcmp, 1) := by decide +kernel
theorem dW_1155 : decode code 1155 = .ok (.ifCond .eq 5, 3) := by decide +kernel
theorem dW_1158 : decode code 1158 = .ok (.iconst 0, 1) := by decide +kernel
theorem dW_1159 : decode code 1159 = .ok (.ireturn, 1) := by decide +kernel
theorem dW_1160 : decode code 1160 = .ok (.goto 183, 3) := by decide +kernel
theorem dW_1163 : decode code 1163 = .ok (.aload_n 1, 1) := by decide +kernel
theorem dW_1164 : decode code 1164 = .ok (.aload_n 0, 1) := by decide +kernel
theorem dW_1165 : decode code 1165 = .ok (.iload 4, 2) := by decide +kernel
theorem dW_1167 : decode code 1167 = .ok (.iconst 1, 1) := by decide +kernel
theorem dW_1168 : decode code 1168 = .ok (.iadd, 1) := by decide +kernel
theorem dW_1169 : decode code 1169 = .ok (.iaload, 1) := by decide +kernel
theorem dW_1170 : decode code 1170 = .ok (.aload_n 0, 1) := by decide +kernel
theorem dW_1171 : decode code 1171 = .ok (.iload 4, 2) := by decide +kernel
theorem dW_1173 : decode code 1173 = .ok (.iconst 2, 1) := by decide +kernel
theorem dW_1174 : decode code 1174 = .ok (.iadd, 1) := by decide +kernel
theorem dW_1175 : decode code 1175 = .ok (.iaload, 1) := by decide +kernel
theorem dW_1176 : decode code 1176 = .ok (.aload_n 3, 1) := by decide +kernel
theorem dW_1177 : decode code 1177 = .ok (.invokestatic 146, 3) := by decide +kernel
theorem dW_1180 : decode code 1180 = .ok (.istore 5, 2) := by decide +kernel
theorem dW_1182 : decode code 1182 = .ok (.aload_n 2, 1) := by decide +kernel
theorem dW_1183 : decode code 1183 = .ok (.aload_n 0, 1) := by decide +kernel
theorem dW_1184 : decode code 1184 = .ok (.iload 4, 2) := by decide +kernel
theorem dW_1186 : decode code 1186 = .ok (.iconst 1, 1) := by decide +kernel
theorem dW_1187 : decode code 1187 = .ok (.iadd, 1) := by decide +kernel
theorem dW_1188 : decode code 1188 = .ok (.iaload, 1) := by decide +kernel
theorem dW_1189 : decode code 1189 = .ok (.aload_n 0, 1) := by decide +kernel
theorem dW_1190 : decode code 1190 = .ok (.iload 4, 2) := by decide +kernel
theorem dW_1192 : decode code 1192 = .ok (.iconst 2, 1) := by decide +kernel
theorem dW_1193 : decode code 1193 = .ok (.iadd, 1) := by decide +kernel
theorem dW_1194 : decode code 1194 = .ok (.iaload, 1) := by decide +kernel
theorem dW_1195 : decode code 1195 = .ok (.invokevirtual 148, 3) := by decide +kernel
theorem dW_1198 : decode code 1198 = .ok (.istore 6, 2) := by decide +kernel
theorem dW_1200 : decode code 1200 = .ok (.aload_n 2, 1) := by decide +kernel
theorem dW_1201 : decode code 1201 = .ok (.invokevirtual 88, 3) := by decide +kernel
theorem dW_1204 : decode code 1204 = .ok (.iload 5, 2) := by decide +kernel
theorem dW_1206 : decode code 1206 = .ok (.if_icmp .eq 5, 3) := by decide +kernel
theorem dW_1209 : decode code 1209 = .ok (.iconst 0, 1) := by decide +kernel
theorem dW_1210 : decode code 1210 = .ok (.ireturn, 1) := by decide +kernel
theorem dW_1211 : decode code 1211 = .ok (.iload 5, 2) := by decide +kernel
theorem dW_1213 : decode code 1213 = .ok (.ifCond .ne 15, 3) := by decide +kernel
theorem dW_1216 : decode code 1216 = .ok (.aload_n 3, 1) := by decide +kernel
theorem dW_1217 : decode code 1217 = .ok (.iconst 0, 1) := by decide +kernel
theorem dW_1218 : decode code 1218 = .ok (.laload, 1) := by decide +kernel
theorem dW_1219 : decode code 1219 = .ok (.iload 6, 2) := by decide +kernel
theorem dW_1221 : decode code 1221 = .ok (.i2l, 1) := by decide +kernel
theorem dW_1222 : decode code 1222 = .ok (.lcmp, 1) := by decide +kernel
theorem dW_1223 : decode code 1223 = .ok (.ifCond .eq 5, 3) := by decide +kernel
theorem dW_1226 : decode code 1226 = .ok (.iconst 0, 1) := by decide +kernel
theorem dW_1227 : decode code 1227 = .ok (.ireturn, 1) := by decide +kernel
theorem dW_1228 : decode code 1228 = .ok (.goto 115, 3) := by decide +kernel
theorem dW_1231 : decode code 1231 = .ok (.aload_n 1, 1) := by decide +kernel
theorem dW_1232 : decode code 1232 = .ok (.aload_n 0, 1) := by decide +kernel
theorem dW_1233 : decode code 1233 = .ok (.iload 4, 2) := by decide +kernel
theorem dW_1235 : decode code 1235 = .ok (.iconst 1, 1) := by decide +kernel
theorem dW_1236 : decode code 1236 = .ok (.iadd, 1) := by decide +kernel
theorem dW_1237 : decode code 1237 = .ok (.iaload, 1) := by decide +kernel
theorem dW_1238 : decode code 1238 = .ok (.aload_n 3, 1) := by decide +kernel
theorem dW_1239 : decode code 1239 = .ok (.invokestatic 149, 3) := by decide +kernel
theorem dW_1242 : decode code 1242 = .ok (.istore 5, 2) := by decide +kernel
theorem dW_1244 : decode code 1244 = .ok (.aload_n 2, 1) := by decide +kernel
theorem dW_1245 : decode code 1245 = .ok (.aload_n 0, 1) := by decide +kernel
theorem dW_1246 : decode code 1246 = .ok (.iload 4, 2) := by decide +kernel
theorem dW_1248 : decode code 1248 = .ok (.iconst 1, 1) := by decide +kernel
theorem dW_1249 : decode code 1249 = .ok (.iadd, 1) := by decide +kernel
theorem dW_1250 : decode code 1250 = .ok (.iaload, 1) := by decide +kernel
theorem dW_1251 : decode code 1251 = .ok (.invokevirtual 151, 3) := by decide +kernel
theorem dW_1254 : decode code 1254 = .ok (.istore 6, 2) := by decide +kernel
theorem dW_1256 : decode code 1256 = .ok (.aload_n 2, 1) := by decide +kernel
theorem dW_1257 : decode code 1257 = .ok (.invokevirtual 88, 3) := by decide +kernel
theorem dW_1260 : decode code 1260 = .ok (.iload 5, 2) := by decide +kernel
theorem dW_1262 : decode code 1262 = .ok (.if_icmp .eq 5, 3) := by decide +kernel
theorem dW_1265 : decode code 1265 = .ok (.iconst 0, 1) := by decide +kernel
theorem dW_1266 : decode code 1266 = .ok (.ireturn, 1) := by decide +kernel
theorem dW_1267 : decode code 1267 = .ok (.iload 5, 2) := by decide +kernel
theorem dW_1269 : decode code 1269 = .ok (.ifCond .ne 15, 3) := by decide +kernel
theorem dW_1272 : decode code 1272 = .ok (.aload_n 3, 1) := by decide +kernel
theorem dW_1273 : decode code 1273 = .ok (.iconst 0, 1) := by decide +kernel
theorem dW_1274 : decode code 1274 = .ok (.laload, 1) := by decide +kernel
theorem dW_1275 : decode code 1275 = .ok (.iload 6, 2) := by decide +kernel
theorem dW_1277 : decode code 1277 = .ok (.i2l, 1) := by decide +kernel
theorem dW_1278 : decode code 1278 = .ok (.lcmp, 1) := by decide +kernel
theorem dW_1279 : decode code 1279 = .ok (.ifCond .eq 5, 3) := by decide +kernel
theorem dW_1282 : decode code 1282 = .ok (.iconst 0, 1) := by decide +kernel
theorem dW_1283 : decode code 1283 = .ok (.ireturn, 1) := by decide +kernel
theorem dW_1284 : decode code 1284 = .ok (.goto 59, 3) := by decide +kernel
theorem dW_1287 : decode code 1287 = .ok (.aload_n 1, 1) := by decide +kernel
theorem dW_1288 : decode code 1288 = .ok (.aload_n 0, 1) := by decide +kernel
theorem dW_1289 : decode code 1289 = .ok (.iload 4, 2) := by decide +kernel
theorem dW_1291 : decode code 1291 = .ok (.iconst 1, 1) := by decide +kernel
theorem dW_1292 : decode code 1292 = .ok (.iadd, 1) := by decide +kernel
theorem dW_1293 : decode code 1293 = .ok (.iaload, 1) := by decide +kernel
theorem dW_1294 : decode code 1294 = .ok (.aload_n 3, 1) := by decide +kernel
theorem dW_1295 : decode code 1295 = .ok (.invokestatic 152, 3) := by decide +kernel
theorem dW_1298 : decode code 1298 = .ok (.istore 5, 2) := by decide +kernel
theorem dW_1300 : decode code 1300 = .ok (.aload_n 2, 1) := by decide +kernel
theorem dW_1301 : decode code 1301 = .ok (.aload_n 0, 1) := by decide +kernel
theorem dW_1302 : decode code 1302 = .ok (.iload 4, 2) := by decide +kernel
theorem dW_1304 : decode code 1304 = .ok (.iconst 1, 1) := by decide +kernel
theorem dW_1305 : decode code 1305 = .ok (.iadd, 1) := by decide +kernel
theorem dW_1306 : decode code 1306 = .ok (.iaload, 1) := by decide +kernel
theorem dW_1307 : decode code 1307 = .ok (.invokevirtual 154, 3) := by decide +kernel
theorem dW_1310 : decode code 1310 = .ok (.istore 6, 2) := by decide +kernel
theorem dW_1312 : decode code 1312 = .ok (.aload_n 2, 1) := by decide +kernel
theorem dW_1313 : decode code 1313 = .ok (.invokevirtual 88, 3) := by decide +kernel
theorem dW_1316 : decode code 1316 = .ok (.iload 5, 2) := by decide +kernel
theorem dW_1318 : decode code 1318 = .ok (.if_icmp .eq 5, 3) := by decide +kernel
theorem dW_1321 : decode code 1321 = .ok (.iconst 0, 1) := by decide +kernel
theorem dW_1322 : decode code 1322 = .ok (.ireturn, 1) := by decide +kernel
theorem dW_1323 : decode code 1323 = .ok (.iload 5, 2) := by decide +kernel
theorem dW_1325 : decode code 1325 = .ok (.ifCond .ne 15, 3) := by decide +kernel
theorem dW_1328 : decode code 1328 = .ok (.aload_n 3, 1) := by decide +kernel
theorem dW_1329 : decode code 1329 = .ok (.iconst 0, 1) := by decide +kernel
theorem dW_1330 : decode code 1330 = .ok (.laload, 1) := by decide +kernel
theorem dW_1331 : decode code 1331 = .ok (.iload 6, 2) := by decide +kernel
theorem dW_1333 : decode code 1333 = .ok (.i2l, 1) := by decide +kernel
theorem dW_1334 : decode code 1334 = .ok (.lcmp, 1) := by decide +kernel
theorem dW_1335 : decode code 1335 = .ok (.ifCond .eq 5, 3) := by decide +kernel
theorem dW_1338 : decode code 1338 = .ok (.iconst 0, 1) := by decide +kernel
theorem dW_1339 : decode code 1339 = .ok (.ireturn, 1) := by decide +kernel
theorem dW_1340 : decode code 1340 = .ok (.goto 3, 3) := by decide +kernel
theorem dW_1343 : decode code 1343 = .ok (.iinc 4 6, 3) := by decide +kernel
theorem dW_1346 : decode code 1346 = .ok (.goto (-1323), 3) := by decide +kernel
theorem dW_1349 : decode code 1349 = .ok (.iconst 1, 1) := by decide +kernel
theorem dW_1350 : decode code 1350 = .ok (.ireturn, 1) := by decide +kernel
