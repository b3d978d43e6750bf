/-! the law: its instructions, second half -/
theorem tL_800 : decode code 800 = .ok (.iadd, 1) := by decide +kernel
theorem tL_801 : decode code 801 = .ok (.iaload, 1) := by decide +kernel
theorem tL_802 : decode code 802 = .ok (.invokevirtual 129, 3) := by decide +kernel
theorem tL_805 : decode code 805 = .ok (.if_icmp .eq 575, 3) := by decide +kernel
theorem tL_808 : decode code 808 = .ok (.iconst 0, 1) := by decide +kernel
theorem tL_809 : decode code 809 = .ok (.ireturn, 1) := by decide +kernel
theorem tL_810 : decode code 810 = .ok (.aload_n 1, 1) := by decide +kernel
theorem tL_811 : decode code 811 = .ok (.aload_n 0, 1) := by decide +kernel
theorem tL_812 : decode code 812 = .ok (.iload 4, 2) := by decide +kernel
theorem tL_814 : decode code 814 = .ok (.iconst 1, 1) := by decide +kernel
theorem tL_815 : decode code 815 = .ok (.iadd, 1) := by decide +kernel
theorem tL_816 : decode code 816 = .ok (.iaload, 1) := by decide +kernel
theorem tL_817 : decode code 817 = .ok (.aload_n 0, 1) := by decide +kernel
theorem tL_818 : decode code 818 = .ok (.iload 4, 2) := by decide +kernel
theorem tL_820 : decode code 820 = .ok (.iconst 2, 1) := by decide +kernel
theorem tL_821 : decode code 821 = .ok (.iadd, 1) := by decide +kernel
theorem tL_822 : decode code 822 = .ok (.iaload, 1) := by decide +kernel
theorem tL_823 : decode code 823 = .ok (.invokevirtual 130, 3) := by decide +kernel
theorem tL_826 : decode code 826 = .ok (.aload_n 2, 1) := by decide +kernel
theorem tL_827 : decode code 827 = .ok (.aload_n 0, 1) := by decide +kernel
theorem tL_828 : decode code 828 = .ok (.iload 4, 2) := by decide +kernel
theorem tL_830 : decode code 830 = .ok (.iconst 1, 1) := by decide +kernel
theorem tL_831 : decode code 831 = .ok (.iadd, 1) := by decide +kernel
theorem tL_832 : decode code 832 = .ok (.iaload, 1) := by decide +kernel
theorem tL_833 : decode code 833 = .ok (.aload_n 0, 1) := by decide +kernel
theorem tL_834 : decode code 834 = .ok (.iload 4, 2) := by decide +kernel
theorem tL_836 : decode code 836 = .ok (.iconst 2, 1) := by decide +kernel
theorem tL_837 : decode code 837 = .ok (.iadd, 1) := by decide +kernel
theorem tL_838 : decode code 838 = .ok (.iaload, 1) := by decide +kernel
theorem tL_839 : decode code 839 = .ok (.invokevirtual 133, 3) := by decide +kernel
theorem tL_842 : decode code 842 = .ok (.if_icmp .eq 538, 3) := by decide +kernel
theorem tL_845 : decode code 845 = .ok (.iconst 0, 1) := by decide +kernel
theorem tL_846 : decode code 846 = .ok (.ireturn, 1) := by decide +kernel
theorem tL_847 : decode code 847 = .ok (.aload_n 1, 1) := by decide +kernel
theorem tL_848 : decode code 848 = .ok (.aload_n 0, 1) := by decide +kernel
theorem tL_849 : decode code 849 = .ok (.iload 4, 2) := by decide +kernel
theorem tL_851 : decode code 851 = .ok (.iconst 1, 1) := by decide +kernel
theorem tL_852 : decode code 852 = .ok (.iadd, 1) := by decide +kernel
theorem tL_853 : decode code 853 = .ok (.iaload, 1) := by decide +kernel
theorem tL_854 : decode code 854 = .ok (.invokevirtual 134, 3) := by decide +kernel
theorem tL_857 : decode code 857 = .ok (.aload_n 2, 1) := by decide +kernel
theorem tL_858 : decode code 858 = .ok (.aload_n 0, 1) := by decide +kernel
theorem tL_859 : decode code 859 = .ok (.iload 4, 2) := by decide +kernel
theorem tL_861 : decode code 861 = .ok (.iconst 1, 1) := by decide +kernel
theorem tL_862 : decode code 862 = .ok (.iadd, 1) := by decide +kernel
theorem tL_863 : decode code 863 = .ok (.iaload, 1) := by decide +kernel
theorem tL_864 : decode code 864 = .ok (.invokevirtual 137, 3) := by decide +kernel
theorem tL_867 : decode code 867 = .ok (.if_icmp .eq 513, 3) := by decide +kernel
theorem tL_870 : decode code 870 = .ok (.iconst 0, 1) := by decide +kernel
theorem tL_871 : decode code 871 = .ok (.ireturn, 1) := by decide +kernel
theorem tL_872 : decode code 872 = .ok (.aload_n 1, 1) := by decide +kernel
theorem tL_873 : decode code 873 = .ok (.aload_n 0, 1) := by decide +kernel
theorem tL_874 : decode code 874 = .ok (.iload 4, 2) := by decide +kernel
theorem tL_876 : decode code 876 = .ok (.iconst 1, 1) := by decide +kernel
theorem tL_877 : decode code 877 = .ok (.iadd, 1) := by decide +kernel
theorem tL_878 : decode code 878 = .ok (.iaload, 1) := by decide +kernel
theorem tL_879 : decode code 879 = .ok (.aload_n 0, 1) := by decide +kernel
theorem tL_880 : decode code 880 = .ok (.iload 4, 2) := by decide +kernel
theorem tL_882 : decode code 882 = .ok (.iconst 2, 1) := by decide +kernel
theorem tL_883 : decode code 883 = .ok (.iadd, 1) := by decide +kernel
theorem tL_884 : decode code 884 = .ok (.iaload, 1) := by decide +kernel
theorem tL_885 : decode code 885 = .ok (.invokevirtual 138, 3) := by decide +kernel
theorem tL_888 : decode code 888 = .ok (.aload_n 2, 1) := by decide +kernel
theorem tL_889 : decode code 889 = .ok (.aload_n 0, 1) := by decide +kernel
theorem tL_890 : decode code 890 = .ok (.iload 4, 2) := by decide +kernel
theorem tL_892 : decode code 892 = .ok (.iconst 1, 1) := by decide +kernel
theorem tL_893 : decode code 893 = .ok (.iadd, 1) := by decide +kernel
theorem tL_894 : decode code 894 = .ok (.iaload, 1) := by decide +kernel
theorem tL_895 : decode code 895 = .ok (.aload_n 0, 1) := by decide +kernel
theorem tL_896 : decode code 896 = .ok (.iload 4, 2) := by decide +kernel
theorem tL_898 : decode code 898 = .ok (.iconst 2, 1) := by decide +kernel
theorem tL_899 : decode code 899 = .ok (.iadd, 1) := by decide +kernel
theorem tL_900 : decode code 900 = .ok (.iaload, 1) := by decide +kernel
theorem tL_901 : decode code 901 = .ok (.invokevirtual 141, 3) := by decide +kernel
theorem tL_904 : decode code 904 = .ok (.if_icmp .eq 476, 3) := by decide +kernel
theorem tL_907 : decode code 907 = .ok (.iconst 0, 1) := by decide +kernel
theorem tL_908 : decode code 908 = .ok (.ireturn, 1) := by decide +kernel
theorem tL_909 : decode code 909 = .ok (.aload_n 1, 1) := by decide +kernel
theorem tL_910 : decode code 910 = .ok (.aload_n 0, 1) := by decide +kernel
theorem tL_911 : decode code 911 = .ok (.iload 4, 2) := by decide +kernel
theorem tL_913 : decode code 913 = .ok (.iconst 1, 1) := by decide +kernel
theorem tL_914 : decode code 914 = .ok (.iadd, 1) := by decide +kernel
theorem tL_915 : decode code 915 = .ok (.iaload, 1) := by decide +kernel
theorem tL_916 : decode code 916 = .ok (.invokevirtual 142, 3) := by decide +kernel
theorem tL_919 : decode code 919 = .ok (.aload_n 2, 1) := by decide +kernel
theorem tL_920 : decode code 920 = .ok (.aload_n 0, 1) := by decide +kernel
theorem tL_921 : decode code 921 = .ok (.iload 4, 2) := by decide +kernel
theorem tL_923 : decode code 923 = .ok (.iconst 1, 1) := by decide +kernel
theorem tL_924 : decode code 924 = .ok (.iadd, 1) := by decide +kernel
theorem tL_925 : decode code 925 = .ok (.iaload, 1) := by decide +kernel
theorem tL_926 : decode code 926 = .ok (.invokevirtual 145, 3) := by decide +kernel
theorem tL_929 : decode code 929 = .ok (.if_icmp .eq 451, 3) := by decide +kernel
theorem tL_932 : decode code 932 = .ok (.iconst 0, 1) := by decide +kernel
theorem tL_933 : decode code 933 = .ok (.ireturn, 1) := by decide +kernel
theorem tL_934 : decode code 934 = .ok (.aload_n 1, 1) := by decide +kernel
theorem tL_935 : decode code 935 = .ok (.invokevirtual 146, 3) := by decide +kernel
theorem tL_938 : decode code 938 = .ok (.aload_n 2, 1) := by decide +kernel
theorem tL_939 : decode code 939 = .ok (.invokevirtual 149, 3) := by decide +kernel
theorem tL_942 : decode code 942 = .ok (.if_icmp .eq 438, 3) := by decide +kernel
theorem tL_945 : decode code 945 = .ok (.iconst 0, 1) := by decide +kernel
theorem tL_946 : decode code 946 = .ok (.ireturn, 1) := by decide +kernel
theorem tL_947 : decode code 947 = .ok (.aload_n 1, 1) := by decide +kernel
theorem tL_948 : decode code 948 = .ok (.invokevirtual 150, 3) := by decide +kernel
theorem tL_951 : decode code 951 = .ok (.aload_n 2, 1) := by decide +kernel
theorem tL_952 : decode code 952 = .ok (.invokevirtual 153, 3) := by decide +kernel
theorem tL_955 : decode code 955 = .ok (.if_icmp .eq 425, 3) := by decide +kernel
theorem tL_958 : decode code 958 = .ok (.iconst 0, 1) := by decide +kernel
theorem tL_959 : decode code 959 = .ok (.ireturn, 1) := by decide +kernel
theorem tL_960 : decode code 960 = .ok (.aload_n 1, 1) := by decide +kernel
theorem tL_961 : decode code 961 = .ok (.aload_n 0, 1) := by decide +kernel
theorem tL_962 : decode code 962 = .ok (.iload 4, 2) := by decide +kernel
theorem tL_964 : decode code 964 = .ok (.iconst 1, 1) := by decide +kernel
theorem tL_965 : decode code 965 = .ok (.iadd, 1) := by decide +kernel
theorem tL_966 : decode code 966 = .ok (.iaload, 1) := by decide +kernel
theorem tL_967 : decode code 967 = .ok (.invokevirtual 154, 3) := by decide +kernel
theorem tL_970 : decode code 970 = .ok (.aload_n 2, 1) := by decide +kernel
theorem tL_971 : decode code 971 = .ok (.aload_n 0, 1) := by decide +kernel
theorem tL_972 : decode code 972 = .ok (.iload 4, 2) := by decide +kernel
theorem tL_974 : decode code 974 = .ok (.iconst 1, 1) := by decide +kernel
theorem tL_975 : decode code 975 = .ok (.iadd, 1) := by decide +kernel
theorem tL_976 : decode code 976 = .ok (.iaload, 1) := by decide +kernel
theorem tL_977 : decode code 977 = .ok (.invokevirtual 157, 3) := by decide +kernel
theorem tL_980 : decode code 980 = .ok (.if_icmp .eq 400, 3) := by decide +kernel
theorem tL_983 : decode code 983 = .ok (.iconst 0, 1) := by decide +kernel
theorem tL_984 : decode code 984 = .ok (.ireturn, 1) := by decide +kernel
theorem tL_985 : decode code 985 = .ok (.aload_n 1, 1) := by decide +kernel
theorem tL_986 : decode code 986 = .ok (.aload_n 0, 1) := by decide +kernel
theorem tL_987 : decode code 987 = .ok (.iload 4, 2) := by decide +kernel
theorem tL_989 : decode code 989 = .ok (.iconst 1, 1) := by decide +kernel
theorem tL_990 : decode code 990 = .ok (.iadd, 1) := by decide +kernel
theorem tL_991 : decode code 991 = .ok (.iaload, 1) := by decide +kernel
theorem tL_992 : decode code 992 = .ok (.invokevirtual 158, 3) := by decide +kernel
theorem tL_995 : decode code 995 = .ok (.aload_n 2, 1) := by decide +kernel
theorem tL_996 : decode code 996 = .ok (.aload_n 0, 1) := by decide +kernel
theorem tL_997 : decode code 997 = .ok (.iload 4, 2) := by decide +kernel
theorem tL_999 : decode code 999 = .ok (.iconst 1, 1) := by decide +kernel
theorem tL_1000 : decode code 1000 = .ok (.iadd, 1) := by decide +kernel
theorem tL_1001 : decode code 1001 = .ok (.iaload, 1) := by decide +kernel
theorem tL_1002 : decode code 1002 = .ok (.invokevirtual 161, 3) := by decide +kernel
theorem tL_1005 : decode code 1005 = .ok (.if_icmp .eq 375, 3) := by decide +kernel
theorem tL_1008 : decode code 1008 = .ok (.iconst 0, 1) := by decide +kernel
theorem tL_1009 : decode code 1009 = .ok (.ireturn, 1) := by decide +kernel
theorem tL_1010 : decode code 1010 = .ok (.aload_n 1, 1) := by decide +kernel
theorem tL_1011 : decode code 1011 = .ok (.invokevirtual 162, 3) := by decide +kernel
theorem tL_1014 : decode code 1014 = .ok (.aload_n 2, 1) := by decide +kernel
theorem tL_1015 : decode code 1015 = .ok (.invokevirtual 165, 3) := by decide +kernel
theorem tL_1018 : decode code 1018 = .ok (.if_icmp .eq 362, 3) := by decide +kernel
theorem tL_1021 : decode code 1021 = .ok (.iconst 0, 1) := by decide +kernel
theorem tL_1022 : decode code 1022 = .ok (.ireturn, 1) := by decide +kernel
theorem tL_1023 : decode code 1023 = .ok (.aload_n 1, 1) := by decide +kernel
theorem tL_1024 : decode code 1024 = .ok (.aload_n 0, 1) := by decide +kernel
theorem tL_1025 : decode code 1025 = .ok (.iload 4, 2) := by decide +kernel
theorem tL_1027 : decode code 1027 = .ok (.iconst 1, 1) := by decide +kernel
theorem tL_1028 : decode code 1028 = .ok (.iadd, 1) := by decide +kernel
theorem tL_1029 : decode code 1029 = .ok (.iaload, 1) := by decide +kernel
theorem tL_1030 : decode code 1030 = .ok (.aload_n 0, 1) := by decide +kernel
theorem tL_1031 : decode code 1031 = .ok (.iload 4, 2) := by decide +kernel
theorem tL_1033 : decode code 1033 = .ok (.iconst 2, 1) := by decide +kernel
theorem tL_1034 : decode code 1034 = .ok (.iadd, 1) := by decide +kernel
theorem tL_1035 : decode code 1035 = .ok (.iaload, 1) := by decide +kernel
theorem tL_1036 : decode code 1036 = .ok (.invokevirtual 166, 3) := by decide +kernel
theorem tL_1039 : decode code 1039 = .ok (.aload_n 2, 1) := by decide +kernel
theorem tL_1040 : decode code 1040 = .ok (.aload_n 0, 1) := by decide +kernel
theorem tL_1041 : decode code 1041 = .ok (.iload 4, 2) := by decide +kernel
theorem tL_1043 : decode code 1043 = .ok (.iconst 1, 1) := by decide +kernel
theorem tL_1044 : decode code 1044 = .ok (.iadd, 1) := by decide +kernel
theorem tL_1045 : decode code 1045 = .ok (.iaload, 1) := by decide +kernel
theorem tL_1046 : decode code 1046 = .ok (.aload_n 0, 1) := by decide +kernel
theorem tL_1047 : decode code 1047 = .ok (.iload 4, 2) := by decide +kernel
theorem tL_1049 : decode code 1049 = .ok (.iconst 2, 1) := by decide +kernel
theorem tL_1050 : decode code 1050 = .ok (.iadd, 1) := by decide +kernel
theorem tL_1051 : decode code 1051 = .ok (.iaload, 1) := by decide +kernel
theorem tL_1052 : decode code 1052 = .ok (.invokevirtual 169, 3) := by decide +kernel
theorem tL_1055 : decode code 1055 = .ok (.if_icmp .eq 325, 3) := by decide +kernel
theorem tL_1058 : decode code 1058 = .ok (.iconst 0, 1) := by decide +kernel
theorem tL_1059 : decode code 1059 = .ok (.ireturn, 1) := by decide +kernel
theorem tL_1060 : decode code 1060 = .ok (.aload_n 1, 1) := by decide +kernel
theorem tL_1061 : decode code 1061 = .ok (.invokevirtual 170, 3) := by decide +kernel
theorem tL_1064 : decode code 1064 = .ok (.aload_n 2, 1) := by decide +kernel
theorem tL_1065 : decode code 1065 = .ok (.invokevirtual 173, 3) := by decide +kernel
theorem tL_1068 : decode code 1068 = .ok (.if_icmp .eq 312, 3) := by decide +kernel
theorem tL_1071 : decode code 1071 = .ok (.iconst 0, 1) := by decide +kernel
theorem tL_1072 : decode code 1072 = .ok (.ireturn, 1) := by decide +kernel
theorem tL_1073 : decode code 1073 = .ok (.aload_n 1, 1) := by decide +kernel
theorem tL_1074 : decode code 1074 = .ok (.invokevirtual 174, 3) := by decide +kernel
theorem tL_1077 : decode code 1077 = .ok (.aload_n 2, 1) := by decide +kernel
theorem tL_1078 : decode code 1078 = .ok (.invokevirtual 177, 3) := by decide +kernel
theorem tL_1081 : decode code 1081 = .ok (.if_icmp .eq 299, 3) := by decide +kernel
theorem tL_1084 : decode code 1084 = .ok (.iconst 0, 1) := by decide +kernel
theorem tL_1085 : decode code 1085 = .ok (.ireturn, 1) := by decide +kernel
theorem tL_1086 : decode code 1086 = .ok (.aload_n 1, 1) := by decide +kernel
theorem tL_1087 : decode code 1087 = .ok (.invokevirtual 178, 3) := by decide +kernel
theorem tL_1090 : decode code 1090 = .ok (.aload_n 2, 1) := by decide +kernel
theorem tL_1091 : decode code 1091 = .ok (.invokevirtual 181, 3) := by decide +kernel
theorem tL_1094 : decode code 1094 = .ok (.if_icmp .eq 286, 3) := by decide +kernel
theorem tL_1097 : decode code 1097 = .ok (.iconst 0, 1) := by decide +kernel
theorem tL_1098 : decode code 1098 = .ok (.ireturn, 1) := by decide +kernel
theorem tL_1099 : decode code 1099 = .ok (.aload_n 1, 1) := by decide +kernel
theorem tL_1100 : decode code 1100 = .ok (.aload_n 0, 1) := by decide +kernel
theorem tL_1101 : decode code 1101 = .ok (.iload 4, 2) := by decide +kernel
theorem tL_1103 : decode code 1103 = .ok (.iconst 1, 1) := by decide +kernel
theorem tL_1104 : decode code 1104 = .ok (.iadd, 1) := by decide +kernel
theorem tL_1105 : decode code 1105 = .ok (.iaload, 1) := by decide +kernel
theorem tL_1106 : decode code 1106 = .ok (.aload_n 0, 1) := by decide +kernel
theorem tL_1107 : decode code 1107 = .ok (.iload 4, 2) := by decide +kernel
theorem tL_1109 : decode code 1109 = .ok (.iconst 2, 1) := by decide +kernel
theorem tL_1110 : decode code 1110 = .ok (.iadd, 1) := by decide +kernel
theorem tL_1111 : decode code 1111 = .ok (.iaload, 1) := by decide +kernel
theorem tL_1112 : decode code 1112 = .ok (.invokevirtual 182, 3) := by decide +kernel
theorem tL_1115 : decode code 1115 = .ok (.aload_n 2, 1) := by decide +kernel
theorem tL_1116 : decode code 1116 = .ok (.aload_n 0, 1) := by decide +kernel
theorem tL_1117 : decode code 1117 = .ok (.iload 4, 2) := by decide +kernel
theorem tL_1119 : decode code 1119 = .ok (.iconst 1, 1) := by decide +kernel
theorem tL_1120 : decode code 1120 = .ok (.iadd, 1) := by decide +kernel
theorem tL_1121 : decode code 1121 = .ok (.iaload, 1) := by decide +kernel
theorem tL_1122 : decode code 1122 = .ok (.aload_n 0, 1) := by decide +kernel
theorem tL_1123 : decode code 1123 = .ok (.iload 4, 2) := by decide +kernel
theorem tL_1125 : decode code 1125 = .ok (.iconst 2, 1) := by decide +kernel
theorem tL_1126 : decode code 1126 = .ok (.iadd, 1) := by decide +kernel
theorem tL_1127 : decode code 1127 = .ok (.iaload, 1) := by decide +kernel
theorem tL_1128 : decode code 1128 = .ok (.invokevirtual 185, 3) := by decide +kernel
theorem tL_1131 : decode code 1131 = .ok (.if_icmp .eq 249, 3) := by decide +kernel
theorem tL_1134 : decode code 1134 = .ok (.iconst 0, 1) := by decide +kernel
theorem tL_1135 : decode code 1135 = .ok (.ireturn, 1) := by decide +kernel
theorem tL_1136 : decode code 1136 = .ok (.aload_n 1, 1) := by decide +kernel
theorem tL_1137 : decode code 1137 = .ok (.invokevirtual 186, 3) := by decide +kernel
theorem tL_1140 : decode code 1140 = .ok (.aload_n 2, 1) := by decide +kernel
theorem tL_1141 : decode code 1141 = .ok (.invokevirtual 189, 3) := by decide +kernel
theorem tL_1144 : decode code 1144 = .ok (.if_icmp .eq 236, 3) := by decide +kernel
theorem tL_1147 : decode code 1147 = .ok (.iconst 0, 1) := by decide +kernel
theorem tL_1148 : decode code 1148 = .ok (.ireturn, 1) := by decide +kernel
theorem tL_1149 : decode code 1149 = .ok (.aload_n 1, 1) := by decide +kernel
theorem tL_1150 : decode code 1150 = .ok (.invokevirtual 190, 3) := by decide +kernel
theorem tL_1153 : decode code 1153 = .ok (.aload_n 2, 1) := by decide +kernel
theorem tL_1154 : decode code 1154 = .ok (.invokevirtual 193, 3) := by decide +kernel
theorem tL_1157 : decode code 1157 = .ok (.if_icmp .eq 223, 3) := by decide +kernel
theorem tL_1160 : decode code 1160 = .ok (.iconst 0, 1) := by decide +kernel
theorem tL_1161 : decode code 1161 = .ok (.ireturn, 1) := by decide +kernel
theorem tL_1162 : decode code 1162 = .ok (.aload_n 1, 1) := by decide +kernel
theorem tL_1163 : decode code 1163 = .ok (.invokevirtual 194, 3) := by decide +kernel
theorem tL_1166 : decode code 1166 = .ok (.aload_n 2, 1) := by decide +kernel
theorem tL_1167 : decode code 1167 = .ok (.invokevirtual 197, 3) := by decide +kernel
theorem tL_1170 : decode code 1170 = .ok (.if_icmp .eq 210, 3) := by decide +kernel
theorem tL_1173 : decode code 1173 = .ok (.iconst 0, 1) := by decide +kernel
theorem tL_1174 : decode code 1174 = .ok (.ireturn, 1) := by decide +kernel
theorem tL_1175 : decode code 1175 = .ok (.aload_n 1, 1) := by decide +kernel
theorem tL_1176 : decode code 1176 = .ok (.aload_n 0, 1) := by decide +kernel
theorem tL_1177 : decode code 1177 = .ok (.iload 4, 2) := by decide +kernel
theorem tL_1179 : decode code 1179 = .ok (.iconst 1, 1) := by decide +kernel
theorem tL_1180 : decode code 1180 = .ok (.iadd, 1) := by decide +kernel
theorem tL_1181 : decode code 1181 = .ok (.iaload, 1) := by decide +kernel
theorem tL_1182 : decode code 1182 = .ok (.invokevirtual 198, 3) := by decide +kernel
theorem tL_1185 : decode code 1185 = .ok (.aload_n 2, 1) := by decide +kernel
theorem tL_1186 : decode code 1186 = .ok (.aload_n 0, 1) := by decide +kernel
theorem tL_1187 : decode code 1187 = .ok (.iload 4, 2) := by decide +kernel
theorem tL_1189 : decode code 1189 = .ok (.iconst 1, 1) := by decide +kernel
theorem tL_1190 : decode code 1190 = .ok (.iadd, 1) := by decide +kernel
theorem tL_1191 : decode code 1191 = .ok (.iaload, 1) := by decide +kernel
theorem tL_1192 : decode code 1192 = .ok (.invokevirtual 201, 3) := by decide +kernel
theorem tL_1195 : decode code 1195 = .ok (.if_icmp .eq 185, 3) := by decide +kernel
theorem tL_1198 : decode code 1198 = .ok (.iconst 0, 1) := by decide +kernel
theorem tL_1199 : decode code 1199 = .ok (.ireturn, 1) := by decide +kernel
theorem tL_1200 : decode code 1200 = .ok (.aload_n 1, 1) := by decide +kernel
theorem tL_1201 : decode code 1201 = .ok (.invokevirtual 202, 3) := by decide +kernel
theorem tL_1204 : decode code 1204 = .ok (.aload_n 2, 1) := by decide +kernel
theorem tL_1205 : decode code 1205 = .ok (.invokevirtual 205, 3) := by decide +kernel
theorem tL_1208 : decode code 1208 = .ok (.if_icmp .eq 172, 3) := by decide +kernel
theorem tL_1211 : decode code 1211 = .ok (.iconst 0, 1) := by decide +kernel
theorem tL_1212 : decode code 1212 = .ok (.ireturn, 1) := by decide +kernel
theorem tL_1213 : decode code 1213 = .ok (.aload_n 1, 1) := by decide +kernel
theorem tL_1214 : decode code 1214 = .ok (.aload_n 0, 1) := by decide +kernel
theorem tL_1215 : decode code 1215 = .ok (.iload 4, 2) := by decide +kernel
theorem tL_1217 : decode code 1217 = .ok (.iconst 1, 1) := by decide +kernel
theorem tL_1218 : decode code 1218 = .ok (.iadd, 1) := by decide +kernel
theorem tL_1219 : decode code 1219 = .ok (.iaload, 1) := by decide +kernel
theorem tL_1220 : decode code 1220 = .ok (.aload_n 0, 1) := by decide +kernel
theorem tL_1221 : decode code 1221 = .ok (.iload 4, 2) := by decide +kernel
theorem tL_1223 : decode code 1223 = .ok (.iconst 2, 1) := by decide +kernel
theorem tL_1224 : decode code 1224 = .ok (.iadd, 1) := by decide +kernel
theorem tL_1225 : decode code 1225 = .ok (.iaload, 1) := by decide +kernel
theorem tL_1226 : decode code 1226 = .ok (.invokevirtual 206, 3) := by decide +kernel
theorem tL_1229 : decode code 1229 = .ok (.aload_n 2, 1) := by decide +kernel
theorem tL_1230 : decode code 1230 = .ok (.aload_n 0, 1) := by decide +kernel
theorem tL_1231 : decode code 1231 = .ok (.iload 4, 2) := by decide +kernel
theorem tL_1233 : decode code 1233 = .ok (.iconst 1, 1) := by decide +kernel
theorem tL_1234 : decode code 1234 = .ok (.iadd, 1) := by decide +kernel
theorem tL_1235 : decode code 1235 = .ok (.iaload, 1) := by decide +kernel
theorem tL_1236 : decode code 1236 = .ok (.aload_n 0, 1) := by decide +kernel
theorem tL_1237 : decode code 1237 = .ok (.iload 4, 2) := by decide +kernel
theorem tL_1239 : decode code 1239 = .ok (.iconst 2, 1) := by decide +kernel
theorem tL_1240 : decode code 1240 = .ok (.iadd, 1) := by decide +kernel
theorem tL_1241 : decode code 1241 = .ok (.iaload, 1) := by decide +kernel
theorem tL_1242 : decode code 1242 = .ok (.invokevirtual 209, 3) := by decide +kernel
theorem tL_1245 : decode code 1245 = .ok (.if_icmp .eq 135, 3) := by decide +kernel
theorem tL_1248 : decode code 1248 = .ok (.iconst 0, 1) := by decide +kernel
theorem tL_1249 : decode code 1249 = .ok (.ireturn, 1) := by decide +kernel
theorem tL_1250 : decode code 1250 = .ok (.aload_n 1, 1) := by decide +kernel
theorem tL_1251 : decode code 1251 = .ok (.aload_n 0, 1) := by decide +kernel
theorem tL_1252 : decode code 1252 = .ok (.iload 4, 2) := by decide +kernel
theorem tL_1254 : decode code 1254 = .ok (.iconst 1, 1) := by decide +kernel
theorem tL_1255 : decode code 1255 = .ok (.iadd, 1) := by decide +kernel
theorem tL_1256 : decode code 1256 = .ok (.iaload, 1) := by decide +kernel
theorem tL_1257 : decode code 1257 = .ok (.invokevirtual 210, 3) := by decide +kernel
theorem tL_1260 : decode code 1260 = .ok (.aload_n 2, 1) := by decide +kernel
theorem tL_1261 : decode code 1261 = .ok (.aload_n 0, 1) := by decide +kernel
theorem tL_1262 : decode code 1262 = .ok (.iload 4, 2) := by decide +kernel
theorem tL_1264 : decode code 1264 = .ok (.iconst 1, 1) := by decide +kernel
theorem tL_1265 : decode code 1265 = .ok (.iadd, 1) := by decide +kernel
theorem tL_1266 : decode code 1266 = .ok (.iaload, 1) := by decide +kernel
theorem tL_1267 : decode code 1267 = .ok (.invokevirtual 213, 3) := by decide +kernel
theorem tL_1270 : decode code 1270 = .ok (.if_icmp .eq 110, 3) := by decide +kernel
theorem tL_1273 : decode code 1273 = .ok (.iconst 0, 1) := by decide +kernel
theorem tL_1274 : decode code 1274 = .ok (.ireturn, 1) := by decide +kernel
theorem tL_1275 : decode code 1275 = .ok (.aload_n 1, 1) := by decide +kernel
theorem tL_1276 : decode code 1276 = .ok (.aload_n 0, 1) := by decide +kernel
theorem tL_1277 : decode code 1277 = .ok (.iload 4, 2) := by decide +kernel
theorem tL_1279 : decode code 1279 = .ok (.iconst 1, 1) := by decide +kernel
theorem tL_1280 : decode code 1280 = .ok (.iadd, 1) := by decide +kernel
theorem tL_1281 : decode code 1281 = .ok (.iaload, 1) := by decide +kernel
theorem tL_1282 : decode code 1282 = .ok (.invokevirtual 214, 3) := by decide +kernel
theorem tL_1285 : decode code 1285 = .ok (.aload_n 2, 1) := by decide +kernel
theorem tL_1286 : decode code 1286 = .ok (.aload_n 0, 1) := by decide +kernel
theorem tL_1287 : decode code 1287 = .ok (.iload 4, 2) := by decide +kernel
theorem tL_1289 : decode code 1289 = .ok (.iconst 1, 1) := by decide +kernel
theorem tL_1290 : decode code 1290 = .ok (.iadd, 1) := by decide +kernel
theorem tL_1291 : decode code 1291 = .ok (.iaload, 1) := by decide +kernel
theorem tL_1292 : decode code 1292 = .ok (.invokevirtual 217, 3) := by decide +kernel
theorem tL_1295 : decode code 1295 = .ok (.if_icmp .eq 85, 3) := by decide +kernel
theorem tL_1298 : decode code 1298 = .ok (.iconst 0, 1) := by decide +kernel
theorem tL_1299 : decode code 1299 = .ok (.ireturn, 1) := by decide +kernel
theorem tL_1300 : decode code 1300 = .ok (.aload_n 1, 1) := by decide +kernel
theorem tL_1301 : decode code 1301 = .ok (.aload_n 0, 1) := by decide +kernel
theorem tL_1302 : decode code 1302 = .ok (.iload 4, 2) := by decide +kernel
theorem tL_1304 : decode code 1304 = .ok (.iconst 1, 1) := by decide +kernel
theorem tL_1305 : decode code 1305 = .ok (.iadd, 1) := by decide +kernel
theorem tL_1306 : decode code 1306 = .ok (.iaload, 1) := by decide +kernel
theorem tL_1307 : decode code 1307 = .ok (.invokevirtual 218, 3) := by decide +kernel
theorem tL_1310 : decode code 1310 = .ok (.aload_n 2, 1) := by decide +kernel
theorem tL_1311 : decode code 1311 = .ok (.aload_n 0, 1) := by decide +kernel
theorem tL_1312 : decode code 1312 = .ok (.iload 4, 2) := by decide +kernel
theorem tL_1314 : decode code 1314 = .ok (.iconst 1, 1) := by decide +kernel
theorem tL_1315 : decode code 1315 = .ok (.iadd, 1) := by decide +kernel
theorem tL_1316 : decode code 1316 = .ok (.iaload, 1) := by decide +kernel
theorem tL_1317 : decode code 1317 = .ok (.invokevirtual 221, 3) := by decide +kernel
theorem tL_1320 : decode code 1320 = .ok (.if_icmp .eq 60, 3) := by decide +kernel
theorem tL_1323 : decode code 1323 = .ok (.iconst 0, 1) := by decide +kernel
theorem tL_1324 : decode code 1324 = .ok (.ireturn, 1) := by decide +kernel
theorem tL_1325 : decode code 1325 = .ok (.aload_n 1, 1) := by decide +kernel
theorem tL_1326 : decode code 1326 = .ok (.aload_n 0, 1) := by decide +kernel
theorem tL_1327 : decode code 1327 = .ok (.iload 4, 2) := by decide +kernel
theorem tL_1329 : decode code 1329 = .ok (.iconst 1, 1) := by decide +kernel
theorem tL_1330 : decode code 1330 = .ok (.iadd, 1) := by decide +kernel
theorem tL_1331 : decode code 1331 = .ok (.iaload, 1) := by decide +kernel
theorem tL_1332 : decode code 1332 = .ok (.aload_n 3, 1) := by decide +kernel
theorem tL_1333 : decode code 1333 = .ok (.invokestatic 222, 3) := by decide +kernel
theorem tL_1336 : decode code 1336 = .ok (.istore 5, 2) := by decide +kernel
theorem tL_1338 : decode code 1338 = .ok (.aload_n 2, 1) := by decide +kernel
theorem tL_1339 : decode code 1339 = .ok (.aload_n 0, 1) := by decide +kernel
theorem tL_1340 : decode code 1340 = .ok (.iload 4, 2) := by decide +kernel
theorem tL_1342 : decode code 1342 = .ok (.iconst 1, 1) := by decide +kernel
theorem tL_1343 : decode code 1343 = .ok (.iadd, 1) := by decide +kernel
theorem tL_1344 : decode code 1344 = .ok (.iaload, 1) := by decide +kernel
theorem tL_1345 : decode code 1345 = .ok (.invokevirtual 224, 3) := by decide +kernel
theorem tL_1348 : decode code 1348 = .ok (.lstore 6, 2) := by decide +kernel
theorem tL_1350 : decode code 1350 = .ok (.aload_n 2, 1) := by decide +kernel
theorem tL_1351 : decode code 1351 = .ok (.invokevirtual 54, 3) := by decide +kernel
theorem tL_1354 : decode code 1354 = .ok (.iload 5, 2) := by decide +kernel
theorem tL_1356 : decode code 1356 = .ok (.if_icmp .eq 5, 3) := by decide +kernel
theorem tL_1359 : decode code 1359 = .ok (.iconst 0, 1) := by decide +kernel
theorem tL_1360 : decode code 1360 = .ok (.ireturn, 1) := by decide +kernel
theorem tL_1361 : decode code 1361 = .ok (.iload 5, 2) := by decide +kernel
theorem tL_1363 : decode code 1363 = .ok (.ifCond .ne 14, 3) := by decide +kernel
theorem tL_1366 : decode code 1366 = .ok (.aload_n 3, 1) := by decide +kernel
theorem tL_1367 : decode code 1367 = .ok (.iconst 0, 1) := by decide +kernel
theorem tL_1368 : decode code 1368 = .ok (.laload, 1) := by decide +kernel
theorem tL_1369 : decode code 1369 = .ok (.lload 6, 2) := by decide +kernel
theorem tL_1371 : decode code 1371 = .ok (.lcmp, 1) := by decide +kernel
theorem tL_1372 : decode code 1372 = .ok (.ifCond .eq 5, 3) := by decide +kernel
theorem tL_1375 : decode code 1375 = .ok (.iconst 0, 1) := by decide +kernel
theorem tL_1376 : decode code 1376 = .ok (.ireturn, 1) := by decide +kernel
theorem tL_1377 : decode code 1377 = .ok (.goto 3, 3) := by decide +kernel
theorem tL_1380 : decode code 1380 = .ok (.iinc 4 5, 3) := by decide +kernel
theorem tL_1383 : decode code 1383 = .ok (.goto ((-1360)), 3) := by decide +kernel
theorem tL_1386 : decode code 1386 = .ok (.iconst 1, 1) := by decide +kernel
theorem tL_1387 : decode code 1387 = .ok (.ireturn, 1) := by decide +kernel
