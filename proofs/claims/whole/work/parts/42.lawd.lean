theorem dL_law__860 : decode cL_law_ 860 = .ok (.iaload, 1) := by decide +kernel
theorem dL_law__861 : decode cL_law_ 861 = .ok (.aload_n 0, 1) := by decide +kernel
theorem dL_law__862 : decode cL_law_ 862 = .ok (.iload 4, 2) := by decide +kernel
theorem dL_law__864 : decode cL_law_ 864 = .ok (.iconst 3, 1) := by decide +kernel
theorem dL_law__865 : decode cL_law_ 865 = .ok (.iadd, 1) := by decide +kernel
theorem dL_law__866 : decode cL_law_ 866 = .ok (.iaload, 1) := by decide +kernel
theorem dL_law__867 : decode cL_law_ 867 = .ok (.invokevirtual 181, 3) := by decide +kernel
theorem dL_law__870 : decode cL_law_ 870 = .ok (.istore 6, 2) := by decide +kernel
theorem dL_law__872 : decode cL_law_ 872 = .ok (.aload_n 2, 1) := by decide +kernel
theorem dL_law__873 : decode cL_law_ 873 = .ok (.invokevirtual 150, 3) := by decide +kernel
theorem dL_law__876 : decode cL_law_ 876 = .ok (.iload 5, 2) := by decide +kernel
theorem dL_law__878 : decode cL_law_ 878 = .ok (.if_icmp .eq 5, 3) := by decide +kernel
theorem dL_law__881 : decode cL_law_ 881 = .ok (.iconst 0, 1) := by decide +kernel
theorem dL_law__882 : decode cL_law_ 882 = .ok (.ireturn, 1) := by decide +kernel
theorem dL_law__883 : decode cL_law_ 883 = .ok (.iload 5, 2) := by decide +kernel
theorem dL_law__885 : decode cL_law_ 885 = .ok (.ifCond .ne 15, 3) := by decide +kernel
theorem dL_law__888 : decode cL_law_ 888 = .ok (.aload_n 3, 1) := by decide +kernel
theorem dL_law__889 : decode cL_law_ 889 = .ok (.iconst 0, 1) := by decide +kernel
theorem dL_law__890 : decode cL_law_ 890 = .ok (.laload, 1) := by decide +kernel
theorem dL_law__891 : decode cL_law_ 891 = .ok (.iload 6, 2) := by decide +kernel
theorem dL_law__893 : decode cL_law_ 893 = .ok (.i2l, 1) := by decide +kernel
theorem dL_law__894 : decode cL_law_ 894 = .ok (.lcmp, 1) := by decide +kernel
theorem dL_law__895 : decode cL_law_ 895 = .ok (.ifCond .eq 5, 3) := by decide +kernel
theorem dL_law__898 : decode cL_law_ 898 = .ok (.iconst 0, 1) := by decide +kernel
theorem dL_law__899 : decode cL_law_ 899 = .ok (.ireturn, 1) := by decide +kernel
theorem dL_law__900 : decode cL_law_ 900 = .ok (.goto 1899, 3) := by decide +kernel
theorem dL_law__903 : decode cL_law_ 903 = .ok (.aload_n 1, 1) := by decide +kernel
theorem dL_law__904 : decode cL_law_ 904 = .ok (.aload_n 0, 1) := by decide +kernel
theorem dL_law__905 : decode cL_law_ 905 = .ok (.iload 4, 2) := by decide +kernel
theorem dL_law__907 : decode cL_law_ 907 = .ok (.iconst 1, 1) := by decide +kernel
theorem dL_law__908 : decode cL_law_ 908 = .ok (.iadd, 1) := by decide +kernel
theorem dL_law__909 : decode cL_law_ 909 = .ok (.iaload, 1) := by decide +kernel
theorem dL_law__910 : decode cL_law_ 910 = .ok (.aload_n 0, 1) := by decide +kernel
theorem dL_law__911 : decode cL_law_ 911 = .ok (.iload 4, 2) := by decide +kernel
theorem dL_law__913 : decode cL_law_ 913 = .ok (.iconst 2, 1) := by decide +kernel
theorem dL_law__914 : decode cL_law_ 914 = .ok (.iadd, 1) := by decide +kernel
theorem dL_law__915 : decode cL_law_ 915 = .ok (.iaload, 1) := by decide +kernel
theorem dL_law__916 : decode cL_law_ 916 = .ok (.aload_n 3, 1) := by decide +kernel
theorem dL_law__917 : decode cL_law_ 917 = .ok (.invokestatic 182, 3) := by decide +kernel
theorem dL_law__920 : decode cL_law_ 920 = .ok (.istore 5, 2) := by decide +kernel
theorem dL_law__922 : decode cL_law_ 922 = .ok (.aload_n 2, 1) := by decide +kernel
theorem dL_law__923 : decode cL_law_ 923 = .ok (.aload_n 0, 1) := by decide +kernel
theorem dL_law__924 : decode cL_law_ 924 = .ok (.iload 4, 2) := by decide +kernel
theorem dL_law__926 : decode cL_law_ 926 = .ok (.iconst 1, 1) := by decide +kernel
theorem dL_law__927 : decode cL_law_ 927 = .ok (.iadd, 1) := by decide +kernel
theorem dL_law__928 : decode cL_law_ 928 = .ok (.iaload, 1) := by decide +kernel
theorem dL_law__929 : decode cL_law_ 929 = .ok (.aload_n 0, 1) := by decide +kernel
theorem dL_law__930 : decode cL_law_ 930 = .ok (.iload 4, 2) := by decide +kernel
theorem dL_law__932 : decode cL_law_ 932 = .ok (.iconst 2, 1) := by decide +kernel
theorem dL_law__933 : decode cL_law_ 933 = .ok (.iadd, 1) := by decide +kernel
theorem dL_law__934 : decode cL_law_ 934 = .ok (.iaload, 1) := by decide +kernel
theorem dL_law__935 : decode cL_law_ 935 = .ok (.invokevirtual 184, 3) := by decide +kernel
theorem dL_law__938 : decode cL_law_ 938 = .ok (.istore 6, 2) := by decide +kernel
theorem dL_law__940 : decode cL_law_ 940 = .ok (.aload_n 2, 1) := by decide +kernel
theorem dL_law__941 : decode cL_law_ 941 = .ok (.invokevirtual 150, 3) := by decide +kernel
theorem dL_law__944 : decode cL_law_ 944 = .ok (.iload 5, 2) := by decide +kernel
theorem dL_law__946 : decode cL_law_ 946 = .ok (.if_icmp .eq 5, 3) := by decide +kernel
theorem dL_law__949 : decode cL_law_ 949 = .ok (.iconst 0, 1) := by decide +kernel
theorem dL_law__950 : decode cL_law_ 950 = .ok (.ireturn, 1) := by decide +kernel
theorem dL_law__951 : decode cL_law_ 951 = .ok (.iload 5, 2) := by decide +kernel
theorem dL_law__953 : decode cL_law_ 953 = .ok (.ifCond .ne 15, 3) := by decide +kernel
theorem dL_law__956 : decode cL_law_ 956 = .ok (.aload_n 3, 1) := by decide +kernel
theorem dL_law__957 : decode cL_law_ 957 = .ok (.iconst 0, 1) := by decide +kernel
theorem dL_law__958 : decode cL_law_ 958 = .ok (.laload, 1) := by decide +kernel
theorem dL_law__959 : decode cL_law_ 959 = .ok (.iload 6, 2) := by decide +kernel
theorem dL_law__961 : decode cL_law_ 961 = .ok (.i2l, 1) := by decide +kernel
theorem dL_law__962 : decode cL_law_ 962 = .ok (.lcmp, 1) := by decide +kernel
theorem dL_law__963 : decode cL_law_ 963 = .ok (.ifCond .eq 5, 3) := by decide +kernel
theorem dL_law__966 : decode cL_law_ 966 = .ok (.iconst 0, 1) := by decide +kernel
theorem dL_law__967 : decode cL_law_ 967 = .ok (.ireturn, 1) := by decide +kernel
theorem dL_law__968 : decode cL_law_ 968 = .ok (.goto 1831, 3) := by decide +kernel
theorem dL_law__971 : decode cL_law_ 971 = .ok (.aload_n 1, 1) := by decide +kernel
theorem dL_law__972 : decode cL_law_ 972 = .ok (.aload_n 0, 1) := by decide +kernel
theorem dL_law__973 : decode cL_law_ 973 = .ok (.iload 4, 2) := by decide +kernel
theorem dL_law__975 : decode cL_law_ 975 = .ok (.iconst 1, 1) := by decide +kernel
theorem dL_law__976 : decode cL_law_ 976 = .ok (.iadd, 1) := by decide +kernel
theorem dL_law__977 : decode cL_law_ 977 = .ok (.iaload, 1) := by decide +kernel
theorem dL_law__978 : decode cL_law_ 978 = .ok (.aload_n 3, 1) := by decide +kernel
theorem dL_law__979 : decode cL_law_ 979 = .ok (.invokestatic 185, 3) := by decide +kernel
theorem dL_law__982 : decode cL_law_ 982 = .ok (.istore 5, 2) := by decide +kernel
theorem dL_law__984 : decode cL_law_ 984 = .ok (.aload_n 2, 1) := by decide +kernel
theorem dL_law__985 : decode cL_law_ 985 = .ok (.aload_n 0, 1) := by decide +kernel
theorem dL_law__986 : decode cL_law_ 986 = .ok (.iload 4, 2) := by decide +kernel
theorem dL_law__988 : decode cL_law_ 988 = .ok (.iconst 1, 1) := by decide +kernel
theorem dL_law__989 : decode cL_law_ 989 = .ok (.iadd, 1) := by decide +kernel
theorem dL_law__990 : decode cL_law_ 990 = .ok (.iaload, 1) := by decide +kernel
theorem dL_law__991 : decode cL_law_ 991 = .ok (.invokevirtual 187, 3) := by decide +kernel
theorem dL_law__994 : decode cL_law_ 994 = .ok (.istore 6, 2) := by decide +kernel
theorem dL_law__996 : decode cL_law_ 996 = .ok (.aload_n 2, 1) := by decide +kernel
theorem dL_law__997 : decode cL_law_ 997 = .ok (.invokevirtual 150, 3) := by decide +kernel
theorem dL_law__1000 : decode cL_law_ 1000 = .ok (.iload 5, 2) := by decide +kernel
theorem dL_law__1002 : decode cL_law_ 1002 = .ok (.if_icmp .eq 5, 3) := by decide +kernel
theorem dL_law__1005 : decode cL_law_ 1005 = .ok (.iconst 0, 1) := by decide +kernel
theorem dL_law__1006 : decode cL_law_ 1006 = .ok (.ireturn, 1) := by decide +kernel
theorem dL_law__1007 : decode cL_law_ 1007 = .ok (.iload 5, 2) := by decide +kernel
theorem dL_law__1009 : decode cL_law_ 1009 = .ok (.ifCond .ne 15, 3) := by decide +kernel
theorem dL_law__1012 : decode cL_law_ 1012 = .ok (.aload_n 3, 1) := by decide +kernel
theorem dL_law__1013 : decode cL_law_ 1013 = .ok (.iconst 0, 1) := by decide +kernel
theorem dL_law__1014 : decode cL_law_ 1014 = .ok (.laload, 1) := by decide +kernel
theorem dL_law__1015 : decode cL_law_ 1015 = .ok (.iload 6, 2) := by decide +kernel
theorem dL_law__1017 : decode cL_law_ 1017 = .ok (.i2l, 1) := by decide +kernel
theorem dL_law__1018 : decode cL_law_ 1018 = .ok (.lcmp, 1) := by decide +kernel
theorem dL_law__1019 : decode cL_law_ 1019 = .ok (.ifCond .eq 5, 3) := by decide +kernel
theorem dL_law__1022 : decode cL_law_ 1022 = .ok (.iconst 0, 1) := by decide +kernel
theorem dL_law__1023 : decode cL_law_ 1023 = .ok (.ireturn, 1) := by decide +kernel
theorem dL_law__1024 : decode cL_law_ 1024 = .ok (.goto 1775, 3) := by decide +kernel
theorem dL_law__1027 : decode cL_law_ 1027 = .ok (.aload_n 1, 1) := by decide +kernel
theorem dL_law__1028 : decode cL_law_ 1028 = .ok (.aload_n 0, 1) := by decide +kernel
theorem dL_law__1029 : decode cL_law_ 1029 = .ok (.iload 4, 2) := by decide +kernel
theorem dL_law__1031 : decode cL_law_ 1031 = .ok (.iconst 1, 1) := by decide +kernel
theorem dL_law__1032 : decode cL_law_ 1032 = .ok (.iadd, 1) := by decide +kernel
theorem dL_law__1033 : decode cL_law_ 1033 = .ok (.iaload, 1) := by decide +kernel
theorem dL_law__1034 : decode cL_law_ 1034 = .ok (.aload_n 0, 1) := by decide +kernel
theorem dL_law__1035 : decode cL_law_ 1035 = .ok (.iload 4, 2) := by decide +kernel
theorem dL_law__1037 : decode cL_law_ 1037 = .ok (.iconst 2, 1) := by decide +kernel
theorem dL_law__1038 : decode cL_law_ 1038 = .ok (.iadd, 1) := by decide +kernel
theorem dL_law__1039 : decode cL_law_ 1039 = .ok (.iaload, 1) := by decide +kernel
theorem dL_law__1040 : decode cL_law_ 1040 = .ok (.aload_n 3, 1) := by decide +kernel
theorem dL_law__1041 : decode cL_law_ 1041 = .ok (.invokestatic 188, 3) := by decide +kernel
theorem dL_law__1044 : decode cL_law_ 1044 = .ok (.istore 5, 2) := by decide +kernel
theorem dL_law__1046 : decode cL_law_ 1046 = .ok (.aload_n 2, 1) := by decide +kernel
theorem dL_law__1047 : decode cL_law_ 1047 = .ok (.aload_n 0, 1) := by decide +kernel
theorem dL_law__1048 : decode cL_law_ 1048 = .ok (.iload 4, 2) := by decide +kernel
theorem dL_law__1050 : decode cL_law_ 1050 = .ok (.iconst 1, 1) := by decide +kernel
theorem dL_law__1051 : decode cL_law_ 1051 = .ok (.iadd, 1) := by decide +kernel
theorem dL_law__1052 : decode cL_law_ 1052 = .ok (.iaload, 1) := by decide +kernel
theorem dL_law__1053 : decode cL_law_ 1053 = .ok (.aload_n 0, 1) := by decide +kernel
theorem dL_law__1054 : decode cL_law_ 1054 = .ok (.iload 4, 2) := by decide +kernel
theorem dL_law__1056 : decode cL_law_ 1056 = .ok (.iconst 2, 1) := by decide +kernel
theorem dL_law__1057 : decode cL_law_ 1057 = .ok (.iadd, 1) := by decide +kernel
theorem dL_law__1058 : decode cL_law_ 1058 = .ok (.iaload, 1) := by decide +kernel
theorem dL_law__1059 : decode cL_law_ 1059 = .ok (.invokevirtual 190, 3) := by decide +kernel
theorem dL_law__1062 : decode cL_law_ 1062 = .ok (.istore 6, 2) := by decide +kernel
theorem dL_law__1064 : decode cL_law_ 1064 = .ok (.aload_n 2, 1) := by decide +kernel
theorem dL_law__1065 : decode cL_law_ 1065 = .ok (.invokevirtual 150, 3) := by decide +kernel
theorem dL_law__1068 : decode cL_law_ 1068 = .ok (.iload 5, 2) := by decide +kernel
theorem dL_law__1070 : decode cL_law_ 1070 = .ok (.if_icmp .eq 5, 3) := by decide +kernel
theorem dL_law__1073 : decode cL_law_ 1073 = .ok (.iconst 0, 1) := by decide +kernel
theorem dL_law__1074 : decode cL_law_ 1074 = .ok (.ireturn, 1) := by decide +kernel
theorem dL_law__1075 : decode cL_law_ 1075 = .ok (.iload 5, 2) := by decide +kernel
theorem dL_law__1077 : decode cL_law_ 1077 = .ok (.ifCond .ne 15, 3) := by decide +kernel
theorem dL_law__1080 : decode cL_law_ 1080 = .ok (.aload_n 3, 1) := by decide +kernel
theorem dL_law__1081 : decode cL_law_ 1081 = .ok (.iconst 0, 1) := by decide +kernel
theorem dL_law__1082 : decode cL_law_ 1082 = .ok (.laload, 1) := by decide +kernel
theorem dL_law__1083 : decode cL_law_ 1083 = .ok (.iload 6, 2) := by decide +kernel
theorem dL_law__1085 : decode cL_law_ 1085 = .ok (.i2l, 1) := by decide +kernel
theorem dL_law__1086 : decode cL_law_ 1086 = .ok (.lcmp, 1) := by decide +kernel
theorem dL_law__1087 : decode cL_law_ 1087 = .ok (.ifCond .eq 5, 3) := by decide +kernel
theorem dL_law__1090 : decode cL_law_ 1090 = .ok (.iconst 0, 1) := by decide +kernel
theorem dL_law__1091 : decode cL_law_ 1091 = .ok (.ireturn, 1) := by decide +kernel
theorem dL_law__1092 : decode cL_law_ 1092 = .ok (.goto 1707, 3) := by decide +kernel
theorem dL_law__1095 : decode cL_law_ 1095 = .ok (.aload_n 1, 1) := by decide +kernel
theorem dL_law__1096 : decode cL_law_ 1096 = .ok (.aload_n 0, 1) := by decide +kernel
theorem dL_law__1097 : decode cL_law_ 1097 = .ok (.iload 4, 2) := by decide +kernel
theorem dL_law__1099 : decode cL_law_ 1099 = .ok (.iconst 1, 1) := by decide +kernel
theorem dL_law__1100 : decode cL_law_ 1100 = .ok (.iadd, 1) := by decide +kernel
theorem dL_law__1101 : decode cL_law_ 1101 = .ok (.iaload, 1) := by decide +kernel
theorem dL_law__1102 : decode cL_law_ 1102 = .ok (.aload_n 0, 1) := by decide +kernel
theorem dL_law__1103 : decode cL_law_ 1103 = .ok (.iload 4, 2) := by decide +kernel
theorem dL_law__1105 : decode cL_law_ 1105 = .ok (.iconst 2, 1) := by decide +kernel
theorem dL_law__1106 : decode cL_law_ 1106 = .ok (.iadd, 1) := by decide +kernel
theorem dL_law__1107 : decode cL_law_ 1107 = .ok (.iaload, 1) := by decide +kernel
theorem dL_law__1108 : decode cL_law_ 1108 = .ok (.aload_n 0, 1) := by decide +kernel
theorem dL_law__1109 : decode cL_law_ 1109 = .ok (.iload 4, 2) := by decide +kernel
theorem dL_law__1111 : decode cL_law_ 1111 = .ok (.iconst 3, 1) := by decide +kernel
theorem dL_law__1112 : decode cL_law_ 1112 = .ok (.iadd, 1) := by decide +kernel
theorem dL_law__1113 : decode cL_law_ 1113 = .ok (.iaload, 1) := by decide +kernel
theorem dL_law__1114 : decode cL_law_ 1114 = .ok (.ifCond .eq 7, 3) := by decide +kernel
theorem dL_law__1117 : decode cL_law_ 1117 = .ok (.iconst 1, 1) := by decide +kernel
theorem dL_law__1118 : decode cL_law_ 1118 = .ok (.goto 4, 3) := by decide +kernel
theorem dL_law__1121 : decode cL_law_ 1121 = .ok (.iconst 0, 1) := by decide +kernel
theorem dL_law__1122 : decode cL_law_ 1122 = .ok (.aload_n 3, 1) := by decide +kernel
theorem dL_law__1123 : decode cL_law_ 1123 = .ok (.invokestatic 191, 3) := by decide +kernel
theorem dL_law__1126 : decode cL_law_ 1126 = .ok (.istore 5, 2) := by decide +kernel
theorem dL_law__1128 : decode cL_law_ 1128 = .ok (.aload_n 2, 1) := by decide +kernel
theorem dL_law__1129 : decode cL_law_ 1129 = .ok (.aload_n 0, 1) := by decide +kernel
theorem dL_law__1130 : decode cL_law_ 1130 = .ok (.iload 4, 2) := by decide +kernel
theorem dL_law__1132 : decode cL_law_ 1132 = .ok (.iconst 1, 1) := by decide +kernel
theorem dL_law__1133 : decode cL_law_ 1133 = .ok (.iadd, 1) := by decide +kernel
theorem dL_law__1134 : decode cL_law_ 1134 = .ok (.iaload, 1) := by decide +kernel
theorem dL_law__1135 : decode cL_law_ 1135 = .ok (.aload_n 0, 1) := by decide +kernel
theorem dL_law__1136 : decode cL_law_ 1136 = .ok (.iload 4, 2) := by decide +kernel
theorem dL_law__1138 : decode cL_law_ 1138 = .ok (.iconst 2, 1) := by decide +kernel
theorem dL_law__1139 : decode cL_law_ 1139 = .ok (.iadd, 1) := by decide +kernel
theorem dL_law__1140 : decode cL_law_ 1140 = .ok (.iaload, 1) := by decide +kernel
theorem dL_law__1141 : decode cL_law_ 1141 = .ok (.aload_n 0, 1) := by decide +kernel
theorem dL_law__1142 : decode cL_law_ 1142 = .ok (.iload 4, 2) := by decide +kernel
theorem dL_law__1144 : decode cL_law_ 1144 = .ok (.iconst 3, 1) := by decide +kernel
theorem dL_law__1145 : decode cL_law_ 1145 = .ok (.iadd, 1) := by decide +kernel
theorem dL_law__1146 : decode cL_law_ 1146 = .ok (.iaload, 1) := by decide +kernel
theorem dL_law__1147 : decode cL_law_ 1147 = .ok (.ifCond .eq 7, 3) := by decide +kernel
theorem dL_law__1150 : decode cL_law_ 1150 = .ok (.iconst 1, 1) := by decide +kernel
theorem dL_law__1151 : decode cL_law_ 1151 = .ok (.goto 4, 3) := by decide +kernel
theorem dL_law__1154 : decode cL_law_ 1154 = .ok (.iconst 0, 1) := by decide +kernel
theorem dL_law__1155 : decode cL_law_ 1155 = .ok (.invokevirtual 194, 3) := by decide +kernel
theorem dL_law__1158 : decode cL_law_ 1158 = .ok (.istore 6, 2) := by decide +kernel
theorem dL_law__1160 : decode cL_law_ 1160 = .ok (.aload_n 2, 1) := by decide +kernel
theorem dL_law__1161 : decode cL_law_ 1161 = .ok (.invokevirtual 150, 3) := by decide +kernel
theorem dL_law__1164 : decode cL_law_ 1164 = .ok (.iload 5, 2) := by decide +kernel
theorem dL_law__1166 : decode cL_law_ 1166 = .ok (.if_icmp .eq 5, 3) := by decide +kernel
theorem dL_law__1169 : decode cL_law_ 1169 = .ok (.iconst 0, 1) := by decide +kernel
theorem dL_law__1170 : decode cL_law_ 1170 = .ok (.ireturn, 1) := by decide +kernel
theorem dL_law__1171 : decode cL_law_ 1171 = .ok (.iload 5, 2) := by decide +kernel
theorem dL_law__1173 : decode cL_law_ 1173 = .ok (.ifCond .ne 22, 3) := by decide +kernel
theorem dL_law__1176 : decode cL_law_ 1176 = .ok (.aload_n 3, 1) := by decide +kernel
theorem dL_law__1177 : decode cL_law_ 1177 = .ok (.iconst 0, 1) := by decide +kernel
theorem dL_law__1178 : decode cL_law_ 1178 = .ok (.laload, 1) := by decide +kernel
theorem dL_law__1179 : decode cL_law_ 1179 = .ok (.iload 6, 2) := by decide +kernel
theorem dL_law__1181 : decode cL_law_ 1181 = .ok (.ifCond .eq 7, 3) := by decide +kernel
theorem dL_law__1184 : decode cL_law_ 1184 = .ok (.lconst 1, 1) := by decide +kernel
theorem dL_law__1185 : decode cL_law_ 1185 = .ok (.goto 4, 3) := by decide +kernel
theorem dL_law__1188 : decode cL_law_ 1188 = .ok (.lconst 0, 1) := by decide +kernel
theorem dL_law__1189 : decode cL_law_ 1189 = .ok (.lcmp, 1) := by decide +kernel
theorem dL_law__1190 : decode cL_law_ 1190 = .ok (.ifCond .eq 5, 3) := by decide +kernel
theorem dL_law__1193 : decode cL_law_ 1193 = .ok (.iconst 0, 1) := by decide +kernel
theorem dL_law__1194 : decode cL_law_ 1194 = .ok (.ireturn, 1) := by decide +kernel
theorem dL_law__1195 : decode cL_law_ 1195 = .ok (.goto 1604, 3) := by decide +kernel
theorem dL_law__1198 : decode cL_law_ 1198 = .ok (.aload_n 1, 1) := by decide +kernel
theorem dL_law__1199 : decode cL_law_ 1199 = .ok (.aload_n 0, 1) := by decide +kernel
theorem dL_law__1200 : decode cL_law_ 1200 = .ok (.iload 4, 2) := by decide +kernel
theorem dL_law__1202 : decode cL_law_ 1202 = .ok (.iconst 1, 1) := by decide +kernel
theorem dL_law__1203 : decode cL_law_ 1203 = .ok (.iadd, 1) := by decide +kernel
theorem dL_law__1204 : decode cL_law_ 1204 = .ok (.iaload, 1) := by decide +kernel
theorem dL_law__1205 : decode cL_law_ 1205 = .ok (.aload_n 3, 1) := by decide +kernel
theorem dL_law__1206 : decode cL_law_ 1206 = .ok (.invokestatic 195, 3) := by decide +kernel
theorem dL_law__1209 : decode cL_law_ 1209 = .ok (.istore 5, 2) := by decide +kernel
theorem dL_law__1211 : decode cL_law_ 1211 = .ok (.aload_n 2, 1) := by decide +kernel
theorem dL_law__1212 : decode cL_law_ 1212 = .ok (.aload_n 0, 1) := by decide +kernel
theorem dL_law__1213 : decode cL_law_ 1213 = .ok (.iload 4, 2) := by decide +kernel
theorem dL_law__1215 : decode cL_law_ 1215 = .ok (.iconst 1, 1) := by decide +kernel
theorem dL_law__1216 : decode cL_law_ 1216 = .ok (.iadd, 1) := by decide +kernel
theorem dL_law__1217 : decode cL_law_ 1217 = .ok (.iaload, 1) := by decide +kernel
theorem dL_law__1218 : decode cL_law_ 1218 = .ok (.invokevirtual 197, 3) := by decide +kernel
theorem dL_law__1221 : decode cL_law_ 1221 = .ok (.istore 6, 2) := by decide +kernel
theorem dL_law__1223 : decode cL_law_ 1223 = .ok (.aload_n 2, 1) := by decide +kernel
theorem dL_law__1224 : decode cL_law_ 1224 = .ok (.invokevirtual 150, 3) := by decide +kernel
theorem dL_law__1227 : decode cL_law_ 1227 = .ok (.iload 5, 2) := by decide +kernel
theorem dL_law__1229 : decode cL_law_ 1229 = .ok (.if_icmp .eq 5, 3) := by decide +kernel
theorem dL_law__1232 : decode cL_law_ 1232 = .ok (.iconst 0, 1) := by decide +kernel
theorem dL_law__1233 : decode cL_law_ 1233 = .ok (.ireturn, 1) := by decide +kernel
theorem dL_law__1234 : decode cL_law_ 1234 = .ok (.iload 5, 2) := by decide +kernel
theorem dL_law__1236 : decode cL_law_ 1236 = .ok (.ifCond .ne 15, 3) := by decide +kernel
theorem dL_law__1239 : decode cL_law_ 1239 = .ok (.aload_n 3, 1) := by decide +kernel
theorem dL_law__1240 : decode cL_law_ 1240 = .ok (.iconst 0, 1) := by decide +kernel
theorem dL_law__1241 : decode cL_law_ 1241 = .ok (.laload, 1) := by decide +kernel
theorem dL_law__1242 : decode cL_law_ 1242 = .ok (.iload 6, 2) := by decide +kernel
theorem dL_law__1244 : decode cL_law_ 1244 = .ok (.i2l, 1) := by decide +kernel
theorem dL_law__1245 : decode cL_law_ 1245 = .ok (.lcmp, 1) := by decide +kernel
theorem dL_law__1246 : decode cL_law_ 1246 = .ok (.ifCond .eq 5, 3) := by decide +kernel
theorem dL_law__1249 : decode cL_law_ 1249 = .ok (.iconst 0, 1) := by decide +kernel
theorem dL_law__1250 : decode cL_law_ 1250 = .ok (.ireturn, 1) := by decide +kernel
theorem dL_law__1251 : decode cL_law_ 1251 = .ok (.goto 1548, 3) := by decide +kernel
theorem dL_law__1254 : decode cL_law_ 1254 = .ok (.aload_n 1, 1) := by decide +kernel
theorem dL_law__1255 : decode cL_law_ 1255 = .ok (.aload_n 0, 1) := by decide +kernel
theorem dL_law__1256 : decode cL_law_ 1256 = .ok (.iload 4, 2) := by decide +kernel
theorem dL_law__1258 : decode cL_law_ 1258 = .ok (.iconst 1, 1) := by decide +kernel
theorem dL_law__1259 : decode cL_law_ 1259 = .ok (.iadd, 1) := by decide +kernel
theorem dL_law__1260 : decode cL_law_ 1260 = .ok (.iaload, 1) := by decide +kernel
theorem dL_law__1261 : decode cL_law_ 1261 = .ok (.aload_n 3, 1) := by decide +kernel
theorem dL_law__1262 : decode cL_law_ 1262 = .ok (.invokestatic 198, 3) := by decide +kernel
theorem dL_law__1265 : decode cL_law_ 1265 = .ok (.istore 5, 2) := by decide +kernel
theorem dL_law__1267 : decode cL_law_ 1267 = .ok (.aload_n 2, 1) := by decide +kernel
theorem dL_law__1268 : decode cL_law_ 1268 = .ok (.aload_n 0, 1) := by decide +kernel
theorem dL_law__1269 : decode cL_law_ 1269 = .ok (.iload 4, 2) := by decide +kernel
theorem dL_law__1271 : decode cL_law_ 1271 = .ok (.iconst 1, 1) := by decide +kernel
theorem dL_law__1272 : decode cL_law_ 1272 = .ok (.iadd, 1) := by decide +kernel
theorem dL_law__1273 : decode cL_law_ 1273 = .ok (.iaload, 1) := by decide +kernel
theorem dL_law__1274 : decode cL_law_ 1274 = .ok (.invokevirtual 200, 3) := by decide +kernel
theorem dL_law__1277 : decode cL_law_ 1277 = .ok (.istore 6, 2) := by decide +kernel
theorem dL_law__1279 : decode cL_law_ 1279 = .ok (.aload_n 2, 1) := by decide +kernel
theorem dL_law__1280 : decode cL_law_ 1280 = .ok (.invokevirtual 150, 3) := by decide +kernel
theorem dL_law__1283 : decode cL_law_ 1283 = .ok (.iload 5, 2) := by decide +kernel
theorem dL_law__1285 : decode cL_law_ 1285 = .ok (.if_icmp .eq 5, 3) := by decide +kernel
theorem dL_law__1288 : decode cL_law_ 1288 = .ok (.iconst 0, 1) := by decide +kernel
theorem dL_law__1289 : decode cL_law_ 1289 = .ok (.ireturn, 1) := by decide +kernel
theorem dL_law__1290 : decode cL_law_ 1290 = .ok (.iload 5, 2) := by decide +kernel
theorem dL_law__1292 : decode cL_law_ 1292 = .ok (.ifCond .ne 15, 3) := by decide +kernel
theorem dL_law__1295 : decode cL_law_ 1295 = .ok (.aload_n 3, 1) := by decide +kernel
theorem dL_law__1296 : decode cL_law_ 1296 = .ok (.iconst 0, 1) := by decide +kernel
theorem dL_law__1297 : decode cL_law_ 1297 = .ok (.laload, 1) := by decide +kernel
theorem dL_law__1298 : decode cL_law_ 1298 = .ok (.iload 6, 2) := by decide +kernel
theorem dL_law__1300 : decode cL_law_ 1300 = .ok (.i2l, 1) := by decide +kernel
theorem dL_law__1301 : decode cL_law_ 1301 = .ok (.lcmp, 1) := by decide +kernel
theorem dL_law__1302 : decode cL_law_ 1302 = .ok (.ifCond .eq 5, 3) := by decide +kernel
theorem dL_law__1305 : decode cL_law_ 1305 = .ok (.iconst 0, 1) := by decide +kernel
theorem dL_law__1306 : decode cL_law_ 1306 = .ok (.ireturn, 1) := by decide +kernel
theorem dL_law__1307 : decode cL_law_ 1307 = .ok (.goto 1492, 3) := by decide +kernel
theorem dL_law__1310 : decode cL_law_ 1310 = .ok (.aload_n 1, 1) := by decide +kernel
theorem dL_law__1311 : decode cL_law_ 1311 = .ok (.aload_n 0, 1) := by decide +kernel
theorem dL_law__1312 : decode cL_law_ 1312 = .ok (.iload 4, 2) := by decide +kernel
theorem dL_law__1314 : decode cL_law_ 1314 = .ok (.iconst 1, 1) := by decide +kernel
theorem dL_law__1315 : decode cL_law_ 1315 = .ok (.iadd, 1) := by decide +kernel
theorem dL_law__1316 : decode cL_law_ 1316 = .ok (.iaload, 1) := by decide +kernel
theorem dL_law__1317 : decode cL_law_ 1317 = .ok (.aload_n 3, 1) := by decide +kernel
theorem dL_law__1318 : decode cL_law_ 1318 = .ok (.invokestatic 201, 3) := by decide +kernel
theorem dL_law__1321 : decode cL_law_ 1321 = .ok (.istore 5, 2) := by decide +kernel
theorem dL_law__1323 : decode cL_law_ 1323 = .ok (.aload_n 2, 1) := by decide +kernel
theorem dL_law__1324 : decode cL_law_ 1324 = .ok (.aload_n 0, 1) := by decide +kernel
theorem dL_law__1325 : decode cL_law_ 1325 = .ok (.iload 4, 2) := by decide +kernel
theorem dL_law__1327 : decode cL_law_ 1327 = .ok (.iconst 1, 1) := by decide +kernel
theorem dL_law__1328 : decode cL_law_ 1328 = .ok (.iadd, 1) := by decide +kernel
theorem dL_law__1329 : decode cL_law_ 1329 = .ok (.iaload, 1) := by decide +kernel
theorem dL_law__1330 : decode cL_law_ 1330 = .ok (.invokevirtual 203, 3) := by decide +kernel
theorem dL_law__1333 : decode cL_law_ 1333 = .ok (.istore 6, 2) := by decide +kernel
theorem dL_law__1335 : decode cL_law_ 1335 = .ok (.aload_n 2, 1) := by decide +kernel
theorem dL_law__1336 : decode cL_law_ 1336 = .ok (.invokevirtual 150, 3) := by decide +kernel
theorem dL_law__1339 : decode cL_law_ 1339 = .ok (.iload 5, 2) := by decide +kernel
theorem dL_law__1341 : decode cL_law_ 1341 = .ok (.if_icmp .eq 5, 3) := by decide +kernel
theorem dL_law__1344 : decode cL_law_ 1344 = .ok (.iconst 0, 1) := by decide +kernel
theorem dL_law__1345 : decode cL_law_ 1345 = .ok (.ireturn, 1) := by decide +kernel
theorem dL_law__1346 : decode cL_law_ 1346 = .ok (.iload 5, 2) := by decide +kernel
theorem dL_law__1348 : decode cL_law_ 1348 = .ok (.ifCond .ne 15, 3) := by decide +kernel
theorem dL_law__1351 : decode cL_law_ 1351 = .ok (.aload_n 3, 1) := by decide +kernel
theorem dL_law__1352 : decode cL_law_ 1352 = .ok (.iconst 0, 1) := by decide +kernel
theorem dL_law__1353 : decode cL_law_ 1353 = .ok (.laload, 1) := by decide +kernel
theorem dL_law__1354 : decode cL_law_ 1354 = .ok (.iload 6, 2) := by decide +kernel
theorem dL_law__1356 : decode cL_law_ 1356 = .ok (.i2l, 1) := by decide +kernel
theorem dL_law__1357 : decode cL_law_ 1357 = .ok (.lcmp, 1) := by decide +kernel
theorem dL_law__1358 : decode cL_law_ 1358 = .ok (.ifCond .eq 5, 3) := by decide +kernel
theorem dL_law__1361 : decode cL_law_ 1361 = .ok (.iconst 0, 1) := by decide +kernel
theorem dL_law__1362 : decode cL_law_ 1362 = .ok (.ireturn, 1) := by decide +kernel
theorem dL_law__1363 : decode cL_law_ 1363 = .ok (.goto 1436, 3) := by decide +kernel
theorem dL_law__1366 : decode cL_law_ 1366 = .ok (.aload_n 1, 1) := by decide +kernel
theorem dL_law__1367 : decode cL_law_ 1367 = .ok (.aload_n 0, 1) := by decide +kernel
theorem dL_law__1368 : decode cL_law_ 1368 = .ok (.iload 4, 2) := by decide +kernel
theorem dL_law__1370 : decode cL_law_ 1370 = .ok (.iconst 1, 1) := by decide +kernel
theorem dL_law__1371 : decode cL_law_ 1371 = .ok (.iadd, 1) := by decide +kernel
theorem dL_law__1372 : decode cL_law_ 1372 = .ok (.iaload, 1) := by decide +kernel
theorem dL_law__1373 : decode cL_law_ 1373 = .ok (.aload_n 3, 1) := by decide +kernel
theorem dL_law__1374 : decode cL_law_ 1374 = .ok (.invokestatic 204, 3) := by decide +kernel
theorem dL_law__1377 : decode cL_law_ 1377 = .ok (.istore 5, 2) := by decide +kernel
theorem dL_law__1379 : decode cL_law_ 1379 = .ok (.aload_n 2, 1) := by decide +kernel
theorem dL_law__1380 : decode cL_law_ 1380 = .ok (.aload_n 0, 1) := by decide +kernel
theorem dL_law__1381 : decode cL_law_ 1381 = .ok (.iload 4, 2) := by decide +kernel
theorem dL_law__1383 : decode cL_law_ 1383 = .ok (.iconst 1, 1) := by decide +kernel
theorem dL_law__1384 : decode cL_law_ 1384 = .ok (.iadd, 1) := by decide +kernel
theorem dL_law__1385 : decode cL_law_ 1385 = .ok (.iaload, 1) := by decide +kernel
theorem dL_law__1386 : decode cL_law_ 1386 = .ok (.invokevirtual 206, 3) := by decide +kernel
theorem dL_law__1389 : decode cL_law_ 1389 = .ok (.istore 6, 2) := by decide +kernel
theorem dL_law__1391 : decode cL_law_ 1391 = .ok (.aload_n 2, 1) := by decide +kernel
theorem dL_law__1392 : decode cL_law_ 1392 = .ok (.invokevirtual 150, 3) := by decide +kernel
theorem dL_law__1395 : decode cL_law_ 1395 = .ok (.iload 5, 2) := by decide +kernel
theorem dL_law__1397 : decode cL_law_ 1397 = .ok (.if_icmp .eq 5, 3) := by decide +kernel
theorem dL_law__1400 : decode cL_law_ 1400 = .ok (.iconst 0, 1) := by decide +kernel
theorem dL_law__1401 : decode cL_law_ 1401 = .ok (.ireturn, 1) := by decide +kernel
theorem dL_law__1402 : decode cL_law_ 1402 = .ok (.iload 5, 2) := by decide +kernel
theorem dL_law__1404 : decode cL_law_ 1404 = .ok (.ifCond .ne 15, 3) := by decide +kernel
theorem dL_law__1407 : decode cL_law_ 1407 = .ok (.aload_n 3, 1) := by decide +kernel
theorem dL_law__1408 : decode cL_law_ 1408 = .ok (.iconst 0, 1) := by decide +kernel
theorem dL_law__1409 : decode cL_law_ 1409 = .ok (.laload, 1) := by decide +kernel
theorem dL_law__1410 : decode cL_law_ 1410 = .ok (.iload 6, 2) := by decide +kernel
theorem dL_law__1412 : decode cL_law_ 1412 = .ok (.i2l, 1) := by decide +kernel
theorem dL_law__1413 : decode cL_law_ 1413 = .ok (.lcmp, 1) := by decide +kernel
theorem dL_law__1414 : decode cL_law_ 1414 = .ok (.ifCond .eq 5, 3) := by decide +kernel
theorem dL_law__1417 : decode cL_law_ 1417 = .ok (.iconst 0, 1) := by decide +kernel
theorem dL_law__1418 : decode cL_law_ 1418 = .ok (.ireturn, 1) := by decide +kernel
theorem dL_law__1419 : decode cL_law_ 1419 = .ok (.goto 1380, 3) := by decide +kernel
theorem dL_law__1422 : decode cL_law_ 1422 = .ok (.aload_n 1, 1) := by decide +kernel
theorem dL_law__1423 : decode cL_law_ 1423 = .ok (.invokevirtual 207, 3) := by decide +kernel
theorem dL_law__1426 : decode cL_law_ 1426 = .ok (.aload_n 2, 1) := by decide +kernel
theorem dL_law__1427 : decode cL_law_ 1427 = .ok (.invokevirtual 210, 3) := by decide +kernel
theorem dL_law__1430 : decode cL_law_ 1430 = .ok (.if_icmp .eq 1369, 3) := by decide +kernel
theorem dL_law__1433 : decode cL_law_ 1433 = .ok (.iconst 0, 1) := by decide +kernel
theorem dL_law__1434 : decode cL_law_ 1434 = .ok (.ireturn, 1) := by decide +kernel
theorem dL_law__1435 : decode cL_law_ 1435 = .ok (.aload_n 1, 1) := by decide +kernel
theorem dL_law__1436 : decode cL_law_ 1436 = .ok (.invokevirtual 211, 3) := by decide +kernel
theorem dL_law__1439 : decode cL_law_ 1439 = .ok (.aload_n 2, 1) := by decide +kernel
theorem dL_law__1440 : decode cL_law_ 1440 = .ok (.invokevirtual 214, 3) := by decide +kernel
theorem dL_law__1443 : decode cL_law_ 1443 = .ok (.if_icmp .eq 1356, 3) := by decide +kernel
theorem dL_law__1446 : decode cL_law_ 1446 = .ok (.iconst 0, 1) := by decide +kernel
theorem dL_law__1447 : decode cL_law_ 1447 = .ok (.ireturn, 1) := by decide +kernel
theorem dL_law__1448 : decode cL_law_ 1448 = .ok (.aload_n 1, 1) := by decide +kernel
theorem dL_law__1449 : decode cL_law_ 1449 = .ok (.invokevirtual 215, 3) := by decide +kernel
theorem dL_law__1452 : decode cL_law_ 1452 = .ok (.aload_n 2, 1) := by decide +kernel
theorem dL_law__1453 : decode cL_law_ 1453 = .ok (.invokevirtual 218, 3) := by decide +kernel
theorem dL_law__1456 : decode cL_law_ 1456 = .ok (.if_icmp .eq 1343, 3) := by decide +kernel
theorem dL_law__1459 : decode cL_law_ 1459 = .ok (.iconst 0, 1) := by decide +kernel
theorem dL_law__1460 : decode cL_law_ 1460 = .ok (.ireturn, 1) := by decide +kernel
theorem dL_law__1461 : decode cL_law_ 1461 = .ok (.aload_n 1, 1) := by decide +kernel
theorem dL_law__1462 : decode cL_law_ 1462 = .ok (.aload_n 0, 1) := by decide +kernel
theorem dL_law__1463 : decode cL_law_ 1463 = .ok (.iload 4, 2) := by decide +kernel
theorem dL_law__1465 : decode cL_law_ 1465 = .ok (.iconst 1, 1) := by decide +kernel
theorem dL_law__1466 : decode cL_law_ 1466 = .ok (.iadd, 1) := by decide +kernel
theorem dL_law__1467 : decode cL_law_ 1467 = .ok (.iaload, 1) := by decide +kernel
theorem dL_law__1468 : decode cL_law_ 1468 = .ok (.aload_n 3, 1) := by decide +kernel
theorem dL_law__1469 : decode cL_law_ 1469 = .ok (.invokestatic 219, 3) := by decide +kernel
theorem dL_law__1472 : decode cL_law_ 1472 = .ok (.istore 5, 2) := by decide +kernel
theorem dL_law__1474 : decode cL_law_ 1474 = .ok (.aload_n 2, 1) := by decide +kernel
theorem dL_law__1475 : decode cL_law_ 1475 = .ok (.aload_n 0, 1) := by decide +kernel
theorem dL_law__1476 : decode cL_law_ 1476 = .ok (.iload 4, 2) := by decide +kernel
theorem dL_law__1478 : decode cL_law_ 1478 = .ok (.iconst 1, 1) := by decide +kernel
theorem dL_law__1479 : decode cL_law_ 1479 = .ok (.iadd, 1) := by decide +kernel
theorem dL_law__1480 : decode cL_law_ 1480 = .ok (.iaload, 1) := by decide +kernel
theorem dL_law__1481 : decode cL_law_ 1481 = .ok (.invokevirtual 221, 3) := by decide +kernel
theorem dL_law__1484 : decode cL_law_ 1484 = .ok (.istore 6, 2) := by decide +kernel
theorem dL_law__1486 : decode cL_law_ 1486 = .ok (.aload_n 2, 1) := by decide +kernel
theorem dL_law__1487 : decode cL_law_ 1487 = .ok (.invokevirtual 150, 3) := by decide +kernel
theorem dL_law__1490 : decode cL_law_ 1490 = .ok (.iload 5, 2) := by decide +kernel
theorem dL_law__1492 : decode cL_law_ 1492 = .ok (.if_icmp .eq 5, 3) := by decide +kernel
theorem dL_law__1495 : decode cL_law_ 1495 = .ok (.iconst 0, 1) := by decide +kernel
theorem dL_law__1496 : decode cL_law_ 1496 = .ok (.ireturn, 1) := by decide +kernel
theorem dL_law__1497 : decode cL_law_ 1497 = .ok (.iload 5, 2) := by decide +kernel
theorem dL_law__1499 : decode cL_law_ 1499 = .ok (.ifCond .ne 15, 3) := by decide +kernel
theorem dL_law__1502 : decode cL_law_ 1502 = .ok (.aload_n 3, 1) := by decide +kernel
theorem dL_law__1503 : decode cL_law_ 1503 = .ok (.iconst 0, 1) := by decide +kernel
theorem dL_law__1504 : decode cL_law_ 1504 = .ok (.laload, 1) := by decide +kernel
theorem dL_law__1505 : decode cL_law_ 1505 = .ok (.iload 6, 2) := by decide +kernel
theorem dL_law__1507 : decode cL_law_ 1507 = .ok (.i2l, 1) := by decide +kernel
theorem dL_law__1508 : decode cL_law_ 1508 = .ok (.lcmp, 1) := by decide +kernel
theorem dL_law__1509 : decode cL_law_ 1509 = .ok (.ifCond .eq 5, 3) := by decide +kernel
theorem dL_law__1512 : decode cL_law_ 1512 = .ok (.iconst 0, 1) := by decide +kernel
theorem dL_law__1513 : decode cL_law_ 1513 = .ok (.ireturn, 1) := by decide +kernel
theorem dL_law__1514 : decode cL_law_ 1514 = .ok (.goto 1285, 3) := by decide +kernel
theorem dL_law__1517 : decode cL_law_ 1517 = .ok (.aload_n 1, 1) := by decide +kernel
theorem dL_law__1518 : decode cL_law_ 1518 = .ok (.aload_n 0, 1) := by decide +kernel
theorem dL_law__1519 : decode cL_law_ 1519 = .ok (.iload 4, 2) := by decide +kernel
theorem dL_law__1521 : decode cL_law_ 1521 = .ok (.iconst 1, 1) := by decide +kernel
theorem dL_law__1522 : decode cL_law_ 1522 = .ok (.iadd, 1) := by decide +kernel
theorem dL_law__1523 : decode cL_law_ 1523 = .ok (.iaload, 1) := by decide +kernel
theorem dL_law__1524 : decode cL_law_ 1524 = .ok (.aload_n 3, 1) := by decide +kernel
