theorem d_law_925 : decode code 925 = .ok (.invokevirtual 94, 3) := by decide +kernel
theorem d_law_928 : decode code 928 = .ok (.iload 5, 2) := by decide +kernel
theorem d_law_930 : decode code 930 = .ok (.if_icmp .eq 5, 3) := by decide +kernel
theorem d_law_933 : decode code 933 = .ok (.iconst 0, 1) := by decide +kernel
theorem d_law_934 : decode code 934 = .ok (.ireturn, 1) := by decide +kernel
theorem d_law_935 : decode code 935 = .ok (.iload 5, 2) := by decide +kernel
theorem d_law_937 : decode code 937 = .ok (.ifCond .ne 14, 3) := by decide +kernel
theorem d_law_940 : decode code 940 = .ok (.aload_n 3, 1) := by decide +kernel
theorem d_law_941 : decode code 941 = .ok (.iconst 0, 1) := by decide +kernel
theorem d_law_942 : decode code 942 = .ok (.laload, 1) := by decide +kernel
theorem d_law_943 : decode code 943 = .ok (.lload 6, 2) := by decide +kernel
theorem d_law_945 : decode code 945 = .ok (.lcmp, 1) := by decide +kernel
theorem d_law_946 : decode code 946 = .ok (.ifCond .eq 5, 3) := by decide +kernel
theorem d_law_949 : decode code 949 = .ok (.iconst 0, 1) := by decide +kernel
theorem d_law_950 : decode code 950 = .ok (.ireturn, 1) := by decide +kernel
theorem d_law_951 : decode code 951 = .ok (.goto 239, 3) := by decide +kernel
theorem d_law_954 : decode code 954 = .ok (.aload_n 1, 1) := by decide +kernel
theorem d_law_955 : decode code 955 = .ok (.invokevirtual 128, 3) := by decide +kernel
theorem d_law_958 : decode code 958 = .ok (.aload_n 2, 1) := by decide +kernel
theorem d_law_959 : decode code 959 = .ok (.invokevirtual 132, 3) := by decide +kernel
theorem d_law_962 : decode code 962 = .ok (.lcmp, 1) := by decide +kernel
theorem d_law_963 : decode code 963 = .ok (.ifCond .eq 227, 3) := by decide +kernel
theorem d_law_966 : decode code 966 = .ok (.iconst 0, 1) := by decide +kernel
theorem d_law_967 : decode code 967 = .ok (.ireturn, 1) := by decide +kernel
theorem d_law_968 : decode code 968 = .ok (.aload_n 1, 1) := by decide +kernel
theorem d_law_969 : decode code 969 = .ok (.aload_n 0, 1) := by decide +kernel
theorem d_law_970 : decode code 970 = .ok (.iload 4, 2) := by decide +kernel
theorem d_law_972 : decode code 972 = .ok (.iconst 1, 1) := by decide +kernel
theorem d_law_973 : decode code 973 = .ok (.iadd, 1) := by decide +kernel
theorem d_law_974 : decode code 974 = .ok (.iaload, 1) := by decide +kernel
theorem d_law_975 : decode code 975 = .ok (.invokevirtual 133, 3) := by decide +kernel
theorem d_law_978 : decode code 978 = .ok (.aload_n 2, 1) := by decide +kernel
theorem d_law_979 : decode code 979 = .ok (.aload_n 0, 1) := by decide +kernel
theorem d_law_980 : decode code 980 = .ok (.iload 4, 2) := by decide +kernel
theorem d_law_982 : decode code 982 = .ok (.iconst 1, 1) := by decide +kernel
theorem d_law_983 : decode code 983 = .ok (.iadd, 1) := by decide +kernel
theorem d_law_984 : decode code 984 = .ok (.iaload, 1) := by decide +kernel
theorem d_law_985 : decode code 985 = .ok (.invokevirtual 136, 3) := by decide +kernel
theorem d_law_988 : decode code 988 = .ok (.if_icmp .eq 202, 3) := by decide +kernel
theorem d_law_991 : decode code 991 = .ok (.iconst 0, 1) := by decide +kernel
theorem d_law_992 : decode code 992 = .ok (.ireturn, 1) := by decide +kernel
theorem d_law_993 : decode code 993 = .ok (.aload_n 1, 1) := by decide +kernel
theorem d_law_994 : decode code 994 = .ok (.aload_n 0, 1) := by decide +kernel
theorem d_law_995 : decode code 995 = .ok (.iload 4, 2) := by decide +kernel
theorem d_law_997 : decode code 997 = .ok (.iconst 1, 1) := by decide +kernel
theorem d_law_998 : decode code 998 = .ok (.iadd, 1) := by decide +kernel
theorem d_law_999 : decode code 999 = .ok (.iaload, 1) := by decide +kernel
theorem d_law_1000 : decode code 1000 = .ok (.invokevirtual 137, 3) := by decide +kernel
theorem d_law_1003 : decode code 1003 = .ok (.aload_n 2, 1) := by decide +kernel
theorem d_law_1004 : decode code 1004 = .ok (.aload_n 0, 1) := by decide +kernel
theorem d_law_1005 : decode code 1005 = .ok (.iload 4, 2) := by decide +kernel
theorem d_law_1007 : decode code 1007 = .ok (.iconst 1, 1) := by decide +kernel
theorem d_law_1008 : decode code 1008 = .ok (.iadd, 1) := by decide +kernel
theorem d_law_1009 : decode code 1009 = .ok (.iaload, 1) := by decide +kernel
theorem d_law_1010 : decode code 1010 = .ok (.invokevirtual 140, 3) := by decide +kernel
theorem d_law_1013 : decode code 1013 = .ok (.lcmp, 1) := by decide +kernel
theorem d_law_1014 : decode code 1014 = .ok (.ifCond .eq 176, 3) := by decide +kernel
theorem d_law_1017 : decode code 1017 = .ok (.iconst 0, 1) := by decide +kernel
theorem d_law_1018 : decode code 1018 = .ok (.ireturn, 1) := by decide +kernel
theorem d_law_1019 : decode code 1019 = .ok (.aload_n 1, 1) := by decide +kernel
theorem d_law_1020 : decode code 1020 = .ok (.invokevirtual 141, 3) := by decide +kernel
theorem d_law_1023 : decode code 1023 = .ok (.aload_n 2, 1) := by decide +kernel
theorem d_law_1024 : decode code 1024 = .ok (.invokevirtual 144, 3) := by decide +kernel
theorem d_law_1027 : decode code 1027 = .ok (.if_icmp .eq 163, 3) := by decide +kernel
theorem d_law_1030 : decode code 1030 = .ok (.iconst 0, 1) := by decide +kernel
theorem d_law_1031 : decode code 1031 = .ok (.ireturn, 1) := by decide +kernel
theorem d_law_1032 : decode code 1032 = .ok (.aload_n 1, 1) := by decide +kernel
theorem d_law_1033 : decode code 1033 = .ok (.aload_n 0, 1) := by decide +kernel
theorem d_law_1034 : decode code 1034 = .ok (.iload 4, 2) := by decide +kernel
theorem d_law_1036 : decode code 1036 = .ok (.iconst 1, 1) := by decide +kernel
theorem d_law_1037 : decode code 1037 = .ok (.iadd, 1) := by decide +kernel
theorem d_law_1038 : decode code 1038 = .ok (.iaload, 1) := by decide +kernel
theorem d_law_1039 : decode code 1039 = .ok (.ifCond .eq 7, 3) := by decide +kernel
theorem d_law_1042 : decode code 1042 = .ok (.iconst 1, 1) := by decide +kernel
theorem d_law_1043 : decode code 1043 = .ok (.goto 4, 3) := by decide +kernel
theorem d_law_1046 : decode code 1046 = .ok (.iconst 0, 1) := by decide +kernel
theorem d_law_1047 : decode code 1047 = .ok (.aload_n 0, 1) := by decide +kernel
theorem d_law_1048 : decode code 1048 = .ok (.iload 4, 2) := by decide +kernel
theorem d_law_1050 : decode code 1050 = .ok (.iconst 2, 1) := by decide +kernel
theorem d_law_1051 : decode code 1051 = .ok (.iadd, 1) := by decide +kernel
theorem d_law_1052 : decode code 1052 = .ok (.iaload, 1) := by decide +kernel
theorem d_law_1053 : decode code 1053 = .ok (.aload_n 0, 1) := by decide +kernel
theorem d_law_1054 : decode code 1054 = .ok (.iload 4, 2) := by decide +kernel
theorem d_law_1056 : decode code 1056 = .ok (.iconst 3, 1) := by decide +kernel
theorem d_law_1057 : decode code 1057 = .ok (.iadd, 1) := by decide +kernel
theorem d_law_1058 : decode code 1058 = .ok (.iaload, 1) := by decide +kernel
theorem d_law_1059 : decode code 1059 = .ok (.invokevirtual 145, 3) := by decide +kernel
theorem d_law_1062 : decode code 1062 = .ok (.aload_n 2, 1) := by decide +kernel
theorem d_law_1063 : decode code 1063 = .ok (.aload_n 0, 1) := by decide +kernel
theorem d_law_1064 : decode code 1064 = .ok (.iload 4, 2) := by decide +kernel
theorem d_law_1066 : decode code 1066 = .ok (.iconst 1, 1) := by decide +kernel
theorem d_law_1067 : decode code 1067 = .ok (.iadd, 1) := by decide +kernel
theorem d_law_1068 : decode code 1068 = .ok (.iaload, 1) := by decide +kernel
theorem d_law_1069 : decode code 1069 = .ok (.ifCond .eq 7, 3) := by decide +kernel
theorem d_law_1072 : decode code 1072 = .ok (.iconst 1, 1) := by decide +kernel
theorem d_law_1073 : decode code 1073 = .ok (.goto 4, 3) := by decide +kernel
theorem d_law_1076 : decode code 1076 = .ok (.iconst 0, 1) := by decide +kernel
theorem d_law_1077 : decode code 1077 = .ok (.aload_n 0, 1) := by decide +kernel
theorem d_law_1078 : decode code 1078 = .ok (.iload 4, 2) := by decide +kernel
theorem d_law_1080 : decode code 1080 = .ok (.iconst 2, 1) := by decide +kernel
theorem d_law_1081 : decode code 1081 = .ok (.iadd, 1) := by decide +kernel
theorem d_law_1082 : decode code 1082 = .ok (.iaload, 1) := by decide +kernel
theorem d_law_1083 : decode code 1083 = .ok (.aload_n 0, 1) := by decide +kernel
theorem d_law_1084 : decode code 1084 = .ok (.iload 4, 2) := by decide +kernel
theorem d_law_1086 : decode code 1086 = .ok (.iconst 3, 1) := by decide +kernel
theorem d_law_1087 : decode code 1087 = .ok (.iadd, 1) := by decide +kernel
theorem d_law_1088 : decode code 1088 = .ok (.iaload, 1) := by decide +kernel
theorem d_law_1089 : decode code 1089 = .ok (.invokevirtual 149, 3) := by decide +kernel
theorem d_law_1092 : decode code 1092 = .ok (.lcmp, 1) := by decide +kernel
theorem d_law_1093 : decode code 1093 = .ok (.ifCond .eq 97, 3) := by decide +kernel
theorem d_law_1096 : decode code 1096 = .ok (.iconst 0, 1) := by decide +kernel
theorem d_law_1097 : decode code 1097 = .ok (.ireturn, 1) := by decide +kernel
theorem d_law_1098 : decode code 1098 = .ok (.aload_n 1, 1) := by decide +kernel
theorem d_law_1099 : decode code 1099 = .ok (.aload_n 0, 1) := by decide +kernel
theorem d_law_1100 : decode code 1100 = .ok (.iload 4, 2) := by decide +kernel
theorem d_law_1102 : decode code 1102 = .ok (.iconst 1, 1) := by decide +kernel
theorem d_law_1103 : decode code 1103 = .ok (.iadd, 1) := by decide +kernel
theorem d_law_1104 : decode code 1104 = .ok (.iaload, 1) := by decide +kernel
theorem d_law_1105 : decode code 1105 = .ok (.ifCond .eq 7, 3) := by decide +kernel
theorem d_law_1108 : decode code 1108 = .ok (.iconst 1, 1) := by decide +kernel
theorem d_law_1109 : decode code 1109 = .ok (.goto 4, 3) := by decide +kernel
theorem d_law_1112 : decode code 1112 = .ok (.iconst 0, 1) := by decide +kernel
theorem d_law_1113 : decode code 1113 = .ok (.invokevirtual 150, 3) := by decide +kernel
theorem d_law_1116 : decode code 1116 = .ok (.aload_n 2, 1) := by decide +kernel
theorem d_law_1117 : decode code 1117 = .ok (.aload_n 0, 1) := by decide +kernel
theorem d_law_1118 : decode code 1118 = .ok (.iload 4, 2) := by decide +kernel
theorem d_law_1120 : decode code 1120 = .ok (.iconst 1, 1) := by decide +kernel
theorem d_law_1121 : decode code 1121 = .ok (.iadd, 1) := by decide +kernel
theorem d_law_1122 : decode code 1122 = .ok (.iaload, 1) := by decide +kernel
theorem d_law_1123 : decode code 1123 = .ok (.ifCond .eq 7, 3) := by decide +kernel
theorem d_law_1126 : decode code 1126 = .ok (.iconst 1, 1) := by decide +kernel
theorem d_law_1127 : decode code 1127 = .ok (.goto 4, 3) := by decide +kernel
theorem d_law_1130 : decode code 1130 = .ok (.iconst 0, 1) := by decide +kernel
theorem d_law_1131 : decode code 1131 = .ok (.invokevirtual 154, 3) := by decide +kernel
theorem d_law_1134 : decode code 1134 = .ok (.lcmp, 1) := by decide +kernel
theorem d_law_1135 : decode code 1135 = .ok (.ifCond .eq 55, 3) := by decide +kernel
theorem d_law_1138 : decode code 1138 = .ok (.iconst 0, 1) := by decide +kernel
theorem d_law_1139 : decode code 1139 = .ok (.ireturn, 1) := by decide +kernel
theorem d_law_1140 : decode code 1140 = .ok (.aload_n 1, 1) := by decide +kernel
theorem d_law_1141 : decode code 1141 = .ok (.aload_n 0, 1) := by decide +kernel
theorem d_law_1142 : decode code 1142 = .ok (.iload 4, 2) := by decide +kernel
theorem d_law_1144 : decode code 1144 = .ok (.iconst 1, 1) := by decide +kernel
theorem d_law_1145 : decode code 1145 = .ok (.iadd, 1) := by decide +kernel
theorem d_law_1146 : decode code 1146 = .ok (.iaload, 1) := by decide +kernel
theorem d_law_1147 : decode code 1147 = .ok (.invokevirtual 155, 3) := by decide +kernel
theorem d_law_1150 : decode code 1150 = .ok (.aload_n 2, 1) := by decide +kernel
theorem d_law_1151 : decode code 1151 = .ok (.aload_n 0, 1) := by decide +kernel
theorem d_law_1152 : decode code 1152 = .ok (.iload 4, 2) := by decide +kernel
theorem d_law_1154 : decode code 1154 = .ok (.iconst 1, 1) := by decide +kernel
theorem d_law_1155 : decode code 1155 = .ok (.iadd, 1) := by decide +kernel
theorem d_law_1156 : decode code 1156 = .ok (.iaload, 1) := by decide +kernel
theorem d_law_1157 : decode code 1157 = .ok (.invokevirtual 158, 3) := by decide +kernel
theorem d_law_1160 : decode code 1160 = .ok (.if_icmp .eq 30, 3) := by decide +kernel
theorem d_law_1163 : decode code 1163 = .ok (.iconst 0, 1) := by decide +kernel
theorem d_law_1164 : decode code 1164 = .ok (.ireturn, 1) := by decide +kernel
theorem d_law_1165 : decode code 1165 = .ok (.aload_n 1, 1) := by decide +kernel
theorem d_law_1166 : decode code 1166 = .ok (.aload_n 0, 1) := by decide +kernel
theorem d_law_1167 : decode code 1167 = .ok (.iload 4, 2) := by decide +kernel
theorem d_law_1169 : decode code 1169 = .ok (.iconst 1, 1) := by decide +kernel
theorem d_law_1170 : decode code 1170 = .ok (.iadd, 1) := by decide +kernel
theorem d_law_1171 : decode code 1171 = .ok (.iaload, 1) := by decide +kernel
theorem d_law_1172 : decode code 1172 = .ok (.invokevirtual 159, 3) := by decide +kernel
theorem d_law_1175 : decode code 1175 = .ok (.aload_n 2, 1) := by decide +kernel
theorem d_law_1176 : decode code 1176 = .ok (.aload_n 0, 1) := by decide +kernel
theorem d_law_1177 : decode code 1177 = .ok (.iload 4, 2) := by decide +kernel
theorem d_law_1179 : decode code 1179 = .ok (.iconst 1, 1) := by decide +kernel
theorem d_law_1180 : decode code 1180 = .ok (.iadd, 1) := by decide +kernel
theorem d_law_1181 : decode code 1181 = .ok (.iaload, 1) := by decide +kernel
theorem d_law_1182 : decode code 1182 = .ok (.invokevirtual 162, 3) := by decide +kernel
theorem d_law_1185 : decode code 1185 = .ok (.if_icmp .eq 5, 3) := by decide +kernel
theorem d_law_1188 : decode code 1188 = .ok (.iconst 0, 1) := by decide +kernel
theorem d_law_1189 : decode code 1189 = .ok (.ireturn, 1) := by decide +kernel
theorem d_law_1190 : decode code 1190 = .ok (.iinc 4 4, 3) := by decide +kernel
theorem d_law_1193 : decode code 1193 = .ok (.goto (-1170), 3) := by decide +kernel
theorem d_law_1196 : decode code 1196 = .ok (.iconst 1, 1) := by decide +kernel
theorem d_law_1197 : decode code 1197 = .ok (.ireturn, 1) := by decide +kernel
