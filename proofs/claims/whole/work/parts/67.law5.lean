theorem d_L_law_1039 : decode c_L_law 1039 = .ok (.iconst 1, 1) := by decide +kernel
theorem d_L_law_1040 : decode c_L_law 1040 = .ok (.iadd, 1) := by decide +kernel
theorem d_L_law_1041 : decode c_L_law 1041 = .ok (.iaload, 1) := by decide +kernel
theorem d_L_law_1042 : decode c_L_law 1042 = .ok (.invokevirtual 139, 3) := by decide +kernel
theorem d_L_law_1045 : decode c_L_law 1045 = .ok (.aload_n 2, 1) := by decide +kernel
theorem d_L_law_1046 : decode c_L_law 1046 = .ok (.aload_n 0, 1) := by decide +kernel
theorem d_L_law_1047 : decode c_L_law 1047 = .ok (.iload 5, 2) := by decide +kernel
theorem d_L_law_1049 : decode c_L_law 1049 = .ok (.iconst 1, 1) := by decide +kernel
theorem d_L_law_1050 : decode c_L_law 1050 = .ok (.iadd, 1) := by decide +kernel
theorem d_L_law_1051 : decode c_L_law 1051 = .ok (.iaload, 1) := by decide +kernel
theorem d_L_law_1052 : decode c_L_law 1052 = .ok (.invokevirtual 142, 3) := by decide +kernel
theorem d_L_law_1055 : decode c_L_law 1055 = .ok (.if_icmp .eq 117, 3) := by decide +kernel
theorem d_L_law_1058 : decode c_L_law 1058 = .ok (.iconst 0, 1) := by decide +kernel
theorem d_L_law_1059 : decode c_L_law 1059 = .ok (.ireturn, 1) := by decide +kernel
theorem d_L_law_1060 : decode c_L_law 1060 = .ok (.aload_n 1, 1) := by decide +kernel
theorem d_L_law_1061 : decode c_L_law 1061 = .ok (.aload_n 0, 1) := by decide +kernel
theorem d_L_law_1062 : decode c_L_law 1062 = .ok (.iload 5, 2) := by decide +kernel
theorem d_L_law_1064 : decode c_L_law 1064 = .ok (.iconst 1, 1) := by decide +kernel
theorem d_L_law_1065 : decode c_L_law 1065 = .ok (.iadd, 1) := by decide +kernel
theorem d_L_law_1066 : decode c_L_law 1066 = .ok (.iaload, 1) := by decide +kernel
theorem d_L_law_1067 : decode c_L_law 1067 = .ok (.aload_n 3, 1) := by decide +kernel
theorem d_L_law_1068 : decode c_L_law 1068 = .ok (.invokestatic 143, 3) := by decide +kernel
theorem d_L_law_1071 : decode c_L_law 1071 = .ok (.istore 6, 2) := by decide +kernel
theorem d_L_law_1073 : decode c_L_law 1073 = .ok (.aload_n 2, 1) := by decide +kernel
theorem d_L_law_1074 : decode c_L_law 1074 = .ok (.aload_n 0, 1) := by decide +kernel
theorem d_L_law_1075 : decode c_L_law 1075 = .ok (.iload 5, 2) := by decide +kernel
theorem d_L_law_1077 : decode c_L_law 1077 = .ok (.iconst 1, 1) := by decide +kernel
theorem d_L_law_1078 : decode c_L_law 1078 = .ok (.iadd, 1) := by decide +kernel
theorem d_L_law_1079 : decode c_L_law 1079 = .ok (.iaload, 1) := by decide +kernel
theorem d_L_law_1080 : decode c_L_law 1080 = .ok (.invokevirtual 145, 3) := by decide +kernel
theorem d_L_law_1083 : decode c_L_law 1083 = .ok (.istore 7, 2) := by decide +kernel
theorem d_L_law_1085 : decode c_L_law 1085 = .ok (.aload_n 2, 1) := by decide +kernel
theorem d_L_law_1086 : decode c_L_law 1086 = .ok (.invokevirtual 80, 3) := by decide +kernel
theorem d_L_law_1089 : decode c_L_law 1089 = .ok (.iload 6, 2) := by decide +kernel
theorem d_L_law_1091 : decode c_L_law 1091 = .ok (.if_icmp .eq 5, 3) := by decide +kernel
theorem d_L_law_1094 : decode c_L_law 1094 = .ok (.iconst 0, 1) := by decide +kernel
theorem d_L_law_1095 : decode c_L_law 1095 = .ok (.ireturn, 1) := by decide +kernel
theorem d_L_law_1096 : decode c_L_law 1096 = .ok (.iload 6, 2) := by decide +kernel
theorem d_L_law_1098 : decode c_L_law 1098 = .ok (.ifCond .ne 15, 3) := by decide +kernel
theorem d_L_law_1101 : decode c_L_law 1101 = .ok (.aload_n 3, 1) := by decide +kernel
theorem d_L_law_1102 : decode c_L_law 1102 = .ok (.iconst 0, 1) := by decide +kernel
theorem d_L_law_1103 : decode c_L_law 1103 = .ok (.laload, 1) := by decide +kernel
theorem d_L_law_1104 : decode c_L_law 1104 = .ok (.iload 7, 2) := by decide +kernel
theorem d_L_law_1106 : decode c_L_law 1106 = .ok (.i2l, 1) := by decide +kernel
theorem d_L_law_1107 : decode c_L_law 1107 = .ok (.lcmp, 1) := by decide +kernel
theorem d_L_law_1108 : decode c_L_law 1108 = .ok (.ifCond .eq 5, 3) := by decide +kernel
theorem d_L_law_1111 : decode c_L_law 1111 = .ok (.iconst 0, 1) := by decide +kernel
theorem d_L_law_1112 : decode c_L_law 1112 = .ok (.ireturn, 1) := by decide +kernel
theorem d_L_law_1113 : decode c_L_law 1113 = .ok (.goto 59, 3) := by decide +kernel
theorem d_L_law_1116 : decode c_L_law 1116 = .ok (.aload_n 1, 1) := by decide +kernel
theorem d_L_law_1117 : decode c_L_law 1117 = .ok (.aload_n 0, 1) := by decide +kernel
theorem d_L_law_1118 : decode c_L_law 1118 = .ok (.iload 5, 2) := by decide +kernel
theorem d_L_law_1120 : decode c_L_law 1120 = .ok (.iconst 1, 1) := by decide +kernel
theorem d_L_law_1121 : decode c_L_law 1121 = .ok (.iadd, 1) := by decide +kernel
theorem d_L_law_1122 : decode c_L_law 1122 = .ok (.iaload, 1) := by decide +kernel
theorem d_L_law_1123 : decode c_L_law 1123 = .ok (.aload_n 3, 1) := by decide +kernel
theorem d_L_law_1124 : decode c_L_law 1124 = .ok (.invokestatic 146, 3) := by decide +kernel
theorem d_L_law_1127 : decode c_L_law 1127 = .ok (.istore 6, 2) := by decide +kernel
theorem d_L_law_1129 : decode c_L_law 1129 = .ok (.aload_n 2, 1) := by decide +kernel
theorem d_L_law_1130 : decode c_L_law 1130 = .ok (.aload_n 0, 1) := by decide +kernel
theorem d_L_law_1131 : decode c_L_law 1131 = .ok (.iload 5, 2) := by decide +kernel
theorem d_L_law_1133 : decode c_L_law 1133 = .ok (.iconst 1, 1) := by decide +kernel
theorem d_L_law_1134 : decode c_L_law 1134 = .ok (.iadd, 1) := by decide +kernel
theorem d_L_law_1135 : decode c_L_law 1135 = .ok (.iaload, 1) := by decide +kernel
theorem d_L_law_1136 : decode c_L_law 1136 = .ok (.invokevirtual 148, 3) := by decide +kernel
theorem d_L_law_1139 : decode c_L_law 1139 = .ok (.istore 7, 2) := by decide +kernel
theorem d_L_law_1141 : decode c_L_law 1141 = .ok (.aload_n 2, 1) := by decide +kernel
theorem d_L_law_1142 : decode c_L_law 1142 = .ok (.invokevirtual 80, 3) := by decide +kernel
theorem d_L_law_1145 : decode c_L_law 1145 = .ok (.iload 6, 2) := by decide +kernel
theorem d_L_law_1147 : decode c_L_law 1147 = .ok (.if_icmp .eq 5, 3) := by decide +kernel
theorem d_L_law_1150 : decode c_L_law 1150 = .ok (.iconst 0, 1) := by decide +kernel
theorem d_L_law_1151 : decode c_L_law 1151 = .ok (.ireturn, 1) := by decide +kernel
theorem d_L_law_1152 : decode c_L_law 1152 = .ok (.iload 6, 2) := by decide +kernel
theorem d_L_law_1154 : decode c_L_law 1154 = .ok (.ifCond .ne 15, 3) := by decide +kernel
theorem d_L_law_1157 : decode c_L_law 1157 = .ok (.aload_n 3, 1) := by decide +kernel
theorem d_L_law_1158 : decode c_L_law 1158 = .ok (.iconst 0, 1) := by decide +kernel
theorem d_L_law_1159 : decode c_L_law 1159 = .ok (.laload, 1) := by decide +kernel
theorem d_L_law_1160 : decode c_L_law 1160 = .ok (.iload 7, 2) := by decide +kernel
theorem d_L_law_1162 : decode c_L_law 1162 = .ok (.i2l, 1) := by decide +kernel
theorem d_L_law_1163 : decode c_L_law 1163 = .ok (.lcmp, 1) := by decide +kernel
theorem d_L_law_1164 : decode c_L_law 1164 = .ok (.ifCond .eq 5, 3) := by decide +kernel
theorem d_L_law_1167 : decode c_L_law 1167 = .ok (.iconst 0, 1) := by decide +kernel
theorem d_L_law_1168 : decode c_L_law 1168 = .ok (.ireturn, 1) := by decide +kernel
theorem d_L_law_1169 : decode c_L_law 1169 = .ok (.goto 3, 3) := by decide +kernel
theorem d_L_law_1172 : decode c_L_law 1172 = .ok (.iinc 5 4, 3) := by decide +kernel
theorem d_L_law_1175 : decode c_L_law 1175 = .ok (.goto (-1147), 3) := by decide +kernel
theorem d_L_law_1178 : decode c_L_law 1178 = .ok (.iconst 1, 1) := by decide +kernel
theorem d_L_law_1179 : decode c_L_law 1179 = .ok (.ireturn, 1) := by decide +kernel
