theorem d_Law_law_1058 : decode code 1058 = .ok (.invokevirtual 151, 3) := by decide +kernel
theorem d_Law_law_1061 : decode code 1061 = .ok (.if_icmp .eq 320, 3) := by decide +kernel
theorem d_Law_law_1064 : decode code 1064 = .ok (.iconst 0, 1) := by decide +kernel
theorem d_Law_law_1065 : decode code 1065 = .ok (.ireturn, 1) := by decide +kernel
theorem d_Law_law_1066 : decode code 1066 = .ok (.aload_n 1, 1) := by decide +kernel
theorem d_Law_law_1067 : decode code 1067 = .ok (.aload_n 0, 1) := by decide +kernel
theorem d_Law_law_1068 : decode code 1068 = .ok (.iload 4, 2) := by decide +kernel
theorem d_Law_law_1070 : decode code 1070 = .ok (.iconst 1, 1) := by decide +kernel
theorem d_Law_law_1071 : decode code 1071 = .ok (.iadd, 1) := by decide +kernel
theorem d_Law_law_1072 : decode code 1072 = .ok (.iaload, 1) := by decide +kernel
theorem d_Law_law_1073 : decode code 1073 = .ok (.aload_n 0, 1) := by decide +kernel
theorem d_Law_law_1074 : decode code 1074 = .ok (.iload 4, 2) := by decide +kernel
theorem d_Law_law_1076 : decode code 1076 = .ok (.iconst 2, 1) := by decide +kernel
theorem d_Law_law_1077 : decode code 1077 = .ok (.iadd, 1) := by decide +kernel
theorem d_Law_law_1078 : decode code 1078 = .ok (.iaload, 1) := by decide +kernel
theorem d_Law_law_1079 : decode code 1079 = .ok (.invokevirtual 152, 3) := by decide +kernel
theorem d_Law_law_1082 : decode code 1082 = .ok (.aload_n 2, 1) := by decide +kernel
theorem d_Law_law_1083 : decode code 1083 = .ok (.aload_n 0, 1) := by decide +kernel
theorem d_Law_law_1084 : decode code 1084 = .ok (.iload 4, 2) := by decide +kernel
theorem d_Law_law_1086 : decode code 1086 = .ok (.iconst 1, 1) := by decide +kernel
theorem d_Law_law_1087 : decode code 1087 = .ok (.iadd, 1) := by decide +kernel
theorem d_Law_law_1088 : decode code 1088 = .ok (.iaload, 1) := by decide +kernel
theorem d_Law_law_1089 : decode code 1089 = .ok (.aload_n 0, 1) := by decide +kernel
theorem d_Law_law_1090 : decode code 1090 = .ok (.iload 4, 2) := by decide +kernel
theorem d_Law_law_1092 : decode code 1092 = .ok (.iconst 2, 1) := by decide +kernel
theorem d_Law_law_1093 : decode code 1093 = .ok (.iadd, 1) := by decide +kernel
theorem d_Law_law_1094 : decode code 1094 = .ok (.iaload, 1) := by decide +kernel
theorem d_Law_law_1095 : decode code 1095 = .ok (.invokevirtual 155, 3) := by decide +kernel
theorem d_Law_law_1098 : decode code 1098 = .ok (.if_icmp .eq 283, 3) := by decide +kernel
theorem d_Law_law_1101 : decode code 1101 = .ok (.iconst 0, 1) := by decide +kernel
theorem d_Law_law_1102 : decode code 1102 = .ok (.ireturn, 1) := by decide +kernel
theorem d_Law_law_1103 : decode code 1103 = .ok (.aload_n 1, 1) := by decide +kernel
theorem d_Law_law_1104 : decode code 1104 = .ok (.aload_n 0, 1) := by decide +kernel
theorem d_Law_law_1105 : decode code 1105 = .ok (.iload 4, 2) := by decide +kernel
theorem d_Law_law_1107 : decode code 1107 = .ok (.iconst 1, 1) := by decide +kernel
theorem d_Law_law_1108 : decode code 1108 = .ok (.iadd, 1) := by decide +kernel
theorem d_Law_law_1109 : decode code 1109 = .ok (.iaload, 1) := by decide +kernel
theorem d_Law_law_1110 : decode code 1110 = .ok (.invokevirtual 156, 3) := by decide +kernel
theorem d_Law_law_1113 : decode code 1113 = .ok (.aload_n 2, 1) := by decide +kernel
theorem d_Law_law_1114 : decode code 1114 = .ok (.aload_n 0, 1) := by decide +kernel
theorem d_Law_law_1115 : decode code 1115 = .ok (.iload 4, 2) := by decide +kernel
theorem d_Law_law_1117 : decode code 1117 = .ok (.iconst 1, 1) := by decide +kernel
theorem d_Law_law_1118 : decode code 1118 = .ok (.iadd, 1) := by decide +kernel
theorem d_Law_law_1119 : decode code 1119 = .ok (.iaload, 1) := by decide +kernel
theorem d_Law_law_1120 : decode code 1120 = .ok (.invokevirtual 159, 3) := by decide +kernel
theorem d_Law_law_1123 : decode code 1123 = .ok (.if_icmp .eq 258, 3) := by decide +kernel
theorem d_Law_law_1126 : decode code 1126 = .ok (.iconst 0, 1) := by decide +kernel
theorem d_Law_law_1127 : decode code 1127 = .ok (.ireturn, 1) := by decide +kernel
theorem d_Law_law_1128 : decode code 1128 = .ok (.aload_n 1, 1) := by decide +kernel
theorem d_Law_law_1129 : decode code 1129 = .ok (.invokevirtual 160, 3) := by decide +kernel
theorem d_Law_law_1132 : decode code 1132 = .ok (.aload_n 2, 1) := by decide +kernel
theorem d_Law_law_1133 : decode code 1133 = .ok (.invokevirtual 163, 3) := by decide +kernel
theorem d_Law_law_1136 : decode code 1136 = .ok (.if_icmp .eq 245, 3) := by decide +kernel
theorem d_Law_law_1139 : decode code 1139 = .ok (.iconst 0, 1) := by decide +kernel
theorem d_Law_law_1140 : decode code 1140 = .ok (.ireturn, 1) := by decide +kernel
theorem d_Law_law_1141 : decode code 1141 = .ok (.aload_n 1, 1) := by decide +kernel
theorem d_Law_law_1142 : decode code 1142 = .ok (.aload_n 0, 1) := by decide +kernel
theorem d_Law_law_1143 : decode code 1143 = .ok (.iload 4, 2) := by decide +kernel
theorem d_Law_law_1145 : decode code 1145 = .ok (.iconst 1, 1) := by decide +kernel
theorem d_Law_law_1146 : decode code 1146 = .ok (.iadd, 1) := by decide +kernel
theorem d_Law_law_1147 : decode code 1147 = .ok (.iaload, 1) := by decide +kernel
theorem d_Law_law_1148 : decode code 1148 = .ok (.invokevirtual 164, 3) := by decide +kernel
theorem d_Law_law_1151 : decode code 1151 = .ok (.aload_n 2, 1) := by decide +kernel
theorem d_Law_law_1152 : decode code 1152 = .ok (.aload_n 0, 1) := by decide +kernel
theorem d_Law_law_1153 : decode code 1153 = .ok (.iload 4, 2) := by decide +kernel
theorem d_Law_law_1155 : decode code 1155 = .ok (.iconst 1, 1) := by decide +kernel
theorem d_Law_law_1156 : decode code 1156 = .ok (.iadd, 1) := by decide +kernel
theorem d_Law_law_1157 : decode code 1157 = .ok (.iaload, 1) := by decide +kernel
theorem d_Law_law_1158 : decode code 1158 = .ok (.invokevirtual 167, 3) := by decide +kernel
theorem d_Law_law_1161 : decode code 1161 = .ok (.if_icmp .eq 220, 3) := by decide +kernel
theorem d_Law_law_1164 : decode code 1164 = .ok (.iconst 0, 1) := by decide +kernel
theorem d_Law_law_1165 : decode code 1165 = .ok (.ireturn, 1) := by decide +kernel
theorem d_Law_law_1166 : decode code 1166 = .ok (.aload_n 1, 1) := by decide +kernel
theorem d_Law_law_1167 : decode code 1167 = .ok (.aload_n 0, 1) := by decide +kernel
theorem d_Law_law_1168 : decode code 1168 = .ok (.iload 4, 2) := by decide +kernel
theorem d_Law_law_1170 : decode code 1170 = .ok (.iconst 1, 1) := by decide +kernel
theorem d_Law_law_1171 : decode code 1171 = .ok (.iadd, 1) := by decide +kernel
theorem d_Law_law_1172 : decode code 1172 = .ok (.iaload, 1) := by decide +kernel
theorem d_Law_law_1173 : decode code 1173 = .ok (.aload_n 0, 1) := by decide +kernel
theorem d_Law_law_1174 : decode code 1174 = .ok (.iload 4, 2) := by decide +kernel
theorem d_Law_law_1176 : decode code 1176 = .ok (.iconst 2, 1) := by decide +kernel
theorem d_Law_law_1177 : decode code 1177 = .ok (.iadd, 1) := by decide +kernel
theorem d_Law_law_1178 : decode code 1178 = .ok (.iaload, 1) := by decide +kernel
theorem d_Law_law_1179 : decode code 1179 = .ok (.aload_n 0, 1) := by decide +kernel
theorem d_Law_law_1180 : decode code 1180 = .ok (.iload 4, 2) := by decide +kernel
theorem d_Law_law_1182 : decode code 1182 = .ok (.iconst 3, 1) := by decide +kernel
theorem d_Law_law_1183 : decode code 1183 = .ok (.iadd, 1) := by decide +kernel
theorem d_Law_law_1184 : decode code 1184 = .ok (.iaload, 1) := by decide +kernel
theorem d_Law_law_1185 : decode code 1185 = .ok (.aload_n 3, 1) := by decide +kernel
theorem d_Law_law_1186 : decode code 1186 = .ok (.invokestatic 168, 3) := by decide +kernel
theorem d_Law_law_1189 : decode code 1189 = .ok (.istore 5, 2) := by decide +kernel
theorem d_Law_law_1191 : decode code 1191 = .ok (.aload_n 2, 1) := by decide +kernel
theorem d_Law_law_1192 : decode code 1192 = .ok (.aload_n 0, 1) := by decide +kernel
theorem d_Law_law_1193 : decode code 1193 = .ok (.iload 4, 2) := by decide +kernel
theorem d_Law_law_1195 : decode code 1195 = .ok (.iconst 1, 1) := by decide +kernel
theorem d_Law_law_1196 : decode code 1196 = .ok (.iadd, 1) := by decide +kernel
theorem d_Law_law_1197 : decode code 1197 = .ok (.iaload, 1) := by decide +kernel
theorem d_Law_law_1198 : decode code 1198 = .ok (.aload_n 0, 1) := by decide +kernel
theorem d_Law_law_1199 : decode code 1199 = .ok (.iload 4, 2) := by decide +kernel
theorem d_Law_law_1201 : decode code 1201 = .ok (.iconst 2, 1) := by decide +kernel
theorem d_Law_law_1202 : decode code 1202 = .ok (.iadd, 1) := by decide +kernel
theorem d_Law_law_1203 : decode code 1203 = .ok (.iaload, 1) := by decide +kernel
theorem d_Law_law_1204 : decode code 1204 = .ok (.aload_n 0, 1) := by decide +kernel
theorem d_Law_law_1205 : decode code 1205 = .ok (.iload 4, 2) := by decide +kernel
theorem d_Law_law_1207 : decode code 1207 = .ok (.iconst 3, 1) := by decide +kernel
theorem d_Law_law_1208 : decode code 1208 = .ok (.iadd, 1) := by decide +kernel
theorem d_Law_law_1209 : decode code 1209 = .ok (.iaload, 1) := by decide +kernel
theorem d_Law_law_1210 : decode code 1210 = .ok (.invokevirtual 171, 3) := by decide +kernel
theorem d_Law_law_1213 : decode code 1213 = .ok (.lstore 6, 2) := by decide +kernel
theorem d_Law_law_1215 : decode code 1215 = .ok (.aload_n 2, 1) := by decide +kernel
theorem d_Law_law_1216 : decode code 1216 = .ok (.invokevirtual 61, 3) := by decide +kernel
theorem d_Law_law_1219 : decode code 1219 = .ok (.iload 5, 2) := by decide +kernel
theorem d_Law_law_1221 : decode code 1221 = .ok (.if_icmp .eq 5, 3) := by decide +kernel
theorem d_Law_law_1224 : decode code 1224 = .ok (.iconst 0, 1) := by decide +kernel
theorem d_Law_law_1225 : decode code 1225 = .ok (.ireturn, 1) := by decide +kernel
theorem d_Law_law_1226 : decode code 1226 = .ok (.iload 5, 2) := by decide +kernel
theorem d_Law_law_1228 : decode code 1228 = .ok (.ifCond .ne 14, 3) := by decide +kernel
theorem d_Law_law_1231 : decode code 1231 = .ok (.aload_n 3, 1) := by decide +kernel
theorem d_Law_law_1232 : decode code 1232 = .ok (.iconst 0, 1) := by decide +kernel
theorem d_Law_law_1233 : decode code 1233 = .ok (.laload, 1) := by decide +kernel
