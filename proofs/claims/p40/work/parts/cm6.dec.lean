/-! The law, decoded, 6 -/
theorem dL_law_1120 : decode code 1120 = .ok (.invokevirtual 84, 3) := by decide +kernel
theorem dL_law_1123 : decode code 1123 = .ok (.iconst 1, 1) := by decide +kernel
theorem dL_law_1124 : decode code 1124 = .ok (.if_icmp .ne 142, 3) := by decide +kernel
theorem dL_law_1127 : decode code 1127 = .ok (.aload_n 1, 1) := by decide +kernel
theorem dL_law_1128 : decode code 1128 = .ok (.iconst 1, 1) := by decide +kernel
theorem dL_law_1129 : decode code 1129 = .ok (.iconst 4, 1) := by decide +kernel
theorem dL_law_1130 : decode code 1130 = .ok (.invokevirtual 84, 3) := by decide +kernel
theorem dL_law_1133 : decode code 1133 = .ok (.ifCond .ne 133, 3) := by decide +kernel
theorem dL_law_1136 : decode code 1136 = .ok (.aload_n 1, 1) := by decide +kernel
theorem dL_law_1137 : decode code 1137 = .ok (.iconst 0, 1) := by decide +kernel
theorem dL_law_1138 : decode code 1138 = .ok (.iconst 1, 1) := by decide +kernel
theorem dL_law_1139 : decode code 1139 = .ok (.invokevirtual 81, 3) := by decide +kernel
theorem dL_law_1142 : decode code 1142 = .ok (.iconst 1, 1) := by decide +kernel
theorem dL_law_1143 : decode code 1143 = .ok (.if_icmp .ne 123, 3) := by decide +kernel
theorem dL_law_1146 : decode code 1146 = .ok (.aload_n 1, 1) := by decide +kernel
theorem dL_law_1147 : decode code 1147 = .ok (.iconst 0, 1) := by decide +kernel
theorem dL_law_1148 : decode code 1148 = .ok (.iconst 1, 1) := by decide +kernel
theorem dL_law_1149 : decode code 1149 = .ok (.invokevirtual 113, 3) := by decide +kernel
theorem dL_law_1152 : decode code 1152 = .ok (.iconst 1, 1) := by decide +kernel
theorem dL_law_1153 : decode code 1153 = .ok (.if_icmp .ne 113, 3) := by decide +kernel
theorem dL_law_1156 : decode code 1156 = .ok (.aload_n 1, 1) := by decide +kernel
theorem dL_law_1157 : decode code 1157 = .ok (.iconst 0, 1) := by decide +kernel
theorem dL_law_1158 : decode code 1158 = .ok (.iconst 0, 1) := by decide +kernel
theorem dL_law_1159 : decode code 1159 = .ok (.invokevirtual 113, 3) := by decide +kernel
theorem dL_law_1162 : decode code 1162 = .ok (.iconst 2, 1) := by decide +kernel
theorem dL_law_1163 : decode code 1163 = .ok (.if_icmp .ne 103, 3) := by decide +kernel
theorem dL_law_1166 : decode code 1166 = .ok (.aload_n 1, 1) := by decide +kernel
theorem dL_law_1167 : decode code 1167 = .ok (.iconst 2, 1) := by decide +kernel
theorem dL_law_1168 : decode code 1168 = .ok (.iconst 3, 1) := by decide +kernel
theorem dL_law_1169 : decode code 1169 = .ok (.invokevirtual 141, 3) := by decide +kernel
theorem dL_law_1172 : decode code 1172 = .ok (.ifCond .ne 94, 3) := by decide +kernel
theorem dL_law_1175 : decode code 1175 = .ok (.aload_n 1, 1) := by decide +kernel
theorem dL_law_1176 : decode code 1176 = .ok (.iconst 0, 1) := by decide +kernel
theorem dL_law_1177 : decode code 1177 = .ok (.iconst 0, 1) := by decide +kernel
theorem dL_law_1178 : decode code 1178 = .ok (.invokevirtual 50, 3) := by decide +kernel
theorem dL_law_1181 : decode code 1181 = .ok (.sipush 2001, 3) := by decide +kernel
theorem dL_law_1184 : decode code 1184 = .ok (.if_icmp .ne 82, 3) := by decide +kernel
theorem dL_law_1187 : decode code 1187 = .ok (.aload_n 1, 1) := by decide +kernel
theorem dL_law_1188 : decode code 1188 = .ok (.iconst 1, 1) := by decide +kernel
theorem dL_law_1189 : decode code 1189 = .ok (.invokevirtual 90, 3) := by decide +kernel
theorem dL_law_1192 : decode code 1192 = .ok (.iconst 1, 1) := by decide +kernel
theorem dL_law_1193 : decode code 1193 = .ok (.if_icmp .ne 73, 3) := by decide +kernel
theorem dL_law_1196 : decode code 1196 = .ok (.aload_n 1, 1) := by decide +kernel
theorem dL_law_1197 : decode code 1197 = .ok (.iconst 0, 1) := by decide +kernel
theorem dL_law_1198 : decode code 1198 = .ok (.invokevirtual 90, 3) := by decide +kernel
theorem dL_law_1201 : decode code 1201 = .ok (.ifCond .ne 65, 3) := by decide +kernel
theorem dL_law_1204 : decode code 1204 = .ok (.aload_n 1, 1) := by decide +kernel
theorem dL_law_1205 : decode code 1205 = .ok (.iconst 0, 1) := by decide +kernel
theorem dL_law_1206 : decode code 1206 = .ok (.invokevirtual 96, 3) := by decide +kernel
theorem dL_law_1209 : decode code 1209 = .ok (.iconst 1, 1) := by decide +kernel
theorem dL_law_1210 : decode code 1210 = .ok (.if_icmp .ne 56, 3) := by decide +kernel
theorem dL_law_1213 : decode code 1213 = .ok (.aload_n 1, 1) := by decide +kernel
theorem dL_law_1214 : decode code 1214 = .ok (.invokevirtual 105, 3) := by decide +kernel
theorem dL_law_1217 : decode code 1217 = .ok (.iconst 1, 1) := by decide +kernel
theorem dL_law_1218 : decode code 1218 = .ok (.if_icmp .ne 48, 3) := by decide +kernel
theorem dL_law_1221 : decode code 1221 = .ok (.aload_n 1, 1) := by decide +kernel
theorem dL_law_1222 : decode code 1222 = .ok (.iconst 0, 1) := by decide +kernel
theorem dL_law_1223 : decode code 1223 = .ok (.invokevirtual 144, 3) := by decide +kernel
theorem dL_law_1226 : decode code 1226 = .ok (.iconst 3, 1) := by decide +kernel
theorem dL_law_1227 : decode code 1227 = .ok (.if_icmp .ne 39, 3) := by decide +kernel
theorem dL_law_1230 : decode code 1230 = .ok (.aload_n 1, 1) := by decide +kernel
theorem dL_law_1231 : decode code 1231 = .ok (.iconst 1, 1) := by decide +kernel
theorem dL_law_1232 : decode code 1232 = .ok (.invokevirtual 144, 3) := by decide +kernel
theorem dL_law_1235 : decode code 1235 = .ok (.iconst 2, 1) := by decide +kernel
theorem dL_law_1236 : decode code 1236 = .ok (.if_icmp .ne 30, 3) := by decide +kernel
theorem dL_law_1239 : decode code 1239 = .ok (.aload_n 1, 1) := by decide +kernel
theorem dL_law_1240 : decode code 1240 = .ok (.iconst 2, 1) := by decide +kernel
theorem dL_law_1241 : decode code 1241 = .ok (.invokevirtual 144, 3) := by decide +kernel
theorem dL_law_1244 : decode code 1244 = .ok (.ifCond .ne 22, 3) := by decide +kernel
theorem dL_law_1247 : decode code 1247 = .ok (.aload_n 1, 1) := by decide +kernel
theorem dL_law_1248 : decode code 1248 = .ok (.invokevirtual 87, 3) := by decide +kernel
theorem dL_law_1251 : decode code 1251 = .ok (.ifCond .ne 15, 3) := by decide +kernel
theorem dL_law_1254 : decode code 1254 = .ok (.aload_n 1, 1) := by decide +kernel
theorem dL_law_1255 : decode code 1255 = .ok (.invokevirtual 122, 3) := by decide +kernel
theorem dL_law_1258 : decode code 1258 = .ok (.iconst 3, 1) := by decide +kernel
theorem dL_law_1259 : decode code 1259 = .ok (.if_icmp .ne 7, 3) := by decide +kernel
theorem dL_law_1262 : decode code 1262 = .ok (.iconst 1, 1) := by decide +kernel
theorem dL_law_1263 : decode code 1263 = .ok (.goto 4, 3) := by decide +kernel
theorem dL_law_1266 : decode code 1266 = .ok (.iconst 0, 1) := by decide +kernel
theorem dL_law_1267 : decode code 1267 = .ok (.ireturn, 1) := by decide +kernel
