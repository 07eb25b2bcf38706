theorem dW_1068 : decode code 1068 = .ok (.iconst 1, 1) := by decide +kernel
theorem dW_1069 : decode code 1069 = .ok (.iadd, 1) := by decide +kernel
theorem dW_1070 : decode code 1070 = .ok (.iaload, 1) := by decide +kernel
theorem dW_1071 : decode code 1071 = .ok (.invokevirtual 161, 3) := by decide +kernel
theorem dW_1074 : decode code 1074 = .ok (.istore 6, 2) := by decide +kernel
theorem dW_1076 : decode code 1076 = .ok (.aload_n 2, 1) := by decide +kernel
theorem dW_1077 : decode code 1077 = .ok (.invokevirtual 115, 3) := by decide +kernel
theorem dW_1080 : decode code 1080 = .ok (.iload 5, 2) := by decide +kernel
theorem dW_1082 : decode code 1082 = .ok (.if_icmp .eq 5, 3) := by decide +kernel
theorem dW_1085 : decode code 1085 = .ok (.iconst 0, 1) := by decide +kernel
theorem dW_1086 : decode code 1086 = .ok (.ireturn, 1) := by decide +kernel
theorem dW_1087 : decode code 1087 = .ok (.iload 5, 2) := by decide +kernel
theorem dW_1089 : decode code 1089 = .ok (.ifCond .ne 15, 3) := by decide +kernel
theorem dW_1092 : decode code 1092 = .ok (.aload_n 3, 1) := by decide +kernel
theorem dW_1093 : decode code 1093 = .ok (.iconst 0, 1) := by decide +kernel
theorem dW_1094 : decode code 1094 = .ok (.laload, 1) := by decide +kernel
theorem dW_1095 : decode code 1095 = .ok (.iload 6, 2) := by decide +kernel
theorem dW_1097 : decode code 1097 = .ok (.i2l, 1) := by decide +kernel
theorem dW_1098 : decode code 1098 = .ok (.lcmp, 1) := by decide +kernel
theorem dW_1099 : decode code 1099 = .ok (.ifCond .eq 5, 3) := by decide +kernel
theorem dW_1102 : decode code 1102 = .ok (.iconst 0, 1) := by decide +kernel
theorem dW_1103 : decode code 1103 = .ok (.ireturn, 1) := by decide +kernel
theorem dW_1104 : decode code 1104 = .ok (.goto 877, 3) := by decide +kernel
theorem dW_1107 : decode code 1107 = .ok (.aload_n 1, 1) := by decide +kernel
theorem dW_1108 : decode code 1108 = .ok (.aload_n 0, 1) := by decide +kernel
theorem dW_1109 : decode code 1109 = .ok (.iload 4, 2) := by decide +kernel
theorem dW_1111 : decode code 1111 = .ok (.iconst 1, 1) := by decide +kernel
theorem dW_1112 : decode code 1112 = .ok (.iadd, 1) := by decide +kernel
theorem dW_1113 : decode code 1113 = .ok (.iaload, 1) := by decide +kernel
theorem dW_1114 : decode code 1114 = .ok (.aload_n 0, 1) := by decide +kernel
theorem dW_1115 : decode code 1115 = .ok (.iload 4, 2) := by decide +kernel
theorem dW_1117 : decode code 1117 = .ok (.iconst 2, 1) := by decide +kernel
theorem dW_1118 : decode code 1118 = .ok (.iadd, 1) := by decide +kernel
theorem dW_1119 : decode code 1119 = .ok (.iaload, 1) := by decide +kernel
theorem dW_1120 : decode code 1120 = .ok (.aload_n 3, 1) := by decide +kernel
theorem dW_1121 : decode code 1121 = .ok (.invokestatic 162, 3) := by decide +kernel
theorem dW_1124 : decode code 1124 = .ok (.istore 5, 2) := by decide +kernel
theorem dW_1126 : decode code 1126 = .ok (.aload_n 2, 1) := by decide +kernel
theorem dW_1127 : decode code 1127 = .ok (.aload_n 0, 1) := by decide +kernel
theorem dW_1128 : decode code 1128 = .ok (.iload 4, 2) := by decide +kernel
theorem dW_1130 : decode code 1130 = .ok (.iconst 1, 1) := by decide +kernel
theorem dW_1131 : decode code 1131 = .ok (.iadd, 1) := by decide +kernel
theorem dW_1132 : decode code 1132 = .ok (.iaload, 1) := by decide +kernel
theorem dW_1133 : decode code 1133 = .ok (.aload_n 0, 1) := by decide +kernel
theorem dW_1134 : decode code 1134 = .ok (.iload 4, 2) := by decide +kernel
theorem dW_1136 : decode code 1136 = .ok (.iconst 2, 1) := by decide +kernel
theorem dW_1137 : decode code 1137 = .ok (.iadd, 1) := by decide +kernel
theorem dW_1138 : decode code 1138 = .ok (.iaload, 1) := by decide +kernel
theorem dW_1139 : decode code 1139 = .ok (.invokevirtual 164, 3) := by decide +kernel
theorem dW_1142 : decode code 1142 = .ok (.istore 6, 2) := by decide +kernel
theorem dW_1144 : decode code 1144 = .ok (.aload_n 2, 1) := by decide +kernel
theorem dW_1145 : decode code 1145 = .ok (.invokevirtual 115, 3) := by decide +kernel
theorem dW_1148 : decode code 1148 = .ok (.iload 5, 2) := by decide +kernel
theorem dW_1150 : decode code 1150 = .ok (.if_icmp .eq 5, 3) := by decide +kernel
theorem dW_1153 : decode code 1153 = .ok (.iconst 0, 1) := by decide +kernel
theorem dW_1154 : decode code 1154 = .ok (.ireturn, 1) := by decide +kernel
theorem dW_1155 : decode code 1155 = .ok (.iload 5, 2) := by decide +kernel
theorem dW_1157 : decode code 1157 = .ok (.ifCond .ne 15, 3) := by decide +kernel
theorem dW_1160 : decode code 1160 = .ok (.aload_n 3, 1) := by decide +kernel
theorem dW_1161 : decode code 1161 = .ok (.iconst 0, 1) := by decide +kernel
theorem dW_1162 : decode code 1162 = .ok (.laload, 1) := by decide +kernel
theorem dW_1163 : decode code 1163 = .ok (.iload 6, 2) := by decide +kernel
theorem dW_1165 : decode code 1165 = .ok (.i2l, 1) := by decide +kernel
theorem dW_1166 : decode code 1166 = .ok (.lcmp, 1) := by decide +kernel
theorem dW_1167 : decode code 1167 = .ok (.ifCond .eq 5, 3) := by decide +kernel
theorem dW_1170 : decode code 1170 = .ok (.iconst 0, 1) := by decide +kernel
theorem dW_1171 : decode code 1171 = .ok (.ireturn, 1) := by decide +kernel
theorem dW_1172 : decode code 1172 = .ok (.goto 809, 3) := by decide +kernel
theorem dW_1175 : decode code 1175 = .ok (.aload_n 1, 1) := by decide +kernel
theorem dW_1176 : decode code 1176 = .ok (.aload_n 0, 1) := by decide +kernel
theorem dW_1177 : decode code 1177 = .ok (.iload 4, 2) := by decide +kernel
theorem dW_1179 : decode code 1179 = .ok (.iconst 1, 1) := by decide +kernel
theorem dW_1180 : decode code 1180 = .ok (.iadd, 1) := by decide +kernel
theorem dW_1181 : decode code 1181 = .ok (.iaload, 1) := by decide +kernel
theorem dW_1182 : decode code 1182 = .ok (.aload_n 3, 1) := by decide +kernel
theorem dW_1183 : decode code 1183 = .ok (.invokestatic 165, 3) := by decide +kernel
theorem dW_1186 : decode code 1186 = .ok (.istore 5, 2) := by decide +kernel
theorem dW_1188 : decode code 1188 = .ok (.aload_n 2, 1) := by decide +kernel
theorem dW_1189 : decode code 1189 = .ok (.aload_n 0, 1) := by decide +kernel
theorem dW_1190 : decode code 1190 = .ok (.iload 4, 2) := by decide +kernel
theorem dW_1192 : decode code 1192 = .ok (.iconst 1, 1) := by decide +kernel
theorem dW_1193 : decode code 1193 = .ok (.iadd, 1) := by decide +kernel
theorem dW_1194 : decode code 1194 = .ok (.iaload, 1) := by decide +kernel
theorem dW_1195 : decode code 1195 = .ok (.invokevirtual 167, 3) := by decide +kernel
theorem dW_1198 : decode code 1198 = .ok (.istore 6, 2) := by decide +kernel
theorem dW_1200 : decode code 1200 = .ok (.aload_n 2, 1) := by decide +kernel
theorem dW_1201 : decode code 1201 = .ok (.invokevirtual 115, 3) := by decide +kernel
theorem dW_1204 : decode code 1204 = .ok (.iload 5, 2) := by decide +kernel
theorem dW_1206 : decode code 1206 = .ok (.if_icmp .eq 5, 3) := by decide +kernel
theorem dW_1209 : decode code 1209 = .ok (.iconst 0, 1) := by decide +kernel
theorem dW_1210 : decode code 1210 = .ok (.ireturn, 1) := by decide +kernel
theorem dW_1211 : decode code 1211 = .ok (.iload 5, 2) := by decide +kernel
theorem dW_1213 : decode code 1213 = .ok (.ifCond .ne 15, 3) := by decide +kernel
theorem dW_1216 : decode code 1216 = .ok (.aload_n 3, 1) := by decide +kernel
theorem dW_1217 : decode code 1217 = .ok (.iconst 0, 1) := by decide +kernel
theorem dW_1218 : decode code 1218 = .ok (.laload, 1) := by decide +kernel
theorem dW_1219 : decode code 1219 = .ok (.iload 6, 2) := by decide +kernel
theorem dW_1221 : decode code 1221 = .ok (.i2l, 1) := by decide +kernel
theorem dW_1222 : decode code 1222 = .ok (.lcmp, 1) := by decide +kernel
theorem dW_1223 : decode code 1223 = .ok (.ifCond .eq 5, 3) := by decide +kernel
theorem dW_1226 : decode code 1226 = .ok (.iconst 0, 1) := by decide +kernel
theorem dW_1227 : decode code 1227 = .ok (.ireturn, 1) := by decide +kernel
theorem dW_1228 : decode code 1228 = .ok (.goto 753, 3) := by decide +kernel
theorem dW_1231 : decode code 1231 = .ok (.aload_n 1, 1) := by decide +kernel
theorem dW_1232 : decode code 1232 = .ok (.aload_n 0, 1) := by decide +kernel
theorem dW_1233 : decode code 1233 = .ok (.iload 4, 2) := by decide +kernel
theorem dW_1235 : decode code 1235 = .ok (.iconst 1, 1) := by decide +kernel
theorem dW_1236 : decode code 1236 = .ok (.iadd, 1) := by decide +kernel
theorem dW_1237 : decode code 1237 = .ok (.iaload, 1) := by decide +kernel
theorem dW_1238 : decode code 1238 = .ok (.aload_n 3, 1) := by decide +kernel
theorem dW_1239 : decode code 1239 = .ok (.invokestatic 168, 3) := by decide +kernel
theorem dW_1242 : decode code 1242 = .ok (.istore 5, 2) := by decide +kernel
theorem dW_1244 : decode code 1244 = .ok (.aload_n 2, 1) := by decide +kernel
theorem dW_1245 : decode code 1245 = .ok (.aload_n 0, 1) := by decide +kernel
theorem dW_1246 : decode code 1246 = .ok (.iload 4, 2) := by decide +kernel
theorem dW_1248 : decode code 1248 = .ok (.iconst 1, 1) := by decide +kernel
theorem dW_1249 : decode code 1249 = .ok (.iadd, 1) := by decide +kernel
theorem dW_1250 : decode code 1250 = .ok (.iaload, 1) := by decide +kernel
theorem dW_1251 : decode code 1251 = .ok (.invokevirtual 170, 3) := by decide +kernel
theorem dW_1254 : decode code 1254 = .ok (.istore 6, 2) := by decide +kernel
theorem dW_1256 : decode code 1256 = .ok (.aload_n 2, 1) := by decide +kernel
theorem dW_1257 : decode code 1257 = .ok (.invokevirtual 115, 3) := by decide +kernel
theorem dW_1260 : decode code 1260 = .ok (.iload 5, 2) := by decide +kernel
theorem dW_1262 : decode code 1262 = .ok (.if_icmp .eq 5, 3) := by decide +kernel
theorem dW_1265 : decode code 1265 = .ok (.iconst 0, 1) := by decide +kernel
theorem dW_1266 : decode code 1266 = .ok (.ireturn, 1) := by decide +kernel
theorem dW_1267 : decode code 1267 = .ok (.iload 5, 2) := by decide +kernel
theorem dW_1269 : decode code 1269 = .ok (.ifCond .ne 15, 3) := by decide +kernel
theorem dW_1272 : decode code 1272 = .ok (.aload_n 3, 1) := by decide +kernel
theorem dW_1273 : decode code 1273 = .ok (.iconst 0, 1) := by decide +kernel
theorem dW_1274 : decode code 1274 = .ok (.laload, 1) := by decide +kernel
theorem dW_1275 : decode code 1275 = .ok (.iload 6, 2) := by decide +kernel
theorem dW_1277 : decode code 1277 = .ok (.i2l, 1) := by decide +kernel
theorem dW_1278 : decode code 1278 = .ok (.lcmp, 1) := by decide +kernel
theorem dW_1279 : decode code 1279 = .ok (.ifCond .eq 5, 3) := by decide +kernel
theorem dW_1282 : decode code 1282 = .ok (.iconst 0, 1) := by decide +kernel
theorem dW_1283 : decode code 1283 = .ok (.ireturn, 1) := by decide +kernel
theorem dW_1284 : decode code 1284 = .ok (.goto 697, 3) := by decide +kernel
theorem dW_1287 : decode code 1287 = .ok (.aload_n 1, 1) := by decide +kernel
theorem dW_1288 : decode code 1288 = .ok (.aload_n 0, 1) := by decide +kernel
theorem dW_1289 : decode code 1289 = .ok (.iload 4, 2) := by decide +kernel
theorem dW_1291 : decode code 1291 = .ok (.iconst 1, 1) := by decide +kernel
theorem dW_1292 : decode code 1292 = .ok (.iadd, 1) := by decide +kernel
theorem dW_1293 : decode code 1293 = .ok (.iaload, 1) := by decide +kernel
theorem dW_1294 : decode code 1294 = .ok (.aload_n 3, 1) := by decide +kernel
theorem dW_1295 : decode code 1295 = .ok (.invokestatic 171, 3) := by decide +kernel
theorem dW_1298 : decode code 1298 = .ok (.istore 5, 2) := by decide +kernel
theorem dW_1300 : decode code 1300 = .ok (.aload_n 2, 1) := by decide +kernel
theorem dW_1301 : decode code 1301 = .ok (.aload_n 0, 1) := by decide +kernel
theorem dW_1302 : decode code 1302 = .ok (.iload 4, 2) := by decide +kernel
