/-! the law: its instructions -/
theorem dL_1078 : decode code 1078 = .ok (.iload_n 3, 1) := by decide +kernel
theorem dL_1079 : decode code 1079 = .ok (.iconst 2, 1) := by decide +kernel
theorem dL_1080 : decode code 1080 = .ok (.iadd, 1) := by decide +kernel
theorem dL_1081 : decode code 1081 = .ok (.iaload, 1) := by decide +kernel
theorem dL_1082 : decode code 1082 = .ok (.aload_n 0, 1) := by decide +kernel
theorem dL_1083 : decode code 1083 = .ok (.iload_n 3, 1) := by decide +kernel
theorem dL_1084 : decode code 1084 = .ok (.iconst 3, 1) := by decide +kernel
theorem dL_1085 : decode code 1085 = .ok (.iadd, 1) := by decide +kernel
theorem dL_1086 : decode code 1086 = .ok (.iaload, 1) := by decide +kernel
theorem dL_1087 : decode code 1087 = .ok (.aload_n 0, 1) := by decide +kernel
theorem dL_1088 : decode code 1088 = .ok (.iload_n 3, 1) := by decide +kernel
theorem dL_1089 : decode code 1089 = .ok (.iconst 4, 1) := by decide +kernel
theorem dL_1090 : decode code 1090 = .ok (.iadd, 1) := by decide +kernel
theorem dL_1091 : decode code 1091 = .ok (.iaload, 1) := by decide +kernel
theorem dL_1092 : decode code 1092 = .ok (.invokevirtual 132, 3) := by decide +kernel
theorem dL_1095 : decode code 1095 = .ok (.if_icmp .eq 236, 3) := by decide +kernel
theorem dL_1098 : decode code 1098 = .ok (.iconst 0, 1) := by decide +kernel
theorem dL_1099 : decode code 1099 = .ok (.ireturn, 1) := by decide +kernel
theorem dL_1100 : decode code 1100 = .ok (.aload_n 1, 1) := by decide +kernel
theorem dL_1101 : decode code 1101 = .ok (.aload_n 0, 1) := by decide +kernel
theorem dL_1102 : decode code 1102 = .ok (.iload_n 3, 1) := by decide +kernel
theorem dL_1103 : decode code 1103 = .ok (.iconst 1, 1) := by decide +kernel
theorem dL_1104 : decode code 1104 = .ok (.iadd, 1) := by decide +kernel
theorem dL_1105 : decode code 1105 = .ok (.iaload, 1) := by decide +kernel
theorem dL_1106 : decode code 1106 = .ok (.aload_n 0, 1) := by decide +kernel
theorem dL_1107 : decode code 1107 = .ok (.iload_n 3, 1) := by decide +kernel
theorem dL_1108 : decode code 1108 = .ok (.iconst 2, 1) := by decide +kernel
theorem dL_1109 : decode code 1109 = .ok (.iadd, 1) := by decide +kernel
theorem dL_1110 : decode code 1110 = .ok (.iaload, 1) := by decide +kernel
theorem dL_1111 : decode code 1111 = .ok (.invokevirtual 133, 3) := by decide +kernel
theorem dL_1114 : decode code 1114 = .ok (.aload_n 2, 1) := by decide +kernel
theorem dL_1115 : decode code 1115 = .ok (.aload_n 0, 1) := by decide +kernel
theorem dL_1116 : decode code 1116 = .ok (.iload_n 3, 1) := by decide +kernel
theorem dL_1117 : decode code 1117 = .ok (.iconst 1, 1) := by decide +kernel
theorem dL_1118 : decode code 1118 = .ok (.iadd, 1) := by decide +kernel
theorem dL_1119 : decode code 1119 = .ok (.iaload, 1) := by decide +kernel
theorem dL_1120 : decode code 1120 = .ok (.aload_n 0, 1) := by decide +kernel
theorem dL_1121 : decode code 1121 = .ok (.iload_n 3, 1) := by decide +kernel
theorem dL_1122 : decode code 1122 = .ok (.iconst 2, 1) := by decide +kernel
theorem dL_1123 : decode code 1123 = .ok (.iadd, 1) := by decide +kernel
theorem dL_1124 : decode code 1124 = .ok (.iaload, 1) := by decide +kernel
theorem dL_1125 : decode code 1125 = .ok (.invokevirtual 136, 3) := by decide +kernel
theorem dL_1128 : decode code 1128 = .ok (.if_icmp .eq 203, 3) := by decide +kernel
theorem dL_1131 : decode code 1131 = .ok (.iconst 0, 1) := by decide +kernel
theorem dL_1132 : decode code 1132 = .ok (.ireturn, 1) := by decide +kernel
theorem dL_1133 : decode code 1133 = .ok (.aload_n 1, 1) := by decide +kernel
theorem dL_1134 : decode code 1134 = .ok (.aload_n 0, 1) := by decide +kernel
theorem dL_1135 : decode code 1135 = .ok (.iload_n 3, 1) := by decide +kernel
theorem dL_1136 : decode code 1136 = .ok (.iconst 1, 1) := by decide +kernel
theorem dL_1137 : decode code 1137 = .ok (.iadd, 1) := by decide +kernel
theorem dL_1138 : decode code 1138 = .ok (.iaload, 1) := by decide +kernel
theorem dL_1139 : decode code 1139 = .ok (.aload_n 0, 1) := by decide +kernel
theorem dL_1140 : decode code 1140 = .ok (.iload_n 3, 1) := by decide +kernel
theorem dL_1141 : decode code 1141 = .ok (.iconst 2, 1) := by decide +kernel
theorem dL_1142 : decode code 1142 = .ok (.iadd, 1) := by decide +kernel
theorem dL_1143 : decode code 1143 = .ok (.iaload, 1) := by decide +kernel
theorem dL_1144 : decode code 1144 = .ok (.invokevirtual 137, 3) := by decide +kernel
theorem dL_1147 : decode code 1147 = .ok (.aload_n 2, 1) := by decide +kernel
theorem dL_1148 : decode code 1148 = .ok (.aload_n 0, 1) := by decide +kernel
theorem dL_1149 : decode code 1149 = .ok (.iload_n 3, 1) := by decide +kernel
theorem dL_1150 : decode code 1150 = .ok (.iconst 1, 1) := by decide +kernel
theorem dL_1151 : decode code 1151 = .ok (.iadd, 1) := by decide +kernel
theorem dL_1152 : decode code 1152 = .ok (.iaload, 1) := by decide +kernel
theorem dL_1153 : decode code 1153 = .ok (.aload_n 0, 1) := by decide +kernel
theorem dL_1154 : decode code 1154 = .ok (.iload_n 3, 1) := by decide +kernel
theorem dL_1155 : decode code 1155 = .ok (.iconst 2, 1) := by decide +kernel
theorem dL_1156 : decode code 1156 = .ok (.iadd, 1) := by decide +kernel
theorem dL_1157 : decode code 1157 = .ok (.iaload, 1) := by decide +kernel
theorem dL_1158 : decode code 1158 = .ok (.invokevirtual 140, 3) := by decide +kernel
theorem dL_1161 : decode code 1161 = .ok (.if_icmp .eq 170, 3) := by decide +kernel
theorem dL_1164 : decode code 1164 = .ok (.iconst 0, 1) := by decide +kernel
theorem dL_1165 : decode code 1165 = .ok (.ireturn, 1) := by decide +kernel
theorem dL_1166 : decode code 1166 = .ok (.aload_n 1, 1) := by decide +kernel
theorem dL_1167 : decode code 1167 = .ok (.aload_n 0, 1) := by decide +kernel
theorem dL_1168 : decode code 1168 = .ok (.iload_n 3, 1) := by decide +kernel
theorem dL_1169 : decode code 1169 = .ok (.iconst 1, 1) := by decide +kernel
theorem dL_1170 : decode code 1170 = .ok (.iadd, 1) := by decide +kernel
theorem dL_1171 : decode code 1171 = .ok (.iaload, 1) := by decide +kernel
theorem dL_1172 : decode code 1172 = .ok (.aload_n 0, 1) := by decide +kernel
theorem dL_1173 : decode code 1173 = .ok (.iload_n 3, 1) := by decide +kernel
theorem dL_1174 : decode code 1174 = .ok (.iconst 2, 1) := by decide +kernel
theorem dL_1175 : decode code 1175 = .ok (.iadd, 1) := by decide +kernel
theorem dL_1176 : decode code 1176 = .ok (.iaload, 1) := by decide +kernel
theorem dL_1177 : decode code 1177 = .ok (.invokevirtual 141, 3) := by decide +kernel
theorem dL_1180 : decode code 1180 = .ok (.aload_n 2, 1) := by decide +kernel
theorem dL_1181 : decode code 1181 = .ok (.aload_n 0, 1) := by decide +kernel
theorem dL_1182 : decode code 1182 = .ok (.iload_n 3, 1) := by decide +kernel
theorem dL_1183 : decode code 1183 = .ok (.iconst 1, 1) := by decide +kernel
theorem dL_1184 : decode code 1184 = .ok (.iadd, 1) := by decide +kernel
theorem dL_1185 : decode code 1185 = .ok (.iaload, 1) := by decide +kernel
theorem dL_1186 : decode code 1186 = .ok (.aload_n 0, 1) := by decide +kernel
theorem dL_1187 : decode code 1187 = .ok (.iload_n 3, 1) := by decide +kernel
theorem dL_1188 : decode code 1188 = .ok (.iconst 2, 1) := by decide +kernel
theorem dL_1189 : decode code 1189 = .ok (.iadd, 1) := by decide +kernel
theorem dL_1190 : decode code 1190 = .ok (.iaload, 1) := by decide +kernel
theorem dL_1191 : decode code 1191 = .ok (.invokevirtual 144, 3) := by decide +kernel
theorem dL_1194 : decode code 1194 = .ok (.if_icmp .eq 137, 3) := by decide +kernel
theorem dL_1197 : decode code 1197 = .ok (.iconst 0, 1) := by decide +kernel
theorem dL_1198 : decode code 1198 = .ok (.ireturn, 1) := by decide +kernel
theorem dL_1199 : decode code 1199 = .ok (.aload_n 1, 1) := by decide +kernel
theorem dL_1200 : decode code 1200 = .ok (.aload_n 0, 1) := by decide +kernel
theorem dL_1201 : decode code 1201 = .ok (.iload_n 3, 1) := by decide +kernel
theorem dL_1202 : decode code 1202 = .ok (.iconst 1, 1) := by decide +kernel
theorem dL_1203 : decode code 1203 = .ok (.iadd, 1) := by decide +kernel
theorem dL_1204 : decode code 1204 = .ok (.iaload, 1) := by decide +kernel
theorem dL_1205 : decode code 1205 = .ok (.invokevirtual 145, 3) := by decide +kernel
theorem dL_1208 : decode code 1208 = .ok (.aload_n 2, 1) := by decide +kernel
theorem dL_1209 : decode code 1209 = .ok (.aload_n 0, 1) := by decide +kernel
theorem dL_1210 : decode code 1210 = .ok (.iload_n 3, 1) := by decide +kernel
theorem dL_1211 : decode code 1211 = .ok (.iconst 1, 1) := by decide +kernel
theorem dL_1212 : decode code 1212 = .ok (.iadd, 1) := by decide +kernel
theorem dL_1213 : decode code 1213 = .ok (.iaload, 1) := by decide +kernel
theorem dL_1214 : decode code 1214 = .ok (.invokevirtual 148, 3) := by decide +kernel
theorem dL_1217 : decode code 1217 = .ok (.if_icmp .eq 114, 3) := by decide +kernel
theorem dL_1220 : decode code 1220 = .ok (.iconst 0, 1) := by decide +kernel
theorem dL_1221 : decode code 1221 = .ok (.ireturn, 1) := by decide +kernel
theorem dL_1222 : decode code 1222 = .ok (.aload_n 1, 1) := by decide +kernel
theorem dL_1223 : decode code 1223 = .ok (.aload_n 0, 1) := by decide +kernel
theorem dL_1224 : decode code 1224 = .ok (.iload_n 3, 1) := by decide +kernel
theorem dL_1225 : decode code 1225 = .ok (.iconst 1, 1) := by decide +kernel
theorem dL_1226 : decode code 1226 = .ok (.iadd, 1) := by decide +kernel
theorem dL_1227 : decode code 1227 = .ok (.iaload, 1) := by decide +kernel
theorem dL_1228 : decode code 1228 = .ok (.aload_n 0, 1) := by decide +kernel
theorem dL_1229 : decode code 1229 = .ok (.iload_n 3, 1) := by decide +kernel
theorem dL_1230 : decode code 1230 = .ok (.iconst 2, 1) := by decide +kernel
theorem dL_1231 : decode code 1231 = .ok (.iadd, 1) := by decide +kernel
theorem dL_1232 : decode code 1232 = .ok (.iaload, 1) := by decide +kernel
theorem dL_1233 : decode code 1233 = .ok (.aload_n 0, 1) := by decide +kernel
theorem dL_1234 : decode code 1234 = .ok (.iload_n 3, 1) := by decide +kernel
theorem dL_1235 : decode code 1235 = .ok (.iconst 3, 1) := by decide +kernel
theorem dL_1236 : decode code 1236 = .ok (.iadd, 1) := by decide +kernel
theorem dL_1237 : decode code 1237 = .ok (.iaload, 1) := by decide +kernel
theorem dL_1238 : decode code 1238 = .ok (.invokevirtual 149, 3) := by decide +kernel
theorem dL_1241 : decode code 1241 = .ok (.aload_n 2, 1) := by decide +kernel
theorem dL_1242 : decode code 1242 = .ok (.aload_n 0, 1) := by decide +kernel
theorem dL_1243 : decode code 1243 = .ok (.iload_n 3, 1) := by decide +kernel
theorem dL_1244 : decode code 1244 = .ok (.iconst 1, 1) := by decide +kernel
theorem dL_1245 : decode code 1245 = .ok (.iadd, 1) := by decide +kernel
theorem dL_1246 : decode code 1246 = .ok (.iaload, 1) := by decide +kernel
theorem dL_1247 : decode code 1247 = .ok (.aload_n 0, 1) := by decide +kernel
theorem dL_1248 : decode code 1248 = .ok (.iload_n 3, 1) := by decide +kernel
theorem dL_1249 : decode code 1249 = .ok (.iconst 2, 1) := by decide +kernel
theorem dL_1250 : decode code 1250 = .ok (.iadd, 1) := by decide +kernel
theorem dL_1251 : decode code 1251 = .ok (.iaload, 1) := by decide +kernel
theorem dL_1252 : decode code 1252 = .ok (.aload_n 0, 1) := by decide +kernel
theorem dL_1253 : decode code 1253 = .ok (.iload_n 3, 1) := by decide +kernel
theorem dL_1254 : decode code 1254 = .ok (.iconst 3, 1) := by decide +kernel
theorem dL_1255 : decode code 1255 = .ok (.iadd, 1) := by decide +kernel
theorem dL_1256 : decode code 1256 = .ok (.iaload, 1) := by decide +kernel
theorem dL_1257 : decode code 1257 = .ok (.invokevirtual 152, 3) := by decide +kernel
theorem dL_1260 : decode code 1260 = .ok (.if_icmp .eq 71, 3) := by decide +kernel
theorem dL_1263 : decode code 1263 = .ok (.iconst 0, 1) := by decide +kernel
theorem dL_1264 : decode code 1264 = .ok (.ireturn, 1) := by decide +kernel
theorem dL_1265 : decode code 1265 = .ok (.aload_n 1, 1) := by decide +kernel
theorem dL_1266 : decode code 1266 = .ok (.aload_n 0, 1) := by decide +kernel
theorem dL_1267 : decode code 1267 = .ok (.iload_n 3, 1) := by decide +kernel
theorem dL_1268 : decode code 1268 = .ok (.iconst 1, 1) := by decide +kernel
theorem dL_1269 : decode code 1269 = .ok (.iadd, 1) := by decide +kernel
theorem dL_1270 : decode code 1270 = .ok (.iaload, 1) := by decide +kernel
theorem dL_1271 : decode code 1271 = .ok (.aload_n 0, 1) := by decide +kernel
theorem dL_1272 : decode code 1272 = .ok (.iload_n 3, 1) := by decide +kernel
theorem dL_1273 : decode code 1273 = .ok (.iconst 2, 1) := by decide +kernel
theorem dL_1274 : decode code 1274 = .ok (.iadd, 1) := by decide +kernel
theorem dL_1275 : decode code 1275 = .ok (.iaload, 1) := by decide +kernel
theorem dL_1276 : decode code 1276 = .ok (.aload_n 0, 1) := by decide +kernel
theorem dL_1277 : decode code 1277 = .ok (.iload_n 3, 1) := by decide +kernel
theorem dL_1278 : decode code 1278 = .ok (.iconst 3, 1) := by decide +kernel
theorem dL_1279 : decode code 1279 = .ok (.iadd, 1) := by decide +kernel
theorem dL_1280 : decode code 1280 = .ok (.iaload, 1) := by decide +kernel
theorem dL_1281 : decode code 1281 = .ok (.invokevirtual 153, 3) := by decide +kernel
theorem dL_1284 : decode code 1284 = .ok (.aload_n 2, 1) := by decide +kernel
theorem dL_1285 : decode code 1285 = .ok (.aload_n 0, 1) := by decide +kernel
theorem dL_1286 : decode code 1286 = .ok (.iload_n 3, 1) := by decide +kernel
theorem dL_1287 : decode code 1287 = .ok (.iconst 1, 1) := by decide +kernel
theorem dL_1288 : decode code 1288 = .ok (.iadd, 1) := by decide +kernel
theorem dL_1289 : decode code 1289 = .ok (.iaload, 1) := by decide +kernel
theorem dL_1290 : decode code 1290 = .ok (.aload_n 0, 1) := by decide +kernel
theorem dL_1291 : decode code 1291 = .ok (.iload_n 3, 1) := by decide +kernel
theorem dL_1292 : decode code 1292 = .ok (.iconst 2, 1) := by decide +kernel
theorem dL_1293 : decode code 1293 = .ok (.iadd, 1) := by decide +kernel
theorem dL_1294 : decode code 1294 = .ok (.iaload, 1) := by decide +kernel
theorem dL_1295 : decode code 1295 = .ok (.aload_n 0, 1) := by decide +kernel
theorem dL_1296 : decode code 1296 = .ok (.iload_n 3, 1) := by decide +kernel
theorem dL_1297 : decode code 1297 = .ok (.iconst 3, 1) := by decide +kernel
theorem dL_1298 : decode code 1298 = .ok (.iadd, 1) := by decide +kernel
theorem dL_1299 : decode code 1299 = .ok (.iaload, 1) := by decide +kernel
theorem dL_1300 : decode code 1300 = .ok (.invokevirtual 156, 3) := by decide +kernel
theorem dL_1303 : decode code 1303 = .ok (.if_icmp .eq 28, 3) := by decide +kernel
theorem dL_1306 : decode code 1306 = .ok (.iconst 0, 1) := by decide +kernel
theorem dL_1307 : decode code 1307 = .ok (.ireturn, 1) := by decide +kernel
theorem dL_1308 : decode code 1308 = .ok (.aload_n 1, 1) := by decide +kernel
theorem dL_1309 : decode code 1309 = .ok (.aload_n 0, 1) := by decide +kernel
theorem dL_1310 : decode code 1310 = .ok (.iload_n 3, 1) := by decide +kernel
theorem dL_1311 : decode code 1311 = .ok (.iconst 1, 1) := by decide +kernel
theorem dL_1312 : decode code 1312 = .ok (.iadd, 1) := by decide +kernel
theorem dL_1313 : decode code 1313 = .ok (.iaload, 1) := by decide +kernel
theorem dL_1314 : decode code 1314 = .ok (.invokevirtual 157, 3) := by decide +kernel
theorem dL_1317 : decode code 1317 = .ok (.aload_n 2, 1) := by decide +kernel
theorem dL_1318 : decode code 1318 = .ok (.aload_n 0, 1) := by decide +kernel
theorem dL_1319 : decode code 1319 = .ok (.iload_n 3, 1) := by decide +kernel
theorem dL_1320 : decode code 1320 = .ok (.iconst 1, 1) := by decide +kernel
theorem dL_1321 : decode code 1321 = .ok (.iadd, 1) := by decide +kernel
theorem dL_1322 : decode code 1322 = .ok (.iaload, 1) := by decide +kernel
theorem dL_1323 : decode code 1323 = .ok (.invokevirtual 160, 3) := by decide +kernel
theorem dL_1326 : decode code 1326 = .ok (.if_icmp .eq 5, 3) := by decide +kernel
theorem dL_1329 : decode code 1329 = .ok (.iconst 0, 1) := by decide +kernel
theorem dL_1330 : decode code 1330 = .ok (.ireturn, 1) := by decide +kernel
theorem dL_1331 : decode code 1331 = .ok (.iinc 3 6, 3) := by decide +kernel
theorem dL_1334 : decode code 1334 = .ok (.goto (-1316), 3) := by decide +kernel
theorem dL_1337 : decode code 1337 = .ok (.iconst 1, 1) := by decide +kernel
theorem dL_1338 : decode code 1338 = .ok (.ireturn, 1) := by decide +kernel
