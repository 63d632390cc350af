/-! decode rows of the law -/
theorem d_L_law_1108 : decode b_L_law 1108 = .ok (.aload_n 0, 1) := by decide +kernel
theorem d_L_law_1109 : decode b_L_law 1109 = .ok (.iload 4, 2) := by decide +kernel
theorem d_L_law_1111 : decode b_L_law 1111 = .ok (.iconst 2, 1) := by decide +kernel
theorem d_L_law_1112 : decode b_L_law 1112 = .ok (.iadd, 1) := by decide +kernel
theorem d_L_law_1113 : decode b_L_law 1113 = .ok (.iaload, 1) := by decide +kernel
theorem d_L_law_1114 : decode b_L_law 1114 = .ok (.i2l, 1) := by decide +kernel
theorem d_L_law_1115 : decode b_L_law 1115 = .ok (.bipush 32, 2) := by decide +kernel
theorem d_L_law_1117 : decode b_L_law 1117 = .ok (.lshl, 1) := by decide +kernel
theorem d_L_law_1118 : decode b_L_law 1118 = .ok (.aload_n 0, 1) := by decide +kernel
theorem d_L_law_1119 : decode b_L_law 1119 = .ok (.iload 4, 2) := by decide +kernel
theorem d_L_law_1121 : decode b_L_law 1121 = .ok (.iconst 3, 1) := by decide +kernel
theorem d_L_law_1122 : decode b_L_law 1122 = .ok (.iadd, 1) := by decide +kernel
theorem d_L_law_1123 : decode b_L_law 1123 = .ok (.iaload, 1) := by decide +kernel
theorem d_L_law_1124 : decode b_L_law 1124 = .ok (.i2l, 1) := by decide +kernel
theorem d_L_law_1125 : decode b_L_law 1125 = .ok (.ldc2_w 110, 3) := by decide +kernel
theorem d_L_law_1128 : decode b_L_law 1128 = .ok (.land, 1) := by decide +kernel
theorem d_L_law_1129 : decode b_L_law 1129 = .ok (.lor, 1) := by decide +kernel
theorem d_L_law_1130 : decode b_L_law 1130 = .ok (.aload_n 3, 1) := by decide +kernel
theorem d_L_law_1131 : decode b_L_law 1131 = .ok (.invokestatic 149, 3) := by decide +kernel
theorem d_L_law_1134 : decode b_L_law 1134 = .ok (.istore 5, 2) := by decide +kernel
theorem d_L_law_1136 : decode b_L_law 1136 = .ok (.aload_n 2, 1) := by decide +kernel
theorem d_L_law_1137 : decode b_L_law 1137 = .ok (.aload_n 0, 1) := by decide +kernel
theorem d_L_law_1138 : decode b_L_law 1138 = .ok (.iload 4, 2) := by decide +kernel
theorem d_L_law_1140 : decode b_L_law 1140 = .ok (.iconst 1, 1) := by decide +kernel
theorem d_L_law_1141 : decode b_L_law 1141 = .ok (.iadd, 1) := by decide +kernel
theorem d_L_law_1142 : decode b_L_law 1142 = .ok (.iaload, 1) := by decide +kernel
theorem d_L_law_1143 : decode b_L_law 1143 = .ok (.aload_n 0, 1) := by decide +kernel
theorem d_L_law_1144 : decode b_L_law 1144 = .ok (.iload 4, 2) := by decide +kernel
theorem d_L_law_1146 : decode b_L_law 1146 = .ok (.iconst 2, 1) := by decide +kernel
theorem d_L_law_1147 : decode b_L_law 1147 = .ok (.iadd, 1) := by decide +kernel
theorem d_L_law_1148 : decode b_L_law 1148 = .ok (.iaload, 1) := by decide +kernel
theorem d_L_law_1149 : decode b_L_law 1149 = .ok (.i2l, 1) := by decide +kernel
theorem d_L_law_1150 : decode b_L_law 1150 = .ok (.bipush 32, 2) := by decide +kernel
theorem d_L_law_1152 : decode b_L_law 1152 = .ok (.lshl, 1) := by decide +kernel
theorem d_L_law_1153 : decode b_L_law 1153 = .ok (.aload_n 0, 1) := by decide +kernel
theorem d_L_law_1154 : decode b_L_law 1154 = .ok (.iload 4, 2) := by decide +kernel
theorem d_L_law_1156 : decode b_L_law 1156 = .ok (.iconst 3, 1) := by decide +kernel
theorem d_L_law_1157 : decode b_L_law 1157 = .ok (.iadd, 1) := by decide +kernel
theorem d_L_law_1158 : decode b_L_law 1158 = .ok (.iaload, 1) := by decide +kernel
theorem d_L_law_1159 : decode b_L_law 1159 = .ok (.i2l, 1) := by decide +kernel
theorem d_L_law_1160 : decode b_L_law 1160 = .ok (.ldc2_w 110, 3) := by decide +kernel
theorem d_L_law_1163 : decode b_L_law 1163 = .ok (.land, 1) := by decide +kernel
theorem d_L_law_1164 : decode b_L_law 1164 = .ok (.lor, 1) := by decide +kernel
theorem d_L_law_1165 : decode b_L_law 1165 = .ok (.invokevirtual 152, 3) := by decide +kernel
theorem d_L_law_1168 : decode b_L_law 1168 = .ok (.lstore 6, 2) := by decide +kernel
theorem d_L_law_1170 : decode b_L_law 1170 = .ok (.aload_n 2, 1) := by decide +kernel
theorem d_L_law_1171 : decode b_L_law 1171 = .ok (.invokevirtual 106, 3) := by decide +kernel
theorem d_L_law_1174 : decode b_L_law 1174 = .ok (.iload 5, 2) := by decide +kernel
theorem d_L_law_1176 : decode b_L_law 1176 = .ok (.if_icmp .eq 5, 3) := by decide +kernel
theorem d_L_law_1179 : decode b_L_law 1179 = .ok (.iconst 0, 1) := by decide +kernel
theorem d_L_law_1180 : decode b_L_law 1180 = .ok (.ireturn, 1) := by decide +kernel
theorem d_L_law_1181 : decode b_L_law 1181 = .ok (.iload 5, 2) := by decide +kernel
theorem d_L_law_1183 : decode b_L_law 1183 = .ok (.ifCond .ne 14, 3) := by decide +kernel
theorem d_L_law_1186 : decode b_L_law 1186 = .ok (.aload_n 3, 1) := by decide +kernel
theorem d_L_law_1187 : decode b_L_law 1187 = .ok (.iconst 0, 1) := by decide +kernel
theorem d_L_law_1188 : decode b_L_law 1188 = .ok (.laload, 1) := by decide +kernel
theorem d_L_law_1189 : decode b_L_law 1189 = .ok (.lload 6, 2) := by decide +kernel
theorem d_L_law_1191 : decode b_L_law 1191 = .ok (.lcmp, 1) := by decide +kernel
theorem d_L_law_1192 : decode b_L_law 1192 = .ok (.ifCond .eq 5, 3) := by decide +kernel
theorem d_L_law_1195 : decode b_L_law 1195 = .ok (.iconst 0, 1) := by decide +kernel
theorem d_L_law_1196 : decode b_L_law 1196 = .ok (.ireturn, 1) := by decide +kernel
theorem d_L_law_1197 : decode b_L_law 1197 = .ok (.goto 530, 3) := by decide +kernel
theorem d_L_law_1200 : decode b_L_law 1200 = .ok (.aload_n 1, 1) := by decide +kernel
theorem d_L_law_1201 : decode b_L_law 1201 = .ok (.aload_n 0, 1) := by decide +kernel
theorem d_L_law_1202 : decode b_L_law 1202 = .ok (.iload 4, 2) := by decide +kernel
theorem d_L_law_1204 : decode b_L_law 1204 = .ok (.iconst 1, 1) := by decide +kernel
theorem d_L_law_1205 : decode b_L_law 1205 = .ok (.iadd, 1) := by decide +kernel
theorem d_L_law_1206 : decode b_L_law 1206 = .ok (.iaload, 1) := by decide +kernel
theorem d_L_law_1207 : decode b_L_law 1207 = .ok (.aload_n 3, 1) := by decide +kernel
theorem d_L_law_1208 : decode b_L_law 1208 = .ok (.invokestatic 153, 3) := by decide +kernel
theorem d_L_law_1211 : decode b_L_law 1211 = .ok (.istore 5, 2) := by decide +kernel
theorem d_L_law_1213 : decode b_L_law 1213 = .ok (.aload_n 2, 1) := by decide +kernel
theorem d_L_law_1214 : decode b_L_law 1214 = .ok (.aload_n 0, 1) := by decide +kernel
theorem d_L_law_1215 : decode b_L_law 1215 = .ok (.iload 4, 2) := by decide +kernel
theorem d_L_law_1217 : decode b_L_law 1217 = .ok (.iconst 1, 1) := by decide +kernel
theorem d_L_law_1218 : decode b_L_law 1218 = .ok (.iadd, 1) := by decide +kernel
theorem d_L_law_1219 : decode b_L_law 1219 = .ok (.iaload, 1) := by decide +kernel
theorem d_L_law_1220 : decode b_L_law 1220 = .ok (.invokevirtual 156, 3) := by decide +kernel
theorem d_L_law_1223 : decode b_L_law 1223 = .ok (.lstore 6, 2) := by decide +kernel
theorem d_L_law_1225 : decode b_L_law 1225 = .ok (.aload_n 2, 1) := by decide +kernel
theorem d_L_law_1226 : decode b_L_law 1226 = .ok (.invokevirtual 106, 3) := by decide +kernel
theorem d_L_law_1229 : decode b_L_law 1229 = .ok (.iload 5, 2) := by decide +kernel
theorem d_L_law_1231 : decode b_L_law 1231 = .ok (.if_icmp .eq 5, 3) := by decide +kernel
theorem d_L_law_1234 : decode b_L_law 1234 = .ok (.iconst 0, 1) := by decide +kernel
theorem d_L_law_1235 : decode b_L_law 1235 = .ok (.ireturn, 1) := by decide +kernel
theorem d_L_law_1236 : decode b_L_law 1236 = .ok (.iload 5, 2) := by decide +kernel
theorem d_L_law_1238 : decode b_L_law 1238 = .ok (.ifCond .ne 14, 3) := by decide +kernel
theorem d_L_law_1241 : decode b_L_law 1241 = .ok (.aload_n 3, 1) := by decide +kernel
theorem d_L_law_1242 : decode b_L_law 1242 = .ok (.iconst 0, 1) := by decide +kernel
theorem d_L_law_1243 : decode b_L_law 1243 = .ok (.laload, 1) := by decide +kernel
theorem d_L_law_1244 : decode b_L_law 1244 = .ok (.lload 6, 2) := by decide +kernel
theorem d_L_law_1246 : decode b_L_law 1246 = .ok (.lcmp, 1) := by decide +kernel
theorem d_L_law_1247 : decode b_L_law 1247 = .ok (.ifCond .eq 5, 3) := by decide +kernel
theorem d_L_law_1250 : decode b_L_law 1250 = .ok (.iconst 0, 1) := by decide +kernel
theorem d_L_law_1251 : decode b_L_law 1251 = .ok (.ireturn, 1) := by decide +kernel
theorem d_L_law_1252 : decode b_L_law 1252 = .ok (.goto 475, 3) := by decide +kernel
theorem d_L_law_1255 : decode b_L_law 1255 = .ok (.aload_n 1, 1) := by decide +kernel
theorem d_L_law_1256 : decode b_L_law 1256 = .ok (.aload_n 0, 1) := by decide +kernel
theorem d_L_law_1257 : decode b_L_law 1257 = .ok (.iload 4, 2) := by decide +kernel
theorem d_L_law_1259 : decode b_L_law 1259 = .ok (.iconst 1, 1) := by decide +kernel
theorem d_L_law_1260 : decode b_L_law 1260 = .ok (.iadd, 1) := by decide +kernel
theorem d_L_law_1261 : decode b_L_law 1261 = .ok (.iaload, 1) := by decide +kernel
theorem d_L_law_1262 : decode b_L_law 1262 = .ok (.aload_n 3, 1) := by decide +kernel
theorem d_L_law_1263 : decode b_L_law 1263 = .ok (.invokestatic 157, 3) := by decide +kernel
theorem d_L_law_1266 : decode b_L_law 1266 = .ok (.istore 5, 2) := by decide +kernel
theorem d_L_law_1268 : decode b_L_law 1268 = .ok (.aload_n 2, 1) := by decide +kernel
theorem d_L_law_1269 : decode b_L_law 1269 = .ok (.aload_n 0, 1) := by decide +kernel
theorem d_L_law_1270 : decode b_L_law 1270 = .ok (.iload 4, 2) := by decide +kernel
theorem d_L_law_1272 : decode b_L_law 1272 = .ok (.iconst 1, 1) := by decide +kernel
theorem d_L_law_1273 : decode b_L_law 1273 = .ok (.iadd, 1) := by decide +kernel
theorem d_L_law_1274 : decode b_L_law 1274 = .ok (.iaload, 1) := by decide +kernel
theorem d_L_law_1275 : decode b_L_law 1275 = .ok (.invokevirtual 159, 3) := by decide +kernel
theorem d_L_law_1278 : decode b_L_law 1278 = .ok (.istore 6, 2) := by decide +kernel
theorem d_L_law_1280 : decode b_L_law 1280 = .ok (.aload_n 2, 1) := by decide +kernel
theorem d_L_law_1281 : decode b_L_law 1281 = .ok (.invokevirtual 106, 3) := by decide +kernel
theorem d_L_law_1284 : decode b_L_law 1284 = .ok (.iload 5, 2) := by decide +kernel
theorem d_L_law_1286 : decode b_L_law 1286 = .ok (.if_icmp .eq 5, 3) := by decide +kernel
theorem d_L_law_1289 : decode b_L_law 1289 = .ok (.iconst 0, 1) := by decide +kernel
theorem d_L_law_1290 : decode b_L_law 1290 = .ok (.ireturn, 1) := by decide +kernel
theorem d_L_law_1291 : decode b_L_law 1291 = .ok (.iload 5, 2) := by decide +kernel
theorem d_L_law_1293 : decode b_L_law 1293 = .ok (.ifCond .ne 22, 3) := by decide +kernel
theorem d_L_law_1296 : decode b_L_law 1296 = .ok (.aload_n 3, 1) := by decide +kernel
theorem d_L_law_1297 : decode b_L_law 1297 = .ok (.iconst 0, 1) := by decide +kernel
theorem d_L_law_1298 : decode b_L_law 1298 = .ok (.laload, 1) := by decide +kernel
theorem d_L_law_1299 : decode b_L_law 1299 = .ok (.iload 6, 2) := by decide +kernel
theorem d_L_law_1301 : decode b_L_law 1301 = .ok (.ifCond .eq 7, 3) := by decide +kernel
theorem d_L_law_1304 : decode b_L_law 1304 = .ok (.lconst 1, 1) := by decide +kernel
theorem d_L_law_1305 : decode b_L_law 1305 = .ok (.goto 4, 3) := by decide +kernel
theorem d_L_law_1308 : decode b_L_law 1308 = .ok (.lconst 0, 1) := by decide +kernel
theorem d_L_law_1309 : decode b_L_law 1309 = .ok (.lcmp, 1) := by decide +kernel
theorem d_L_law_1310 : decode b_L_law 1310 = .ok (.ifCond .eq 5, 3) := by decide +kernel
theorem d_L_law_1313 : decode b_L_law 1313 = .ok (.iconst 0, 1) := by decide +kernel
theorem d_L_law_1314 : decode b_L_law 1314 = .ok (.ireturn, 1) := by decide +kernel
theorem d_L_law_1315 : decode b_L_law 1315 = .ok (.goto 412, 3) := by decide +kernel
theorem d_L_law_1318 : decode b_L_law 1318 = .ok (.aload_n 1, 1) := by decide +kernel
theorem d_L_law_1319 : decode b_L_law 1319 = .ok (.aload_n 0, 1) := by decide +kernel
theorem d_L_law_1320 : decode b_L_law 1320 = .ok (.iload 4, 2) := by decide +kernel
theorem d_L_law_1322 : decode b_L_law 1322 = .ok (.iconst 1, 1) := by decide +kernel
theorem d_L_law_1323 : decode b_L_law 1323 = .ok (.iadd, 1) := by decide +kernel
theorem d_L_law_1324 : decode b_L_law 1324 = .ok (.iaload, 1) := by decide +kernel
theorem d_L_law_1325 : decode b_L_law 1325 = .ok (.aload_n 3, 1) := by decide +kernel
theorem d_L_law_1326 : decode b_L_law 1326 = .ok (.invokestatic 160, 3) := by decide +kernel
theorem d_L_law_1329 : decode b_L_law 1329 = .ok (.istore 5, 2) := by decide +kernel
theorem d_L_law_1331 : decode b_L_law 1331 = .ok (.aload_n 2, 1) := by decide +kernel
theorem d_L_law_1332 : decode b_L_law 1332 = .ok (.aload_n 0, 1) := by decide +kernel
theorem d_L_law_1333 : decode b_L_law 1333 = .ok (.iload 4, 2) := by decide +kernel
theorem d_L_law_1335 : decode b_L_law 1335 = .ok (.iconst 1, 1) := by decide +kernel
theorem d_L_law_1336 : decode b_L_law 1336 = .ok (.iadd, 1) := by decide +kernel
theorem d_L_law_1337 : decode b_L_law 1337 = .ok (.iaload, 1) := by decide +kernel
theorem d_L_law_1338 : decode b_L_law 1338 = .ok (.invokevirtual 162, 3) := by decide +kernel
theorem d_L_law_1341 : decode b_L_law 1341 = .ok (.istore 6, 2) := by decide +kernel
theorem d_L_law_1343 : decode b_L_law 1343 = .ok (.aload_n 2, 1) := by decide +kernel
theorem d_L_law_1344 : decode b_L_law 1344 = .ok (.invokevirtual 106, 3) := by decide +kernel
theorem d_L_law_1347 : decode b_L_law 1347 = .ok (.iload 5, 2) := by decide +kernel
theorem d_L_law_1349 : decode b_L_law 1349 = .ok (.if_icmp .eq 5, 3) := by decide +kernel
theorem d_L_law_1352 : decode b_L_law 1352 = .ok (.iconst 0, 1) := by decide +kernel
theorem d_L_law_1353 : decode b_L_law 1353 = .ok (.ireturn, 1) := by decide +kernel
theorem d_L_law_1354 : decode b_L_law 1354 = .ok (.iload 5, 2) := by decide +kernel
theorem d_L_law_1356 : decode b_L_law 1356 = .ok (.ifCond .ne 22, 3) := by decide +kernel
theorem d_L_law_1359 : decode b_L_law 1359 = .ok (.aload_n 3, 1) := by decide +kernel
theorem d_L_law_1360 : decode b_L_law 1360 = .ok (.iconst 0, 1) := by decide +kernel
theorem d_L_law_1361 : decode b_L_law 1361 = .ok (.laload, 1) := by decide +kernel
theorem d_L_law_1362 : decode b_L_law 1362 = .ok (.iload 6, 2) := by decide +kernel
theorem d_L_law_1364 : decode b_L_law 1364 = .ok (.ifCond .eq 7, 3) := by decide +kernel
theorem d_L_law_1367 : decode b_L_law 1367 = .ok (.lconst 1, 1) := by decide +kernel
theorem d_L_law_1368 : decode b_L_law 1368 = .ok (.goto 4, 3) := by decide +kernel
theorem d_L_law_1371 : decode b_L_law 1371 = .ok (.lconst 0, 1) := by decide +kernel
theorem d_L_law_1372 : decode b_L_law 1372 = .ok (.lcmp, 1) := by decide +kernel
theorem d_L_law_1373 : decode b_L_law 1373 = .ok (.ifCond .eq 5, 3) := by decide +kernel
theorem d_L_law_1376 : decode b_L_law 1376 = .ok (.iconst 0, 1) := by decide +kernel
theorem d_L_law_1377 : decode b_L_law 1377 = .ok (.ireturn, 1) := by decide +kernel
theorem d_L_law_1378 : decode b_L_law 1378 = .ok (.goto 349, 3) := by decide +kernel
theorem d_L_law_1381 : decode b_L_law 1381 = .ok (.aload_n 1, 1) := by decide +kernel
theorem d_L_law_1382 : decode b_L_law 1382 = .ok (.aload_n 0, 1) := by decide +kernel
theorem d_L_law_1383 : decode b_L_law 1383 = .ok (.iload 4, 2) := by decide +kernel
theorem d_L_law_1385 : decode b_L_law 1385 = .ok (.iconst 1, 1) := by decide +kernel
theorem d_L_law_1386 : decode b_L_law 1386 = .ok (.iadd, 1) := by decide +kernel
theorem d_L_law_1387 : decode b_L_law 1387 = .ok (.iaload, 1) := by decide +kernel
theorem d_L_law_1388 : decode b_L_law 1388 = .ok (.aload_n 3, 1) := by decide +kernel
theorem d_L_law_1389 : decode b_L_law 1389 = .ok (.invokestatic 163, 3) := by decide +kernel
theorem d_L_law_1392 : decode b_L_law 1392 = .ok (.istore 5, 2) := by decide +kernel
theorem d_L_law_1394 : decode b_L_law 1394 = .ok (.aload_n 2, 1) := by decide +kernel
theorem d_L_law_1395 : decode b_L_law 1395 = .ok (.aload_n 0, 1) := by decide +kernel
theorem d_L_law_1396 : decode b_L_law 1396 = .ok (.iload 4, 2) := by decide +kernel
theorem d_L_law_1398 : decode b_L_law 1398 = .ok (.iconst 1, 1) := by decide +kernel
theorem d_L_law_1399 : decode b_L_law 1399 = .ok (.iadd, 1) := by decide +kernel
theorem d_L_law_1400 : decode b_L_law 1400 = .ok (.iaload, 1) := by decide +kernel
theorem d_L_law_1401 : decode b_L_law 1401 = .ok (.invokevirtual 165, 3) := by decide +kernel
theorem d_L_law_1404 : decode b_L_law 1404 = .ok (.istore 6, 2) := by decide +kernel
theorem d_L_law_1406 : decode b_L_law 1406 = .ok (.aload_n 2, 1) := by decide +kernel
theorem d_L_law_1407 : decode b_L_law 1407 = .ok (.invokevirtual 106, 3) := by decide +kernel
theorem d_L_law_1410 : decode b_L_law 1410 = .ok (.iload 5, 2) := by decide +kernel
theorem d_L_law_1412 : decode b_L_law 1412 = .ok (.if_icmp .eq 5, 3) := by decide +kernel
theorem d_L_law_1415 : decode b_L_law 1415 = .ok (.iconst 0, 1) := by decide +kernel
theorem d_L_law_1416 : decode b_L_law 1416 = .ok (.ireturn, 1) := by decide +kernel
theorem d_L_law_1417 : decode b_L_law 1417 = .ok (.iload 5, 2) := by decide +kernel
theorem d_L_law_1419 : decode b_L_law 1419 = .ok (.ifCond .ne 15, 3) := by decide +kernel
theorem d_L_law_1422 : decode b_L_law 1422 = .ok (.aload_n 3, 1) := by decide +kernel
theorem d_L_law_1423 : decode b_L_law 1423 = .ok (.iconst 0, 1) := by decide +kernel
theorem d_L_law_1424 : decode b_L_law 1424 = .ok (.laload, 1) := by decide +kernel
theorem d_L_law_1425 : decode b_L_law 1425 = .ok (.iload 6, 2) := by decide +kernel
theorem d_L_law_1427 : decode b_L_law 1427 = .ok (.i2l, 1) := by decide +kernel
theorem d_L_law_1428 : decode b_L_law 1428 = .ok (.lcmp, 1) := by decide +kernel
theorem d_L_law_1429 : decode b_L_law 1429 = .ok (.ifCond .eq 5, 3) := by decide +kernel
theorem d_L_law_1432 : decode b_L_law 1432 = .ok (.iconst 0, 1) := by decide +kernel
theorem d_L_law_1433 : decode b_L_law 1433 = .ok (.ireturn, 1) := by decide +kernel
theorem d_L_law_1434 : decode b_L_law 1434 = .ok (.goto 293, 3) := by decide +kernel
theorem d_L_law_1437 : decode b_L_law 1437 = .ok (.aload_n 1, 1) := by decide +kernel
theorem d_L_law_1438 : decode b_L_law 1438 = .ok (.aload_n 0, 1) := by decide +kernel
theorem d_L_law_1439 : decode b_L_law 1439 = .ok (.iload 4, 2) := by decide +kernel
theorem d_L_law_1441 : decode b_L_law 1441 = .ok (.iconst 1, 1) := by decide +kernel
theorem d_L_law_1442 : decode b_L_law 1442 = .ok (.iadd, 1) := by decide +kernel
theorem d_L_law_1443 : decode b_L_law 1443 = .ok (.iaload, 1) := by decide +kernel
theorem d_L_law_1444 : decode b_L_law 1444 = .ok (.aload_n 0, 1) := by decide +kernel
theorem d_L_law_1445 : decode b_L_law 1445 = .ok (.iload 4, 2) := by decide +kernel
theorem d_L_law_1447 : decode b_L_law 1447 = .ok (.iconst 2, 1) := by decide +kernel
theorem d_L_law_1448 : decode b_L_law 1448 = .ok (.iadd, 1) := by decide +kernel
theorem d_L_law_1449 : decode b_L_law 1449 = .ok (.iaload, 1) := by decide +kernel
theorem d_L_law_1450 : decode b_L_law 1450 = .ok (.aload_n 3, 1) := by decide +kernel
theorem d_L_law_1451 : decode b_L_law 1451 = .ok (.invokestatic 166, 3) := by decide +kernel
theorem d_L_law_1454 : decode b_L_law 1454 = .ok (.istore 5, 2) := by decide +kernel
theorem d_L_law_1456 : decode b_L_law 1456 = .ok (.aload_n 2, 1) := by decide +kernel
theorem d_L_law_1457 : decode b_L_law 1457 = .ok (.aload_n 0, 1) := by decide +kernel
theorem d_L_law_1458 : decode b_L_law 1458 = .ok (.iload 4, 2) := by decide +kernel
theorem d_L_law_1460 : decode b_L_law 1460 = .ok (.iconst 1, 1) := by decide +kernel
theorem d_L_law_1461 : decode b_L_law 1461 = .ok (.iadd, 1) := by decide +kernel
theorem d_L_law_1462 : decode b_L_law 1462 = .ok (.iaload, 1) := by decide +kernel
theorem d_L_law_1463 : decode b_L_law 1463 = .ok (.aload_n 0, 1) := by decide +kernel
theorem d_L_law_1464 : decode b_L_law 1464 = .ok (.iload 4, 2) := by decide +kernel
theorem d_L_law_1466 : decode b_L_law 1466 = .ok (.iconst 2, 1) := by decide +kernel
