theorem dlw_1153 : decode code 1153 = .ok (.iload 5, 2) := by decide +kernel
theorem dlw_1155 : decode code 1155 = .ok (.ifCond .ne 15, 3) := by decide +kernel
theorem dlw_1158 : decode code 1158 = .ok (.aload_n 3, 1) := by decide +kernel
theorem dlw_1159 : decode code 1159 = .ok (.iconst 0, 1) := by decide +kernel
theorem dlw_1160 : decode code 1160 = .ok (.laload, 1) := by decide +kernel
theorem dlw_1161 : decode code 1161 = .ok (.iload 6, 2) := by decide +kernel
theorem dlw_1163 : decode code 1163 = .ok (.i2l, 1) := by decide +kernel
theorem dlw_1164 : decode code 1164 = .ok (.lcmp, 1) := by decide +kernel
theorem dlw_1165 : decode code 1165 = .ok (.ifCond .eq 5, 3) := by decide +kernel
theorem dlw_1168 : decode code 1168 = .ok (.iconst 0, 1) := by decide +kernel
theorem dlw_1169 : decode code 1169 = .ok (.ireturn, 1) := by decide +kernel
theorem dlw_1170 : decode code 1170 = .ok (.goto 2017, 3) := by decide +kernel
theorem dlw_1173 : decode code 1173 = .ok (.aload_n 1, 1) := by decide +kernel
theorem dlw_1174 : decode code 1174 = .ok (.aload_n 0, 1) := by decide +kernel
theorem dlw_1175 : decode code 1175 = .ok (.iload 4, 2) := by decide +kernel
theorem dlw_1177 : decode code 1177 = .ok (.iconst 1, 1) := by decide +kernel
theorem dlw_1178 : decode code 1178 = .ok (.iadd, 1) := by decide +kernel
theorem dlw_1179 : decode code 1179 = .ok (.iaload, 1) := by decide +kernel
theorem dlw_1180 : decode code 1180 = .ok (.aload_n 0, 1) := by decide +kernel
theorem dlw_1181 : decode code 1181 = .ok (.iload 4, 2) := by decide +kernel
theorem dlw_1183 : decode code 1183 = .ok (.iconst 2, 1) := by decide +kernel
theorem dlw_1184 : decode code 1184 = .ok (.iadd, 1) := by decide +kernel
theorem dlw_1185 : decode code 1185 = .ok (.iaload, 1) := by decide +kernel
theorem dlw_1186 : decode code 1186 = .ok (.aload_n 3, 1) := by decide +kernel
theorem dlw_1187 : decode code 1187 = .ok (.invokestatic 220, 3) := by decide +kernel
theorem dlw_1190 : decode code 1190 = .ok (.istore 5, 2) := by decide +kernel
theorem dlw_1192 : decode code 1192 = .ok (.aload_n 2, 1) := by decide +kernel
theorem dlw_1193 : decode code 1193 = .ok (.aload_n 0, 1) := by decide +kernel
theorem dlw_1194 : decode code 1194 = .ok (.iload 4, 2) := by decide +kernel
theorem dlw_1196 : decode code 1196 = .ok (.iconst 1, 1) := by decide +kernel
theorem dlw_1197 : decode code 1197 = .ok (.iadd, 1) := by decide +kernel
theorem dlw_1198 : decode code 1198 = .ok (.iaload, 1) := by decide +kernel
theorem dlw_1199 : decode code 1199 = .ok (.aload_n 0, 1) := by decide +kernel
theorem dlw_1200 : decode code 1200 = .ok (.iload 4, 2) := by decide +kernel
theorem dlw_1202 : decode code 1202 = .ok (.iconst 2, 1) := by decide +kernel
theorem dlw_1203 : decode code 1203 = .ok (.iadd, 1) := by decide +kernel
theorem dlw_1204 : decode code 1204 = .ok (.iaload, 1) := by decide +kernel
theorem dlw_1205 : decode code 1205 = .ok (.invokevirtual 222, 3) := by decide +kernel
theorem dlw_1208 : decode code 1208 = .ok (.istore 6, 2) := by decide +kernel
theorem dlw_1210 : decode code 1210 = .ok (.aload_n 2, 1) := by decide +kernel
theorem dlw_1211 : decode code 1211 = .ok (.invokevirtual 170, 3) := by decide +kernel
theorem dlw_1214 : decode code 1214 = .ok (.iload 5, 2) := by decide +kernel
theorem dlw_1216 : decode code 1216 = .ok (.if_icmp .eq 5, 3) := by decide +kernel
theorem dlw_1219 : decode code 1219 = .ok (.iconst 0, 1) := by decide +kernel
theorem dlw_1220 : decode code 1220 = .ok (.ireturn, 1) := by decide +kernel
theorem dlw_1221 : decode code 1221 = .ok (.iload 5, 2) := by decide +kernel
theorem dlw_1223 : decode code 1223 = .ok (.ifCond .ne 15, 3) := by decide +kernel
theorem dlw_1226 : decode code 1226 = .ok (.aload_n 3, 1) := by decide +kernel
theorem dlw_1227 : decode code 1227 = .ok (.iconst 0, 1) := by decide +kernel
theorem dlw_1228 : decode code 1228 = .ok (.laload, 1) := by decide +kernel
theorem dlw_1229 : decode code 1229 = .ok (.iload 6, 2) := by decide +kernel
theorem dlw_1231 : decode code 1231 = .ok (.i2l, 1) := by decide +kernel
theorem dlw_1232 : decode code 1232 = .ok (.lcmp, 1) := by decide +kernel
theorem dlw_1233 : decode code 1233 = .ok (.ifCond .eq 5, 3) := by decide +kernel
theorem dlw_1236 : decode code 1236 = .ok (.iconst 0, 1) := by decide +kernel
theorem dlw_1237 : decode code 1237 = .ok (.ireturn, 1) := by decide +kernel
theorem dlw_1238 : decode code 1238 = .ok (.goto 1949, 3) := by decide +kernel
theorem dlw_1241 : decode code 1241 = .ok (.aload_n 1, 1) := by decide +kernel
theorem dlw_1242 : decode code 1242 = .ok (.invokevirtual 223, 3) := by decide +kernel
theorem dlw_1245 : decode code 1245 = .ok (.aload_n 2, 1) := by decide +kernel
theorem dlw_1246 : decode code 1246 = .ok (.invokevirtual 226, 3) := by decide +kernel
theorem dlw_1249 : decode code 1249 = .ok (.if_icmp .eq 1938, 3) := by decide +kernel
theorem dlw_1252 : decode code 1252 = .ok (.iconst 0, 1) := by decide +kernel
theorem dlw_1253 : decode code 1253 = .ok (.ireturn, 1) := by decide +kernel
theorem dlw_1254 : decode code 1254 = .ok (.aload_n 1, 1) := by decide +kernel
theorem dlw_1255 : decode code 1255 = .ok (.aload_n 0, 1) := by decide +kernel
theorem dlw_1256 : decode code 1256 = .ok (.iload 4, 2) := by decide +kernel
theorem dlw_1258 : decode code 1258 = .ok (.iconst 1, 1) := by decide +kernel
theorem dlw_1259 : decode code 1259 = .ok (.iadd, 1) := by decide +kernel
theorem dlw_1260 : decode code 1260 = .ok (.iaload, 1) := by decide +kernel
theorem dlw_1261 : decode code 1261 = .ok (.aload_n 3, 1) := by decide +kernel
theorem dlw_1262 : decode code 1262 = .ok (.invokestatic 227, 3) := by decide +kernel
theorem dlw_1265 : decode code 1265 = .ok (.istore 5, 2) := by decide +kernel
theorem dlw_1267 : decode code 1267 = .ok (.aload_n 2, 1) := by decide +kernel
theorem dlw_1268 : decode code 1268 = .ok (.aload_n 0, 1) := by decide +kernel
theorem dlw_1269 : decode code 1269 = .ok (.iload 4, 2) := by decide +kernel
theorem dlw_1271 : decode code 1271 = .ok (.iconst 1, 1) := by decide +kernel
theorem dlw_1272 : decode code 1272 = .ok (.iadd, 1) := by decide +kernel
theorem dlw_1273 : decode code 1273 = .ok (.iaload, 1) := by decide +kernel
theorem dlw_1274 : decode code 1274 = .ok (.invokevirtual 229, 3) := by decide +kernel
theorem dlw_1277 : decode code 1277 = .ok (.istore 6, 2) := by decide +kernel
theorem dlw_1279 : decode code 1279 = .ok (.aload_n 2, 1) := by decide +kernel
theorem dlw_1280 : decode code 1280 = .ok (.invokevirtual 170, 3) := by decide +kernel
theorem dlw_1283 : decode code 1283 = .ok (.iload 5, 2) := by decide +kernel
theorem dlw_1285 : decode code 1285 = .ok (.if_icmp .eq 5, 3) := by decide +kernel
theorem dlw_1288 : decode code 1288 = .ok (.iconst 0, 1) := by decide +kernel
theorem dlw_1289 : decode code 1289 = .ok (.ireturn, 1) := by decide +kernel
theorem dlw_1290 : decode code 1290 = .ok (.iload 5, 2) := by decide +kernel
theorem dlw_1292 : decode code 1292 = .ok (.ifCond .ne 15, 3) := by decide +kernel
theorem dlw_1295 : decode code 1295 = .ok (.aload_n 3, 1) := by decide +kernel
theorem dlw_1296 : decode code 1296 = .ok (.iconst 0, 1) := by decide +kernel
theorem dlw_1297 : decode code 1297 = .ok (.laload, 1) := by decide +kernel
theorem dlw_1298 : decode code 1298 = .ok (.iload 6, 2) := by decide +kernel
theorem dlw_1300 : decode code 1300 = .ok (.i2l, 1) := by decide +kernel
theorem dlw_1301 : decode code 1301 = .ok (.lcmp, 1) := by decide +kernel
theorem dlw_1302 : decode code 1302 = .ok (.ifCond .eq 5, 3) := by decide +kernel
theorem dlw_1305 : decode code 1305 = .ok (.iconst 0, 1) := by decide +kernel
theorem dlw_1306 : decode code 1306 = .ok (.ireturn, 1) := by decide +kernel
theorem dlw_1307 : decode code 1307 = .ok (.goto 1880, 3) := by decide +kernel
theorem dlw_1310 : decode code 1310 = .ok (.aload_n 1, 1) := by decide +kernel
theorem dlw_1311 : decode code 1311 = .ok (.aload_n 0, 1) := by decide +kernel
theorem dlw_1312 : decode code 1312 = .ok (.iload 4, 2) := by decide +kernel
theorem dlw_1314 : decode code 1314 = .ok (.iconst 1, 1) := by decide +kernel
theorem dlw_1315 : decode code 1315 = .ok (.iadd, 1) := by decide +kernel
theorem dlw_1316 : decode code 1316 = .ok (.iaload, 1) := by decide +kernel
theorem dlw_1317 : decode code 1317 = .ok (.aload_n 3, 1) := by decide +kernel
theorem dlw_1318 : decode code 1318 = .ok (.invokestatic 230, 3) := by decide +kernel
theorem dlw_1321 : decode code 1321 = .ok (.istore 5, 2) := by decide +kernel
theorem dlw_1323 : decode code 1323 = .ok (.aload_n 2, 1) := by decide +kernel
theorem dlw_1324 : decode code 1324 = .ok (.aload_n 0, 1) := by decide +kernel
theorem dlw_1325 : decode code 1325 = .ok (.iload 4, 2) := by decide +kernel
theorem dlw_1327 : decode code 1327 = .ok (.iconst 1, 1) := by decide +kernel
theorem dlw_1328 : decode code 1328 = .ok (.iadd, 1) := by decide +kernel
theorem dlw_1329 : decode code 1329 = .ok (.iaload, 1) := by decide +kernel
theorem dlw_1330 : decode code 1330 = .ok (.invokevirtual 232, 3) := by decide +kernel
theorem dlw_1333 : decode code 1333 = .ok (.istore 6, 2) := by decide +kernel
theorem dlw_1335 : decode code 1335 = .ok (.aload_n 2, 1) := by decide +kernel
theorem dlw_1336 : decode code 1336 = .ok (.invokevirtual 170, 3) := by decide +kernel
theorem dlw_1339 : decode code 1339 = .ok (.iload 5, 2) := by decide +kernel
theorem dlw_1341 : decode code 1341 = .ok (.if_icmp .eq 5, 3) := by decide +kernel
theorem dlw_1344 : decode code 1344 = .ok (.iconst 0, 1) := by decide +kernel
theorem dlw_1345 : decode code 1345 = .ok (.ireturn, 1) := by decide +kernel
theorem dlw_1346 : decode code 1346 = .ok (.iload 5, 2) := by decide +kernel
theorem dlw_1348 : decode code 1348 = .ok (.ifCond .ne 15, 3) := by decide +kernel
theorem dlw_1351 : decode code 1351 = .ok (.aload_n 3, 1) := by decide +kernel
theorem dlw_1352 : decode code 1352 = .ok (.iconst 0, 1) := by decide +kernel
theorem dlw_1353 : decode code 1353 = .ok (.laload, 1) := by decide +kernel
theorem dlw_1354 : decode code 1354 = .ok (.iload 6, 2) := by decide +kernel
theorem dlw_1356 : decode code 1356 = .ok (.i2l, 1) := by decide +kernel
theorem dlw_1357 : decode code 1357 = .ok (.lcmp, 1) := by decide +kernel
theorem dlw_1358 : decode code 1358 = .ok (.ifCond .eq 5, 3) := by decide +kernel
theorem dlw_1361 : decode code 1361 = .ok (.iconst 0, 1) := by decide +kernel
theorem dlw_1362 : decode code 1362 = .ok (.ireturn, 1) := by decide +kernel
theorem dlw_1363 : decode code 1363 = .ok (.goto 1824, 3) := by decide +kernel
theorem dlw_1366 : decode code 1366 = .ok (.aload_n 1, 1) := by decide +kernel
theorem dlw_1367 : decode code 1367 = .ok (.aload_n 0, 1) := by decide +kernel
theorem dlw_1368 : decode code 1368 = .ok (.iload 4, 2) := by decide +kernel
theorem dlw_1370 : decode code 1370 = .ok (.iconst 1, 1) := by decide +kernel
theorem dlw_1371 : decode code 1371 = .ok (.iadd, 1) := by decide +kernel
theorem dlw_1372 : decode code 1372 = .ok (.iaload, 1) := by decide +kernel
theorem dlw_1373 : decode code 1373 = .ok (.aload_n 3, 1) := by decide +kernel
theorem dlw_1374 : decode code 1374 = .ok (.invokestatic 233, 3) := by decide +kernel
theorem dlw_1377 : decode code 1377 = .ok (.istore 5, 2) := by decide +kernel
theorem dlw_1379 : decode code 1379 = .ok (.aload_n 2, 1) := by decide +kernel
theorem dlw_1380 : decode code 1380 = .ok (.aload_n 0, 1) := by decide +kernel
theorem dlw_1381 : decode code 1381 = .ok (.iload 4, 2) := by decide +kernel
theorem dlw_1383 : decode code 1383 = .ok (.iconst 1, 1) := by decide +kernel
theorem dlw_1384 : decode code 1384 = .ok (.iadd, 1) := by decide +kernel
theorem dlw_1385 : decode code 1385 = .ok (.iaload, 1) := by decide +kernel
theorem dlw_1386 : decode code 1386 = .ok (.invokevirtual 235, 3) := by decide +kernel
