/-! ===== the words that the operations use, by their places in the table ===== -/
set_option maxRecDepth 100000 in
theorem tw_1195 : (Cond.code ({ cls := "PathsKeptModel", name := "begin", desc := "()V" } : Jvm.MethodName) prog_13_method_47_code (1 : Nat) (Option.none : Option Jvm.ClassFile.FieldType)) ∈ lw_tbl := ai_in_at 1318 (by decide +kernel)
set_option maxRecDepth 100000 in
theorem tw_1196 : (Cond.methodLink "PathsKeptModel" (388 : Nat) ({ cls := "PathsKeptModel", name := "atFirst", desc := "(I)V" } : Jvm.MethodName)) ∈ lw_tbl := ai_in_at 1319 (by decide +kernel)
set_option maxRecDepth 100000 in
theorem tw_1198 : (Cond.instanceMethod ({ cls := "PathsKeptModel", name := "atFirst", desc := "(I)V" } : Jvm.MethodName)) ∈ lw_tbl := ai_in_at 1321 (by decide +kernel)
set_option maxRecDepth 100000 in
theorem tw_1199 : (Cond.code ({ cls := "PathsKeptModel", name := "atFirst", desc := "(I)V" } : Jvm.MethodName) prog_13_method_48_code (3 : Nat) (Option.none : Option Jvm.ClassFile.FieldType)) ∈ lw_tbl := ai_in_at 1322 (by decide +kernel)
set_option maxRecDepth 100000 in
theorem tw_1200 : (Cond.methodLink "PathsKeptModel" (395 : Nat) ({ cls := "PathsKeptModel", name := "plainTried", desc := "()V" } : Jvm.MethodName)) ∈ lw_tbl := ai_in_at 1323 (by decide +kernel)
set_option maxRecDepth 100000 in
theorem tw_1202 : (Cond.instanceMethod ({ cls := "PathsKeptModel", name := "plainTried", desc := "()V" } : Jvm.MethodName)) ∈ lw_tbl := ai_in_at 1325 (by decide +kernel)
set_option maxRecDepth 100000 in
theorem tw_1203 : (Cond.code ({ cls := "PathsKeptModel", name := "plainTried", desc := "()V" } : Jvm.MethodName) prog_13_method_49_code (1 : Nat) (Option.none : Option Jvm.ClassFile.FieldType)) ∈ lw_tbl := ai_in_at 1326 (by decide +kernel)
set_option maxRecDepth 100000 in
theorem tw_1204 : (Cond.fieldLink "PathsKeptModel" (7 : Nat) "PathsKeptModel" "tape" "[I") ∈ lw_tbl := ai_in_at 1327 (by decide +kernel)
set_option maxRecDepth 100000 in
theorem tw_1205 : (Cond.fieldLink "PathsKeptModel" (178 : Nat) "PathsKeptModel" "tapeSize" "I") ∈ lw_tbl := ai_in_at 1328 (by decide +kernel)
set_option maxRecDepth 100000 in
theorem tw_1206 : (Cond.fieldLink "PathsKeptModel" (175 : Nat) "PathsKeptModel" "thrown" "I") ∈ lw_tbl := ai_in_at 1329 (by decide +kernel)
set_option maxRecDepth 100000 in
theorem tw_1207 : (Cond.fieldLink "PathsKeptModel" (13 : Nat) "PathsKeptModel" "words" "[I") ∈ lw_tbl := ai_in_at 1330 (by decide +kernel)
set_option maxRecDepth 100000 in
theorem tw_1208 : (Cond.fieldLink "PathsKeptModel" (181 : Nat) "PathsKeptModel" "fault" "I") ∈ lw_tbl := ai_in_at 1331 (by decide +kernel)
set_option maxRecDepth 100000 in
theorem tw_1209 : (Cond.fieldLink "PathsKeptModel" (16 : Nat) "PathsKeptModel" "faultPlace" "I") ∈ lw_tbl := ai_in_at 1332 (by decide +kernel)
set_option maxRecDepth 100000 in
theorem tw_1210 : (Cond.fieldLink "PathsKeptModel" (187 : Nat) "PathsKeptModel" "stop" "I") ∈ lw_tbl := ai_in_at 1333 (by decide +kernel)
set_option maxRecDepth 100000 in
theorem tw_1211 : (Cond.fieldLink "PathsKeptModel" (190 : Nat) "PathsKeptModel" "next" "I") ∈ lw_tbl := ai_in_at 1334 (by decide +kernel)
set_option maxRecDepth 100000 in
theorem tw_1212 : (Cond.fieldLink "PathsKeptModel" (193 : Nat) "PathsKeptModel" "kind" "I") ∈ lw_tbl := ai_in_at 1335 (by decide +kernel)
set_option maxRecDepth 100000 in
theorem tw_1213 : (Cond.fieldLink "PathsKeptModel" (204 : Nat) "PathsKeptModel" "which" "I") ∈ lw_tbl := ai_in_at 1336 (by decide +kernel)
set_option maxRecDepth 100000 in
theorem tw_1214 : (Cond.fieldLink "PathsKeptModel" (184 : Nat) "PathsKeptModel" "at" "I") ∈ lw_tbl := ai_in_at 1337 (by decide +kernel)
set_option maxRecDepth 100000 in
theorem tw_1215 : (Cond.fieldLink "PathsKeptModel" (224 : Nat) "PathsKeptModel" "got" "I") ∈ lw_tbl := ai_in_at 1338 (by decide +kernel)
set_option maxRecDepth 100000 in
theorem tw_1216 : (Cond.fieldLink "PathsKeptModel" (258 : Nat) "PathsKeptModel" "places" "I") ∈ lw_tbl := ai_in_at 1339 (by decide +kernel)
set_option maxRecDepth 100000 in
theorem tw_1217 : (Cond.fieldLink "PathsKeptModel" (261 : Nat) "PathsKeptModel" "paths" "I") ∈ lw_tbl := ai_in_at 1340 (by decide +kernel)
set_option maxRecDepth 100000 in
theorem tw_1218 : (Cond.fieldLink "PathsKeptModel" (264 : Nat) "PathsKeptModel" "walkers" "I") ∈ lw_tbl := ai_in_at 1341 (by decide +kernel)
set_option maxRecDepth 100000 in
theorem tw_1219 : (Cond.fieldLink "PathsKeptModel" (267 : Nat) "PathsKeptModel" "walks" "I") ∈ lw_tbl := ai_in_at 1342 (by decide +kernel)
set_option maxRecDepth 100000 in
theorem tw_1220 : (Cond.fieldLink "PathsKeptModel" (270 : Nat) "PathsKeptModel" "bulls" "I") ∈ lw_tbl := ai_in_at 1343 (by decide +kernel)
set_option maxRecDepth 100000 in
theorem tw_1221 : (Cond.fieldLink "PathsKeptModel" (273 : Nat) "PathsKeptModel" "knots" "I") ∈ lw_tbl := ai_in_at 1344 (by decide +kernel)
set_option maxRecDepth 100000 in
theorem tw_1222 : (Cond.fieldLink "PathsKeptModel" (237 : Nat) "PathsKeptModel" "placesRead" "I") ∈ lw_tbl := ai_in_at 1345 (by decide +kernel)
set_option maxRecDepth 100000 in
theorem tw_1223 : (Cond.fieldLink "PathsKeptModel" (240 : Nat) "PathsKeptModel" "pathsRead" "I") ∈ lw_tbl := ai_in_at 1346 (by decide +kernel)
set_option maxRecDepth 100000 in
theorem tw_1224 : (Cond.fieldLink "PathsKeptModel" (243 : Nat) "PathsKeptModel" "walkersRead" "I") ∈ lw_tbl := ai_in_at 1347 (by decide +kernel)
set_option maxRecDepth 100000 in
theorem tw_1225 : (Cond.fieldLink "PathsKeptModel" (246 : Nat) "PathsKeptModel" "walksRead" "I") ∈ lw_tbl := ai_in_at 1348 (by decide +kernel)
set_option maxRecDepth 100000 in
theorem tw_1226 : (Cond.fieldLink "PathsKeptModel" (249 : Nat) "PathsKeptModel" "bullsRead" "I") ∈ lw_tbl := ai_in_at 1349 (by decide +kernel)
set_option maxRecDepth 100000 in
theorem tw_1227 : (Cond.fieldLink "PathsKeptModel" (252 : Nat) "PathsKeptModel" "knotsRead" "I") ∈ lw_tbl := ai_in_at 1350 (by decide +kernel)
set_option maxRecDepth 100000 in
theorem tw_1228 : (Cond.fieldLink "PathsKeptModel" (20 : Nat) "PathsKeptModel" "onceTold" "[Z") ∈ lw_tbl := ai_in_at 1351 (by decide +kernel)
set_option maxRecDepth 100000 in
theorem tw_1229 : (Cond.fieldLink "PathsKeptModel" (24 : Nat) "PathsKeptModel" "once" "[I") ∈ lw_tbl := ai_in_at 1352 (by decide +kernel)
set_option maxRecDepth 100000 in
theorem tw_1230 : (Cond.fieldLink "PathsKeptModel" (27 : Nat) "PathsKeptModel" "placeName" "[I") ∈ lw_tbl := ai_in_at 1353 (by decide +kernel)
set_option maxRecDepth 100000 in
theorem tw_1231 : (Cond.fieldLink "PathsKeptModel" (30 : Nat) "PathsKeptModel" "pathName" "[I") ∈ lw_tbl := ai_in_at 1354 (by decide +kernel)
set_option maxRecDepth 100000 in
theorem tw_1232 : (Cond.fieldLink "PathsKeptModel" (33 : Nat) "PathsKeptModel" "pathOne" "[I") ∈ lw_tbl := ai_in_at 1355 (by decide +kernel)
set_option maxRecDepth 100000 in
theorem tw_1233 : (Cond.fieldLink "PathsKeptModel" (36 : Nat) "PathsKeptModel" "pathOther" "[I") ∈ lw_tbl := ai_in_at 1356 (by decide +kernel)
set_option maxRecDepth 100000 in
theorem tw_1234 : (Cond.fieldLink "PathsKeptModel" (39 : Nat) "PathsKeptModel" "pathLength" "[I") ∈ lw_tbl := ai_in_at 1357 (by decide +kernel)
set_option maxRecDepth 100000 in
theorem tw_1235 : (Cond.fieldLink "PathsKeptModel" (42 : Nat) "PathsKeptModel" "pathStile" "[I") ∈ lw_tbl := ai_in_at 1358 (by decide +kernel)
set_option maxRecDepth 100000 in
theorem tw_1236 : (Cond.fieldLink "PathsKeptModel" (45 : Nat) "PathsKeptModel" "pathAge" "[I") ∈ lw_tbl := ai_in_at 1359 (by decide +kernel)
set_option maxRecDepth 100000 in
theorem tw_1237 : (Cond.fieldLink "PathsKeptModel" (48 : Nat) "PathsKeptModel" "walkerName" "[I") ∈ lw_tbl := ai_in_at 1360 (by decide +kernel)
set_option maxRecDepth 100000 in
theorem tw_1238 : (Cond.fieldLink "PathsKeptModel" (51 : Nat) "PathsKeptModel" "walkerHome" "[I") ∈ lw_tbl := ai_in_at 1361 (by decide +kernel)
set_option maxRecDepth 100000 in
theorem tw_1239 : (Cond.fieldLink "PathsKeptModel" (54 : Nat) "PathsKeptModel" "walkerLegs" "[I") ∈ lw_tbl := ai_in_at 1362 (by decide +kernel)
set_option maxRecDepth 100000 in
theorem tw_1240 : (Cond.fieldLink "PathsKeptModel" (57 : Nat) "PathsKeptModel" "walkerPace" "[I") ∈ lw_tbl := ai_in_at 1363 (by decide +kernel)
set_option maxRecDepth 100000 in
theorem tw_1241 : (Cond.fieldLink "PathsKeptModel" (60 : Nat) "PathsKeptModel" "walkWho" "[I") ∈ lw_tbl := ai_in_at 1364 (by decide +kernel)
set_option maxRecDepth 100000 in
theorem tw_1242 : (Cond.fieldLink "PathsKeptModel" (63 : Nat) "PathsKeptModel" "walkPath" "[I") ∈ lw_tbl := ai_in_at 1365 (by decide +kernel)
set_option maxRecDepth 100000 in
theorem tw_1243 : (Cond.fieldLink "PathsKeptModel" (66 : Nat) "PathsKeptModel" "walkDay" "[I") ∈ lw_tbl := ai_in_at 1366 (by decide +kernel)
set_option maxRecDepth 100000 in
theorem tw_1244 : (Cond.fieldLink "PathsKeptModel" (69 : Nat) "PathsKeptModel" "bullPath" "[I") ∈ lw_tbl := ai_in_at 1367 (by decide +kernel)
set_option maxRecDepth 100000 in
theorem tw_1245 : (Cond.fieldLink "PathsKeptModel" (72 : Nat) "PathsKeptModel" "bullFrom" "[I") ∈ lw_tbl := ai_in_at 1368 (by decide +kernel)
set_option maxRecDepth 100000 in
theorem tw_1246 : (Cond.fieldLink "PathsKeptModel" (75 : Nat) "PathsKeptModel" "bullTo" "[I") ∈ lw_tbl := ai_in_at 1369 (by decide +kernel)
set_option maxRecDepth 100000 in
theorem tw_1247 : (Cond.fieldLink "PathsKeptModel" (78 : Nat) "PathsKeptModel" "lawTold" "[Z") ∈ lw_tbl := ai_in_at 1370 (by decide +kernel)
set_option maxRecDepth 100000 in
theorem tw_1248 : (Cond.fieldLink "PathsKeptModel" (81 : Nat) "PathsKeptModel" "first" "[I") ∈ lw_tbl := ai_in_at 1371 (by decide +kernel)
set_option maxRecDepth 100000 in
theorem tw_1249 : (Cond.fieldLink "PathsKeptModel" (84 : Nat) "PathsKeptModel" "last" "[I") ∈ lw_tbl := ai_in_at 1372 (by decide +kernel)
set_option maxRecDepth 100000 in
theorem tw_1250 : (Cond.fieldLink "PathsKeptModel" (87 : Nat) "PathsKeptModel" "knot" "[I") ∈ lw_tbl := ai_in_at 1373 (by decide +kernel)
set_option maxRecDepth 100000 in
theorem tw_1251 : (Cond.fieldLink "PathsKeptModel" (90 : Nat) "PathsKeptModel" "part" "[I") ∈ lw_tbl := ai_in_at 1374 (by decide +kernel)
set_option maxRecDepth 100000 in
theorem tw_1252 : (Cond.fieldLink "PathsKeptModel" (93 : Nat) "PathsKeptModel" "other" "[I") ∈ lw_tbl := ai_in_at 1375 (by decide +kernel)
set_option maxRecDepth 100000 in
theorem tw_1253 : (Cond.fieldLink "PathsKeptModel" (96 : Nat) "PathsKeptModel" "wait" "[I") ∈ lw_tbl := ai_in_at 1376 (by decide +kernel)
set_option maxRecDepth 100000 in
theorem tw_1254 : (Cond.fieldLink "PathsKeptModel" (99 : Nat) "PathsKeptModel" "held" "[I") ∈ lw_tbl := ai_in_at 1377 (by decide +kernel)
set_option maxRecDepth 100000 in
theorem tw_1255 : (Cond.fieldLink "PathsKeptModel" (322 : Nat) "PathsKeptModel" "waits" "I") ∈ lw_tbl := ai_in_at 1378 (by decide +kernel)
set_option maxRecDepth 100000 in
theorem tw_1256 : (Cond.fieldLink "PathsKeptModel" (319 : Nat) "PathsKeptModel" "helds" "I") ∈ lw_tbl := ai_in_at 1379 (by decide +kernel)
set_option maxRecDepth 100000 in
theorem tw_1257 : (Cond.fieldLink "PathsKeptModel" (337 : Nat) "PathsKeptModel" "brackets" "I") ∈ lw_tbl := ai_in_at 1380 (by decide +kernel)
set_option maxRecDepth 100000 in
theorem tw_1258 : (Cond.fieldLink "PathsKeptModel" (255 : Nat) "PathsKeptModel" "counted" "I") ∈ lw_tbl := ai_in_at 1381 (by decide +kernel)
set_option maxRecDepth 100000 in
theorem tw_1259 : (Cond.fieldLink "PathsKeptModel" (357 : Nat) "PathsKeptModel" "wants" "Z") ∈ lw_tbl := ai_in_at 1382 (by decide +kernel)
set_option maxRecDepth 100000 in
theorem tw_1260 : (Cond.fieldLink "PathsKeptModel" (344 : Nat) "PathsKeptModel" "mayNot" "Z") ∈ lw_tbl := ai_in_at 1383 (by decide +kernel)
set_option maxRecDepth 100000 in
theorem tw_1261 : (Cond.fieldLink "PathsKeptModel" (102 : Nat) "PathsKeptModel" "names" "[J") ∈ lw_tbl := ai_in_at 1384 (by decide +kernel)
set_option maxRecDepth 100000 in
theorem tw_1262 : (Cond.fieldLink "PathsKeptModel" (106 : Nat) "PathsKeptModel" "value" "[J") ∈ lw_tbl := ai_in_at 1385 (by decide +kernel)
set_option maxRecDepth 100000 in
theorem tw_1263 : (Cond.fieldLink "PathsKeptModel" (369 : Nat) "PathsKeptModel" "isError" "Z") ∈ lw_tbl := ai_in_at 1386 (by decide +kernel)
set_option maxRecDepth 100000 in
theorem tw_1264 : (Cond.fieldLink "PathsKeptModel" (109 : Nat) "PathsKeptModel" "where" "[I") ∈ lw_tbl := ai_in_at 1387 (by decide +kernel)
set_option maxRecDepth 100000 in
theorem tw_1265 : (Cond.fieldLink "PathsKeptModel" (112 : Nat) "PathsKeptModel" "left" "[I") ∈ lw_tbl := ai_in_at 1388 (by decide +kernel)
set_option maxRecDepth 100000 in
theorem tw_1266 : (Cond.fieldLink "PathsKeptModel" (115 : Nat) "PathsKeptModel" "age" "[I") ∈ lw_tbl := ai_in_at 1389 (by decide +kernel)
set_option maxRecDepth 100000 in
theorem tw_1267 : (Cond.fieldLink "PathsKeptModel" (118 : Nat) "PathsKeptModel" "kept" "[Z") ∈ lw_tbl := ai_in_at 1390 (by decide +kernel)
set_option maxRecDepth 100000 in
theorem tw_1268 : (Cond.fieldLink "PathsKeptModel" (121 : Nat) "PathsKeptModel" "gone" "[I") ∈ lw_tbl := ai_in_at 1391 (by decide +kernel)
set_option maxRecDepth 100000 in
theorem tw_1269 : (Cond.fieldLink "PathsKeptModel" (124 : Nat) "PathsKeptModel" "done" "[I") ∈ lw_tbl := ai_in_at 1392 (by decide +kernel)
set_option maxRecDepth 100000 in
theorem tw_1270 : (Cond.fieldLink "PathsKeptModel" (127 : Nat) "PathsKeptModel" "refused" "[I") ∈ lw_tbl := ai_in_at 1393 (by decide +kernel)
set_option maxRecDepth 100000 in
theorem tw_1271 : (Cond.fieldLink "PathsKeptModel" (130 : Nat) "PathsKeptModel" "day" "[I") ∈ lw_tbl := ai_in_at 1394 (by decide +kernel)
set_option maxRecDepth 100000 in
theorem tw_1272 : (Cond.fieldLink "PathsKeptModel" (391 : Nat) "PathsKeptModel" "drawn" "J") ∈ lw_tbl := ai_in_at 1395 (by decide +kernel)
set_option maxRecDepth 100000 in
theorem tw_1273 : (Cond.fieldLink "PathsKeptModel" (407 : Nat) "PathsKeptModel" "draws" "Z") ∈ lw_tbl := ai_in_at 1396 (by decide +kernel)
set_option maxRecDepth 100000 in
theorem tw_1274 : (Cond.fieldLink "PathsKeptModel" (410 : Nat) "PathsKeptModel" "noSnow" "Z") ∈ lw_tbl := ai_in_at 1397 (by decide +kernel)
set_option maxRecDepth 100000 in
theorem tw_1275 : (Cond.fieldLink "PathsKeptModel" (413 : Nat) "PathsKeptModel" "noBulls" "Z") ∈ lw_tbl := ai_in_at 1398 (by decide +kernel)
set_option maxRecDepth 100000 in
theorem tw_1276 : (Cond.fieldLink "PathsKeptModel" (416 : Nat) "PathsKeptModel" "strong" "Z") ∈ lw_tbl := ai_in_at 1399 (by decide +kernel)
set_option maxRecDepth 100000 in
theorem tw_1277 : (Cond.fieldLink "PathsKeptModel" (419 : Nat) "PathsKeptModel" "slow" "Z") ∈ lw_tbl := ai_in_at 1400 (by decide +kernel)
set_option maxRecDepth 100000 in
theorem tw_1278 : (Cond.fieldLink "PathsKeptModel" (422 : Nat) "PathsKeptModel" "idle" "I") ∈ lw_tbl := ai_in_at 1401 (by decide +kernel)
set_option maxRecDepth 100000 in
theorem tw_1279 : (Cond.fieldLink "PathsKeptModel" (425 : Nat) "PathsKeptModel" "legsOf" "I") ∈ lw_tbl := ai_in_at 1402 (by decide +kernel)
set_option maxRecDepth 100000 in
theorem tw_1280 : (Cond.fieldLink "PathsKeptModel" (428 : Nat) "PathsKeptModel" "legsBy" "I") ∈ lw_tbl := ai_in_at 1403 (by decide +kernel)
set_option maxRecDepth 100000 in
theorem tw_1281 : (Cond.fieldLink "PathsKeptModel" (133 : Nat) "PathsKeptModel" "takes" "[I") ∈ lw_tbl := ai_in_at 1404 (by decide +kernel)
set_option maxRecDepth 100000 in
theorem tw_1282 : (Cond.fieldLink "PathsKeptModel" (136 : Nat) "PathsKeptModel" "settled" "[Z") ∈ lw_tbl := ai_in_at 1405 (by decide +kernel)
set_option maxRecDepth 100000 in
theorem tw_1283 : (Cond.fieldLink "PathsKeptModel" (139 : Nat) "PathsKeptModel" "root" "[I") ∈ lw_tbl := ai_in_at 1406 (by decide +kernel)
set_option maxRecDepth 100000 in
theorem tw_1284 : (Cond.fieldLink "PathsKeptModel" (142 : Nat) "PathsKeptModel" "row" "[I") ∈ lw_tbl := ai_in_at 1407 (by decide +kernel)
set_option maxRecDepth 100000 in
theorem tw_1285 : (Cond.fieldLink "PathsKeptModel" (145 : Nat) "PathsKeptModel" "keptOnes" "[I") ∈ lw_tbl := ai_in_at 1408 (by decide +kernel)
set_option maxRecDepth 100000 in
theorem tw_1286 : (Cond.fieldLink "PathsKeptModel" (544 : Nat) "PathsKeptModel" "keptOnesMany" "I") ∈ lw_tbl := ai_in_at 1409 (by decide +kernel)
set_option maxRecDepth 100000 in
theorem tw_1287 : (Cond.fieldLink "PathsKeptModel" (148 : Nat) "PathsKeptModel" "parishWins" "[Z") ∈ lw_tbl := ai_in_at 1410 (by decide +kernel)
set_option maxRecDepth 100000 in
theorem tw_1288 : (Cond.fieldLink "PathsKeptModel" (398 : Nat) "PathsKeptModel" "seenMany" "I") ∈ lw_tbl := ai_in_at 1411 (by decide +kernel)
set_option maxRecDepth 100000 in
theorem tw_1289 : (Cond.fieldLink "PathsKeptModel" (151 : Nat) "PathsKeptModel" "knownTold" "I") ∈ lw_tbl := ai_in_at 1412 (by decide +kernel)
set_option maxRecDepth 100000 in
theorem tw_1290 : (Cond.fieldLink "PathsKeptModel" (154 : Nat) "PathsKeptModel" "seen1" "[I") ∈ lw_tbl := ai_in_at 1413 (by decide +kernel)
set_option maxRecDepth 100000 in
theorem tw_1291 : (Cond.fieldLink "PathsKeptModel" (157 : Nat) "PathsKeptModel" "counts" "[Z") ∈ lw_tbl := ai_in_at 1414 (by decide +kernel)
set_option maxRecDepth 100000 in
theorem tw_1292 : (Cond.fieldLink "PathsKeptModel" (160 : Nat) "PathsKeptModel" "there" "[I") ∈ lw_tbl := ai_in_at 1415 (by decide +kernel)
set_option maxRecDepth 100000 in
theorem tw_1293 : (Cond.fieldLink "PathsKeptModel" (401 : Nat) "PathsKeptModel" "undos" "I") ∈ lw_tbl := ai_in_at 1416 (by decide +kernel)
set_option maxRecDepth 100000 in
theorem tw_1294 : (Cond.fieldLink "PathsKeptModel" (163 : Nat) "PathsKeptModel" "undo" "[I") ∈ lw_tbl := ai_in_at 1417 (by decide +kernel)
set_option maxRecDepth 100000 in
theorem tw_1295 : (Cond.fieldLink "PathsKeptModel" (404 : Nat) "PathsKeptModel" "hasImage" "Z") ∈ lw_tbl := ai_in_at 1418 (by decide +kernel)
set_option maxRecDepth 100000 in
theorem tw_1296 : (Cond.fieldLink "PathsKeptModel" (166 : Nat) "PathsKeptModel" "image" "[I") ∈ lw_tbl := ai_in_at 1419 (by decide +kernel)
set_option maxRecDepth 100000 in
theorem tw_1297 : (Cond.fieldLink "PathsKeptModel" (603 : Nat) "PathsKeptModel" "imageRefused" "I") ∈ lw_tbl := ai_in_at 1420 (by decide +kernel)
set_option maxRecDepth 100000 in
theorem tw_1298 : (Cond.fieldLink "PathsKeptModel" (606 : Nat) "PathsKeptModel" "imageDay" "I") ∈ lw_tbl := ai_in_at 1421 (by decide +kernel)
set_option maxRecDepth 100000 in
theorem tw_1299 : (Cond.fieldLink "PathsKeptModel" (609 : Nat) "PathsKeptModel" "imageDrawn" "J") ∈ lw_tbl := ai_in_at 1422 (by decide +kernel)
set_option maxRecDepth 100000 in
theorem tw_1493 : (Cond.methodLink "PathsKeptLaw" (45 : Nat) ({ cls := "PathsKeptModel", name := "thrown", desc := "()I" } : Jvm.MethodName)) ∈ lw_tbl := ai_in_at 1616 (by decide +kernel)
set_option maxRecDepth 100000 in
theorem tw_1494 : (Cond.instanceMethod ({ cls := "PathsKeptModel", name := "thrown", desc := "()I" } : Jvm.MethodName)) ∈ lw_tbl := ai_in_at 1617 (by decide +kernel)
set_option maxRecDepth 100000 in
theorem tw_1495 : (Cond.selects "PathsKeptModel" ({ cls := "PathsKeptModel", name := "thrown", desc := "()I" } : Jvm.MethodName) ({ cls := "PathsKeptModel", name := "thrown", desc := "()I" } : Jvm.MethodName)) ∈ lw_tbl := ai_in_at 1618 (by decide +kernel)
set_option maxRecDepth 100000 in
theorem tw_1496 : (Cond.code ({ cls := "PathsKeptModel", name := "thrown", desc := "()I" } : Jvm.MethodName) prog_13_method_2_code (1 : Nat) (Option.some Jvm.ClassFile.FieldType.int)) ∈ lw_tbl := ai_in_at 1619 (by decide +kernel)
set_option maxRecDepth 100000 in
theorem tw_1497 : (Cond.methodLink "PathsKeptLaw" (25 : Nat) ({ cls := "PathsKeptModel", name := "feed", desc := "(IIIII)I" } : Jvm.MethodName)) ∈ lw_tbl := ai_in_at 1620 (by decide +kernel)
set_option maxRecDepth 100000 in
theorem tw_1498 : (Cond.instanceMethod ({ cls := "PathsKeptModel", name := "feed", desc := "(IIIII)I" } : Jvm.MethodName)) ∈ lw_tbl := ai_in_at 1621 (by decide +kernel)
set_option maxRecDepth 100000 in
theorem tw_1499 : (Cond.selects "PathsKeptModel" ({ cls := "PathsKeptModel", name := "feed", desc := "(IIIII)I" } : Jvm.MethodName) ({ cls := "PathsKeptModel", name := "feed", desc := "(IIIII)I" } : Jvm.MethodName)) ∈ lw_tbl := ai_in_at 1622 (by decide +kernel)
set_option maxRecDepth 100000 in
theorem tw_1500 : (Cond.code ({ cls := "PathsKeptModel", name := "feed", desc := "(IIIII)I" } : Jvm.MethodName) prog_13_method_3_code (8 : Nat) (Option.some Jvm.ClassFile.FieldType.int)) ∈ lw_tbl := ai_in_at 1623 (by decide +kernel)
set_option maxRecDepth 100000 in
theorem tw_1501 : (Cond.methodLink "PathsKeptLaw" (30 : Nat) ({ cls := "PathsKeptModel", name := "text", desc := "(I)I" } : Jvm.MethodName)) ∈ lw_tbl := ai_in_at 1624 (by decide +kernel)
set_option maxRecDepth 100000 in
theorem tw_1502 : (Cond.instanceMethod ({ cls := "PathsKeptModel", name := "text", desc := "(I)I" } : Jvm.MethodName)) ∈ lw_tbl := ai_in_at 1625 (by decide +kernel)
set_option maxRecDepth 100000 in
theorem tw_1503 : (Cond.selects "PathsKeptModel" ({ cls := "PathsKeptModel", name := "text", desc := "(I)I" } : Jvm.MethodName) ({ cls := "PathsKeptModel", name := "text", desc := "(I)I" } : Jvm.MethodName)) ∈ lw_tbl := ai_in_at 1626 (by decide +kernel)
set_option maxRecDepth 100000 in
theorem tw_1504 : (Cond.code ({ cls := "PathsKeptModel", name := "text", desc := "(I)I" } : Jvm.MethodName) prog_13_method_30_code (3 : Nat) (Option.some Jvm.ClassFile.FieldType.int)) ∈ lw_tbl := ai_in_at 1627 (by decide +kernel)
set_option maxRecDepth 100000 in
theorem tw_1505 : (Cond.methodLink "PathsKeptModel" (227 : Nat) ({ cls := "PathsKeptModel", name := "token", desc := "()V" } : Jvm.MethodName)) ∈ lw_tbl := ai_in_at 1628 (by decide +kernel)
set_option maxRecDepth 100000 in
theorem tw_1507 : (Cond.instanceMethod ({ cls := "PathsKeptModel", name := "token", desc := "()V" } : Jvm.MethodName)) ∈ lw_tbl := ai_in_at 1630 (by decide +kernel)
set_option maxRecDepth 100000 in
theorem tw_1508 : (Cond.code ({ cls := "PathsKeptModel", name := "token", desc := "()V" } : Jvm.MethodName) prog_13_method_10_code (1 : Nat) (Option.none : Option Jvm.ClassFile.FieldType)) ∈ lw_tbl := ai_in_at 1631 (by decide +kernel)
set_option maxRecDepth 100000 in
theorem tw_1509 : (Cond.methodLink "PathsKeptModel" (196 : Nat) ({ cls := "PathsKeptModel", name := "isSmall", desc := "(I)Z" } : Jvm.MethodName)) ∈ lw_tbl := ai_in_at 1632 (by decide +kernel)
set_option maxRecDepth 100000 in
theorem tw_1511 : (Cond.instanceMethod ({ cls := "PathsKeptModel", name := "isSmall", desc := "(I)Z" } : Jvm.MethodName)) ∈ lw_tbl := ai_in_at 1634 (by decide +kernel)
set_option maxRecDepth 100000 in
theorem tw_1512 : (Cond.code ({ cls := "PathsKeptModel", name := "isSmall", desc := "(I)Z" } : Jvm.MethodName) prog_13_method_8_code (2 : Nat) (Option.some Jvm.ClassFile.FieldType.boolean)) ∈ lw_tbl := ai_in_at 1635 (by decide +kernel)
set_option maxRecDepth 100000 in
theorem tw_1513 : (Cond.methodLink "PathsKeptModel" (200 : Nat) ({ cls := "PathsKeptModel", name := "wordAt", desc := "(II)I" } : Jvm.MethodName)) ∈ lw_tbl := ai_in_at 1636 (by decide +kernel)
set_option maxRecDepth 100000 in
theorem tw_1515 : (Cond.instanceMethod ({ cls := "PathsKeptModel", name := "wordAt", desc := "(II)I" } : Jvm.MethodName)) ∈ lw_tbl := ai_in_at 1638 (by decide +kernel)
set_option maxRecDepth 100000 in
theorem tw_1516 : (Cond.code ({ cls := "PathsKeptModel", name := "wordAt", desc := "(II)I" } : Jvm.MethodName) prog_13_method_7_code (8 : Nat) (Option.some Jvm.ClassFile.FieldType.int)) ∈ lw_tbl := ai_in_at 1639 (by decide +kernel)
set_option maxRecDepth 100000 in
theorem tw_1517 : (Cond.methodLink "PathsKeptModel" (207 : Nat) ({ cls := "PathsKeptModel", name := "packed", desc := "(II)I" } : Jvm.MethodName)) ∈ lw_tbl := ai_in_at 1640 (by decide +kernel)
set_option maxRecDepth 100000 in
theorem tw_1519 : (Cond.instanceMethod ({ cls := "PathsKeptModel", name := "packed", desc := "(II)I" } : Jvm.MethodName)) ∈ lw_tbl := ai_in_at 1642 (by decide +kernel)
set_option maxRecDepth 100000 in
theorem tw_1520 : (Cond.code ({ cls := "PathsKeptModel", name := "packed", desc := "(II)I" } : Jvm.MethodName) prog_13_method_12_code (5 : Nat) (Option.some Jvm.ClassFile.FieldType.int)) ∈ lw_tbl := ai_in_at 1643 (by decide +kernel)
set_option maxRecDepth 100000 in
theorem tw_1521 : (Cond.methodLink "PathsKeptModel" (210 : Nat) ({ cls := "PathsKeptModel", name := "isDigit", desc := "(I)Z" } : Jvm.MethodName)) ∈ lw_tbl := ai_in_at 1644 (by decide +kernel)
set_option maxRecDepth 100000 in
theorem tw_1523 : (Cond.instanceMethod ({ cls := "PathsKeptModel", name := "isDigit", desc := "(I)Z" } : Jvm.MethodName)) ∈ lw_tbl := ai_in_at 1646 (by decide +kernel)
set_option maxRecDepth 100000 in
theorem tw_1524 : (Cond.code ({ cls := "PathsKeptModel", name := "isDigit", desc := "(I)Z" } : Jvm.MethodName) prog_13_method_9_code (2 : Nat) (Option.some Jvm.ClassFile.FieldType.boolean)) ∈ lw_tbl := ai_in_at 1647 (by decide +kernel)
set_option maxRecDepth 100000 in
theorem tw_1525 : (Cond.constant "PathsKeptModel" (213 : Nat) (99999 : Int32)) ∈ lw_tbl := ai_in_at 1648 (by decide +kernel)
set_option maxRecDepth 100000 in
theorem tw_1526 : (Cond.methodLink "PathsKeptModel" (214 : Nat) ({ cls := "PathsKeptModel", name := "signToken", desc := "()V" } : Jvm.MethodName)) ∈ lw_tbl := ai_in_at 1649 (by decide +kernel)
set_option maxRecDepth 100000 in
theorem tw_1528 : (Cond.instanceMethod ({ cls := "PathsKeptModel", name := "signToken", desc := "()V" } : Jvm.MethodName)) ∈ lw_tbl := ai_in_at 1651 (by decide +kernel)
set_option maxRecDepth 100000 in
theorem tw_1529 : (Cond.code ({ cls := "PathsKeptModel", name := "signToken", desc := "()V" } : Jvm.MethodName) prog_13_method_11_code (4 : Nat) (Option.none : Option Jvm.ClassFile.FieldType)) ∈ lw_tbl := ai_in_at 1652 (by decide +kernel)
set_option maxRecDepth 100000 in
theorem tw_1530 : (Cond.methodLink "PathsKeptModel" (316 : Nat) ({ cls := "PathsKeptModel", name := "lineRead", desc := "()Z" } : Jvm.MethodName)) ∈ lw_tbl := ai_in_at 1653 (by decide +kernel)
set_option maxRecDepth 100000 in
theorem tw_1532 : (Cond.instanceMethod ({ cls := "PathsKeptModel", name := "lineRead", desc := "()Z" } : Jvm.MethodName)) ∈ lw_tbl := ai_in_at 1655 (by decide +kernel)
set_option maxRecDepth 100000 in
theorem tw_1533 : (Cond.code ({ cls := "PathsKeptModel", name := "lineRead", desc := "()Z" } : Jvm.MethodName) prog_13_method_29_code (3 : Nat) (Option.some Jvm.ClassFile.FieldType.boolean)) ∈ lw_tbl := ai_in_at 1656 (by decide +kernel)
set_option maxRecDepth 100000 in
theorem tw_1534 : (Cond.methodLink "PathsKeptModel" (217 : Nat) ({ cls := "PathsKeptModel", name := "wrong", desc := "(I)Z" } : Jvm.MethodName)) ∈ lw_tbl := ai_in_at 1657 (by decide +kernel)
set_option maxRecDepth 100000 in
theorem tw_1536 : (Cond.instanceMethod ({ cls := "PathsKeptModel", name := "wrong", desc := "(I)Z" } : Jvm.MethodName)) ∈ lw_tbl := ai_in_at 1659 (by decide +kernel)
set_option maxRecDepth 100000 in
theorem tw_1537 : (Cond.code ({ cls := "PathsKeptModel", name := "wrong", desc := "(I)Z" } : Jvm.MethodName) prog_13_method_6_code (2 : Nat) (Option.some Jvm.ClassFile.FieldType.boolean)) ∈ lw_tbl := ai_in_at 1660 (by decide +kernel)
set_option maxRecDepth 100000 in
theorem tw_1538 : (Cond.methodLink "PathsKeptModel" (294 : Nat) ({ cls := "PathsKeptModel", name := "placeLine", desc := "()Z" } : Jvm.MethodName)) ∈ lw_tbl := ai_in_at 1661 (by decide +kernel)
set_option maxRecDepth 100000 in
theorem tw_1540 : (Cond.instanceMethod ({ cls := "PathsKeptModel", name := "placeLine", desc := "()Z" } : Jvm.MethodName)) ∈ lw_tbl := ai_in_at 1663 (by decide +kernel)
set_option maxRecDepth 100000 in
theorem tw_1541 : (Cond.code ({ cls := "PathsKeptModel", name := "placeLine", desc := "()Z" } : Jvm.MethodName) prog_13_method_23_code (1 : Nat) (Option.some Jvm.ClassFile.FieldType.boolean)) ∈ lw_tbl := ai_in_at 1664 (by decide +kernel)
set_option maxRecDepth 100000 in
theorem tw_1542 : (Cond.methodLink "PathsKeptModel" (287 : Nat) ({ cls := "PathsKeptModel", name := "newName", desc := "([III)Z" } : Jvm.MethodName)) ∈ lw_tbl := ai_in_at 1665 (by decide +kernel)
set_option maxRecDepth 100000 in
theorem tw_1544 : (Cond.instanceMethod ({ cls := "PathsKeptModel", name := "newName", desc := "([III)Z" } : Jvm.MethodName)) ∈ lw_tbl := ai_in_at 1667 (by decide +kernel)
set_option maxRecDepth 100000 in
theorem tw_1545 : (Cond.code ({ cls := "PathsKeptModel", name := "newName", desc := "([III)Z" } : Jvm.MethodName) prog_13_method_21_code (4 : Nat) (Option.some Jvm.ClassFile.FieldType.boolean)) ∈ lw_tbl := ai_in_at 1668 (by decide +kernel)
set_option maxRecDepth 100000 in
theorem tw_1546 : (Cond.methodLink "PathsKeptModel" (283 : Nat) ({ cls := "PathsKeptModel", name := "find", desc := "([IIII)I" } : Jvm.MethodName)) ∈ lw_tbl := ai_in_at 1669 (by decide +kernel)
set_option maxRecDepth 100000 in
theorem tw_1547 : (Cond.static ({ cls := "PathsKeptModel", name := "find", desc := "([IIII)I" } : Jvm.MethodName)) ∈ lw_tbl := ai_in_at 1670 (by decide +kernel)
set_option maxRecDepth 100000 in
theorem tw_1548 : (Cond.code ({ cls := "PathsKeptModel", name := "find", desc := "([IIII)I" } : Jvm.MethodName) prog_13_method_20_code (5 : Nat) (Option.some Jvm.ClassFile.FieldType.int)) ∈ lw_tbl := ai_in_at 1671 (by decide +kernel)
set_option maxRecDepth 100000 in
theorem tw_1549 : (Cond.methodLink "PathsKeptModel" (298 : Nat) ({ cls := "PathsKeptModel", name := "pathLine", desc := "()Z" } : Jvm.MethodName)) ∈ lw_tbl := ai_in_at 1672 (by decide +kernel)
set_option maxRecDepth 100000 in
theorem tw_1551 : (Cond.instanceMethod ({ cls := "PathsKeptModel", name := "pathLine", desc := "()Z" } : Jvm.MethodName)) ∈ lw_tbl := ai_in_at 1674 (by decide +kernel)
set_option maxRecDepth 100000 in
theorem tw_1552 : (Cond.code ({ cls := "PathsKeptModel", name := "pathLine", desc := "()Z" } : Jvm.MethodName) prog_13_method_24_code (3 : Nat) (Option.some Jvm.ClassFile.FieldType.boolean)) ∈ lw_tbl := ai_in_at 1675 (by decide +kernel)
set_option maxRecDepth 100000 in
theorem tw_1553 : (Cond.methodLink "PathsKeptModel" (291 : Nat) ({ cls := "PathsKeptModel", name := "thereIn", desc := "([III)Z" } : Jvm.MethodName)) ∈ lw_tbl := ai_in_at 1676 (by decide +kernel)
set_option maxRecDepth 100000 in
theorem tw_1555 : (Cond.instanceMethod ({ cls := "PathsKeptModel", name := "thereIn", desc := "([III)Z" } : Jvm.MethodName)) ∈ lw_tbl := ai_in_at 1678 (by decide +kernel)
set_option maxRecDepth 100000 in
theorem tw_1556 : (Cond.code ({ cls := "PathsKeptModel", name := "thereIn", desc := "([III)Z" } : Jvm.MethodName) prog_13_method_22_code (5 : Nat) (Option.some Jvm.ClassFile.FieldType.boolean)) ∈ lw_tbl := ai_in_at 1679 (by decide +kernel)
set_option maxRecDepth 100000 in
theorem tw_1557 : (Cond.methodLink "PathsKeptModel" (233 : Nat) ({ cls := "PathsKeptModel", name := "number", desc := "(II)Z" } : Jvm.MethodName)) ∈ lw_tbl := ai_in_at 1680 (by decide +kernel)
set_option maxRecDepth 100000 in
theorem tw_1559 : (Cond.instanceMethod ({ cls := "PathsKeptModel", name := "number", desc := "(II)Z" } : Jvm.MethodName)) ∈ lw_tbl := ai_in_at 1682 (by decide +kernel)
set_option maxRecDepth 100000 in
theorem tw_1560 : (Cond.code ({ cls := "PathsKeptModel", name := "number", desc := "(II)Z" } : Jvm.MethodName) prog_13_method_15_code (3 : Nat) (Option.some Jvm.ClassFile.FieldType.boolean)) ∈ lw_tbl := ai_in_at 1683 (by decide +kernel)
set_option maxRecDepth 100000 in
theorem tw_1561 : (Cond.methodLink "PathsKeptModel" (220 : Nat) ({ cls := "PathsKeptModel", name := "isIn", desc := "(III)Z" } : Jvm.MethodName)) ∈ lw_tbl := ai_in_at 1684 (by decide +kernel)
set_option maxRecDepth 100000 in
theorem tw_1562 : (Cond.static ({ cls := "PathsKeptModel", name := "isIn", desc := "(III)Z" } : Jvm.MethodName)) ∈ lw_tbl := ai_in_at 1685 (by decide +kernel)
set_option maxRecDepth 100000 in
theorem tw_1563 : (Cond.code ({ cls := "PathsKeptModel", name := "isIn", desc := "(III)Z" } : Jvm.MethodName) prog_13_method_4_code (3 : Nat) (Option.some Jvm.ClassFile.FieldType.boolean)) ∈ lw_tbl := ai_in_at 1686 (by decide +kernel)
set_option maxRecDepth 100000 in
theorem tw_1564 : (Cond.methodLink "PathsKeptModel" (301 : Nat) ({ cls := "PathsKeptModel", name := "walkerLine", desc := "()Z" } : Jvm.MethodName)) ∈ lw_tbl := ai_in_at 1687 (by decide +kernel)
set_option maxRecDepth 100000 in
theorem tw_1566 : (Cond.instanceMethod ({ cls := "PathsKeptModel", name := "walkerLine", desc := "()Z" } : Jvm.MethodName)) ∈ lw_tbl := ai_in_at 1689 (by decide +kernel)
set_option maxRecDepth 100000 in
theorem tw_1567 : (Cond.code ({ cls := "PathsKeptModel", name := "walkerLine", desc := "()Z" } : Jvm.MethodName) prog_13_method_25_code (2 : Nat) (Option.some Jvm.ClassFile.FieldType.boolean)) ∈ lw_tbl := ai_in_at 1690 (by decide +kernel)
set_option maxRecDepth 100000 in
theorem tw_1568 : (Cond.methodLink "PathsKeptModel" (304 : Nat) ({ cls := "PathsKeptModel", name := "walkLine", desc := "()Z" } : Jvm.MethodName)) ∈ lw_tbl := ai_in_at 1691 (by decide +kernel)
set_option maxRecDepth 100000 in
theorem tw_1570 : (Cond.instanceMethod ({ cls := "PathsKeptModel", name := "walkLine", desc := "()Z" } : Jvm.MethodName)) ∈ lw_tbl := ai_in_at 1693 (by decide +kernel)
set_option maxRecDepth 100000 in
theorem tw_1571 : (Cond.code ({ cls := "PathsKeptModel", name := "walkLine", desc := "()Z" } : Jvm.MethodName) prog_13_method_26_code (2 : Nat) (Option.some Jvm.ClassFile.FieldType.boolean)) ∈ lw_tbl := ai_in_at 1694 (by decide +kernel)
set_option maxRecDepth 100000 in
theorem tw_1572 : (Cond.methodLink "PathsKeptModel" (307 : Nat) ({ cls := "PathsKeptModel", name := "bullLine", desc := "()Z" } : Jvm.MethodName)) ∈ lw_tbl := ai_in_at 1695 (by decide +kernel)
set_option maxRecDepth 100000 in
theorem tw_1574 : (Cond.instanceMethod ({ cls := "PathsKeptModel", name := "bullLine", desc := "()Z" } : Jvm.MethodName)) ∈ lw_tbl := ai_in_at 1697 (by decide +kernel)
set_option maxRecDepth 100000 in
theorem tw_1575 : (Cond.code ({ cls := "PathsKeptModel", name := "bullLine", desc := "()Z" } : Jvm.MethodName) prog_13_method_27_code (2 : Nat) (Option.some Jvm.ClassFile.FieldType.boolean)) ∈ lw_tbl := ai_in_at 1698 (by decide +kernel)
set_option maxRecDepth 100000 in
theorem tw_1576 : (Cond.methodLink "PathsKeptModel" (310 : Nat) ({ cls := "PathsKeptModel", name := "onceLine", desc := "(III)Z" } : Jvm.MethodName)) ∈ lw_tbl := ai_in_at 1699 (by decide +kernel)
set_option maxRecDepth 100000 in
theorem tw_1578 : (Cond.instanceMethod ({ cls := "PathsKeptModel", name := "onceLine", desc := "(III)Z" } : Jvm.MethodName)) ∈ lw_tbl := ai_in_at 1701 (by decide +kernel)
set_option maxRecDepth 100000 in
theorem tw_1579 : (Cond.code ({ cls := "PathsKeptModel", name := "onceLine", desc := "(III)Z" } : Jvm.MethodName) prog_13_method_28_code (4 : Nat) (Option.some Jvm.ClassFile.FieldType.boolean)) ∈ lw_tbl := ai_in_at 1702 (by decide +kernel)
set_option maxRecDepth 100000 in
theorem tw_1580 : (Cond.methodLink "PathsKeptModel" (313 : Nat) ({ cls := "PathsKeptModel", name := "sumRead", desc := "()Z" } : Jvm.MethodName)) ∈ lw_tbl := ai_in_at 1703 (by decide +kernel)
set_option maxRecDepth 100000 in
theorem tw_1582 : (Cond.instanceMethod ({ cls := "PathsKeptModel", name := "sumRead", desc := "()Z" } : Jvm.MethodName)) ∈ lw_tbl := ai_in_at 1705 (by decide +kernel)
set_option maxRecDepth 100000 in
theorem tw_1583 : (Cond.code ({ cls := "PathsKeptModel", name := "sumRead", desc := "()Z" } : Jvm.MethodName) prog_13_method_42_code (1 : Nat) (Option.some Jvm.ClassFile.FieldType.boolean)) ∈ lw_tbl := ai_in_at 1706 (by decide +kernel)
set_option maxRecDepth 100000 in
theorem tw_1584 : (Cond.methodLink "PathsKeptModel" (230 : Nat) ({ cls := "PathsKeptModel", name := "isSign", desc := "(I)Z" } : Jvm.MethodName)) ∈ lw_tbl := ai_in_at 1707 (by decide +kernel)
set_option maxRecDepth 100000 in
theorem tw_1586 : (Cond.instanceMethod ({ cls := "PathsKeptModel", name := "isSign", desc := "(I)Z" } : Jvm.MethodName)) ∈ lw_tbl := ai_in_at 1709 (by decide +kernel)
set_option maxRecDepth 100000 in
theorem tw_1587 : (Cond.code ({ cls := "PathsKeptModel", name := "isSign", desc := "(I)Z" } : Jvm.MethodName) prog_13_method_14_code (2 : Nat) (Option.some Jvm.ClassFile.FieldType.boolean)) ∈ lw_tbl := ai_in_at 1710 (by decide +kernel)
set_option maxRecDepth 100000 in
theorem tw_1588 : (Cond.methodLink "PathsKeptModel" (363 : Nat) ({ cls := "PathsKeptModel", name := "leafRead", desc := "()Z" } : Jvm.MethodName)) ∈ lw_tbl := ai_in_at 1711 (by decide +kernel)
set_option maxRecDepth 100000 in
theorem tw_1590 : (Cond.instanceMethod ({ cls := "PathsKeptModel", name := "leafRead", desc := "()Z" } : Jvm.MethodName)) ∈ lw_tbl := ai_in_at 1713 (by decide +kernel)
set_option maxRecDepth 100000 in
theorem tw_1591 : (Cond.code ({ cls := "PathsKeptModel", name := "leafRead", desc := "()Z" } : Jvm.MethodName) prog_13_method_40_code (2 : Nat) (Option.some Jvm.ClassFile.FieldType.boolean)) ∈ lw_tbl := ai_in_at 1714 (by decide +kernel)
set_option maxRecDepth 100000 in
theorem tw_1592 : (Cond.methodLink "PathsKeptModel" (340 : Nat) ({ cls := "PathsKeptModel", name := "waitsFor", desc := "(I)V" } : Jvm.MethodName)) ∈ lw_tbl := ai_in_at 1715 (by decide +kernel)
set_option maxRecDepth 100000 in
theorem tw_1594 : (Cond.instanceMethod ({ cls := "PathsKeptModel", name := "waitsFor", desc := "(I)V" } : Jvm.MethodName)) ∈ lw_tbl := ai_in_at 1717 (by decide +kernel)
set_option maxRecDepth 100000 in
theorem tw_1595 : (Cond.code ({ cls := "PathsKeptModel", name := "waitsFor", desc := "(I)V" } : Jvm.MethodName) prog_13_method_38_code (2 : Nat) (Option.none : Option Jvm.ClassFile.FieldType)) ∈ lw_tbl := ai_in_at 1718 (by decide +kernel)
set_option maxRecDepth 100000 in
theorem tw_1596 : (Cond.methodLink "PathsKeptModel" (348 : Nat) ({ cls := "PathsKeptModel", name := "isKey", desc := "(I)Z" } : Jvm.MethodName)) ∈ lw_tbl := ai_in_at 1719 (by decide +kernel)
set_option maxRecDepth 100000 in
theorem tw_1598 : (Cond.instanceMethod ({ cls := "PathsKeptModel", name := "isKey", desc := "(I)Z" } : Jvm.MethodName)) ∈ lw_tbl := ai_in_at 1721 (by decide +kernel)
set_option maxRecDepth 100000 in
theorem tw_1599 : (Cond.code ({ cls := "PathsKeptModel", name := "isKey", desc := "(I)Z" } : Jvm.MethodName) prog_13_method_13_code (2 : Nat) (Option.some Jvm.ClassFile.FieldType.boolean)) ∈ lw_tbl := ai_in_at 1722 (by decide +kernel)
set_option maxRecDepth 100000 in
theorem tw_1600 : (Cond.methodLink "PathsKeptModel" (351 : Nat) ({ cls := "PathsKeptModel", name := "isCounted", desc := "()Z" } : Jvm.MethodName)) ∈ lw_tbl := ai_in_at 1723 (by decide +kernel)
set_option maxRecDepth 100000 in
theorem tw_1602 : (Cond.instanceMethod ({ cls := "PathsKeptModel", name := "isCounted", desc := "()Z" } : Jvm.MethodName)) ∈ lw_tbl := ai_in_at 1725 (by decide +kernel)
set_option maxRecDepth 100000 in
theorem tw_1603 : (Cond.code ({ cls := "PathsKeptModel", name := "isCounted", desc := "()Z" } : Jvm.MethodName) prog_13_method_37_code (1 : Nat) (Option.some Jvm.ClassFile.FieldType.boolean)) ∈ lw_tbl := ai_in_at 1726 (by decide +kernel)
set_option maxRecDepth 100000 in
theorem tw_1604 : (Cond.methodLink "PathsKeptModel" (354 : Nat) ({ cls := "PathsKeptModel", name := "nameMet", desc := "()I" } : Jvm.MethodName)) ∈ lw_tbl := ai_in_at 1727 (by decide +kernel)
set_option maxRecDepth 100000 in
theorem tw_1606 : (Cond.instanceMethod ({ cls := "PathsKeptModel", name := "nameMet", desc := "()I" } : Jvm.MethodName)) ∈ lw_tbl := ai_in_at 1729 (by decide +kernel)
set_option maxRecDepth 100000 in
theorem tw_1607 : (Cond.code ({ cls := "PathsKeptModel", name := "nameMet", desc := "()I" } : Jvm.MethodName) prog_13_method_39_code (1 : Nat) (Option.some Jvm.ClassFile.FieldType.int)) ∈ lw_tbl := ai_in_at 1730 (by decide +kernel)
set_option maxRecDepth 100000 in
theorem tw_1608 : (Cond.methodLink "PathsKeptModel" (333 : Nat) ({ cls := "PathsKeptModel", name := "grown", desc := "(III)V" } : Jvm.MethodName)) ∈ lw_tbl := ai_in_at 1731 (by decide +kernel)
set_option maxRecDepth 100000 in
theorem tw_1610 : (Cond.instanceMethod ({ cls := "PathsKeptModel", name := "grown", desc := "(III)V" } : Jvm.MethodName)) ∈ lw_tbl := ai_in_at 1733 (by decide +kernel)
set_option maxRecDepth 100000 in
theorem tw_1611 : (Cond.code ({ cls := "PathsKeptModel", name := "grown", desc := "(III)V" } : Jvm.MethodName) prog_13_method_34_code (4 : Nat) (Option.none : Option Jvm.ClassFile.FieldType)) ∈ lw_tbl := ai_in_at 1734 (by decide +kernel)
set_option maxRecDepth 100000 in
theorem tw_1612 : (Cond.methodLink "PathsKeptModel" (366 : Nat) ({ cls := "PathsKeptModel", name := "signs", desc := "()Z" } : Jvm.MethodName)) ∈ lw_tbl := ai_in_at 1735 (by decide +kernel)
set_option maxRecDepth 100000 in
theorem tw_1614 : (Cond.instanceMethod ({ cls := "PathsKeptModel", name := "signs", desc := "()Z" } : Jvm.MethodName)) ∈ lw_tbl := ai_in_at 1737 (by decide +kernel)
set_option maxRecDepth 100000 in
theorem tw_1615 : (Cond.code ({ cls := "PathsKeptModel", name := "signs", desc := "()Z" } : Jvm.MethodName) prog_13_method_41_code (2 : Nat) (Option.some Jvm.ClassFile.FieldType.boolean)) ∈ lw_tbl := ai_in_at 1738 (by decide +kernel)
set_option maxRecDepth 100000 in
theorem tw_1616 : (Cond.methodLink "PathsKeptModel" (360 : Nat) ({ cls := "PathsKeptModel", name := "bind", desc := "(I)V" } : Jvm.MethodName)) ∈ lw_tbl := ai_in_at 1739 (by decide +kernel)
set_option maxRecDepth 100000 in
theorem tw_1618 : (Cond.instanceMethod ({ cls := "PathsKeptModel", name := "bind", desc := "(I)V" } : Jvm.MethodName)) ∈ lw_tbl := ai_in_at 1741 (by decide +kernel)
set_option maxRecDepth 100000 in
theorem tw_1619 : (Cond.code ({ cls := "PathsKeptModel", name := "bind", desc := "(I)V" } : Jvm.MethodName) prog_13_method_36_code (5 : Nat) (Option.none : Option Jvm.ClassFile.FieldType)) ∈ lw_tbl := ai_in_at 1742 (by decide +kernel)
set_option maxRecDepth 100000 in
theorem tw_1620 : (Cond.methodLink "PathsKeptModel" (325 : Nat) ({ cls := "PathsKeptModel", name := "rank", desc := "(I)I" } : Jvm.MethodName)) ∈ lw_tbl := ai_in_at 1743 (by decide +kernel)
set_option maxRecDepth 100000 in
theorem tw_1621 : (Cond.static ({ cls := "PathsKeptModel", name := "rank", desc := "(I)I" } : Jvm.MethodName)) ∈ lw_tbl := ai_in_at 1744 (by decide +kernel)
set_option maxRecDepth 100000 in
theorem tw_1622 : (Cond.code ({ cls := "PathsKeptModel", name := "rank", desc := "(I)I" } : Jvm.MethodName) prog_13_method_33_code (1 : Nat) (Option.some Jvm.ClassFile.FieldType.int)) ∈ lw_tbl := ai_in_at 1745 (by decide +kernel)
set_option maxRecDepth 100000 in
theorem tw_1623 : (Cond.methodLink "PathsKeptModel" (329 : Nat) ({ cls := "PathsKeptModel", name := "dropHeld", desc := "()I" } : Jvm.MethodName)) ∈ lw_tbl := ai_in_at 1746 (by decide +kernel)
set_option maxRecDepth 100000 in
theorem tw_1625 : (Cond.instanceMethod ({ cls := "PathsKeptModel", name := "dropHeld", desc := "()I" } : Jvm.MethodName)) ∈ lw_tbl := ai_in_at 1748 (by decide +kernel)
set_option maxRecDepth 100000 in
theorem tw_1626 : (Cond.code ({ cls := "PathsKeptModel", name := "dropHeld", desc := "()I" } : Jvm.MethodName) prog_13_method_35_code (1 : Nat) (Option.some Jvm.ClassFile.FieldType.int)) ∈ lw_tbl := ai_in_at 1749 (by decide +kernel)
set_option maxRecDepth 100000 in
theorem tw_1627 : (Cond.methodLink "PathsKeptLaw" (34 : Nat) ({ cls := "PathsKeptModel", name := "fault", desc := "(I)I" } : Jvm.MethodName)) ∈ lw_tbl := ai_in_at 1750 (by decide +kernel)
set_option maxRecDepth 100000 in
theorem tw_1628 : (Cond.instanceMethod ({ cls := "PathsKeptModel", name := "fault", desc := "(I)I" } : Jvm.MethodName)) ∈ lw_tbl := ai_in_at 1751 (by decide +kernel)
set_option maxRecDepth 100000 in
theorem tw_1629 : (Cond.selects "PathsKeptModel" ({ cls := "PathsKeptModel", name := "fault", desc := "(I)I" } : Jvm.MethodName) ({ cls := "PathsKeptModel", name := "fault", desc := "(I)I" } : Jvm.MethodName)) ∈ lw_tbl := ai_in_at 1752 (by decide +kernel)
set_option maxRecDepth 100000 in
theorem tw_1630 : (Cond.code ({ cls := "PathsKeptModel", name := "fault", desc := "(I)I" } : Jvm.MethodName) prog_13_method_31_code (2 : Nat) (Option.some Jvm.ClassFile.FieldType.int)) ∈ lw_tbl := ai_in_at 1753 (by decide +kernel)
set_option maxRecDepth 100000 in
theorem tw_1631 : (Cond.methodLink "PathsKeptLaw" (38 : Nat) ({ cls := "PathsKeptModel", name := "named", desc := "(II)I" } : Jvm.MethodName)) ∈ lw_tbl := ai_in_at 1754 (by decide +kernel)
set_option maxRecDepth 100000 in
theorem tw_1632 : (Cond.instanceMethod ({ cls := "PathsKeptModel", name := "named", desc := "(II)I" } : Jvm.MethodName)) ∈ lw_tbl := ai_in_at 1755 (by decide +kernel)
set_option maxRecDepth 100000 in
theorem tw_1633 : (Cond.selects "PathsKeptModel" ({ cls := "PathsKeptModel", name := "named", desc := "(II)I" } : Jvm.MethodName) ({ cls := "PathsKeptModel", name := "named", desc := "(II)I" } : Jvm.MethodName)) ∈ lw_tbl := ai_in_at 1756 (by decide +kernel)
set_option maxRecDepth 100000 in
theorem tw_1634 : (Cond.code ({ cls := "PathsKeptModel", name := "named", desc := "(II)I" } : Jvm.MethodName) prog_13_method_32_code (3 : Nat) (Option.some Jvm.ClassFile.FieldType.int)) ∈ lw_tbl := ai_in_at 1757 (by decide +kernel)
set_option maxRecDepth 100000 in
theorem tw_1635 : (Cond.methodLink "PathsKeptLaw" (44 : Nat) ({ cls := "PathsKeptModel", name := "path", desc := "(II)I" } : Jvm.MethodName)) ∈ lw_tbl := ai_in_at 1758 (by decide +kernel)
set_option maxRecDepth 100000 in
theorem tw_1636 : (Cond.instanceMethod ({ cls := "PathsKeptModel", name := "path", desc := "(II)I" } : Jvm.MethodName)) ∈ lw_tbl := ai_in_at 1759 (by decide +kernel)
set_option maxRecDepth 100000 in
theorem tw_1637 : (Cond.selects "PathsKeptModel" ({ cls := "PathsKeptModel", name := "path", desc := "(II)I" } : Jvm.MethodName) ({ cls := "PathsKeptModel", name := "path", desc := "(II)I" } : Jvm.MethodName)) ∈ lw_tbl := ai_in_at 1760 (by decide +kernel)
set_option maxRecDepth 100000 in
theorem tw_1638 : (Cond.code ({ cls := "PathsKeptModel", name := "path", desc := "(II)I" } : Jvm.MethodName) prog_13_method_70_code (3 : Nat) (Option.some Jvm.ClassFile.FieldType.int)) ∈ lw_tbl := ai_in_at 1761 (by decide +kernel)
set_option maxRecDepth 100000 in
theorem tw_1639 : (Cond.methodLink "PathsKeptModel" (488 : Nat) ({ cls := "PathsKeptModel", name := "isPath", desc := "(I)Z" } : Jvm.MethodName)) ∈ lw_tbl := ai_in_at 1762 (by decide +kernel)
set_option maxRecDepth 100000 in
theorem tw_1641 : (Cond.instanceMethod ({ cls := "PathsKeptModel", name := "isPath", desc := "(I)Z" } : Jvm.MethodName)) ∈ lw_tbl := ai_in_at 1764 (by decide +kernel)
set_option maxRecDepth 100000 in
theorem tw_1642 : (Cond.code ({ cls := "PathsKeptModel", name := "isPath", desc := "(I)Z" } : Jvm.MethodName) prog_13_method_52_code (2 : Nat) (Option.some Jvm.ClassFile.FieldType.boolean)) ∈ lw_tbl := ai_in_at 1765 (by decide +kernel)
set_option maxRecDepth 100000 in
theorem tw_1643 : (Cond.methodLink "PathsKeptModel" (491 : Nat) ({ cls := "PathsKeptModel", name := "fails", desc := "(I)I" } : Jvm.MethodName)) ∈ lw_tbl := ai_in_at 1766 (by decide +kernel)
set_option maxRecDepth 100000 in
theorem tw_1645 : (Cond.instanceMethod ({ cls := "PathsKeptModel", name := "fails", desc := "(I)I" } : Jvm.MethodName)) ∈ lw_tbl := ai_in_at 1768 (by decide +kernel)
set_option maxRecDepth 100000 in
theorem tw_1646 : (Cond.code ({ cls := "PathsKeptModel", name := "fails", desc := "(I)I" } : Jvm.MethodName) prog_13_method_69_code (2 : Nat) (Option.some Jvm.ClassFile.FieldType.int)) ∈ lw_tbl := ai_in_at 1769 (by decide +kernel)
set_option maxRecDepth 100000 in
theorem tw_1647 : (Cond.methodLink "PathsKeptModel" (453 : Nat) ({ cls := "PathsKeptModel", name := "hasBull", desc := "(II)Z" } : Jvm.MethodName)) ∈ lw_tbl := ai_in_at 1770 (by decide +kernel)
set_option maxRecDepth 100000 in
theorem tw_1649 : (Cond.instanceMethod ({ cls := "PathsKeptModel", name := "hasBull", desc := "(II)Z" } : Jvm.MethodName)) ∈ lw_tbl := ai_in_at 1772 (by decide +kernel)
set_option maxRecDepth 100000 in
theorem tw_1650 : (Cond.code ({ cls := "PathsKeptModel", name := "hasBull", desc := "(II)Z" } : Jvm.MethodName) prog_13_method_58_code (4 : Nat) (Option.some Jvm.ClassFile.FieldType.boolean)) ∈ lw_tbl := ai_in_at 1773 (by decide +kernel)
set_option maxRecDepth 100000 in
theorem tw_1651 : (Cond.methodLink "PathsKeptLaw" (52 : Nat) ({ cls := "PathsKeptModel", name := "walker", desc := "(II)I" } : Jvm.MethodName)) ∈ lw_tbl := ai_in_at 1774 (by decide +kernel)
set_option maxRecDepth 100000 in
theorem tw_1652 : (Cond.instanceMethod ({ cls := "PathsKeptModel", name := "walker", desc := "(II)I" } : Jvm.MethodName)) ∈ lw_tbl := ai_in_at 1775 (by decide +kernel)
set_option maxRecDepth 100000 in
theorem tw_1653 : (Cond.selects "PathsKeptModel" ({ cls := "PathsKeptModel", name := "walker", desc := "(II)I" } : Jvm.MethodName) ({ cls := "PathsKeptModel", name := "walker", desc := "(II)I" } : Jvm.MethodName)) ∈ lw_tbl := ai_in_at 1776 (by decide +kernel)
set_option maxRecDepth 100000 in
theorem tw_1654 : (Cond.code ({ cls := "PathsKeptModel", name := "walker", desc := "(II)I" } : Jvm.MethodName) prog_13_method_71_code (5 : Nat) (Option.some Jvm.ClassFile.FieldType.int)) ∈ lw_tbl := ai_in_at 1777 (by decide +kernel)
set_option maxRecDepth 100000 in
theorem tw_1655 : (Cond.methodLink "PathsKeptModel" (494 : Nat) ({ cls := "PathsKeptModel", name := "isWalker", desc := "(I)Z" } : Jvm.MethodName)) ∈ lw_tbl := ai_in_at 1778 (by decide +kernel)
set_option maxRecDepth 100000 in
theorem tw_1657 : (Cond.instanceMethod ({ cls := "PathsKeptModel", name := "isWalker", desc := "(I)Z" } : Jvm.MethodName)) ∈ lw_tbl := ai_in_at 1780 (by decide +kernel)
set_option maxRecDepth 100000 in
theorem tw_1658 : (Cond.code ({ cls := "PathsKeptModel", name := "isWalker", desc := "(I)Z" } : Jvm.MethodName) prog_13_method_53_code (2 : Nat) (Option.some Jvm.ClassFile.FieldType.boolean)) ∈ lw_tbl := ai_in_at 1781 (by decide +kernel)
set_option maxRecDepth 100000 in
theorem tw_1659 : (Cond.methodLink "PathsKeptModel" (476 : Nat) ({ cls := "PathsKeptModel", name := "can", desc := "(III)Z" } : Jvm.MethodName)) ∈ lw_tbl := ai_in_at 1782 (by decide +kernel)
set_option maxRecDepth 100000 in
theorem tw_1661 : (Cond.instanceMethod ({ cls := "PathsKeptModel", name := "can", desc := "(III)Z" } : Jvm.MethodName)) ∈ lw_tbl := ai_in_at 1784 (by decide +kernel)
set_option maxRecDepth 100000 in
theorem tw_1662 : (Cond.code ({ cls := "PathsKeptModel", name := "can", desc := "(III)Z" } : Jvm.MethodName) prog_13_method_61_code (7 : Nat) (Option.some Jvm.ClassFile.FieldType.boolean)) ∈ lw_tbl := ai_in_at 1785 (by decide +kernel)
set_option maxRecDepth 100000 in
theorem tw_1663 : (Cond.methodLink "PathsKeptModel" (450 : Nat) ({ cls := "PathsKeptModel", name := "isAtEnd", desc := "(II)Z" } : Jvm.MethodName)) ∈ lw_tbl := ai_in_at 1786 (by decide +kernel)
set_option maxRecDepth 100000 in
theorem tw_1665 : (Cond.instanceMethod ({ cls := "PathsKeptModel", name := "isAtEnd", desc := "(II)Z" } : Jvm.MethodName)) ∈ lw_tbl := ai_in_at 1788 (by decide +kernel)
set_option maxRecDepth 100000 in
theorem tw_1666 : (Cond.code ({ cls := "PathsKeptModel", name := "isAtEnd", desc := "(II)Z" } : Jvm.MethodName) prog_13_method_59_code (3 : Nat) (Option.some Jvm.ClassFile.FieldType.boolean)) ∈ lw_tbl := ai_in_at 1789 (by decide +kernel)
set_option maxRecDepth 100000 in
theorem tw_1667 : (Cond.methodLink "PathsKeptModel" (435 : Nat) ({ cls := "PathsKeptModel", name := "legsIn", desc := "(I)I" } : Jvm.MethodName)) ∈ lw_tbl := ai_in_at 1790 (by decide +kernel)
set_option maxRecDepth 100000 in
theorem tw_1669 : (Cond.instanceMethod ({ cls := "PathsKeptModel", name := "legsIn", desc := "(I)I" } : Jvm.MethodName)) ∈ lw_tbl := ai_in_at 1792 (by decide +kernel)
set_option maxRecDepth 100000 in
theorem tw_1670 : (Cond.code ({ cls := "PathsKeptModel", name := "legsIn", desc := "(I)I" } : Jvm.MethodName) prog_13_method_54_code (2 : Nat) (Option.some Jvm.ClassFile.FieldType.int)) ∈ lw_tbl := ai_in_at 1793 (by decide +kernel)
set_option maxRecDepth 100000 in
theorem tw_1671 : (Cond.methodLink "PathsKeptModel" (442 : Nat) ({ cls := "PathsKeptModel", name := "layBoth", desc := "(III)V" } : Jvm.MethodName)) ∈ lw_tbl := ai_in_at 1794 (by decide +kernel)
set_option maxRecDepth 100000 in
theorem tw_1673 : (Cond.instanceMethod ({ cls := "PathsKeptModel", name := "layBoth", desc := "(III)V" } : Jvm.MethodName)) ∈ lw_tbl := ai_in_at 1796 (by decide +kernel)
set_option maxRecDepth 100000 in
theorem tw_1674 : (Cond.code ({ cls := "PathsKeptModel", name := "layBoth", desc := "(III)V" } : Jvm.MethodName) prog_13_method_56_code (4 : Nat) (Option.none : Option Jvm.ClassFile.FieldType)) ∈ lw_tbl := ai_in_at 1797 (by decide +kernel)
set_option maxRecDepth 100000 in
theorem tw_1675 : (Cond.methodLink "PathsKeptModel" (431 : Nat) ({ cls := "PathsKeptModel", name := "layPath", desc := "(II)V" } : Jvm.MethodName)) ∈ lw_tbl := ai_in_at 1798 (by decide +kernel)
set_option maxRecDepth 100000 in
theorem tw_1677 : (Cond.instanceMethod ({ cls := "PathsKeptModel", name := "layPath", desc := "(II)V" } : Jvm.MethodName)) ∈ lw_tbl := ai_in_at 1800 (by decide +kernel)
set_option maxRecDepth 100000 in
theorem tw_1678 : (Cond.code ({ cls := "PathsKeptModel", name := "layPath", desc := "(II)V" } : Jvm.MethodName) prog_13_method_55_code (3 : Nat) (Option.none : Option Jvm.ClassFile.FieldType)) ∈ lw_tbl := ai_in_at 1801 (by decide +kernel)
set_option maxRecDepth 100000 in
theorem tw_1679 : (Cond.methodLink "PathsKeptModel" (445 : Nat) ({ cls := "PathsKeptModel", name := "lawOf", desc := "(I)J" } : Jvm.MethodName)) ∈ lw_tbl := ai_in_at 1802 (by decide +kernel)
set_option maxRecDepth 100000 in
theorem tw_1681 : (Cond.instanceMethod ({ cls := "PathsKeptModel", name := "lawOf", desc := "(I)J" } : Jvm.MethodName)) ∈ lw_tbl := ai_in_at 1804 (by decide +kernel)
set_option maxRecDepth 100000 in
theorem tw_1682 : (Cond.code ({ cls := "PathsKeptModel", name := "lawOf", desc := "(I)J" } : Jvm.MethodName) prog_13_method_57_code (3 : Nat) (Option.some Jvm.ClassFile.FieldType.long)) ∈ lw_tbl := ai_in_at 1805 (by decide +kernel)
set_option maxRecDepth 100000 in
theorem tw_1683 : (Cond.methodLink "PathsKeptModel" (438 : Nat) ({ cls := "PathsKeptModel", name := "valueOf", desc := "(I)J" } : Jvm.MethodName)) ∈ lw_tbl := ai_in_at 1806 (by decide +kernel)
set_option maxRecDepth 100000 in
theorem tw_1685 : (Cond.instanceMethod ({ cls := "PathsKeptModel", name := "valueOf", desc := "(I)J" } : Jvm.MethodName)) ∈ lw_tbl := ai_in_at 1808 (by decide +kernel)
set_option maxRecDepth 100000 in
theorem tw_1686 : (Cond.code ({ cls := "PathsKeptModel", name := "valueOf", desc := "(I)J" } : Jvm.MethodName) prog_13_method_46_code (6 : Nat) (Option.some Jvm.ClassFile.FieldType.long)) ∈ lw_tbl := ai_in_at 1809 (by decide +kernel)
set_option maxRecDepth 100000 in
theorem tw_1687 : (Cond.methodLink "PathsKeptModel" (376 : Nat) ({ cls := "PathsKeptModel", name := "bounded", desc := "(J)J" } : Jvm.MethodName)) ∈ lw_tbl := ai_in_at 1810 (by decide +kernel)
set_option maxRecDepth 100000 in
theorem tw_1689 : (Cond.instanceMethod ({ cls := "PathsKeptModel", name := "bounded", desc := "(J)J" } : Jvm.MethodName)) ∈ lw_tbl := ai_in_at 1812 (by decide +kernel)
set_option maxRecDepth 100000 in
theorem tw_1690 : (Cond.code ({ cls := "PathsKeptModel", name := "bounded", desc := "(J)J" } : Jvm.MethodName) prog_13_method_43_code (3 : Nat) (Option.some Jvm.ClassFile.FieldType.long)) ∈ lw_tbl := ai_in_at 1813 (by decide +kernel)
set_option maxRecDepth 100000 in
theorem tw_1691 : (Cond.constantLong "PathsKeptModel" (372 : Nat) (1000000000000 : Int64)) ∈ lw_tbl := ai_in_at 1814 (by decide +kernel)
set_option maxRecDepth 100000 in
theorem tw_1692 : (Cond.constantLong "PathsKeptModel" (374 : Nat) (-1000000000000 : Int64)) ∈ lw_tbl := ai_in_at 1815 (by decide +kernel)
set_option maxRecDepth 100000 in
theorem tw_1693 : (Cond.methodLink "PathsKeptModel" (380 : Nat) ({ cls := "PathsKeptModel", name := "times", desc := "(JJ)J" } : Jvm.MethodName)) ∈ lw_tbl := ai_in_at 1816 (by decide +kernel)
set_option maxRecDepth 100000 in
theorem tw_1695 : (Cond.instanceMethod ({ cls := "PathsKeptModel", name := "times", desc := "(JJ)J" } : Jvm.MethodName)) ∈ lw_tbl := ai_in_at 1818 (by decide +kernel)
set_option maxRecDepth 100000 in
theorem tw_1696 : (Cond.code ({ cls := "PathsKeptModel", name := "times", desc := "(JJ)J" } : Jvm.MethodName) prog_13_method_45_code (6 : Nat) (Option.some Jvm.ClassFile.FieldType.long)) ∈ lw_tbl := ai_in_at 1819 (by decide +kernel)
set_option maxRecDepth 100000 in
theorem tw_1697 : (Cond.methodLink "PathsKeptModel" (384 : Nat) ({ cls := "PathsKeptModel", name := "compares", desc := "(IJJ)Z" } : Jvm.MethodName)) ∈ lw_tbl := ai_in_at 1820 (by decide +kernel)
set_option maxRecDepth 100000 in
theorem tw_1698 : (Cond.static ({ cls := "PathsKeptModel", name := "compares", desc := "(IJJ)Z" } : Jvm.MethodName)) ∈ lw_tbl := ai_in_at 1821 (by decide +kernel)
set_option maxRecDepth 100000 in
theorem tw_1699 : (Cond.code ({ cls := "PathsKeptModel", name := "compares", desc := "(IJJ)Z" } : Jvm.MethodName) prog_13_method_44_code (5 : Nat) (Option.some Jvm.ClassFile.FieldType.boolean)) ∈ lw_tbl := ai_in_at 1822 (by decide +kernel)
set_option maxRecDepth 100000 in
theorem tw_1700 : (Cond.methodLink "PathsKeptModel" (456 : Nat) ({ cls := "PathsKeptModel", name := "costOf", desc := "(III)I" } : Jvm.MethodName)) ∈ lw_tbl := ai_in_at 1823 (by decide +kernel)
set_option maxRecDepth 100000 in
theorem tw_1702 : (Cond.instanceMethod ({ cls := "PathsKeptModel", name := "costOf", desc := "(III)I" } : Jvm.MethodName)) ∈ lw_tbl := ai_in_at 1825 (by decide +kernel)
set_option maxRecDepth 100000 in
theorem tw_1703 : (Cond.code ({ cls := "PathsKeptModel", name := "costOf", desc := "(III)I" } : Jvm.MethodName) prog_13_method_60_code (6 : Nat) (Option.some Jvm.ClassFile.FieldType.int)) ∈ lw_tbl := ai_in_at 1826 (by decide +kernel)
set_option maxRecDepth 100000 in
theorem tw_1704 : (Cond.constantLong "PathsKeptModel" (448 : Nat) (99 : Int64)) ∈ lw_tbl := ai_in_at 1827 (by decide +kernel)
set_option maxRecDepth 100000 in
theorem tw_1705 : (Cond.methodLink "PathsKeptLaw" (57 : Nat) ({ cls := "PathsKeptModel", name := "law", desc := "(III)J" } : Jvm.MethodName)) ∈ lw_tbl := ai_in_at 1828 (by decide +kernel)
set_option maxRecDepth 100000 in
theorem tw_1706 : (Cond.instanceMethod ({ cls := "PathsKeptModel", name := "law", desc := "(III)J" } : Jvm.MethodName)) ∈ lw_tbl := ai_in_at 1829 (by decide +kernel)
set_option maxRecDepth 100000 in
theorem tw_1707 : (Cond.selects "PathsKeptModel" ({ cls := "PathsKeptModel", name := "law", desc := "(III)J" } : Jvm.MethodName) ({ cls := "PathsKeptModel", name := "law", desc := "(III)J" } : Jvm.MethodName)) ∈ lw_tbl := ai_in_at 1830 (by decide +kernel)
set_option maxRecDepth 100000 in
theorem tw_1708 : (Cond.code ({ cls := "PathsKeptModel", name := "law", desc := "(III)J" } : Jvm.MethodName) prog_13_method_72_code (6 : Nat) (Option.some Jvm.ClassFile.FieldType.long)) ∈ lw_tbl := ai_in_at 1831 (by decide +kernel)
set_option maxRecDepth 100000 in
theorem tw_1709 : (Cond.constantLong "PathsKeptModel" (497 : Nat) (-9223372036854775808 : Int64)) ∈ lw_tbl := ai_in_at 1832 (by decide +kernel)
set_option maxRecDepth 100000 in
theorem tw_1710 : (Cond.methodLink "PathsKeptLaw" (61 : Nat) ({ cls := "PathsKeptModel", name := "walk", desc := "(II)I" } : Jvm.MethodName)) ∈ lw_tbl := ai_in_at 1833 (by decide +kernel)
set_option maxRecDepth 100000 in
theorem tw_1711 : (Cond.instanceMethod ({ cls := "PathsKeptModel", name := "walk", desc := "(II)I" } : Jvm.MethodName)) ∈ lw_tbl := ai_in_at 1834 (by decide +kernel)
set_option maxRecDepth 100000 in
theorem tw_1712 : (Cond.selects "PathsKeptModel" ({ cls := "PathsKeptModel", name := "walk", desc := "(II)I" } : Jvm.MethodName) ({ cls := "PathsKeptModel", name := "walk", desc := "(II)I" } : Jvm.MethodName)) ∈ lw_tbl := ai_in_at 1835 (by decide +kernel)
set_option maxRecDepth 100000 in
theorem tw_1713 : (Cond.code ({ cls := "PathsKeptModel", name := "walk", desc := "(II)I" } : Jvm.MethodName) prog_13_method_73_code (3 : Nat) (Option.some Jvm.ClassFile.FieldType.int)) ∈ lw_tbl := ai_in_at 1836 (by decide +kernel)
set_option maxRecDepth 100000 in
theorem tw_1714 : (Cond.methodLink "PathsKeptModel" (499 : Nat) ({ cls := "PathsKeptModel", name := "remember", desc := "()V" } : Jvm.MethodName)) ∈ lw_tbl := ai_in_at 1837 (by decide +kernel)
set_option maxRecDepth 100000 in
theorem tw_1716 : (Cond.instanceMethod ({ cls := "PathsKeptModel", name := "remember", desc := "()V" } : Jvm.MethodName)) ∈ lw_tbl := ai_in_at 1839 (by decide +kernel)
set_option maxRecDepth 100000 in
theorem tw_1717 : (Cond.code ({ cls := "PathsKeptModel", name := "remember", desc := "()V" } : Jvm.MethodName) prog_13_method_124_code (2 : Nat) (Option.none : Option Jvm.ClassFile.FieldType)) ∈ lw_tbl := ai_in_at 1840 (by decide +kernel)
set_option maxRecDepth 100000 in
theorem tw_1718 : (Cond.methodLink "PathsKeptModel" (597 : Nat) ({ cls := "PathsKeptModel", name := "put", desc := "([II)V" } : Jvm.MethodName)) ∈ lw_tbl := ai_in_at 1841 (by decide +kernel)
set_option maxRecDepth 100000 in
theorem tw_1720 : (Cond.instanceMethod ({ cls := "PathsKeptModel", name := "put", desc := "([II)V" } : Jvm.MethodName)) ∈ lw_tbl := ai_in_at 1843 (by decide +kernel)
set_option maxRecDepth 100000 in
theorem tw_1721 : (Cond.code ({ cls := "PathsKeptModel", name := "put", desc := "([II)V" } : Jvm.MethodName) prog_13_method_122_code (4 : Nat) (Option.none : Option Jvm.ClassFile.FieldType)) ∈ lw_tbl := ai_in_at 1844 (by decide +kernel)
set_option maxRecDepth 100000 in
theorem tw_1722 : (Cond.methodLink "PathsKeptModel" (479 : Nat) ({ cls := "PathsKeptModel", name := "goes", desc := "(III)V" } : Jvm.MethodName)) ∈ lw_tbl := ai_in_at 1845 (by decide +kernel)
set_option maxRecDepth 100000 in
theorem tw_1724 : (Cond.instanceMethod ({ cls := "PathsKeptModel", name := "goes", desc := "(III)V" } : Jvm.MethodName)) ∈ lw_tbl := ai_in_at 1847 (by decide +kernel)
set_option maxRecDepth 100000 in
theorem tw_1725 : (Cond.code ({ cls := "PathsKeptModel", name := "goes", desc := "(III)V" } : Jvm.MethodName) prog_13_method_62_code (4 : Nat) (Option.none : Option Jvm.ClassFile.FieldType)) ∈ lw_tbl := ai_in_at 1848 (by decide +kernel)
set_option maxRecDepth 100000 in
theorem tw_1726 : (Cond.methodLink "PathsKeptLaw" (66 : Nat) ({ cls := "PathsKeptModel", name := "mow", desc := "(I)Z" } : Jvm.MethodName)) ∈ lw_tbl := ai_in_at 1849 (by decide +kernel)
set_option maxRecDepth 100000 in
theorem tw_1727 : (Cond.instanceMethod ({ cls := "PathsKeptModel", name := "mow", desc := "(I)Z" } : Jvm.MethodName)) ∈ lw_tbl := ai_in_at 1850 (by decide +kernel)
set_option maxRecDepth 100000 in
theorem tw_1728 : (Cond.selects "PathsKeptModel" ({ cls := "PathsKeptModel", name := "mow", desc := "(I)Z" } : Jvm.MethodName) ({ cls := "PathsKeptModel", name := "mow", desc := "(I)Z" } : Jvm.MethodName)) ∈ lw_tbl := ai_in_at 1851 (by decide +kernel)
set_option maxRecDepth 100000 in
theorem tw_1729 : (Cond.code ({ cls := "PathsKeptModel", name := "mow", desc := "(I)Z" } : Jvm.MethodName) prog_13_method_74_code (2 : Nat) (Option.some Jvm.ClassFile.FieldType.boolean)) ∈ lw_tbl := ai_in_at 1852 (by decide +kernel)
set_option maxRecDepth 100000 in
theorem tw_1730 : (Cond.methodLink "PathsKeptLaw" (71 : Nat) ({ cls := "PathsKeptModel", name := "carry", desc := "(II)Z" } : Jvm.MethodName)) ∈ lw_tbl := ai_in_at 1853 (by decide +kernel)
set_option maxRecDepth 100000 in
theorem tw_1731 : (Cond.instanceMethod ({ cls := "PathsKeptModel", name := "carry", desc := "(II)Z" } : Jvm.MethodName)) ∈ lw_tbl := ai_in_at 1854 (by decide +kernel)
set_option maxRecDepth 100000 in
theorem tw_1732 : (Cond.selects "PathsKeptModel" ({ cls := "PathsKeptModel", name := "carry", desc := "(II)Z" } : Jvm.MethodName) ({ cls := "PathsKeptModel", name := "carry", desc := "(II)Z" } : Jvm.MethodName)) ∈ lw_tbl := ai_in_at 1855 (by decide +kernel)
set_option maxRecDepth 100000 in
theorem tw_1733 : (Cond.code ({ cls := "PathsKeptModel", name := "carry", desc := "(II)Z" } : Jvm.MethodName) prog_13_method_75_code (3 : Nat) (Option.some Jvm.ClassFile.FieldType.boolean)) ∈ lw_tbl := ai_in_at 1856 (by decide +kernel)
set_option maxRecDepth 100000 in
theorem tw_1734 : (Cond.methodLink "PathsKeptModel" (502 : Nat) ({ cls := "PathsKeptModel", name := "isPlace", desc := "(I)Z" } : Jvm.MethodName)) ∈ lw_tbl := ai_in_at 1857 (by decide +kernel)
set_option maxRecDepth 100000 in
theorem tw_1736 : (Cond.instanceMethod ({ cls := "PathsKeptModel", name := "isPlace", desc := "(I)Z" } : Jvm.MethodName)) ∈ lw_tbl := ai_in_at 1859 (by decide +kernel)
set_option maxRecDepth 100000 in
theorem tw_1737 : (Cond.code ({ cls := "PathsKeptModel", name := "isPlace", desc := "(I)Z" } : Jvm.MethodName) prog_13_method_51_code (2 : Nat) (Option.some Jvm.ClassFile.FieldType.boolean)) ∈ lw_tbl := ai_in_at 1860 (by decide +kernel)
set_option maxRecDepth 100000 in
theorem tw_1738 : (Cond.methodLink "PathsKeptLaw" (75 : Nat) ({ cls := "PathsKeptModel", name := "go", desc := "(I)I" } : Jvm.MethodName)) ∈ lw_tbl := ai_in_at 1861 (by decide +kernel)
set_option maxRecDepth 100000 in
theorem tw_1739 : (Cond.instanceMethod ({ cls := "PathsKeptModel", name := "go", desc := "(I)I" } : Jvm.MethodName)) ∈ lw_tbl := ai_in_at 1862 (by decide +kernel)
set_option maxRecDepth 100000 in
theorem tw_1740 : (Cond.selects "PathsKeptModel" ({ cls := "PathsKeptModel", name := "go", desc := "(I)I" } : Jvm.MethodName) ({ cls := "PathsKeptModel", name := "go", desc := "(I)I" } : Jvm.MethodName)) ∈ lw_tbl := ai_in_at 1863 (by decide +kernel)
set_option maxRecDepth 100000 in
theorem tw_1741 : (Cond.code ({ cls := "PathsKeptModel", name := "go", desc := "(I)I" } : Jvm.MethodName) prog_13_method_76_code (3 : Nat) (Option.some Jvm.ClassFile.FieldType.int)) ∈ lw_tbl := ai_in_at 1864 (by decide +kernel)
set_option maxRecDepth 100000 in
theorem tw_1742 : (Cond.methodLink "PathsKeptModel" (485 : Nat) ({ cls := "PathsKeptModel", name := "dayGoes", desc := "(I)V" } : Jvm.MethodName)) ∈ lw_tbl := ai_in_at 1865 (by decide +kernel)
set_option maxRecDepth 100000 in
theorem tw_1744 : (Cond.instanceMethod ({ cls := "PathsKeptModel", name := "dayGoes", desc := "(I)V" } : Jvm.MethodName)) ∈ lw_tbl := ai_in_at 1867 (by decide +kernel)
set_option maxRecDepth 100000 in
theorem tw_1745 : (Cond.code ({ cls := "PathsKeptModel", name := "dayGoes", desc := "(I)V" } : Jvm.MethodName) prog_13_method_66_code (4 : Nat) (Option.none : Option Jvm.ClassFile.FieldType)) ∈ lw_tbl := ai_in_at 1868 (by decide +kernel)
set_option maxRecDepth 100000 in
theorem tw_1746 : (Cond.methodLink "PathsKeptModel" (473 : Nat) ({ cls := "PathsKeptModel", name := "isSnow", desc := "()Z" } : Jvm.MethodName)) ∈ lw_tbl := ai_in_at 1869 (by decide +kernel)
set_option maxRecDepth 100000 in
theorem tw_1748 : (Cond.instanceMethod ({ cls := "PathsKeptModel", name := "isSnow", desc := "()Z" } : Jvm.MethodName)) ∈ lw_tbl := ai_in_at 1871 (by decide +kernel)
set_option maxRecDepth 100000 in
theorem tw_1749 : (Cond.code ({ cls := "PathsKeptModel", name := "isSnow", desc := "()Z" } : Jvm.MethodName) prog_13_method_64_code (1 : Nat) (Option.some Jvm.ClassFile.FieldType.boolean)) ∈ lw_tbl := ai_in_at 1872 (by decide +kernel)
set_option maxRecDepth 100000 in
theorem tw_1750 : (Cond.methodLink "PathsKeptModel" (468 : Nat) ({ cls := "PathsKeptModel", name := "number1", desc := "(I)I" } : Jvm.MethodName)) ∈ lw_tbl := ai_in_at 1873 (by decide +kernel)
set_option maxRecDepth 100000 in
theorem tw_1752 : (Cond.instanceMethod ({ cls := "PathsKeptModel", name := "number1", desc := "(I)I" } : Jvm.MethodName)) ∈ lw_tbl := ai_in_at 1875 (by decide +kernel)
set_option maxRecDepth 100000 in
theorem tw_1753 : (Cond.code ({ cls := "PathsKeptModel", name := "number1", desc := "(I)I" } : Jvm.MethodName) prog_13_method_63_code (2 : Nat) (Option.some Jvm.ClassFile.FieldType.int)) ∈ lw_tbl := ai_in_at 1876 (by decide +kernel)
set_option maxRecDepth 100000 in
theorem tw_1754 : (Cond.constantLong "PathsKeptModel" (460 : Nat) (1103515245 : Int64)) ∈ lw_tbl := ai_in_at 1877 (by decide +kernel)
set_option maxRecDepth 100000 in
theorem tw_1755 : (Cond.constantLong "PathsKeptModel" (462 : Nat) (12345 : Int64)) ∈ lw_tbl := ai_in_at 1878 (by decide +kernel)
set_option maxRecDepth 100000 in
theorem tw_1756 : (Cond.constantLong "PathsKeptModel" (464 : Nat) (2147483647 : Int64)) ∈ lw_tbl := ai_in_at 1879 (by decide +kernel)
set_option maxRecDepth 100000 in
theorem tw_1757 : (Cond.constantLong "PathsKeptModel" (466 : Nat) (65536 : Int64)) ∈ lw_tbl := ai_in_at 1880 (by decide +kernel)
set_option maxRecDepth 100000 in
theorem tw_1758 : (Cond.methodLink "PathsKeptModel" (482 : Nat) ({ cls := "PathsKeptModel", name := "termOf", desc := "(II)I" } : Jvm.MethodName)) ∈ lw_tbl := ai_in_at 1881 (by decide +kernel)
set_option maxRecDepth 100000 in
theorem tw_1760 : (Cond.instanceMethod ({ cls := "PathsKeptModel", name := "termOf", desc := "(II)I" } : Jvm.MethodName)) ∈ lw_tbl := ai_in_at 1883 (by decide +kernel)
set_option maxRecDepth 100000 in
theorem tw_1761 : (Cond.code ({ cls := "PathsKeptModel", name := "termOf", desc := "(II)I" } : Jvm.MethodName) prog_13_method_65_code (5 : Nat) (Option.some Jvm.ClassFile.FieldType.int)) ∈ lw_tbl := ai_in_at 1884 (by decide +kernel)
set_option maxRecDepth 100000 in
theorem tw_1762 : (Cond.constantLong "PathsKeptModel" (471 : Nat) (9999 : Int64)) ∈ lw_tbl := ai_in_at 1885 (by decide +kernel)
set_option maxRecDepth 100000 in
theorem tw_1763 : (Cond.methodLink "PathsKeptLaw" (80 : Nat) ({ cls := "PathsKeptModel", name := "ahead", desc := "(III)I" } : Jvm.MethodName)) ∈ lw_tbl := ai_in_at 1886 (by decide +kernel)
set_option maxRecDepth 100000 in
theorem tw_1764 : (Cond.instanceMethod ({ cls := "PathsKeptModel", name := "ahead", desc := "(III)I" } : Jvm.MethodName)) ∈ lw_tbl := ai_in_at 1887 (by decide +kernel)
set_option maxRecDepth 100000 in
theorem tw_1765 : (Cond.selects "PathsKeptModel" ({ cls := "PathsKeptModel", name := "ahead", desc := "(III)I" } : Jvm.MethodName) ({ cls := "PathsKeptModel", name := "ahead", desc := "(III)I" } : Jvm.MethodName)) ∈ lw_tbl := ai_in_at 1888 (by decide +kernel)
set_option maxRecDepth 100000 in
theorem tw_1766 : (Cond.code ({ cls := "PathsKeptModel", name := "ahead", desc := "(III)I" } : Jvm.MethodName) prog_13_method_77_code (4 : Nat) (Option.some Jvm.ClassFile.FieldType.int)) ∈ lw_tbl := ai_in_at 1889 (by decide +kernel)
set_option maxRecDepth 100000 in
theorem tw_1767 : (Cond.methodLink "PathsKeptModel" (505 : Nat) ({ cls := "PathsKeptModel", name := "layTried", desc := "()V" } : Jvm.MethodName)) ∈ lw_tbl := ai_in_at 1890 (by decide +kernel)
set_option maxRecDepth 100000 in
theorem tw_1769 : (Cond.instanceMethod ({ cls := "PathsKeptModel", name := "layTried", desc := "()V" } : Jvm.MethodName)) ∈ lw_tbl := ai_in_at 1892 (by decide +kernel)
set_option maxRecDepth 100000 in
theorem tw_1770 : (Cond.code ({ cls := "PathsKeptModel", name := "layTried", desc := "()V" } : Jvm.MethodName) prog_13_method_50_code (2 : Nat) (Option.none : Option Jvm.ClassFile.FieldType)) ∈ lw_tbl := ai_in_at 1893 (by decide +kernel)
set_option maxRecDepth 100000 in
theorem tw_1771 : (Cond.methodLink "PathsKeptModel" (508 : Nat) ({ cls := "PathsKeptModel", name := "goMany", desc := "(I)V" } : Jvm.MethodName)) ∈ lw_tbl := ai_in_at 1894 (by decide +kernel)
set_option maxRecDepth 100000 in
theorem tw_1773 : (Cond.instanceMethod ({ cls := "PathsKeptModel", name := "goMany", desc := "(I)V" } : Jvm.MethodName)) ∈ lw_tbl := ai_in_at 1896 (by decide +kernel)
set_option maxRecDepth 100000 in
theorem tw_1774 : (Cond.code ({ cls := "PathsKeptModel", name := "goMany", desc := "(I)V" } : Jvm.MethodName) prog_13_method_67_code (3 : Nat) (Option.none : Option Jvm.ClassFile.FieldType)) ∈ lw_tbl := ai_in_at 1897 (by decide +kernel)
set_option maxRecDepth 100000 in
theorem tw_1775 : (Cond.methodLink "PathsKeptModel" (511 : Nat) ({ cls := "PathsKeptModel", name := "keptMany", desc := "(I)I" } : Jvm.MethodName)) ∈ lw_tbl := ai_in_at 1898 (by decide +kernel)
set_option maxRecDepth 100000 in
theorem tw_1777 : (Cond.instanceMethod ({ cls := "PathsKeptModel", name := "keptMany", desc := "(I)I" } : Jvm.MethodName)) ∈ lw_tbl := ai_in_at 1900 (by decide +kernel)
set_option maxRecDepth 100000 in
theorem tw_1778 : (Cond.code ({ cls := "PathsKeptModel", name := "keptMany", desc := "(I)I" } : Jvm.MethodName) prog_13_method_68_code (4 : Nat) (Option.some Jvm.ClassFile.FieldType.int)) ∈ lw_tbl := ai_in_at 1901 (by decide +kernel)
set_option maxRecDepth 100000 in
theorem tw_1779 : (Cond.methodLink "PathsKeptLaw" (84 : Nat) ({ cls := "PathsKeptModel", name := "lapse", desc := "(I)I" } : Jvm.MethodName)) ∈ lw_tbl := ai_in_at 1902 (by decide +kernel)
set_option maxRecDepth 100000 in
theorem tw_1780 : (Cond.instanceMethod ({ cls := "PathsKeptModel", name := "lapse", desc := "(I)I" } : Jvm.MethodName)) ∈ lw_tbl := ai_in_at 1903 (by decide +kernel)
set_option maxRecDepth 100000 in
theorem tw_1781 : (Cond.selects "PathsKeptModel" ({ cls := "PathsKeptModel", name := "lapse", desc := "(I)I" } : Jvm.MethodName) ({ cls := "PathsKeptModel", name := "lapse", desc := "(I)I" } : Jvm.MethodName)) ∈ lw_tbl := ai_in_at 1904 (by decide +kernel)
set_option maxRecDepth 100000 in
theorem tw_1782 : (Cond.code ({ cls := "PathsKeptModel", name := "lapse", desc := "(I)I" } : Jvm.MethodName) prog_13_method_78_code (3 : Nat) (Option.some Jvm.ClassFile.FieldType.int)) ∈ lw_tbl := ai_in_at 1905 (by decide +kernel)
set_option maxRecDepth 100000 in
theorem tw_1783 : (Cond.methodLink "PathsKeptLaw" (88 : Nat) ({ cls := "PathsKeptModel", name := "reach", desc := "(I)I" } : Jvm.MethodName)) ∈ lw_tbl := ai_in_at 1906 (by decide +kernel)
set_option maxRecDepth 100000 in
theorem tw_1784 : (Cond.instanceMethod ({ cls := "PathsKeptModel", name := "reach", desc := "(I)I" } : Jvm.MethodName)) ∈ lw_tbl := ai_in_at 1907 (by decide +kernel)
set_option maxRecDepth 100000 in
theorem tw_1785 : (Cond.selects "PathsKeptModel" ({ cls := "PathsKeptModel", name := "reach", desc := "(I)I" } : Jvm.MethodName) ({ cls := "PathsKeptModel", name := "reach", desc := "(I)I" } : Jvm.MethodName)) ∈ lw_tbl := ai_in_at 1908 (by decide +kernel)
set_option maxRecDepth 100000 in
theorem tw_1786 : (Cond.code ({ cls := "PathsKeptModel", name := "reach", desc := "(I)I" } : Jvm.MethodName) prog_13_method_83_code (4 : Nat) (Option.some Jvm.ClassFile.FieldType.int)) ∈ lw_tbl := ai_in_at 1909 (by decide +kernel)
set_option maxRecDepth 100000 in
theorem tw_1787 : (Cond.methodLink "PathsKeptModel" (523 : Nat) ({ cls := "PathsKeptModel", name := "settle", desc := "(III)V" } : Jvm.MethodName)) ∈ lw_tbl := ai_in_at 1910 (by decide +kernel)
set_option maxRecDepth 100000 in
theorem tw_1789 : (Cond.instanceMethod ({ cls := "PathsKeptModel", name := "settle", desc := "(III)V" } : Jvm.MethodName)) ∈ lw_tbl := ai_in_at 1912 (by decide +kernel)
set_option maxRecDepth 100000 in
theorem tw_1790 : (Cond.code ({ cls := "PathsKeptModel", name := "settle", desc := "(III)V" } : Jvm.MethodName) prog_13_method_82_code (8 : Nat) (Option.none : Option Jvm.ClassFile.FieldType)) ∈ lw_tbl := ai_in_at 1913 (by decide +kernel)
set_option maxRecDepth 100000 in
theorem tw_1791 : (Cond.methodLink "PathsKeptModel" (514 : Nat) ({ cls := "PathsKeptModel", name := "isOpen", desc := "(II)Z" } : Jvm.MethodName)) ∈ lw_tbl := ai_in_at 1914 (by decide +kernel)
set_option maxRecDepth 100000 in
theorem tw_1793 : (Cond.instanceMethod ({ cls := "PathsKeptModel", name := "isOpen", desc := "(II)Z" } : Jvm.MethodName)) ∈ lw_tbl := ai_in_at 1916 (by decide +kernel)
set_option maxRecDepth 100000 in
theorem tw_1794 : (Cond.code ({ cls := "PathsKeptModel", name := "isOpen", desc := "(II)Z" } : Jvm.MethodName) prog_13_method_79_code (3 : Nat) (Option.some Jvm.ClassFile.FieldType.boolean)) ∈ lw_tbl := ai_in_at 1917 (by decide +kernel)
set_option maxRecDepth 100000 in
theorem tw_1795 : (Cond.methodLink "PathsKeptModel" (517 : Nat) ({ cls := "PathsKeptModel", name := "takesMore", desc := "(III)I" } : Jvm.MethodName)) ∈ lw_tbl := ai_in_at 1918 (by decide +kernel)
set_option maxRecDepth 100000 in
theorem tw_1797 : (Cond.instanceMethod ({ cls := "PathsKeptModel", name := "takesMore", desc := "(III)I" } : Jvm.MethodName)) ∈ lw_tbl := ai_in_at 1920 (by decide +kernel)
set_option maxRecDepth 100000 in
theorem tw_1798 : (Cond.code ({ cls := "PathsKeptModel", name := "takesMore", desc := "(III)I" } : Jvm.MethodName) prog_13_method_81_code (4 : Nat) (Option.some Jvm.ClassFile.FieldType.int)) ∈ lw_tbl := ai_in_at 1921 (by decide +kernel)
set_option maxRecDepth 100000 in
theorem tw_1799 : (Cond.methodLink "PathsKeptModel" (520 : Nat) ({ cls := "PathsKeptModel", name := "otherEnd", desc := "(II)I" } : Jvm.MethodName)) ∈ lw_tbl := ai_in_at 1922 (by decide +kernel)
set_option maxRecDepth 100000 in
theorem tw_1801 : (Cond.instanceMethod ({ cls := "PathsKeptModel", name := "otherEnd", desc := "(II)I" } : Jvm.MethodName)) ∈ lw_tbl := ai_in_at 1924 (by decide +kernel)
set_option maxRecDepth 100000 in
theorem tw_1802 : (Cond.code ({ cls := "PathsKeptModel", name := "otherEnd", desc := "(II)I" } : Jvm.MethodName) prog_13_method_80_code (3 : Nat) (Option.some Jvm.ClassFile.FieldType.int)) ∈ lw_tbl := ai_in_at 1925 (by decide +kernel)
set_option maxRecDepth 100000 in
theorem tw_1803 : (Cond.methodLink "PathsKeptLaw" (92 : Nat) ({ cls := "PathsKeptModel", name := "way", desc := "(II)I" } : Jvm.MethodName)) ∈ lw_tbl := ai_in_at 1926 (by decide +kernel)
set_option maxRecDepth 100000 in
theorem tw_1804 : (Cond.instanceMethod ({ cls := "PathsKeptModel", name := "way", desc := "(II)I" } : Jvm.MethodName)) ∈ lw_tbl := ai_in_at 1927 (by decide +kernel)
set_option maxRecDepth 100000 in
theorem tw_1805 : (Cond.selects "PathsKeptModel" ({ cls := "PathsKeptModel", name := "way", desc := "(II)I" } : Jvm.MethodName) ({ cls := "PathsKeptModel", name := "way", desc := "(II)I" } : Jvm.MethodName)) ∈ lw_tbl := ai_in_at 1928 (by decide +kernel)
set_option maxRecDepth 100000 in
theorem tw_1806 : (Cond.code ({ cls := "PathsKeptModel", name := "way", desc := "(II)I" } : Jvm.MethodName) prog_13_method_84_code (3 : Nat) (Option.some Jvm.ClassFile.FieldType.int)) ∈ lw_tbl := ai_in_at 1929 (by decide +kernel)
set_option maxRecDepth 100000 in
theorem tw_1807 : (Cond.methodLink "PathsKeptLaw" (96 : Nat) ({ cls := "PathsKeptModel", name := "round", desc := "(III)I" } : Jvm.MethodName)) ∈ lw_tbl := ai_in_at 1930 (by decide +kernel)
set_option maxRecDepth 100000 in
theorem tw_1808 : (Cond.instanceMethod ({ cls := "PathsKeptModel", name := "round", desc := "(III)I" } : Jvm.MethodName)) ∈ lw_tbl := ai_in_at 1931 (by decide +kernel)
set_option maxRecDepth 100000 in
theorem tw_1809 : (Cond.selects "PathsKeptModel" ({ cls := "PathsKeptModel", name := "round", desc := "(III)I" } : Jvm.MethodName) ({ cls := "PathsKeptModel", name := "round", desc := "(III)I" } : Jvm.MethodName)) ∈ lw_tbl := ai_in_at 1932 (by decide +kernel)
set_option maxRecDepth 100000 in
theorem tw_1810 : (Cond.code ({ cls := "PathsKeptModel", name := "round", desc := "(III)I" } : Jvm.MethodName) prog_13_method_85_code (7 : Nat) (Option.some Jvm.ClassFile.FieldType.int)) ∈ lw_tbl := ai_in_at 1933 (by decide +kernel)
set_option maxRecDepth 100000 in
theorem tw_1811 : (Cond.methodLink "PathsKeptLaw" (100 : Nat) ({ cls := "PathsKeptModel", name := "needed", desc := "(I)I" } : Jvm.MethodName)) ∈ lw_tbl := ai_in_at 1934 (by decide +kernel)
set_option maxRecDepth 100000 in
theorem tw_1812 : (Cond.instanceMethod ({ cls := "PathsKeptModel", name := "needed", desc := "(I)I" } : Jvm.MethodName)) ∈ lw_tbl := ai_in_at 1935 (by decide +kernel)
set_option maxRecDepth 100000 in
theorem tw_1813 : (Cond.selects "PathsKeptModel" ({ cls := "PathsKeptModel", name := "needed", desc := "(I)I" } : Jvm.MethodName) ({ cls := "PathsKeptModel", name := "needed", desc := "(I)I" } : Jvm.MethodName)) ∈ lw_tbl := ai_in_at 1936 (by decide +kernel)
set_option maxRecDepth 100000 in
theorem tw_1814 : (Cond.code ({ cls := "PathsKeptModel", name := "needed", desc := "(I)I" } : Jvm.MethodName) prog_13_method_88_code (2 : Nat) (Option.some Jvm.ClassFile.FieldType.int)) ∈ lw_tbl := ai_in_at 1937 (by decide +kernel)
set_option maxRecDepth 100000 in
theorem tw_1815 : (Cond.methodLink "PathsKeptModel" (529 : Nat) ({ cls := "PathsKeptModel", name := "pairsOf", desc := "(I)I" } : Jvm.MethodName)) ∈ lw_tbl := ai_in_at 1938 (by decide +kernel)
set_option maxRecDepth 100000 in
theorem tw_1817 : (Cond.instanceMethod ({ cls := "PathsKeptModel", name := "pairsOf", desc := "(I)I" } : Jvm.MethodName)) ∈ lw_tbl := ai_in_at 1940 (by decide +kernel)
set_option maxRecDepth 100000 in
theorem tw_1818 : (Cond.code ({ cls := "PathsKeptModel", name := "pairsOf", desc := "(I)I" } : Jvm.MethodName) prog_13_method_87_code (5 : Nat) (Option.some Jvm.ClassFile.FieldType.int)) ∈ lw_tbl := ai_in_at 1941 (by decide +kernel)
set_option maxRecDepth 100000 in
theorem tw_1819 : (Cond.methodLink "PathsKeptModel" (526 : Nat) ({ cls := "PathsKeptModel", name := "layRoots", desc := "(I)V" } : Jvm.MethodName)) ∈ lw_tbl := ai_in_at 1942 (by decide +kernel)
set_option maxRecDepth 100000 in
theorem tw_1821 : (Cond.instanceMethod ({ cls := "PathsKeptModel", name := "layRoots", desc := "(I)V" } : Jvm.MethodName)) ∈ lw_tbl := ai_in_at 1944 (by decide +kernel)
set_option maxRecDepth 100000 in
theorem tw_1822 : (Cond.code ({ cls := "PathsKeptModel", name := "layRoots", desc := "(I)V" } : Jvm.MethodName) prog_13_method_86_code (6 : Nat) (Option.none : Option Jvm.ClassFile.FieldType)) ∈ lw_tbl := ai_in_at 1945 (by decide +kernel)
set_option maxRecDepth 100000 in
theorem tw_1823 : (Cond.methodLink "PathsKeptLaw" (104 : Nat) ({ cls := "PathsKeptModel", name := "blind", desc := "()I" } : Jvm.MethodName)) ∈ lw_tbl := ai_in_at 1946 (by decide +kernel)
set_option maxRecDepth 100000 in
theorem tw_1824 : (Cond.instanceMethod ({ cls := "PathsKeptModel", name := "blind", desc := "()I" } : Jvm.MethodName)) ∈ lw_tbl := ai_in_at 1947 (by decide +kernel)
set_option maxRecDepth 100000 in
theorem tw_1825 : (Cond.selects "PathsKeptModel" ({ cls := "PathsKeptModel", name := "blind", desc := "()I" } : Jvm.MethodName) ({ cls := "PathsKeptModel", name := "blind", desc := "()I" } : Jvm.MethodName)) ∈ lw_tbl := ai_in_at 1948 (by decide +kernel)
set_option maxRecDepth 100000 in
theorem tw_1826 : (Cond.code ({ cls := "PathsKeptModel", name := "blind", desc := "()I" } : Jvm.MethodName) prog_13_method_90_code (3 : Nat) (Option.some Jvm.ClassFile.FieldType.int)) ∈ lw_tbl := ai_in_at 1949 (by decide +kernel)
set_option maxRecDepth 100000 in
theorem tw_1827 : (Cond.methodLink "PathsKeptModel" (532 : Nat) ({ cls := "PathsKeptModel", name := "keptAt", desc := "(I)I" } : Jvm.MethodName)) ∈ lw_tbl := ai_in_at 1950 (by decide +kernel)
set_option maxRecDepth 100000 in
theorem tw_1829 : (Cond.instanceMethod ({ cls := "PathsKeptModel", name := "keptAt", desc := "(I)I" } : Jvm.MethodName)) ∈ lw_tbl := ai_in_at 1952 (by decide +kernel)
set_option maxRecDepth 100000 in
theorem tw_1830 : (Cond.code ({ cls := "PathsKeptModel", name := "keptAt", desc := "(I)I" } : Jvm.MethodName) prog_13_method_89_code (4 : Nat) (Option.some Jvm.ClassFile.FieldType.int)) ∈ lw_tbl := ai_in_at 1953 (by decide +kernel)
set_option maxRecDepth 100000 in
theorem tw_1831 : (Cond.methodLink "PathsKeptLaw" (108 : Nat) ({ cls := "PathsKeptModel", name := "watch", desc := "()I" } : Jvm.MethodName)) ∈ lw_tbl := ai_in_at 1954 (by decide +kernel)
set_option maxRecDepth 100000 in
theorem tw_1832 : (Cond.instanceMethod ({ cls := "PathsKeptModel", name := "watch", desc := "()I" } : Jvm.MethodName)) ∈ lw_tbl := ai_in_at 1955 (by decide +kernel)
set_option maxRecDepth 100000 in
theorem tw_1833 : (Cond.selects "PathsKeptModel" ({ cls := "PathsKeptModel", name := "watch", desc := "()I" } : Jvm.MethodName) ({ cls := "PathsKeptModel", name := "watch", desc := "()I" } : Jvm.MethodName)) ∈ lw_tbl := ai_in_at 1956 (by decide +kernel)
set_option maxRecDepth 100000 in
theorem tw_1834 : (Cond.code ({ cls := "PathsKeptModel", name := "watch", desc := "()I" } : Jvm.MethodName) prog_13_method_92_code (5 : Nat) (Option.some Jvm.ClassFile.FieldType.int)) ∈ lw_tbl := ai_in_at 1957 (by decide +kernel)
set_option maxRecDepth 100000 in
theorem tw_1835 : (Cond.methodLink "PathsKeptModel" (535 : Nat) ({ cls := "PathsKeptModel", name := "manyOf", desc := "(I)I" } : Jvm.MethodName)) ∈ lw_tbl := ai_in_at 1958 (by decide +kernel)
set_option maxRecDepth 100000 in
theorem tw_1836 : (Cond.static ({ cls := "PathsKeptModel", name := "manyOf", desc := "(I)I" } : Jvm.MethodName)) ∈ lw_tbl := ai_in_at 1959 (by decide +kernel)
set_option maxRecDepth 100000 in
theorem tw_1837 : (Cond.code ({ cls := "PathsKeptModel", name := "manyOf", desc := "(I)I" } : Jvm.MethodName) prog_13_method_91_code (3 : Nat) (Option.some Jvm.ClassFile.FieldType.int)) ∈ lw_tbl := ai_in_at 1960 (by decide +kernel)
set_option maxRecDepth 100000 in
theorem tw_1838 : (Cond.methodLink "PathsKeptModel" (538 : Nat) ({ cls := "PathsKeptModel", name := "isOf", desc := "(II)Z" } : Jvm.MethodName)) ∈ lw_tbl := ai_in_at 1961 (by decide +kernel)
set_option maxRecDepth 100000 in
theorem tw_1839 : (Cond.static ({ cls := "PathsKeptModel", name := "isOf", desc := "(II)Z" } : Jvm.MethodName)) ∈ lw_tbl := ai_in_at 1962 (by decide +kernel)
set_option maxRecDepth 100000 in
theorem tw_1840 : (Cond.code ({ cls := "PathsKeptModel", name := "isOf", desc := "(II)Z" } : Jvm.MethodName) prog_13_method_5_code (2 : Nat) (Option.some Jvm.ClassFile.FieldType.boolean)) ∈ lw_tbl := ai_in_at 1963 (by decide +kernel)
set_option maxRecDepth 100000 in
theorem tw_1841 : (Cond.methodLink "PathsKeptLaw" (112 : Nat) ({ cls := "PathsKeptModel", name := "match", desc := "(I)I" } : Jvm.MethodName)) ∈ lw_tbl := ai_in_at 1964 (by decide +kernel)
set_option maxRecDepth 100000 in
theorem tw_1842 : (Cond.instanceMethod ({ cls := "PathsKeptModel", name := "match", desc := "(I)I" } : Jvm.MethodName)) ∈ lw_tbl := ai_in_at 1965 (by decide +kernel)
set_option maxRecDepth 100000 in
theorem tw_1843 : (Cond.selects "PathsKeptModel" ({ cls := "PathsKeptModel", name := "match", desc := "(I)I" } : Jvm.MethodName) ({ cls := "PathsKeptModel", name := "match", desc := "(I)I" } : Jvm.MethodName)) ∈ lw_tbl := ai_in_at 1966 (by decide +kernel)
set_option maxRecDepth 100000 in
theorem tw_1844 : (Cond.code ({ cls := "PathsKeptModel", name := "match", desc := "(I)I" } : Jvm.MethodName) prog_13_method_94_code (7 : Nat) (Option.some Jvm.ClassFile.FieldType.int)) ∈ lw_tbl := ai_in_at 1967 (by decide +kernel)
set_option maxRecDepth 100000 in
theorem tw_1845 : (Cond.methodLink "PathsKeptModel" (541 : Nat) ({ cls := "PathsKeptModel", name := "ageBy", desc := "(I)I" } : Jvm.MethodName)) ∈ lw_tbl := ai_in_at 1968 (by decide +kernel)
set_option maxRecDepth 100000 in
theorem tw_1847 : (Cond.instanceMethod ({ cls := "PathsKeptModel", name := "ageBy", desc := "(I)I" } : Jvm.MethodName)) ∈ lw_tbl := ai_in_at 1970 (by decide +kernel)
set_option maxRecDepth 100000 in
theorem tw_1848 : (Cond.code ({ cls := "PathsKeptModel", name := "ageBy", desc := "(I)I" } : Jvm.MethodName) prog_13_method_93_code (7 : Nat) (Option.some Jvm.ClassFile.FieldType.int)) ∈ lw_tbl := ai_in_at 1971 (by decide +kernel)
set_option maxRecDepth 100000 in
theorem tw_1849 : (Cond.methodLink "PathsKeptLaw" (117 : Nat) ({ cls := "PathsKeptModel", name := "game", desc := "(IIII)I" } : Jvm.MethodName)) ∈ lw_tbl := ai_in_at 1972 (by decide +kernel)
set_option maxRecDepth 100000 in
theorem tw_1850 : (Cond.instanceMethod ({ cls := "PathsKeptModel", name := "game", desc := "(IIII)I" } : Jvm.MethodName)) ∈ lw_tbl := ai_in_at 1973 (by decide +kernel)
