/-! Words of the tables, by their places; constants. -/
theorem ki_0 : Int32.ofInt (0) = (0 : Int32) := by decide
theorem ki_1 : Int32.ofInt (1) = (1 : Int32) := by decide
theorem ks_708 : (Int16.ofInt (708)).toInt32 = (708 : Int32) := by decide
theorem kb_28 : (Int8.ofInt (28)).toInt32 = (28 : Int32) := by decide
theorem ki_4 : Int32.ofInt (4) = (4 : Int32) := by decide
theorem ki_3 : Int32.ofInt (3) = (3 : Int32) := by decide
theorem kl_0 : Int64.ofNat ((0 : Fin 2) : Nat) = (0 : Int64) := by decide
theorem kb_12 : (Int8.ofInt (12)).toInt32 = (12 : Int32) := by decide
theorem ki_2 : Int32.ofInt (2) = (2 : Int32) := by decide
theorem ki_m1 : Int32.ofInt (-1) = (-1 : Int32) := by decide
theorem ks_172 : (Int16.ofInt (172)).toInt32 = (172 : Int32) := by decide
theorem kb_100 : (Int8.ofInt (100)).toInt32 = (100 : Int32) := by decide
theorem ks_208 : (Int16.ofInt (208)).toInt32 = (208 : Int32) := by decide
theorem ki_5 : Int32.ofInt (5) = (5 : Int32) := by decide
theorem kb_16 : (Int8.ofInt (16)).toInt32 = (16 : Int32) := by decide
theorem kb_6 : (Int8.ofInt (6)).toInt32 = (6 : Int32) := by decide
theorem kb_m4 : (Int8.ofInt (-4)).toInt32 = (-4 : Int32) := by decide
theorem kb_m3 : (Int8.ofInt (-3)).toInt32 = (-3 : Int32) := by decide
theorem kb_36 : (Int8.ofInt (36)).toInt32 = (36 : Int32) := by decide
theorem kb_m5 : (Int8.ofInt (-5)).toInt32 = (-5 : Int32) := by decide
theorem kb_m2 : (Int8.ofInt (-2)).toInt32 = (-2 : Int32) := by decide
theorem kb_8 : (Int8.ofInt (8)).toInt32 = (8 : Int32) := by decide
theorem kb_20 : (Int8.ofInt (20)).toInt32 = (20 : Int32) := by decide
theorem ks_240 : (Int16.ofInt (240)).toInt32 = (240 : Int32) := by decide
theorem ks_255 : (Int16.ofInt (255)).toInt32 = (255 : Int32) := by decide
theorem ks_m1000 : (Int16.ofInt (-1000)).toInt32 = (-1000 : Int32) := by decide
theorem kl_1 : Int64.ofNat ((1 : Fin 2) : Nat) = (1 : Int64) := by decide
theorem kb_32 : (Int8.ofInt (32)).toInt32 = (32 : Int32) := by decide
theorem kb_45 : (Int8.ofInt (45)).toInt32 = (45 : Int32) := by decide
theorem kb_10 : (Int8.ofInt (10)).toInt32 = (10 : Int32) := by decide
theorem kb_24 : (Int8.ofInt (24)).toInt32 = (24 : Int32) := by decide
theorem kb_59 : (Int8.ofInt (59)).toInt32 = (59 : Int32) := by decide
theorem kb_48 : (Int8.ofInt (48)).toInt32 = (48 : Int32) := by decide
theorem kb_m6 : (Int8.ofInt (-6)).toInt32 = (-6 : Int32) := by decide
theorem ks_25173 : (Int16.ofInt (25173)).toInt32 = (25173 : Int32) := by decide
theorem ks_13849 : (Int16.ofInt (13849)).toInt32 = (13849 : Int32) := by decide
theorem kb_m100 : (Int8.ofInt (-100)).toInt32 = (-100 : Int32) := by decide
theorem ks_10000 : (Int16.ofInt (10000)).toInt32 = (10000 : Int32) := by decide
theorem kb_41 : (Int8.ofInt (41)).toInt32 = (41 : Int32) := by decide
theorem lfRX10_7 : Cond.fieldLink RX10 7 "KeptWaysModel" "file" "[I" ∈ kw_all := kw_word 1179 (by decide +kernel) rfl
theorem lmRX10_73 : Cond.methodLink RX10 73 yX10_of ∈ kw_all := kw_word 1314 (by decide +kernel) rfl
theorem lmRX10_77 : Cond.methodLink RX10 77 yX10_towns ∈ kw_all := kw_word 1285 (by decide +kernel) rfl
theorem lmRX10_81 : Cond.methodLink RX10 81 yX10_in ∈ kw_all := kw_word 1289 (by decide +kernel) rfl
theorem lcRX10_85 : Cond.constantLong RX10 85 (-1000000000 : Int64) ∈ kw_all := kw_word 1295 (by decide +kernel) rfl
theorem lcRX10_87 : Cond.constantLong RX10 87 (1000000000 : Int64) ∈ kw_all := kw_word 1296 (by decide +kernel) rfl
theorem lfRX10_13 : Cond.fieldLink RX10 13 "KeptWaysModel" "far" "[J" ∈ kw_all := kw_word 1181 (by decide +kernel) rfl
theorem lcRX10_89 : Cond.constantLong RX10 89 (900000000000000000 : Int64) ∈ kw_all := kw_word 1309 (by decide +kernel) rfl
theorem lmRX10_91 : Cond.methodLink RX10 91 yX10_isOpen ∈ kw_all := kw_word 1310 (by decide +kernel) rfl
theorem lmRX10_95 : Cond.methodLink RX10 95 yX10_finds ∈ kw_all := kw_word 1305 (by decide +kernel) rfl
theorem lfRX10_17 : Cond.fieldLink RX10 17 "KeptWaysModel" "dist" "[J" ∈ kw_all := kw_word 1182 (by decide +kernel) rfl
theorem lcRX10_99 : Cond.constantLong RX10 99 (-9000000000000000000 : Int64) ∈ kw_all := kw_word 1491 (by decide +kernel) rfl
theorem lmRX10_101 : Cond.methodLink RX10 101 yX10_isBeyond ∈ kw_all := kw_word 1342 (by decide +kernel) rfl
theorem lfRX10_20 : Cond.fieldLink RX10 20 "KeptWaysModel" "old" "[J" ∈ kw_all := kw_word 1183 (by decide +kernel) rfl
theorem lmRX10_104 : Cond.methodLink RX10 104 yX10_settles ∈ kw_all := kw_word 1301 (by decide +kernel) rfl
theorem lmRX10_107 : Cond.methodLink RX10 107 yX10_copies ∈ kw_all := kw_word 1318 (by decide +kernel) rfl
theorem lmRX10_114 : Cond.methodLink RX10 114 yX10_notesEvent ∈ kw_all := kw_word 1346 (by decide +kernel) rfl
theorem lmRX10_118 : Cond.methodLink RX10 118 yX10_touches ∈ kw_all := kw_word 1350 (by decide +kernel) rfl
theorem lmRX10_110 : Cond.methodLink RX10 110 yX10_isTooFar ∈ kw_all := kw_word 1338 (by decide +kernel) rfl
theorem lmRX10_142 : Cond.methodLink RX10 142 yX10_sets ∈ kw_all := kw_word 1326 (by decide +kernel) rfl
theorem lmRX10_121 : Cond.methodLink RX10 121 yX10_isTown ∈ kw_all := kw_word 1281 (by decide +kernel) rfl
theorem lmRX10_124 : Cond.methodLink RX10 124 yX10_isLength ∈ kw_all := kw_word 1292 (by decide +kernel) rfl
theorem lmRX10_128 : Cond.methodLink RX10 128 yX10_begins ∈ kw_all := kw_word 1297 (by decide +kernel) rfl
theorem lmRX10_131 : Cond.methodLink RX10 131 yX10_comes ∈ kw_all := kw_word 1322 (by decide +kernel) rfl
theorem lmRX10_135 : Cond.methodLink RX10 135 yX10_isRing ∈ kw_all := kw_word 1330 (by decide +kernel) rfl
theorem lmRX10_138 : Cond.methodLink RX10 138 yX10_ends ∈ kw_all := kw_word 1334 (by decide +kernel) rfl
theorem lmRX10_146 : Cond.methodLink RX10 146 yX10_isRoad ∈ kw_all := kw_word 1358 (by decide +kernel) rfl
theorem lmRX10_149 : Cond.methodLink RX10 149 yX10_turns ∈ kw_all := kw_word 1366 (by decide +kernel) rfl
theorem lfRX10_23 : Cond.fieldLink RX10 23 "KeptWaysModel" "tape" "[B" ∈ kw_all := kw_word 1184 (by decide +kernel) rfl
theorem lfRX10_152 : Cond.fieldLink RX10 152 "KeptWaysModel" "taped" "I" ∈ kw_all := kw_word 1185 (by decide +kernel) rfl
theorem lmRX10_156 : Cond.methodLink RX10 156 yX10_types ∈ kw_all := kw_word 1386 (by decide +kernel) rfl
theorem lfRX10_159 : Cond.fieldLink RX10 159 "KeptWaysModel" "place0" "I" ∈ kw_all := kw_word 1186 (by decide +kernel) rfl
theorem lfRX10_162 : Cond.fieldLink RX10 162 "KeptWaysModel" "length0" "I" ∈ kw_all := kw_word 1187 (by decide +kernel) rfl
theorem lfRX10_165 : Cond.fieldLink RX10 165 "KeptWaysModel" "fault" "I" ∈ kw_all := kw_word 1188 (by decide +kernel) rfl
theorem lmRX10_168 : Cond.methodLink RX10 168 yX10_here ∈ kw_all := kw_word 1419 (by decide +kernel) rfl
theorem lmRX10_171 : Cond.methodLink RX10 171 yX10_wrongAt ∈ kw_all := kw_word 1407 (by decide +kernel) rfl
theorem lfRX10_175 : Cond.fieldLink RX10 175 "KeptWaysModel" "wordAt" "I" ∈ kw_all := kw_word 1190 (by decide +kernel) rfl
theorem lfRX10_178 : Cond.fieldLink RX10 178 "KeptWaysModel" "word0" "J" ∈ kw_all := kw_word 1192 (by decide +kernel) rfl
theorem lcRX10_182 : Cond.constantLong RX10 182 (97 : Int64) ∈ kw_all := kw_word 1423 (by decide +kernel) rfl
theorem lcRX10_184 : Cond.constantLong RX10 184 (122 : Int64) ∈ kw_all := kw_word 1424 (by decide +kernel) rfl
theorem lcRX10_186 : Cond.constantLong RX10 186 (32 : Int64) ∈ kw_all := kw_word 1425 (by decide +kernel) rfl
theorem lcRX10_188 : Cond.constantLong RX10 188 (-1 : Int64) ∈ kw_all := kw_word 1426 (by decide +kernel) rfl
theorem lmRX10_190 : Cond.methodLink RX10 190 yX10_takesSign ∈ kw_all := kw_word 1434 (by decide +kernel) rfl
theorem lfRX10_193 : Cond.fieldLink RX10 193 "KeptWaysModel" "numberAt" "I" ∈ kw_all := kw_word 1189 (by decide +kernel) rfl
theorem lcRX10_196 : Cond.constantLong RX10 196 (48 : Int64) ∈ kw_all := kw_word 1438 (by decide +kernel) rfl
theorem lcRX10_198 : Cond.constantLong RX10 198 (57 : Int64) ∈ kw_all := kw_word 1439 (by decide +kernel) rfl
theorem lfRX10_200 : Cond.fieldLink RX10 200 "KeptWaysModel" "number0" "J" ∈ kw_all := kw_word 1193 (by decide +kernel) rfl
theorem lcRX10_203 : Cond.constantLong RX10 203 (10 : Int64) ∈ kw_all := kw_word 1440 (by decide +kernel) rfl
theorem lfRX10_30 : Cond.fieldLink RX10 30 "KeptWaysModel" "numberOf" "[I" ∈ kw_all := kw_word 1195 (by decide +kernel) rfl
theorem lfRX10_205 : Cond.fieldLink RX10 205 "KeptWaysModel" "clauses" "I" ∈ kw_all := kw_word 1191 (by decide +kernel) rfl
theorem lmRX10_208 : Cond.methodLink RX10 208 yX10_readsNumber ∈ kw_all := kw_word 1430 (by decide +kernel) rfl
theorem lmRX10_212 : Cond.methodLink RX10 212 yX10_keepsNumber ∈ kw_all := kw_word 1446 (by decide +kernel) rfl
theorem lmRX10_215 : Cond.methodLink RX10 215 yX10_readsWord ∈ kw_all := kw_word 1415 (by decide +kernel) rfl
theorem lfRX10_27 : Cond.fieldLink RX10 27 "KeptWaysModel" "wordOf" "[J" ∈ kw_all := kw_word 1194 (by decide +kernel) rfl
theorem lcRX10_218 : Cond.constantLong RX10 218 (21487059 : Int64) ∈ kw_all := kw_word 1427 (by decide +kernel) rfl
theorem lcRX10_227 : Cond.constantLong RX10 227 (605220 : Int64) ∈ kw_all := kw_word 1441 (by decide +kernel) rfl
theorem lfRX10_224 : Cond.fieldLink RX10 224 "KeptWaysModel" "readTowns" "I" ∈ kw_all := kw_word 1196 (by decide +kernel) rfl
theorem lmRX10_229 : Cond.methodLink RX10 229 yX10_readsRoad ∈ kw_all := kw_word 1442 (by decide +kernel) rfl
theorem lcRX10_220 : Cond.constantLong RX10 220 (2 : Int64) ∈ kw_all := kw_word 1428 (by decide +kernel) rfl
theorem lcRX10_222 : Cond.constantLong RX10 222 (12 : Int64) ∈ kw_all := kw_word 1429 (by decide +kernel) rfl
theorem lcRX10_232 : Cond.constantLong RX10 232 (12345 : Int64) ∈ kw_all := kw_word 1454 (by decide +kernel) rfl
theorem lcRX10_234 : Cond.constantLong RX10 234 (408362632 : Int64) ∈ kw_all := kw_word 1455 (by decide +kernel) rfl
theorem lcRX10_238 : Cond.constantLong RX10 238 (3554917 : Int64) ∈ kw_all := kw_word 1457 (by decide +kernel) rfl
theorem lcRX10_236 : Cond.constantLong RX10 236 (35 : Int64) ∈ kw_all := kw_word 1456 (by decide +kernel) rfl
theorem lcRX10_240 : Cond.constantLong RX10 240 (508078 : Int64) ∈ kw_all := kw_word 1458 (by decide +kernel) rfl
theorem lcRX10_242 : Cond.constantLong RX10 242 (522493230 : Int64) ∈ kw_all := kw_word 1459 (by decide +kernel) rfl
theorem lcRX10_244 : Cond.constantLong RX10 244 (217652404 : Int64) ∈ kw_all := kw_word 1460 (by decide +kernel) rfl
theorem lcRX10_246 : Cond.constantLong RX10 246 (24170600 : Int64) ∈ kw_all := kw_word 1461 (by decide +kernel) rfl
theorem lmRX10_251 : Cond.methodLink RX10 251 yX10_readsOrder ∈ kw_all := kw_word 1450 (by decide +kernel) rfl
theorem lmRX10_248 : Cond.methodLink RX10 248 yX10_readsNet ∈ kw_all := kw_word 1411 (by decide +kernel) rfl
theorem lmRX10_254 : Cond.methodLink RX10 254 yX10_readsClause ∈ kw_all := kw_word 1403 (by decide +kernel) rfl
theorem lcRX10_258 : Cond.constantLong RX10 258 (200 : Int64) ∈ kw_all := kw_word 1398 (by decide +kernel) rfl
theorem lmRX10_260 : Cond.methodLink RX10 260 yX10_isText ∈ kw_all := kw_word 1394 (by decide +kernel) rfl
theorem lmRX10_263 : Cond.methodLink RX10 263 yX10_readsText ∈ kw_all := kw_word 1399 (by decide +kernel) rfl
theorem lmRX10_267 : Cond.methodLink RX10 267 yX10_empties ∈ kw_all := kw_word 1462 (by decide +kernel) rfl
theorem lfRX10_270 : Cond.fieldLink RX10 270 "KeptWaysModel" "isKept" "Z" ∈ kw_all := kw_word 1180 (by decide +kernel) rfl
theorem lmRX10_293 : Cond.methodLink RX10 293 yX10_forget ∈ kw_all := kw_word 1483 (by decide +kernel) rfl
theorem lmRX10_290 : Cond.methodLink RX10 290 yX10_watch ∈ kw_all := kw_word 1479 (by decide +kernel) rfl
theorem lmRX10_287 : Cond.methodLink RX10 287 yX10_origin ∈ kw_all := kw_word 1478 (by decide +kernel) rfl
theorem lmRX10_284 : Cond.methodLink RX10 284 yX10_open ∈ kw_all := kw_word 1477 (by decide +kernel) rfl
theorem lmRX10_280 : Cond.methodLink RX10 280 yX10_close ∈ kw_all := kw_word 1476 (by decide +kernel) rfl
theorem lmRX10_277 : Cond.methodLink RX10 277 yX10_length ∈ kw_all := kw_word 1475 (by decide +kernel) rfl
theorem lmRX10_274 : Cond.methodLink RX10 274 yX10_lay ∈ kw_all := kw_word 1474 (by decide +kernel) rfl
theorem lmRX10_296 : Cond.methodLink RX10 296 yX10_does ∈ kw_all := kw_word 1470 (by decide +kernel) rfl
theorem lmRX10_299 : Cond.methodLink RX10 299 yX10_slackOf ∈ kw_all := kw_word 1503 (by decide +kernel) rfl
theorem lmRX10_303 : Cond.methodLink RX10 303 yX10_isTight ∈ kw_all := kw_word 1499 (by decide +kernel) rfl
theorem lfRX10_33 : Cond.fieldLink RX10 33 "KeptWaysModel" "wayBack" "[I" ∈ kw_all := kw_word 1197 (by decide +kernel) rfl
theorem lmRX10_306 : Cond.methodLink RX10 306 yX10_parentOf ∈ kw_all := kw_word 1495 (by decide +kernel) rfl
theorem lfRX10_36 : Cond.fieldLink RX10 36 "KeptWaysModel" "rows" "[J" ∈ kw_all := kw_word 1198 (by decide +kernel) rfl
theorem lfRX10_42 : Cond.fieldLink RX10 42 "KeptWaysModel" "rowsAll" "[J" ∈ kw_all := kw_word 1200 (by decide +kernel) rfl
theorem lfRX10_39 : Cond.fieldLink RX10 39 "KeptWaysModel" "rowsThen" "[J" ∈ kw_all := kw_word 1199 (by decide +kernel) rfl
theorem lmRX10_309 : Cond.methodLink RX10 309 yX10_countsWays ∈ kw_all := kw_word 1516 (by decide +kernel) rfl
theorem lmRX10_312 : Cond.methodLink RX10 312 yX10_isNeeded ∈ kw_all := kw_word 1524 (by decide +kernel) rfl
theorem lmRX10_315 : Cond.methodLink RX10 315 yX10_goesBack ∈ kw_all := kw_word 1508 (by decide +kernel) rfl
theorem lfRX10_45 : Cond.fieldLink RX10 45 "KeptWaysModel" "left" "[J" ∈ kw_all := kw_word 1201 (by decide +kernel) rfl
theorem lmRX10_318 : Cond.methodLink RX10 318 yX10_findsLeft ∈ kw_all := kw_word 1536 (by decide +kernel) rfl
theorem lfRX10_48 : Cond.fieldLink RX10 48 "KeptWaysModel" "deepTown" "[I" ∈ kw_all := kw_word 1202 (by decide +kernel) rfl
theorem lfRX10_51 : Cond.fieldLink RX10 51 "KeptWaysModel" "deepRoad" "[I" ∈ kw_all := kw_word 1203 (by decide +kernel) rfl
theorem lmRX10_321 : Cond.methodLink RX10 321 yX10_has ∈ kw_all := kw_word 1540 (by decide +kernel) rfl
theorem lfRX10_54 : Cond.fieldLink RX10 54 "KeptWaysModel" "pair" "[J" ∈ kw_all := kw_word 1204 (by decide +kernel) rfl
theorem lmRX10_324 : Cond.methodLink RX10 324 yX10_findsPairs ∈ kw_all := kw_word 1559 (by decide +kernel) rfl
theorem lmRX10_327 : Cond.methodLink RX10 327 yX10_comesToAll ∈ kw_all := kw_word 1603 (by decide +kernel) rfl
theorem lmRX10_330 : Cond.methodLink RX10 330 yX10_reachOf ∈ kw_all := kw_word 1563 (by decide +kernel) rfl
theorem lmRX10_333 : Cond.methodLink RX10 333 yX10_comesBy ∈ kw_all := kw_word 1551 (by decide +kernel) rfl
theorem lfRX10_57 : Cond.fieldLink RX10 57 "KeptWaysModel" "isUsed" "[Z" ∈ kw_all := kw_word 1205 (by decide +kernel) rfl
theorem lmRX10_336 : Cond.methodLink RX10 336 yX10_told ∈ kw_all := kw_word 1492 (by decide +kernel) rfl
theorem lcRX10_340 : Cond.constantLong RX10 340 (-2 : Int64) ∈ kw_all := kw_word 1507 (by decide +kernel) rfl
theorem lmRX10_342 : Cond.methodLink RX10 342 yX10_tightTo ∈ kw_all := kw_word 1512 (by decide +kernel) rfl
theorem lmRX10_345 : Cond.methodLink RX10 345 yX10_neededMany ∈ kw_all := kw_word 1520 (by decide +kernel) rfl
theorem lmRX10_348 : Cond.methodLink RX10 348 yX10_dearestOf ∈ kw_all := kw_word 1528 (by decide +kernel) rfl
theorem lmRX10_351 : Cond.methodLink RX10 351 yX10_nextOf ∈ kw_all := kw_word 1532 (by decide +kernel) rfl
theorem lmRX10_363 : Cond.methodLink RX10 363 yX10_ringOf ∈ kw_all := kw_word 1567 (by decide +kernel) rfl
theorem lmRX10_366 : Cond.methodLink RX10 366 yX10_groupOf ∈ kw_all := kw_word 1571 (by decide +kernel) rfl
theorem lmRX10_369 : Cond.methodLink RX10 369 yX10_comeTo ∈ kw_all := kw_word 1575 (by decide +kernel) rfl
theorem lmRX10_354 : Cond.methodLink RX10 354 yX10_belowOf ∈ kw_all := kw_word 1543 (by decide +kernel) rfl
theorem lmRX10_357 : Cond.methodLink RX10 357 yX10_narrowOf ∈ kw_all := kw_word 1547 (by decide +kernel) rfl
theorem lmRX10_360 : Cond.methodLink RX10 360 yX10_apartOf ∈ kw_all := kw_word 1555 (by decide +kernel) rfl
theorem lmRX10_372 : Cond.methodLink RX10 372 yX10_openMany ∈ kw_all := kw_word 1583 (by decide +kernel) rfl
theorem lmRX10_375 : Cond.methodLink RX10 375 yX10_reached ∈ kw_all := kw_word 1587 (by decide +kernel) rfl
theorem lmRX10_378 : Cond.methodLink RX10 378 yX10_tightMany ∈ kw_all := kw_word 1591 (by decide +kernel) rfl
theorem lmRX10_381 : Cond.methodLink RX10 381 yX10_watches ∈ kw_all := kw_word 1595 (by decide +kernel) rfl
theorem lmRX10_384 : Cond.methodLink RX10 384 yX10_middle ∈ kw_all := kw_word 1599 (by decide +kernel) rfl
theorem lcRX10_387 : Cond.constantLong RX10 387 (5 : Int64) ∈ kw_all := kw_word 1611 (by decide +kernel) rfl
theorem lfRX10_61 : Cond.fieldLink RX10 61 "KeptWaysModel" "freely" "[J" ∈ kw_all := kw_word 1206 (by decide +kernel) rfl
theorem lcRX10_389 : Cond.constantLong RX10 389 (3 : Int64) ∈ kw_all := kw_word 1636 (by decide +kernel) rfl
theorem lmRX10_391 : Cond.methodLink RX10 391 yX10_offers ∈ kw_all := kw_word 1637 (by decide +kernel) rfl
theorem lfRX10_64 : Cond.fieldLink RX10 64 "KeptWaysModel" "then" "[J" ∈ kw_all := kw_word 1207 (by decide +kernel) rfl
theorem lcRX10_395 : Cond.constantLong RX10 395 (36 : Int64) ∈ kw_all := kw_word 1645 (by decide +kernel) rfl
theorem lmRX10_397 : Cond.methodLink RX10 397 yX10_stands ∈ kw_all := kw_word 1646 (by decide +kernel) rfl
theorem lmRX10_400 : Cond.methodLink RX10 400 yX10_goesOn ∈ kw_all := kw_word 1650 (by decide +kernel) rfl
theorem lmRX10_403 : Cond.methodLink RX10 403 yX10_common ∈ kw_all := kw_word 1658 (by decide +kernel) rfl
theorem lfRX10_407 : Cond.fieldLink RX10 407 "KeptWaysModel" "orderMany" "I" ∈ kw_all := kw_word 1210 (by decide +kernel) rfl
theorem lfRX10_67 : Cond.fieldLink RX10 67 "KeptWaysModel" "order" "[I" ∈ kw_all := kw_word 1208 (by decide +kernel) rfl
theorem lmRX10_410 : Cond.methodLink RX10 410 yX10_changesPlaces ∈ kw_all := kw_word 1674 (by decide +kernel) rfl
theorem lcRX10_413 : Cond.constantLong RX10 413 (6 : Int64) ∈ kw_all := kw_word 1665 (by decide +kernel) rfl
theorem lmRX10_415 : Cond.methodLink RX10 415 yX10_roundLong ∈ kw_all := kw_word 1666 (by decide +kernel) rfl
theorem lmRX10_419 : Cond.methodLink RX10 419 yX10_nextOrder ∈ kw_all := kw_word 1670 (by decide +kernel) rfl
theorem lfRX10_70 : Cond.fieldLink RX10 70 "KeptWaysModel" "bestOrder" "[I" ∈ kw_all := kw_word 1209 (by decide +kernel) rfl
theorem lcRX10_422 : Cond.constantLong RX10 422 (-4 : Int64) ∈ kw_all := kw_word 1678 (by decide +kernel) rfl
theorem lmRX10_424 : Cond.methodLink RX10 424 yX10_gather ∈ kw_all := kw_word 1683 (by decide +kernel) rfl
theorem lmRX10_428 : Cond.methodLink RX10 428 yX10_savedBy ∈ kw_all := kw_word 1695 (by decide +kernel) rfl
theorem lcRX10_432 : Cond.constant RX10 432 (65536 : Int32) ∈ kw_all := kw_word 1722 (by decide +kernel) rfl
theorem lmRX10_433 : Cond.methodLink RX10 433 yX10_nextLot ∈ kw_all := kw_word 1718 (by decide +kernel) rfl
theorem lmRX10_436 : Cond.methodLink RX10 436 yX10_min ∈ kw_all := kw_word 1723 (by decide +kernel) rfl
theorem lmRX10_439 : Cond.methodLink RX10 439 yX10_max ∈ kw_all := kw_word 1726 (by decide +kernel) rfl
theorem lcRX10_442 : Cond.constantLong RX10 442 (60 : Int64) ∈ kw_all := kw_word 1713 (by decide +kernel) rfl
theorem lmRX10_444 : Cond.methodLink RX10 444 yX10_draws ∈ kw_all := kw_word 1714 (by decide +kernel) rfl
theorem lcRX10_447 : Cond.constantLong RX10 447 (65535 : Int64) ∈ kw_all := kw_word 1733 (by decide +kernel) rfl
theorem mVX10_of : kw_MV μX10_of 2 := ⟨⟨kw_word 122 (by decide +kernel) rfl, kw_word 1317 (by decide +kernel) rfl, by decide +kernel, Nat.le_of_ble_eq_true rfl⟩, kw_word 1316 (by decide +kernel) rfl, kw_word 47 (by decide +kernel) rfl⟩
theorem mVX10_towns : kw_MV μX10_towns 0 := ⟨⟨kw_word 122 (by decide +kernel) rfl, kw_word 1288 (by decide +kernel) rfl, by decide +kernel, Nat.le_of_ble_eq_true rfl⟩, kw_word 1287 (by decide +kernel) rfl, kw_word 42 (by decide +kernel) rfl⟩
theorem mSX10_in : kw_MS μX10_in 3 := ⟨⟨kw_word 122 (by decide +kernel) rfl, kw_word 1291 (by decide +kernel) rfl, by decide +kernel, Nat.le_of_ble_eq_true rfl⟩, kw_word 1290 (by decide +kernel) rfl⟩
theorem mVX10_isOpen : kw_MV μX10_isOpen 1 := ⟨⟨kw_word 122 (by decide +kernel) rfl, kw_word 1313 (by decide +kernel) rfl, by decide +kernel, Nat.le_of_ble_eq_true rfl⟩, kw_word 1312 (by decide +kernel) rfl, kw_word 46 (by decide +kernel) rfl⟩
theorem mVX10_finds : kw_MV μX10_finds 2 := ⟨⟨kw_word 122 (by decide +kernel) rfl, kw_word 1308 (by decide +kernel) rfl, by decide +kernel, Nat.le_of_ble_eq_true rfl⟩, kw_word 1307 (by decide +kernel) rfl, kw_word 45 (by decide +kernel) rfl⟩
theorem mVX10_isBeyond : kw_MV μX10_isBeyond 1 := ⟨⟨kw_word 122 (by decide +kernel) rfl, kw_word 1345 (by decide +kernel) rfl, by decide +kernel, Nat.le_of_ble_eq_true rfl⟩, kw_word 1344 (by decide +kernel) rfl, kw_word 54 (by decide +kernel) rfl⟩
theorem mVX10_settles : kw_MV μX10_settles 0 := ⟨⟨kw_word 122 (by decide +kernel) rfl, kw_word 1304 (by decide +kernel) rfl, by decide +kernel, Nat.le_of_ble_eq_true rfl⟩, kw_word 1303 (by decide +kernel) rfl, kw_word 44 (by decide +kernel) rfl⟩
theorem mVX10_copies : kw_MV μX10_copies 2 := ⟨⟨kw_word 122 (by decide +kernel) rfl, kw_word 1321 (by decide +kernel) rfl, by decide +kernel, Nat.le_of_ble_eq_true rfl⟩, kw_word 1320 (by decide +kernel) rfl, kw_word 48 (by decide +kernel) rfl⟩
theorem mVX10_notesEvent : kw_MV μX10_notesEvent 1 := ⟨⟨kw_word 122 (by decide +kernel) rfl, kw_word 1349 (by decide +kernel) rfl, by decide +kernel, Nat.le_of_ble_eq_true rfl⟩, kw_word 1348 (by decide +kernel) rfl, kw_word 55 (by decide +kernel) rfl⟩
theorem mVX10_touches : kw_MV μX10_touches 0 := ⟨⟨kw_word 122 (by decide +kernel) rfl, kw_word 1353 (by decide +kernel) rfl, by decide +kernel, Nat.le_of_ble_eq_true rfl⟩, kw_word 1352 (by decide +kernel) rfl, kw_word 56 (by decide +kernel) rfl⟩
theorem mVX10_isTooFar : kw_MV μX10_isTooFar 0 := ⟨⟨kw_word 122 (by decide +kernel) rfl, kw_word 1341 (by decide +kernel) rfl, by decide +kernel, Nat.le_of_ble_eq_true rfl⟩, kw_word 1340 (by decide +kernel) rfl, kw_word 53 (by decide +kernel) rfl⟩
theorem mVX10_sets : kw_MV μX10_sets 3 := ⟨⟨kw_word 122 (by decide +kernel) rfl, kw_word 1329 (by decide +kernel) rfl, by decide +kernel, Nat.le_of_ble_eq_true rfl⟩, kw_word 1328 (by decide +kernel) rfl, kw_word 50 (by decide +kernel) rfl⟩
theorem mVX10_isTown : kw_MV μX10_isTown 1 := ⟨⟨kw_word 122 (by decide +kernel) rfl, kw_word 1284 (by decide +kernel) rfl, by decide +kernel, Nat.le_of_ble_eq_true rfl⟩, kw_word 1283 (by decide +kernel) rfl, kw_word 41 (by decide +kernel) rfl⟩
theorem mSX10_isLength : kw_MS μX10_isLength 1 := ⟨⟨kw_word 122 (by decide +kernel) rfl, kw_word 1294 (by decide +kernel) rfl, by decide +kernel, Nat.le_of_ble_eq_true rfl⟩, kw_word 1293 (by decide +kernel) rfl⟩
theorem mVX10_begins : kw_MV μX10_begins 0 := ⟨⟨kw_word 122 (by decide +kernel) rfl, kw_word 1300 (by decide +kernel) rfl, by decide +kernel, Nat.le_of_ble_eq_true rfl⟩, kw_word 1299 (by decide +kernel) rfl, kw_word 43 (by decide +kernel) rfl⟩
theorem mVX10_comes : kw_MV μX10_comes 3 := ⟨⟨kw_word 122 (by decide +kernel) rfl, kw_word 1325 (by decide +kernel) rfl, by decide +kernel, Nat.le_of_ble_eq_true rfl⟩, kw_word 1324 (by decide +kernel) rfl, kw_word 49 (by decide +kernel) rfl⟩
theorem mVX10_isRing : kw_MV μX10_isRing 1 := ⟨⟨kw_word 122 (by decide +kernel) rfl, kw_word 1333 (by decide +kernel) rfl, by decide +kernel, Nat.le_of_ble_eq_true rfl⟩, kw_word 1332 (by decide +kernel) rfl, kw_word 51 (by decide +kernel) rfl⟩
theorem mVX10_ends : kw_MV μX10_ends 1 := ⟨⟨kw_word 122 (by decide +kernel) rfl, kw_word 1337 (by decide +kernel) rfl, by decide +kernel, Nat.le_of_ble_eq_true rfl⟩, kw_word 1336 (by decide +kernel) rfl, kw_word 52 (by decide +kernel) rfl⟩
theorem mVX10_isRoad : kw_MV μX10_isRoad 1 := ⟨⟨kw_word 122 (by decide +kernel) rfl, kw_word 1361 (by decide +kernel) rfl, by decide +kernel, Nat.le_of_ble_eq_true rfl⟩, kw_word 1360 (by decide +kernel) rfl, kw_word 57 (by decide +kernel) rfl⟩
theorem mVX10_turns : kw_MV μX10_turns 2 := ⟨⟨kw_word 122 (by decide +kernel) rfl, kw_word 1369 (by decide +kernel) rfl, by decide +kernel, Nat.le_of_ble_eq_true rfl⟩, kw_word 1368 (by decide +kernel) rfl, kw_word 58 (by decide +kernel) rfl⟩
theorem mVX10_types : kw_MV μX10_types 1 := ⟨⟨kw_word 122 (by decide +kernel) rfl, kw_word 1389 (by decide +kernel) rfl, by decide +kernel, Nat.le_of_ble_eq_true rfl⟩, kw_word 1388 (by decide +kernel) rfl, kw_word 59 (by decide +kernel) rfl⟩
theorem mVX10_here : kw_MV μX10_here 0 := ⟨⟨kw_word 122 (by decide +kernel) rfl, kw_word 1422 (by decide +kernel) rfl, by decide +kernel, Nat.le_of_ble_eq_true rfl⟩, kw_word 1421 (by decide +kernel) rfl, kw_word 66 (by decide +kernel) rfl⟩
theorem mVX10_wrongAt : kw_MV μX10_wrongAt 2 := ⟨⟨kw_word 122 (by decide +kernel) rfl, kw_word 1410 (by decide +kernel) rfl, by decide +kernel, Nat.le_of_ble_eq_true rfl⟩, kw_word 1409 (by decide +kernel) rfl, kw_word 63 (by decide +kernel) rfl⟩
theorem mVX10_takesSign : kw_MV μX10_takesSign 1 := ⟨⟨kw_word 122 (by decide +kernel) rfl, kw_word 1437 (by decide +kernel) rfl, by decide +kernel, Nat.le_of_ble_eq_true rfl⟩, kw_word 1436 (by decide +kernel) rfl, kw_word 68 (by decide +kernel) rfl⟩
theorem mVX10_readsNumber : kw_MV μX10_readsNumber 2 := ⟨⟨kw_word 122 (by decide +kernel) rfl, kw_word 1433 (by decide +kernel) rfl, by decide +kernel, Nat.le_of_ble_eq_true rfl⟩, kw_word 1432 (by decide +kernel) rfl, kw_word 67 (by decide +kernel) rfl⟩
theorem mVX10_keepsNumber : kw_MV μX10_keepsNumber 1 := ⟨⟨kw_word 122 (by decide +kernel) rfl, kw_word 1449 (by decide +kernel) rfl, by decide +kernel, Nat.le_of_ble_eq_true rfl⟩, kw_word 1448 (by decide +kernel) rfl, kw_word 70 (by decide +kernel) rfl⟩
theorem mVX10_readsWord : kw_MV μX10_readsWord 0 := ⟨⟨kw_word 122 (by decide +kernel) rfl, kw_word 1418 (by decide +kernel) rfl, by decide +kernel, Nat.le_of_ble_eq_true rfl⟩, kw_word 1417 (by decide +kernel) rfl, kw_word 65 (by decide +kernel) rfl⟩
theorem mVX10_readsRoad : kw_MV μX10_readsRoad 1 := ⟨⟨kw_word 122 (by decide +kernel) rfl, kw_word 1445 (by decide +kernel) rfl, by decide +kernel, Nat.le_of_ble_eq_true rfl⟩, kw_word 1444 (by decide +kernel) rfl, kw_word 69 (by decide +kernel) rfl⟩
theorem mVX10_readsOrder : kw_MV μX10_readsOrder 0 := ⟨⟨kw_word 122 (by decide +kernel) rfl, kw_word 1453 (by decide +kernel) rfl, by decide +kernel, Nat.le_of_ble_eq_true rfl⟩, kw_word 1452 (by decide +kernel) rfl, kw_word 71 (by decide +kernel) rfl⟩
theorem mVX10_readsNet : kw_MV μX10_readsNet 0 := ⟨⟨kw_word 122 (by decide +kernel) rfl, kw_word 1414 (by decide +kernel) rfl, by decide +kernel, Nat.le_of_ble_eq_true rfl⟩, kw_word 1413 (by decide +kernel) rfl, kw_word 64 (by decide +kernel) rfl⟩
theorem mVX10_readsClause : kw_MV μX10_readsClause 1 := ⟨⟨kw_word 122 (by decide +kernel) rfl, kw_word 1406 (by decide +kernel) rfl, by decide +kernel, Nat.le_of_ble_eq_true rfl⟩, kw_word 1405 (by decide +kernel) rfl, kw_word 62 (by decide +kernel) rfl⟩
theorem mVX10_isText : kw_MV μX10_isText 1 := ⟨⟨kw_word 122 (by decide +kernel) rfl, kw_word 1397 (by decide +kernel) rfl, by decide +kernel, Nat.le_of_ble_eq_true rfl⟩, kw_word 1396 (by decide +kernel) rfl, kw_word 60 (by decide +kernel) rfl⟩
theorem mVX10_readsText : kw_MV μX10_readsText 2 := ⟨⟨kw_word 122 (by decide +kernel) rfl, kw_word 1402 (by decide +kernel) rfl, by decide +kernel, Nat.le_of_ble_eq_true rfl⟩, kw_word 1401 (by decide +kernel) rfl, kw_word 61 (by decide +kernel) rfl⟩
theorem mVX10_empties : kw_MV μX10_empties 0 := ⟨⟨kw_word 122 (by decide +kernel) rfl, kw_word 1465 (by decide +kernel) rfl, by decide +kernel, Nat.le_of_ble_eq_true rfl⟩, kw_word 1464 (by decide +kernel) rfl, kw_word 72 (by decide +kernel) rfl⟩
theorem mVX10_forget : kw_MV μX10_forget 1 := ⟨⟨kw_word 122 (by decide +kernel) rfl, kw_word 1486 (by decide +kernel) rfl, by decide +kernel, Nat.le_of_ble_eq_true rfl⟩, kw_word 1484 (by decide +kernel) rfl, kw_word 1485 (by decide +kernel) rfl⟩
theorem mVX10_watch : kw_MV μX10_watch 2 := ⟨⟨kw_word 122 (by decide +kernel) rfl, kw_word 1482 (by decide +kernel) rfl, by decide +kernel, Nat.le_of_ble_eq_true rfl⟩, kw_word 1480 (by decide +kernel) rfl, kw_word 1481 (by decide +kernel) rfl⟩
theorem mVX10_origin : kw_MV μX10_origin 1 := ⟨⟨kw_word 122 (by decide +kernel) rfl, kw_word 1377 (by decide +kernel) rfl, by decide +kernel, Nat.le_of_ble_eq_true rfl⟩, kw_word 1375 (by decide +kernel) rfl, kw_word 1376 (by decide +kernel) rfl⟩
theorem mVX10_open : kw_MV μX10_open 1 := ⟨⟨kw_word 122 (by decide +kernel) rfl, kw_word 1373 (by decide +kernel) rfl, by decide +kernel, Nat.le_of_ble_eq_true rfl⟩, kw_word 1371 (by decide +kernel) rfl, kw_word 1372 (by decide +kernel) rfl⟩
theorem mVX10_close : kw_MV μX10_close 1 := ⟨⟨kw_word 122 (by decide +kernel) rfl, kw_word 1365 (by decide +kernel) rfl, by decide +kernel, Nat.le_of_ble_eq_true rfl⟩, kw_word 1363 (by decide +kernel) rfl, kw_word 1364 (by decide +kernel) rfl⟩
theorem mVX10_length : kw_MV μX10_length 2 := ⟨⟨kw_word 122 (by decide +kernel) rfl, kw_word 1357 (by decide +kernel) rfl, by decide +kernel, Nat.le_of_ble_eq_true rfl⟩, kw_word 1355 (by decide +kernel) rfl, kw_word 1356 (by decide +kernel) rfl⟩
theorem mVX10_lay : kw_MV μX10_lay 3 := ⟨⟨kw_word 122 (by decide +kernel) rfl, kw_word 1280 (by decide +kernel) rfl, by decide +kernel, Nat.le_of_ble_eq_true rfl⟩, kw_word 1278 (by decide +kernel) rfl, kw_word 1279 (by decide +kernel) rfl⟩
theorem mVX10_does : kw_MV μX10_does 1 := ⟨⟨kw_word 122 (by decide +kernel) rfl, kw_word 1473 (by decide +kernel) rfl, by decide +kernel, Nat.le_of_ble_eq_true rfl⟩, kw_word 1472 (by decide +kernel) rfl, kw_word 73 (by decide +kernel) rfl⟩
theorem mVX10_slackOf : kw_MV μX10_slackOf 1 := ⟨⟨kw_word 122 (by decide +kernel) rfl, kw_word 1506 (by decide +kernel) rfl, by decide +kernel, Nat.le_of_ble_eq_true rfl⟩, kw_word 1505 (by decide +kernel) rfl, kw_word 76 (by decide +kernel) rfl⟩
theorem mVX10_isTight : kw_MV μX10_isTight 1 := ⟨⟨kw_word 122 (by decide +kernel) rfl, kw_word 1502 (by decide +kernel) rfl, by decide +kernel, Nat.le_of_ble_eq_true rfl⟩, kw_word 1501 (by decide +kernel) rfl, kw_word 75 (by decide +kernel) rfl⟩
theorem mVX10_parentOf : kw_MV μX10_parentOf 1 := ⟨⟨kw_word 122 (by decide +kernel) rfl, kw_word 1498 (by decide +kernel) rfl, by decide +kernel, Nat.le_of_ble_eq_true rfl⟩, kw_word 1497 (by decide +kernel) rfl, kw_word 74 (by decide +kernel) rfl⟩
theorem mVX10_countsWays : kw_MV μX10_countsWays 1 := ⟨⟨kw_word 122 (by decide +kernel) rfl, kw_word 1519 (by decide +kernel) rfl, by decide +kernel, Nat.le_of_ble_eq_true rfl⟩, kw_word 1518 (by decide +kernel) rfl, kw_word 79 (by decide +kernel) rfl⟩
theorem mVX10_isNeeded : kw_MV μX10_isNeeded 2 := ⟨⟨kw_word 122 (by decide +kernel) rfl, kw_word 1527 (by decide +kernel) rfl, by decide +kernel, Nat.le_of_ble_eq_true rfl⟩, kw_word 1526 (by decide +kernel) rfl, kw_word 81 (by decide +kernel) rfl⟩
theorem mVX10_goesBack : kw_MV μX10_goesBack 1 := ⟨⟨kw_word 122 (by decide +kernel) rfl, kw_word 1511 (by decide +kernel) rfl, by decide +kernel, Nat.le_of_ble_eq_true rfl⟩, kw_word 1510 (by decide +kernel) rfl, kw_word 77 (by decide +kernel) rfl⟩
theorem mVX10_findsLeft : kw_MV μX10_findsLeft 1 := ⟨⟨kw_word 122 (by decide +kernel) rfl, kw_word 1539 (by decide +kernel) rfl, by decide +kernel, Nat.le_of_ble_eq_true rfl⟩, kw_word 1538 (by decide +kernel) rfl, kw_word 84 (by decide +kernel) rfl⟩
theorem mSX10_has : kw_MS μX10_has 2 := ⟨⟨kw_word 122 (by decide +kernel) rfl, kw_word 1542 (by decide +kernel) rfl, by decide +kernel, Nat.le_of_ble_eq_true rfl⟩, kw_word 1541 (by decide +kernel) rfl⟩
theorem mVX10_findsPairs : kw_MV μX10_findsPairs 0 := ⟨⟨kw_word 122 (by decide +kernel) rfl, kw_word 1562 (by decide +kernel) rfl, by decide +kernel, Nat.le_of_ble_eq_true rfl⟩, kw_word 1561 (by decide +kernel) rfl, kw_word 89 (by decide +kernel) rfl⟩
theorem mVX10_comesToAll : kw_MV μX10_comesToAll 1 := ⟨⟨kw_word 122 (by decide +kernel) rfl, kw_word 1606 (by decide +kernel) rfl, by decide +kernel, Nat.le_of_ble_eq_true rfl⟩, kw_word 1605 (by decide +kernel) rfl, kw_word 99 (by decide +kernel) rfl⟩
theorem mVX10_reachOf : kw_MV μX10_reachOf 1 := ⟨⟨kw_word 122 (by decide +kernel) rfl, kw_word 1566 (by decide +kernel) rfl, by decide +kernel, Nat.le_of_ble_eq_true rfl⟩, kw_word 1565 (by decide +kernel) rfl, kw_word 90 (by decide +kernel) rfl⟩
theorem mVX10_comesBy : kw_MV μX10_comesBy 1 := ⟨⟨kw_word 122 (by decide +kernel) rfl, kw_word 1554 (by decide +kernel) rfl, by decide +kernel, Nat.le_of_ble_eq_true rfl⟩, kw_word 1553 (by decide +kernel) rfl, kw_word 87 (by decide +kernel) rfl⟩
theorem mSX10_told : kw_MS μX10_told 1 := ⟨⟨kw_word 122 (by decide +kernel) rfl, kw_word 1494 (by decide +kernel) rfl, by decide +kernel, Nat.le_of_ble_eq_true rfl⟩, kw_word 1493 (by decide +kernel) rfl⟩
theorem mVX10_tightTo : kw_MV μX10_tightTo 1 := ⟨⟨kw_word 122 (by decide +kernel) rfl, kw_word 1515 (by decide +kernel) rfl, by decide +kernel, Nat.le_of_ble_eq_true rfl⟩, kw_word 1514 (by decide +kernel) rfl, kw_word 78 (by decide +kernel) rfl⟩
theorem mVX10_neededMany : kw_MV μX10_neededMany 1 := ⟨⟨kw_word 122 (by decide +kernel) rfl, kw_word 1523 (by decide +kernel) rfl, by decide +kernel, Nat.le_of_ble_eq_true rfl⟩, kw_word 1522 (by decide +kernel) rfl, kw_word 80 (by decide +kernel) rfl⟩
theorem mVX10_dearestOf : kw_MV μX10_dearestOf 1 := ⟨⟨kw_word 122 (by decide +kernel) rfl, kw_word 1531 (by decide +kernel) rfl, by decide +kernel, Nat.le_of_ble_eq_true rfl⟩, kw_word 1530 (by decide +kernel) rfl, kw_word 82 (by decide +kernel) rfl⟩
theorem mVX10_nextOf : kw_MV μX10_nextOf 1 := ⟨⟨kw_word 122 (by decide +kernel) rfl, kw_word 1535 (by decide +kernel) rfl, by decide +kernel, Nat.le_of_ble_eq_true rfl⟩, kw_word 1534 (by decide +kernel) rfl, kw_word 83 (by decide +kernel) rfl⟩
theorem mVX10_ringOf : kw_MV μX10_ringOf 1 := ⟨⟨kw_word 122 (by decide +kernel) rfl, kw_word 1570 (by decide +kernel) rfl, by decide +kernel, Nat.le_of_ble_eq_true rfl⟩, kw_word 1569 (by decide +kernel) rfl, kw_word 91 (by decide +kernel) rfl⟩
theorem mVX10_groupOf : kw_MV μX10_groupOf 1 := ⟨⟨kw_word 122 (by decide +kernel) rfl, kw_word 1574 (by decide +kernel) rfl, by decide +kernel, Nat.le_of_ble_eq_true rfl⟩, kw_word 1573 (by decide +kernel) rfl, kw_word 92 (by decide +kernel) rfl⟩
theorem mVX10_comeTo : kw_MV μX10_comeTo 1 := ⟨⟨kw_word 122 (by decide +kernel) rfl, kw_word 1578 (by decide +kernel) rfl, by decide +kernel, Nat.le_of_ble_eq_true rfl⟩, kw_word 1577 (by decide +kernel) rfl, kw_word 93 (by decide +kernel) rfl⟩
theorem mVX10_belowOf : kw_MV μX10_belowOf 1 := ⟨⟨kw_word 122 (by decide +kernel) rfl, kw_word 1546 (by decide +kernel) rfl, by decide +kernel, Nat.le_of_ble_eq_true rfl⟩, kw_word 1545 (by decide +kernel) rfl, kw_word 85 (by decide +kernel) rfl⟩
theorem mVX10_narrowOf : kw_MV μX10_narrowOf 1 := ⟨⟨kw_word 122 (by decide +kernel) rfl, kw_word 1550 (by decide +kernel) rfl, by decide +kernel, Nat.le_of_ble_eq_true rfl⟩, kw_word 1549 (by decide +kernel) rfl, kw_word 86 (by decide +kernel) rfl⟩
theorem mVX10_apartOf : kw_MV μX10_apartOf 1 := ⟨⟨kw_word 122 (by decide +kernel) rfl, kw_word 1558 (by decide +kernel) rfl, by decide +kernel, Nat.le_of_ble_eq_true rfl⟩, kw_word 1557 (by decide +kernel) rfl, kw_word 88 (by decide +kernel) rfl⟩
theorem mVX10_openMany : kw_MV μX10_openMany 0 := ⟨⟨kw_word 122 (by decide +kernel) rfl, kw_word 1586 (by decide +kernel) rfl, by decide +kernel, Nat.le_of_ble_eq_true rfl⟩, kw_word 1585 (by decide +kernel) rfl, kw_word 94 (by decide +kernel) rfl⟩
theorem mVX10_reached : kw_MV μX10_reached 0 := ⟨⟨kw_word 122 (by decide +kernel) rfl, kw_word 1590 (by decide +kernel) rfl, by decide +kernel, Nat.le_of_ble_eq_true rfl⟩, kw_word 1589 (by decide +kernel) rfl, kw_word 95 (by decide +kernel) rfl⟩
theorem mVX10_tightMany : kw_MV μX10_tightMany 0 := ⟨⟨kw_word 122 (by decide +kernel) rfl, kw_word 1594 (by decide +kernel) rfl, by decide +kernel, Nat.le_of_ble_eq_true rfl⟩, kw_word 1593 (by decide +kernel) rfl, kw_word 96 (by decide +kernel) rfl⟩
theorem mVX10_watches : kw_MV μX10_watches 1 := ⟨⟨kw_word 122 (by decide +kernel) rfl, kw_word 1598 (by decide +kernel) rfl, by decide +kernel, Nat.le_of_ble_eq_true rfl⟩, kw_word 1597 (by decide +kernel) rfl, kw_word 97 (by decide +kernel) rfl⟩
theorem mVX10_middle : kw_MV μX10_middle 0 := ⟨⟨kw_word 122 (by decide +kernel) rfl, kw_word 1602 (by decide +kernel) rfl, by decide +kernel, Nat.le_of_ble_eq_true rfl⟩, kw_word 1601 (by decide +kernel) rfl, kw_word 98 (by decide +kernel) rfl⟩
theorem mVX10_offers : kw_MV μX10_offers 2 := ⟨⟨kw_word 122 (by decide +kernel) rfl, kw_word 1640 (by decide +kernel) rfl, by decide +kernel, Nat.le_of_ble_eq_true rfl⟩, kw_word 1639 (by decide +kernel) rfl, kw_word 100 (by decide +kernel) rfl⟩
theorem mVX10_stands : kw_MV μX10_stands 1 := ⟨⟨kw_word 122 (by decide +kernel) rfl, kw_word 1649 (by decide +kernel) rfl, by decide +kernel, Nat.le_of_ble_eq_true rfl⟩, kw_word 1648 (by decide +kernel) rfl, kw_word 101 (by decide +kernel) rfl⟩
theorem mVX10_goesOn : kw_MV μX10_goesOn 0 := ⟨⟨kw_word 122 (by decide +kernel) rfl, kw_word 1653 (by decide +kernel) rfl, by decide +kernel, Nat.le_of_ble_eq_true rfl⟩, kw_word 1652 (by decide +kernel) rfl, kw_word 102 (by decide +kernel) rfl⟩
theorem mSX10_common : kw_MS μX10_common 2 := ⟨⟨kw_word 122 (by decide +kernel) rfl, kw_word 1660 (by decide +kernel) rfl, by decide +kernel, Nat.le_of_ble_eq_true rfl⟩, kw_word 1659 (by decide +kernel) rfl⟩
theorem mVX10_changesPlaces : kw_MV μX10_changesPlaces 2 := ⟨⟨kw_word 122 (by decide +kernel) rfl, kw_word 1677 (by decide +kernel) rfl, by decide +kernel, Nat.le_of_ble_eq_true rfl⟩, kw_word 1676 (by decide +kernel) rfl, kw_word 105 (by decide +kernel) rfl⟩
theorem mVX10_roundLong : kw_MV μX10_roundLong 0 := ⟨⟨kw_word 122 (by decide +kernel) rfl, kw_word 1669 (by decide +kernel) rfl, by decide +kernel, Nat.le_of_ble_eq_true rfl⟩, kw_word 1668 (by decide +kernel) rfl, kw_word 103 (by decide +kernel) rfl⟩
theorem mVX10_nextOrder : kw_MV μX10_nextOrder 0 := ⟨⟨kw_word 122 (by decide +kernel) rfl, kw_word 1673 (by decide +kernel) rfl, by decide +kernel, Nat.le_of_ble_eq_true rfl⟩, kw_word 1672 (by decide +kernel) rfl, kw_word 104 (by decide +kernel) rfl⟩
theorem mVX10_gather : kw_MV μX10_gather 3 := ⟨⟨kw_word 122 (by decide +kernel) rfl, kw_word 1686 (by decide +kernel) rfl, by decide +kernel, Nat.le_of_ble_eq_true rfl⟩, kw_word 1685 (by decide +kernel) rfl, kw_word 106 (by decide +kernel) rfl⟩
theorem mVX10_savedBy : kw_MV μX10_savedBy 3 := ⟨⟨kw_word 122 (by decide +kernel) rfl, kw_word 1698 (by decide +kernel) rfl, by decide +kernel, Nat.le_of_ble_eq_true rfl⟩, kw_word 1697 (by decide +kernel) rfl, kw_word 107 (by decide +kernel) rfl⟩
theorem mVX10_nextLot : kw_MV μX10_nextLot 0 := ⟨⟨kw_word 122 (by decide +kernel) rfl, kw_word 1721 (by decide +kernel) rfl, by decide +kernel, Nat.le_of_ble_eq_true rfl⟩, kw_word 1720 (by decide +kernel) rfl, kw_word 109 (by decide +kernel) rfl⟩
theorem mSX10_min : kw_MS μX10_min 2 := ⟨⟨kw_word 122 (by decide +kernel) rfl, kw_word 1725 (by decide +kernel) rfl, by decide +kernel, Nat.le_of_ble_eq_true rfl⟩, kw_word 1724 (by decide +kernel) rfl⟩
theorem mSX10_max : kw_MS μX10_max 2 := ⟨⟨kw_word 122 (by decide +kernel) rfl, kw_word 1728 (by decide +kernel) rfl, by decide +kernel, Nat.le_of_ble_eq_true rfl⟩, kw_word 1727 (by decide +kernel) rfl⟩
theorem mVX10_draws : kw_MV μX10_draws 0 := ⟨⟨kw_word 122 (by decide +kernel) rfl, kw_word 1717 (by decide +kernel) rfl, by decide +kernel, Nat.le_of_ble_eq_true rfl⟩, kw_word 1716 (by decide +kernel) rfl, kw_word 108 (by decide +kernel) rfl⟩
