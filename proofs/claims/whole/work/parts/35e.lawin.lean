set_option maxRecDepth 20000 in
theorem lr_104 : GoodIn lw_tbl [Cond.methodLink RL 205 yX8_ranked, Cond.instanceMethod yX8_ranked, Cond.selects RX8 yX8_ranked yX8_ranked, Cond.initialized RX8] := goodIn_r _ [1374, 1375, 1376, 68] (by decide +kernel) (by decide +kernel)
theorem la_205 : GoodIn lw_tbl (wsV RL 205 RX8 yX8_ranked wsX8_ranked) := goodIn_app lr_104 gw_wsX8_ranked
set_option maxRecDepth 20000 in
theorem lr_105 : GoodIn lw_tbl [Cond.codeWith yL_append cL_append 4 (some .int) [(0, 9, 12, 84)]] := goodIn_r _ [924] (by decide +kernel) (by decide +kernel)
set_option maxRecDepth 20000 in
theorem lr_106 : GoodIn lw_tbl [.classLink RL 84 "java/lang/IllegalStateException", .methodLink RL 80 yX7_append, .instanceMethod yX7_append, .selects RX7 yX7_append yX7_append, .initialized RX7, .code yX7_append cX7_append 2 (some .int), .classLink RX7 226 "java/lang/IllegalStateException", .initialized "java/lang/IllegalStateException", .fieldLink RX7 56 "KeyWaves" "text" "LKeyWaves$CommandText;", .fieldLink RX7 231 "KeyWaves$CommandText" "length" "I", .methodLink RX7 222 yX0_add, .instanceMethod yX0_add, .selects RX0 yX0_add yX0_add, .initialized RX0, .code yX0_add cX0_add 2 (some .boolean), .fieldLink RX0 15 "KeyWaves$CommandText" "length" "I", .fieldLink RX0 9 "KeyWaves$CommandText" "signs" "[C"] := goodIn_r _ [925, 926, 927, 928, 60, 929, 934, 81, 276, 228, 930, 931, 932, 66, 933, 227, 226] (by decide +kernel) (by decide +kernel)
theorem gf_wsL_law_x5 : GoodIn lw_tbl ((vx_atS RX7 230 "java/lang/IllegalStateException" ["java/lang/RuntimeException", "java/lang/Exception"]).filter goodWord) := goodIn_sub wsL_law_x5 (by decide +kernel)
theorem gw_wsL_append : GoodIn lw_tbl wsL_append := goodIn_app lr_105 (goodIn_app (goodIn_app (goodIn_app (goodIn_app lr_106 gi_wsX70) gi_wsX00) gf_wsL_law_x0) gf_wsL_law_x5)
set_option maxRecDepth 20000 in
theorem lr_107 : GoodIn lw_tbl [Cond.methodLink RL 206 yL_append, Cond.static yL_append, Cond.initialized RL] := goodIn_r _ [922, 923, 59] (by decide +kernel) (by decide +kernel)
theorem la_206 : GoodIn lw_tbl (va_wsS RL 206 yL_append wsL_append) := goodIn_app lr_107 gw_wsL_append
set_option maxRecDepth 20000 in
theorem lr_108 : GoodIn lw_tbl [Cond.code yX8_append cX8_append 2 (some .int)] := goodIn_r _ [1385] (by decide +kernel) (by decide +kernel)
set_option maxRecDepth 20000 in
theorem lr_109 : GoodIn lw_tbl [.fieldLink RX8 162 "KeyWavesModel" "length" "I", .fieldLink RX8 25 "KeyWavesModel" "input" "[I", .methodLink RX8 138 yX8_fails, .instanceMethod yX8_fails, .selects RX8 yX8_fails yX8_fails, .initialized RX8, .code yX8_fails cX8_fails 2 (some .boolean), .fieldLink RX8 46 "KeyWavesModel" "code" "I"] := goodIn_r _ [1118, 1117, 1290, 1292, 42, 68, 1293, 1113] (by decide +kernel) (by decide +kernel)
theorem gw_wsX8_append : GoodIn lw_tbl wsX8_append := goodIn_app lr_108 (goodIn_app (goodIn_app lr_109 gi_wsX80) gf_wsL_law_x0)
set_option maxRecDepth 20000 in
theorem lr_110 : GoodIn lw_tbl [Cond.methodLink RL 209 yX8_append, Cond.instanceMethod yX8_append, Cond.selects RX8 yX8_append yX8_append, Cond.initialized RX8] := goodIn_r _ [1382, 1383, 1384, 68] (by decide +kernel) (by decide +kernel)
theorem la_209 : GoodIn lw_tbl (wsV RL 209 RX8 yX8_append wsX8_append) := goodIn_app lr_110 gw_wsX8_append
set_option maxRecDepth 20000 in
theorem lr_111 : GoodIn lw_tbl [Cond.codeWith yL_commands cL_commands 3 (some .int) [(0, 8, 11, 44), (0, 8, 14, 13)]] := goodIn_r _ [952] (by decide +kernel) (by decide +kernel)
set_option maxRecDepth 20000 in
theorem lr_wsL_commands_r1 : GoodIn lw_tbl wsL_commands_r1 := goodIn_r _ [708, 469, 953, 954, 955, 60, 956, 749, 78, 276, 279, 269, 268, 231, 233, 235, 237, 957, 958, 959, 66, 960, 230, 229] (by decide +kernel) (by decide +kernel)
set_option maxRecDepth 20000 in
theorem lr_wsL_commands_r2 : GoodIn lw_tbl wsL_commands_r2 := goodIn_r _ [227, 961, 962, 963, 964, 965, 967, 20, 968, 232, 969, 971, 21, 972, 226, 973, 975, 22, 976, 234, 977, 979, 23, 980] (by decide +kernel) (by decide +kernel)
set_option maxRecDepth 20000 in
theorem lr_wsL_commands_r3 : GoodIn lw_tbl wsL_commands_r3 := goodIn_r _ [981, 817, 79, 818, 982, 984, 24, 985, 986, 988, 25, 989, 236, 990, 991, 992, 993, 309, 310, 311, 61, 312, 97, 313] (by decide +kernel) (by decide +kernel)
set_option maxRecDepth 20000 in
theorem lr_wsL_commands_r4 : GoodIn lw_tbl wsL_commands_r4 := goodIn_r _ [315, 314, 69, 98, 99, 100, 101, 102, 103, 104, 105, 110, 115, 117, 120, 123, 995, 996, 997, 998, 999, 676, 678, 14] (by decide +kernel) (by decide +kernel)
set_option maxRecDepth 20000 in
theorem lr_wsL_commands_r5 : GoodIn lw_tbl wsL_commands_r5 := goodIn_r _ [679, 275, 273, 474, 475, 476, 477, 479, 480, 482, 483, 484, 485, 486, 65, 487, 208, 210, 584, 585, 586, 587, 595, 596] (by decide +kernel) (by decide +kernel)
set_option maxRecDepth 20000 in
theorem lr_wsL_commands_r6 : GoodIn lw_tbl wsL_commands_r6 := goodIn_r _ [597, 598, 332, 325, 326, 327, 349, 350, 74, 351, 352, 353, 354, 599, 601, 13, 602, 603, 329, 330, 331, 345, 346, 347] (by decide +kernel) (by decide +kernel)
set_option maxRecDepth 20000 in
theorem lr_wsL_commands_r7 : GoodIn lw_tbl wsL_commands_r7 := goodIn_r _ [348, 604, 342, 343, 344, 612, 613, 614, 615, 616, 617, 618, 619, 620, 621, 622, 623, 624, 625, 626, 627, 646, 647, 648] (by decide +kernel) (by decide +kernel)
set_option maxRecDepth 20000 in
theorem lr_wsL_commands_r8 : GoodIn lw_tbl wsL_commands_r8 := goodIn_r _ [649, 650, 651, 652, 653, 654, 437, 438, 439, 655, 458, 459, 460, 656, 367, 368, 369, 657, 384, 385, 386, 387, 356, 357] (by decide +kernel) (by decide +kernel)
set_option maxRecDepth 20000 in
theorem lr_wsL_commands_r9 : GoodIn lw_tbl wsL_commands_r9 := goodIn_r _ [358, 665, 666, 667, 668, 635, 636, 637, 638, 316, 317, 318, 63, 319, 180, 179, 107, 118, 121, 320, 322, 0, 323, 178] (by decide +kernel) (by decide +kernel)
set_option maxRecDepth 20000 in
theorem lr_wsL_commands_r10 : GoodIn lw_tbl wsL_commands_r10 := goodIn_r _ [324, 328, 333, 335, 1, 336, 337, 339, 2, 340, 113, 341, 355, 359, 360, 361, 362, 364, 3, 365, 366, 383, 680, 488] (by decide +kernel) (by decide +kernel)
set_option maxRecDepth 20000 in
theorem lr_wsL_commands_r11 : GoodIn lw_tbl wsL_commands_r11 := goodIn_r _ [490, 9, 491, 492, 73, 212, 272, 564, 565, 566, 62, 567, 165, 568, 570, 11, 571, 164, 572, 574, 12, 575, 576] (by decide +kernel) (by decide +kernel)
theorem gw_wsL_commands : GoodIn lw_tbl wsL_commands := goodIn_app lr_111 (goodIn_app (goodIn_app (goodIn_app (goodIn_app (goodIn_app (goodIn_app (goodIn_app (goodIn_app (goodIn_app (goodIn_app lr_wsL_commands_r1 (goodIn_app lr_wsL_commands_r2 (goodIn_app lr_wsL_commands_r3 (goodIn_app lr_wsL_commands_r4 (goodIn_app lr_wsL_commands_r5 (goodIn_app lr_wsL_commands_r6 (goodIn_app lr_wsL_commands_r7 (goodIn_app lr_wsL_commands_r8 (goodIn_app lr_wsL_commands_r9 (goodIn_app lr_wsL_commands_r10 lr_wsL_commands_r11)))))))))) gi_wsX70) gi_wsX00) gi_wsX30) gi_wsX50) gi_wsX60) gi_wsX10) gf_wsL_law_x0) gf_wsL_law_x2) gf_wsL_law_x1)
set_option maxRecDepth 20000 in
theorem lr_112 : GoodIn lw_tbl [Cond.methodLink RL 210 yL_commands, Cond.static yL_commands, Cond.initialized RL] := goodIn_r _ [950, 951, 59] (by decide +kernel) (by decide +kernel)
theorem la_210 : GoodIn lw_tbl (va_wsS RL 210 yL_commands wsL_commands) := goodIn_app lr_112 gw_wsL_commands
set_option maxRecDepth 20000 in
theorem lr_113 : GoodIn lw_tbl [Cond.code yX8_commands cX8_commands 3 (some .int)] := goodIn_r _ [1389] (by decide +kernel) (by decide +kernel)
set_option maxRecDepth 20000 in
theorem lr_wsX8_commands_r1 : GoodIn lw_tbl wsX8_commands_r1 := goodIn_r _ [1125, 1119, 1118, 1104, 1107, 1111, 1112, 1127, 1113, 1390, 1392, 50, 68, 1393, 1394, 1396, 51, 1397, 1126, 1398, 1400, 52, 1401, 1117] (by decide +kernel) (by decide +kernel)
set_option maxRecDepth 20000 in
theorem lr_wsX8_commands_r2 : GoodIn lw_tbl wsX8_commands_r2 := goodIn_r _ [1402, 1404, 53, 1405, 1406, 1408, 54, 1409, 1185, 1186, 1187, 1290, 1292, 42, 1293, 1196, 1197, 1198, 1410, 1412, 55, 1413, 1414, 1271] (by decide +kernel) (by decide +kernel)
set_option maxRecDepth 20000 in
theorem lr_wsX8_commands_r3 : GoodIn lw_tbl wsX8_commands_r3 := goodIn_r _ [1272, 1273, 1274, 1276, 39, 1277, 1122, 1124, 1211, 1213, 29, 1214, 1222, 1224, 31, 1225, 1226, 1228, 32, 1229, 1230, 1232, 33, 1233] (by decide +kernel) (by decide +kernel)
set_option maxRecDepth 20000 in
theorem lr_wsX8_commands_r4 : GoodIn lw_tbl wsX8_commands_r4 := goodIn_r _ [1215, 1216, 1217, 1262, 1264, 38, 1265, 1188, 1190, 26, 1191, 1114, 1115, 1116, 1192, 1194, 27, 1195, 1110, 1105, 1278, 1280, 40, 1281] (by decide +kernel) (by decide +kernel)
set_option maxRecDepth 20000 in
theorem lr_wsX8_commands_r5 : GoodIn lw_tbl wsX8_commands_r5 := goodIn_r _ [1123, 1282, 1284, 41, 1285, 1258, 1260, 37, 1261, 1415, 1182, 1183, 1184, 1416, 1204, 1205, 1206, 1207, 1209, 28, 1210, 1218, 1220, 30] (by decide +kernel) (by decide +kernel)
set_option maxRecDepth 20000 in
theorem lr_wsX8_commands_r6 : GoodIn lw_tbl wsX8_commands_r6 := goodIn_r _ [1221, 1234, 1236, 34, 1237, 1417, 1200, 1201, 1202, 1418, 1239, 1240, 1241, 1242, 1244, 35, 1245, 1246, 1248, 36, 1249, 1419, 1255, 1256] (by decide +kernel) (by decide +kernel)
set_option maxRecDepth 20000 in
theorem lr_wsX8_commands_r7 : GoodIn lw_tbl wsX8_commands_r7 := goodIn_r _ [1257, 1420, 1267, 1268, 1269, 1421, 1251, 1252, 1253] (by decide +kernel) (by decide +kernel)
theorem gw_wsX8_commands : GoodIn lw_tbl wsX8_commands := goodIn_app lr_113 (goodIn_app (goodIn_app (goodIn_app lr_wsX8_commands_r1 (goodIn_app lr_wsX8_commands_r2 (goodIn_app lr_wsX8_commands_r3 (goodIn_app lr_wsX8_commands_r4 (goodIn_app lr_wsX8_commands_r5 (goodIn_app lr_wsX8_commands_r6 lr_wsX8_commands_r7)))))) gi_wsX80) gf_wsL_law_x0)
set_option maxRecDepth 20000 in
theorem lr_114 : GoodIn lw_tbl [Cond.methodLink RL 212 yX8_commands, Cond.instanceMethod yX8_commands, Cond.selects RX8 yX8_commands yX8_commands, Cond.initialized RX8] := goodIn_r _ [1386, 1387, 1388, 68] (by decide +kernel) (by decide +kernel)
theorem la_212 : GoodIn lw_tbl (wsV RL 212 RX8 yX8_commands wsX8_commands) := goodIn_app lr_114 gw_wsX8_commands
set_option maxRecDepth 20000 in
theorem lr_115 : GoodIn lw_tbl [Cond.code yX7_faultPosition cX7_faultPosition 1 (some .int)] := goodIn_r _ [423] (by decide +kernel) (by decide +kernel)
set_option maxRecDepth 20000 in
theorem lr_116 : GoodIn lw_tbl [.fieldLink RX7 71 "KeyWaves" "fault" "I"] := goodIn_r _ [279] (by decide +kernel) (by decide +kernel)
theorem gw_wsX7_faultPosition : GoodIn lw_tbl wsX7_faultPosition := goodIn_app lr_115 (goodIn_app lr_116 gi_wsX70)
set_option maxRecDepth 20000 in
theorem lr_117 : GoodIn lw_tbl [Cond.methodLink RL 213 yX7_faultPosition, Cond.instanceMethod yX7_faultPosition, Cond.selects RX7 yX7_faultPosition yX7_faultPosition, Cond.initialized RX7] := goodIn_r _ [420, 421, 422, 60] (by decide +kernel) (by decide +kernel)
theorem la_213 : GoodIn lw_tbl (wsV RL 213 RX7 yX7_faultPosition wsX7_faultPosition) := goodIn_app lr_117 gw_wsX7_faultPosition
set_option maxRecDepth 20000 in
theorem lr_118 : GoodIn lw_tbl [Cond.code yX8_faultPosition cX8_faultPosition 1 (some .int)] := goodIn_r _ [1425] (by decide +kernel) (by decide +kernel)
set_option maxRecDepth 20000 in
theorem lr_119 : GoodIn lw_tbl [.fieldLink RX8 46 "KeyWavesModel" "code" "I", .fieldLink RX8 28 "KeyWavesModel" "fault0" "I"] := goodIn_r _ [1113, 1119] (by decide +kernel) (by decide +kernel)
theorem gw_wsX8_faultPosition : GoodIn lw_tbl wsX8_faultPosition := goodIn_app lr_118 (goodIn_app lr_119 gi_wsX80)
set_option maxRecDepth 20000 in
theorem lr_120 : GoodIn lw_tbl [Cond.methodLink RL 216 yX8_faultPosition, Cond.instanceMethod yX8_faultPosition, Cond.selects RX8 yX8_faultPosition yX8_faultPosition, Cond.initialized RX8] := goodIn_r _ [1422, 1423, 1424, 68] (by decide +kernel) (by decide +kernel)
theorem la_216 : GoodIn lw_tbl (wsV RL 216 RX8 yX8_faultPosition wsX8_faultPosition) := goodIn_app lr_120 gw_wsX8_faultPosition
set_option maxRecDepth 20000 in
theorem lr_121 : GoodIn lw_tbl [Cond.codeWith yL_reason cL_reason 4 (some .int) [(0, 9, 12, 44), (0, 9, 15, 62)]] := goodIn_r _ [1002] (by decide +kernel) (by decide +kernel)
set_option maxRecDepth 20000 in
theorem lr_122 : GoodIn lw_tbl [.classLink RL 44 "java/lang/IllegalArgumentException", .classLink RL 62 "java/util/NoSuchElementException", .methodLink RL 89 yX7_reason, .instanceMethod yX7_reason, .selects RX7 yX7_reason yX7_reason, .initialized RX7, .code yX7_reason cX7_reason 2 (some .int), .classLink RX7 135 "java/lang/IllegalArgumentException", .initialized "java/lang/IllegalArgumentException", .classLink RX7 172 "java/util/NoSuchElementException", .initialized "java/util/NoSuchElementException", .fieldLink RX7 49 "KeyWaves" "refusal" "LKeyWaves$Refusal;", .fieldLink RX7 261 "KeyWaves$Refusal" "reason" "I", .fieldLink RX7 266 "KeyWaves$Refusal" "detail" "I", .fieldLink RX7 269 "KeyWaves$Refusal" "index" "I"] := goodIn_r _ [708, 822, 1003, 1004, 1005, 60, 1006, 749, 78, 836, 80, 275, 209, 211, 212] (by decide +kernel) (by decide +kernel)
theorem gw_wnL_reason : GoodIn lw_tbl wnL_reason := goodIn_app lr_121 (goodIn_app (goodIn_app (goodIn_app (goodIn_app (goodIn_app lr_122 gi_wsX70) gi_wsX50) gf_wsL_law_x0) gf_wsL_law_x2) gf_nse_in)
set_option maxRecDepth 20000 in
theorem lr_123 : GoodIn lw_tbl [Cond.methodLink RL 217 yL_reason, Cond.static yL_reason, Cond.initialized RL] := goodIn_r _ [1000, 1001, 59] (by decide +kernel) (by decide +kernel)
theorem la_217 : GoodIn lw_tbl (va_wsS RL 217 yL_reason wnL_reason) := goodIn_app lr_123 gw_wnL_reason
set_option maxRecDepth 20000 in
theorem lr_124 : GoodIn lw_tbl [Cond.code yX8_reason cX8_reason 2 (some .int)] := goodIn_r _ [1429] (by decide +kernel) (by decide +kernel)
set_option maxRecDepth 20000 in
theorem lr_125 : GoodIn lw_tbl [.fieldLink RX8 49 "KeyWavesModel" "why" "I", .fieldLink RX8 52 "KeyWavesModel" "detail" "I", .fieldLink RX8 62 "KeyWavesModel" "index0" "I", .methodLink RX8 72 yX8_in, .static yX8_in, .initialized RX8, .code yX8_in cX8_in 3 (some .boolean), .methodLink RX8 138 yX8_fails, .instanceMethod yX8_fails, .selects RX8 yX8_fails yX8_fails, .code yX8_fails cX8_fails 2 (some .boolean), .fieldLink RX8 46 "KeyWavesModel" "code" "I"] := goodIn_r _ [1114, 1115, 1116, 1185, 1186, 68, 1187, 1290, 1292, 42, 1293, 1113] (by decide +kernel) (by decide +kernel)
theorem gw_wsX8_reason : GoodIn lw_tbl wsX8_reason := goodIn_app lr_124 (goodIn_app lr_125 gi_wsX80)
set_option maxRecDepth 20000 in
theorem lr_126 : GoodIn lw_tbl [Cond.methodLink RL 219 yX8_reason, Cond.instanceMethod yX8_reason, Cond.selects RX8 yX8_reason yX8_reason, Cond.initialized RX8] := goodIn_r _ [1426, 1427, 1428, 68] (by decide +kernel) (by decide +kernel)
theorem la_219 : GoodIn lw_tbl (wsV RL 219 RX8 yX8_reason wsX8_reason) := goodIn_app lr_126 gw_wsX8_reason
set_option maxRecDepth 20000 in
theorem lr_127 : GoodIn lw_tbl [Cond.code yX7_line cX7_line 2 (some .int)] := goodIn_r _ [427] (by decide +kernel) (by decide +kernel)
set_option maxRecDepth 20000 in
theorem lr_wsX7_line_r1 : GoodIn lw_tbl wsX7_line_r1 := goodIn_r _ [277, 268, 262, 428, 429, 430, 67, 431, 261, 432, 433, 434, 435, 112, 436, 437, 438, 61, 439, 102, 345, 346, 347, 348] (by decide +kernel) (by decide +kernel)
set_option maxRecDepth 20000 in
theorem lr_wsX7_line_r2 : GoodIn lw_tbl wsX7_line_r2 := goodIn_r _ [110, 440, 356, 357, 358, 103, 441, 443, 6, 444, 445, 447, 7, 448, 260, 449, 451, 8, 452, 453, 454, 455, 456, 108] (by decide +kernel) (by decide +kernel)
set_option maxRecDepth 20000 in
theorem lr_wsX7_line_r3 : GoodIn lw_tbl wsX7_line_r3 := goodIn_r _ [457, 458, 459, 460, 97, 332, 325, 326, 327, 105, 461, 329, 330, 331, 101] (by decide +kernel) (by decide +kernel)
theorem gw_wsX7_line : GoodIn lw_tbl wsX7_line := goodIn_app lr_127 (goodIn_app (goodIn_app (goodIn_app (goodIn_app (goodIn_app lr_wsX7_line_r1 (goodIn_app lr_wsX7_line_r2 lr_wsX7_line_r3)) gi_wsX70) gi_wsX20) gi_wsX30) gf_wsL_law_x0)
set_option maxRecDepth 20000 in
theorem lr_128 : GoodIn lw_tbl [Cond.methodLink RL 220 yX7_line, Cond.instanceMethod yX7_line, Cond.selects RX7 yX7_line yX7_line, Cond.initialized RX7] := goodIn_r _ [424, 425, 426, 60] (by decide +kernel) (by decide +kernel)
theorem la_220 : GoodIn lw_tbl (wsV RL 220 RX7 yX7_line wsX7_line) := goodIn_app lr_128 gw_wsX7_line
set_option maxRecDepth 20000 in
theorem lr_129 : GoodIn lw_tbl [Cond.code yX8_line cX8_line 4 (some .int)] := goodIn_r _ [1433] (by decide +kernel) (by decide +kernel)
set_option maxRecDepth 20000 in
theorem lr_130 : GoodIn lw_tbl [.fieldLink RX8 46 "KeyWavesModel" "code" "I", .fieldLink RX8 214 "KeyWavesModel" "signMany" "I", .fieldLink RX8 7 "KeyWavesModel" "g" "[I", .methodLink RX8 217 yX8_writes, .instanceMethod yX8_writes, .selects RX8 yX8_writes yX8_writes, .initialized RX8, .code yX8_writes cX8_writes 2 none, .fieldLink RX8 32 "KeyWavesModel" "signs" "[C", .methodLink RX8 221 yX8_writesNumber, .instanceMethod yX8_writesNumber, .selects RX8 yX8_writesNumber yX8_writesNumber, .code yX8_writesNumber cX8_writesNumber 2 none, .methodLink RX8 76 yX8_ofLock, .instanceMethod yX8_ofLock, .selects RX8 yX8_ofLock yX8_ofLock, .code yX8_ofLock cX8_ofLock 3 (some .int), .methodLink RX8 80 yX8_ofKey, .instanceMethod yX8_ofKey, .selects RX8 yX8_ofKey yX8_ofKey, .code yX8_ofKey cX8_ofKey 3 (some .int)] := goodIn_r _ [1113, 1121, 1104, 1434, 1436, 56, 68, 1437, 1120, 1438, 1440, 57, 1441, 1230, 1232, 33, 1233, 1211, 1213, 29, 1214] (by decide +kernel) (by decide +kernel)
theorem gw_wsX8_line : GoodIn lw_tbl wsX8_line := goodIn_app lr_129 (goodIn_app (goodIn_app lr_130 gi_wsX80) gf_wsL_law_x0)
set_option maxRecDepth 20000 in
theorem lr_131 : GoodIn lw_tbl [Cond.methodLink RL 223 yX8_line, Cond.instanceMethod yX8_line, Cond.selects RX8 yX8_line yX8_line, Cond.initialized RX8] := goodIn_r _ [1430, 1431, 1432, 68] (by decide +kernel) (by decide +kernel)
theorem la_223 : GoodIn lw_tbl (wsV RL 223 RX8 yX8_line wsX8_line) := goodIn_app lr_131 gw_wsX8_line
set_option maxRecDepth 20000 in
theorem lr_132 : GoodIn lw_tbl [Cond.codeWith yL_character cL_character 4 (some .int) [(0, 9, 12, 42)]] := goodIn_r _ [1010] (by decide +kernel) (by decide +kernel)
set_option maxRecDepth 20000 in
theorem lr_133 : GoodIn lw_tbl [.classLink RL 42 "java/lang/IndexOutOfBoundsException", .methodLink RL 92 yX7_character, .instanceMethod yX7_character, .selects RX7 yX7_character yX7_character, .initialized RX7, .code yX7_character cX7_character 2 (some .char), .classLink RX7 283 "java/lang/IndexOutOfBoundsException", .initialized "java/lang/IndexOutOfBoundsException", .fieldLink RX7 63 "KeyWaves" "line" "LKeyWaves$Line;", .methodLink RX7 280 yX2_has, .instanceMethod yX2_has, .selects RX2 yX2_has yX2_has, .initialized RX2, .code yX2_has cX2_has 2 (some .boolean), .fieldLink RX2 15 "KeyWaves$Line" "length" "I", .methodLink RX7 288 yX2_signAt, .instanceMethod yX2_signAt, .selects RX2 yX2_signAt yX2_signAt, .code yX2_signAt cX2_signAt 2 (some .char), .fieldLink RX2 9 "KeyWaves$Line" "signs" "[C", .methodLink RX2 19 yX2_has] := goodIn_r _ [684, 1011, 1012, 1013, 60, 1014, 718, 75, 277, 1015, 1016, 1017, 67, 1018, 261, 1020, 1021, 1022, 1023, 260, 1024] (by decide +kernel) (by decide +kernel)
theorem gw_wsL_character : GoodIn lw_tbl wsL_character := goodIn_app lr_132 (goodIn_app (goodIn_app (goodIn_app (goodIn_app lr_133 gi_wsX70) gi_wsX20) gf_wsL_law_x0) gf_wsL_law_x3)
set_option maxRecDepth 20000 in
theorem lr_134 : GoodIn lw_tbl [Cond.methodLink RL 224 yL_character, Cond.static yL_character, Cond.initialized RL] := goodIn_r _ [1008, 1009, 59] (by decide +kernel) (by decide +kernel)
theorem la_224 : GoodIn lw_tbl (va_wsS RL 224 yL_character wsL_character) := goodIn_app lr_134 gw_wsL_character
set_option maxRecDepth 20000 in
theorem lr_135 : GoodIn lw_tbl [Cond.code yX8_character cX8_character 2 (some .char)] := goodIn_r _ [1445] (by decide +kernel) (by decide +kernel)
set_option maxRecDepth 20000 in
theorem lr_136 : GoodIn lw_tbl [.fieldLink RX8 214 "KeyWavesModel" "signMany" "I", .fieldLink RX8 32 "KeyWavesModel" "signs" "[C", .methodLink RX8 72 yX8_in, .static yX8_in, .initialized RX8, .code yX8_in cX8_in 3 (some .boolean), .methodLink RX8 138 yX8_fails, .instanceMethod yX8_fails, .selects RX8 yX8_fails yX8_fails, .code yX8_fails cX8_fails 2 (some .boolean), .fieldLink RX8 46 "KeyWavesModel" "code" "I"] := goodIn_r _ [1121, 1120, 1185, 1186, 68, 1187, 1290, 1292, 42, 1293, 1113] (by decide +kernel) (by decide +kernel)
theorem gw_wsX8_character : GoodIn lw_tbl wsX8_character := goodIn_app lr_135 (goodIn_app (goodIn_app lr_136 gi_wsX80) gf_wsL_law_x0)
set_option maxRecDepth 20000 in
theorem lr_137 : GoodIn lw_tbl [Cond.methodLink RL 226 yX8_character, Cond.instanceMethod yX8_character, Cond.selects RX8 yX8_character yX8_character, Cond.initialized RX8] := goodIn_r _ [1442, 1443, 1444, 68] (by decide +kernel) (by decide +kernel)
theorem la_226 : GoodIn lw_tbl (wsV RL 226 RX8 yX8_character wsX8_character) := goodIn_app lr_137 gw_wsX8_character
set_option maxRecDepth 20000 in
theorem lr_138 : GoodIn lw_tbl [Cond.codeWith yL_meanFits cL_meanFits 3 (some .int) [(0, 7, 10, 100)]] := goodIn_r _ [1027] (by decide +kernel) (by decide +kernel)
set_option maxRecDepth 20000 in
theorem lr_wsL_meanFits_r1 : GoodIn lw_tbl wsL_meanFits_r1 := goodIn_r _ [1028, 1042, 1043, 1044, 60, 1045, 1046, 82, 268, 109, 1049, 1050, 1051, 61, 1052, 105, 921, 742, 743, 744, 110, 604, 342, 343] (by decide +kernel) (by decide +kernel)
set_option maxRecDepth 20000 in
theorem lr_wsL_meanFits_r2 : GoodIn lw_tbl wsL_meanFits_r2 := goodIn_r _ [344, 102, 97, 115, 99, 332, 325, 326, 327, 345, 346, 347, 348, 349, 350, 74, 351, 352, 353, 354] (by decide +kernel) (by decide +kernel)
theorem gf_wsL_law_x6 : GoodIn lw_tbl ((vx_atS RX7 299 "java/lang/ArithmeticException" ["java/lang/RuntimeException", "java/lang/Exception"]).filter goodWord) := goodIn_sub wsL_law_x6 (by decide +kernel)
theorem gw_wsL_meanFits : GoodIn lw_tbl wsL_meanFits := goodIn_app lr_138 (goodIn_app (goodIn_app (goodIn_app (goodIn_app (goodIn_app lr_wsL_meanFits_r1 lr_wsL_meanFits_r2) gi_wsX70) gi_wsX30) gf_wsL_law_x0) gf_wsL_law_x6)
set_option maxRecDepth 20000 in
theorem lr_139 : GoodIn lw_tbl [Cond.methodLink RL 227 yL_meanFits, Cond.static yL_meanFits, Cond.initialized RL] := goodIn_r _ [1025, 1026, 59] (by decide +kernel) (by decide +kernel)
theorem la_227 : GoodIn lw_tbl (va_wsS RL 227 yL_meanFits wsL_meanFits) := goodIn_app lr_139 gw_wsL_meanFits
set_option maxRecDepth 20000 in
theorem lr_140 : GoodIn lw_tbl [Cond.code yX8_meanFits cX8_meanFits 1 (some .double)] := goodIn_r _ [1449] (by decide +kernel) (by decide +kernel)
set_option maxRecDepth 20000 in
theorem lr_wsX8_meanFits_r1 : GoodIn lw_tbl wsX8_meanFits_r1 := goodIn_r _ [1104, 1290, 1292, 42, 68, 1293, 1113, 1450, 1452, 58, 1453, 1298, 1300, 44, 1301, 1222, 1224, 31, 1225, 1226, 1228, 32, 1229, 1230] (by decide +kernel) (by decide +kernel)
