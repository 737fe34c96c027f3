set_option maxRecDepth 20000 in
theorem lr_wsX8_meanFits_r2 : GoodIn lw_tbl wsX8_meanFits_r2 := goodIn_r _ [1232, 33, 1233, 1211, 1213, 29, 1214, 1215, 1216, 1217] (by decide +kernel) (by decide +kernel)
theorem gw_wsX8_meanFits : GoodIn lw_tbl wsX8_meanFits := goodIn_app lr_140 (goodIn_app (goodIn_app (goodIn_app lr_wsX8_meanFits_r1 lr_wsX8_meanFits_r2) gi_wsX80) gf_wsL_law_x0)
set_option maxRecDepth 20000 in
theorem lr_141 : GoodIn lw_tbl [Cond.methodLink RL 230 yX8_meanFits, Cond.instanceMethod yX8_meanFits, Cond.selects RX8 yX8_meanFits yX8_meanFits, Cond.initialized RX8] := goodIn_r _ [1446, 1447, 1448, 68] (by decide +kernel) (by decide +kernel)
theorem la_230 : GoodIn lw_tbl (wsV RL 230 RX8 yX8_meanFits wsX8_meanFits) := goodIn_app lr_141 gw_wsX8_meanFits
set_option maxRecDepth 20000 in
theorem lr_142 : GoodIn lw_tbl [Cond.codeWith yL_openShare cL_openShare 3 (some .int) [(0, 8, 11, 100)]] := goodIn_r _ [1055] (by decide +kernel) (by decide +kernel)
set_option maxRecDepth 20000 in
theorem lr_wsL_openShare_r1 : GoodIn lw_tbl wsL_openShare_r1 := goodIn_r _ [1028, 1056, 1057, 1058, 60, 1059, 1046, 82, 268, 114, 383, 384, 385, 61, 386, 110, 387, 356, 357, 358, 103, 345, 346, 347] (by decide +kernel) (by decide +kernel)
set_option maxRecDepth 20000 in
theorem lr_wsL_openShare_r2 : GoodIn lw_tbl wsL_openShare_r2 := goodIn_r _ [348] (by decide +kernel) (by decide +kernel)
theorem gw_wsL_openShare : GoodIn lw_tbl wsL_openShare := goodIn_app lr_142 (goodIn_app (goodIn_app (goodIn_app (goodIn_app (goodIn_app lr_wsL_openShare_r1 lr_wsL_openShare_r2) gi_wsX70) gi_wsX30) gf_wsL_law_x0) gf_wsL_law_x6)
set_option maxRecDepth 20000 in
theorem lr_143 : GoodIn lw_tbl [Cond.methodLink RL 231 yL_openShare, Cond.static yL_openShare, Cond.initialized RL] := goodIn_r _ [1053, 1054, 59] (by decide +kernel) (by decide +kernel)
theorem la_231 : GoodIn lw_tbl (va_wsS RL 231 yL_openShare wsL_openShare) := goodIn_app lr_143 gw_wsL_openShare
set_option maxRecDepth 20000 in
theorem lr_144 : GoodIn lw_tbl [Cond.code yX8_openShare cX8_openShare 1 (some .float)] := goodIn_r _ [1457] (by decide +kernel) (by decide +kernel)
set_option maxRecDepth 20000 in
theorem lr_145 : GoodIn lw_tbl [.fieldLink RX8 7 "KeyWavesModel" "g" "[I", .methodLink RX8 138 yX8_fails, .instanceMethod yX8_fails, .selects RX8 yX8_fails yX8_fails, .initialized RX8, .code yX8_fails cX8_fails 2 (some .boolean), .fieldLink RX8 46 "KeyWavesModel" "code" "I", .methodLink RX8 122 yX8_openMany, .instanceMethod yX8_openMany, .selects RX8 yX8_openMany yX8_openMany, .code yX8_openMany cX8_openMany 3 (some .int), .methodLink RX8 76 yX8_ofLock, .instanceMethod yX8_ofLock, .selects RX8 yX8_ofLock yX8_ofLock, .code yX8_ofLock cX8_ofLock 3 (some .int)] := goodIn_r _ [1104, 1290, 1292, 42, 68, 1293, 1113, 1262, 1264, 38, 1265, 1230, 1232, 33, 1233] (by decide +kernel) (by decide +kernel)
theorem gw_wsX8_openShare : GoodIn lw_tbl wsX8_openShare := goodIn_app lr_144 (goodIn_app (goodIn_app lr_145 gi_wsX80) gf_wsL_law_x0)
set_option maxRecDepth 20000 in
theorem lr_146 : GoodIn lw_tbl [Cond.methodLink RL 233 yX8_openShare, Cond.instanceMethod yX8_openShare, Cond.selects RX8 yX8_openShare yX8_openShare, Cond.initialized RX8] := goodIn_r _ [1454, 1455, 1456, 68] (by decide +kernel) (by decide +kernel)
theorem la_233 : GoodIn lw_tbl (wsV RL 233 RX8 yX8_openShare wsX8_openShare) := goodIn_app lr_146 gw_wsX8_openShare
set_option maxRecDepth 20000 in
theorem lr_147 : GoodIn lw_tbl [Cond.codeWith yL_account cL_account 4 (some .int) [(0, 9, 12, 44)]] := goodIn_r _ [1063] (by decide +kernel) (by decide +kernel)
set_option maxRecDepth 20000 in
theorem lr_wsL_account_r1 : GoodIn lw_tbl wsL_account_r1 := goodIn_r _ [708, 1064, 1065, 1066, 60, 1067, 749, 78, 268, 109, 114, 116, 119, 122, 124, 272, 166, 276, 228, 383, 384, 385, 61, 386] (by decide +kernel) (by decide +kernel)
set_option maxRecDepth 20000 in
theorem lr_wsL_account_r2 : GoodIn lw_tbl wsL_account_r2 := goodIn_r _ [110, 387, 356, 357, 358, 103, 345, 346, 347, 348, 1049, 1050, 1051, 1052, 105, 921, 742, 743, 744, 604, 342, 343, 344, 102] (by decide +kernel) (by decide +kernel)
set_option maxRecDepth 20000 in
theorem lr_wsL_account_r3 : GoodIn lw_tbl wsL_account_r3 := goodIn_r _ [97, 115, 99, 332, 325, 326, 327, 349, 350, 74, 351, 352, 353, 354, 1068, 625, 626, 627, 620, 621, 622, 623, 1069, 1070] (by decide +kernel) (by decide +kernel)
set_option maxRecDepth 20000 in
theorem lr_wsL_account_r4 : GoodIn lw_tbl wsL_account_r4 := goodIn_r _ [1071, 1072, 900, 746, 747, 748, 100] (by decide +kernel) (by decide +kernel)
theorem gw_wsL_account : GoodIn lw_tbl wsL_account := goodIn_app lr_147 (goodIn_app (goodIn_app (goodIn_app (goodIn_app (goodIn_app (goodIn_app (goodIn_app lr_wsL_account_r1 (goodIn_app lr_wsL_account_r2 (goodIn_app lr_wsL_account_r3 lr_wsL_account_r4))) gi_wsX70) gi_wsX30) gi_wsX10) gi_wsX00) gf_wsL_law_x0) gf_wsL_law_x2)
set_option maxRecDepth 20000 in
theorem lr_148 : GoodIn lw_tbl [Cond.methodLink RL 234 yL_account, Cond.static yL_account, Cond.initialized RL] := goodIn_r _ [1061, 1062, 59] (by decide +kernel) (by decide +kernel)
theorem la_234 : GoodIn lw_tbl (va_wsS RL 234 yL_account wsL_account) := goodIn_app lr_148 gw_wsL_account
set_option maxRecDepth 20000 in
theorem lr_149 : GoodIn lw_tbl [Cond.code yX8_account cX8_account 2 (some .int)] := goodIn_r _ [1461] (by decide +kernel) (by decide +kernel)
set_option maxRecDepth 20000 in
theorem lr_wsX8_account_r1 : GoodIn lw_tbl wsX8_account_r1 := goodIn_r _ [1104, 1110, 1118, 1185, 1186, 68, 1187, 1290, 1292, 42, 1293, 1113, 1262, 1264, 38, 1265, 1230, 1232, 33, 1233, 1450, 1452, 58, 1453] (by decide +kernel) (by decide +kernel)
set_option maxRecDepth 20000 in
theorem lr_wsX8_account_r2 : GoodIn lw_tbl wsX8_account_r2 := goodIn_r _ [1298, 1300, 44, 1301, 1222, 1224, 31, 1225, 1226, 1228, 32, 1229, 1211, 1213, 29, 1214, 1215, 1216, 1217, 1246, 1248, 36, 1249] (by decide +kernel) (by decide +kernel)
theorem gw_wsX8_account : GoodIn lw_tbl wsX8_account := goodIn_app lr_149 (goodIn_app (goodIn_app (goodIn_app lr_wsX8_account_r1 lr_wsX8_account_r2) gi_wsX80) gf_wsL_law_x0)
set_option maxRecDepth 20000 in
theorem lr_150 : GoodIn lw_tbl [Cond.methodLink RL 236 yX8_account, Cond.instanceMethod yX8_account, Cond.selects RX8 yX8_account yX8_account, Cond.initialized RX8] := goodIn_r _ [1458, 1459, 1460, 68] (by decide +kernel) (by decide +kernel)
theorem la_236 : GoodIn lw_tbl (wsV RL 236 RX8 yX8_account wsX8_account) := goodIn_app lr_150 gw_wsX8_account
set_option maxRecDepth 20000 in
theorem lr_151 : GoodIn lw_tbl [Cond.codeWith yL_undo cL_undo 3 (some .int) [(0, 8, 11, 84)]] := goodIn_r _ [1076] (by decide +kernel) (by decide +kernel)
set_option maxRecDepth 20000 in
theorem lr_wsL_undo_r1 : GoodIn lw_tbl wsL_undo_r1 := goodIn_r _ [925, 1077, 1078, 1079, 60, 1080, 934, 81, 272, 268, 166, 1081, 1082, 1083, 62, 1084, 165, 572, 574, 12, 575, 164, 576, 310] (by decide +kernel) (by decide +kernel)
set_option maxRecDepth 20000 in
theorem lr_wsL_undo_r2 : GoodIn lw_tbl wsL_undo_r2 := goodIn_r _ [311, 61, 312, 97, 313, 315, 314, 69, 98, 99, 100, 101, 102, 103, 104, 105, 110, 115, 117, 120, 123] (by decide +kernel) (by decide +kernel)
theorem gw_wsL_undo : GoodIn lw_tbl wsL_undo := goodIn_app lr_151 (goodIn_app (goodIn_app (goodIn_app (goodIn_app (goodIn_app (goodIn_app lr_wsL_undo_r1 lr_wsL_undo_r2) gi_wsX70) gi_wsX10) gi_wsX30) gf_wsL_law_x0) gf_wsL_law_x5)
set_option maxRecDepth 20000 in
theorem lr_152 : GoodIn lw_tbl [Cond.methodLink RL 237 yL_undo, Cond.static yL_undo, Cond.initialized RL] := goodIn_r _ [1074, 1075, 59] (by decide +kernel) (by decide +kernel)
theorem la_237 : GoodIn lw_tbl (va_wsS RL 237 yL_undo wsL_undo) := goodIn_app lr_152 gw_wsL_undo
set_option maxRecDepth 20000 in
theorem lr_153 : GoodIn lw_tbl [Cond.code yX8_undo cX8_undo 1 (some .int)] := goodIn_r _ [1465] (by decide +kernel) (by decide +kernel)
set_option maxRecDepth 20000 in
theorem lr_154 : GoodIn lw_tbl [.fieldLink RX8 65 "KeyWavesModel" "changes" "I", .fieldLink RX8 13 "KeyWavesModel" "kept" "[I", .fieldLink RX8 7 "KeyWavesModel" "g" "[I", .methodLink RX8 138 yX8_fails, .instanceMethod yX8_fails, .selects RX8 yX8_fails yX8_fails, .initialized RX8, .code yX8_fails cX8_fails 2 (some .boolean), .fieldLink RX8 46 "KeyWavesModel" "code" "I", .methodLink RX8 68 yX8_copies, .static yX8_copies, .code yX8_copies cX8_copies 5 none] := goodIn_r _ [1110, 1105, 1104, 1290, 1292, 42, 68, 1293, 1113, 1196, 1197, 1198] (by decide +kernel) (by decide +kernel)
theorem gw_wsX8_undo : GoodIn lw_tbl wsX8_undo := goodIn_app lr_153 (goodIn_app (goodIn_app lr_154 gi_wsX80) gf_wsL_law_x0)
set_option maxRecDepth 20000 in
theorem lr_155 : GoodIn lw_tbl [Cond.methodLink RL 239 yX8_undo, Cond.instanceMethod yX8_undo, Cond.selects RX8 yX8_undo yX8_undo, Cond.initialized RX8] := goodIn_r _ [1462, 1463, 1464, 68] (by decide +kernel) (by decide +kernel)
theorem la_239 : GoodIn lw_tbl (wsV RL 239 RX8 yX8_undo wsX8_undo) := goodIn_app lr_155 gw_wsX8_undo
set_option maxRecDepth 20000 in
theorem lr_156 : GoodIn lw_tbl [Cond.code yX7_save cX7_save 1 (some .int)] := goodIn_r _ [465] (by decide +kernel) (by decide +kernel)
set_option maxRecDepth 20000 in
theorem lr_wsX7_save_r1 : GoodIn lw_tbl wsX7_save_r1 := goodIn_r _ [270, 268, 278, 309, 310, 311, 61, 312, 97, 313, 315, 314, 69, 98, 99, 100, 101, 102, 103, 104, 105, 110, 115, 117] (by decide +kernel) (by decide +kernel)
set_option maxRecDepth 20000 in
theorem lr_wsX7_save_r2 : GoodIn lw_tbl wsX7_save_r2 := goodIn_r _ [120, 123, 383, 384, 385, 386, 387, 356, 357, 358, 345, 346, 347, 348] (by decide +kernel) (by decide +kernel)
theorem gw_wsX7_save : GoodIn lw_tbl wsX7_save := goodIn_app lr_156 (goodIn_app (goodIn_app (goodIn_app (goodIn_app lr_wsX7_save_r1 lr_wsX7_save_r2) gi_wsX70) gi_wsX30) gf_wsL_law_x0)
set_option maxRecDepth 20000 in
theorem lr_157 : GoodIn lw_tbl [Cond.methodLink RL 240 yX7_save, Cond.instanceMethod yX7_save, Cond.selects RX7 yX7_save yX7_save, Cond.initialized RX7] := goodIn_r _ [462, 463, 464, 60] (by decide +kernel) (by decide +kernel)
theorem la_240 : GoodIn lw_tbl (wsV RL 240 RX7 yX7_save wsX7_save) := goodIn_app lr_157 gw_wsX7_save
set_option maxRecDepth 20000 in
theorem lr_158 : GoodIn lw_tbl [Cond.code yX8_save cX8_save 1 (some .int)] := goodIn_r _ [1469] (by decide +kernel) (by decide +kernel)
set_option maxRecDepth 20000 in
theorem lr_159 : GoodIn lw_tbl [.fieldLink RX8 46 "KeyWavesModel" "code" "I", .fieldLink RX8 227 "KeyWavesModel" "isSaved" "Z", .fieldLink RX8 7 "KeyWavesModel" "g" "[I", .fieldLink RX8 16 "KeyWavesModel" "saved" "[I", .methodLink RX8 68 yX8_copies, .static yX8_copies, .initialized RX8, .code yX8_copies cX8_copies 5 none, .methodLink RX8 122 yX8_openMany, .instanceMethod yX8_openMany, .selects RX8 yX8_openMany yX8_openMany, .code yX8_openMany cX8_openMany 3 (some .int), .methodLink RX8 76 yX8_ofLock, .instanceMethod yX8_ofLock, .selects RX8 yX8_ofLock yX8_ofLock, .code yX8_ofLock cX8_ofLock 3 (some .int)] := goodIn_r _ [1113, 1109, 1104, 1106, 1196, 1197, 68, 1198, 1262, 1264, 38, 1265, 1230, 1232, 33, 1233] (by decide +kernel) (by decide +kernel)
theorem gw_wsX8_save : GoodIn lw_tbl wsX8_save := goodIn_app lr_158 (goodIn_app (goodIn_app lr_159 gi_wsX80) gf_wsL_law_x0)
set_option maxRecDepth 20000 in
theorem lr_160 : GoodIn lw_tbl [Cond.methodLink RL 243 yX8_save, Cond.instanceMethod yX8_save, Cond.selects RX8 yX8_save yX8_save, Cond.initialized RX8] := goodIn_r _ [1466, 1467, 1468, 68] (by decide +kernel) (by decide +kernel)
theorem la_243 : GoodIn lw_tbl (wsV RL 243 RX8 yX8_save wsX8_save) := goodIn_app lr_160 gw_wsX8_save
set_option maxRecDepth 20000 in
theorem lr_161 : GoodIn lw_tbl [Cond.codeWith yL_restore cL_restore 3 (some .int) [(0, 8, 11, 84)]] := goodIn_r _ [1088] (by decide +kernel) (by decide +kernel)
set_option maxRecDepth 20000 in
theorem lr_wsL_restore_r1 : GoodIn lw_tbl wsL_restore_r1 := goodIn_r _ [925, 1089, 1090, 1091, 60, 1092, 934, 81, 278, 268, 270, 272, 309, 310, 311, 61, 312, 97, 313, 315, 314, 69, 98, 99] (by decide +kernel) (by decide +kernel)
set_option maxRecDepth 20000 in
theorem lr_wsL_restore_r2 : GoodIn lw_tbl wsL_restore_r2 := goodIn_r _ [100, 101, 102, 103, 104, 105, 110, 115, 117, 120, 123, 1094, 1095, 1096, 62, 1097, 165, 383, 384, 385, 386, 387, 356, 357] (by decide +kernel) (by decide +kernel)
set_option maxRecDepth 20000 in
theorem lr_wsL_restore_r3 : GoodIn lw_tbl wsL_restore_r3 := goodIn_r _ [358, 345, 346, 347, 348] (by decide +kernel) (by decide +kernel)
theorem gw_wsL_restore : GoodIn lw_tbl wsL_restore := goodIn_app lr_161 (goodIn_app (goodIn_app (goodIn_app (goodIn_app (goodIn_app (goodIn_app lr_wsL_restore_r1 (goodIn_app lr_wsL_restore_r2 lr_wsL_restore_r3)) gi_wsX70) gi_wsX30) gi_wsX10) gf_wsL_law_x0) gf_wsL_law_x5)
set_option maxRecDepth 20000 in
theorem lr_162 : GoodIn lw_tbl [Cond.methodLink RL 244 yL_restore, Cond.static yL_restore, Cond.initialized RL] := goodIn_r _ [1086, 1087, 59] (by decide +kernel) (by decide +kernel)
theorem la_244 : GoodIn lw_tbl (va_wsS RL 244 yL_restore wsL_restore) := goodIn_app lr_162 gw_wsL_restore
set_option maxRecDepth 20000 in
theorem lr_163 : GoodIn lw_tbl [Cond.code yX8_restore cX8_restore 1 (some .int)] := goodIn_r _ [1473] (by decide +kernel) (by decide +kernel)
set_option maxRecDepth 20000 in
theorem lr_164 : GoodIn lw_tbl [.fieldLink RX8 227 "KeyWavesModel" "isSaved" "Z", .fieldLink RX8 16 "KeyWavesModel" "saved" "[I", .fieldLink RX8 7 "KeyWavesModel" "g" "[I", .fieldLink RX8 65 "KeyWavesModel" "changes" "I", .methodLink RX8 138 yX8_fails, .instanceMethod yX8_fails, .selects RX8 yX8_fails yX8_fails, .initialized RX8, .code yX8_fails cX8_fails 2 (some .boolean), .fieldLink RX8 46 "KeyWavesModel" "code" "I", .methodLink RX8 68 yX8_copies, .static yX8_copies, .code yX8_copies cX8_copies 5 none, .methodLink RX8 122 yX8_openMany, .instanceMethod yX8_openMany, .selects RX8 yX8_openMany yX8_openMany, .code yX8_openMany cX8_openMany 3 (some .int), .methodLink RX8 76 yX8_ofLock, .instanceMethod yX8_ofLock, .selects RX8 yX8_ofLock yX8_ofLock, .code yX8_ofLock cX8_ofLock 3 (some .int)] := goodIn_r _ [1109, 1106, 1104, 1110, 1290, 1292, 42, 68, 1293, 1113, 1196, 1197, 1198, 1262, 1264, 38, 1265, 1230, 1232, 33, 1233] (by decide +kernel) (by decide +kernel)
theorem gw_wsX8_restore : GoodIn lw_tbl wsX8_restore := goodIn_app lr_163 (goodIn_app (goodIn_app lr_164 gi_wsX80) gf_wsL_law_x0)
set_option maxRecDepth 20000 in
theorem lr_165 : GoodIn lw_tbl [Cond.methodLink RL 246 yX8_restore, Cond.instanceMethod yX8_restore, Cond.selects RX8 yX8_restore yX8_restore, Cond.initialized RX8] := goodIn_r _ [1470, 1471, 1472, 68] (by decide +kernel) (by decide +kernel)
theorem la_246 : GoodIn lw_tbl (wsV RL 246 RX8 yX8_restore wsX8_restore) := goodIn_app lr_165 gw_wsX8_restore
