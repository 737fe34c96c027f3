set_option maxRecDepth 20000 in
theorem lr_wsX7_most_r4 : GoodIn lw_tbl wsX7_most_r4 := goodIn_r _ [350, 74, 351, 352, 353, 354, 355, 356, 357, 358, 359, 360, 361, 362, 364, 3, 365, 366, 367, 368, 369, 383, 384, 385] (by decide +kernel) (by decide +kernel)
set_option maxRecDepth 20000 in
theorem lr_wsX7_most_r5 : GoodIn lw_tbl wsX7_most_r5 := goodIn_r _ [386, 387] (by decide +kernel) (by decide +kernel)
theorem gw_wsX7_most : GoodIn lw_tbl wsX7_most := goodIn_app lr_76 (goodIn_app (goodIn_app (goodIn_app (goodIn_app (goodIn_app lr_wsX7_most_r1 (goodIn_app lr_wsX7_most_r2 (goodIn_app lr_wsX7_most_r3 (goodIn_app lr_wsX7_most_r4 lr_wsX7_most_r5)))) gi_wsX70) gi_wsX30) gi_wsX60) gf_wsL_law_x0)
set_option maxRecDepth 20000 in
theorem lr_77 : GoodIn lw_tbl [Cond.methodLink RL 181 yX7_most, Cond.instanceMethod yX7_most, Cond.selects RX7 yX7_most yX7_most, Cond.initialized RX7] := goodIn_r _ [379, 380, 381, 60] (by decide +kernel) (by decide +kernel)
theorem la_181 : GoodIn lw_tbl (wsV RL 181 RX7 yX7_most wsX7_most) := goodIn_app lr_77 gw_wsX7_most
set_option maxRecDepth 20000 in
theorem lr_78 : GoodIn lw_tbl [Cond.code yX8_most cX8_most 1 (some .int)] := goodIn_r _ [1349] (by decide +kernel) (by decide +kernel)
set_option maxRecDepth 20000 in
theorem lr_wsX8_most_r1 : GoodIn lw_tbl wsX8_most_r1 := goodIn_r _ [1113, 1350, 1352, 48, 68, 1353, 1104, 1108, 1196, 1197, 1198, 1211, 1213, 29, 1214, 1234, 1236, 34, 1237, 1342, 1344, 47, 1345, 1278] (by decide +kernel) (by decide +kernel)
set_option maxRecDepth 20000 in
theorem lr_wsX8_most_r2 : GoodIn lw_tbl wsX8_most_r2 := goodIn_r _ [1280, 40, 1281, 1123, 1122, 1274, 1276, 39, 1277, 1124, 1222, 1224, 31, 1225, 1226, 1228, 32, 1229, 1230, 1232, 33, 1233, 1215, 1216] (by decide +kernel) (by decide +kernel)
set_option maxRecDepth 20000 in
theorem lr_wsX8_most_r3 : GoodIn lw_tbl wsX8_most_r3 := goodIn_r _ [1217, 1282, 1284, 41, 1285, 1258, 1260, 37, 1261, 1262, 1264, 38, 1265] (by decide +kernel) (by decide +kernel)
theorem gw_wsX8_most : GoodIn lw_tbl wsX8_most := goodIn_app lr_78 (goodIn_app (goodIn_app (goodIn_app lr_wsX8_most_r1 (goodIn_app lr_wsX8_most_r2 lr_wsX8_most_r3)) gi_wsX80) gf_wsL_law_x0)
set_option maxRecDepth 20000 in
theorem lr_79 : GoodIn lw_tbl [Cond.methodLink RL 184 yX8_most, Cond.instanceMethod yX8_most, Cond.selects RX8 yX8_most yX8_most, Cond.initialized RX8] := goodIn_r _ [1346, 1347, 1348, 68] (by decide +kernel) (by decide +kernel)
theorem la_184 : GoodIn lw_tbl (wsV RL 184 RX8 yX8_most wsX8_most) := goodIn_app lr_79 gw_wsX8_most
set_option maxRecDepth 20000 in
theorem lr_80 : GoodIn lw_tbl [Cond.code yX7_mostAgain cX7_mostAgain 1 (some .int)] := goodIn_r _ [391] (by decide +kernel) (by decide +kernel)
set_option maxRecDepth 20000 in
theorem lr_wsX7_mostAgain_r1 : GoodIn lw_tbl wsX7_mostAgain_r1 := goodIn_r _ [274, 268, 392, 393, 394, 64, 395, 195, 106, 396, 398, 4, 399, 196, 400, 401, 402, 111, 403, 342, 343, 61, 344, 102] (by decide +kernel) (by decide +kernel)
set_option maxRecDepth 20000 in
theorem lr_wsX7_mostAgain_r2 : GoodIn lw_tbl wsX7_mostAgain_r2 := goodIn_r _ [97, 115, 99, 332, 325, 326, 327, 105, 345, 346, 347, 348, 110, 349, 350, 74, 351, 352, 353, 354] (by decide +kernel) (by decide +kernel)
theorem gw_wsX7_mostAgain : GoodIn lw_tbl wsX7_mostAgain := goodIn_app lr_80 (goodIn_app (goodIn_app (goodIn_app (goodIn_app (goodIn_app lr_wsX7_mostAgain_r1 lr_wsX7_mostAgain_r2) gi_wsX70) gi_wsX40) gi_wsX30) gf_wsL_law_x0)
set_option maxRecDepth 20000 in
theorem lr_81 : GoodIn lw_tbl [Cond.methodLink RL 185 yX7_mostAgain, Cond.instanceMethod yX7_mostAgain, Cond.selects RX7 yX7_mostAgain yX7_mostAgain, Cond.initialized RX7] := goodIn_r _ [388, 389, 390, 60] (by decide +kernel) (by decide +kernel)
theorem la_185 : GoodIn lw_tbl (wsV RL 185 RX7 yX7_mostAgain wsX7_mostAgain) := goodIn_app lr_81 gw_wsX7_mostAgain
set_option maxRecDepth 20000 in
theorem lr_82 : GoodIn lw_tbl [Cond.code yX8_mostAgain cX8_mostAgain 1 (some .int)] := goodIn_r _ [1357] (by decide +kernel) (by decide +kernel)
set_option maxRecDepth 20000 in
theorem lr_wsX8_mostAgain_r1 : GoodIn lw_tbl wsX8_mostAgain_r1 := goodIn_r _ [1113, 1350, 1352, 48, 68, 1353, 1104, 1108, 1196, 1197, 1198, 1211, 1213, 29, 1214, 1234, 1236, 34, 1237, 1342, 1344, 47, 1345, 1278] (by decide +kernel) (by decide +kernel)
set_option maxRecDepth 20000 in
theorem lr_wsX8_mostAgain_r2 : GoodIn lw_tbl wsX8_mostAgain_r2 := goodIn_r _ [1280, 40, 1281, 1123, 1122, 1274, 1276, 39, 1277, 1124, 1222, 1224, 31, 1225, 1226, 1228, 32, 1229, 1230, 1232, 33, 1233, 1215, 1216] (by decide +kernel) (by decide +kernel)
set_option maxRecDepth 20000 in
theorem lr_wsX8_mostAgain_r3 : GoodIn lw_tbl wsX8_mostAgain_r3 := goodIn_r _ [1217, 1282, 1284, 41, 1285, 1258, 1260, 37, 1261, 1262, 1264, 38, 1265] (by decide +kernel) (by decide +kernel)
theorem gw_wsX8_mostAgain : GoodIn lw_tbl wsX8_mostAgain := goodIn_app lr_82 (goodIn_app (goodIn_app (goodIn_app lr_wsX8_mostAgain_r1 (goodIn_app lr_wsX8_mostAgain_r2 lr_wsX8_mostAgain_r3)) gi_wsX80) gf_wsL_law_x0)
set_option maxRecDepth 20000 in
theorem lr_83 : GoodIn lw_tbl [Cond.methodLink RL 188 yX8_mostAgain, Cond.instanceMethod yX8_mostAgain, Cond.selects RX8 yX8_mostAgain yX8_mostAgain, Cond.initialized RX8] := goodIn_r _ [1354, 1355, 1356, 68] (by decide +kernel) (by decide +kernel)
theorem la_188 : GoodIn lw_tbl (wsV RL 188 RX8 yX8_mostAgain wsX8_mostAgain) := goodIn_app lr_83 gw_wsX8_mostAgain
set_option maxRecDepth 20000 in
theorem lr_84 : GoodIn lw_tbl [Cond.code yX7_cover cX7_cover 2 (some .int)] := goodIn_r _ [407] (by decide +kernel) (by decide +kernel)
set_option maxRecDepth 20000 in
theorem lr_wsX7_cover_r1 : GoodIn lw_tbl wsX7_cover_r1 := goodIn_r _ [271, 268, 273, 309, 310, 311, 61, 312, 97, 313, 315, 314, 69, 98, 99, 100, 101, 102, 103, 104, 105, 110, 115, 117] (by decide +kernel) (by decide +kernel)
set_option maxRecDepth 20000 in
theorem lr_wsX7_cover_r2 : GoodIn lw_tbl wsX7_cover_r2 := goodIn_r _ [120, 123, 374, 375, 376, 63, 377, 378, 317, 318, 319, 180, 179, 107, 118, 121, 320, 322, 0, 323, 178, 324, 325, 326] (by decide +kernel) (by decide +kernel)
set_option maxRecDepth 20000 in
theorem lr_wsX7_cover_r3 : GoodIn lw_tbl wsX7_cover_r3 := goodIn_r _ [327, 328, 329, 330, 331, 332, 333, 335, 1, 336, 337, 339, 2, 340, 113, 341, 342, 343, 344, 345, 346, 347, 348, 349] (by decide +kernel) (by decide +kernel)
set_option maxRecDepth 20000 in
theorem lr_wsX7_cover_r4 : GoodIn lw_tbl wsX7_cover_r4 := goodIn_r _ [350, 74, 351, 352, 353, 354, 355, 356, 357, 358, 359, 360, 361, 362, 364, 3, 365, 366, 367, 368, 369, 408, 409, 410] (by decide +kernel) (by decide +kernel)
set_option maxRecDepth 20000 in
theorem lr_wsX7_cover_r5 : GoodIn lw_tbl wsX7_cover_r5 := goodIn_r _ [411, 412, 414, 5, 415, 416, 417, 418, 419] (by decide +kernel) (by decide +kernel)
theorem gw_wsX7_cover : GoodIn lw_tbl wsX7_cover := goodIn_app lr_84 (goodIn_app (goodIn_app (goodIn_app (goodIn_app (goodIn_app lr_wsX7_cover_r1 (goodIn_app lr_wsX7_cover_r2 (goodIn_app lr_wsX7_cover_r3 (goodIn_app lr_wsX7_cover_r4 lr_wsX7_cover_r5)))) gi_wsX70) gi_wsX30) gi_wsX60) gf_wsL_law_x0)
set_option maxRecDepth 20000 in
theorem lr_85 : GoodIn lw_tbl [Cond.methodLink RL 189 yX7_cover, Cond.instanceMethod yX7_cover, Cond.selects RX7 yX7_cover yX7_cover, Cond.initialized RX7] := goodIn_r _ [404, 405, 406, 60] (by decide +kernel) (by decide +kernel)
theorem la_189 : GoodIn lw_tbl (wsV RL 189 RX7 yX7_cover wsX7_cover) := goodIn_app lr_85 gw_wsX7_cover
set_option maxRecDepth 20000 in
theorem lr_86 : GoodIn lw_tbl [Cond.code yX8_cover cX8_cover 8 (some .int)] := goodIn_r _ [1361] (by decide +kernel) (by decide +kernel)
set_option maxRecDepth 20000 in
theorem lr_wsX8_cover_r1 : GoodIn lw_tbl wsX8_cover_r1 := goodIn_r _ [1113, 1104, 1108, 1122, 1196, 1197, 68, 1198, 1342, 1344, 47, 1345, 1278, 1280, 40, 1281, 1123, 1274, 1276, 39, 1277, 1124, 1211, 1213] (by decide +kernel) (by decide +kernel)
set_option maxRecDepth 20000 in
theorem lr_wsX8_cover_r2 : GoodIn lw_tbl wsX8_cover_r2 := goodIn_r _ [29, 1214, 1222, 1224, 31, 1225, 1226, 1228, 32, 1229, 1230, 1232, 33, 1233, 1215, 1216, 1217, 1282, 1284, 41, 1285, 1258, 1260, 37] (by decide +kernel) (by decide +kernel)
set_option maxRecDepth 20000 in
theorem lr_wsX8_cover_r3 : GoodIn lw_tbl wsX8_cover_r3 := goodIn_r _ [1261] (by decide +kernel) (by decide +kernel)
theorem gw_wsX8_cover : GoodIn lw_tbl wsX8_cover := goodIn_app lr_86 (goodIn_app (goodIn_app (goodIn_app lr_wsX8_cover_r1 (goodIn_app lr_wsX8_cover_r2 lr_wsX8_cover_r3)) gi_wsX80) gf_wsL_law_x0)
set_option maxRecDepth 20000 in
theorem lr_87 : GoodIn lw_tbl [Cond.methodLink RL 193 yX8_cover, Cond.instanceMethod yX8_cover, Cond.selects RX8 yX8_cover yX8_cover, Cond.initialized RX8] := goodIn_r _ [1358, 1359, 1360, 68] (by decide +kernel) (by decide +kernel)
theorem la_193 : GoodIn lw_tbl (wsV RL 193 RX8 yX8_cover wsX8_cover) := goodIn_app lr_87 gw_wsX8_cover
set_option maxRecDepth 20000 in
theorem lr_88 : GoodIn lw_tbl [Cond.codeWith yL_canBeOpen cL_canBeOpen 4 (some .int) [(0, 16, 19, 42)]] := goodIn_r _ [866] (by decide +kernel) (by decide +kernel)
set_option maxRecDepth 20000 in
theorem lr_wsL_canBeOpen_r1 : GoodIn lw_tbl wsL_canBeOpen_r1 := goodIn_r _ [684, 867, 868, 869, 60, 870, 268, 772, 774, 16, 775, 718, 75, 776, 346, 347, 61, 348, 110, 780, 781, 782, 783, 105] (by decide +kernel) (by decide +kernel)
set_option maxRecDepth 20000 in
theorem lr_wsL_canBeOpen_r2 : GoodIn lw_tbl wsL_canBeOpen_r2 := goodIn_r _ [604, 342, 343, 344, 102, 97, 115, 99, 332, 325, 326, 327, 345, 349, 350, 74, 351, 352, 353, 354] (by decide +kernel) (by decide +kernel)
theorem gw_wsL_canBeOpen : GoodIn lw_tbl wsL_canBeOpen := goodIn_app lr_88 (goodIn_app (goodIn_app (goodIn_app (goodIn_app (goodIn_app lr_wsL_canBeOpen_r1 lr_wsL_canBeOpen_r2) gi_wsX70) gi_wsX30) gf_wsL_law_x0) gf_wsL_law_x3)
set_option maxRecDepth 20000 in
theorem lr_89 : GoodIn lw_tbl [Cond.methodLink RL 194 yL_canBeOpen, Cond.static yL_canBeOpen, Cond.initialized RL] := goodIn_r _ [864, 865, 59] (by decide +kernel) (by decide +kernel)
theorem la_194 : GoodIn lw_tbl (va_wsS RL 194 yL_canBeOpen wsL_canBeOpen) := goodIn_app lr_89 gw_wsL_canBeOpen
set_option maxRecDepth 20000 in
theorem lr_90 : GoodIn lw_tbl [Cond.code yX8_canBeOpen cX8_canBeOpen 4 (some .boolean)] := goodIn_r _ [1365] (by decide +kernel) (by decide +kernel)
set_option maxRecDepth 20000 in
theorem lr_wsX8_canBeOpen_r1 : GoodIn lw_tbl wsX8_canBeOpen_r1 := goodIn_r _ [1104, 1242, 1244, 35, 68, 1245, 1185, 1186, 1187, 1290, 1292, 42, 1293, 1113, 1350, 1352, 48, 1353, 1108, 1196, 1197, 1198, 1211, 1213] (by decide +kernel) (by decide +kernel)
set_option maxRecDepth 20000 in
theorem lr_wsX8_canBeOpen_r2 : GoodIn lw_tbl wsX8_canBeOpen_r2 := goodIn_r _ [29, 1214, 1234, 1236, 34, 1237, 1342, 1344, 47, 1345, 1278, 1280, 40, 1281, 1123, 1122, 1274, 1276, 39, 1277, 1124, 1222, 1224, 31] (by decide +kernel) (by decide +kernel)
set_option maxRecDepth 20000 in
theorem lr_wsX8_canBeOpen_r3 : GoodIn lw_tbl wsX8_canBeOpen_r3 := goodIn_r _ [1225, 1226, 1228, 32, 1229, 1230, 1232, 33, 1233, 1215, 1216, 1217, 1282, 1284, 41, 1285, 1258, 1260, 37, 1261, 1262, 1264, 38, 1265] (by decide +kernel) (by decide +kernel)
theorem gw_wsX8_canBeOpen : GoodIn lw_tbl wsX8_canBeOpen := goodIn_app lr_90 (goodIn_app (goodIn_app (goodIn_app lr_wsX8_canBeOpen_r1 (goodIn_app lr_wsX8_canBeOpen_r2 lr_wsX8_canBeOpen_r3)) gi_wsX80) gf_wsL_law_x0)
set_option maxRecDepth 20000 in
theorem lr_91 : GoodIn lw_tbl [Cond.methodLink RL 196 yX8_canBeOpen, Cond.instanceMethod yX8_canBeOpen, Cond.selects RX8 yX8_canBeOpen yX8_canBeOpen, Cond.initialized RX8] := goodIn_r _ [1362, 1363, 1364, 68] (by decide +kernel) (by decide +kernel)
theorem la_196 : GoodIn lw_tbl (wsV RL 196 RX8 yX8_canBeOpen wsX8_canBeOpen) := goodIn_app lr_91 gw_wsX8_canBeOpen
set_option maxRecDepth 20000 in
theorem lr_92 : GoodIn lw_tbl [Cond.codeWith yL_isNeeded cL_isNeeded 4 (some .int) [(0, 16, 19, 42)]] := goodIn_r _ [873] (by decide +kernel) (by decide +kernel)
set_option maxRecDepth 20000 in
theorem lr_wsL_isNeeded_r1 : GoodIn lw_tbl wsL_isNeeded_r1 := goodIn_r _ [684, 874, 875, 876, 60, 877, 274, 268, 713, 715, 15, 716, 718, 75, 717, 325, 326, 61, 327, 105, 392, 393, 394, 64] (by decide +kernel) (by decide +kernel)
set_option maxRecDepth 20000 in
theorem lr_wsL_isNeeded_r2 : GoodIn lw_tbl wsL_isNeeded_r2 := goodIn_r _ [395, 195, 106, 396, 398, 4, 399, 196, 400, 401, 402, 111, 403, 342, 343, 344, 102, 97, 115, 99, 332, 345, 346, 347] (by decide +kernel) (by decide +kernel)
set_option maxRecDepth 20000 in
theorem lr_wsL_isNeeded_r3 : GoodIn lw_tbl wsL_isNeeded_r3 := goodIn_r _ [348, 110, 349, 350, 74, 351, 352, 353, 354] (by decide +kernel) (by decide +kernel)
theorem gw_wsL_isNeeded : GoodIn lw_tbl wsL_isNeeded := goodIn_app lr_92 (goodIn_app (goodIn_app (goodIn_app (goodIn_app (goodIn_app (goodIn_app lr_wsL_isNeeded_r1 (goodIn_app lr_wsL_isNeeded_r2 lr_wsL_isNeeded_r3)) gi_wsX70) gi_wsX30) gi_wsX40) gf_wsL_law_x0) gf_wsL_law_x3)
set_option maxRecDepth 20000 in
theorem lr_93 : GoodIn lw_tbl [Cond.methodLink RL 197 yL_isNeeded, Cond.static yL_isNeeded, Cond.initialized RL] := goodIn_r _ [871, 872, 59] (by decide +kernel) (by decide +kernel)
theorem la_197 : GoodIn lw_tbl (va_wsS RL 197 yL_isNeeded wsL_isNeeded) := goodIn_app lr_93 gw_wsL_isNeeded
set_option maxRecDepth 20000 in
theorem lr_94 : GoodIn lw_tbl [Cond.code yX8_isNeeded cX8_isNeeded 2 (some .boolean)] := goodIn_r _ [1369] (by decide +kernel) (by decide +kernel)
set_option maxRecDepth 20000 in
theorem lr_wsX8_isNeeded_r1 : GoodIn lw_tbl wsX8_isNeeded_r1 := goodIn_r _ [1207, 1209, 28, 68, 1210, 1104, 1185, 1186, 1187, 1290, 1292, 42, 1293, 1113, 1350, 1352, 48, 1353, 1108, 1196, 1197, 1198, 1211, 1213] (by decide +kernel) (by decide +kernel)
set_option maxRecDepth 20000 in
theorem lr_wsX8_isNeeded_r2 : GoodIn lw_tbl wsX8_isNeeded_r2 := goodIn_r _ [29, 1214, 1234, 1236, 34, 1237, 1342, 1344, 47, 1345, 1278, 1280, 40, 1281, 1123, 1122, 1274, 1276, 39, 1277, 1124, 1222, 1224, 31] (by decide +kernel) (by decide +kernel)
set_option maxRecDepth 20000 in
theorem lr_wsX8_isNeeded_r3 : GoodIn lw_tbl wsX8_isNeeded_r3 := goodIn_r _ [1225, 1226, 1228, 32, 1229, 1230, 1232, 33, 1233, 1215, 1216, 1217, 1282, 1284, 41, 1285, 1258, 1260, 37, 1261, 1262, 1264, 38, 1265] (by decide +kernel) (by decide +kernel)
theorem gw_wsX8_isNeeded : GoodIn lw_tbl wsX8_isNeeded := goodIn_app lr_94 (goodIn_app (goodIn_app (goodIn_app lr_wsX8_isNeeded_r1 (goodIn_app lr_wsX8_isNeeded_r2 lr_wsX8_isNeeded_r3)) gi_wsX80) gf_wsL_law_x0)
set_option maxRecDepth 20000 in
theorem lr_95 : GoodIn lw_tbl [Cond.methodLink RL 199 yX8_isNeeded, Cond.instanceMethod yX8_isNeeded, Cond.selects RX8 yX8_isNeeded yX8_isNeeded, Cond.initialized RX8] := goodIn_r _ [1366, 1367, 1368, 68] (by decide +kernel) (by decide +kernel)
theorem la_199 : GoodIn lw_tbl (wsV RL 199 RX8 yX8_isNeeded wsX8_isNeeded) := goodIn_app lr_95 gw_wsX8_isNeeded
set_option maxRecDepth 20000 in
theorem lr_96 : GoodIn lw_tbl [Cond.codeWith yL_porterOf cL_porterOf 5 (some .int) [(0, 10, 13, 44)]] := goodIn_r _ [880] (by decide +kernel) (by decide +kernel)
set_option maxRecDepth 20000 in
theorem lr_wsL_porterOf_r1 : GoodIn lw_tbl wsL_porterOf_r1 := goodIn_r _ [708, 881, 882, 883, 60, 884, 749, 78, 268, 885, 482, 483, 887, 888, 889, 61, 890, 105, 891, 733, 734, 735, 98, 332] (by decide +kernel) (by decide +kernel)
set_option maxRecDepth 20000 in
theorem lr_wsL_porterOf_r2 : GoodIn lw_tbl wsL_porterOf_r2 := goodIn_r _ [325, 326, 327, 892, 893, 894, 895, 603, 329, 330, 331, 101, 896, 897, 898, 899, 900, 746, 747, 748, 100] (by decide +kernel) (by decide +kernel)
theorem gw_wsL_porterOf : GoodIn lw_tbl wsL_porterOf := goodIn_app lr_96 (goodIn_app (goodIn_app (goodIn_app (goodIn_app (goodIn_app lr_wsL_porterOf_r1 lr_wsL_porterOf_r2) gi_wsX70) gi_wsX30) gf_wsL_law_x0) gf_wsL_law_x2)
set_option maxRecDepth 20000 in
theorem lr_97 : GoodIn lw_tbl [Cond.methodLink RL 200 yL_porterOf, Cond.static yL_porterOf, Cond.initialized RL] := goodIn_r _ [878, 879, 59] (by decide +kernel) (by decide +kernel)
theorem la_200 : GoodIn lw_tbl (va_wsS RL 200 yL_porterOf wsL_porterOf) := goodIn_app lr_97 gw_wsL_porterOf
set_option maxRecDepth 20000 in
theorem lr_98 : GoodIn lw_tbl [Cond.code yX8_porterOf cX8_porterOf 5 (some .int)] := goodIn_r _ [1373] (by decide +kernel) (by decide +kernel)
set_option maxRecDepth 20000 in
theorem lr_99 : GoodIn lw_tbl [.fieldLink RX8 7 "KeyWavesModel" "g" "[I", .methodLink RX8 72 yX8_in, .static yX8_in, .initialized RX8, .code yX8_in cX8_in 3 (some .boolean), .methodLink RX8 138 yX8_fails, .instanceMethod yX8_fails, .selects RX8 yX8_fails yX8_fails, .code yX8_fails cX8_fails 2 (some .boolean), .fieldLink RX8 46 "KeyWavesModel" "code" "I", .methodLink RX8 80 yX8_ofKey, .instanceMethod yX8_ofKey, .selects RX8 yX8_ofKey yX8_ofKey, .code yX8_ofKey cX8_ofKey 3 (some .int)] := goodIn_r _ [1104, 1185, 1186, 68, 1187, 1290, 1292, 42, 1293, 1113, 1211, 1213, 29, 1214] (by decide +kernel) (by decide +kernel)
theorem gw_wsX8_porterOf : GoodIn lw_tbl wsX8_porterOf := goodIn_app lr_98 (goodIn_app (goodIn_app lr_99 gi_wsX80) gf_wsL_law_x0)
set_option maxRecDepth 20000 in
theorem lr_100 : GoodIn lw_tbl [Cond.methodLink RL 202 yX8_porterOf, Cond.instanceMethod yX8_porterOf, Cond.selects RX8 yX8_porterOf yX8_porterOf, Cond.initialized RX8] := goodIn_r _ [1370, 1371, 1372, 68] (by decide +kernel) (by decide +kernel)
theorem la_202 : GoodIn lw_tbl (wsV RL 202 RX8 yX8_porterOf wsX8_porterOf) := goodIn_app lr_100 gw_wsX8_porterOf
set_option maxRecDepth 20000 in
theorem lr_101 : GoodIn lw_tbl [Cond.codeWith yL_ranked cL_ranked 4 (some .int) [(0, 9, 12, 62)]] := goodIn_r _ [904] (by decide +kernel) (by decide +kernel)
set_option maxRecDepth 20000 in
theorem lr_wsL_ranked_r1 : GoodIn lw_tbl wsL_ranked_r1 := goodIn_r _ [822, 905, 906, 907, 60, 908, 836, 80, 268, 909, 910, 911, 61, 912, 105, 913, 915, 18, 916, 917, 919, 19, 920, 921] (by decide +kernel) (by decide +kernel)
set_option maxRecDepth 20000 in
theorem lr_wsL_ranked_r2 : GoodIn lw_tbl wsL_ranked_r2 := goodIn_r _ [742, 743, 744, 110, 604, 342, 343, 344, 102, 97, 115, 99, 332, 325, 326, 327, 345, 346, 347, 348, 349, 350, 74, 351] (by decide +kernel) (by decide +kernel)
set_option maxRecDepth 20000 in
theorem lr_wsL_ranked_r3 : GoodIn lw_tbl wsL_ranked_r3 := goodIn_r _ [352, 353, 354, 655, 458, 459, 460] (by decide +kernel) (by decide +kernel)
theorem gw_wnL_ranked : GoodIn lw_tbl wnL_ranked := goodIn_app lr_101 (goodIn_app (goodIn_app (goodIn_app (goodIn_app (goodIn_app lr_wsL_ranked_r1 (goodIn_app lr_wsL_ranked_r2 lr_wsL_ranked_r3)) gi_wsX70) gi_wsX30) gf_wsL_law_x0) gf_nse_in)
set_option maxRecDepth 20000 in
theorem lr_102 : GoodIn lw_tbl [Cond.methodLink RL 203 yL_ranked, Cond.static yL_ranked, Cond.initialized RL] := goodIn_r _ [902, 903, 59] (by decide +kernel) (by decide +kernel)
theorem la_203 : GoodIn lw_tbl (va_wsS RL 203 yL_ranked wnL_ranked) := goodIn_app lr_102 gw_wnL_ranked
set_option maxRecDepth 20000 in
theorem lr_103 : GoodIn lw_tbl [Cond.code yX8_ranked cX8_ranked 5 (some .int)] := goodIn_r _ [1377] (by decide +kernel) (by decide +kernel)
set_option maxRecDepth 20000 in
theorem lr_wsX8_ranked_r1 : GoodIn lw_tbl wsX8_ranked_r1 := goodIn_r _ [1104, 1113, 1378, 1380, 49, 68, 1381, 1298, 1300, 44, 1301, 1222, 1224, 31, 1225, 1226, 1228, 32, 1229, 1230, 1232, 33, 1233, 1211] (by decide +kernel) (by decide +kernel)
set_option maxRecDepth 20000 in
theorem lr_wsX8_ranked_r2 : GoodIn lw_tbl wsX8_ranked_r2 := goodIn_r _ [1213, 29, 1214, 1215, 1216, 1217] (by decide +kernel) (by decide +kernel)
theorem gw_wsX8_ranked : GoodIn lw_tbl wsX8_ranked := goodIn_app lr_103 (goodIn_app (goodIn_app (goodIn_app lr_wsX8_ranked_r1 lr_wsX8_ranked_r2) gi_wsX80) gf_wsL_law_x0)
