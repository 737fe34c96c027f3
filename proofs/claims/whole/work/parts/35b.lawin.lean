set_option maxRecDepth 20000 in
theorem lr_wsX8_slack_r3 : GoodIn lw_tbl wsX8_slack_r3 := goodIn_r _ [1236, 34, 1237] (by decide +kernel) (by decide +kernel)
theorem gw_wsX8_slack : GoodIn lw_tbl wsX8_slack := goodIn_app lr_25 (goodIn_app (goodIn_app (goodIn_app lr_wsX8_slack_r1 (goodIn_app lr_wsX8_slack_r2 lr_wsX8_slack_r3)) gi_wsX80) gf_wsL_law_x0)
set_option maxRecDepth 20000 in
theorem lr_26 : GoodIn lw_tbl [Cond.methodLink RL 141 yX8_slack, Cond.instanceMethod yX8_slack, Cond.selects RX8 yX8_slack yX8_slack, Cond.initialized RX8] := goodIn_r _ [1250, 1251, 1252, 68] (by decide +kernel) (by decide +kernel)
theorem la_141 : GoodIn lw_tbl (wsV RL 141 RX8 yX8_slack wsX8_slack) := goodIn_app lr_26 gw_wsX8_slack
set_option maxRecDepth 20000 in
theorem lr_27 : GoodIn lw_tbl [Cond.codeWith yL_put cL_put 5 (some .int) [(0, 10, 13, 13)]] := goodIn_r _ [641] (by decide +kernel) (by decide +kernel)
set_option maxRecDepth 20000 in
theorem lr_wsL_put_r1 : GoodIn lw_tbl wsL_put_r1 := goodIn_r _ [469, 642, 643, 644, 60, 645, 269, 268, 275, 309, 310, 311, 61, 312, 97, 313, 315, 314, 69, 98, 99, 100, 101, 102] (by decide +kernel) (by decide +kernel)
set_option maxRecDepth 20000 in
theorem lr_wsL_put_r2 : GoodIn lw_tbl wsL_put_r2 := goodIn_r _ [103, 104, 105, 110, 115, 117, 120, 123, 646, 647, 648, 649, 332, 325, 326, 327, 484, 485, 486, 65, 487, 208, 210, 345] (by decide +kernel) (by decide +kernel)
set_option maxRecDepth 20000 in
theorem lr_wsL_put_r3 : GoodIn lw_tbl wsL_put_r3 := goodIn_r _ [346, 347, 348, 604, 342, 343, 344, 349, 350, 74, 351, 352, 353, 354, 650, 651, 652, 653, 654, 437, 438, 439, 655, 458] (by decide +kernel) (by decide +kernel)
set_option maxRecDepth 20000 in
theorem lr_wsL_put_r4 : GoodIn lw_tbl wsL_put_r4 := goodIn_r _ [459, 460, 656, 367, 368, 369, 657, 384, 385, 386, 387, 356, 357, 358, 488, 490, 9, 491, 492, 73, 212, 272, 564, 565] (by decide +kernel) (by decide +kernel)
set_option maxRecDepth 20000 in
theorem lr_wsL_put_r5 : GoodIn lw_tbl wsL_put_r5 := goodIn_r _ [566, 62, 567, 165, 568, 570, 11, 571, 164, 572, 574, 12, 575, 576] (by decide +kernel) (by decide +kernel)
theorem gw_wsL_put : GoodIn lw_tbl wsL_put := goodIn_app lr_27 (goodIn_app (goodIn_app (goodIn_app (goodIn_app (goodIn_app (goodIn_app (goodIn_app lr_wsL_put_r1 (goodIn_app lr_wsL_put_r2 (goodIn_app lr_wsL_put_r3 (goodIn_app lr_wsL_put_r4 lr_wsL_put_r5)))) gi_wsX70) gi_wsX30) gi_wsX50) gi_wsX10) gf_wsL_law_x0) gf_wsL_law_x1)
set_option maxRecDepth 20000 in
theorem lr_28 : GoodIn lw_tbl [Cond.methodLink RL 142 yL_put, Cond.static yL_put, Cond.initialized RL] := goodIn_r _ [639, 640, 59] (by decide +kernel) (by decide +kernel)
theorem la_142 : GoodIn lw_tbl (va_wsS RL 142 yL_put wsL_put) := goodIn_app lr_28 gw_wsL_put
set_option maxRecDepth 20000 in
theorem lr_29 : GoodIn lw_tbl [Cond.code yX8_put cX8_put 3 (some .int)] := goodIn_r _ [1257] (by decide +kernel) (by decide +kernel)
set_option maxRecDepth 20000 in
theorem lr_wsX8_put_r1 : GoodIn lw_tbl wsX8_put_r1 := goodIn_r _ [1104, 1207, 1209, 28, 68, 1210, 1185, 1186, 1187, 1188, 1190, 26, 1191, 1113, 1114, 1115, 1111, 1112, 1116, 1242, 1244, 35, 1245, 1211] (by decide +kernel) (by decide +kernel)
set_option maxRecDepth 20000 in
theorem lr_wsX8_put_r2 : GoodIn lw_tbl wsX8_put_r2 := goodIn_r _ [1213, 29, 1214, 1230, 1232, 33, 1233, 1222, 1224, 31, 1225, 1226, 1228, 32, 1229, 1215, 1216, 1217, 1192, 1194, 27, 1195, 1110, 1105] (by decide +kernel) (by decide +kernel)
set_option maxRecDepth 20000 in
theorem lr_wsX8_put_r3 : GoodIn lw_tbl wsX8_put_r3 := goodIn_r _ [1196, 1197, 1198, 1258, 1260, 37, 1261, 1262, 1264, 38, 1265] (by decide +kernel) (by decide +kernel)
theorem gw_wsX8_put : GoodIn lw_tbl wsX8_put := goodIn_app lr_29 (goodIn_app (goodIn_app (goodIn_app lr_wsX8_put_r1 (goodIn_app lr_wsX8_put_r2 lr_wsX8_put_r3)) gi_wsX80) gf_wsL_law_x0)
set_option maxRecDepth 20000 in
theorem lr_30 : GoodIn lw_tbl [Cond.methodLink RL 144 yX8_put, Cond.instanceMethod yX8_put, Cond.selects RX8 yX8_put yX8_put, Cond.initialized RX8] := goodIn_r _ [1254, 1255, 1256, 68] (by decide +kernel) (by decide +kernel)
theorem la_144 : GoodIn lw_tbl (wsV RL 144 RX8 yX8_put wsX8_put) := goodIn_app lr_30 gw_wsX8_put
set_option maxRecDepth 20000 in
theorem lr_31 : GoodIn lw_tbl [Cond.codeWith yL_take cL_take 4 (some .int) [(0, 9, 12, 13)]] := goodIn_r _ [660] (by decide +kernel) (by decide +kernel)
set_option maxRecDepth 20000 in
theorem lr_wsL_take_r1 : GoodIn lw_tbl wsL_take_r1 := goodIn_r _ [469, 661, 662, 663, 60, 664, 269, 268, 275, 309, 310, 311, 61, 312, 97, 313, 315, 314, 69, 98, 99, 100, 101, 102] (by decide +kernel) (by decide +kernel)
set_option maxRecDepth 20000 in
theorem lr_wsL_take_r2 : GoodIn lw_tbl wsL_take_r2 := goodIn_r _ [103, 104, 105, 110, 115, 117, 120, 123, 665, 666, 667, 668, 332, 325, 326, 327, 484, 485, 486, 65, 487, 208, 210, 345] (by decide +kernel) (by decide +kernel)
set_option maxRecDepth 20000 in
theorem lr_wsL_take_r3 : GoodIn lw_tbl wsL_take_r3 := goodIn_r _ [346, 347, 348, 488, 490, 9, 491, 492, 73, 212, 272, 564, 565, 566, 62, 567, 165, 568, 570, 11, 571, 164, 572, 574] (by decide +kernel) (by decide +kernel)
set_option maxRecDepth 20000 in
theorem lr_wsL_take_r4 : GoodIn lw_tbl wsL_take_r4 := goodIn_r _ [12, 575, 576] (by decide +kernel) (by decide +kernel)
theorem gw_wsL_take : GoodIn lw_tbl wsL_take := goodIn_app lr_31 (goodIn_app (goodIn_app (goodIn_app (goodIn_app (goodIn_app (goodIn_app (goodIn_app lr_wsL_take_r1 (goodIn_app lr_wsL_take_r2 (goodIn_app lr_wsL_take_r3 lr_wsL_take_r4))) gi_wsX70) gi_wsX30) gi_wsX50) gi_wsX10) gf_wsL_law_x0) gf_wsL_law_x1)
set_option maxRecDepth 20000 in
theorem lr_32 : GoodIn lw_tbl [Cond.methodLink RL 145 yL_take, Cond.static yL_take, Cond.initialized RL] := goodIn_r _ [658, 659, 59] (by decide +kernel) (by decide +kernel)
theorem la_145 : GoodIn lw_tbl (va_wsS RL 145 yL_take wsL_take) := goodIn_app lr_32 gw_wsL_take
set_option maxRecDepth 20000 in
theorem lr_33 : GoodIn lw_tbl [Cond.code yX8_take cX8_take 3 (some .int)] := goodIn_r _ [1269] (by decide +kernel) (by decide +kernel)
set_option maxRecDepth 20000 in
theorem lr_wsX8_take_r1 : GoodIn lw_tbl wsX8_take_r1 := goodIn_r _ [1104, 1207, 1209, 28, 68, 1210, 1185, 1186, 1187, 1188, 1190, 26, 1191, 1113, 1114, 1115, 1111, 1112, 1116, 1211, 1213, 29, 1214, 1192] (by decide +kernel) (by decide +kernel)
set_option maxRecDepth 20000 in
theorem lr_wsX8_take_r2 : GoodIn lw_tbl wsX8_take_r2 := goodIn_r _ [1194, 27, 1195, 1110, 1105, 1196, 1197, 1198, 1234, 1236, 34, 1237] (by decide +kernel) (by decide +kernel)
theorem gw_wsX8_take : GoodIn lw_tbl wsX8_take := goodIn_app lr_33 (goodIn_app (goodIn_app (goodIn_app lr_wsX8_take_r1 lr_wsX8_take_r2) gi_wsX80) gf_wsL_law_x0)
set_option maxRecDepth 20000 in
theorem lr_34 : GoodIn lw_tbl [Cond.methodLink RL 147 yX8_take, Cond.instanceMethod yX8_take, Cond.selects RX8 yX8_take yX8_take, Cond.initialized RX8] := goodIn_r _ [1266, 1267, 1268, 68] (by decide +kernel) (by decide +kernel)
theorem la_147 : GoodIn lw_tbl (wsV RL 147 RX8 yX8_take wsX8_take) := goodIn_app lr_34 gw_wsX8_take
set_option maxRecDepth 20000 in
theorem lr_35 : GoodIn lw_tbl [Cond.codeWith yL_wave cL_wave 3 (some .int) [(0, 8, 11, 13)]] := goodIn_r _ [671] (by decide +kernel) (by decide +kernel)
set_option maxRecDepth 20000 in
theorem lr_wsL_wave_r1 : GoodIn lw_tbl wsL_wave_r1 := goodIn_r _ [469, 672, 673, 674, 60, 675, 269, 268, 309, 310, 311, 61, 312, 97, 313, 315, 314, 69, 98, 99, 100, 101, 102, 103] (by decide +kernel) (by decide +kernel)
set_option maxRecDepth 20000 in
theorem lr_wsL_wave_r2 : GoodIn lw_tbl wsL_wave_r2 := goodIn_r _ [104, 105, 110, 115, 117, 120, 123, 676, 678, 14, 679, 275, 273, 474, 475, 476, 477, 479, 480, 482, 483, 484, 485, 486] (by decide +kernel) (by decide +kernel)
set_option maxRecDepth 20000 in
theorem lr_wsL_wave_r3 : GoodIn lw_tbl wsL_wave_r3 := goodIn_r _ [65, 487, 208, 210, 584, 585, 586, 587, 595, 596, 597, 598, 332, 325, 326, 327, 349, 350, 74, 351, 352, 353, 354, 599] (by decide +kernel) (by decide +kernel)
set_option maxRecDepth 20000 in
theorem lr_wsL_wave_r4 : GoodIn lw_tbl wsL_wave_r4 := goodIn_r _ [601, 13, 602, 603, 329, 330, 331, 345, 346, 347, 348, 604, 342, 343, 344, 612, 613, 614, 615, 616, 617, 618, 619, 620] (by decide +kernel) (by decide +kernel)
set_option maxRecDepth 20000 in
theorem lr_wsL_wave_r5 : GoodIn lw_tbl wsL_wave_r5 := goodIn_r _ [621, 622, 623, 624, 625, 626, 627, 646, 647, 648, 649, 650, 651, 652, 653, 654, 437, 438, 439, 655, 458, 459, 460, 656] (by decide +kernel) (by decide +kernel)
set_option maxRecDepth 20000 in
theorem lr_wsL_wave_r6 : GoodIn lw_tbl wsL_wave_r6 := goodIn_r _ [367, 368, 369, 657, 384, 385, 386, 387, 356, 357, 358, 665, 666, 667, 668, 635, 636, 637, 638, 316, 317, 318, 63, 319] (by decide +kernel) (by decide +kernel)
set_option maxRecDepth 20000 in
theorem lr_wsL_wave_r7 : GoodIn lw_tbl wsL_wave_r7 := goodIn_r _ [180, 179, 107, 118, 121, 320, 322, 0, 323, 178, 324, 328, 333, 335, 1, 336, 337, 339, 2, 340, 113, 341, 355, 359] (by decide +kernel) (by decide +kernel)
set_option maxRecDepth 20000 in
theorem lr_wsL_wave_r8 : GoodIn lw_tbl wsL_wave_r8 := goodIn_r _ [360, 361, 362, 364, 3, 365, 366, 383, 680, 488, 490, 9, 491, 492, 73, 212, 272, 564, 565, 566, 62, 567, 165, 568] (by decide +kernel) (by decide +kernel)
set_option maxRecDepth 20000 in
theorem lr_wsL_wave_r9 : GoodIn lw_tbl wsL_wave_r9 := goodIn_r _ [570, 11, 571, 164, 572, 574, 12, 575, 576] (by decide +kernel) (by decide +kernel)
theorem gw_wsL_wave : GoodIn lw_tbl wsL_wave := goodIn_app lr_35 (goodIn_app (goodIn_app (goodIn_app (goodIn_app (goodIn_app (goodIn_app (goodIn_app (goodIn_app lr_wsL_wave_r1 (goodIn_app lr_wsL_wave_r2 (goodIn_app lr_wsL_wave_r3 (goodIn_app lr_wsL_wave_r4 (goodIn_app lr_wsL_wave_r5 (goodIn_app lr_wsL_wave_r6 (goodIn_app lr_wsL_wave_r7 (goodIn_app lr_wsL_wave_r8 lr_wsL_wave_r9)))))))) gi_wsX70) gi_wsX30) gi_wsX50) gi_wsX60) gi_wsX10) gf_wsL_law_x0) gf_wsL_law_x1)
set_option maxRecDepth 20000 in
theorem lr_36 : GoodIn lw_tbl [Cond.methodLink RL 148 yL_wave, Cond.static yL_wave, Cond.initialized RL] := goodIn_r _ [669, 670, 59] (by decide +kernel) (by decide +kernel)
theorem la_148 : GoodIn lw_tbl (va_wsS RL 148 yL_wave wsL_wave) := goodIn_app lr_36 gw_wsL_wave
set_option maxRecDepth 20000 in
theorem lr_37 : GoodIn lw_tbl [Cond.code yX8_wave cX8_wave 2 (some .int)] := goodIn_r _ [1273] (by decide +kernel) (by decide +kernel)
set_option maxRecDepth 20000 in
theorem lr_wsX8_wave_r1 : GoodIn lw_tbl wsX8_wave_r1 := goodIn_r _ [1104, 1274, 1276, 39, 68, 1277, 1122, 1124, 1211, 1213, 29, 1214, 1222, 1224, 31, 1225, 1226, 1228, 32, 1229, 1230, 1232, 33, 1233] (by decide +kernel) (by decide +kernel)
set_option maxRecDepth 20000 in
theorem lr_wsX8_wave_r2 : GoodIn lw_tbl wsX8_wave_r2 := goodIn_r _ [1215, 1216, 1217, 1262, 1264, 38, 1265, 1188, 1190, 26, 1191, 1113, 1114, 1115, 1111, 1112, 1116, 1192, 1194, 27, 1195, 1110, 1105, 1196] (by decide +kernel) (by decide +kernel)
set_option maxRecDepth 20000 in
theorem lr_wsX8_wave_r3 : GoodIn lw_tbl wsX8_wave_r3 := goodIn_r _ [1197, 1198, 1278, 1280, 40, 1281, 1123, 1282, 1284, 41, 1285, 1258, 1260, 37, 1261] (by decide +kernel) (by decide +kernel)
theorem gw_wsX8_wave : GoodIn lw_tbl wsX8_wave := goodIn_app lr_37 (goodIn_app (goodIn_app (goodIn_app lr_wsX8_wave_r1 (goodIn_app lr_wsX8_wave_r2 lr_wsX8_wave_r3)) gi_wsX80) gf_wsL_law_x0)
set_option maxRecDepth 20000 in
theorem lr_38 : GoodIn lw_tbl [Cond.methodLink RL 151 yX8_wave, Cond.instanceMethod yX8_wave, Cond.selects RX8 yX8_wave yX8_wave, Cond.initialized RX8] := goodIn_r _ [1270, 1271, 1272, 68] (by decide +kernel) (by decide +kernel)
theorem la_151 : GoodIn lw_tbl (wsV RL 151 RX8 yX8_wave wsX8_wave) := goodIn_app lr_38 gw_wsX8_wave
set_option maxRecDepth 20000 in
theorem lr_39 : GoodIn lw_tbl [Cond.codeWith yL_keyOf cL_keyOf 5 (some .int) [(0, 10, 13, 42), (0, 10, 17, 44)]] := goodIn_r _ [683] (by decide +kernel) (by decide +kernel)
set_option maxRecDepth 20000 in
theorem lr_wsL_keyOf_r1 : GoodIn lw_tbl wsL_keyOf_r1 := goodIn_r _ [684, 708, 709, 710, 711, 60, 712, 749, 78, 268, 273, 713, 715, 15, 716, 718, 75, 717, 325, 326, 61, 327, 105, 731] (by decide +kernel) (by decide +kernel)
set_option maxRecDepth 20000 in
theorem lr_wsL_keyOf_r2 : GoodIn lw_tbl wsL_keyOf_r2 := goodIn_r _ [458, 459, 460, 97, 332, 732, 733, 734, 735, 98, 736, 329, 330, 331, 101, 737, 738, 739, 63, 740, 320, 322, 0, 323] (by decide +kernel) (by decide +kernel)
set_option maxRecDepth 20000 in
theorem lr_wsL_keyOf_r3 : GoodIn lw_tbl wsL_keyOf_r3 := goodIn_r _ [178, 180, 107, 324, 328, 333, 335, 1, 336, 337, 339, 2, 340, 113, 341, 342, 343, 344, 102, 115, 99, 345, 346, 347] (by decide +kernel) (by decide +kernel)
set_option maxRecDepth 20000 in
theorem lr_wsL_keyOf_r4 : GoodIn lw_tbl wsL_keyOf_r4 := goodIn_r _ [348, 110, 349, 350, 74, 351, 352, 353, 354, 355, 356, 357, 358, 103, 741, 742, 743, 744, 604, 745, 746, 747, 748, 100] (by decide +kernel) (by decide +kernel)
theorem gf_wsL_law_x2 : GoodIn lw_tbl ((vx_atS RX7 139 "java/lang/IllegalArgumentException" ["java/lang/RuntimeException", "java/lang/Exception"]).filter goodWord) := goodIn_sub wsL_law_x2 (by decide +kernel)
theorem gf_wsL_law_x3 : GoodIn lw_tbl ((vx_atS RX7 287 "java/lang/IndexOutOfBoundsException" ["java/lang/RuntimeException", "java/lang/Exception"]).filter goodWord) := goodIn_sub wsL_law_x3 (by decide +kernel)
theorem gw_wsL_keyOf : GoodIn lw_tbl wsL_keyOf := goodIn_app lr_39 (goodIn_app (goodIn_app (goodIn_app (goodIn_app (goodIn_app (goodIn_app (goodIn_app lr_wsL_keyOf_r1 (goodIn_app lr_wsL_keyOf_r2 (goodIn_app lr_wsL_keyOf_r3 lr_wsL_keyOf_r4))) gi_wsX70) gi_wsX30) gi_wsX60) gf_wsL_law_x0) gf_wsL_law_x2) gf_wsL_law_x3)
set_option maxRecDepth 20000 in
theorem lr_40 : GoodIn lw_tbl [Cond.methodLink RL 152 yL_keyOf, Cond.static yL_keyOf, Cond.initialized RL] := goodIn_r _ [681, 682, 59] (by decide +kernel) (by decide +kernel)
theorem la_152 : GoodIn lw_tbl (va_wsS RL 152 yL_keyOf wsL_keyOf) := goodIn_app lr_40 gw_wsL_keyOf
set_option maxRecDepth 20000 in
theorem lr_41 : GoodIn lw_tbl [Cond.code yX8_keyOf cX8_keyOf 3 (some .int)] := goodIn_r _ [1289] (by decide +kernel) (by decide +kernel)
set_option maxRecDepth 20000 in
theorem lr_wsX8_keyOf_r1 : GoodIn lw_tbl wsX8_keyOf_r1 := goodIn_r _ [1207, 1209, 28, 68, 1210, 1104, 1185, 1186, 1187, 1290, 1292, 42, 1293, 1113, 1294, 1296, 43, 1297, 1122, 1274, 1276, 39, 1277, 1124] (by decide +kernel) (by decide +kernel)
set_option maxRecDepth 20000 in
theorem lr_wsX8_keyOf_r2 : GoodIn lw_tbl wsX8_keyOf_r2 := goodIn_r _ [1211, 1213, 29, 1214, 1222, 1224, 31, 1225, 1226, 1228, 32, 1229, 1230, 1232, 33, 1233, 1215, 1216, 1217, 1298, 1300, 44, 1301] (by decide +kernel) (by decide +kernel)
theorem gw_wsX8_keyOf : GoodIn lw_tbl wsX8_keyOf := goodIn_app lr_41 (goodIn_app (goodIn_app (goodIn_app lr_wsX8_keyOf_r1 lr_wsX8_keyOf_r2) gi_wsX80) gf_wsL_law_x0)
set_option maxRecDepth 20000 in
theorem lr_42 : GoodIn lw_tbl [Cond.methodLink RL 154 yX8_keyOf, Cond.instanceMethod yX8_keyOf, Cond.selects RX8 yX8_keyOf yX8_keyOf, Cond.initialized RX8] := goodIn_r _ [1286, 1287, 1288, 68] (by decide +kernel) (by decide +kernel)
theorem la_154 : GoodIn lw_tbl (wsV RL 154 RX8 yX8_keyOf wsX8_keyOf) := goodIn_app lr_42 gw_wsX8_keyOf
set_option maxRecDepth 20000 in
theorem lr_43 : GoodIn lw_tbl [Cond.codeWith yL_lockOf cL_lockOf 5 (some .int) [(0, 10, 13, 42), (0, 10, 17, 44)]] := goodIn_r _ [767] (by decide +kernel) (by decide +kernel)
set_option maxRecDepth 20000 in
theorem lr_wsL_lockOf_r1 : GoodIn lw_tbl wsL_lockOf_r1 := goodIn_r _ [684, 708, 768, 769, 770, 60, 771, 749, 78, 268, 772, 774, 16, 775, 718, 75, 776, 346, 347, 61, 348, 110, 778, 437] (by decide +kernel) (by decide +kernel)
set_option maxRecDepth 20000 in
theorem lr_wsL_lockOf_r2 : GoodIn lw_tbl wsL_lockOf_r2 := goodIn_r _ [438, 439, 102, 345, 779, 356, 357, 358, 103, 780, 781, 782, 783, 105, 604, 342, 343, 344, 97, 115, 99, 332, 325, 326] (by decide +kernel) (by decide +kernel)
set_option maxRecDepth 20000 in
theorem lr_wsL_lockOf_r3 : GoodIn lw_tbl wsL_lockOf_r3 := goodIn_r _ [327, 349, 350, 74, 351, 352, 353, 354, 784, 785, 786, 787, 104] (by decide +kernel) (by decide +kernel)
theorem gw_wsL_lockOf : GoodIn lw_tbl wsL_lockOf := goodIn_app lr_43 (goodIn_app (goodIn_app (goodIn_app (goodIn_app (goodIn_app (goodIn_app lr_wsL_lockOf_r1 (goodIn_app lr_wsL_lockOf_r2 lr_wsL_lockOf_r3)) gi_wsX70) gi_wsX30) gf_wsL_law_x0) gf_wsL_law_x2) gf_wsL_law_x3)
set_option maxRecDepth 20000 in
theorem lr_44 : GoodIn lw_tbl [Cond.methodLink RL 155 yL_lockOf, Cond.static yL_lockOf, Cond.initialized RL] := goodIn_r _ [765, 766, 59] (by decide +kernel) (by decide +kernel)
theorem la_155 : GoodIn lw_tbl (va_wsS RL 155 yL_lockOf wsL_lockOf) := goodIn_app lr_44 gw_wsL_lockOf
set_option maxRecDepth 20000 in
theorem lr_45 : GoodIn lw_tbl [Cond.code yX8_lockOf cX8_lockOf 5 (some .int)] := goodIn_r _ [1305] (by decide +kernel) (by decide +kernel)
set_option maxRecDepth 20000 in
theorem lr_wsX8_lockOf_r1 : GoodIn lw_tbl wsX8_lockOf_r1 := goodIn_r _ [1104, 1242, 1244, 35, 68, 1245, 1185, 1186, 1187, 1290, 1292, 42, 1293, 1113, 1230, 1232, 33, 1233, 1222, 1224, 31, 1225, 1226, 1228] (by decide +kernel) (by decide +kernel)
set_option maxRecDepth 20000 in
theorem lr_wsX8_lockOf_r2 : GoodIn lw_tbl wsX8_lockOf_r2 := goodIn_r _ [32, 1229, 1211, 1213, 29, 1214, 1215, 1216, 1217] (by decide +kernel) (by decide +kernel)
theorem gw_wsX8_lockOf : GoodIn lw_tbl wsX8_lockOf := goodIn_app lr_45 (goodIn_app (goodIn_app (goodIn_app lr_wsX8_lockOf_r1 lr_wsX8_lockOf_r2) gi_wsX80) gf_wsL_law_x0)
set_option maxRecDepth 20000 in
theorem lr_46 : GoodIn lw_tbl [Cond.methodLink RL 157 yX8_lockOf, Cond.instanceMethod yX8_lockOf, Cond.selects RX8 yX8_lockOf yX8_lockOf, Cond.initialized RX8] := goodIn_r _ [1302, 1303, 1304, 68] (by decide +kernel) (by decide +kernel)
theorem la_157 : GoodIn lw_tbl (wsV RL 157 RX8 yX8_lockOf wsX8_lockOf) := goodIn_app lr_46 gw_wsX8_lockOf
set_option maxRecDepth 20000 in
theorem lr_47 : GoodIn lw_tbl [Cond.codeWith yL_fits cL_fits 5 (some .int) [(0, 17, 20, 42)]] := goodIn_r _ [791] (by decide +kernel) (by decide +kernel)
set_option maxRecDepth 20000 in
theorem lr_wsL_fits_r1 : GoodIn lw_tbl wsL_fits_r1 := goodIn_r _ [684, 792, 793, 794, 60, 795, 268, 713, 715, 15, 716, 718, 75, 717, 325, 326, 61, 327, 105, 772, 774, 16, 775, 776] (by decide +kernel) (by decide +kernel)
set_option maxRecDepth 20000 in
theorem lr_wsL_fits_r2 : GoodIn lw_tbl wsL_fits_r2 := goodIn_r _ [346, 347, 348, 110, 796, 342, 343, 344, 102, 97, 115, 99, 332, 345, 349, 350, 74, 351, 352, 353, 354] (by decide +kernel) (by decide +kernel)
theorem gw_wsL_fits : GoodIn lw_tbl wsL_fits := goodIn_app lr_47 (goodIn_app (goodIn_app (goodIn_app (goodIn_app (goodIn_app lr_wsL_fits_r1 lr_wsL_fits_r2) gi_wsX70) gi_wsX30) gf_wsL_law_x0) gf_wsL_law_x3)
set_option maxRecDepth 20000 in
theorem lr_48 : GoodIn lw_tbl [Cond.methodLink RL 158 yL_fits, Cond.static yL_fits, Cond.initialized RL] := goodIn_r _ [789, 790, 59] (by decide +kernel) (by decide +kernel)
theorem la_158 : GoodIn lw_tbl (va_wsS RL 158 yL_fits wsL_fits) := goodIn_app lr_48 gw_wsL_fits
set_option maxRecDepth 20000 in
theorem lr_49 : GoodIn lw_tbl [Cond.code yX8_fits cX8_fits 3 (some .boolean)] := goodIn_r _ [1309] (by decide +kernel) (by decide +kernel)
