theorem nse_in : ∀ w ∈ (nse_at RX7 176).filter goodWord, w ∈ lw_tbl := by decide +kernel
set_option maxRecDepth 20000 in
theorem lr_0 : GoodIn lw_tbl [Cond.code yX7_init cX7_init 1 none] := goodIn_r _ [87] (by decide +kernel) (by decide +kernel)
set_option maxRecDepth 20000 in
theorem lr_wsX7_init_r1 : GoodIn lw_tbl wsX7_init_r1 := goodIn_r _ [88, 89, 90, 91, 92, 61, 268, 269, 270, 271, 155, 156, 62, 272, 172, 173, 63, 273, 189, 190, 64, 274, 202, 203] (by decide +kernel) (by decide +kernel)
set_option maxRecDepth 20000 in
theorem lr_wsX7_init_r2 : GoodIn lw_tbl wsX7_init_r2 := goodIn_r _ [65, 275, 220, 221, 66, 276, 254, 255, 67, 277, 278, 279, 94, 95, 96, 154, 97, 98, 99, 100, 101, 102, 103, 104] (by decide +kernel) (by decide +kernel)
set_option maxRecDepth 20000 in
theorem lr_wsX7_init_r3 : GoodIn lw_tbl wsX7_init_r3 := goodIn_r _ [105, 110, 115, 117, 120, 123, 157, 158, 159, 160, 161, 164, 165, 175, 176, 177, 178, 188, 179, 180, 192, 193, 194, 195] (by decide +kernel) (by decide +kernel)
set_option maxRecDepth 20000 in
theorem lr_wsX7_init_r4 : GoodIn lw_tbl wsX7_init_r4 := goodIn_r _ [196, 205, 206, 207, 223, 224, 225, 253, 226, 227, 229, 230, 232, 234, 236, 257, 258, 259, 260, 261] (by decide +kernel) (by decide +kernel)
theorem gi_wsX30 : GoodIn lw_tbl wsX30 := goodIn_sub inX3 (by decide +kernel)
theorem gi_wsX70 : GoodIn lw_tbl wsX70 := goodIn_sub inX7 (by decide +kernel)
theorem gi_wsX10 : GoodIn lw_tbl wsX10 := goodIn_sub inX1 (by decide +kernel)
theorem gi_wsX60 : GoodIn lw_tbl wsX60 := goodIn_sub inX6 (by decide +kernel)
theorem gi_wsX40 : GoodIn lw_tbl wsX40 := goodIn_sub inX4 (by decide +kernel)
theorem gi_wsX50 : GoodIn lw_tbl wsX50 := goodIn_sub inX5 (by decide +kernel)
theorem gi_wsX00 : GoodIn lw_tbl wsX00 := goodIn_sub inX0 (by decide +kernel)
theorem gi_wsX20 : GoodIn lw_tbl wsX20 := goodIn_sub inX2 (by decide +kernel)
theorem gw_wsX7_init : GoodIn lw_tbl wsX7_init := goodIn_app lr_0 (goodIn_app (goodIn_app (goodIn_app (goodIn_app (goodIn_app (goodIn_app (goodIn_app (goodIn_app (goodIn_app lr_wsX7_init_r1 (goodIn_app lr_wsX7_init_r2 (goodIn_app lr_wsX7_init_r3 lr_wsX7_init_r4))) gi_wsX30) gi_wsX70) gi_wsX10) gi_wsX60) gi_wsX40) gi_wsX50) gi_wsX00) gi_wsX20)
set_option maxRecDepth 20000 in
theorem lr_1 : GoodIn lw_tbl [Cond.code yX8_init cX8_init 1 none] := goodIn_r _ [1102] (by decide +kernel) (by decide +kernel)
set_option maxRecDepth 20000 in
theorem lr_2 : GoodIn lw_tbl [.methodLink RX8 1 objectInit, .instanceMethod objectInit, .code objectInit ⟨#[0xb1]⟩ 1 none, .arrayClass .int, .fieldLink RX8 7 "KeyWavesModel" "g" "[I", .fieldLink RX8 13 "KeyWavesModel" "kept" "[I", .fieldLink RX8 16 "KeyWavesModel" "saved" "[I", .fieldLink RX8 19 "KeyWavesModel" "before" "[I", .fieldLink RX8 22 "KeyWavesModel" "spare" "[I", .fieldLink RX8 25 "KeyWavesModel" "input" "[I", .fieldLink RX8 28 "KeyWavesModel" "fault0" "I", .arrayClass .char, .fieldLink RX8 32 "KeyWavesModel" "signs" "[C", .fieldLink RX8 36 "KeyWavesModel" "level" "[I", .arrayClass .boolean, .fieldLink RX8 39 "KeyWavesModel" "isGivenUp" "[Z", .fieldLink RX8 43 "KeyWavesModel" "told" "[I"] := goodIn_r _ [1103, 89, 90, 154, 1104, 1105, 1106, 1107, 1108, 1117, 1119, 253, 1120, 1122, 188, 1123, 1126] (by decide +kernel) (by decide +kernel)
theorem gi_wsX80 : GoodIn lw_tbl wsX80 := goodIn_sub inX8 (by decide +kernel)
theorem gf_wsL_law_x0 : GoodIn lw_tbl ((vx_atM "java/lang/ArrayIndexOutOfBoundsException" ["java/lang/IndexOutOfBoundsException", "java/lang/RuntimeException", "java/lang/Exception"]).filter goodWord) := goodIn_sub wsL_law_x0 (by decide +kernel)
theorem gw_wsX8_init : GoodIn lw_tbl wsX8_init := goodIn_app lr_1 (goodIn_app (goodIn_app lr_2 gi_wsX80) gf_wsL_law_x0)
set_option maxRecDepth 20000 in
theorem lr_3 : GoodIn lw_tbl [Cond.codeWith yL_key cL_key 5 (some .int) [(0, 10, 13, 13)]] := goodIn_r _ [468] (by decide +kernel) (by decide +kernel)
set_option maxRecDepth 20000 in
theorem lr_wsL_key_r1 : GoodIn lw_tbl wsL_key_r1 := goodIn_r _ [469, 470, 471, 472, 60, 473, 269, 268, 275, 309, 310, 311, 61, 312, 97, 313, 315, 314, 69, 98, 99, 100, 101, 102] (by decide +kernel) (by decide +kernel)
set_option maxRecDepth 20000 in
theorem lr_wsL_key_r2 : GoodIn lw_tbl wsL_key_r2 := goodIn_r _ [103, 104, 105, 110, 115, 117, 120, 123, 474, 475, 476, 477, 479, 480, 482, 483, 484, 485, 486, 65, 487, 208, 210, 488] (by decide +kernel) (by decide +kernel)
set_option maxRecDepth 20000 in
theorem lr_wsL_key_r3 : GoodIn lw_tbl wsL_key_r3 := goodIn_r _ [490, 9, 491, 492, 73, 212, 272, 564, 565, 566, 62, 567, 165, 568, 570, 11, 571, 164, 572, 574, 12, 575, 576] (by decide +kernel) (by decide +kernel)
theorem gf_wsL_law_x1 : GoodIn lw_tbl ((vx_atS RX7 344 "java/lang/UnsupportedOperationException" ["java/lang/RuntimeException", "java/lang/Exception"]).filter goodWord) := goodIn_sub wsL_law_x1 (by decide +kernel)
theorem gw_wsL_key : GoodIn lw_tbl wsL_key := goodIn_app lr_3 (goodIn_app (goodIn_app (goodIn_app (goodIn_app (goodIn_app (goodIn_app (goodIn_app lr_wsL_key_r1 (goodIn_app lr_wsL_key_r2 lr_wsL_key_r3)) gi_wsX70) gi_wsX30) gi_wsX50) gi_wsX10) gf_wsL_law_x0) gf_wsL_law_x1)
set_option maxRecDepth 20000 in
theorem lr_4 : GoodIn lw_tbl [Cond.methodLink RL 119 yL_key, Cond.static yL_key, Cond.initialized RL] := goodIn_r _ [466, 467, 59] (by decide +kernel) (by decide +kernel)
theorem la_119 : GoodIn lw_tbl (va_wsS RL 119 yL_key wsL_key) := goodIn_app lr_4 gw_wsL_key
set_option maxRecDepth 20000 in
theorem lr_5 : GoodIn lw_tbl [Cond.code yX8_key cX8_key 4 (some .int)] := goodIn_r _ [1184] (by decide +kernel) (by decide +kernel)
set_option maxRecDepth 20000 in
theorem lr_6 : GoodIn lw_tbl [.fieldLink RX8 7 "KeyWavesModel" "g" "[I", .methodLink RX8 72 yX8_in, .static yX8_in, .initialized RX8, .code yX8_in cX8_in 3 (some .boolean), .methodLink RX8 98 yX8_refuses, .instanceMethod yX8_refuses, .selects RX8 yX8_refuses yX8_refuses, .code yX8_refuses cX8_refuses 3 (some .int), .fieldLink RX8 46 "KeyWavesModel" "code" "I", .fieldLink RX8 49 "KeyWavesModel" "why" "I", .fieldLink RX8 52 "KeyWavesModel" "detail" "I", .fieldLink RX8 55 "KeyWavesModel" "isWithin" "Z", .fieldLink RX8 59 "KeyWavesModel" "done" "I", .fieldLink RX8 62 "KeyWavesModel" "index0" "I", .methodLink RX8 101 yX8_keeps, .instanceMethod yX8_keeps, .selects RX8 yX8_keeps yX8_keeps, .code yX8_keeps cX8_keeps 3 none, .fieldLink RX8 65 "KeyWavesModel" "changes" "I", .fieldLink RX8 13 "KeyWavesModel" "kept" "[I", .methodLink RX8 68 yX8_copies, .static yX8_copies, .code yX8_copies cX8_copies 5 none] := goodIn_r _ [1104, 1185, 1186, 68, 1187, 1188, 1190, 26, 1191, 1113, 1114, 1115, 1111, 1112, 1116, 1192, 1194, 27, 1195, 1110, 1105, 1196, 1197, 1198] (by decide +kernel) (by decide +kernel)
theorem gw_wsX8_key : GoodIn lw_tbl wsX8_key := goodIn_app lr_5 (goodIn_app (goodIn_app lr_6 gi_wsX80) gf_wsL_law_x0)
set_option maxRecDepth 20000 in
theorem lr_7 : GoodIn lw_tbl [Cond.methodLink RL 124 yX8_key, Cond.instanceMethod yX8_key, Cond.selects RX8 yX8_key yX8_key, Cond.initialized RX8] := goodIn_r _ [1181, 1182, 1183, 68] (by decide +kernel) (by decide +kernel)
theorem la_124 : GoodIn lw_tbl (wsV RL 124 RX8 yX8_key wsX8_key) := goodIn_app lr_7 gw_wsX8_key
set_option maxRecDepth 20000 in
theorem lr_8 : GoodIn lw_tbl [Cond.code yX8_thrown cX8_thrown 1 (some .int)] := goodIn_r _ [1180] (by decide +kernel) (by decide +kernel)
set_option maxRecDepth 20000 in
theorem lr_9 : GoodIn lw_tbl [.fieldLink RX8 46 "KeyWavesModel" "code" "I"] := goodIn_r _ [1113] (by decide +kernel) (by decide +kernel)
theorem gw_wsX8_thrown : GoodIn lw_tbl wsX8_thrown := goodIn_app lr_8 (goodIn_app lr_9 gi_wsX80)
set_option maxRecDepth 20000 in
theorem lr_10 : GoodIn lw_tbl [Cond.methodLink RL 125 yX8_thrown, Cond.instanceMethod yX8_thrown, Cond.selects RX8 yX8_thrown yX8_thrown, Cond.initialized RX8] := goodIn_r _ [1177, 1178, 1179, 68] (by decide +kernel) (by decide +kernel)
theorem la_125 : GoodIn lw_tbl (wsV RL 125 RX8 yX8_thrown wsX8_thrown) := goodIn_app lr_10 gw_wsX8_thrown
set_option maxRecDepth 20000 in
theorem lr_11 : GoodIn lw_tbl [Cond.codeWith yL_lock cL_lock 4 (some .int) [(0, 9, 12, 13)]] := goodIn_r _ [579] (by decide +kernel) (by decide +kernel)
set_option maxRecDepth 20000 in
theorem lr_wsL_lock_r1 : GoodIn lw_tbl wsL_lock_r1 := goodIn_r _ [469, 580, 581, 582, 60, 583, 269, 268, 275, 309, 310, 311, 61, 312, 97, 313, 315, 314, 69, 98, 99, 100, 101, 102] (by decide +kernel) (by decide +kernel)
set_option maxRecDepth 20000 in
theorem lr_wsL_lock_r2 : GoodIn lw_tbl wsL_lock_r2 := goodIn_r _ [103, 104, 105, 110, 115, 117, 120, 123, 584, 585, 586, 587, 479, 480, 484, 485, 486, 65, 487, 208, 210, 488, 490, 9] (by decide +kernel) (by decide +kernel)
set_option maxRecDepth 20000 in
theorem lr_wsL_lock_r3 : GoodIn lw_tbl wsL_lock_r3 := goodIn_r _ [491, 492, 73, 212, 272, 564, 565, 566, 62, 567, 165, 568, 570, 11, 571, 164, 572, 574, 12, 575, 576] (by decide +kernel) (by decide +kernel)
theorem gw_wsL_lock : GoodIn lw_tbl wsL_lock := goodIn_app lr_11 (goodIn_app (goodIn_app (goodIn_app (goodIn_app (goodIn_app (goodIn_app (goodIn_app lr_wsL_lock_r1 (goodIn_app lr_wsL_lock_r2 lr_wsL_lock_r3)) gi_wsX70) gi_wsX30) gi_wsX50) gi_wsX10) gf_wsL_law_x0) gf_wsL_law_x1)
set_option maxRecDepth 20000 in
theorem lr_12 : GoodIn lw_tbl [Cond.methodLink RL 128 yL_lock, Cond.static yL_lock, Cond.initialized RL] := goodIn_r _ [577, 578, 59] (by decide +kernel) (by decide +kernel)
theorem la_128 : GoodIn lw_tbl (va_wsS RL 128 yL_lock wsL_lock) := goodIn_app lr_12 gw_wsL_lock
set_option maxRecDepth 20000 in
theorem lr_13 : GoodIn lw_tbl [Cond.code yX8_lock cX8_lock 3 (some .int)] := goodIn_r _ [1202] (by decide +kernel) (by decide +kernel)
theorem gw_wsX8_lock : GoodIn lw_tbl wsX8_lock := goodIn_app lr_13 (goodIn_app (goodIn_app lr_6 gi_wsX80) gf_wsL_law_x0)
set_option maxRecDepth 20000 in
theorem lr_14 : GoodIn lw_tbl [Cond.methodLink RL 131 yX8_lock, Cond.instanceMethod yX8_lock, Cond.selects RX8 yX8_lock yX8_lock, Cond.initialized RX8] := goodIn_r _ [1199, 1200, 1201, 68] (by decide +kernel) (by decide +kernel)
theorem la_131 : GoodIn lw_tbl (wsV RL 131 RX8 yX8_lock wsX8_lock) := goodIn_app lr_14 gw_wsX8_lock
set_option maxRecDepth 20000 in
theorem lr_15 : GoodIn lw_tbl [Cond.codeWith yL_cut cL_cut 5 (some .int) [(0, 10, 13, 13)]] := goodIn_r _ [590] (by decide +kernel) (by decide +kernel)
set_option maxRecDepth 20000 in
theorem lr_wsL_cut_r1 : GoodIn lw_tbl wsL_cut_r1 := goodIn_r _ [469, 591, 592, 593, 60, 594, 269, 268, 275, 309, 310, 311, 61, 312, 97, 313, 315, 314, 69, 98, 99, 100, 101, 102] (by decide +kernel) (by decide +kernel)
set_option maxRecDepth 20000 in
theorem lr_wsL_cut_r2 : GoodIn lw_tbl wsL_cut_r2 := goodIn_r _ [103, 104, 105, 110, 115, 117, 120, 123, 595, 596, 597, 598, 332, 325, 326, 327, 484, 485, 486, 65, 487, 208, 210, 479] (by decide +kernel) (by decide +kernel)
set_option maxRecDepth 20000 in
theorem lr_wsL_cut_r3 : GoodIn lw_tbl wsL_cut_r3 := goodIn_r _ [480, 349, 350, 74, 351, 352, 353, 354, 599, 601, 13, 602, 603, 329, 330, 331, 345, 346, 347, 348, 604, 342, 343, 344] (by decide +kernel) (by decide +kernel)
set_option maxRecDepth 20000 in
theorem lr_wsL_cut_r4 : GoodIn lw_tbl wsL_cut_r4 := goodIn_r _ [488, 490, 9, 491, 492, 73, 212, 272, 564, 565, 566, 62, 567, 165, 568, 570, 11, 571, 164, 572, 574, 12, 575, 576] (by decide +kernel) (by decide +kernel)
theorem gw_wsL_cut : GoodIn lw_tbl wsL_cut := goodIn_app lr_15 (goodIn_app (goodIn_app (goodIn_app (goodIn_app (goodIn_app (goodIn_app (goodIn_app lr_wsL_cut_r1 (goodIn_app lr_wsL_cut_r2 (goodIn_app lr_wsL_cut_r3 lr_wsL_cut_r4))) gi_wsX70) gi_wsX30) gi_wsX50) gi_wsX10) gf_wsL_law_x0) gf_wsL_law_x1)
set_option maxRecDepth 20000 in
theorem lr_16 : GoodIn lw_tbl [Cond.methodLink RL 132 yL_cut, Cond.static yL_cut, Cond.initialized RL] := goodIn_r _ [588, 589, 59] (by decide +kernel) (by decide +kernel)
theorem la_132 : GoodIn lw_tbl (va_wsS RL 132 yL_cut wsL_cut) := goodIn_app lr_16 gw_wsL_cut
set_option maxRecDepth 20000 in
theorem lr_17 : GoodIn lw_tbl [Cond.code yX8_cut cX8_cut 4 (some .int)] := goodIn_r _ [1206] (by decide +kernel) (by decide +kernel)
set_option maxRecDepth 20000 in
theorem lr_wsX8_cut_r1 : GoodIn lw_tbl wsX8_cut_r1 := goodIn_r _ [1104, 1207, 1209, 28, 68, 1210, 1185, 1186, 1187, 1188, 1190, 26, 1191, 1113, 1114, 1115, 1111, 1112, 1116, 1211, 1213, 29, 1214, 1192] (by decide +kernel) (by decide +kernel)
set_option maxRecDepth 20000 in
theorem lr_wsX8_cut_r2 : GoodIn lw_tbl wsX8_cut_r2 := goodIn_r _ [1194, 27, 1195, 1110, 1105, 1196, 1197, 1198, 1215, 1216, 1217, 1218, 1220, 30, 1221, 1222, 1224, 31, 1225, 1226, 1228, 32, 1229, 1230] (by decide +kernel) (by decide +kernel)
set_option maxRecDepth 20000 in
theorem lr_wsX8_cut_r3 : GoodIn lw_tbl wsX8_cut_r3 := goodIn_r _ [1232, 33, 1233, 1234, 1236, 34, 1237] (by decide +kernel) (by decide +kernel)
theorem gw_wsX8_cut : GoodIn lw_tbl wsX8_cut := goodIn_app lr_17 (goodIn_app (goodIn_app (goodIn_app lr_wsX8_cut_r1 (goodIn_app lr_wsX8_cut_r2 lr_wsX8_cut_r3)) gi_wsX80) gf_wsL_law_x0)
set_option maxRecDepth 20000 in
theorem lr_18 : GoodIn lw_tbl [Cond.methodLink RL 134 yX8_cut, Cond.instanceMethod yX8_cut, Cond.selects RX8 yX8_cut yX8_cut, Cond.initialized RX8] := goodIn_r _ [1203, 1204, 1205, 68] (by decide +kernel) (by decide +kernel)
theorem la_134 : GoodIn lw_tbl (wsV RL 134 RX8 yX8_cut wsX8_cut) := goodIn_app lr_18 gw_wsX8_cut
set_option maxRecDepth 20000 in
theorem lr_19 : GoodIn lw_tbl [Cond.codeWith yL_bar cL_bar 6 (some .int) [(0, 12, 15, 13)]] := goodIn_r _ [607] (by decide +kernel) (by decide +kernel)
set_option maxRecDepth 20000 in
theorem lr_wsL_bar_r1 : GoodIn lw_tbl wsL_bar_r1 := goodIn_r _ [469, 608, 609, 610, 60, 611, 269, 268, 275, 309, 310, 311, 61, 312, 97, 313, 315, 314, 69, 98, 99, 100, 101, 102] (by decide +kernel) (by decide +kernel)
set_option maxRecDepth 20000 in
theorem lr_wsL_bar_r2 : GoodIn lw_tbl wsL_bar_r2 := goodIn_r _ [103, 104, 105, 110, 115, 117, 120, 123, 612, 613, 614, 615, 332, 325, 326, 327, 484, 485, 486, 65, 487, 208, 210, 345] (by decide +kernel) (by decide +kernel)
set_option maxRecDepth 20000 in
theorem lr_wsL_bar_r3 : GoodIn lw_tbl wsL_bar_r3 := goodIn_r _ [346, 347, 348, 616, 617, 618, 619, 620, 621, 622, 623, 599, 601, 13, 602, 603, 329, 330, 331, 604, 342, 343, 344, 349] (by decide +kernel) (by decide +kernel)
set_option maxRecDepth 20000 in
theorem lr_wsL_bar_r4 : GoodIn lw_tbl wsL_bar_r4 := goodIn_r _ [350, 74, 351, 352, 353, 354, 624, 625, 626, 627, 488, 490, 9, 491, 492, 73, 212, 272, 564, 565, 566, 62, 567, 165] (by decide +kernel) (by decide +kernel)
set_option maxRecDepth 20000 in
theorem lr_wsL_bar_r5 : GoodIn lw_tbl wsL_bar_r5 := goodIn_r _ [568, 570, 11, 571, 164, 572, 574, 12, 575, 576] (by decide +kernel) (by decide +kernel)
theorem gw_wsL_bar : GoodIn lw_tbl wsL_bar := goodIn_app lr_19 (goodIn_app (goodIn_app (goodIn_app (goodIn_app (goodIn_app (goodIn_app (goodIn_app lr_wsL_bar_r1 (goodIn_app lr_wsL_bar_r2 (goodIn_app lr_wsL_bar_r3 (goodIn_app lr_wsL_bar_r4 lr_wsL_bar_r5)))) gi_wsX70) gi_wsX30) gi_wsX50) gi_wsX10) gf_wsL_law_x0) gf_wsL_law_x1)
set_option maxRecDepth 20000 in
theorem lr_20 : GoodIn lw_tbl [Cond.methodLink RL 135 yL_bar, Cond.static yL_bar, Cond.initialized RL] := goodIn_r _ [605, 606, 59] (by decide +kernel) (by decide +kernel)
theorem la_135 : GoodIn lw_tbl (va_wsS RL 135 yL_bar wsL_bar) := goodIn_app lr_20 gw_wsL_bar
set_option maxRecDepth 20000 in
theorem lr_21 : GoodIn lw_tbl [Cond.code yX8_bar cX8_bar 5 (some .int)] := goodIn_r _ [1241] (by decide +kernel) (by decide +kernel)
set_option maxRecDepth 20000 in
theorem lr_wsX8_bar_r1 : GoodIn lw_tbl wsX8_bar_r1 := goodIn_r _ [1104, 1207, 1209, 28, 68, 1210, 1185, 1186, 1187, 1188, 1190, 26, 1191, 1113, 1114, 1115, 1111, 1112, 1116, 1242, 1244, 35, 1245, 1192] (by decide +kernel) (by decide +kernel)
set_option maxRecDepth 20000 in
theorem lr_wsX8_bar_r2 : GoodIn lw_tbl wsX8_bar_r2 := goodIn_r _ [1194, 27, 1195, 1110, 1105, 1196, 1197, 1198, 1218, 1220, 30, 1221, 1211, 1213, 29, 1214, 1222, 1224, 31, 1225, 1226, 1228, 32, 1229] (by decide +kernel) (by decide +kernel)
set_option maxRecDepth 20000 in
theorem lr_wsX8_bar_r3 : GoodIn lw_tbl wsX8_bar_r3 := goodIn_r _ [1230, 1232, 33, 1233, 1215, 1216, 1217, 1234, 1236, 34, 1237, 1246, 1248, 36, 1249] (by decide +kernel) (by decide +kernel)
theorem gw_wsX8_bar : GoodIn lw_tbl wsX8_bar := goodIn_app lr_21 (goodIn_app (goodIn_app (goodIn_app lr_wsX8_bar_r1 (goodIn_app lr_wsX8_bar_r2 lr_wsX8_bar_r3)) gi_wsX80) gf_wsL_law_x0)
set_option maxRecDepth 20000 in
theorem lr_22 : GoodIn lw_tbl [Cond.methodLink RL 138 yX8_bar, Cond.instanceMethod yX8_bar, Cond.selects RX8 yX8_bar yX8_bar, Cond.initialized RX8] := goodIn_r _ [1238, 1239, 1240, 68] (by decide +kernel) (by decide +kernel)
theorem la_138 : GoodIn lw_tbl (wsV RL 138 RX8 yX8_bar wsX8_bar) := goodIn_app lr_22 gw_wsX8_bar
set_option maxRecDepth 20000 in
theorem lr_23 : GoodIn lw_tbl [Cond.codeWith yL_slack cL_slack 4 (some .int) [(0, 9, 12, 13)]] := goodIn_r _ [630] (by decide +kernel) (by decide +kernel)
set_option maxRecDepth 20000 in
theorem lr_wsL_slack_r1 : GoodIn lw_tbl wsL_slack_r1 := goodIn_r _ [469, 631, 632, 633, 60, 634, 269, 268, 275, 309, 310, 311, 61, 312, 97, 313, 315, 314, 69, 98, 99, 100, 101, 102] (by decide +kernel) (by decide +kernel)
set_option maxRecDepth 20000 in
theorem lr_wsL_slack_r2 : GoodIn lw_tbl wsL_slack_r2 := goodIn_r _ [103, 104, 105, 110, 115, 117, 120, 123, 635, 636, 637, 638, 484, 485, 486, 65, 487, 208, 210, 599, 601, 13, 602, 603] (by decide +kernel) (by decide +kernel)
set_option maxRecDepth 20000 in
theorem lr_wsL_slack_r3 : GoodIn lw_tbl wsL_slack_r3 := goodIn_r _ [329, 330, 331, 332, 325, 326, 327, 345, 346, 347, 348, 604, 342, 343, 344, 349, 350, 74, 351, 352, 353, 354, 488, 490] (by decide +kernel) (by decide +kernel)
set_option maxRecDepth 20000 in
theorem lr_wsL_slack_r4 : GoodIn lw_tbl wsL_slack_r4 := goodIn_r _ [9, 491, 492, 73, 212, 272, 564, 565, 566, 62, 567, 165, 568, 570, 11, 571, 164, 572, 574, 12, 575, 576] (by decide +kernel) (by decide +kernel)
theorem gw_wsL_slack : GoodIn lw_tbl wsL_slack := goodIn_app lr_23 (goodIn_app (goodIn_app (goodIn_app (goodIn_app (goodIn_app (goodIn_app (goodIn_app lr_wsL_slack_r1 (goodIn_app lr_wsL_slack_r2 (goodIn_app lr_wsL_slack_r3 lr_wsL_slack_r4))) gi_wsX70) gi_wsX30) gi_wsX50) gi_wsX10) gf_wsL_law_x0) gf_wsL_law_x1)
set_option maxRecDepth 20000 in
theorem lr_24 : GoodIn lw_tbl [Cond.methodLink RL 139 yL_slack, Cond.static yL_slack, Cond.initialized RL] := goodIn_r _ [628, 629, 59] (by decide +kernel) (by decide +kernel)
theorem la_139 : GoodIn lw_tbl (va_wsS RL 139 yL_slack wsL_slack) := goodIn_app lr_24 gw_wsL_slack
set_option maxRecDepth 20000 in
theorem lr_25 : GoodIn lw_tbl [Cond.code yX8_slack cX8_slack 2 (some .int)] := goodIn_r _ [1253] (by decide +kernel) (by decide +kernel)
set_option maxRecDepth 20000 in
theorem lr_wsX8_slack_r1 : GoodIn lw_tbl wsX8_slack_r1 := goodIn_r _ [1104, 1185, 1186, 68, 1187, 1188, 1190, 26, 1191, 1113, 1114, 1115, 1111, 1112, 1116, 1192, 1194, 27, 1195, 1110, 1105, 1196, 1197, 1198] (by decide +kernel) (by decide +kernel)
set_option maxRecDepth 20000 in
theorem lr_wsX8_slack_r2 : GoodIn lw_tbl wsX8_slack_r2 := goodIn_r _ [1218, 1220, 30, 1221, 1211, 1213, 29, 1214, 1222, 1224, 31, 1225, 1226, 1228, 32, 1229, 1230, 1232, 33, 1233, 1215, 1216, 1217, 1234] (by decide +kernel) (by decide +kernel)
