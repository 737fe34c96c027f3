set_option maxRecDepth 20000 in
theorem lr_wsX8_fits_r1 : GoodIn lw_tbl wsX8_fits_r1 := goodIn_r _ [1310, 1312, 45, 68, 1313, 1207, 1209, 28, 1210, 1104, 1185, 1186, 1187, 1242, 1244, 35, 1245, 1290, 1292, 42, 1293, 1113, 1222, 1224] (by decide +kernel) (by decide +kernel)
set_option maxRecDepth 20000 in
theorem lr_wsX8_fits_r2 : GoodIn lw_tbl wsX8_fits_r2 := goodIn_r _ [31, 1225, 1226, 1228, 32, 1229, 1230, 1232, 33, 1233, 1211, 1213, 29, 1214, 1215, 1216, 1217] (by decide +kernel) (by decide +kernel)
theorem gw_wsX8_fits : GoodIn lw_tbl wsX8_fits := goodIn_app lr_49 (goodIn_app (goodIn_app (goodIn_app lr_wsX8_fits_r1 lr_wsX8_fits_r2) gi_wsX80) gf_wsL_law_x0)
set_option maxRecDepth 20000 in
theorem lr_50 : GoodIn lw_tbl [Cond.methodLink RL 160 yX8_fits, Cond.instanceMethod yX8_fits, Cond.selects RX8 yX8_fits yX8_fits, Cond.initialized RX8] := goodIn_r _ [1306, 1307, 1308, 68] (by decide +kernel) (by decide +kernel)
theorem la_160 : GoodIn lw_tbl (wsV RL 160 RX8 yX8_fits wsX8_fits) := goodIn_app lr_50 gw_wsX8_fits
set_option maxRecDepth 20000 in
theorem lr_51 : GoodIn lw_tbl [Cond.codeWith yL_isBarred cL_isBarred 5 (some .int) [(0, 17, 20, 42)]] := goodIn_r _ [799] (by decide +kernel) (by decide +kernel)
set_option maxRecDepth 20000 in
theorem lr_wsL_isBarred_r1 : GoodIn lw_tbl wsL_isBarred_r1 := goodIn_r _ [684, 800, 801, 802, 60, 803, 268, 713, 715, 15, 716, 718, 75, 717, 325, 326, 61, 327, 105, 772, 774, 16, 775, 776] (by decide +kernel) (by decide +kernel)
set_option maxRecDepth 20000 in
theorem lr_wsL_isBarred_r2 : GoodIn lw_tbl wsL_isBarred_r2 := goodIn_r _ [346, 347, 348, 110, 804, 617, 618, 619, 345, 620, 621, 622, 623, 99, 332] (by decide +kernel) (by decide +kernel)
theorem gw_wsL_isBarred : GoodIn lw_tbl wsL_isBarred := goodIn_app lr_51 (goodIn_app (goodIn_app (goodIn_app (goodIn_app (goodIn_app lr_wsL_isBarred_r1 lr_wsL_isBarred_r2) gi_wsX70) gi_wsX30) gf_wsL_law_x0) gf_wsL_law_x3)
set_option maxRecDepth 20000 in
theorem lr_52 : GoodIn lw_tbl [Cond.methodLink RL 161 yL_isBarred, Cond.static yL_isBarred, Cond.initialized RL] := goodIn_r _ [797, 798, 59] (by decide +kernel) (by decide +kernel)
theorem la_161 : GoodIn lw_tbl (va_wsS RL 161 yL_isBarred wsL_isBarred) := goodIn_app lr_52 gw_wsL_isBarred
set_option maxRecDepth 20000 in
theorem lr_53 : GoodIn lw_tbl [Cond.code yX8_isBarred cX8_isBarred 3 (some .boolean)] := goodIn_r _ [1317] (by decide +kernel) (by decide +kernel)
set_option maxRecDepth 20000 in
theorem lr_54 : GoodIn lw_tbl [.fieldLink RX8 7 "KeyWavesModel" "g" "[I", .methodLink RX8 147 yX8_isNoPair, .instanceMethod yX8_isNoPair, .selects RX8 yX8_isNoPair yX8_isNoPair, .initialized RX8, .code yX8_isNoPair cX8_isNoPair 3 (some .boolean), .methodLink RX8 105 yX8_isKey, .instanceMethod yX8_isKey, .selects RX8 yX8_isKey yX8_isKey, .code yX8_isKey cX8_isKey 2 (some .boolean), .methodLink RX8 72 yX8_in, .static yX8_in, .code yX8_in cX8_in 3 (some .boolean), .methodLink RX8 113 yX8_isLock, .instanceMethod yX8_isLock, .selects RX8 yX8_isLock yX8_isLock, .code yX8_isLock cX8_isLock 2 (some .boolean), .methodLink RX8 138 yX8_fails, .instanceMethod yX8_fails, .selects RX8 yX8_fails yX8_fails, .code yX8_fails cX8_fails 2 (some .boolean), .fieldLink RX8 46 "KeyWavesModel" "code" "I"] := goodIn_r _ [1104, 1310, 1312, 45, 68, 1313, 1207, 1209, 28, 1210, 1185, 1186, 1187, 1242, 1244, 35, 1245, 1290, 1292, 42, 1293, 1113] (by decide +kernel) (by decide +kernel)
theorem gw_wsX8_isBarred : GoodIn lw_tbl wsX8_isBarred := goodIn_app lr_53 (goodIn_app (goodIn_app lr_54 gi_wsX80) gf_wsL_law_x0)
set_option maxRecDepth 20000 in
theorem lr_55 : GoodIn lw_tbl [Cond.methodLink RL 163 yX8_isBarred, Cond.instanceMethod yX8_isBarred, Cond.selects RX8 yX8_isBarred yX8_isBarred, Cond.initialized RX8] := goodIn_r _ [1314, 1315, 1316, 68] (by decide +kernel) (by decide +kernel)
theorem la_163 : GoodIn lw_tbl (wsV RL 163 RX8 yX8_isBarred wsX8_isBarred) := goodIn_app lr_55 gw_wsX8_isBarred
set_option maxRecDepth 20000 in
theorem lr_56 : GoodIn lw_tbl [Cond.codeWith yL_costFor cL_costFor 5 (some .int) [(0, 10, 13, 42)]] := goodIn_r _ [807] (by decide +kernel) (by decide +kernel)
set_option maxRecDepth 20000 in
theorem lr_wsL_costFor_r1 : GoodIn lw_tbl wsL_costFor_r1 := goodIn_r _ [684, 808, 809, 810, 60, 811, 268, 713, 715, 15, 716, 718, 75, 717, 325, 326, 61, 327, 105, 772, 774, 16, 775, 776] (by decide +kernel) (by decide +kernel)
set_option maxRecDepth 20000 in
theorem lr_wsL_costFor_r2 : GoodIn lw_tbl wsL_costFor_r2 := goodIn_r _ [346, 347, 348, 110, 812, 813, 814, 815, 115, 816, 817, 79, 818, 650, 651, 652, 653, 654, 437, 438, 439, 102, 345, 655] (by decide +kernel) (by decide +kernel)
set_option maxRecDepth 20000 in
theorem lr_wsL_costFor_r3 : GoodIn lw_tbl wsL_costFor_r3 := goodIn_r _ [458, 459, 460, 97, 332, 349, 350, 74, 351, 352, 353, 354] (by decide +kernel) (by decide +kernel)
theorem gw_wsL_costFor : GoodIn lw_tbl wsL_costFor := goodIn_app lr_56 (goodIn_app (goodIn_app (goodIn_app (goodIn_app (goodIn_app lr_wsL_costFor_r1 (goodIn_app lr_wsL_costFor_r2 lr_wsL_costFor_r3)) gi_wsX70) gi_wsX30) gf_wsL_law_x0) gf_wsL_law_x3)
set_option maxRecDepth 20000 in
theorem lr_57 : GoodIn lw_tbl [Cond.methodLink RL 164 yL_costFor, Cond.static yL_costFor, Cond.initialized RL] := goodIn_r _ [805, 806, 59] (by decide +kernel) (by decide +kernel)
theorem la_164 : GoodIn lw_tbl (va_wsS RL 164 yL_costFor wsL_costFor) := goodIn_app lr_57 gw_wsL_costFor
set_option maxRecDepth 20000 in
theorem lr_58 : GoodIn lw_tbl [Cond.code yX8_costFor cX8_costFor 3 (some .int)] := goodIn_r _ [1321] (by decide +kernel) (by decide +kernel)
set_option maxRecDepth 20000 in
theorem lr_wsX8_costFor_r1 : GoodIn lw_tbl wsX8_costFor_r1 := goodIn_r _ [1310, 1312, 45, 68, 1313, 1207, 1209, 28, 1210, 1104, 1185, 1186, 1187, 1242, 1244, 35, 1245, 1290, 1292, 42, 1293, 1113, 1322, 1324] (by decide +kernel) (by decide +kernel)
set_option maxRecDepth 20000 in
theorem lr_wsX8_costFor_r2 : GoodIn lw_tbl wsX8_costFor_r2 := goodIn_r _ [46, 1325, 1211, 1213, 29, 1214, 1230, 1232, 33, 1233, 1215, 1216, 1217, 1226, 1228, 32, 1229] (by decide +kernel) (by decide +kernel)
theorem gw_wsX8_costFor : GoodIn lw_tbl wsX8_costFor := goodIn_app lr_58 (goodIn_app (goodIn_app (goodIn_app lr_wsX8_costFor_r1 lr_wsX8_costFor_r2) gi_wsX80) gf_wsL_law_x0)
set_option maxRecDepth 20000 in
theorem lr_59 : GoodIn lw_tbl [Cond.methodLink RL 166 yX8_costFor, Cond.instanceMethod yX8_costFor, Cond.selects RX8 yX8_costFor yX8_costFor, Cond.initialized RX8] := goodIn_r _ [1318, 1319, 1320, 68] (by decide +kernel) (by decide +kernel)
theorem la_166 : GoodIn lw_tbl (wsV RL 166 RX8 yX8_costFor wsX8_costFor) := goodIn_app lr_59 gw_wsX8_costFor
set_option maxRecDepth 20000 in
theorem lr_60 : GoodIn lw_tbl [Cond.codeWith yL_cheapest cL_cheapest 5 (some .int) [(0, 10, 13, 42), (0, 10, 17, 62)]] := goodIn_r _ [821] (by decide +kernel) (by decide +kernel)
set_option maxRecDepth 20000 in
theorem lr_wsL_cheapest_r1 : GoodIn lw_tbl wsL_cheapest_r1 := goodIn_r _ [684, 822, 823, 824, 825, 60, 826, 836, 80, 268, 772, 774, 16, 775, 718, 75, 776, 346, 347, 61, 348, 110, 827, 828] (by decide +kernel) (by decide +kernel)
set_option maxRecDepth 20000 in
theorem lr_wsL_cheapest_r2 : GoodIn lw_tbl wsL_cheapest_r2 := goodIn_r _ [829, 830, 105, 616, 617, 618, 619, 345, 620, 621, 622, 623, 99, 332, 325, 326, 327, 831, 833, 17, 834, 835, 813, 814] (by decide +kernel) (by decide +kernel)
set_option maxRecDepth 20000 in
theorem lr_wsL_cheapest_r3 : GoodIn lw_tbl wsL_cheapest_r3 := goodIn_r _ [815, 115, 816, 817, 79, 818, 650, 651, 652, 653, 654, 437, 438, 439, 102, 655, 458, 459, 460, 97, 349, 350, 74, 351] (by decide +kernel) (by decide +kernel)
set_option maxRecDepth 20000 in
theorem lr_wsL_cheapest_r4 : GoodIn lw_tbl wsL_cheapest_r4 := goodIn_r _ [352, 353, 354] (by decide +kernel) (by decide +kernel)
theorem gf_nse_in : GoodIn lw_tbl ((nse_at RX7 176).filter goodWord) := goodIn_sub nse_in (by decide +kernel)
theorem gw_wnL_cheapest : GoodIn lw_tbl wnL_cheapest := goodIn_app lr_60 (goodIn_app (goodIn_app (goodIn_app (goodIn_app (goodIn_app (goodIn_app lr_wsL_cheapest_r1 (goodIn_app lr_wsL_cheapest_r2 (goodIn_app lr_wsL_cheapest_r3 lr_wsL_cheapest_r4))) gi_wsX70) gi_wsX30) gf_wsL_law_x0) gf_nse_in) gf_wsL_law_x3)
set_option maxRecDepth 20000 in
theorem lr_61 : GoodIn lw_tbl [Cond.methodLink RL 167 yL_cheapest, Cond.static yL_cheapest, Cond.initialized RL] := goodIn_r _ [819, 820, 59] (by decide +kernel) (by decide +kernel)
theorem la_167 : GoodIn lw_tbl (va_wsS RL 167 yL_cheapest wnL_cheapest) := goodIn_app lr_61 gw_wnL_cheapest
set_option maxRecDepth 20000 in
theorem lr_62 : GoodIn lw_tbl [Cond.code yX8_cheapest cX8_cheapest 7 (some .int)] := goodIn_r _ [1329] (by decide +kernel) (by decide +kernel)
set_option maxRecDepth 20000 in
theorem lr_wsX8_cheapest_r1 : GoodIn lw_tbl wsX8_cheapest_r1 := goodIn_r _ [1104, 1113, 1242, 1244, 35, 68, 1245, 1185, 1186, 1187, 1290, 1292, 42, 1293, 1322, 1324, 46, 1325, 1211, 1213, 29, 1214, 1230, 1232] (by decide +kernel) (by decide +kernel)
set_option maxRecDepth 20000 in
theorem lr_wsX8_cheapest_r2 : GoodIn lw_tbl wsX8_cheapest_r2 := goodIn_r _ [33, 1233, 1215, 1216, 1217, 1226, 1228, 32, 1229] (by decide +kernel) (by decide +kernel)
theorem gw_wsX8_cheapest : GoodIn lw_tbl wsX8_cheapest := goodIn_app lr_62 (goodIn_app (goodIn_app (goodIn_app lr_wsX8_cheapest_r1 lr_wsX8_cheapest_r2) gi_wsX80) gf_wsL_law_x0)
set_option maxRecDepth 20000 in
theorem lr_63 : GoodIn lw_tbl [Cond.methodLink RL 169 yX8_cheapest, Cond.instanceMethod yX8_cheapest, Cond.selects RX8 yX8_cheapest yX8_cheapest, Cond.initialized RX8] := goodIn_r _ [1326, 1327, 1328, 68] (by decide +kernel) (by decide +kernel)
theorem la_169 : GoodIn lw_tbl (wsV RL 169 RX8 yX8_cheapest wsX8_cheapest) := goodIn_app lr_63 gw_wsX8_cheapest
set_option maxRecDepth 20000 in
theorem lr_64 : GoodIn lw_tbl [Cond.codeWith yL_length cL_length 3 (some .int) [(0, 8, 11, 62)]] := goodIn_r _ [854] (by decide +kernel) (by decide +kernel)
set_option maxRecDepth 20000 in
theorem lr_wsL_length_r1 : GoodIn lw_tbl wsL_length_r1 := goodIn_r _ [822, 855, 856, 857, 60, 858, 836, 80, 273, 268, 859, 860, 861, 63, 862, 180, 320, 322, 0, 323, 178, 107, 324, 325] (by decide +kernel) (by decide +kernel)
set_option maxRecDepth 20000 in
theorem lr_wsL_length_r2 : GoodIn lw_tbl wsL_length_r2 := goodIn_r _ [326, 61, 327, 105, 328, 329, 330, 331, 101, 332, 333, 335, 1, 336, 337, 339, 2, 340, 113, 341, 342, 343, 344, 102] (by decide +kernel) (by decide +kernel)
set_option maxRecDepth 20000 in
theorem lr_wsL_length_r3 : GoodIn lw_tbl wsL_length_r3 := goodIn_r _ [97, 115, 99, 345, 346, 347, 348, 110, 349, 350, 74, 351, 352, 353, 354, 355, 356, 357, 358, 103] (by decide +kernel) (by decide +kernel)
theorem gw_wnL_length : GoodIn lw_tbl wnL_length := goodIn_app lr_64 (goodIn_app (goodIn_app (goodIn_app (goodIn_app (goodIn_app (goodIn_app lr_wsL_length_r1 (goodIn_app lr_wsL_length_r2 lr_wsL_length_r3)) gi_wsX70) gi_wsX60) gi_wsX30) gf_wsL_law_x0) gf_nse_in)
set_option maxRecDepth 20000 in
theorem lr_65 : GoodIn lw_tbl [Cond.methodLink RL 170 yL_length, Cond.static yL_length, Cond.initialized RL] := goodIn_r _ [852, 853, 59] (by decide +kernel) (by decide +kernel)
theorem la_170 : GoodIn lw_tbl (va_wsS RL 170 yL_length wnL_length) := goodIn_app lr_65 gw_wnL_length
set_option maxRecDepth 20000 in
theorem lr_66 : GoodIn lw_tbl [Cond.code yX8_length cX8_length 2 (some .int)] := goodIn_r _ [1333] (by decide +kernel) (by decide +kernel)
set_option maxRecDepth 20000 in
theorem lr_wsX8_length_r1 : GoodIn lw_tbl wsX8_length_r1 := goodIn_r _ [1124, 1274, 1276, 39, 68, 1277, 1122, 1104, 1211, 1213, 29, 1214, 1222, 1224, 31, 1225, 1226, 1228, 32, 1229, 1230, 1232, 33, 1233] (by decide +kernel) (by decide +kernel)
set_option maxRecDepth 20000 in
theorem lr_wsX8_length_r2 : GoodIn lw_tbl wsX8_length_r2 := goodIn_r _ [1215, 1216, 1217, 1290, 1292, 42, 1293, 1113] (by decide +kernel) (by decide +kernel)
theorem gw_wsX8_length : GoodIn lw_tbl wsX8_length := goodIn_app lr_66 (goodIn_app (goodIn_app (goodIn_app lr_wsX8_length_r1 lr_wsX8_length_r2) gi_wsX80) gf_wsL_law_x0)
set_option maxRecDepth 20000 in
theorem lr_67 : GoodIn lw_tbl [Cond.methodLink RL 172 yX8_length, Cond.instanceMethod yX8_length, Cond.selects RX8 yX8_length yX8_length, Cond.initialized RX8] := goodIn_r _ [1330, 1331, 1332, 68] (by decide +kernel) (by decide +kernel)
theorem la_172 : GoodIn lw_tbl (wsV RL 172 RX8 yX8_length wsX8_length) := goodIn_app lr_67 gw_wsX8_length
set_option maxRecDepth 20000 in
theorem lr_68 : GoodIn lw_tbl [Cond.code yX7_adds cX7_adds 1 (some .int)] := goodIn_r _ [308] (by decide +kernel) (by decide +kernel)
set_option maxRecDepth 20000 in
theorem lr_wsX7_adds_r1 : GoodIn lw_tbl wsX7_adds_r1 := goodIn_r _ [271, 268, 273, 309, 310, 311, 61, 312, 97, 313, 315, 314, 69, 98, 99, 100, 101, 102, 103, 104, 105, 110, 115, 117] (by decide +kernel) (by decide +kernel)
set_option maxRecDepth 20000 in
theorem lr_wsX7_adds_r2 : GoodIn lw_tbl wsX7_adds_r2 := goodIn_r _ [120, 123, 316, 317, 318, 63, 319, 180, 179, 107, 118, 121, 320, 322, 0, 323, 178, 324, 325, 326, 327, 328, 329, 330] (by decide +kernel) (by decide +kernel)
set_option maxRecDepth 20000 in
theorem lr_wsX7_adds_r3 : GoodIn lw_tbl wsX7_adds_r3 := goodIn_r _ [331, 332, 333, 335, 1, 336, 337, 339, 2, 340, 113, 341, 342, 343, 344, 345, 346, 347, 348, 349, 350, 74, 351, 352] (by decide +kernel) (by decide +kernel)
set_option maxRecDepth 20000 in
theorem lr_wsX7_adds_r4 : GoodIn lw_tbl wsX7_adds_r4 := goodIn_r _ [353, 354, 355, 356, 357, 358, 359, 360, 361, 362, 364, 3, 365, 366, 367, 368, 369] (by decide +kernel) (by decide +kernel)
theorem gw_wsX7_adds : GoodIn lw_tbl wsX7_adds := goodIn_app lr_68 (goodIn_app (goodIn_app (goodIn_app (goodIn_app (goodIn_app lr_wsX7_adds_r1 (goodIn_app lr_wsX7_adds_r2 (goodIn_app lr_wsX7_adds_r3 lr_wsX7_adds_r4))) gi_wsX70) gi_wsX30) gi_wsX60) gf_wsL_law_x0)
set_option maxRecDepth 20000 in
theorem lr_69 : GoodIn lw_tbl [Cond.methodLink RL 173 yX7_adds, Cond.instanceMethod yX7_adds, Cond.selects RX7 yX7_adds yX7_adds, Cond.initialized RX7] := goodIn_r _ [305, 306, 307, 60] (by decide +kernel) (by decide +kernel)
theorem la_173 : GoodIn lw_tbl (wsV RL 173 RX7 yX7_adds wsX7_adds) := goodIn_app lr_69 gw_wsX7_adds
set_option maxRecDepth 20000 in
theorem lr_70 : GoodIn lw_tbl [Cond.code yX8_adds cX8_adds 2 (some .int)] := goodIn_r _ [1337] (by decide +kernel) (by decide +kernel)
set_option maxRecDepth 20000 in
theorem lr_wsX8_adds_r1 : GoodIn lw_tbl wsX8_adds_r1 := goodIn_r _ [1113, 1104, 1108, 1196, 1197, 68, 1198, 1278, 1280, 40, 1281, 1123, 1122, 1274, 1276, 39, 1277, 1124, 1211, 1213, 29, 1214, 1222, 1224] (by decide +kernel) (by decide +kernel)
set_option maxRecDepth 20000 in
theorem lr_wsX8_adds_r2 : GoodIn lw_tbl wsX8_adds_r2 := goodIn_r _ [31, 1225, 1226, 1228, 32, 1229, 1230, 1232, 33, 1233, 1215, 1216, 1217, 1282, 1284, 41, 1285, 1258, 1260, 37, 1261] (by decide +kernel) (by decide +kernel)
theorem gw_wsX8_adds : GoodIn lw_tbl wsX8_adds := goodIn_app lr_70 (goodIn_app (goodIn_app (goodIn_app lr_wsX8_adds_r1 lr_wsX8_adds_r2) gi_wsX80) gf_wsL_law_x0)
set_option maxRecDepth 20000 in
theorem lr_71 : GoodIn lw_tbl [Cond.methodLink RL 176 yX8_adds, Cond.instanceMethod yX8_adds, Cond.selects RX8 yX8_adds yX8_adds, Cond.initialized RX8] := goodIn_r _ [1334, 1335, 1336, 68] (by decide +kernel) (by decide +kernel)
theorem la_176 : GoodIn lw_tbl (wsV RL 176 RX8 yX8_adds wsX8_adds) := goodIn_app lr_71 gw_wsX8_adds
set_option maxRecDepth 20000 in
theorem lr_72 : GoodIn lw_tbl [Cond.code yX7_waves cX7_waves 1 (some .int)] := goodIn_r _ [373] (by decide +kernel) (by decide +kernel)
set_option maxRecDepth 20000 in
theorem lr_wsX7_waves_r1 : GoodIn lw_tbl wsX7_waves_r1 := goodIn_r _ [271, 268, 273, 309, 310, 311, 61, 312, 97, 313, 315, 314, 69, 98, 99, 100, 101, 102, 103, 104, 105, 110, 115, 117] (by decide +kernel) (by decide +kernel)
set_option maxRecDepth 20000 in
theorem lr_wsX7_waves_r2 : GoodIn lw_tbl wsX7_waves_r2 := goodIn_r _ [120, 123, 374, 375, 376, 63, 377, 378, 317, 318, 319, 180, 179, 107, 118, 121, 320, 322, 0, 323, 178, 324, 325, 326] (by decide +kernel) (by decide +kernel)
set_option maxRecDepth 20000 in
theorem lr_wsX7_waves_r3 : GoodIn lw_tbl wsX7_waves_r3 := goodIn_r _ [327, 328, 329, 330, 331, 332, 333, 335, 1, 336, 337, 339, 2, 340, 113, 341, 342, 343, 344, 345, 346, 347, 348, 349] (by decide +kernel) (by decide +kernel)
set_option maxRecDepth 20000 in
theorem lr_wsX7_waves_r4 : GoodIn lw_tbl wsX7_waves_r4 := goodIn_r _ [350, 74, 351, 352, 353, 354, 355, 356, 357, 358, 359, 360, 361, 362, 364, 3, 365, 366, 367, 368, 369] (by decide +kernel) (by decide +kernel)
theorem gw_wsX7_waves : GoodIn lw_tbl wsX7_waves := goodIn_app lr_72 (goodIn_app (goodIn_app (goodIn_app (goodIn_app (goodIn_app lr_wsX7_waves_r1 (goodIn_app lr_wsX7_waves_r2 (goodIn_app lr_wsX7_waves_r3 lr_wsX7_waves_r4))) gi_wsX70) gi_wsX30) gi_wsX60) gf_wsL_law_x0)
set_option maxRecDepth 20000 in
theorem lr_73 : GoodIn lw_tbl [Cond.methodLink RL 177 yX7_waves, Cond.instanceMethod yX7_waves, Cond.selects RX7 yX7_waves yX7_waves, Cond.initialized RX7] := goodIn_r _ [370, 371, 372, 60] (by decide +kernel) (by decide +kernel)
theorem la_177 : GoodIn lw_tbl (wsV RL 177 RX7 yX7_waves wsX7_waves) := goodIn_app lr_73 gw_wsX7_waves
set_option maxRecDepth 20000 in
theorem lr_74 : GoodIn lw_tbl [Cond.code yX8_waves cX8_waves 2 (some .int)] := goodIn_r _ [1341] (by decide +kernel) (by decide +kernel)
set_option maxRecDepth 20000 in
theorem lr_wsX8_waves_r1 : GoodIn lw_tbl wsX8_waves_r1 := goodIn_r _ [1113, 1104, 1108, 1196, 1197, 68, 1198, 1342, 1344, 47, 1345, 1278, 1280, 40, 1281, 1123, 1122, 1274, 1276, 39, 1277, 1124, 1211, 1213] (by decide +kernel) (by decide +kernel)
set_option maxRecDepth 20000 in
theorem lr_wsX8_waves_r2 : GoodIn lw_tbl wsX8_waves_r2 := goodIn_r _ [29, 1214, 1222, 1224, 31, 1225, 1226, 1228, 32, 1229, 1230, 1232, 33, 1233, 1215, 1216, 1217, 1282, 1284, 41, 1285, 1258, 1260, 37] (by decide +kernel) (by decide +kernel)
set_option maxRecDepth 20000 in
theorem lr_wsX8_waves_r3 : GoodIn lw_tbl wsX8_waves_r3 := goodIn_r _ [1261] (by decide +kernel) (by decide +kernel)
theorem gw_wsX8_waves : GoodIn lw_tbl wsX8_waves := goodIn_app lr_74 (goodIn_app (goodIn_app (goodIn_app lr_wsX8_waves_r1 (goodIn_app lr_wsX8_waves_r2 lr_wsX8_waves_r3)) gi_wsX80) gf_wsL_law_x0)
set_option maxRecDepth 20000 in
theorem lr_75 : GoodIn lw_tbl [Cond.methodLink RL 180 yX8_waves, Cond.instanceMethod yX8_waves, Cond.selects RX8 yX8_waves yX8_waves, Cond.initialized RX8] := goodIn_r _ [1338, 1339, 1340, 68] (by decide +kernel) (by decide +kernel)
theorem la_180 : GoodIn lw_tbl (wsV RL 180 RX8 yX8_waves wsX8_waves) := goodIn_app lr_75 gw_wsX8_waves
set_option maxRecDepth 20000 in
theorem lr_76 : GoodIn lw_tbl [Cond.code yX7_most cX7_most 1 (some .int)] := goodIn_r _ [382] (by decide +kernel) (by decide +kernel)
set_option maxRecDepth 20000 in
theorem lr_wsX7_most_r1 : GoodIn lw_tbl wsX7_most_r1 := goodIn_r _ [271, 268, 273, 309, 310, 311, 61, 312, 97, 313, 315, 314, 69, 98, 99, 100, 101, 102, 103, 104, 105, 110, 115, 117] (by decide +kernel) (by decide +kernel)
set_option maxRecDepth 20000 in
theorem lr_wsX7_most_r2 : GoodIn lw_tbl wsX7_most_r2 := goodIn_r _ [120, 123, 374, 375, 376, 63, 377, 378, 317, 318, 319, 180, 179, 107, 118, 121, 320, 322, 0, 323, 178, 324, 325, 326] (by decide +kernel) (by decide +kernel)
set_option maxRecDepth 20000 in
theorem lr_wsX7_most_r3 : GoodIn lw_tbl wsX7_most_r3 := goodIn_r _ [327, 328, 329, 330, 331, 332, 333, 335, 1, 336, 337, 339, 2, 340, 113, 341, 342, 343, 344, 345, 346, 347, 348, 349] (by decide +kernel) (by decide +kernel)
