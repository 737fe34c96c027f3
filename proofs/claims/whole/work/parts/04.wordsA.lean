set_option maxRecDepth 20000 in
theorem wsL_law0_r1_in : ∀ w ∈ wsL_law0_r1, w ∈ lw_tbl := fun w h => (goodIn_r wsL_law0_r1 [83, 84, 60, 1098, 1099, 68, 1474, 1475, 85, 86, 87, 88, 89, 90, 91, 92, 61, 268, 269, 270, 271, 155, 156, 62] (by decide +kernel) (by decide +kernel) w h).1
set_option maxRecDepth 20000 in
theorem wsL_law0_r2_in : ∀ w ∈ wsL_law0_r2, w ∈ lw_tbl := fun w h => (goodIn_r wsL_law0_r2 [272, 172, 173, 63, 273, 189, 190, 64, 274, 202, 203, 65, 275, 220, 221, 66, 276, 254, 255, 67, 277, 278, 279, 94] (by decide +kernel) (by decide +kernel) w h).1
set_option maxRecDepth 20000 in
theorem wsL_law0_r3_in : ∀ w ∈ wsL_law0_r3, w ∈ lw_tbl := fun w h => (goodIn_r wsL_law0_r3 [95, 96, 154, 97, 98, 99, 100, 101, 102, 103, 104, 105, 110, 115, 117, 120, 123, 157, 158, 159, 160, 161, 164, 165] (by decide +kernel) (by decide +kernel) w h).1
set_option maxRecDepth 20000 in
theorem wsL_law0_r4_in : ∀ w ∈ wsL_law0_r4, w ∈ lw_tbl := fun w h => (goodIn_r wsL_law0_r4 [175, 176, 177, 178, 188, 179, 180, 192, 193, 194, 195, 196, 205, 206, 207, 223, 224, 225, 253, 226, 227, 229, 230, 232] (by decide +kernel) (by decide +kernel) w h).1
set_option maxRecDepth 20000 in
theorem wsL_law0_r5_in : ∀ w ∈ wsL_law0_r5, w ∈ lw_tbl := fun w h => (goodIn_r wsL_law0_r5 [234, 236, 257, 258, 259, 260, 261, 1100, 1101, 1102, 1103, 1104, 1105, 1106, 1107, 1108, 1117, 1119, 1120, 1122, 1123, 1126, 466, 467] (by decide +kernel) (by decide +kernel) w h).1
set_option maxRecDepth 20000 in
theorem wsL_law0_r6_in : ∀ w ∈ wsL_law0_r6, w ∈ lw_tbl := fun w h => (goodIn_r wsL_law0_r6 [59, 468, 469, 470, 471, 472, 473, 309, 310, 311, 312, 313, 315, 314, 69, 474, 475, 476, 477, 479, 480, 482, 483, 484] (by decide +kernel) (by decide +kernel) w h).1
set_option maxRecDepth 20000 in
theorem wsL_law0_r7_in : ∀ w ∈ wsL_law0_r7, w ∈ lw_tbl := fun w h => (goodIn_r wsL_law0_r7 [485, 486, 487, 208, 210, 488, 490, 9, 491, 492, 73, 212, 564, 565, 566, 567, 568, 570, 11, 571, 572, 574, 12, 575] (by decide +kernel) (by decide +kernel) w h).1
set_option maxRecDepth 20000 in
theorem wsL_law0_r8_in : ∀ w ∈ wsL_law0_r8, w ∈ lw_tbl := fun w h => (goodIn_r wsL_law0_r8 [576, 1181, 1182, 1183, 1184, 1185, 1186, 1187, 1188, 1190, 26, 1191, 1113, 1114, 1115, 1111, 1112, 1116, 1192, 1194, 27, 1195, 1110, 1196] (by decide +kernel) (by decide +kernel) w h).1
set_option maxRecDepth 20000 in
theorem wsL_law0_r9_in : ∀ w ∈ wsL_law0_r9, w ∈ lw_tbl := fun w h => (goodIn_r wsL_law0_r9 [1197, 1198, 1177, 1178, 1179, 1180, 577, 578, 579, 580, 581, 582, 583, 584, 585, 586, 587, 1199, 1200, 1201, 1202, 588, 589, 590] (by decide +kernel) (by decide +kernel) w h).1
set_option maxRecDepth 20000 in
theorem wsL_law0_r10_in : ∀ w ∈ wsL_law0_r10, w ∈ lw_tbl := fun w h => (goodIn_r wsL_law0_r10 [591, 592, 593, 594, 595, 596, 597, 598, 332, 325, 326, 327, 349, 350, 74, 351, 352, 353, 354, 599, 601, 13, 602, 603] (by decide +kernel) (by decide +kernel) w h).1
set_option maxRecDepth 20000 in
theorem wsL_law0_r11_in : ∀ w ∈ wsL_law0_r11, w ∈ lw_tbl := fun w h => (goodIn_r wsL_law0_r11 [329, 330, 331, 345, 346, 347, 348, 604, 342, 343, 344, 1203, 1204, 1205, 1206, 1207, 1209, 28, 1210, 1211, 1213, 29, 1214, 1215] (by decide +kernel) (by decide +kernel) w h).1
set_option maxRecDepth 20000 in
theorem wsL_law0_r12_in : ∀ w ∈ wsL_law0_r12, w ∈ lw_tbl := fun w h => (goodIn_r wsL_law0_r12 [1216, 1217, 1218, 1220, 30, 1221, 1222, 1224, 31, 1225, 1226, 1228, 32, 1229, 1230, 1232, 33, 1233, 1234, 1236, 34, 1237, 605, 606] (by decide +kernel) (by decide +kernel) w h).1
set_option maxRecDepth 20000 in
theorem wsL_law0_r13_in : ∀ w ∈ wsL_law0_r13, w ∈ lw_tbl := fun w h => (goodIn_r wsL_law0_r13 [607, 608, 609, 610, 611, 612, 613, 614, 615, 616, 617, 618, 619, 620, 621, 622, 623, 624, 625, 626, 627, 1238, 1239, 1240] (by decide +kernel) (by decide +kernel) w h).1
set_option maxRecDepth 20000 in
theorem wsL_law0_r14_in : ∀ w ∈ wsL_law0_r14, w ∈ lw_tbl := fun w h => (goodIn_r wsL_law0_r14 [1241, 1242, 1244, 35, 1245, 1246, 1248, 36, 1249, 628, 629, 630, 631, 632, 633, 634, 635, 636, 637, 638, 1250, 1251, 1252, 1253] (by decide +kernel) (by decide +kernel) w h).1
set_option maxRecDepth 20000 in
theorem wsL_law0_r15_in : ∀ w ∈ wsL_law0_r15, w ∈ lw_tbl := fun w h => (goodIn_r wsL_law0_r15 [639, 640, 641, 642, 643, 644, 645, 646, 647, 648, 649, 650, 651, 652, 653, 654, 437, 438, 439, 655, 458, 459, 460, 656] (by decide +kernel) (by decide +kernel) w h).1
set_option maxRecDepth 20000 in
theorem wsL_law0_r16_in : ∀ w ∈ wsL_law0_r16, w ∈ lw_tbl := fun w h => (goodIn_r wsL_law0_r16 [367, 368, 369, 657, 384, 385, 386, 387, 356, 357, 358, 1254, 1255, 1256, 1257, 1258, 1260, 37, 1261, 1262, 1264, 38, 1265, 658] (by decide +kernel) (by decide +kernel) w h).1
