set_option maxRecDepth 20000 in
theorem wsL_law0_r17_in : ∀ w ∈ wsL_law0_r17, w ∈ lw_tbl := fun w h => (goodIn_r wsL_law0_r17 [659, 660, 661, 662, 663, 664, 665, 666, 667, 668, 1266, 1267, 1268, 1269, 669, 670, 671, 672, 673, 674, 675, 676, 678, 14] (by decide +kernel) (by decide +kernel) w h).1
set_option maxRecDepth 20000 in
theorem wsL_law0_r18_in : ∀ w ∈ wsL_law0_r18, w ∈ lw_tbl := fun w h => (goodIn_r wsL_law0_r18 [679, 316, 317, 318, 319, 107, 118, 121, 320, 322, 0, 323, 324, 328, 333, 335, 1, 336, 337, 339, 2, 340, 113, 341] (by decide +kernel) (by decide +kernel) w h).1
set_option maxRecDepth 20000 in
theorem wsL_law0_r19_in : ∀ w ∈ wsL_law0_r19, w ∈ lw_tbl := fun w h => (goodIn_r wsL_law0_r19 [355, 359, 360, 361, 362, 364, 3, 365, 366, 383, 680, 1270, 1271, 1272, 1273, 1274, 1276, 39, 1277, 1124, 1278, 1280, 40, 1281] (by decide +kernel) (by decide +kernel) w h).1
set_option maxRecDepth 20000 in
theorem wsL_law0_r20_in : ∀ w ∈ wsL_law0_r20, w ∈ lw_tbl := fun w h => (goodIn_r wsL_law0_r20 [1282, 1284, 41, 1285, 681, 682, 683, 684, 708, 709, 710, 711, 712, 749, 78, 713, 715, 15, 716, 718, 75, 717, 731, 732] (by decide +kernel) (by decide +kernel) w h).1
set_option maxRecDepth 20000 in
theorem wsL_law0_r21_in : ∀ w ∈ wsL_law0_r21, w ∈ lw_tbl := fun w h => (goodIn_r wsL_law0_r21 [733, 734, 735, 736, 737, 738, 739, 740, 741, 742, 743, 744, 745, 746, 747, 748, 1286, 1287, 1288, 1289, 1290, 1292, 42, 1293] (by decide +kernel) (by decide +kernel) w h).1
set_option maxRecDepth 20000 in
theorem wsL_law0_r22_in : ∀ w ∈ wsL_law0_r22, w ∈ lw_tbl := fun w h => (goodIn_r wsL_law0_r22 [1294, 1296, 43, 1297, 1298, 1300, 44, 1301, 765, 766, 767, 768, 769, 770, 771, 772, 774, 16, 775, 776, 778, 779, 780, 781] (by decide +kernel) (by decide +kernel) w h).1
set_option maxRecDepth 20000 in
theorem wsL_law0_r23_in : ∀ w ∈ wsL_law0_r23, w ∈ lw_tbl := fun w h => (goodIn_r wsL_law0_r23 [782, 783, 784, 785, 786, 787, 1302, 1303, 1304, 1305, 789, 790, 791, 792, 793, 794, 795, 796, 1306, 1307, 1308, 1309, 1310, 1312] (by decide +kernel) (by decide +kernel) w h).1
set_option maxRecDepth 20000 in
theorem wsL_law0_r24_in : ∀ w ∈ wsL_law0_r24, w ∈ lw_tbl := fun w h => (goodIn_r wsL_law0_r24 [45, 1313, 797, 798, 799, 800, 801, 802, 803, 804, 1314, 1315, 1316, 1317, 805, 806, 807, 808, 809, 810, 811, 812, 813, 814] (by decide +kernel) (by decide +kernel) w h).1
set_option maxRecDepth 20000 in
theorem wsL_law0_r25_in : ∀ w ∈ wsL_law0_r25, w ∈ lw_tbl := fun w h => (goodIn_r wsL_law0_r25 [815, 816, 817, 79, 818, 1318, 1319, 1320, 1321, 1322, 1324, 46, 1325, 819, 820, 821, 822, 823, 824, 825, 826, 836, 80, 827] (by decide +kernel) (by decide +kernel) w h).1
set_option maxRecDepth 20000 in
theorem wsL_law0_r26_in : ∀ w ∈ wsL_law0_r26, w ∈ lw_tbl := fun w h => (goodIn_r wsL_law0_r26 [828, 829, 830, 831, 833, 17, 834, 835, 1326, 1327, 1328, 1329, 852, 853, 854, 855, 856, 857, 858, 859, 860, 861, 862, 1330] (by decide +kernel) (by decide +kernel) w h).1
set_option maxRecDepth 20000 in
theorem wsL_law0_r27_in : ∀ w ∈ wsL_law0_r27, w ∈ lw_tbl := fun w h => (goodIn_r wsL_law0_r27 [1331, 1332, 1333, 305, 306, 307, 308, 1334, 1335, 1336, 1337, 370, 371, 372, 373, 374, 375, 376, 377, 378, 1338, 1339, 1340, 1341] (by decide +kernel) (by decide +kernel) w h).1
set_option maxRecDepth 20000 in
theorem wsL_law0_r28_in : ∀ w ∈ wsL_law0_r28, w ∈ lw_tbl := fun w h => (goodIn_r wsL_law0_r28 [1342, 1344, 47, 1345, 379, 380, 381, 382, 1346, 1347, 1348, 1349, 1350, 1352, 48, 1353, 388, 389, 390, 391, 392, 393, 394, 395] (by decide +kernel) (by decide +kernel) w h).1
set_option maxRecDepth 20000 in
theorem wsL_law0_r29_in : ∀ w ∈ wsL_law0_r29, w ∈ lw_tbl := fun w h => (goodIn_r wsL_law0_r29 [106, 396, 398, 4, 399, 400, 401, 402, 111, 403, 1354, 1355, 1356, 1357, 404, 405, 406, 407, 408, 409, 410, 411, 412, 414] (by decide +kernel) (by decide +kernel) w h).1
set_option maxRecDepth 20000 in
theorem wsL_law0_r30_in : ∀ w ∈ wsL_law0_r30, w ∈ lw_tbl := fun w h => (goodIn_r wsL_law0_r30 [5, 415, 416, 417, 418, 419, 1358, 1359, 1360, 1361, 864, 865, 866, 867, 868, 869, 870, 1362, 1363, 1364, 1365, 871, 872, 873] (by decide +kernel) (by decide +kernel) w h).1
set_option maxRecDepth 20000 in
theorem wsL_law0_r31_in : ∀ w ∈ wsL_law0_r31, w ∈ lw_tbl := fun w h => (goodIn_r wsL_law0_r31 [874, 875, 876, 877, 1366, 1367, 1368, 1369, 878, 879, 880, 881, 882, 883, 884, 885, 887, 888, 889, 890, 891, 892, 893, 894] (by decide +kernel) (by decide +kernel) w h).1
set_option maxRecDepth 20000 in
theorem wsL_law0_r32_in : ∀ w ∈ wsL_law0_r32, w ∈ lw_tbl := fun w h => (goodIn_r wsL_law0_r32 [895, 896, 897, 898, 899, 900, 1370, 1371, 1372, 1373, 902, 903, 904, 905, 906, 907, 908, 909, 910, 911, 912, 913, 915, 18] (by decide +kernel) (by decide +kernel) w h).1
set_option maxRecDepth 20000 in
theorem wsL_law0_r33_in : ∀ w ∈ wsL_law0_r33, w ∈ lw_tbl := fun w h => (goodIn_r wsL_law0_r33 [916, 917, 919, 19, 920, 921, 1374, 1375, 1376, 1377, 1378, 1380, 49, 1381, 922, 923, 924, 925, 926, 927, 928, 929, 934, 81] (by decide +kernel) (by decide +kernel) w h).1
set_option maxRecDepth 20000 in
theorem wsL_law0_r34_in : ∀ w ∈ wsL_law0_r34, w ∈ lw_tbl := fun w h => (goodIn_r wsL_law0_r34 [228, 930, 931, 932, 933, 1382, 1383, 1384, 1385, 1118, 950, 951, 952, 953, 954, 955, 956, 231, 233, 235, 237, 957, 958, 959] (by decide +kernel) (by decide +kernel) w h).1
set_option maxRecDepth 20000 in
theorem wsL_law0_r35_in : ∀ w ∈ wsL_law0_r35, w ∈ lw_tbl := fun w h => (goodIn_r wsL_law0_r35 [960, 961, 962, 963, 964, 965, 967, 20, 968, 969, 971, 21, 972, 973, 975, 22, 976, 977, 979, 23, 980, 981, 982, 984] (by decide +kernel) (by decide +kernel) w h).1
set_option maxRecDepth 20000 in
theorem wsL_law0_r36_in : ∀ w ∈ wsL_law0_r36, w ∈ lw_tbl := fun w h => (goodIn_r wsL_law0_r36 [24, 985, 986, 988, 25, 989, 990, 991, 992, 993, 995, 996, 997, 998, 999, 1386, 1387, 1388, 1389, 1125, 1127, 1390, 1392, 50] (by decide +kernel) (by decide +kernel) w h).1
set_option maxRecDepth 20000 in
theorem wsL_law0_r37_in : ∀ w ∈ wsL_law0_r37, w ∈ lw_tbl := fun w h => (goodIn_r wsL_law0_r37 [1393, 1394, 1396, 51, 1397, 1398, 1400, 52, 1401, 1402, 1404, 53, 1405, 1406, 1408, 54, 1409, 1410, 1412, 55, 1413, 1414, 1415, 1416] (by decide +kernel) (by decide +kernel) w h).1
set_option maxRecDepth 20000 in
theorem wsL_law0_r38_in : ∀ w ∈ wsL_law0_r38, w ∈ lw_tbl := fun w h => (goodIn_r wsL_law0_r38 [1417, 1418, 1419, 1420, 1421, 420, 421, 422, 423, 1422, 1423, 1424, 1425, 1000, 1001, 1002, 1003, 1004, 1005, 1006, 209, 211, 1426, 1427] (by decide +kernel) (by decide +kernel) w h).1
set_option maxRecDepth 20000 in
theorem wsL_law0_r39_in : ∀ w ∈ wsL_law0_r39, w ∈ lw_tbl := fun w h => (goodIn_r wsL_law0_r39 [1428, 1429, 424, 425, 426, 427, 262, 428, 429, 430, 431, 432, 433, 434, 435, 112, 436, 440, 441, 443, 6, 444, 445, 447] (by decide +kernel) (by decide +kernel) w h).1
set_option maxRecDepth 20000 in
theorem wsL_law0_r40_in : ∀ w ∈ wsL_law0_r40, w ∈ lw_tbl := fun w h => (goodIn_r wsL_law0_r40 [7, 448, 449, 451, 8, 452, 453, 454, 455, 456, 108, 457, 461, 1430, 1431, 1432, 1433, 1121, 1434, 1436, 56, 1437, 1438, 1440] (by decide +kernel) (by decide +kernel) w h).1
set_option maxRecDepth 20000 in
theorem wsL_law0_r41_in : ∀ w ∈ wsL_law0_r41, w ∈ lw_tbl := fun w h => (goodIn_r wsL_law0_r41 [57, 1441, 1008, 1009, 1010, 1011, 1012, 1013, 1014, 1015, 1016, 1017, 1018, 1020, 1021, 1022, 1023, 1024, 1442, 1443, 1444, 1445, 1025, 1026] (by decide +kernel) (by decide +kernel) w h).1
set_option maxRecDepth 20000 in
theorem wsL_law0_r42_in : ∀ w ∈ wsL_law0_r42, w ∈ lw_tbl := fun w h => (goodIn_r wsL_law0_r42 [1027, 1028, 1042, 1043, 1044, 1045, 1046, 82, 109, 1049, 1050, 1051, 1052, 1446, 1447, 1448, 1449, 1450, 1452, 58, 1453, 1053, 1054, 1055] (by decide +kernel) (by decide +kernel) w h).1
set_option maxRecDepth 20000 in
theorem wsL_law0_r43_in : ∀ w ∈ wsL_law0_r43, w ∈ lw_tbl := fun w h => (goodIn_r wsL_law0_r43 [1056, 1057, 1058, 1059, 114, 1454, 1455, 1456, 1457, 1061, 1062, 1063, 1064, 1065, 1066, 1067, 116, 119, 122, 124, 166, 1068, 1069, 1070] (by decide +kernel) (by decide +kernel) w h).1
set_option maxRecDepth 20000 in
theorem wsL_law0_r44_in : ∀ w ∈ wsL_law0_r44, w ∈ lw_tbl := fun w h => (goodIn_r wsL_law0_r44 [1071, 1072, 1458, 1459, 1460, 1461, 1074, 1075, 1076, 1077, 1078, 1079, 1080, 1081, 1082, 1083, 1084, 1462, 1463, 1464, 1465, 462, 463, 464] (by decide +kernel) (by decide +kernel) w h).1
set_option maxRecDepth 20000 in
theorem wsL_law0_r45_in : ∀ w ∈ wsL_law0_r45, w ∈ lw_tbl := fun w h => (goodIn_r wsL_law0_r45 [465, 1466, 1467, 1468, 1469, 1109, 1086, 1087, 1088, 1089, 1090, 1091, 1092, 1094, 1095, 1096, 1097, 1470, 1471, 1472, 1473] (by decide +kernel) (by decide +kernel) w h).1
theorem wsX70_tb : ∀ w ∈ wsX70, w ∈ lw_tbl := by decide +kernel
theorem wsX80_tb : ∀ w ∈ wsX80, w ∈ lw_tbl := by decide +kernel
theorem wsX30_tb : ∀ w ∈ wsX30, w ∈ lw_tbl := by decide +kernel
theorem wsX10_tb : ∀ w ∈ wsX10, w ∈ lw_tbl := by decide +kernel
theorem wsX60_tb : ∀ w ∈ wsX60, w ∈ lw_tbl := by decide +kernel
theorem wsX40_tb : ∀ w ∈ wsX40, w ∈ lw_tbl := by decide +kernel
theorem wsX50_tb : ∀ w ∈ wsX50, w ∈ lw_tbl := by decide +kernel
theorem wsX00_tb : ∀ w ∈ wsX00, w ∈ lw_tbl := by decide +kernel
theorem wsX20_tb : ∀ w ∈ wsX20, w ∈ lw_tbl := by decide +kernel
set_option maxRecDepth 20000 in
theorem wsL_law_in0 : ∀ w ∈ wsL_law0, w ∈ lw_tbl := fun w h => (List.mem_append.mp h).elim (fun h => (List.mem_append.mp h).elim (fun h => (List.mem_append.mp h).elim (fun h => (List.mem_append.mp h).elim (fun h => (List.mem_append.mp h).elim (fun h => (List.mem_append.mp h).elim (fun h => (List.mem_append.mp h).elim (fun h => (List.mem_append.mp h).elim (fun h => (List.mem_append.mp h).elim (fun h => (List.mem_append.mp h).elim (fun h => (List.mem_append.mp h).elim (fun h => wsL_law0_r1_in w h) (fun h => (List.mem_append.mp h).elim (fun h => wsL_law0_r2_in w h) (fun h => (List.mem_append.mp h).elim (fun h => wsL_law0_r3_in w h) (fun h => (List.mem_append.mp h).elim (fun h => wsL_law0_r4_in w h) (fun h => (List.mem_append.mp h).elim (fun h => wsL_law0_r5_in w h) (fun h => (List.mem_append.mp h).elim (fun h => wsL_law0_r6_in w h) (fun h => (List.mem_append.mp h).elim (fun h => wsL_law0_r7_in w h) (fun h => (List.mem_append.mp h).elim (fun h => wsL_law0_r8_in w h) (fun h => (List.mem_append.mp h).elim (fun h => wsL_law0_r9_in w h) (fun h => (List.mem_append.mp h).elim (fun h => wsL_law0_r10_in w h) (fun h => (List.mem_append.mp h).elim (fun h => wsL_law0_r11_in w h) (fun h => (List.mem_append.mp h).elim (fun h => wsL_law0_r12_in w h) (fun h => (List.mem_append.mp h).elim (fun h => wsL_law0_r13_in w h) (fun h => (List.mem_append.mp h).elim (fun h => wsL_law0_r14_in w h) (fun h => (List.mem_append.mp h).elim (fun h => wsL_law0_r15_in w h) (fun h => (List.mem_append.mp h).elim (fun h => wsL_law0_r16_in w h) (fun h => (List.mem_append.mp h).elim (fun h => wsL_law0_r17_in w h) (fun h => (List.mem_append.mp h).elim (fun h => wsL_law0_r18_in w h) (fun h => (List.mem_append.mp h).elim (fun h => wsL_law0_r19_in w h) (fun h => (List.mem_append.mp h).elim (fun h => wsL_law0_r20_in w h) (fun h => (List.mem_append.mp h).elim (fun h => wsL_law0_r21_in w h) (fun h => (List.mem_append.mp h).elim (fun h => wsL_law0_r22_in w h) (fun h => (List.mem_append.mp h).elim (fun h => wsL_law0_r23_in w h) (fun h => (List.mem_append.mp h).elim (fun h => wsL_law0_r24_in w h) (fun h => (List.mem_append.mp h).elim (fun h => wsL_law0_r25_in w h) (fun h => (List.mem_append.mp h).elim (fun h => wsL_law0_r26_in w h) (fun h => (List.mem_append.mp h).elim (fun h => wsL_law0_r27_in w h) (fun h => (List.mem_append.mp h).elim (fun h => wsL_law0_r28_in w h) (fun h => (List.mem_append.mp h).elim (fun h => wsL_law0_r29_in w h) (fun h => (List.mem_append.mp h).elim (fun h => wsL_law0_r30_in w h) (fun h => (List.mem_append.mp h).elim (fun h => wsL_law0_r31_in w h) (fun h => (List.mem_append.mp h).elim (fun h => wsL_law0_r32_in w h) (fun h => (List.mem_append.mp h).elim (fun h => wsL_law0_r33_in w h) (fun h => (List.mem_append.mp h).elim (fun h => wsL_law0_r34_in w h) (fun h => (List.mem_append.mp h).elim (fun h => wsL_law0_r35_in w h) (fun h => (List.mem_append.mp h).elim (fun h => wsL_law0_r36_in w h) (fun h => (List.mem_append.mp h).elim (fun h => wsL_law0_r37_in w h) (fun h => (List.mem_append.mp h).elim (fun h => wsL_law0_r38_in w h) (fun h => (List.mem_append.mp h).elim (fun h => wsL_law0_r39_in w h) (fun h => (List.mem_append.mp h).elim (fun h => wsL_law0_r40_in w h) (fun h => (List.mem_append.mp h).elim (fun h => wsL_law0_r41_in w h) (fun h => (List.mem_append.mp h).elim (fun h => wsL_law0_r42_in w h) (fun h => (List.mem_append.mp h).elim (fun h => wsL_law0_r43_in w h) (fun h => (List.mem_append.mp h).elim (fun h => wsL_law0_r44_in w h) (fun h => wsL_law0_r45_in w h))))))))))))))))))))))))))))))))))))))))))))) (fun h => wsX70_tb w h)) (fun h => wsX80_tb w h)) (fun h => wsX30_tb w h)) (fun h => wsX10_tb w h)) (fun h => wsX60_tb w h)) (fun h => wsX40_tb w h)) (fun h => wsX50_tb w h)) (fun h => wsX00_tb w h)) (fun h => wsX20_tb w h)) (fun h => absurd h List.not_mem_nil)
