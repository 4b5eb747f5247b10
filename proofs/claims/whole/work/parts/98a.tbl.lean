theorem gInP {big : List Cond} {ws : List Cond} (ps : List Nat) (hp : ws = ps.filterMap (fun i => big[i]?)) : ∀ w ∈ ws, w ∈ big := by
  intro w hw
  rw [hp] at hw
  obtain ⟨i, -, hi⟩ := List.mem_filterMap.mp hw
  exact List.mem_of_getElem? hi
theorem gInApp {big a b : List Cond} (ha : ∀ w ∈ a, w ∈ big) (hb : ∀ w ∈ b, w ∈ big) : ∀ w ∈ a ++ b, w ∈ big := fun w h => (List.mem_append.mp h).elim (ha w) (hb w)
set_option maxRecDepth 20000 in
theorem wsL_law_r1_in : ∀ w ∈ wsL_law_r1, w ∈ lw_tbl := gInP [95, 96, 74, 1076, 1077, 87, 1542, 97, 98, 99, 100, 101, 102, 103, 104, 75, 334, 335, 256, 258, 79, 264, 265, 80] (by decide +kernel)
set_option maxRecDepth 20000 in
theorem wsL_law_r2_in : ∀ w ∈ wsL_law_r2, w ∈ lw_tbl := gInP [271, 272, 81, 278, 279, 82, 285, 286, 83, 292, 293, 84, 299, 300, 85, 337, 306, 307, 86, 338, 330, 110, 76, 339] (by decide +kernel)
set_option maxRecDepth 20000 in
theorem wsL_law_r3_in : ∀ w ∈ wsL_law_r3, w ∈ lw_tbl := gInP [340, 158, 341, 342, 343, 332, 344, 105, 106, 107, 108, 109, 211, 215, 217, 219, 227, 229, 159, 160, 78, 223, 225, 111] (by decide +kernel)
set_option maxRecDepth 20000 in
theorem wsL_law_r4_in : ∀ w ∈ wsL_law_r4, w ∈ lw_tbl := gInP [112, 113, 114, 118, 119, 120, 122, 124, 132, 133, 115, 116, 77, 117, 161, 162, 163, 164, 168, 170, 173, 174, 176, 167] (by decide +kernel)
set_option maxRecDepth 20000 in
theorem wsL_law_r5_in : ∀ w ∈ wsL_law_r5, w ∈ lw_tbl := gInP [169, 172, 171, 260, 261, 262, 267, 268, 274, 275, 281, 282, 288, 289, 295, 296, 302, 303, 309, 310, 311, 317, 331, 1078] (by decide +kernel)
set_option maxRecDepth 20000 in
theorem wsL_law_r6_in : ∀ w ∈ wsL_law_r6, w ∈ lw_tbl := gInP [1079, 1080, 1081, 1086, 1087, 1089, 1090, 1097, 1098, 1099, 1105, 1108, 1109, 1110, 1111, 1082, 1084, 26, 1085, 368, 369, 370, 371, 372] (by decide +kernel)
set_option maxRecDepth 20000 in
theorem wsL_law_r7_in : ∀ w ∈ wsL_law_r7, w ∈ lw_tbl := gInP [373, 374, 375, 377, 0, 378, 379, 380, 381, 382, 383, 384, 385, 386, 387, 1240, 1241, 1242, 1243, 1244, 1170, 1171, 1172, 1173] (by decide +kernel)
set_option maxRecDepth 20000 in
theorem wsL_law_r8_in : ∀ w ∈ wsL_law_r8, w ∈ lw_tbl := gInP [1175, 27, 1176, 1177, 388, 389, 390, 391, 392, 394, 1, 395, 396, 397, 398, 399, 1245, 1246, 1247, 1248, 1257, 1258, 1249, 1251] (by decide +kernel)
set_option maxRecDepth 20000 in
theorem wsL_law_r9_in : ∀ w ∈ wsL_law_r9, w ∈ lw_tbl := gInP [40, 1252, 1253, 1255, 41, 1256, 400, 401, 402, 403, 404, 405, 406, 407, 408, 409, 410, 411, 412, 413, 414, 415, 416, 418] (by decide +kernel)
set_option maxRecDepth 20000 in
theorem wsL_law_r10_in : ∀ w ∈ wsL_law_r10, w ∈ lw_tbl := gInP [2, 419, 421, 423, 3, 424, 431, 432, 88, 433, 434, 435, 436, 425, 426, 427, 428, 429, 430, 437, 438, 439, 440, 441] (by decide +kernel)
set_option maxRecDepth 20000 in
theorem wsL_law_r11_in : ∀ w ∈ wsL_law_r11, w ∈ lw_tbl := gInP [443, 4, 444, 134, 445, 447, 5, 448, 449, 450, 451, 452, 453, 454, 455, 456, 457, 458, 459, 1271, 1272, 1273, 1274, 1275] (by decide +kernel)
set_option maxRecDepth 20000 in
theorem wsL_law_r12_in : ∀ w ∈ wsL_law_r12, w ∈ lw_tbl := gInP [1267, 1269, 43, 1270, 1100, 1233, 1235, 39, 1236, 1183, 1185, 28, 1186, 1091, 1092, 1093, 1094, 1095, 1096, 1187, 1189, 29, 1190, 1191] (by decide +kernel)
set_option maxRecDepth 20000 in
theorem wsL_law_r13_in : ∀ w ∈ wsL_law_r13, w ∈ lw_tbl := gInP [1193, 30, 1219, 1221, 37, 1222, 1211, 1213, 35, 1214, 1194, 1195, 1197, 31, 1198, 1199, 1201, 32, 1206, 1207, 1209, 34, 1202, 1203] (by decide +kernel)
set_option maxRecDepth 20000 in
theorem wsL_law_r14_in : ∀ w ∈ wsL_law_r14, w ∈ lw_tbl := gInP [1205, 33, 1210, 1227, 1228, 1215, 1217, 36, 1218, 1223, 1225, 38, 1226, 1237, 1238, 1239, 1276, 1278, 44, 1279, 1280, 1282, 45, 1283] (by decide +kernel)
set_option maxRecDepth 20000 in
theorem wsL_law_r15_in : ∀ w ∈ wsL_law_r15, w ∈ lw_tbl := gInP [1284, 1286, 46, 1287, 460, 461, 462, 463, 464, 465, 466, 1288, 1289, 1290, 1291, 1292, 1293, 1294, 1295, 1297, 47, 1298, 467, 468] (by decide +kernel)
set_option maxRecDepth 20000 in
theorem wsL_law_r16_in : ∀ w ∈ wsL_law_r16, w ∈ lw_tbl := gInP [469, 470, 1299, 1300, 1301, 1302, 1303, 471, 472, 473, 474, 527, 475, 477, 6, 478, 479, 481, 7, 482, 483, 485, 8, 486] (by decide +kernel)
set_option maxRecDepth 20000 in
theorem wsL_law_r17_in : ∀ w ∈ wsL_law_r17, w ∈ lw_tbl := gInP [487, 490, 491, 488, 502, 488, 492, 493, 494, 495, 1543, 305, 496, 497, 498, 499, 500, 501, 487, 489, 503, 506, 504, 507] (by decide +kernel)
set_option maxRecDepth 20000 in
theorem wsL_law_r18_in : ∀ w ∈ wsL_law_r18, w ∈ lw_tbl := gInP [508, 509, 526, 510, 511, 512, 516, 513, 1544, 514, 515, 517, 518, 519, 520, 521, 522, 523, 524, 525, 1545, 291, 503, 504] (by decide +kernel)
set_option maxRecDepth 20000 in
theorem wsL_law_r19_in : ∀ w ∈ wsL_law_r19, w ∈ lw_tbl := gInP [505, 528, 531, 532, 529, 542, 533, 529, 534, 535, 536, 537, 538, 539, 540, 541, 528, 530, 543, 546, 547, 544, 560, 544] (by decide +kernel)
set_option maxRecDepth 20000 in
theorem wsL_law_r20_in : ∀ w ∈ wsL_law_r20, w ∈ lw_tbl := gInP [548, 549, 550, 551, 552, 553, 554, 1546, 298, 555, 556, 557, 558, 559, 543, 545, 1304, 1305, 1306, 1307, 1312, 1308, 1310, 48] (by decide +kernel)
set_option maxRecDepth 20000 in
theorem wsL_law_r21_in : ∀ w ∈ wsL_law_r21, w ∈ lw_tbl := gInP [1311, 1313, 1315, 49, 1316, 1317, 1319, 50, 1320, 1321, 1323, 51, 1324, 1325, 1327, 52, 1328, 1329, 1331, 53, 1332, 1333, 1335, 54] (by decide +kernel)
set_option maxRecDepth 20000 in
theorem wsL_law_r22_in : ∀ w ∈ wsL_law_r22, w ∈ lw_tbl := gInP [1336, 1337, 1339, 55, 1340, 561, 562, 563, 564, 1341, 1342, 1343, 1344, 565, 566, 567, 568, 569, 572, 570, 573, 574, 575, 576] (by decide +kernel)
set_option maxRecDepth 20000 in
theorem wsL_law_r23_in : ∀ w ∈ wsL_law_r23, w ∈ lw_tbl := gInP [270, 570, 597, 577, 578, 579, 580, 1547, 581, 582, 583, 284, 584, 585, 586, 587, 1548, 588, 589, 590, 277, 591, 592, 593] (by decide +kernel)
set_option maxRecDepth 20000 in
theorem wsL_law_r24_in : ∀ w ∈ wsL_law_r24, w ∈ lw_tbl := gInP [594, 595, 596, 1549, 569, 571, 1345, 1346, 1347, 1348, 1349, 1350, 1351, 598, 599, 600, 601, 602, 603, 604, 605, 221, 1165, 1166] (by decide +kernel)
set_option maxRecDepth 20000 in
theorem wsL_law_r25_in : ∀ w ∈ wsL_law_r25, w ∈ lw_tbl := gInP [1167, 1168, 1169, 1178, 607, 608, 609, 610, 611, 612, 613, 614, 616, 9, 617, 618, 619, 620, 621, 175, 177, 178, 179, 180] (by decide +kernel)
set_option maxRecDepth 20000 in
theorem wsL_law_r26_in : ∀ w ∈ wsL_law_r26, w ∈ lw_tbl := gInP [750, 752, 751, 94, 622, 624, 10, 625, 626, 628, 11, 629, 630, 631, 632, 89, 633, 634, 635, 636, 637, 1567, 638, 639] (by decide +kernel)
set_option maxRecDepth 20000 in
theorem wsL_law_r27_in : ∀ w ∈ wsL_law_r27, w ∈ lw_tbl := gInP [640, 641, 642, 1566, 644, 645, 646, 647, 648, 649, 650, 651, 652, 653, 90, 654, 658, 659, 655, 656, 657, 660, 661, 662] (by decide +kernel)
set_option maxRecDepth 20000 in
theorem wsL_law_r28_in : ∀ w ∈ wsL_law_r28, w ∈ lw_tbl := gInP [663, 664, 91, 665, 666, 667, 668, 669, 670, 671, 672, 673, 674, 675, 676, 677, 678, 679, 680, 681, 683, 684, 92, 685] (by decide +kernel)
set_option maxRecDepth 20000 in
theorem wsL_law_r29_in : ∀ w ∈ wsL_law_r29, w ∈ lw_tbl := gInP [686, 687, 688, 689, 690, 691, 692, 694, 696, 698, 699, 700, 701, 702, 93, 703, 704, 705, 706, 707, 708, 709, 710, 711] (by decide +kernel)
set_option maxRecDepth 20000 in
theorem wsL_law_r30_in : ∀ w ∈ wsL_law_r30, w ∈ lw_tbl := gInP [712, 713, 714, 715, 717, 12, 718, 719, 721, 13, 722, 723, 725, 14, 726, 727, 729, 15, 730, 731, 733, 16, 734, 735] (by decide +kernel)
set_option maxRecDepth 20000 in
theorem wsL_law_r31_in : ∀ w ∈ wsL_law_r31, w ∈ lw_tbl := gInP [737, 17, 738, 739, 741, 18, 742, 743, 745, 19, 746, 747, 748, 749, 1179, 1180, 1181, 1182, 753, 754, 755, 756, 1229, 1230] (by decide +kernel)
set_option maxRecDepth 20000 in
theorem wsL_law_r32_in : ∀ w ∈ wsL_law_r32, w ∈ lw_tbl := gInP [1231, 1232, 757, 758, 759, 760, 761, 762, 763, 764, 766, 771, 126, 765, 765, 767, 769, 20, 770, 128, 772, 772, 773, 773] (by decide +kernel)
set_option maxRecDepth 20000 in
theorem wsL_law_r33_in : ∀ w ∈ wsL_law_r33, w ∈ lw_tbl := gInP [774, 776, 21, 777, 778, 779, 779, 780, 781, 782, 783, 1352, 1353, 1354, 1355, 1356, 1358, 56, 1359, 1364, 1360, 1362, 57, 1363] (by decide +kernel)
set_option maxRecDepth 20000 in
theorem wsL_law_r34_in : ∀ w ∈ wsL_law_r34, w ∈ lw_tbl := gInP [785, 786, 787, 788, 789, 790, 791, 792, 793, 130, 794, 795, 796, 797, 1365, 1366, 1367, 1368, 1369, 1370, 1372, 58, 1373, 1374] (by decide +kernel)
set_option maxRecDepth 20000 in
theorem wsL_law_r35_in : ∀ w ∈ wsL_law_r35, w ∈ lw_tbl := gInP [1376, 59, 1377, 798, 799, 800, 801, 802, 803, 804, 805, 806, 1378, 1379, 1380, 1381, 1382, 1384, 60, 1385, 1386, 807, 808, 809] (by decide +kernel)
set_option maxRecDepth 20000 in
theorem wsL_law_r36_in : ∀ w ∈ wsL_law_r36, w ∈ lw_tbl := gInP [810, 811, 812, 813, 814, 1259, 1260, 1261, 1262, 1263, 1265, 42, 1266, 815, 816, 817, 818, 819, 820, 821, 822, 1387, 1388, 1389] (by decide +kernel)
set_option maxRecDepth 20000 in
theorem wsL_law_r37_in : ∀ w ∈ wsL_law_r37, w ∈ lw_tbl := gInP [1390, 1101, 1391, 1393, 61, 1394, 1102, 1103, 823, 824, 825, 826, 827, 828, 829, 830, 1395, 1396, 1397, 1398, 831, 832, 833, 834] (by decide +kernel)
set_option maxRecDepth 20000 in
theorem wsL_law_r38_in : ∀ w ∈ wsL_law_r38, w ∈ lw_tbl := gInP [835, 836, 1399, 1400, 1401, 1402, 837, 838, 839, 840, 841, 843, 22, 844, 845, 846, 847, 848, 849, 854, 850, 851, 852, 853] (by decide +kernel)
set_option maxRecDepth 20000 in
theorem wsL_law_r39_in : ∀ w ∈ wsL_law_r39, w ∈ lw_tbl := gInP [855, 856, 857, 858, 1403, 1404, 1405, 1406, 1104, 1407, 1409, 62, 1410, 1411, 1413, 63, 1414, 1415, 1417, 64, 1418, 859, 860, 861] (by decide +kernel)
set_option maxRecDepth 20000 in
theorem wsL_law_r40_in : ∀ w ∈ wsL_law_r40, w ∈ lw_tbl := gInP [862, 1419, 1420, 1421, 1422, 1423, 1425, 65, 1426, 863, 864, 865, 866, 867, 868, 869, 870, 1427, 1428, 1429, 1430, 1431, 1432, 1433] (by decide +kernel)
set_option maxRecDepth 20000 in
theorem wsL_law_r41_in : ∀ w ∈ wsL_law_r41, w ∈ lw_tbl := gInP [871, 872, 873, 874, 1434, 1435, 1436, 1437, 875, 876, 877, 878, 1438, 1439, 1440, 1441, 879, 880, 881, 882, 883, 884, 885, 886] (by decide +kernel)
set_option maxRecDepth 20000 in
theorem wsL_law_r42_in : ∀ w ∈ wsL_law_r42, w ∈ lw_tbl := gInP [1442, 1443, 1444, 1445, 887, 888, 889, 890, 891, 892, 893, 894, 896, 23, 897, 898, 900, 24, 901, 1446, 1447, 1448, 1449, 1450] (by decide +kernel)
set_option maxRecDepth 20000 in
theorem wsL_law_r43_in : ∀ w ∈ wsL_law_r43, w ∈ lw_tbl := gInP [1451, 1452, 1453, 1455, 66, 1456, 902, 903, 904, 905, 1457, 1458, 1459, 1460, 1461, 906, 907, 908, 909, 1462, 1463, 1464, 1465, 910] (by decide +kernel)
set_option maxRecDepth 20000 in
theorem wsL_law_r44_in : ∀ w ∈ wsL_law_r44, w ∈ lw_tbl := gInP [911, 912, 913, 914, 915, 916, 917, 312, 315, 319, 918, 921, 919, 922, 923, 924, 925, 926, 927, 928, 929, 919, 935, 936] (by decide +kernel)
set_option maxRecDepth 20000 in
theorem wsL_law_r45_in : ∀ w ∈ wsL_law_r45, w ∈ lw_tbl := gInP [930, 931, 932, 933, 934, 918, 920, 937, 940, 941, 938, 962, 963, 963, 942, 938, 943, 944, 945, 946, 947, 1550, 948, 949] (by decide +kernel)
set_option maxRecDepth 20000 in
theorem wsL_law_r46_in : ∀ w ∈ wsL_law_r46, w ∈ lw_tbl := gInP [950, 951, 952, 953, 955, 957, 958, 956, 959, 960, 961, 937, 939, 964, 1551, 1552, 957, 1553, 965, 966, 967, 968, 1554, 969] (by decide +kernel)
set_option maxRecDepth 20000 in
theorem wsL_law_r47_in : ∀ w ∈ wsL_law_r47, w ∈ lw_tbl := gInP [970, 971, 972, 1555, 1556, 1557, 1558, 964, 1559, 973, 976, 977, 974, 1001, 1002, 1002, 1003, 1003, 974, 978, 979, 980, 981, 982] (by decide +kernel)
set_option maxRecDepth 20000 in
theorem wsL_law_r48_in : ∀ w ∈ wsL_law_r48, w ∈ lw_tbl := gInP [984, 988, 989, 990, 991, 992, 993, 994, 997, 998, 1000, 973, 975, 1466, 1467, 1468, 1469, 1106, 1107, 1470, 1472, 67, 1473, 1474] (by decide +kernel)
set_option maxRecDepth 20000 in
theorem wsL_law_r49_in : ∀ w ∈ wsL_law_r49, w ∈ lw_tbl := gInP [1476, 68, 1477, 1478, 1480, 69, 1481, 1482, 1484, 70, 1485, 1486, 1488, 71, 1489, 1490, 1492, 72, 1493, 1004, 1005, 1006, 1007, 1494] (by decide +kernel)
set_option maxRecDepth 20000 in
theorem wsL_law_r50_in : ∀ w ∈ wsL_law_r50, w ∈ lw_tbl := gInP [1495, 1496, 1497, 1008, 1009, 1010, 1011, 1012, 1498, 1499, 1500, 1501, 1013, 1014, 1015, 1016, 1502, 1503, 1504, 1505, 1017, 1018, 1019, 1020] (by decide +kernel)
set_option maxRecDepth 20000 in
theorem wsL_law_r51_in : ∀ w ∈ wsL_law_r51, w ∈ lw_tbl := gInP [1025, 1021, 1023, 25, 1024, 1506, 1507, 1508, 1509, 1026, 1027, 1028, 1029, 1510, 1511, 1512, 1513, 1030, 1031, 1032, 1033, 1514, 1515, 1516] (by decide +kernel)
set_option maxRecDepth 20000 in
theorem wsL_law_r52_in : ∀ w ∈ wsL_law_r52, w ∈ lw_tbl := gInP [1517, 1034, 1035, 1036, 1037, 336, 1038, 1039, 1040, 1041, 213, 1043, 231, 1042, 1044, 1045, 1046, 1047, 1518, 1519, 1520, 1521, 1088, 1048] (by decide +kernel)
set_option maxRecDepth 20000 in
theorem wsL_law_r53_in : ∀ w ∈ wsL_law_r53, w ∈ lw_tbl := gInP [1049, 1050, 1051, 1522, 1523, 1524, 1525, 1052, 1053, 1054, 1055, 1526, 1527, 1528, 1529, 1056, 1057, 1058, 1059, 1530, 1531, 1532, 1533, 1060] (by decide +kernel)
set_option maxRecDepth 20000 in
theorem wsL_law_r54_in : ∀ w ∈ wsL_law_r54, w ∈ lw_tbl := gInP [1061, 1062, 1063, 1064, 1065, 1066, 1067, 1068, 1069, 1070, 1071, 1534, 1535, 1536, 1537, 1072, 1073, 1074, 1075, 1538, 1539, 1540, 1541] (by decide +kernel)
set_option maxRecDepth 20000 in
theorem inX0 : ∀ w ∈ wsX00, w ∈ lw_tbl := gInP [] (by decide +kernel)
set_option maxRecDepth 20000 in
theorem inX1 : ∀ w ∈ wsX10, w ∈ lw_tbl := gInP [] (by decide +kernel)
set_option maxRecDepth 20000 in
theorem inX2 : ∀ w ∈ wsX20, w ∈ lw_tbl := gInP [] (by decide +kernel)
set_option maxRecDepth 20000 in
theorem inX3 : ∀ w ∈ wsX30, w ∈ lw_tbl := gInP [181, 183, 185, 187, 189, 191, 193, 195, 197, 199, 201, 203, 205, 207] (by decide +kernel)
set_option maxRecDepth 20000 in
theorem inX4 : ∀ w ∈ wsX40, w ∈ lw_tbl := gInP [] (by decide +kernel)
set_option maxRecDepth 20000 in
theorem inX5 : ∀ w ∈ wsX50, w ∈ lw_tbl := gInP [] (by decide +kernel)
set_option maxRecDepth 20000 in
theorem inX6 : ∀ w ∈ wsX60, w ∈ lw_tbl := gInP [] (by decide +kernel)
set_option maxRecDepth 20000 in
theorem inX7 : ∀ w ∈ wsX70, w ∈ lw_tbl := gInP [233, 235, 237, 239, 241, 243, 245, 247, 249, 251, 253] (by decide +kernel)
set_option maxRecDepth 20000 in
theorem inX8 : ∀ w ∈ wsX80, w ∈ lw_tbl := gInP [] (by decide +kernel)
set_option maxRecDepth 20000 in
theorem inX9 : ∀ w ∈ wsX90, w ∈ lw_tbl := gInP [321, 323, 325, 327] (by decide +kernel)
set_option maxRecDepth 20000 in
theorem inX10 : ∀ w ∈ wsX100, w ∈ lw_tbl := gInP [135, 137, 139, 141, 143, 145, 147, 149, 151, 153, 155] (by decide +kernel)
set_option maxRecDepth 20000 in
theorem inX11 : ∀ w ∈ wsX110, w ∈ lw_tbl := gInP [345, 347, 349, 351, 353, 355, 357, 359, 361, 363, 365] (by decide +kernel)
set_option maxRecDepth 20000 in
theorem inX12 : ∀ w ∈ wsX120, w ∈ lw_tbl := gInP [1112, 1114, 1116, 1118, 1120, 1122, 1124, 1126, 1128, 1130, 1132, 1134, 1136, 1138, 1140, 1142, 1144, 1146, 1148, 1150, 1152, 1154, 1156, 1158, 1160, 1162] (by decide +kernel)
theorem wsL_law_in : ∀ w ∈ wsL_law, w ∈ lw_tbl := gInApp (gInApp (gInApp (gInApp (gInApp (gInApp (gInApp (gInApp (gInApp (gInApp (gInApp (gInApp (gInApp (gInApp (gInApp (wsL_law_r1_in) (gInApp (wsL_law_r2_in) (gInApp (wsL_law_r3_in) (gInApp (wsL_law_r4_in) (gInApp (wsL_law_r5_in) (gInApp (wsL_law_r6_in) (gInApp (wsL_law_r7_in) (gInApp (wsL_law_r8_in) (gInApp (wsL_law_r9_in) (gInApp (wsL_law_r10_in) (gInApp (wsL_law_r11_in) (gInApp (wsL_law_r12_in) (gInApp (wsL_law_r13_in) (gInApp (wsL_law_r14_in) (gInApp (wsL_law_r15_in) (gInApp (wsL_law_r16_in) (gInApp (wsL_law_r17_in) (gInApp (wsL_law_r18_in) (gInApp (wsL_law_r19_in) (gInApp (wsL_law_r20_in) (gInApp (wsL_law_r21_in) (gInApp (wsL_law_r22_in) (gInApp (wsL_law_r23_in) (gInApp (wsL_law_r24_in) (gInApp (wsL_law_r25_in) (gInApp (wsL_law_r26_in) (gInApp (wsL_law_r27_in) (gInApp (wsL_law_r28_in) (gInApp (wsL_law_r29_in) (gInApp (wsL_law_r30_in) (gInApp (wsL_law_r31_in) (gInApp (wsL_law_r32_in) (gInApp (wsL_law_r33_in) (gInApp (wsL_law_r34_in) (gInApp (wsL_law_r35_in) (gInApp (wsL_law_r36_in) (gInApp (wsL_law_r37_in) (gInApp (wsL_law_r38_in) (gInApp (wsL_law_r39_in) (gInApp (wsL_law_r40_in) (gInApp (wsL_law_r41_in) (gInApp (wsL_law_r42_in) (gInApp (wsL_law_r43_in) (gInApp (wsL_law_r44_in) (gInApp (wsL_law_r45_in) (gInApp (wsL_law_r46_in) (gInApp (wsL_law_r47_in) (gInApp (wsL_law_r48_in) (gInApp (wsL_law_r49_in) (gInApp (wsL_law_r50_in) (gInApp (wsL_law_r51_in) (gInApp (wsL_law_r52_in) (gInApp (wsL_law_r53_in) (wsL_law_r54_in)))))))))))))))))))))))))))))))))))))))))))))))))))))) (inX11)) (inX12)) (inX7)) (inX8)) (inX0)) (inX4)) (inX5)) (inX6)) (inX2)) (inX1)) (inX9)) (inX10)) (inX3)) (fun _ h => absurd h List.not_mem_nil)
