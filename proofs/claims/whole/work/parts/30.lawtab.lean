set_option maxRecDepth 20000 in
theorem wl_1 : ∀ w ∈ wsL_law_r1, w ∈ lw_tbl := fun w h => (goodIn_r wsL_law_r1 [94, 95, 80, 1102, 1103, 91, 96, 97, 98, 99, 100, 101, 102, 103, 81, 395, 171, 172, 82, 396, 397, 191, 192, 83] (by decide +kernel) (by decide +kernel) w h).1
set_option maxRecDepth 20000 in
theorem wl_2 : ∀ w ∈ wsL_law_r2, w ∈ lw_tbl := fun w h => (goodIn_r wsL_law_r2 [398, 211, 212, 84, 399, 236, 237, 85, 400, 322, 323, 88, 401, 356, 357, 89, 402, 403, 379, 380, 90, 404, 405, 394] (by decide +kernel) (by decide +kernel) w h).1
set_option maxRecDepth 20000 in
theorem wl_3 : ∀ w ∈ wsL_law_r3, w ∈ lw_tbl := fun w h => (goodIn_r wsL_law_r3 [406, 104, 105, 106, 107, 170, 108, 109, 111, 113, 115, 117, 119, 121, 123, 124, 125, 126, 133, 138, 173, 174, 175, 176] (by decide +kernel) (by decide +kernel) w h).1
set_option maxRecDepth 20000 in
theorem wl_4 : ∀ w ∈ wsL_law_r4, w ∈ lw_tbl := fun w h => (goodIn_r wsL_law_r4 [177, 190, 183, 193, 194, 195, 196, 197, 198, 199, 201, 213, 214, 215, 216, 217, 219, 222, 224, 238, 239, 240, 241, 242] (by decide +kernel) (by decide +kernel) w h).1
set_option maxRecDepth 20000 in
theorem wl_5 : ∀ w ∈ wsL_law_r5, w ∈ lw_tbl := fun w h => (goodIn_r wsL_law_r5 [243, 86, 286, 283, 288, 289, 285, 290, 291, 292, 293, 294, 295, 297, 298, 244, 245, 246, 247, 261, 262, 264, 248, 249] (by decide +kernel) (by decide +kernel) w h).1
set_option maxRecDepth 20000 in
theorem wl_6 : ∀ w ∈ wsL_law_r6, w ∈ lw_tbl := fun w h => (goodIn_r wsL_law_r6 [87, 250, 251, 252, 253, 254, 255, 258, 260, 284, 324, 325, 326, 327, 328, 332, 330, 334, 335, 337, 339, 341, 329, 331] (by decide +kernel) (by decide +kernel) w h).1
set_option maxRecDepth 20000 in
theorem wl_7 : ∀ w ∈ wsL_law_r7, w ∈ lw_tbl := fun w h => (goodIn_r wsL_law_r7 [358, 359, 360, 361, 362, 363, 364, 365, 366, 381, 382, 383, 384, 385, 387, 1104, 1105, 1106, 1107, 1113, 1114, 1115, 1116, 1117] (by decide +kernel) (by decide +kernel) w h).1
set_option maxRecDepth 20000 in
theorem wl_8 : ∀ w ∈ wsL_law_r8, w ∈ lw_tbl := fun w h => (goodIn_r wsL_law_r8 [1118, 1119, 1120, 1121, 1122, 1123, 1124, 1108, 1125, 1130, 1131, 1133, 1134, 1109, 1137, 1138, 1139, 1140, 1141, 1142, 1262, 1143, 1110, 1144] (by decide +kernel) (by decide +kernel) w h).1
set_option maxRecDepth 20000 in
theorem wl_9 : ∀ w ∈ wsL_law_r9, w ∈ lw_tbl := fun w h => (goodIn_r wsL_law_r9 [1147, 1148, 1149, 1150, 1151, 1152, 1153, 1155, 1157, 1159, 1160, 1136, 432, 433, 434, 435, 436, 127, 437, 438, 439, 440, 441, 442] (by decide +kernel) (by decide +kernel) w h).1
set_option maxRecDepth 20000 in
theorem wl_10 : ∀ w ∈ wsL_law_r10, w ∈ lw_tbl := fun w h => (goodIn_r wsL_law_r10 [444, 0, 445, 296, 338, 367, 388, 446, 447, 448, 449, 1263, 1264, 1265, 1266, 1270, 1111, 1271, 1267, 1268, 1269, 1272, 1274, 23] (by decide +kernel) (by decide +kernel) w h).1
set_option maxRecDepth 20000 in
theorem wl_11 : ∀ w ∈ wsL_law_r11, w ∈ lw_tbl := fun w h => (goodIn_r wsL_law_r11 [1275, 1135, 1145, 1146, 1154, 1156, 1158, 1127, 450, 451, 452, 453, 135, 454, 455, 456, 457, 1276, 1277, 1278, 1279, 1112, 458, 459] (by decide +kernel) (by decide +kernel) w h).1
set_option maxRecDepth 20000 in
theorem wl_12 : ∀ w ∈ wsL_law_r12, w ∈ lw_tbl := fun w h => (goodIn_r wsL_law_r12 [460, 461, 462, 463, 464, 465, 466, 467, 468, 469, 470, 471, 472, 473, 474, 475, 476, 477, 478, 479, 480, 482, 483, 484] (by decide +kernel) (by decide +kernel) w h).1
set_option maxRecDepth 20000 in
theorem wl_13 : ∀ w ∈ wsL_law_r13, w ∈ lw_tbl := fun w h => (goodIn_r wsL_law_r13 [485, 486, 487, 489, 1, 490, 1280, 1281, 1282, 1283, 1284, 1286, 24, 1287, 1288, 1290, 25, 1291, 491, 492, 493, 494, 110, 495] (by decide +kernel) (by decide +kernel) w h).1
set_option maxRecDepth 20000 in
theorem wl_14 : ∀ w ∈ wsL_law_r14, w ∈ lw_tbl := fun w h => (goodIn_r wsL_law_r14 [496, 497, 498, 499, 1292, 1293, 1294, 1295, 1296, 500, 501, 502, 503, 504, 505, 506, 507, 1297, 1298, 1299, 1300, 508, 509, 510] (by decide +kernel) (by decide +kernel) w h).1
set_option maxRecDepth 20000 in
theorem wl_15 : ∀ w ∈ wsL_law_r15, w ∈ lw_tbl := fun w h => (goodIn_r wsL_law_r15 [511, 120, 122, 512, 513, 514, 515, 516, 517, 518, 519, 1301, 1302, 1303, 1304, 520, 521, 522, 523, 112, 114, 116, 118, 1305] (by decide +kernel) (by decide +kernel) w h).1
set_option maxRecDepth 20000 in
theorem wl_16 : ∀ w ∈ wsL_law_r16, w ∈ lw_tbl := fun w h => (goodIn_r wsL_law_r16 [1306, 1307, 1308, 524, 525, 526, 527, 528, 1309, 1310, 1311, 1312, 529, 530, 531, 532, 534, 181, 533, 1313, 1314, 1315, 1316, 1317] (by decide +kernel) (by decide +kernel) w h).1
set_option maxRecDepth 20000 in
theorem wl_17 : ∀ w ∈ wsL_law_r17, w ∈ lw_tbl := fun w h => (goodIn_r wsL_law_r17 [535, 536, 537, 538, 539, 540, 541, 542, 1318, 1319, 1320, 1321, 543, 544, 545, 546, 547, 548, 549, 550, 1322, 1323, 1324, 1325] (by decide +kernel) (by decide +kernel) w h).1
set_option maxRecDepth 20000 in
theorem wl_18 : ∀ w ∈ wsL_law_r18, w ∈ lw_tbl := fun w h => (goodIn_r wsL_law_r18 [551, 552, 553, 554, 1326, 1327, 1328, 1329, 555, 556, 557, 558, 559, 560, 561, 562, 563, 564, 565, 1330, 1331, 1332, 1333, 566] (by decide +kernel) (by decide +kernel) w h).1
set_option maxRecDepth 20000 in
theorem wl_19 : ∀ w ∈ wsL_law_r19, w ∈ lw_tbl := fun w h => (goodIn_r wsL_law_r19 [567, 568, 569, 570, 1334, 1335, 1336, 1337, 1338, 571, 572, 573, 574, 575, 576, 577, 578, 182, 579, 580, 581, 582, 583, 584] (by decide +kernel) (by decide +kernel) w h).1
set_option maxRecDepth 20000 in
theorem wl_20 : ∀ w ∈ wsL_law_r20, w ∈ lw_tbl := fun w h => (goodIn_r wsL_law_r20 [585, 586, 587, 588, 589, 590, 591, 592, 593, 594, 595, 1339, 1340, 1341, 1342, 1343, 1345, 26, 1346, 1347, 1349, 27, 1350, 1351] (by decide +kernel) (by decide +kernel) w h).1
set_option maxRecDepth 20000 in
theorem wl_21 : ∀ w ∈ wsL_law_r21, w ∈ lw_tbl := fun w h => (goodIn_r wsL_law_r21 [1353, 28, 1354, 1355, 1357, 29, 1358, 1359, 1361, 30, 1362, 1363, 1364, 1365, 1366, 1368, 31, 1369, 596, 597, 598, 599, 600, 601] (by decide +kernel) (by decide +kernel) w h).1
set_option maxRecDepth 20000 in
theorem wl_22 : ∀ w ∈ wsL_law_r22, w ∈ lw_tbl := fun w h => (goodIn_r wsL_law_r22 [602, 603, 604, 605, 606, 607, 608, 609, 611, 2, 612, 613, 614, 615, 616, 139, 184, 617, 619, 618, 92, 620, 621, 622] (by decide +kernel) (by decide +kernel) w h).1
set_option maxRecDepth 20000 in
theorem wl_23 : ∀ w ∈ wsL_law_r23, w ∈ lw_tbl := fun w h => (goodIn_r wsL_law_r23 [623, 624, 625, 627, 3, 628, 639, 629, 630, 631, 632, 633, 634, 635, 636, 637, 638, 1370, 1371, 1372, 1373, 1374, 1376, 32] (by decide +kernel) (by decide +kernel) w h).1
set_option maxRecDepth 20000 in
theorem wl_24 : ∀ w ∈ wsL_law_r24, w ∈ lw_tbl := fun w h => (goodIn_r wsL_law_r24 [1377, 1378, 1379, 1381, 33, 1382, 1128, 1383, 1385, 34, 1386, 1126, 1387, 1389, 35, 1390, 640, 641, 642, 643, 644, 645, 646, 647] (by decide +kernel) (by decide +kernel) w h).1
set_option maxRecDepth 20000 in
theorem wl_25 : ∀ w ∈ wsL_law_r25, w ∈ lw_tbl := fun w h => (goodIn_r wsL_law_r25 [648, 649, 650, 651, 1391, 1392, 1393, 1394, 652, 653, 654, 655, 200, 656, 657, 658, 659, 132, 179, 660, 1395, 1396, 1397, 1398] (by decide +kernel) (by decide +kernel) w h).1
set_option maxRecDepth 20000 in
theorem wl_26 : ∀ w ∈ wsL_law_r26, w ∈ lw_tbl := fun w h => (goodIn_r wsL_law_r26 [661, 662, 663, 664, 223, 218, 665, 666, 93, 667, 1399, 1400, 1401, 1402, 1129, 668, 669, 670, 671, 676, 677, 672, 673, 674] (by decide +kernel) (by decide +kernel) w h).1
set_option maxRecDepth 20000 in
theorem wl_27 : ∀ w ∈ wsL_law_r27, w ∈ lw_tbl := fun w h => (goodIn_r wsL_law_r27 [675, 1403, 1404, 1405, 1406, 1407, 678, 679, 680, 681, 1408, 1409, 1410, 1411, 682, 683, 684, 685, 690, 686, 687, 688, 689, 1412] (by decide +kernel) (by decide +kernel) w h).1
set_option maxRecDepth 20000 in
theorem wl_28 : ∀ w ∈ wsL_law_r28, w ∈ lw_tbl := fun w h => (goodIn_r wsL_law_r28 [1413, 1414, 1415, 691, 692, 693, 694, 226, 695, 696, 697, 698, 1416, 1417, 1418, 1419, 1132, 699, 700, 701, 702, 1420, 1421, 1422] (by decide +kernel) (by decide +kernel) w h).1
set_option maxRecDepth 20000 in
theorem wl_29 : ∀ w ∈ wsL_law_r29, w ∈ lw_tbl := fun w h => (goodIn_r wsL_law_r29 [1423, 703, 704, 705, 706, 221, 1424, 1425, 1426, 1427, 707, 708, 709, 710, 140, 711, 712, 713, 714, 715, 1428, 1429, 1430, 1431] (by decide +kernel) (by decide +kernel) w h).1
set_option maxRecDepth 20000 in
theorem wl_30 : ∀ w ∈ wsL_law_r30, w ∈ lw_tbl := fun w h => (goodIn_r wsL_law_r30 [1432, 1434, 36, 1435, 1436, 1438, 37, 1439, 716, 717, 718, 719, 287, 267, 760, 720, 721, 722, 723, 134, 130, 729, 265, 724] (by decide +kernel) (by decide +kernel) w h).1
set_option maxRecDepth 20000 in
theorem wl_31 : ∀ w ∈ wsL_law_r31, w ∈ lw_tbl := fun w h => (goodIn_r wsL_law_r31 [725, 726, 727, 728, 730, 731, 732, 733, 178, 734, 735, 736, 737, 738, 739, 740, 742, 4, 743, 744, 745, 746, 747, 748] (by decide +kernel) (by decide +kernel) w h).1
set_option maxRecDepth 20000 in
theorem wl_32 : ∀ w ∈ wsL_law_r32, w ∈ lw_tbl := fun w h => (goodIn_r wsL_law_r32 [749, 750, 751, 752, 753, 754, 755, 756, 757, 758, 759, 1440, 1441, 1442, 1443, 1444, 1446, 38, 1447, 1468, 1448, 1450, 39, 1451] (by decide +kernel) (by decide +kernel) w h).1
set_option maxRecDepth 20000 in
theorem wl_33 : ∀ w ∈ wsL_law_r33, w ∈ lw_tbl := fun w h => (goodIn_r wsL_law_r33 [1452, 1454, 40, 1455, 1456, 1458, 41, 1459, 1460, 1462, 42, 1463, 1464, 1466, 43, 1467, 761, 762, 763, 764, 765, 766, 767, 768] (by decide +kernel) (by decide +kernel) w h).1
set_option maxRecDepth 20000 in
theorem wl_34 : ∀ w ∈ wsL_law_r34, w ∈ lw_tbl := fun w h => (goodIn_r wsL_law_r34 [769, 770, 771, 772, 773, 774, 1469, 1470, 1471, 1472, 1473, 1475, 44, 1476, 775, 776, 777, 778, 779, 780, 781, 782, 1477, 1478] (by decide +kernel) (by decide +kernel) w h).1
set_option maxRecDepth 20000 in
theorem wl_35 : ∀ w ∈ wsL_law_r35, w ∈ lw_tbl := fun w h => (goodIn_r wsL_law_r35 [1479, 1480, 783, 784, 785, 786, 787, 788, 789, 790, 225, 220, 791, 792, 793, 794, 1481, 1482, 1483, 1484, 795, 796, 797, 798] (by decide +kernel) (by decide +kernel) w h).1
set_option maxRecDepth 20000 in
theorem wl_36 : ∀ w ∈ wsL_law_r36, w ∈ lw_tbl := fun w h => (goodIn_r wsL_law_r36 [799, 801, 5, 802, 803, 804, 805, 806, 807, 808, 1485, 1486, 1487, 1488, 1489, 1491, 45, 1492, 809, 810, 811, 812, 813, 814] (by decide +kernel) (by decide +kernel) w h).1
set_option maxRecDepth 20000 in
theorem wl_37 : ∀ w ∈ wsL_law_r37, w ∈ lw_tbl := fun w h => (goodIn_r wsL_law_r37 [815, 816, 817, 819, 6, 820, 821, 1493, 1494, 1495, 1496, 1497, 1499, 46, 1500, 822, 823, 824, 825, 826, 827, 828, 829, 830] (by decide +kernel) (by decide +kernel) w h).1
set_option maxRecDepth 20000 in
theorem wl_38 : ∀ w ∈ wsL_law_r38, w ∈ lw_tbl := fun w h => (goodIn_r wsL_law_r38 [832, 7, 833, 834, 836, 8, 837, 838, 840, 9, 841, 1501, 1502, 1503, 1504, 1505, 1507, 47, 1508, 1509, 1511, 48, 1512, 842] (by decide +kernel) (by decide +kernel) w h).1
set_option maxRecDepth 20000 in
theorem wl_39 : ∀ w ∈ wsL_law_r39, w ∈ lw_tbl := fun w h => (goodIn_r wsL_law_r39 [843, 844, 845, 846, 847, 848, 849, 1513, 1514, 1515, 1516, 1517, 1519, 49, 1520, 850, 851, 852, 853, 854, 855, 856, 857, 858] (by decide +kernel) (by decide +kernel) w h).1
set_option maxRecDepth 20000 in
theorem wl_40 : ∀ w ∈ wsL_law_r40, w ∈ lw_tbl := fun w h => (goodIn_r wsL_law_r40 [859, 860, 861, 862, 863, 864, 865, 866, 867, 868, 870, 10, 871, 1521, 1522, 1523, 1524, 1525, 1527, 50, 1528, 1529, 1531, 51] (by decide +kernel) (by decide +kernel) w h).1
set_option maxRecDepth 20000 in
theorem wl_41 : ∀ w ∈ wsL_law_r41, w ∈ lw_tbl := fun w h => (goodIn_r wsL_law_r41 [1532, 872, 873, 874, 875, 1533, 1534, 1535, 1536, 876, 877, 878, 879, 333, 880, 881, 882, 883, 884, 885, 886, 887, 129, 890] (by decide +kernel) (by decide +kernel) w h).1
set_option maxRecDepth 20000 in
theorem wl_42 : ∀ w ∈ wsL_law_r42, w ∈ lw_tbl := fun w h => (goodIn_r wsL_law_r42 [266, 888, 889, 891, 893, 11, 894, 895, 896, 897, 899, 12, 900, 136, 901, 902, 903, 904, 906, 13, 907, 256, 908, 909] (by decide +kernel) (by decide +kernel) w h).1
set_option maxRecDepth 20000 in
theorem wl_43 : ∀ w ∈ wsL_law_r43, w ∈ lw_tbl := fun w h => (goodIn_r wsL_law_r43 [910, 911, 912, 913, 915, 14, 916, 263, 180, 917, 918, 1537, 1538, 1539, 1540, 1541, 1543, 52, 1544, 1545, 1547, 53, 1548, 1549] (by decide +kernel) (by decide +kernel) w h).1
set_option maxRecDepth 20000 in
theorem wl_44 : ∀ w ∈ wsL_law_r44, w ∈ lw_tbl := fun w h => (goodIn_r wsL_law_r44 [1551, 54, 1552, 1553, 1555, 55, 1556, 1557, 1559, 56, 1560, 1561, 1563, 57, 1564, 1565, 1567, 58, 1568, 1569, 1570, 1571, 919, 920] (by decide +kernel) (by decide +kernel) w h).1
set_option maxRecDepth 20000 in
theorem wl_45 : ∀ w ∈ wsL_law_r45, w ∈ lw_tbl := fun w h => (goodIn_r wsL_law_r45 [921, 922, 923, 924, 925, 926, 927, 928, 929, 930, 931, 932, 933, 1572, 1573, 1574, 1575, 1576, 1578, 59, 1579, 1580, 1581, 1582] (by decide +kernel) (by decide +kernel) w h).1
set_option maxRecDepth 20000 in
theorem wl_46 : ∀ w ∈ wsL_law_r46, w ∈ lw_tbl := fun w h => (goodIn_r wsL_law_r46 [1583, 934, 935, 936, 937, 336, 257, 259, 1584, 1585, 1586, 1587, 938, 939, 940, 941, 942, 943, 944, 945, 1588, 1589, 1590, 1591] (by decide +kernel) (by decide +kernel) w h).1
set_option maxRecDepth 20000 in
theorem wl_47 : ∀ w ∈ wsL_law_r47, w ∈ lw_tbl := fun w h => (goodIn_r wsL_law_r47 [946, 947, 948, 949, 950, 951, 952, 953, 1592, 1593, 1594, 1595, 954, 955, 956, 957, 340, 342, 958, 1596, 1597, 1598, 1599, 1600] (by decide +kernel) (by decide +kernel) w h).1
set_option maxRecDepth 20000 in
theorem wl_48 : ∀ w ∈ wsL_law_r48, w ∈ lw_tbl := fun w h => (goodIn_r wsL_law_r48 [1602, 60, 1603, 1604, 1606, 61, 1607, 1608, 1610, 62, 1611, 1612, 1614, 63, 1615, 959, 960, 961, 962, 963, 964, 965, 966, 131] (by decide +kernel) (by decide +kernel) w h).1
set_option maxRecDepth 20000 in
theorem wl_49 : ∀ w ∈ wsL_law_r49, w ∈ lw_tbl := fun w h => (goodIn_r wsL_law_r49 [137, 967, 968, 969, 970, 971, 972, 974, 15, 975, 976, 978, 16, 979, 980, 982, 17, 983, 984, 985, 986, 990, 987, 988] (by decide +kernel) (by decide +kernel) w h).1
set_option maxRecDepth 20000 in
theorem wl_50 : ∀ w ∈ wsL_law_r50, w ∈ lw_tbl := fun w h => (goodIn_r wsL_law_r50 [989, 991, 993, 18, 994, 995, 997, 19, 998, 1616, 1617, 1618, 1619, 1620, 1622, 64, 1623, 1624, 1626, 65, 1627, 1628, 1630, 66] (by decide +kernel) (by decide +kernel) w h).1
set_option maxRecDepth 20000 in
theorem wl_51 : ∀ w ∈ wsL_law_r51, w ∈ lw_tbl := fun w h => (goodIn_r wsL_law_r51 [1631, 1632, 1634, 67, 1635, 1636, 1638, 68, 1639, 1643, 1644, 1640, 1641, 1642, 1645, 1647, 69, 1648, 999, 1000, 1001, 1002, 1003, 1004] (by decide +kernel) (by decide +kernel) w h).1
set_option maxRecDepth 20000 in
theorem wl_52 : ∀ w ∈ wsL_law_r52, w ∈ lw_tbl := fun w h => (goodIn_r wsL_law_r52 [1005, 1006, 1007, 1008, 1009, 1010, 1649, 1650, 1651, 1652, 1011, 1012, 1013, 1014, 1653, 1654, 1655, 1656, 1015, 1016, 1017, 1018, 1657, 1658] (by decide +kernel) (by decide +kernel) w h).1
set_option maxRecDepth 20000 in
theorem wl_53 : ∀ w ∈ wsL_law_r53, w ∈ lw_tbl := fun w h => (goodIn_r wsL_law_r53 [1659, 1660, 1019, 1020, 1021, 1022, 1023, 1661, 1662, 1663, 1664, 1024, 1025, 1026, 1027, 1665, 1666, 1667, 1668, 1028, 1029, 1030, 1031, 1032] (by decide +kernel) (by decide +kernel) w h).1
set_option maxRecDepth 20000 in
theorem wl_54 : ∀ w ∈ wsL_law_r54, w ∈ lw_tbl := fun w h => (goodIn_r wsL_law_r54 [1033, 1034, 1035, 1036, 1037, 1038, 128, 1040, 1041, 1042, 1043, 1044, 1045, 1046, 1048, 20, 1049, 1050, 1052, 21, 1053, 1054, 1055, 1056] (by decide +kernel) (by decide +kernel) w h).1
set_option maxRecDepth 20000 in
theorem wl_55 : ∀ w ∈ wsL_law_r55, w ∈ lw_tbl := fun w h => (goodIn_r wsL_law_r55 [1057, 1058, 1059, 1669, 1670, 1671, 1672, 1673, 1675, 70, 1676, 1677, 1679, 71, 1680, 1681, 1683, 72, 1684, 1685, 1687, 73, 1688, 1689] (by decide +kernel) (by decide +kernel) w h).1
set_option maxRecDepth 20000 in
theorem wl_56 : ∀ w ∈ wsL_law_r56, w ∈ lw_tbl := fun w h => (goodIn_r wsL_law_r56 [1691, 74, 1692, 1060, 1061, 1062, 1063, 386, 1693, 1694, 1695, 1696, 1064, 1065, 1066, 1067, 1068, 1069, 1070, 1071, 1697, 1698, 1699, 1700] (by decide +kernel) (by decide +kernel) w h).1
set_option maxRecDepth 20000 in
theorem wl_57 : ∀ w ∈ wsL_law_r57, w ∈ lw_tbl := fun w h => (goodIn_r wsL_law_r57 [1701, 1703, 75, 1704, 1072, 1073, 1074, 1075, 1705, 1706, 1707, 1708, 1076, 1077, 1078, 1079, 1080, 1081, 1082, 1083, 1084, 1085, 1087, 22] (by decide +kernel) (by decide +kernel) w h).1
set_option maxRecDepth 20000 in
theorem wl_58 : ∀ w ∈ wsL_law_r58, w ∈ lw_tbl := fun w h => (goodIn_r wsL_law_r58 [1088, 1709, 1710, 1711, 1712, 1713, 1715, 76, 1716, 1717, 1719, 77, 1720, 1089, 1090, 1091, 1092, 1093, 1094, 1095, 1096, 1097, 1721, 1722] (by decide +kernel) (by decide +kernel) w h).1
set_option maxRecDepth 20000 in
theorem wl_59 : ∀ w ∈ wsL_law_r59, w ∈ lw_tbl := fun w h => (goodIn_r wsL_law_r59 [1723, 1724, 1725, 1727, 78, 1728, 1098, 1099, 1100, 1101, 1729, 1730, 1731, 1732] (by decide +kernel) (by decide +kernel) w h).1
set_option maxRecDepth 20000 in
theorem wt_wsX90 : ∀ w ∈ wsX90, w ∈ lw_tbl := fun w h => (goodIn_r wsX90 [407, 409, 411, 413, 415, 417, 419, 421, 423, 425, 427, 429] (by decide +kernel) (by decide +kernel) w h).1
set_option maxRecDepth 20000 in
theorem wt_wsX100 : ∀ w ∈ wsX100, w ∈ lw_tbl := fun w h => (goodIn_r wsX100 [1161, 1163, 1165, 1167, 1169, 1171, 1173, 1175, 1177, 1179, 1181, 1183, 1185, 1187, 1189, 1191, 1193, 1195, 1197, 1199, 1201, 1203, 1205, 1207, 1209, 1211, 1213, 1215, 1217, 1219, 1221, 1223, 1225, 1227, 1229, 1231, 1233, 1235, 1237, 1239, 1241, 1243, 1245, 1247, 1249, 1251, 1253, 1255, 1257, 1259] (by decide +kernel) (by decide +kernel) w h).1
set_option maxRecDepth 20000 in
theorem wt_wsX50 : ∀ w ∈ wsX50, w ∈ lw_tbl := fun w h => (goodIn_r wsX50 [141, 143, 145, 147, 149, 151, 153, 155, 157, 159, 161, 163, 165, 167] (by decide +kernel) (by decide +kernel) w h).1
set_option maxRecDepth 20000 in
theorem wt_wsX30 : ∀ w ∈ wsX30, w ∈ lw_tbl := fun w h => (goodIn_r wsX30 [185, 187] (by decide +kernel) (by decide +kernel) w h).1
set_option maxRecDepth 20000 in
theorem wt_wsX60 : ∀ w ∈ wsX60, w ∈ lw_tbl := fun w h => (goodIn_r wsX60 [202, 204, 206, 208] (by decide +kernel) (by decide +kernel) w h).1
set_option maxRecDepth 20000 in
theorem wt_wsX20 : ∀ w ∈ wsX20, w ∈ lw_tbl := fun w h => (goodIn_r wsX20 [227, 229, 231, 233] (by decide +kernel) (by decide +kernel) w h).1
set_option maxRecDepth 20000 in
theorem wt_wsX10 : ∀ w ∈ wsX10, w ∈ lw_tbl := fun w h => (goodIn_r wsX10 [299, 301, 303, 305, 307, 309, 311, 313, 315, 317, 319] (by decide +kernel) (by decide +kernel) w h).1
set_option maxRecDepth 20000 in
theorem wt_wsX80 : ∀ w ∈ wsX80, w ∈ lw_tbl := fun w h => (goodIn_r wsX80 [343, 345, 347, 349, 351, 353] (by decide +kernel) (by decide +kernel) w h).1
set_option maxRecDepth 20000 in
theorem wt_wsX00 : ∀ w ∈ wsX00, w ∈ lw_tbl := fun w h => (goodIn_r wsX00 [368, 370, 372, 374, 376] (by decide +kernel) (by decide +kernel) w h).1
set_option maxRecDepth 20000 in
theorem wt_wsX70 : ∀ w ∈ wsX70, w ∈ lw_tbl := fun w h => (goodIn_r wsX70 [389, 391] (by decide +kernel) (by decide +kernel) w h).1
set_option maxRecDepth 20000 in
theorem wt_wsX40 : ∀ w ∈ wsX40, w ∈ lw_tbl := fun w h => (goodIn_r wsX40 [268, 270, 272, 274, 276, 278, 280] (by decide +kernel) (by decide +kernel) w h).1
