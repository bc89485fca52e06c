set_option maxRecDepth 20000 in
theorem ggL_law_X9_marking : GoodIn wsL_law wsX9_marking := goodIn_r _ [787, 15, 208, 32, 708, 378, 275, 276, 14, 277, 65, 788, 789, 790, 31, 791, 108, 792, 98, 718, 793, 794, 795, 796, 97, 797, 125, 116, 1406, 1407, 1408, 1409, 1410, 1411, 1412, 1413, 1414, 1415, 1416, 1417, 1492, 1493, 1494, 1495, 1496, 1497, 1498, 1499, 1500, 1501, 1502, 1468, 1469, 1470, 1471, 1472, 1473, 1474, 1475, 1476, 1477, 1478, 1479, 1480, 1481, 1516, 1517, 1518, 1519, 1520, 1521, 1522] (by decide +kernel) (by decide +kernel)
set_option maxRecDepth 20000 in
theorem gL_law_X9_marking : GoodIn wsL_law (wsV RL 126 RX9 yX9_marking wsX9_marking) := goodIn_app (goodIn_of _ (by decide +kernel)) ggL_law_X9_marking
set_option maxRecDepth 20000 in
theorem ggL_law_X10_marking : GoodIn wsL_law wsX10_marking := goodIn_r _ [801, 231, 182, 302, 303, 304, 5, 305, 232, 802, 803, 804, 805, 241, 320, 203, 234, 235, 236, 1418, 1419, 1420, 1421, 1422, 1423, 1424, 1425, 1426, 1427, 1428, 1429, 1430, 1431, 1432, 1433, 1434, 1435, 1436, 1437, 1438, 1439, 1440, 1441, 1442, 1443, 1444, 1445, 1446, 1447, 1448, 1449, 1450, 1451, 1452, 1453, 1454, 1455, 1456, 1457, 1458, 1459, 1460, 1461, 1462, 1463, 1464, 1465, 1466, 1467] (by decide +kernel) (by decide +kernel)
set_option maxRecDepth 20000 in
theorem gL_law_X10_marking : GoodIn wsL_law (wsV RL 129 RX10 yX10_marking wsX10_marking) := goodIn_app (goodIn_of _ (by decide +kernel)) ggL_law_X10_marking
set_option maxRecDepth 20000 in
theorem ggL_law_X9_next : GoodIn wsL_law wsX9_next := goodIn_r _ [809, 15, 208, 32, 367, 271, 272, 14, 273, 66, 788, 789, 790, 31, 791, 108, 792, 98, 718, 793, 810, 811, 812, 813, 103, 110, 1406, 1407, 1408, 1409, 1410, 1411, 1412, 1413, 1414, 1415, 1416, 1417, 1468, 1469, 1470, 1471, 1472, 1473, 1474, 1475, 1476, 1477, 1478, 1479, 1480, 1481, 1492, 1493, 1494, 1495, 1496, 1497, 1498, 1499, 1500, 1501, 1502, 1516, 1517, 1518, 1519, 1520, 1521, 1522] (by decide +kernel) (by decide +kernel)
set_option maxRecDepth 20000 in
theorem gL_law_X9_next : GoodIn wsL_law (wsV RL 130 RX9 yX9_next wsX9_next) := goodIn_app (goodIn_of _ (by decide +kernel)) ggL_law_X9_next
set_option maxRecDepth 20000 in
theorem ggL_law_X10_next : GoodIn wsL_law wsX10_next := goodIn_r _ [817, 231, 186, 298, 299, 300, 5, 301, 261, 802, 803, 804, 805, 241, 320, 203, 234, 235, 236, 1418, 1419, 1420, 1421, 1422, 1423, 1424, 1425, 1426, 1427, 1428, 1429, 1430, 1431, 1432, 1433, 1434, 1435, 1436, 1437, 1438, 1439, 1440, 1441, 1442, 1443, 1444, 1445, 1446, 1447, 1448, 1449, 1450, 1451, 1452, 1453, 1454, 1455, 1456, 1457, 1458, 1459, 1460, 1461, 1462, 1463, 1464, 1465, 1466, 1467] (by decide +kernel) (by decide +kernel)
set_option maxRecDepth 20000 in
theorem gL_law_X10_next : GoodIn wsL_law (wsV RL 133 RX10 yX10_next wsX10_next) := goodIn_app (goodIn_of _ (by decide +kernel)) ggL_law_X10_next
set_option maxRecDepth 20000 in
theorem ggL_law_X9_way : GoodIn wsL_law wsX9_way := goodIn_r _ [821, 32, 708, 28, 655, 788, 789, 790, 31, 791, 108, 792, 98, 718, 793, 822, 823, 824, 97, 825, 826, 827, 127, 126, 828, 829, 830, 831, 117, 1406, 1407, 1408, 1409, 1410, 1411, 1412, 1413, 1414, 1415, 1416, 1417, 1492, 1493, 1494, 1495, 1496, 1497, 1498, 1499, 1500, 1501, 1502, 1488, 1489, 1490, 1491, 1516, 1517, 1518, 1519, 1520, 1521, 1522] (by decide +kernel) (by decide +kernel)
set_option maxRecDepth 20000 in
theorem gL_law_X9_way : GoodIn wsL_law (wsV RL 134 RX9 yX9_way wsX9_way) := goodIn_app (goodIn_of _ (by decide +kernel)) ggL_law_X9_way
set_option maxRecDepth 20000 in
theorem ggL_law_X10_way : GoodIn wsL_law wsX10_way := goodIn_r _ [835, 184, 664, 179, 185, 802, 803, 804, 5, 805, 241, 320, 203, 231, 234, 235, 236, 1418, 1419, 1420, 1421, 1422, 1423, 1424, 1425, 1426, 1427, 1428, 1429, 1430, 1431, 1432, 1433, 1434, 1435, 1436, 1437, 1438, 1439, 1440, 1441, 1442, 1443, 1444, 1445, 1446, 1447, 1448, 1449, 1450, 1451, 1452, 1453, 1454, 1455, 1456, 1457, 1458, 1459, 1460, 1461, 1462, 1463, 1464, 1465, 1466, 1467] (by decide +kernel) (by decide +kernel)
set_option maxRecDepth 20000 in
theorem gL_law_X10_way : GoodIn wsL_law (wsV RL 137 RX10 yX10_way wsX10_way) := goodIn_app (goodIn_of _ (by decide +kernel)) ggL_law_X10_way
set_option maxRecDepth 20000 in
theorem ggL_law_X9_find : GoodIn wsL_law wsX9_find := goodIn_r _ [839, 32, 219, 311, 708, 20, 47, 840, 841, 842, 2, 843, 15, 209, 377, 28, 844, 845, 846, 27, 847, 87, 848, 622, 623, 624, 89, 849, 748, 749, 97, 750, 115, 117, 128, 730, 731, 732, 733, 116, 728, 734, 751, 752, 753, 754, 125, 1406, 1407, 1408, 1409, 1410, 1411, 1412, 1413, 1414, 1415, 1416, 1417, 1492, 1493, 1494, 1495, 1496, 1497, 1498, 1499, 1500, 1501, 1502, 1468, 1469, 1470, 1471, 1472, 1473, 1474, 1475, 1476, 1477, 1478, 1479, 1480, 1481, 1482, 1483, 1488, 1489, 1490, 1491, 1516, 1517, 1518, 1519, 1520, 1521, 1522] (by decide +kernel) (by decide +kernel)
set_option maxRecDepth 20000 in
theorem gL_law_X9_find : GoodIn wsL_law (wsV RL 138 RX9 yX9_find wsX9_find) := goodIn_app (goodIn_of _ (by decide +kernel)) ggL_law_X9_find
set_option maxRecDepth 20000 in
theorem ggL_law_X10_find : GoodIn wsL_law wsX10_find := goodIn_r _ [853, 241, 320, 232, 187, 854, 855, 856, 5, 857, 614, 177, 780, 781, 782, 783, 203, 183, 190, 768, 769, 770, 771, 772, 773, 774, 775, 182, 1418, 1419, 1420, 1421, 1422, 1423, 1424, 1425, 1426, 1427, 1428, 1429, 1430, 1431, 1432, 1433, 1434, 1435, 1436, 1437, 1438, 1439, 1440, 1441, 1442, 1443, 1444, 1445, 1446, 1447, 1448, 1449, 1450, 1451, 1452, 1453, 1454, 1455, 1456, 1457, 1458, 1459, 1460, 1461, 1462, 1463, 1464, 1465, 1466, 1467] (by decide +kernel) (by decide +kernel)
set_option maxRecDepth 20000 in
theorem gL_law_X10_find : GoodIn wsL_law (wsV RL 141 RX10 yX10_find wsX10_find) := goodIn_app (goodIn_of _ (by decide +kernel)) ggL_law_X10_find
set_option maxRecDepth 20000 in
theorem ggL_law_X9_dead : GoodIn wsL_law wsX9_dead := goodIn_r _ [861, 208, 32, 219, 311, 862, 863, 864, 31, 865, 98, 718, 717, 866, 867, 868, 869, 110, 870, 811, 812, 813, 103, 1406, 1407, 1408, 1409, 1410, 1411, 1412, 1413, 1414, 1415, 1416, 1417, 1492, 1493, 1494, 1495, 1496, 1497, 1498, 1499, 1500, 1501, 1502, 1516, 1517, 1518, 1519, 1520, 1521, 1522] (by decide +kernel) (by decide +kernel)
set_option maxRecDepth 20000 in
theorem gL_law_X9_dead : GoodIn wsL_law (wsV RL 142 RX9 yX9_dead wsX9_dead) := goodIn_app (goodIn_of _ (by decide +kernel)) ggL_law_X9_dead
set_option maxRecDepth 20000 in
theorem ggL_law_X10_dead : GoodIn wsL_law wsX10_dead := goodIn_r _ [874, 231, 241, 320, 203, 190, 875, 876, 877, 5, 878, 261, 186, 1418, 1419, 1420, 1421, 1422, 1423, 1424, 1425, 1426, 1427, 1428, 1429, 1430, 1431, 1432, 1433, 1434, 1435, 1436, 1437, 1438, 1439, 1440, 1441, 1442, 1443, 1444, 1445, 1446, 1447, 1448, 1449, 1450, 1451, 1452, 1453, 1454, 1455, 1456, 1457, 1458, 1459, 1460, 1461, 1462, 1463, 1464, 1465, 1466, 1467] (by decide +kernel) (by decide +kernel)
set_option maxRecDepth 20000 in
theorem gL_law_X10_dead : GoodIn wsL_law (wsV RL 145 RX10 yX10_dead wsX10_dead) := goodIn_app (goodIn_of _ (by decide +kernel)) ggL_law_X10_dead
set_option maxRecDepth 20000 in
theorem ggL_law_X9_stuck : GoodIn wsL_law wsX9_stuck := goodIn_r _ [882, 15, 208, 32, 219, 311, 367, 271, 272, 14, 273, 66, 883, 884, 885, 31, 886, 98, 718, 107, 106, 887, 888, 889, 890, 109, 104, 110, 103, 105, 870, 811, 812, 813, 891, 892, 893, 894, 717, 895, 896, 897, 898, 1406, 1407, 1408, 1409, 1410, 1411, 1412, 1413, 1414, 1415, 1416, 1417, 1492, 1493, 1494, 1495, 1496, 1497, 1498, 1499, 1500, 1501, 1502, 1468, 1469, 1470, 1471, 1472, 1473, 1474, 1475, 1476, 1477, 1478, 1479, 1480, 1481, 1516, 1517, 1518, 1519, 1520, 1521, 1522] (by decide +kernel) (by decide +kernel)
set_option maxRecDepth 20000 in
theorem gL_law_X9_stuck : GoodIn wsL_law (wsV RL 146 RX9 yX9_stuck wsX9_stuck) := goodIn_app (goodIn_of _ (by decide +kernel)) ggL_law_X9_stuck
set_option maxRecDepth 20000 in
theorem ggL_law_X10_stuck : GoodIn wsL_law wsX10_stuck := goodIn_r _ [902, 231, 241, 320, 203, 189, 186, 190, 298, 299, 300, 5, 301, 261, 903, 904, 905, 906, 907, 908, 909, 910, 1418, 1419, 1420, 1421, 1422, 1423, 1424, 1425, 1426, 1427, 1428, 1429, 1430, 1431, 1432, 1433, 1434, 1435, 1436, 1437, 1438, 1439, 1440, 1441, 1442, 1443, 1444, 1445, 1446, 1447, 1448, 1449, 1450, 1451, 1452, 1453, 1454, 1455, 1456, 1457, 1458, 1459, 1460, 1461, 1462, 1463, 1464, 1465, 1466, 1467] (by decide +kernel) (by decide +kernel)
set_option maxRecDepth 20000 in
theorem gL_law_X10_stuck : GoodIn wsL_law (wsV RL 149 RX10 yX10_stuck wsX10_stuck) := goodIn_app (goodIn_of _ (by decide +kernel)) ggL_law_X10_stuck
set_option maxRecDepth 20000 in
theorem ggL_law_X9_home : GoodIn wsL_law wsX9_home := goodIn_r _ [914, 32, 47, 788, 789, 790, 31, 791, 108, 792, 98, 718, 793, 915, 916, 917, 918, 107, 106, 887, 888, 889, 890, 109, 104, 110, 103, 105, 891, 892, 893, 894, 717, 895, 896, 897, 898, 1406, 1407, 1408, 1409, 1410, 1411, 1412, 1413, 1414, 1415, 1416, 1417, 1492, 1493, 1494, 1495, 1496, 1497, 1498, 1499, 1500, 1501, 1502, 1516, 1517, 1518, 1519, 1520, 1521, 1522] (by decide +kernel) (by decide +kernel)
set_option maxRecDepth 20000 in
theorem gL_law_X9_home : GoodIn wsL_law (wsV RL 150 RX9 yX9_home wsX9_home) := goodIn_app (goodIn_of _ (by decide +kernel)) ggL_law_X9_home
set_option maxRecDepth 20000 in
theorem ggL_law_X10_home : GoodIn wsL_law wsX10_home := goodIn_r _ [922, 190, 802, 803, 804, 5, 805, 241, 320, 203, 231, 234, 235, 236, 923, 924, 925, 926, 189, 903, 904, 905, 906, 261, 186, 907, 908, 909, 910, 1418, 1419, 1420, 1421, 1422, 1423, 1424, 1425, 1426, 1427, 1428, 1429, 1430, 1431, 1432, 1433, 1434, 1435, 1436, 1437, 1438, 1439, 1440, 1441, 1442, 1443, 1444, 1445, 1446, 1447, 1448, 1449, 1450, 1451, 1452, 1453, 1454, 1455, 1456, 1457, 1458, 1459, 1460, 1461, 1462, 1463, 1464, 1465, 1466, 1467] (by decide +kernel) (by decide +kernel)
set_option maxRecDepth 20000 in
theorem gL_law_X10_home : GoodIn wsL_law (wsV RL 153 RX10 yX10_home wsX10_home) := goodIn_app (goodIn_of _ (by decide +kernel)) ggL_law_X10_home
set_option maxRecDepth 20000 in
theorem ggL_law_X9_works : GoodIn wsL_law wsX9_works := goodIn_r _ [930, 15, 208, 686, 311, 20, 32, 710, 708, 48, 47, 378, 275, 276, 14, 277, 65, 931, 932, 933, 18, 934, 72, 935, 607, 608, 609, 711, 712, 713, 31, 714, 108, 109, 715, 110, 98, 716, 717, 718, 719, 720, 721, 97, 722, 116, 117, 115, 723, 724, 725, 726, 727, 728, 125, 729, 522, 523, 524, 126, 127, 128, 730, 731, 732, 733, 734, 735, 736, 737, 738, 100, 101, 103, 739, 740, 741, 742, 743, 464, 465, 466, 66, 55, 462, 446, 447, 448, 64, 449, 56, 58, 59, 60, 285, 2, 286, 450, 343, 344, 345, 54, 451, 452, 453, 454, 74, 424, 425, 426, 455, 456, 457, 744, 577, 578, 579, 745, 688, 689, 690, 691, 746, 527, 528, 529, 62, 63, 530, 531, 532, 533, 57, 61, 534, 535, 536, 537, 538, 539, 401, 402, 403, 540, 389, 390, 391, 541, 542, 543, 544, 747, 748, 749, 750, 751, 752, 753, 754, 849, 915, 916, 917, 918, 107, 106, 887, 888, 889, 890, 104, 105, 891, 892, 893, 894, 895, 896, 897, 898, 936, 937, 938, 939, 940, 795, 796, 797, 941, 942, 943, 944, 945, 946, 947, 948, 870, 811, 812, 813, 1406, 1407, 1408, 1409, 1410, 1411, 1412, 1413, 1414, 1415, 1416, 1417, 1468, 1469, 1470, 1471, 1472, 1473, 1474, 1475, 1476, 1477, 1478, 1479, 1480, 1481, 1492, 1493, 1494, 1495, 1496, 1497, 1498, 1499, 1500, 1501, 1502, 1482, 1483, 1516, 1517, 1518, 1519, 1520, 1521, 1522] (by decide +kernel) (by decide +kernel)
set_option maxRecDepth 20000 in
theorem gL_law_X9_works : GoodIn wsL_law (wsV RL 154 RX9 yX9_works wsX9_works) := goodIn_app (goodIn_of _ (by decide +kernel)) ggL_law_X9_works
set_option maxRecDepth 20000 in
theorem ggL_law_X10_works : GoodIn wsL_law wsX10_works := goodIn_r _ [952, 231, 320, 232, 187, 763, 191, 190, 302, 303, 304, 5, 305, 234, 235, 236, 696, 697, 698, 699, 163, 759, 760, 761, 762, 203, 241, 764, 765, 766, 767, 183, 182, 184, 185, 768, 769, 770, 771, 772, 773, 774, 775, 776, 777, 778, 779, 261, 186, 166, 165, 700, 701, 702, 703, 164, 479, 480, 481, 482, 483, 484, 485, 486, 167, 168, 780, 781, 782, 783, 923, 924, 925, 926, 189, 903, 904, 905, 906, 907, 908, 909, 910, 953, 954, 955, 956, 957, 958, 959, 960, 1418, 1419, 1420, 1421, 1422, 1423, 1424, 1425, 1426, 1427, 1428, 1429, 1430, 1431, 1432, 1433, 1434, 1435, 1436, 1437, 1438, 1439, 1440, 1441, 1442, 1443, 1444, 1445, 1446, 1447, 1448, 1449, 1450, 1451, 1452, 1453, 1454, 1455, 1456, 1457, 1458, 1459, 1460, 1461, 1462, 1463, 1464, 1465, 1466, 1467] (by decide +kernel) (by decide +kernel)
set_option maxRecDepth 20000 in
theorem gL_law_X10_works : GoodIn wsL_law (wsV RL 157 RX10 yX10_works wsX10_works) := goodIn_app (goodIn_of _ (by decide +kernel)) ggL_law_X10_works
set_option maxRecDepth 20000 in
theorem ggL_law_X9_fault : GoodIn wsL_law wsX9_fault := goodIn_r _ [964, 48, 1406, 1407, 1408, 1409, 1410, 1411, 1412, 1413, 1414, 1415, 1416, 1417] (by decide +kernel) (by decide +kernel)
set_option maxRecDepth 20000 in
theorem gL_law_X9_fault : GoodIn wsL_law (wsV RL 158 RX9 yX9_fault wsX9_fault) := goodIn_app (goodIn_of _ (by decide +kernel)) ggL_law_X9_fault
set_option maxRecDepth 20000 in
theorem ggL_law_X10_fault : GoodIn wsL_law wsX10_fault := goodIn_r _ [968, 191, 1418, 1419, 1420, 1421, 1422, 1423, 1424, 1425, 1426, 1427, 1428, 1429, 1430, 1431, 1432, 1433, 1434, 1435, 1436, 1437, 1438, 1439, 1440, 1441, 1442, 1443, 1444, 1445, 1446, 1447, 1448, 1449, 1450, 1451, 1452, 1453, 1454, 1455, 1456, 1457, 1458, 1459, 1460, 1461, 1462, 1463, 1464, 1465, 1466, 1467] (by decide +kernel) (by decide +kernel)
set_option maxRecDepth 20000 in
theorem gL_law_X10_fault : GoodIn wsL_law (wsV RL 161 RX10 yX10_fault wsX10_fault) := goodIn_app (goodIn_of _ (by decide +kernel)) ggL_law_X10_fault
set_option maxRecDepth 20000 in
theorem ggL_law_X9_tree : GoodIn wsL_law wsX9_tree := goodIn_r _ [972, 208, 15, 686, 311, 36, 19, 973, 709, 710, 974, 975, 976, 14, 977, 66, 55, 978, 979, 980, 35, 981, 139, 140, 141, 135, 982, 137, 983, 984, 138, 985, 720, 721, 97, 722, 116, 117, 115, 723, 607, 608, 609, 986, 688, 689, 18, 690, 72, 691, 522, 523, 524, 987, 988, 989, 990, 991, 748, 749, 750, 128, 730, 731, 732, 733, 728, 734, 751, 752, 753, 754, 125, 992, 725, 726, 727, 729, 126, 127, 993, 994, 995, 996, 997, 998, 740, 741, 742, 999, 446, 447, 448, 64, 65, 449, 56, 58, 59, 60, 285, 2, 286, 450, 343, 344, 345, 54, 451, 452, 453, 454, 74, 424, 425, 426, 455, 456, 457, 1000, 527, 528, 529, 62, 63, 530, 531, 532, 533, 57, 61, 534, 535, 536, 537, 538, 539, 401, 402, 403, 540, 389, 390, 391, 541, 542, 543, 544, 1001, 1002, 1003, 1004, 1005, 1006, 1007, 1008, 1009, 1010, 795, 796, 797, 1011, 1012, 1013, 1014, 1015, 1016, 1017, 1018, 1406, 1407, 1408, 1409, 1410, 1411, 1412, 1413, 1414, 1415, 1416, 1417, 1468, 1469, 1470, 1471, 1472, 1473, 1474, 1475, 1476, 1477, 1478, 1479, 1480, 1481, 1503, 1504, 1505, 1506, 1507, 1508, 1516, 1517, 1518, 1519, 1520, 1521, 1522, 1482, 1483] (by decide +kernel) (by decide +kernel)
set_option maxRecDepth 20000 in
theorem gL_law_X9_tree : GoodIn wsL_law (wsV RL 162 RX9 yX9_tree wsX9_tree) := goodIn_app (goodIn_of _ (by decide +kernel)) ggL_law_X9_tree
set_option maxRecDepth 20000 in
theorem ggL_law_X10_tree : GoodIn wsL_law wsX10_tree := goodIn_r _ [1022, 231, 320, 232, 192, 171, 193, 190, 194, 243, 242, 195, 261, 763, 234, 235, 5, 236, 1023, 1024, 1025, 1026, 164, 696, 697, 698, 699, 163, 1027, 1028, 1029, 1030, 1031, 1032, 1033, 1034, 1035, 1036, 1037, 1038, 165, 167, 1039, 1040, 1041, 1042, 166, 1043, 1044, 1045, 1046, 1047, 1048, 1049, 1050, 1051, 1052, 1053, 1418, 1419, 1420, 1421, 1422, 1423, 1424, 1425, 1426, 1427, 1428, 1429, 1430, 1431, 1432, 1433, 1434, 1435, 1436, 1437, 1438, 1439, 1440, 1441, 1442, 1443, 1444, 1445, 1446, 1447, 1448, 1449, 1450, 1451, 1452, 1453, 1454, 1455, 1456, 1457, 1458, 1459, 1460, 1461, 1462, 1463, 1464, 1465, 1466, 1467] (by decide +kernel) (by decide +kernel)
set_option maxRecDepth 20000 in
theorem gL_law_X10_tree : GoodIn wsL_law (wsV RL 165 RX10 yX10_tree wsX10_tree) := goodIn_app (goodIn_of _ (by decide +kernel)) ggL_law_X10_tree
set_option maxRecDepth 20000 in
theorem ggL_law_X9_node : GoodIn wsL_law wsX9_node := goodIn_r _ [1057, 15, 208, 36, 973, 378, 275, 276, 14, 277, 65, 1058, 1059, 1060, 35, 1061, 139, 1062, 135, 984, 1063, 794, 795, 796, 97, 797, 125, 116, 1064, 1065, 2, 1066, 1067, 1068, 1406, 1407, 1408, 1409, 1410, 1411, 1412, 1413, 1414, 1415, 1416, 1417, 1503, 1504, 1505, 1506, 1507, 1508, 1468, 1469, 1470, 1471, 1472, 1473, 1474, 1475, 1476, 1477, 1478, 1479, 1480, 1481, 1516, 1517, 1518, 1519, 1520, 1521, 1522] (by decide +kernel) (by decide +kernel)
set_option maxRecDepth 20000 in
theorem gL_law_X9_node : GoodIn wsL_law (wsV RL 166 RX9 yX9_node wsX9_node) := goodIn_app (goodIn_of _ (by decide +kernel)) ggL_law_X9_node
set_option maxRecDepth 20000 in
theorem ggL_law_X10_node : GoodIn wsL_law wsX10_node := goodIn_r _ [1072, 231, 192, 302, 303, 304, 5, 305, 232, 1073, 1074, 1075, 1076, 242, 320, 243, 234, 235, 236, 1077, 1078, 1079, 1080, 1418, 1419, 1420, 1421, 1422, 1423, 1424, 1425, 1426, 1427, 1428, 1429, 1430, 1431, 1432, 1433, 1434, 1435, 1436, 1437, 1438, 1439, 1440, 1441, 1442, 1443, 1444, 1445, 1446, 1447, 1448, 1449, 1450, 1451, 1452, 1453, 1454, 1455, 1456, 1457, 1458, 1459, 1460, 1461, 1462, 1463, 1464, 1465, 1466, 1467] (by decide +kernel) (by decide +kernel)
set_option maxRecDepth 20000 in
theorem gL_law_X10_node : GoodIn wsL_law (wsV RL 169 RX10 yX10_node wsX10_node) := goodIn_app (goodIn_of _ (by decide +kernel)) ggL_law_X10_node
set_option maxRecDepth 20000 in
theorem ggL_law_X9_above : GoodIn wsL_law wsX9_above := goodIn_r _ [1084, 208, 36, 1085, 973, 1086, 1087, 1058, 1059, 1060, 35, 1061, 139, 1062, 135, 984, 1063, 1406, 1407, 1408, 1409, 1410, 1411, 1412, 1413, 1414, 1415, 1416, 1417, 1503, 1504, 1505, 1506, 1507, 1508, 1516, 1517, 1518, 1519, 1520, 1521, 1522] (by decide +kernel) (by decide +kernel)
set_option maxRecDepth 20000 in
theorem gL_law_X9_above : GoodIn wsL_law (wsV RL 170 RX9 yX9_above wsX9_above) := goodIn_app (goodIn_of _ (by decide +kernel)) ggL_law_X9_above
set_option maxRecDepth 20000 in
theorem ggL_law_X10_above : GoodIn wsL_law wsX10_above := goodIn_r _ [1091, 231, 193, 194, 195, 234, 235, 5, 236, 1073, 1074, 1075, 1076, 242, 320, 243, 1418, 1419, 1420, 1421, 1422, 1423, 1424, 1425, 1426, 1427, 1428, 1429, 1430, 1431, 1432, 1433, 1434, 1435, 1436, 1437, 1438, 1439, 1440, 1441, 1442, 1443, 1444, 1445, 1446, 1447, 1448, 1449, 1450, 1451, 1452, 1453, 1454, 1455, 1456, 1457, 1458, 1459, 1460, 1461, 1462, 1463, 1464, 1465, 1466, 1467] (by decide +kernel) (by decide +kernel)
set_option maxRecDepth 20000 in
theorem gL_law_X10_above : GoodIn wsL_law (wsV RL 173 RX10 yX10_above wsX10_above) := goodIn_app (goodIn_of _ (by decide +kernel)) ggL_law_X10_above
set_option maxRecDepth 20000 in
theorem ggL_law_X9_cover : GoodIn wsL_law wsX9_cover := goodIn_r _ [1095, 36, 220, 311, 973, 709, 20, 47, 840, 841, 842, 2, 843, 15, 209, 377, 28, 844, 845, 846, 27, 847, 87, 848, 622, 623, 624, 89, 1096, 1097, 1098, 97, 1099, 116, 728, 1010, 795, 796, 797, 125, 1406, 1407, 1408, 1409, 1410, 1411, 1412, 1413, 1414, 1415, 1416, 1417, 1503, 1504, 1505, 1506, 1507, 1508, 1516, 1517, 1518, 1519, 1520, 1521, 1522, 1468, 1469, 1470, 1471, 1472, 1473, 1474, 1475, 1476, 1477, 1478, 1479, 1480, 1481, 1482, 1483, 1488, 1489, 1490, 1491] (by decide +kernel) (by decide +kernel)
set_option maxRecDepth 20000 in
theorem gL_law_X9_cover : GoodIn wsL_law (wsV RL 174 RX9 yX9_cover wsX9_cover) := goodIn_app (goodIn_of _ (by decide +kernel)) ggL_law_X9_cover
set_option maxRecDepth 20000 in
theorem ggL_law_X10_cover : GoodIn wsL_law wsX10_cover := goodIn_r _ [1103, 242, 320, 243, 232, 192, 190, 854, 855, 856, 5, 857, 614, 177, 1418, 1419, 1420, 1421, 1422, 1423, 1424, 1425, 1426, 1427, 1428, 1429, 1430, 1431, 1432, 1433, 1434, 1435, 1436, 1437, 1438, 1439, 1440, 1441, 1442, 1443, 1444, 1445, 1446, 1447, 1448, 1449, 1450, 1451, 1452, 1453, 1454, 1455, 1456, 1457, 1458, 1459, 1460, 1461, 1462, 1463, 1464, 1465, 1466, 1467] (by decide +kernel) (by decide +kernel)
set_option maxRecDepth 20000 in
theorem gL_law_X10_cover : GoodIn wsL_law (wsV RL 177 RX10 yX10_cover wsX10_cover) := goodIn_app (goodIn_of _ (by decide +kernel)) ggL_law_X10_cover
set_option maxRecDepth 20000 in
theorem ggL_law_X9_bound : GoodIn wsL_law wsX9_bound := goodIn_r _ [1107, 15, 208, 36, 220, 973, 311, 378, 275, 276, 14, 277, 65, 1108, 1109, 1110, 97, 1111, 117, 122, 123, 120, 124, 1010, 795, 796, 797, 125, 116, 1064, 1065, 2, 1066, 1067, 1068, 1406, 1407, 1408, 1409, 1410, 1411, 1412, 1413, 1414, 1415, 1416, 1417, 1503, 1504, 1505, 1506, 1507, 1508, 1468, 1469, 1470, 1471, 1472, 1473, 1474, 1475, 1476, 1477, 1478, 1479, 1480, 1481, 1516, 1517, 1518, 1519, 1520, 1521, 1522] (by decide +kernel) (by decide +kernel)
set_option maxRecDepth 20000 in
theorem gL_law_X9_bound : GoodIn wsL_law (wsV RL 178 RX9 yX9_bound wsX9_bound) := goodIn_app (goodIn_of _ (by decide +kernel)) ggL_law_X9_bound
set_option maxRecDepth 20000 in
theorem ggL_law_X10_bound : GoodIn wsL_law wsX10_bound := goodIn_r _ [1115, 231, 242, 320, 243, 192, 302, 303, 304, 5, 305, 232, 1051, 1052, 1053, 1077, 1078, 1079, 1080, 1418, 1419, 1420, 1421, 1422, 1423, 1424, 1425, 1426, 1427, 1428, 1429, 1430, 1431, 1432, 1433, 1434, 1435, 1436, 1437, 1438, 1439, 1440, 1441, 1442, 1443, 1444, 1445, 1446, 1447, 1448, 1449, 1450, 1451, 1452, 1453, 1454, 1455, 1456, 1457, 1458, 1459, 1460, 1461, 1462, 1463, 1464, 1465, 1466, 1467] (by decide +kernel) (by decide +kernel)
set_option maxRecDepth 20000 in
theorem gL_law_X10_bound : GoodIn wsL_law (wsV RL 181 RX10 yX10_bound wsX10_bound) := goodIn_app (goodIn_of _ (by decide +kernel)) ggL_law_X10_bound
