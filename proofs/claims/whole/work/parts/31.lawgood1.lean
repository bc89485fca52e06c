set_option maxRecDepth 20000 in
theorem ggL_law_X9_share : GoodIn wsL_law wsX9_share := goodIn_r _ [434, 15, 208, 209, 19, 377, 311, 435, 378, 275, 276, 14, 277, 65, 1406, 1407, 1408, 1409, 1410, 1411, 1412, 1413, 1414, 1415, 1416, 1417, 1468, 1469, 1470, 1471, 1472, 1473, 1474, 1475, 1476, 1477, 1478, 1479, 1480, 1481, 1482, 1483] (by decide +kernel) (by decide +kernel)
set_option maxRecDepth 20000 in
theorem gL_law_X9_share : GoodIn wsL_law (wsV RL 69 RX9 yX9_share wsX9_share) := goodIn_app (goodIn_of _ (by decide +kernel)) ggL_law_X9_share
set_option maxRecDepth 20000 in
theorem ggL_law_X10_share : GoodIn wsL_law wsX10_share := goodIn_r _ [439, 231, 232, 171, 320, 440, 302, 303, 304, 5, 305, 1418, 1419, 1420, 1421, 1422, 1423, 1424, 1425, 1426, 1427, 1428, 1429, 1430, 1431, 1432, 1433, 1434, 1435, 1436, 1437, 1438, 1439, 1440, 1441, 1442, 1443, 1444, 1445, 1446, 1447, 1448, 1449, 1450, 1451, 1452, 1453, 1454, 1455, 1456, 1457, 1458, 1459, 1460, 1461, 1462, 1463, 1464, 1465, 1466, 1467] (by decide +kernel) (by decide +kernel)
set_option maxRecDepth 20000 in
theorem gL_law_X10_share : GoodIn wsL_law (wsV RL 72 RX10 yX10_share wsX10_share) := goodIn_app (goodIn_of _ (by decide +kernel)) ggL_law_X10_share
set_option maxRecDepth 20000 in
theorem ggL_law_X9_may : GoodIn wsL_law wsX9_may := goodIn_r _ [444, 15, 208, 19, 367, 271, 272, 14, 273, 66, 445, 446, 447, 448, 64, 65, 449, 56, 58, 59, 60, 285, 2, 286, 450, 343, 344, 345, 54, 451, 452, 453, 18, 454, 72, 74, 424, 425, 426, 455, 456, 457, 458, 459, 460, 461, 55, 462, 463, 464, 465, 466, 1406, 1407, 1408, 1409, 1410, 1411, 1412, 1413, 1414, 1415, 1416, 1417, 1468, 1469, 1470, 1471, 1472, 1473, 1474, 1475, 1476, 1477, 1478, 1479, 1480, 1481, 1482, 1483] (by decide +kernel) (by decide +kernel)
set_option maxRecDepth 20000 in
theorem gL_law_X9_may : GoodIn wsL_law (wsV RL 73 RX9 yX9_may wsX9_may) := goodIn_app (goodIn_of _ (by decide +kernel)) ggL_law_X9_may
set_option maxRecDepth 20000 in
theorem ggL_law_X10_may : GoodIn wsL_law wsX10_may := goodIn_r _ [470, 231, 298, 299, 300, 5, 301, 261, 471, 472, 473, 474, 164, 475, 476, 477, 478, 171, 479, 480, 481, 482, 232, 483, 484, 485, 486, 165, 167, 168, 487, 488, 489, 490, 163, 172, 169, 491, 492, 493, 494, 495, 496, 497, 1418, 1419, 1420, 1421, 1422, 1423, 1424, 1425, 1426, 1427, 1428, 1429, 1430, 1431, 1432, 1433, 1434, 1435, 1436, 1437, 1438, 1439, 1440, 1441, 1442, 1443, 1444, 1445, 1446, 1447, 1448, 1449, 1450, 1451, 1452, 1453, 1454, 1455, 1456, 1457, 1458, 1459, 1460, 1461, 1462, 1463, 1464, 1465, 1466, 1467] (by decide +kernel) (by decide +kernel)
set_option maxRecDepth 20000 in
theorem gL_law_X10_may : GoodIn wsL_law (wsV RL 76 RX10 yX10_may wsX10_may) := goodIn_app (goodIn_of _ (by decide +kernel)) ggL_law_X10_may
set_option maxRecDepth 20000 in
theorem ggL_law_X9_go : GoodIn wsL_law wsX9_go := goodIn_r _ [501, 15, 208, 19, 311, 210, 367, 271, 272, 14, 273, 66, 458, 459, 460, 461, 55, 462, 446, 447, 448, 64, 65, 449, 56, 58, 59, 60, 285, 2, 286, 450, 343, 344, 345, 54, 451, 452, 453, 18, 454, 72, 74, 424, 425, 426, 455, 456, 457, 463, 464, 465, 466, 502, 503, 504, 505, 506, 507, 508, 509, 510, 57, 511, 512, 513, 514, 24, 46, 515, 516, 517, 23, 518, 519, 520, 80, 82, 521, 522, 523, 524, 79, 81, 525, 119, 120, 121, 526, 527, 528, 529, 62, 63, 530, 531, 532, 533, 61, 534, 535, 536, 537, 538, 539, 401, 402, 403, 540, 389, 390, 391, 541, 542, 543, 544, 1406, 1407, 1408, 1409, 1410, 1411, 1412, 1413, 1414, 1415, 1416, 1417, 1468, 1469, 1470, 1471, 1472, 1473, 1474, 1475, 1476, 1477, 1478, 1479, 1480, 1481, 1482, 1483, 1484, 1485, 1486, 1487] (by decide +kernel) (by decide +kernel)
set_option maxRecDepth 20000 in
theorem gL_law_X9_go : GoodIn wsL_law (wsV RL 77 RX9 yX9_go wsX9_go) := goodIn_app (goodIn_of _ (by decide +kernel)) ggL_law_X9_go
set_option maxRecDepth 20000 in
theorem ggL_law_X10_go : GoodIn wsL_law wsX10_go := goodIn_r _ [548, 231, 320, 233, 298, 299, 300, 5, 301, 261, 471, 472, 473, 474, 164, 475, 476, 477, 478, 171, 479, 480, 481, 482, 232, 483, 484, 485, 486, 165, 167, 168, 487, 488, 489, 490, 163, 172, 169, 491, 492, 493, 494, 495, 496, 497, 549, 550, 551, 552, 166, 553, 554, 555, 556, 557, 558, 559, 560, 561, 562, 247, 563, 173, 174, 176, 564, 565, 566, 567, 170, 1418, 1419, 1420, 1421, 1422, 1423, 1424, 1425, 1426, 1427, 1428, 1429, 1430, 1431, 1432, 1433, 1434, 1435, 1436, 1437, 1438, 1439, 1440, 1441, 1442, 1443, 1444, 1445, 1446, 1447, 1448, 1449, 1450, 1451, 1452, 1453, 1454, 1455, 1456, 1457, 1458, 1459, 1460, 1461, 1462, 1463, 1464, 1465, 1466, 1467] (by decide +kernel) (by decide +kernel)
set_option maxRecDepth 20000 in
theorem gL_law_X10_go : GoodIn wsL_law (wsV RL 80 RX10 yX10_go wsX10_go) := goodIn_app (goodIn_of _ (by decide +kernel)) ggL_law_X10_go
set_option maxRecDepth 20000 in
theorem ggL_law_X9_run : GoodIn wsL_law wsX9_run := goodIn_r _ [571, 208, 15, 19, 572, 573, 574, 14, 575, 66, 463, 464, 465, 466, 55, 462, 446, 447, 448, 64, 65, 449, 56, 58, 59, 60, 285, 2, 286, 450, 343, 344, 345, 54, 451, 452, 453, 18, 454, 72, 74, 424, 425, 426, 455, 456, 457, 576, 577, 578, 579, 502, 503, 504, 505, 506, 507, 508, 509, 510, 57, 511, 512, 513, 514, 24, 46, 515, 516, 517, 23, 518, 519, 520, 80, 82, 521, 522, 523, 524, 79, 81, 525, 119, 120, 121, 526, 527, 528, 529, 62, 63, 530, 531, 532, 533, 61, 534, 535, 536, 537, 538, 539, 401, 402, 403, 540, 389, 390, 391, 541, 542, 543, 544, 1406, 1407, 1408, 1409, 1410, 1411, 1412, 1413, 1414, 1415, 1416, 1417, 1468, 1469, 1470, 1471, 1472, 1473, 1474, 1475, 1476, 1477, 1478, 1479, 1480, 1481, 1482, 1483, 1484, 1485, 1486, 1487] (by decide +kernel) (by decide +kernel)
set_option maxRecDepth 20000 in
theorem gL_law_X9_run : GoodIn wsL_law (wsV RL 81 RX9 yX9_run wsX9_run) := goodIn_app (goodIn_of _ (by decide +kernel)) ggL_law_X9_run
set_option maxRecDepth 20000 in
theorem ggL_law_X10_run : GoodIn wsL_law wsX10_run := goodIn_r _ [583, 231, 261, 234, 235, 5, 236, 471, 472, 473, 474, 164, 475, 476, 477, 478, 171, 479, 480, 481, 482, 232, 483, 484, 485, 486, 165, 167, 168, 487, 488, 489, 490, 163, 172, 169, 491, 492, 493, 494, 495, 496, 497, 549, 550, 551, 552, 166, 553, 554, 555, 556, 557, 558, 559, 560, 561, 562, 247, 563, 173, 174, 176, 564, 565, 566, 567, 170, 1418, 1419, 1420, 1421, 1422, 1423, 1424, 1425, 1426, 1427, 1428, 1429, 1430, 1431, 1432, 1433, 1434, 1435, 1436, 1437, 1438, 1439, 1440, 1441, 1442, 1443, 1444, 1445, 1446, 1447, 1448, 1449, 1450, 1451, 1452, 1453, 1454, 1455, 1456, 1457, 1458, 1459, 1460, 1461, 1462, 1463, 1464, 1465, 1466, 1467] (by decide +kernel) (by decide +kernel)
set_option maxRecDepth 20000 in
theorem gL_law_X10_run : GoodIn wsL_law (wsV RL 84 RX10 yX10_run wsX10_run) := goodIn_app (goodIn_of _ (by decide +kernel)) ggL_law_X10_run
set_option maxRecDepth 20000 in
theorem ggL_law_X9_back : GoodIn wsL_law wsX9_back := goodIn_r _ [587, 24, 588, 311, 15, 19, 589, 590, 591, 23, 592, 82, 81, 79, 593, 594, 519, 80, 520, 521, 522, 523, 524, 595, 508, 509, 14, 510, 57, 56, 285, 2, 286, 1406, 1407, 1408, 1409, 1410, 1411, 1412, 1413, 1414, 1415, 1416, 1417, 1484, 1485, 1486, 1487, 1468, 1469, 1470, 1471, 1472, 1473, 1474, 1475, 1476, 1477, 1478, 1479, 1480, 1481, 1482, 1483] (by decide +kernel) (by decide +kernel)
set_option maxRecDepth 20000 in
theorem gL_law_X9_back : GoodIn wsL_law (wsV RL 85 RX9 yX9_back wsX9_back) := goodIn_app (goodIn_of _ (by decide +kernel)) ggL_law_X9_back
set_option maxRecDepth 20000 in
theorem ggL_law_X10_back : GoodIn wsL_law wsX10_back := goodIn_r _ [599, 247, 320, 563, 171, 174, 172, 176, 173, 1418, 1419, 1420, 1421, 1422, 1423, 1424, 1425, 1426, 1427, 1428, 1429, 1430, 1431, 1432, 1433, 1434, 1435, 1436, 1437, 1438, 1439, 1440, 1441, 1442, 1443, 1444, 1445, 1446, 1447, 1448, 1449, 1450, 1451, 1452, 1453, 1454, 1455, 1456, 1457, 1458, 1459, 1460, 1461, 1462, 1463, 1464, 1465, 1466, 1467] (by decide +kernel) (by decide +kernel)
set_option maxRecDepth 20000 in
theorem gL_law_X10_back : GoodIn wsL_law (wsV RL 89 RX10 yX10_back wsX10_back) := goodIn_app (goodIn_of _ (by decide +kernel)) ggL_law_X10_back
set_option maxRecDepth 20000 in
theorem ggL_law_X9_row : GoodIn wsL_law wsX9_row := goodIn_r _ [603, 208, 28, 604, 605, 606, 607, 608, 609, 1406, 1407, 1408, 1409, 1410, 1411, 1412, 1413, 1414, 1415, 1416, 1417, 1488, 1489, 1490, 1491] (by decide +kernel) (by decide +kernel)
set_option maxRecDepth 20000 in
theorem gL_law_X9_row : GoodIn wsL_law (wsV RL 90 RX9 yX9_row wsX9_row) := goodIn_app (goodIn_of _ (by decide +kernel)) ggL_law_X9_row
set_option maxRecDepth 20000 in
theorem ggL_law_X10_row : GoodIn wsL_law wsX10_row := goodIn_r _ [613, 231, 614, 177, 234, 235, 5, 236, 1418, 1419, 1420, 1421, 1422, 1423, 1424, 1425, 1426, 1427, 1428, 1429, 1430, 1431, 1432, 1433, 1434, 1435, 1436, 1437, 1438, 1439, 1440, 1441, 1442, 1443, 1444, 1445, 1446, 1447, 1448, 1449, 1450, 1451, 1452, 1453, 1454, 1455, 1456, 1457, 1458, 1459, 1460, 1461, 1462, 1463, 1464, 1465, 1466, 1467] (by decide +kernel) (by decide +kernel)
set_option maxRecDepth 20000 in
theorem gL_law_X10_row : GoodIn wsL_law (wsV RL 93 RX10 yX10_row wsX10_row) := goodIn_app (goodIn_of _ (by decide +kernel)) ggL_law_X10_row
set_option maxRecDepth 20000 in
theorem ggL_law_X9_set : GoodIn wsL_law wsX9_set := goodIn_r _ [618, 28, 619, 620, 208, 605, 621, 622, 623, 27, 624, 89, 1406, 1407, 1408, 1409, 1410, 1411, 1412, 1413, 1414, 1415, 1416, 1417, 1488, 1489, 1490, 1491] (by decide +kernel) (by decide +kernel)
set_option maxRecDepth 20000 in
theorem gL_law_X9_set : GoodIn wsL_law (wsV RL 94 RX9 yX9_set wsX9_set) := goodIn_app (goodIn_of _ (by decide +kernel)) ggL_law_X9_set
set_option maxRecDepth 20000 in
theorem ggL_law_X10_set : GoodIn wsL_law wsX10_set := goodIn_r _ [628, 614, 629, 553, 231, 177, 234, 235, 5, 236, 1418, 1419, 1420, 1421, 1422, 1423, 1424, 1425, 1426, 1427, 1428, 1429, 1430, 1431, 1432, 1433, 1434, 1435, 1436, 1437, 1438, 1439, 1440, 1441, 1442, 1443, 1444, 1445, 1446, 1447, 1448, 1449, 1450, 1451, 1452, 1453, 1454, 1455, 1456, 1457, 1458, 1459, 1460, 1461, 1462, 1463, 1464, 1465, 1466, 1467] (by decide +kernel) (by decide +kernel)
set_option maxRecDepth 20000 in
theorem gL_law_X10_set : GoodIn wsL_law (wsV RL 97 RX10 yX10_set wsX10_set) := goodIn_app (goodIn_of _ (by decide +kernel)) ggL_law_X10_set
set_option maxRecDepth 20000 in
theorem ggL_law_X9_get : GoodIn wsL_law wsX9_get := goodIn_r _ [633, 28, 605, 208, 621, 622, 623, 27, 624, 89, 1406, 1407, 1408, 1409, 1410, 1411, 1412, 1413, 1414, 1415, 1416, 1417, 1488, 1489, 1490, 1491] (by decide +kernel) (by decide +kernel)
set_option maxRecDepth 20000 in
theorem gL_law_X9_get : GoodIn wsL_law (wsV RL 98 RX9 yX9_get wsX9_get) := goodIn_app (goodIn_of _ (by decide +kernel)) ggL_law_X9_get
set_option maxRecDepth 20000 in
theorem ggL_law_X10_get : GoodIn wsL_law wsX10_get := goodIn_r _ [637, 614, 177, 231, 234, 235, 5, 236, 1418, 1419, 1420, 1421, 1422, 1423, 1424, 1425, 1426, 1427, 1428, 1429, 1430, 1431, 1432, 1433, 1434, 1435, 1436, 1437, 1438, 1439, 1440, 1441, 1442, 1443, 1444, 1445, 1446, 1447, 1448, 1449, 1450, 1451, 1452, 1453, 1454, 1455, 1456, 1457, 1458, 1459, 1460, 1461, 1462, 1463, 1464, 1465, 1466, 1467] (by decide +kernel) (by decide +kernel)
set_option maxRecDepth 20000 in
theorem gL_law_X10_get : GoodIn wsL_law (wsV RL 101 RX10 yX10_get wsX10_get) := goodIn_app (goodIn_of _ (by decide +kernel)) ggL_law_X10_get
set_option maxRecDepth 20000 in
theorem ggL_law_X9_copy : GoodIn wsL_law wsX9_copy := goodIn_r _ [641, 28, 208, 605, 642, 522, 523, 524, 643, 644, 645, 27, 646, 89, 1406, 1407, 1408, 1409, 1410, 1411, 1412, 1413, 1414, 1415, 1416, 1417, 1488, 1489, 1490, 1491] (by decide +kernel) (by decide +kernel)
set_option maxRecDepth 20000 in
theorem gL_law_X9_copy : GoodIn wsL_law (wsV RL 102 RX9 yX9_copy wsX9_copy) := goodIn_app (goodIn_of _ (by decide +kernel)) ggL_law_X9_copy
set_option maxRecDepth 20000 in
theorem ggL_law_X10_copy : GoodIn wsL_law wsX10_copy := goodIn_r _ [650, 614, 231, 178, 177, 234, 235, 5, 236, 1418, 1419, 1420, 1421, 1422, 1423, 1424, 1425, 1426, 1427, 1428, 1429, 1430, 1431, 1432, 1433, 1434, 1435, 1436, 1437, 1438, 1439, 1440, 1441, 1442, 1443, 1444, 1445, 1446, 1447, 1448, 1449, 1450, 1451, 1452, 1453, 1454, 1455, 1456, 1457, 1458, 1459, 1460, 1461, 1462, 1463, 1464, 1465, 1466, 1467] (by decide +kernel) (by decide +kernel)
set_option maxRecDepth 20000 in
theorem gL_law_X10_copy : GoodIn wsL_law (wsV RL 105 RX10 yX10_copy wsX10_copy) := goodIn_app (goodIn_of _ (by decide +kernel)) ggL_law_X10_copy
set_option maxRecDepth 20000 in
theorem ggL_law_X9_lay : GoodIn wsL_law wsX9_lay := goodIn_r _ [654, 15, 208, 28, 655, 210, 367, 271, 272, 14, 273, 66, 656, 657, 658, 27, 659, 88, 90, 1406, 1407, 1408, 1409, 1410, 1411, 1412, 1413, 1414, 1415, 1416, 1417, 1488, 1489, 1490, 1491, 1468, 1469, 1470, 1471, 1472, 1473, 1474, 1475, 1476, 1477, 1478, 1479, 1480, 1481] (by decide +kernel) (by decide +kernel)
set_option maxRecDepth 20000 in
theorem gL_law_X9_lay : GoodIn wsL_law (wsV RL 106 RX9 yX9_lay wsX9_lay) := goodIn_app (goodIn_of _ (by decide +kernel)) ggL_law_X9_lay
set_option maxRecDepth 20000 in
theorem ggL_law_X10_lay : GoodIn wsL_law wsX10_lay := goodIn_r _ [663, 231, 664, 233, 179, 298, 299, 300, 5, 301, 261, 1418, 1419, 1420, 1421, 1422, 1423, 1424, 1425, 1426, 1427, 1428, 1429, 1430, 1431, 1432, 1433, 1434, 1435, 1436, 1437, 1438, 1439, 1440, 1441, 1442, 1443, 1444, 1445, 1446, 1447, 1448, 1449, 1450, 1451, 1452, 1453, 1454, 1455, 1456, 1457, 1458, 1459, 1460, 1461, 1462, 1463, 1464, 1465, 1466, 1467] (by decide +kernel) (by decide +kernel)
set_option maxRecDepth 20000 in
theorem gL_law_X10_lay : GoodIn wsL_law (wsV RL 109 RX10 yX10_lay wsX10_lay) := goodIn_app (goodIn_of _ (by decide +kernel)) ggL_law_X10_lay
set_option maxRecDepth 20000 in
theorem ggL_law_X9_lift : GoodIn wsL_law wsX9_lift := goodIn_r _ [668, 28, 655, 1406, 1407, 1408, 1409, 1410, 1411, 1412, 1413, 1414, 1415, 1416, 1417, 1488, 1489, 1490, 1491] (by decide +kernel) (by decide +kernel)
set_option maxRecDepth 20000 in
theorem gL_law_X9_lift : GoodIn wsL_law (wsV RL 110 RX9 yX9_lift wsX9_lift) := goodIn_app (goodIn_of _ (by decide +kernel)) ggL_law_X9_lift
set_option maxRecDepth 20000 in
theorem ggL_law_X10_lift : GoodIn wsL_law wsX10_lift := goodIn_r _ [672, 664, 1418, 1419, 1420, 1421, 1422, 1423, 1424, 1425, 1426, 1427, 1428, 1429, 1430, 1431, 1432, 1433, 1434, 1435, 1436, 1437, 1438, 1439, 1440, 1441, 1442, 1443, 1444, 1445, 1446, 1447, 1448, 1449, 1450, 1451, 1452, 1453, 1454, 1455, 1456, 1457, 1458, 1459, 1460, 1461, 1462, 1463, 1464, 1465, 1466, 1467] (by decide +kernel) (by decide +kernel)
set_option maxRecDepth 20000 in
theorem gL_law_X10_lift : GoodIn wsL_law (wsV RL 113 RX10 yX10_lift wsX10_lift) := goodIn_app (goodIn_of _ (by decide +kernel)) ggL_law_X10_lift
set_option maxRecDepth 20000 in
theorem ggL_law_X9_walk : GoodIn wsL_law wsX9_walk := goodIn_r _ [676, 28, 655, 677, 208, 1406, 1407, 1408, 1409, 1410, 1411, 1412, 1413, 1414, 1415, 1416, 1417, 1488, 1489, 1490, 1491] (by decide +kernel) (by decide +kernel)
set_option maxRecDepth 20000 in
theorem gL_law_X9_walk : GoodIn wsL_law (wsV RL 114 RX9 yX9_walk wsX9_walk) := goodIn_app (goodIn_of _ (by decide +kernel)) ggL_law_X9_walk
set_option maxRecDepth 20000 in
theorem ggL_law_X10_walk : GoodIn wsL_law wsX10_walk := goodIn_r _ [681, 664, 179, 231, 234, 235, 5, 236, 1418, 1419, 1420, 1421, 1422, 1423, 1424, 1425, 1426, 1427, 1428, 1429, 1430, 1431, 1432, 1433, 1434, 1435, 1436, 1437, 1438, 1439, 1440, 1441, 1442, 1443, 1444, 1445, 1446, 1447, 1448, 1449, 1450, 1451, 1452, 1453, 1454, 1455, 1456, 1457, 1458, 1459, 1460, 1461, 1462, 1463, 1464, 1465, 1466, 1467] (by decide +kernel) (by decide +kernel)
set_option maxRecDepth 20000 in
theorem gL_law_X10_walk : GoodIn wsL_law (wsV RL 117 RX10 yX10_walk wsX10_walk) := goodIn_app (goodIn_of _ (by decide +kernel)) ggL_law_X10_walk
set_option maxRecDepth 20000 in
theorem ggL_law_X9_check : GoodIn wsL_law wsX9_check := goodIn_r _ [685, 15, 686, 311, 20, 19, 28, 655, 677, 687, 688, 689, 18, 690, 72, 691, 522, 523, 524, 458, 459, 460, 14, 461, 55, 462, 446, 447, 448, 64, 65, 449, 56, 58, 59, 60, 285, 2, 286, 450, 343, 344, 345, 54, 451, 452, 453, 454, 74, 424, 425, 426, 455, 456, 457, 463, 464, 465, 466, 66, 526, 527, 528, 529, 62, 63, 530, 531, 532, 533, 57, 61, 534, 535, 536, 537, 538, 539, 401, 402, 403, 540, 389, 390, 391, 541, 542, 543, 544, 1406, 1407, 1408, 1409, 1410, 1411, 1412, 1413, 1414, 1415, 1416, 1417, 1468, 1469, 1470, 1471, 1472, 1473, 1474, 1475, 1476, 1477, 1478, 1479, 1480, 1481, 1488, 1489, 1490, 1491, 1482, 1483] (by decide +kernel) (by decide +kernel)
set_option maxRecDepth 20000 in
theorem gL_law_X9_check : GoodIn wsL_law (wsV RL 118 RX9 yX9_check wsX9_check) := goodIn_app (goodIn_of _ (by decide +kernel)) ggL_law_X9_check
set_option maxRecDepth 20000 in
theorem ggL_law_X10_check : GoodIn wsL_law wsX10_check := goodIn_r _ [695, 320, 232, 180, 171, 664, 179, 166, 165, 696, 697, 698, 5, 699, 163, 700, 701, 702, 703, 261, 164, 479, 480, 481, 482, 483, 484, 485, 486, 167, 168, 1418, 1419, 1420, 1421, 1422, 1423, 1424, 1425, 1426, 1427, 1428, 1429, 1430, 1431, 1432, 1433, 1434, 1435, 1436, 1437, 1438, 1439, 1440, 1441, 1442, 1443, 1444, 1445, 1446, 1447, 1448, 1449, 1450, 1451, 1452, 1453, 1454, 1455, 1456, 1457, 1458, 1459, 1460, 1461, 1462, 1463, 1464, 1465, 1466, 1467] (by decide +kernel) (by decide +kernel)
set_option maxRecDepth 20000 in
theorem gL_law_X10_check : GoodIn wsL_law (wsV RL 121 RX10 yX10_check wsX10_check) := goodIn_app (goodIn_of _ (by decide +kernel)) ggL_law_X10_check
set_option maxRecDepth 20000 in
theorem ggL_law_X9_field : GoodIn wsL_law wsX9_field := goodIn_r _ [707, 208, 15, 686, 311, 32, 19, 708, 709, 710, 711, 712, 713, 31, 714, 108, 109, 715, 110, 98, 716, 717, 718, 719, 720, 721, 97, 722, 116, 117, 115, 723, 607, 608, 609, 724, 725, 726, 727, 728, 125, 729, 522, 523, 524, 126, 127, 128, 730, 731, 732, 733, 734, 735, 736, 737, 738, 100, 101, 103, 739, 740, 741, 742, 743, 464, 465, 14, 466, 66, 55, 462, 446, 447, 448, 64, 65, 449, 56, 58, 59, 60, 285, 2, 286, 450, 343, 344, 345, 54, 451, 452, 453, 18, 454, 72, 74, 424, 425, 426, 455, 456, 457, 744, 577, 578, 579, 745, 688, 689, 690, 691, 746, 527, 528, 529, 62, 63, 530, 531, 532, 533, 57, 61, 534, 535, 536, 537, 538, 539, 401, 402, 403, 540, 389, 390, 391, 541, 542, 543, 544, 747, 748, 749, 750, 751, 752, 753, 754, 1406, 1407, 1408, 1409, 1410, 1411, 1412, 1413, 1414, 1415, 1416, 1417, 1468, 1469, 1470, 1471, 1472, 1473, 1474, 1475, 1476, 1477, 1478, 1479, 1480, 1481, 1492, 1493, 1494, 1495, 1496, 1497, 1498, 1499, 1500, 1501, 1502, 1516, 1517, 1518, 1519, 1520, 1521, 1522, 1482, 1483] (by decide +kernel) (by decide +kernel)
set_option maxRecDepth 20000 in
theorem gL_law_X9_field : GoodIn wsL_law (wsV RL 122 RX9 yX9_field wsX9_field) := goodIn_app (goodIn_of _ (by decide +kernel)) ggL_law_X9_field
set_option maxRecDepth 20000 in
theorem ggL_law_X10_field : GoodIn wsL_law wsX10_field := goodIn_r _ [758, 231, 320, 232, 187, 171, 234, 235, 5, 236, 696, 697, 698, 699, 163, 759, 760, 761, 762, 203, 190, 241, 763, 764, 765, 766, 767, 183, 182, 184, 185, 768, 769, 770, 771, 772, 773, 774, 775, 776, 777, 778, 779, 261, 186, 166, 165, 700, 701, 702, 703, 164, 479, 480, 481, 482, 483, 484, 485, 486, 167, 168, 780, 781, 782, 783, 1418, 1419, 1420, 1421, 1422, 1423, 1424, 1425, 1426, 1427, 1428, 1429, 1430, 1431, 1432, 1433, 1434, 1435, 1436, 1437, 1438, 1439, 1440, 1441, 1442, 1443, 1444, 1445, 1446, 1447, 1448, 1449, 1450, 1451, 1452, 1453, 1454, 1455, 1456, 1457, 1458, 1459, 1460, 1461, 1462, 1463, 1464, 1465, 1466, 1467] (by decide +kernel) (by decide +kernel)
set_option maxRecDepth 20000 in
theorem gL_law_X10_field : GoodIn wsL_law (wsV RL 125 RX10 yX10_field wsX10_field) := goodIn_app (goodIn_of _ (by decide +kernel)) ggL_law_X10_field
