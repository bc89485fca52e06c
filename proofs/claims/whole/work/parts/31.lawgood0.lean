set_option maxRecDepth 20000 in
theorem ggL_law_X9_init : GoodIn wsL_law wsX9_init := goodIn_r _ [8, 9, 10, 11, 12, 13, 14, 15, 16, 17, 18, 19, 20, 21, 22, 23, 24, 25, 26, 27, 28, 29, 30, 31, 32, 33, 34, 35, 36, 37, 38, 39, 40, 41, 42, 43, 44, 45, 46, 47, 48, 49, 50, 51, 52, 53, 54, 55, 56, 57, 58, 59, 60, 61, 62, 63, 64, 65, 66, 67, 68, 69, 70, 71, 72, 73, 74, 75, 76, 77, 78, 79, 80, 81, 82, 83, 84, 85, 86, 87, 88, 89, 90, 91, 92, 93, 94, 95, 96, 97, 98, 99, 100, 101, 102, 103, 104, 105, 106, 107, 108, 109, 110, 111, 112, 113, 114, 115, 116, 117, 118, 119, 120, 121, 122, 123, 124, 125, 126, 127, 128, 129, 130, 131, 132, 133, 134, 135, 136, 137, 138, 139, 140, 141, 142, 143, 144, 145, 146, 147, 148, 149, 150, 151, 152, 153, 154, 155, 156, 157, 158, 1468, 1469, 1470, 1471, 1472, 1473, 1474, 1475, 1476, 1477, 1478, 1479, 1480, 1481, 1406, 1407, 1408, 1409, 1410, 1411, 1412, 1413, 1414, 1415, 1416, 1417, 1482, 1483, 1484, 1485, 1486, 1487, 1488, 1489, 1490, 1491, 1492, 1493, 1494, 1495, 1496, 1497, 1498, 1499, 1500, 1501, 1502, 1503, 1504, 1505, 1506, 1507, 1508, 1509, 1510, 1511, 1512, 1513, 1514, 1515, 1516, 1517, 1518, 1519, 1520, 1521, 1522] (by decide +kernel) (by decide +kernel)
set_option maxRecDepth 20000 in
theorem gL_law_X9_init : GoodIn wsL_law (wsX9_init) := ggL_law_X9_init
set_option maxRecDepth 20000 in
theorem ggL_law_X10_init : GoodIn wsL_law wsX10_init := goodIn_r _ [161, 162, 10, 11, 53, 163, 164, 165, 166, 167, 168, 169, 170, 171, 172, 173, 174, 175, 176, 177, 178, 179, 180, 181, 182, 183, 184, 185, 186, 187, 188, 189, 190, 191, 192, 193, 194, 195, 73, 196, 197, 198, 199, 200, 201, 202, 203, 1418, 1419, 1420, 1421, 1422, 1423, 1424, 1425, 1426, 1427, 1428, 1429, 1430, 1431, 1432, 1433, 1434, 1435, 1436, 1437, 1438, 1439, 1440, 1441, 1442, 1443, 1444, 1445, 1446, 1447, 1448, 1449, 1450, 1451, 1452, 1453, 1454, 1455, 1456, 1457, 1458, 1459, 1460, 1461, 1462, 1463, 1464, 1465, 1466, 1467] (by decide +kernel) (by decide +kernel)
set_option maxRecDepth 20000 in
theorem gL_law_X10_init : GoodIn wsL_law (wsX10_init) := ggL_law_X10_init
set_option maxRecDepth 20000 in
theorem ggL_law_X9_place : GoodIn wsL_law wsX9_place := goodIn_r _ [207, 208, 15, 209, 210, 211, 212, 213, 14, 214, 54, 65, 67, 215, 216, 217, 2, 218, 32, 219, 36, 220, 40, 221, 41, 45, 222, 24, 223, 224, 225, 23, 226, 81, 1406, 1407, 1408, 1409, 1410, 1411, 1412, 1413, 1414, 1415, 1416, 1417, 1468, 1469, 1470, 1471, 1472, 1473, 1474, 1475, 1476, 1477, 1478, 1479, 1480, 1481, 1492, 1493, 1494, 1495, 1496, 1497, 1498, 1499, 1500, 1501, 1502, 1503, 1504, 1505, 1506, 1507, 1508, 1509, 1510, 1511, 1512, 1513, 1514, 1515, 1484, 1485, 1486, 1487] (by decide +kernel) (by decide +kernel)
set_option maxRecDepth 20000 in
theorem gL_law_X9_place : GoodIn wsL_law (wsV RL 13 RX9 yX9_place wsX9_place) := goodIn_app (goodIn_of _ (by decide +kernel)) ggL_law_X9_place
set_option maxRecDepth 20000 in
theorem ggL_law_X10_place : GoodIn wsL_law wsX10_place := goodIn_r _ [230, 231, 232, 233, 163, 171, 234, 235, 5, 236, 237, 238, 239, 240, 241, 203, 242, 243, 244, 245, 246, 247, 1418, 1419, 1420, 1421, 1422, 1423, 1424, 1425, 1426, 1427, 1428, 1429, 1430, 1431, 1432, 1433, 1434, 1435, 1436, 1437, 1438, 1439, 1440, 1441, 1442, 1443, 1444, 1445, 1446, 1447, 1448, 1449, 1450, 1451, 1452, 1453, 1454, 1455, 1456, 1457, 1458, 1459, 1460, 1461, 1462, 1463, 1464, 1465, 1466, 1467] (by decide +kernel) (by decide +kernel)
set_option maxRecDepth 20000 in
theorem gL_law_X10_place : GoodIn wsL_law (wsV RL 17 RX10 yX10_place wsX10_place) := goodIn_app (goodIn_of _ (by decide +kernel)) ggL_law_X10_place
set_option maxRecDepth 20000 in
theorem ggL_law_X9_step : GoodIn wsL_law wsX9_step := goodIn_r _ [251, 208, 15, 252, 210, 253, 254, 255, 14, 256, 55, 66, 215, 216, 217, 2, 218, 32, 219, 36, 220, 40, 221, 41, 45, 222, 24, 223, 224, 225, 23, 226, 81, 1406, 1407, 1408, 1409, 1410, 1411, 1412, 1413, 1414, 1415, 1416, 1417, 1468, 1469, 1470, 1471, 1472, 1473, 1474, 1475, 1476, 1477, 1478, 1479, 1480, 1481, 1492, 1493, 1494, 1495, 1496, 1497, 1498, 1499, 1500, 1501, 1502, 1503, 1504, 1505, 1506, 1507, 1508, 1509, 1510, 1511, 1512, 1513, 1514, 1515, 1484, 1485, 1486, 1487] (by decide +kernel) (by decide +kernel)
set_option maxRecDepth 20000 in
theorem gL_law_X9_step : GoodIn wsL_law (wsV RL 18 RX9 yX9_step wsX9_step) := goodIn_app (goodIn_of _ (by decide +kernel)) ggL_law_X9_step
set_option maxRecDepth 20000 in
theorem ggL_law_X10_step : GoodIn wsL_law wsX10_step := goodIn_r _ [260, 231, 261, 233, 164, 234, 235, 5, 236, 237, 238, 239, 240, 241, 203, 242, 243, 244, 245, 246, 247, 1418, 1419, 1420, 1421, 1422, 1423, 1424, 1425, 1426, 1427, 1428, 1429, 1430, 1431, 1432, 1433, 1434, 1435, 1436, 1437, 1438, 1439, 1440, 1441, 1442, 1443, 1444, 1445, 1446, 1447, 1448, 1449, 1450, 1451, 1452, 1453, 1454, 1455, 1456, 1457, 1458, 1459, 1460, 1461, 1462, 1463, 1464, 1465, 1466, 1467] (by decide +kernel) (by decide +kernel)
set_option maxRecDepth 20000 in
theorem gL_law_X10_step : GoodIn wsL_law (wsV RL 21 RX10 yX10_step wsX10_step) := goodIn_app (goodIn_of _ (by decide +kernel)) ggL_law_X10_step
set_option maxRecDepth 20000 in
theorem ggL_law_X9_arc : GoodIn wsL_law wsX9_arc := goodIn_r _ [265, 15, 208, 266, 267, 268, 14, 269, 270, 271, 272, 273, 66, 274, 275, 276, 277, 65, 278, 279, 2, 280, 281, 282, 283, 284, 56, 57, 62, 63, 285, 286, 287, 288, 289, 290, 291, 292, 293, 64, 58, 59, 215, 216, 217, 218, 32, 219, 36, 220, 40, 221, 41, 45, 222, 24, 223, 224, 225, 23, 226, 81, 1406, 1407, 1408, 1409, 1410, 1411, 1412, 1413, 1414, 1415, 1416, 1417, 1468, 1469, 1470, 1471, 1472, 1473, 1474, 1475, 1476, 1477, 1478, 1479, 1480, 1481, 1492, 1493, 1494, 1495, 1496, 1497, 1498, 1499, 1500, 1501, 1502, 1503, 1504, 1505, 1506, 1507, 1508, 1509, 1510, 1511, 1512, 1513, 1514, 1515, 1484, 1485, 1486, 1487] (by decide +kernel) (by decide +kernel)
set_option maxRecDepth 20000 in
theorem gL_law_X9_arc : GoodIn wsL_law (wsV RL 22 RX9 yX9_arc wsX9_arc) := goodIn_app (goodIn_of _ (by decide +kernel)) ggL_law_X9_arc
set_option maxRecDepth 20000 in
theorem ggL_law_X10_arc : GoodIn wsL_law wsX10_arc := goodIn_r _ [297, 231, 165, 166, 298, 299, 300, 5, 301, 261, 302, 303, 304, 305, 232, 234, 235, 236, 237, 238, 239, 240, 241, 203, 242, 243, 244, 245, 246, 247, 1418, 1419, 1420, 1421, 1422, 1423, 1424, 1425, 1426, 1427, 1428, 1429, 1430, 1431, 1432, 1433, 1434, 1435, 1436, 1437, 1438, 1439, 1440, 1441, 1442, 1443, 1444, 1445, 1446, 1447, 1448, 1449, 1450, 1451, 1452, 1453, 1454, 1455, 1456, 1457, 1458, 1459, 1460, 1461, 1462, 1463, 1464, 1465, 1466, 1467] (by decide +kernel) (by decide +kernel)
set_option maxRecDepth 20000 in
theorem gL_law_X10_arc : GoodIn wsL_law (wsV RL 26 RX10 yX10_arc wsX10_arc) := goodIn_app (goodIn_of _ (by decide +kernel)) ggL_law_X10_arc
set_option maxRecDepth 20000 in
theorem ggL_law_X9_need : GoodIn wsL_law wsX9_need := goodIn_r _ [309, 15, 208, 310, 311, 266, 267, 268, 14, 269, 270, 271, 272, 273, 66, 274, 275, 276, 277, 65, 278, 279, 2, 280, 312, 313, 314, 315, 58, 285, 286, 290, 291, 292, 293, 64, 56, 59, 287, 288, 289, 215, 216, 217, 218, 32, 219, 36, 220, 40, 221, 41, 45, 222, 24, 223, 224, 225, 23, 226, 81, 1406, 1407, 1408, 1409, 1410, 1411, 1412, 1413, 1414, 1415, 1416, 1417, 1468, 1469, 1470, 1471, 1472, 1473, 1474, 1475, 1476, 1477, 1478, 1479, 1480, 1481, 1492, 1493, 1494, 1495, 1496, 1497, 1498, 1499, 1500, 1501, 1502, 1503, 1504, 1505, 1506, 1507, 1508, 1509, 1510, 1511, 1512, 1513, 1514, 1515, 1484, 1485, 1486, 1487] (by decide +kernel) (by decide +kernel)
set_option maxRecDepth 20000 in
theorem gL_law_X9_need : GoodIn wsL_law (wsV RL 27 RX9 yX9_need wsX9_need) := goodIn_app (goodIn_of _ (by decide +kernel)) ggL_law_X9_need
set_option maxRecDepth 20000 in
theorem ggL_law_X10_need : GoodIn wsL_law wsX10_need := goodIn_r _ [319, 231, 164, 320, 167, 298, 299, 300, 5, 301, 261, 302, 303, 304, 305, 232, 234, 235, 236, 237, 238, 239, 240, 241, 203, 242, 243, 244, 245, 246, 247, 1418, 1419, 1420, 1421, 1422, 1423, 1424, 1425, 1426, 1427, 1428, 1429, 1430, 1431, 1432, 1433, 1434, 1435, 1436, 1437, 1438, 1439, 1440, 1441, 1442, 1443, 1444, 1445, 1446, 1447, 1448, 1449, 1450, 1451, 1452, 1453, 1454, 1455, 1456, 1457, 1458, 1459, 1460, 1461, 1462, 1463, 1464, 1465, 1466, 1467] (by decide +kernel) (by decide +kernel)
set_option maxRecDepth 20000 in
theorem gL_law_X10_need : GoodIn wsL_law (wsV RL 31 RX10 yX10_need wsX10_need) := goodIn_app (goodIn_of _ (by decide +kernel)) ggL_law_X10_need
set_option maxRecDepth 20000 in
theorem ggL_law_X9_close : GoodIn wsL_law wsX9_close := goodIn_r _ [324, 15, 208, 310, 311, 266, 267, 268, 14, 269, 270, 271, 272, 273, 66, 274, 275, 276, 277, 65, 325, 326, 327, 328, 59, 285, 2, 286, 290, 291, 292, 293, 64, 56, 58, 287, 288, 289, 215, 216, 217, 218, 32, 219, 36, 220, 40, 221, 41, 45, 222, 24, 223, 224, 225, 23, 226, 81, 1406, 1407, 1408, 1409, 1410, 1411, 1412, 1413, 1414, 1415, 1416, 1417, 1468, 1469, 1470, 1471, 1472, 1473, 1474, 1475, 1476, 1477, 1478, 1479, 1480, 1481, 1492, 1493, 1494, 1495, 1496, 1497, 1498, 1499, 1500, 1501, 1502, 1503, 1504, 1505, 1506, 1507, 1508, 1509, 1510, 1511, 1512, 1513, 1514, 1515, 1484, 1485, 1486, 1487] (by decide +kernel) (by decide +kernel)
set_option maxRecDepth 20000 in
theorem gL_law_X9_close : GoodIn wsL_law (wsV RL 32 RX9 yX9_close wsX9_close) := goodIn_app (goodIn_of _ (by decide +kernel)) ggL_law_X9_close
set_option maxRecDepth 20000 in
theorem ggL_law_X10_close : GoodIn wsL_law wsX10_close := goodIn_r _ [332, 231, 164, 320, 168, 298, 299, 300, 5, 301, 261, 302, 303, 304, 305, 232, 234, 235, 236, 237, 238, 239, 240, 241, 203, 242, 243, 244, 245, 246, 247, 1418, 1419, 1420, 1421, 1422, 1423, 1424, 1425, 1426, 1427, 1428, 1429, 1430, 1431, 1432, 1433, 1434, 1435, 1436, 1437, 1438, 1439, 1440, 1441, 1442, 1443, 1444, 1445, 1446, 1447, 1448, 1449, 1450, 1451, 1452, 1453, 1454, 1455, 1456, 1457, 1458, 1459, 1460, 1461, 1462, 1463, 1464, 1465, 1466, 1467] (by decide +kernel) (by decide +kernel)
set_option maxRecDepth 20000 in
theorem gL_law_X10_close : GoodIn wsL_law (wsV RL 35 RX10 yX10_close wsX10_close) := goodIn_app (goodIn_of _ (by decide +kernel)) ggL_law_X10_close
set_option maxRecDepth 20000 in
theorem ggL_law_X9_want : GoodIn wsL_law wsX9_want := goodIn_r _ [336, 15, 208, 311, 337, 338, 266, 267, 268, 14, 269, 270, 271, 272, 273, 66, 274, 275, 276, 277, 65, 339, 340, 2, 341, 342, 343, 344, 345, 54, 346, 285, 286, 215, 216, 217, 218, 32, 219, 36, 220, 40, 221, 41, 45, 222, 24, 223, 224, 225, 23, 226, 81, 1406, 1407, 1408, 1409, 1410, 1411, 1412, 1413, 1414, 1415, 1416, 1417, 1468, 1469, 1470, 1471, 1472, 1473, 1474, 1475, 1476, 1477, 1478, 1479, 1480, 1481, 1492, 1493, 1494, 1495, 1496, 1497, 1498, 1499, 1500, 1501, 1502, 1503, 1504, 1505, 1506, 1507, 1508, 1509, 1510, 1511, 1512, 1513, 1514, 1515, 1484, 1485, 1486, 1487] (by decide +kernel) (by decide +kernel)
set_option maxRecDepth 20000 in
theorem gL_law_X9_want : GoodIn wsL_law (wsV RL 36 RX9 yX9_want wsX9_want) := goodIn_app (goodIn_of _ (by decide +kernel)) ggL_law_X9_want
set_option maxRecDepth 20000 in
theorem ggL_law_X10_want : GoodIn wsL_law wsX10_want := goodIn_r _ [350, 231, 163, 320, 169, 170, 298, 299, 300, 5, 301, 261, 302, 303, 304, 305, 232, 234, 235, 236, 237, 238, 239, 240, 241, 203, 242, 243, 244, 245, 246, 247, 1418, 1419, 1420, 1421, 1422, 1423, 1424, 1425, 1426, 1427, 1428, 1429, 1430, 1431, 1432, 1433, 1434, 1435, 1436, 1437, 1438, 1439, 1440, 1441, 1442, 1443, 1444, 1445, 1446, 1447, 1448, 1449, 1450, 1451, 1452, 1453, 1454, 1455, 1456, 1457, 1458, 1459, 1460, 1461, 1462, 1463, 1464, 1465, 1466, 1467] (by decide +kernel) (by decide +kernel)
set_option maxRecDepth 20000 in
theorem gL_law_X10_want : GoodIn wsL_law (wsV RL 39 RX10 yX10_want wsX10_want) := goodIn_app (goodIn_of _ (by decide +kernel)) ggL_law_X10_want
set_option maxRecDepth 20000 in
theorem ggL_law_X9_asks : GoodIn wsL_law wsX9_asks := goodIn_r _ [354, 15, 208, 355, 356, 357, 358, 337, 338, 266, 267, 268, 14, 269, 270, 271, 272, 273, 66, 274, 275, 276, 277, 65, 346, 285, 2, 286, 1406, 1407, 1408, 1409, 1410, 1411, 1412, 1413, 1414, 1415, 1416, 1417, 1468, 1469, 1470, 1471, 1472, 1473, 1474, 1475, 1476, 1477, 1478, 1479, 1480, 1481] (by decide +kernel) (by decide +kernel)
set_option maxRecDepth 20000 in
theorem gL_law_X9_asks : GoodIn wsL_law (wsV RL 40 RX9 yX9_asks wsX9_asks) := goodIn_app (goodIn_of _ (by decide +kernel)) ggL_law_X9_asks
set_option maxRecDepth 20000 in
theorem ggL_law_X10_asks : GoodIn wsL_law wsX10_asks := goodIn_r _ [362, 231, 165, 166, 167, 168, 169, 170, 298, 299, 300, 5, 301, 261, 302, 303, 304, 305, 232, 234, 235, 236, 1418, 1419, 1420, 1421, 1422, 1423, 1424, 1425, 1426, 1427, 1428, 1429, 1430, 1431, 1432, 1433, 1434, 1435, 1436, 1437, 1438, 1439, 1440, 1441, 1442, 1443, 1444, 1445, 1446, 1447, 1448, 1449, 1450, 1451, 1452, 1453, 1454, 1455, 1456, 1457, 1458, 1459, 1460, 1461, 1462, 1463, 1464, 1465, 1466, 1467] (by decide +kernel) (by decide +kernel)
set_option maxRecDepth 20000 in
theorem gL_law_X10_asks : GoodIn wsL_law (wsV RL 43 RX10 yX10_asks wsX10_asks) := goodIn_app (goodIn_of _ (by decide +kernel)) ggL_law_X10_asks
set_option maxRecDepth 20000 in
theorem ggL_law_X9_isOf : GoodIn wsL_law wsX9_isOf := goodIn_r _ [366, 15, 208, 310, 367, 271, 272, 14, 273, 66, 1406, 1407, 1408, 1409, 1410, 1411, 1412, 1413, 1414, 1415, 1416, 1417, 1468, 1469, 1470, 1471, 1472, 1473, 1474, 1475, 1476, 1477, 1478, 1479, 1480, 1481] (by decide +kernel) (by decide +kernel)
set_option maxRecDepth 20000 in
theorem gL_law_X9_isOf : GoodIn wsL_law (wsV RL 44 RX9 yX9_isOf wsX9_isOf) := goodIn_app (goodIn_of _ (by decide +kernel)) ggL_law_X9_isOf
set_option maxRecDepth 20000 in
theorem ggL_law_X10_isOf : GoodIn wsL_law wsX10_isOf := goodIn_r _ [371, 231, 164, 298, 299, 300, 5, 301, 261, 234, 235, 236, 1418, 1419, 1420, 1421, 1422, 1423, 1424, 1425, 1426, 1427, 1428, 1429, 1430, 1431, 1432, 1433, 1434, 1435, 1436, 1437, 1438, 1439, 1440, 1441, 1442, 1443, 1444, 1445, 1446, 1447, 1448, 1449, 1450, 1451, 1452, 1453, 1454, 1455, 1456, 1457, 1458, 1459, 1460, 1461, 1462, 1463, 1464, 1465, 1466, 1467] (by decide +kernel) (by decide +kernel)
set_option maxRecDepth 20000 in
theorem gL_law_X10_isOf : GoodIn wsL_law (wsV RL 48 RX10 yX10_isOf wsX10_isOf) := goodIn_app (goodIn_of _ (by decide +kernel)) ggL_law_X10_isOf
set_option maxRecDepth 20000 in
theorem ggL_law_X9_mark : GoodIn wsL_law wsX9_mark := goodIn_r _ [375, 15, 376, 208, 311, 19, 377, 24, 378, 275, 276, 14, 277, 65, 342, 343, 344, 345, 54, 223, 224, 225, 23, 226, 81, 1406, 1407, 1408, 1409, 1410, 1411, 1412, 1413, 1414, 1415, 1416, 1417, 1482, 1483, 1468, 1469, 1470, 1471, 1472, 1473, 1474, 1475, 1476, 1477, 1478, 1479, 1480, 1481, 1484, 1485, 1486, 1487] (by decide +kernel) (by decide +kernel)
set_option maxRecDepth 20000 in
theorem gL_law_X9_mark : GoodIn wsL_law (wsV RL 49 RX9 yX9_mark wsX9_mark) := goodIn_app (goodIn_of _ (by decide +kernel)) ggL_law_X9_mark
set_option maxRecDepth 20000 in
theorem ggL_law_X10_mark : GoodIn wsL_law wsX10_mark := goodIn_r _ [382, 383, 231, 163, 320, 171, 247, 302, 303, 304, 5, 305, 232, 234, 235, 236, 1418, 1419, 1420, 1421, 1422, 1423, 1424, 1425, 1426, 1427, 1428, 1429, 1430, 1431, 1432, 1433, 1434, 1435, 1436, 1437, 1438, 1439, 1440, 1441, 1442, 1443, 1444, 1445, 1446, 1447, 1448, 1449, 1450, 1451, 1452, 1453, 1454, 1455, 1456, 1457, 1458, 1459, 1460, 1461, 1462, 1463, 1464, 1465, 1466, 1467] (by decide +kernel) (by decide +kernel)
set_option maxRecDepth 20000 in
theorem gL_law_X10_mark : GoodIn wsL_law (wsV RL 52 RX10 yX10_mark wsX10_mark) := goodIn_app (goodIn_of _ (by decide +kernel)) ggL_law_X10_mark
set_option maxRecDepth 20000 in
theorem ggL_law_X9_thing : GoodIn wsL_law wsX9_thing := goodIn_r _ [387, 15, 208, 311, 19, 377, 210, 24, 378, 275, 276, 14, 277, 65, 339, 340, 2, 341, 342, 343, 344, 345, 54, 388, 389, 390, 18, 391, 74, 72, 223, 224, 225, 23, 226, 81, 1406, 1407, 1408, 1409, 1410, 1411, 1412, 1413, 1414, 1415, 1416, 1417, 1482, 1483, 1468, 1469, 1470, 1471, 1472, 1473, 1474, 1475, 1476, 1477, 1478, 1479, 1480, 1481, 1484, 1485, 1486, 1487] (by decide +kernel) (by decide +kernel)
set_option maxRecDepth 20000 in
theorem gL_law_X9_thing : GoodIn wsL_law (wsV RL 53 RX9 yX9_thing wsX9_thing) := goodIn_app (goodIn_of _ (by decide +kernel)) ggL_law_X9_thing
set_option maxRecDepth 20000 in
theorem ggL_law_X10_thing : GoodIn wsL_law wsX10_thing := goodIn_r _ [395, 231, 163, 320, 171, 233, 172, 247, 302, 303, 304, 5, 305, 232, 234, 235, 236, 1418, 1419, 1420, 1421, 1422, 1423, 1424, 1425, 1426, 1427, 1428, 1429, 1430, 1431, 1432, 1433, 1434, 1435, 1436, 1437, 1438, 1439, 1440, 1441, 1442, 1443, 1444, 1445, 1446, 1447, 1448, 1449, 1450, 1451, 1452, 1453, 1454, 1455, 1456, 1457, 1458, 1459, 1460, 1461, 1462, 1463, 1464, 1465, 1466, 1467] (by decide +kernel) (by decide +kernel)
set_option maxRecDepth 20000 in
theorem gL_law_X10_thing : GoodIn wsL_law (wsV RL 56 RX10 yX10_thing wsX10_thing) := goodIn_app (goodIn_of _ (by decide +kernel)) ggL_law_X10_thing
set_option maxRecDepth 20000 in
theorem ggL_law_X9_sweep : GoodIn wsL_law wsX9_sweep := goodIn_r _ [399, 15, 208, 311, 19, 377, 24, 378, 275, 276, 14, 277, 65, 342, 343, 344, 345, 54, 400, 401, 402, 18, 403, 72, 74, 223, 224, 225, 23, 226, 81, 1406, 1407, 1408, 1409, 1410, 1411, 1412, 1413, 1414, 1415, 1416, 1417, 1482, 1483, 1468, 1469, 1470, 1471, 1472, 1473, 1474, 1475, 1476, 1477, 1478, 1479, 1480, 1481, 1484, 1485, 1486, 1487] (by decide +kernel) (by decide +kernel)
set_option maxRecDepth 20000 in
theorem gL_law_X9_sweep : GoodIn wsL_law (wsV RL 57 RX9 yX9_sweep wsX9_sweep) := goodIn_app (goodIn_of _ (by decide +kernel)) ggL_law_X9_sweep
set_option maxRecDepth 20000 in
theorem ggL_law_X10_sweep : GoodIn wsL_law wsX10_sweep := goodIn_r _ [407, 231, 163, 320, 171, 247, 302, 303, 304, 5, 305, 232, 1418, 1419, 1420, 1421, 1422, 1423, 1424, 1425, 1426, 1427, 1428, 1429, 1430, 1431, 1432, 1433, 1434, 1435, 1436, 1437, 1438, 1439, 1440, 1441, 1442, 1443, 1444, 1445, 1446, 1447, 1448, 1449, 1450, 1451, 1452, 1453, 1454, 1455, 1456, 1457, 1458, 1459, 1460, 1461, 1462, 1463, 1464, 1465, 1466, 1467] (by decide +kernel) (by decide +kernel)
set_option maxRecDepth 20000 in
theorem gL_law_X10_sweep : GoodIn wsL_law (wsV RL 60 RX10 yX10_sweep wsX10_sweep) := goodIn_app (goodIn_of _ (by decide +kernel)) ggL_law_X10_sweep
set_option maxRecDepth 20000 in
theorem ggL_law_X9_many : GoodIn wsL_law wsX9_many := goodIn_r _ [411, 15, 19, 377, 208, 378, 275, 276, 14, 277, 65, 1406, 1407, 1408, 1409, 1410, 1411, 1412, 1413, 1414, 1415, 1416, 1417, 1482, 1483, 1468, 1469, 1470, 1471, 1472, 1473, 1474, 1475, 1476, 1477, 1478, 1479, 1480, 1481] (by decide +kernel) (by decide +kernel)
set_option maxRecDepth 20000 in
theorem gL_law_X9_many : GoodIn wsL_law (wsV RL 61 RX9 yX9_many wsX9_many) := goodIn_app (goodIn_of _ (by decide +kernel)) ggL_law_X9_many
set_option maxRecDepth 20000 in
theorem ggL_law_X10_many : GoodIn wsL_law wsX10_many := goodIn_r _ [415, 171, 231, 302, 303, 304, 5, 305, 232, 1418, 1419, 1420, 1421, 1422, 1423, 1424, 1425, 1426, 1427, 1428, 1429, 1430, 1431, 1432, 1433, 1434, 1435, 1436, 1437, 1438, 1439, 1440, 1441, 1442, 1443, 1444, 1445, 1446, 1447, 1448, 1449, 1450, 1451, 1452, 1453, 1454, 1455, 1456, 1457, 1458, 1459, 1460, 1461, 1462, 1463, 1464, 1465, 1466, 1467] (by decide +kernel) (by decide +kernel)
set_option maxRecDepth 20000 in
theorem gL_law_X10_many : GoodIn wsL_law (wsV RL 64 RX10 yX10_many wsX10_many) := goodIn_app (goodIn_of _ (by decide +kernel)) ggL_law_X10_many
set_option maxRecDepth 20000 in
theorem ggL_law_X9_kind : GoodIn wsL_law wsX9_kind := goodIn_r _ [419, 15, 208, 311, 19, 377, 378, 275, 276, 14, 277, 65, 342, 343, 344, 345, 54, 420, 421, 422, 18, 423, 74, 424, 425, 426, 1406, 1407, 1408, 1409, 1410, 1411, 1412, 1413, 1414, 1415, 1416, 1417, 1482, 1483, 1468, 1469, 1470, 1471, 1472, 1473, 1474, 1475, 1476, 1477, 1478, 1479, 1480, 1481] (by decide +kernel) (by decide +kernel)
set_option maxRecDepth 20000 in
theorem gL_law_X9_kind : GoodIn wsL_law (wsV RL 65 RX9 yX9_kind wsX9_kind) := goodIn_app (goodIn_of _ (by decide +kernel)) ggL_law_X9_kind
set_option maxRecDepth 20000 in
theorem ggL_law_X10_kind : GoodIn wsL_law wsX10_kind := goodIn_r _ [430, 231, 163, 320, 171, 172, 302, 303, 304, 5, 305, 232, 234, 235, 236, 1418, 1419, 1420, 1421, 1422, 1423, 1424, 1425, 1426, 1427, 1428, 1429, 1430, 1431, 1432, 1433, 1434, 1435, 1436, 1437, 1438, 1439, 1440, 1441, 1442, 1443, 1444, 1445, 1446, 1447, 1448, 1449, 1450, 1451, 1452, 1453, 1454, 1455, 1456, 1457, 1458, 1459, 1460, 1461, 1462, 1463, 1464, 1465, 1466, 1467] (by decide +kernel) (by decide +kernel)
set_option maxRecDepth 20000 in
theorem gL_law_X10_kind : GoodIn wsL_law (wsV RL 68 RX10 yX10_kind wsX10_kind) := goodIn_app (goodIn_of _ (by decide +kernel)) ggL_law_X10_kind
