set_option maxRecDepth 20000 in
theorem ggL_law_X9_pump : GoodIn wsL_law wsX9_pump := goodIn_r _ [1119, 36, 220, 311, 1120, 47, 973, 28, 1121, 822, 823, 824, 97, 825, 826, 827, 127, 126, 828, 829, 830, 831, 117, 1122, 1406, 1407, 1408, 1409, 1410, 1411, 1412, 1413, 1414, 1415, 1416, 1417, 1503, 1504, 1505, 1506, 1507, 1508, 1488, 1489, 1490, 1491, 1516, 1517, 1518, 1519, 1520, 1521, 1522] (by decide +kernel) (by decide +kernel)
set_option maxRecDepth 20000 in
theorem gL_law_X9_pump : GoodIn wsL_law (wsV RL 182 RX9 yX9_pump wsX9_pump) := goodIn_app (goodIn_of _ (by decide +kernel)) ggL_law_X9_pump
set_option maxRecDepth 20000 in
theorem ggL_law_X10_pump : GoodIn wsL_law wsX10_pump := goodIn_r _ [1126, 242, 320, 190, 664, 193, 179, 194, 1127, 1128, 1129, 5, 1130, 243, 232, 192, 1131, 1132, 1133, 1134, 1135, 1136, 1137, 1138, 187, 166, 165, 1139, 1140, 1141, 1142, 1418, 1419, 1420, 1421, 1422, 1423, 1424, 1425, 1426, 1427, 1428, 1429, 1430, 1431, 1432, 1433, 1434, 1435, 1436, 1437, 1438, 1439, 1440, 1441, 1442, 1443, 1444, 1445, 1446, 1447, 1448, 1449, 1450, 1451, 1452, 1453, 1454, 1455, 1456, 1457, 1458, 1459, 1460, 1461, 1462, 1463, 1464, 1465, 1466, 1467] (by decide +kernel) (by decide +kernel)
set_option maxRecDepth 20000 in
theorem gL_law_X10_pump : GoodIn wsL_law (wsV RL 185 RX10 yX10_pump wsX10_pump) := goodIn_app (goodIn_of _ (by decide +kernel)) ggL_law_X10_pump
set_option maxRecDepth 20000 in
theorem ggL_law_X9_weights : GoodIn wsL_law wsX9_weights := goodIn_r _ [1146, 40, 15, 221, 710, 1147, 1148, 1149, 39, 1150, 152, 1151, 1152, 151, 148, 149, 1153, 607, 608, 609, 1154, 1155, 1156, 1157, 508, 509, 14, 510, 57, 56, 285, 2, 286, 1158, 1159, 1160, 1161, 1162, 1163, 1164, 1165, 1166, 1167, 1168, 1169, 1170, 1171, 120, 1172, 1173, 1174, 1175, 1176, 1177, 1178, 1179, 1180, 150, 1181, 1182, 1183, 1184, 1406, 1407, 1408, 1409, 1410, 1411, 1412, 1413, 1414, 1415, 1416, 1417, 1509, 1510, 1511, 1512, 1513, 1468, 1469, 1470, 1471, 1472, 1473, 1474, 1475, 1476, 1477, 1478, 1479, 1480, 1481] (by decide +kernel) (by decide +kernel)
set_option maxRecDepth 20000 in
theorem gL_law_X9_weights : GoodIn wsL_law (wsV RL 186 RX9 yX9_weights wsX9_weights) := goodIn_app (goodIn_of _ (by decide +kernel)) ggL_law_X9_weights
set_option maxRecDepth 20000 in
theorem ggL_law_X10_weights : GoodIn wsL_law wsX10_weights := goodIn_r _ [1188, 244, 232, 261, 763, 198, 1189, 1190, 1191, 5, 1192, 197, 196, 1193, 1194, 1195, 1196, 166, 165, 1197, 1198, 1199, 1200, 1201, 1202, 1203, 1204, 1205, 1206, 1207, 1208, 1209, 1210, 1211, 1212, 1213, 1214, 1215, 1216, 1217, 1418, 1419, 1420, 1421, 1422, 1423, 1424, 1425, 1426, 1427, 1428, 1429, 1430, 1431, 1432, 1433, 1434, 1435, 1436, 1437, 1438, 1439, 1440, 1441, 1442, 1443, 1444, 1445, 1446, 1447, 1448, 1449, 1450, 1451, 1452, 1453, 1454, 1455, 1456, 1457, 1458, 1459, 1460, 1461, 1462, 1463, 1464, 1465, 1466, 1467] (by decide +kernel) (by decide +kernel)
set_option maxRecDepth 20000 in
theorem gL_law_X10_weights : GoodIn wsL_law (wsV RL 189 RX10 yX10_weights wsX10_weights) := goodIn_app (goodIn_of _ (by decide +kernel)) ggL_law_X10_weights
set_option maxRecDepth 20000 in
theorem ggL_law_X9_weight : GoodIn wsL_law wsX9_weight := goodIn_r _ [1221, 15, 40, 208, 378, 275, 276, 14, 277, 65, 1222, 1223, 1224, 39, 1225, 152, 1226, 1227, 1228, 1229, 150, 1406, 1407, 1408, 1409, 1410, 1411, 1412, 1413, 1414, 1415, 1416, 1417, 1468, 1469, 1470, 1471, 1472, 1473, 1474, 1475, 1476, 1477, 1478, 1479, 1480, 1481, 1509, 1510, 1511, 1512, 1513] (by decide +kernel) (by decide +kernel)
set_option maxRecDepth 20000 in
theorem gL_law_X9_weight : GoodIn wsL_law (wsV RL 190 RX9 yX9_weight wsX9_weight) := goodIn_app (goodIn_of _ (by decide +kernel)) ggL_law_X9_weight
set_option maxRecDepth 20000 in
theorem ggL_law_X10_weight : GoodIn wsL_law wsX10_weight := goodIn_r _ [1233, 244, 198, 231, 234, 235, 5, 236, 302, 303, 304, 305, 232, 1418, 1419, 1420, 1421, 1422, 1423, 1424, 1425, 1426, 1427, 1428, 1429, 1430, 1431, 1432, 1433, 1434, 1435, 1436, 1437, 1438, 1439, 1440, 1441, 1442, 1443, 1444, 1445, 1446, 1447, 1448, 1449, 1450, 1451, 1452, 1453, 1454, 1455, 1456, 1457, 1458, 1459, 1460, 1461, 1462, 1463, 1464, 1465, 1466, 1467] (by decide +kernel) (by decide +kernel)
set_option maxRecDepth 20000 in
theorem gL_law_X10_weight : GoodIn wsL_law (wsV RL 193 RX10 yX10_weight wsX10_weight) := goodIn_app (goodIn_of _ (by decide +kernel)) ggL_law_X10_weight
set_option maxRecDepth 20000 in
theorem ggL_law_X9_rounds : GoodIn wsL_law wsX9_rounds := goodIn_r _ [1237, 41, 15, 221, 710, 1147, 1148, 1149, 39, 1150, 152, 1151, 1152, 151, 148, 149, 1153, 607, 608, 609, 1154, 1155, 1156, 1157, 508, 509, 14, 510, 57, 56, 285, 2, 286, 1158, 1159, 1160, 1161, 1162, 1163, 1164, 1165, 1166, 1167, 1168, 1169, 1170, 1171, 120, 1172, 1173, 1174, 1175, 1176, 1177, 1178, 1179, 1180, 150, 1181, 1182, 1183, 1184, 1406, 1407, 1408, 1409, 1410, 1411, 1412, 1413, 1414, 1415, 1416, 1417, 1509, 1510, 1511, 1512, 1513, 1468, 1469, 1470, 1471, 1472, 1473, 1474, 1475, 1476, 1477, 1478, 1479, 1480, 1481] (by decide +kernel) (by decide +kernel)
set_option maxRecDepth 20000 in
theorem gL_law_X9_rounds : GoodIn wsL_law (wsV RL 194 RX9 yX9_rounds wsX9_rounds) := goodIn_app (goodIn_of _ (by decide +kernel)) ggL_law_X9_rounds
set_option maxRecDepth 20000 in
theorem ggL_law_X10_rounds : GoodIn wsL_law wsX10_rounds := goodIn_r _ [1241, 245, 261, 232, 763, 199, 1189, 1190, 1191, 5, 1192, 197, 196, 1193, 1194, 1195, 1196, 166, 165, 1197, 1198, 1199, 1200, 1201, 1202, 1203, 1204, 1205, 1206, 1207, 1208, 1209, 1210, 1211, 1212, 1213, 1214, 1215, 1216, 1217, 1418, 1419, 1420, 1421, 1422, 1423, 1424, 1425, 1426, 1427, 1428, 1429, 1430, 1431, 1432, 1433, 1434, 1435, 1436, 1437, 1438, 1439, 1440, 1441, 1442, 1443, 1444, 1445, 1446, 1447, 1448, 1449, 1450, 1451, 1452, 1453, 1454, 1455, 1456, 1457, 1458, 1459, 1460, 1461, 1462, 1463, 1464, 1465, 1466, 1467] (by decide +kernel) (by decide +kernel)
set_option maxRecDepth 20000 in
theorem gL_law_X10_rounds : GoodIn wsL_law (wsV RL 197 RX10 yX10_rounds wsX10_rounds) := goodIn_app (goodIn_of _ (by decide +kernel)) ggL_law_X10_rounds
set_option maxRecDepth 20000 in
theorem ggL_law_X9_round : GoodIn wsL_law wsX9_round := goodIn_r _ [1245, 15, 41, 208, 367, 271, 272, 14, 273, 66, 1222, 1223, 1224, 39, 1225, 152, 1226, 1227, 1228, 1229, 150, 1406, 1407, 1408, 1409, 1410, 1411, 1412, 1413, 1414, 1415, 1416, 1417, 1468, 1469, 1470, 1471, 1472, 1473, 1474, 1475, 1476, 1477, 1478, 1479, 1480, 1481, 1509, 1510, 1511, 1512, 1513] (by decide +kernel) (by decide +kernel)
set_option maxRecDepth 20000 in
theorem gL_law_X9_round : GoodIn wsL_law (wsV RL 198 RX9 yX9_round wsX9_round) := goodIn_app (goodIn_of _ (by decide +kernel)) ggL_law_X9_round
set_option maxRecDepth 20000 in
theorem ggL_law_X10_round : GoodIn wsL_law wsX10_round := goodIn_r _ [1249, 245, 199, 231, 234, 235, 5, 236, 298, 299, 300, 301, 261, 1418, 1419, 1420, 1421, 1422, 1423, 1424, 1425, 1426, 1427, 1428, 1429, 1430, 1431, 1432, 1433, 1434, 1435, 1436, 1437, 1438, 1439, 1440, 1441, 1442, 1443, 1444, 1445, 1446, 1447, 1448, 1449, 1450, 1451, 1452, 1453, 1454, 1455, 1456, 1457, 1458, 1459, 1460, 1461, 1462, 1463, 1464, 1465, 1466, 1467] (by decide +kernel) (by decide +kernel)
set_option maxRecDepth 20000 in
theorem gL_law_X10_round : GoodIn wsL_law (wsV RL 201 RX10 yX10_round wsX10_round) := goodIn_app (goodIn_of _ (by decide +kernel)) ggL_law_X10_round
set_option maxRecDepth 20000 in
theorem ggL_law_X9_keeps : GoodIn wsL_law wsX9_keeps := goodIn_r _ [1253, 15, 252, 209, 28, 844, 845, 846, 27, 847, 87, 848, 622, 623, 624, 89, 1254, 508, 509, 14, 510, 57, 56, 285, 2, 286, 1406, 1407, 1408, 1409, 1410, 1411, 1412, 1413, 1414, 1415, 1416, 1417, 1468, 1469, 1470, 1471, 1472, 1473, 1474, 1475, 1476, 1477, 1478, 1479, 1480, 1481, 1488, 1489, 1490, 1491] (by decide +kernel) (by decide +kernel)
set_option maxRecDepth 20000 in
theorem gL_law_X9_keeps : GoodIn wsL_law (wsV RL 202 RX9 yX9_keeps wsX9_keeps) := goodIn_app (goodIn_of _ (by decide +kernel)) ggL_law_X9_keeps
set_option maxRecDepth 20000 in
theorem ggL_law_X10_keeps : GoodIn wsL_law wsX10_keeps := goodIn_r _ [1258, 261, 232, 854, 855, 856, 5, 857, 614, 177, 1193, 1194, 1195, 1196, 166, 165, 1418, 1419, 1420, 1421, 1422, 1423, 1424, 1425, 1426, 1427, 1428, 1429, 1430, 1431, 1432, 1433, 1434, 1435, 1436, 1437, 1438, 1439, 1440, 1441, 1442, 1443, 1444, 1445, 1446, 1447, 1448, 1449, 1450, 1451, 1452, 1453, 1454, 1455, 1456, 1457, 1458, 1459, 1460, 1461, 1462, 1463, 1464, 1465, 1466, 1467] (by decide +kernel) (by decide +kernel)
set_option maxRecDepth 20000 in
theorem gL_law_X10_keeps : GoodIn wsL_law (wsV RL 205 RX10 yX10_keeps wsX10_keeps) := goodIn_app (goodIn_of _ (by decide +kernel)) ggL_law_X10_keeps
set_option maxRecDepth 20000 in
theorem ggL_law_X9_turns : GoodIn wsL_law wsX9_turns := goodIn_r _ [1262, 15, 252, 28, 209, 844, 845, 846, 27, 847, 87, 848, 622, 623, 624, 89, 1254, 508, 509, 14, 510, 57, 56, 285, 2, 286, 1406, 1407, 1408, 1409, 1410, 1411, 1412, 1413, 1414, 1415, 1416, 1417, 1468, 1469, 1470, 1471, 1472, 1473, 1474, 1475, 1476, 1477, 1478, 1479, 1480, 1481, 1488, 1489, 1490, 1491] (by decide +kernel) (by decide +kernel)
set_option maxRecDepth 20000 in
theorem gL_law_X9_turns : GoodIn wsL_law (wsV RL 206 RX9 yX9_turns wsX9_turns) := goodIn_app (goodIn_of _ (by decide +kernel)) ggL_law_X9_turns
set_option maxRecDepth 20000 in
theorem ggL_law_X10_turns : GoodIn wsL_law wsX10_turns := goodIn_r _ [1266, 261, 232, 854, 855, 856, 5, 857, 614, 177, 1193, 1194, 1195, 1196, 166, 165, 1418, 1419, 1420, 1421, 1422, 1423, 1424, 1425, 1426, 1427, 1428, 1429, 1430, 1431, 1432, 1433, 1434, 1435, 1436, 1437, 1438, 1439, 1440, 1441, 1442, 1443, 1444, 1445, 1446, 1447, 1448, 1449, 1450, 1451, 1452, 1453, 1454, 1455, 1456, 1457, 1458, 1459, 1460, 1461, 1462, 1463, 1464, 1465, 1466, 1467] (by decide +kernel) (by decide +kernel)
set_option maxRecDepth 20000 in
theorem gL_law_X10_turns : GoodIn wsL_law (wsV RL 209 RX10 yX10_turns wsX10_turns) := goodIn_app (goodIn_of _ (by decide +kernel)) ggL_law_X10_turns
set_option maxRecDepth 20000 in
theorem ggL_law_X9_sets : GoodIn wsL_law wsX9_sets := goodIn_r _ [1270, 208, 45, 15, 222, 1271, 1272, 2, 1273, 1274, 1275, 1276, 44, 1277, 158, 1278, 157, 1279, 1280, 1281, 1282, 1283, 14, 1284, 65, 66, 1285, 1286, 1287, 1288, 63, 62, 1289, 1290, 1291, 1292, 1293, 1294, 1295, 1296, 1297, 1298, 1406, 1407, 1408, 1409, 1410, 1411, 1412, 1413, 1414, 1415, 1416, 1417, 1514, 1515, 1468, 1469, 1470, 1471, 1472, 1473, 1474, 1475, 1476, 1477, 1478, 1479, 1480, 1481] (by decide +kernel) (by decide +kernel)
set_option maxRecDepth 20000 in
theorem gL_law_X9_sets : GoodIn wsL_law (wsV RL 210 RX9 yX9_sets wsX9_sets) := goodIn_app (goodIn_of _ (by decide +kernel)) ggL_law_X9_sets
set_option maxRecDepth 20000 in
theorem ggL_law_X10_sets : GoodIn wsL_law wsX10_sets := goodIn_r _ [1302, 231, 246, 232, 200, 234, 235, 5, 236, 1303, 1304, 1305, 1306, 261, 201, 202, 1307, 1308, 1309, 1310, 165, 166, 1311, 1312, 1313, 1314, 1315, 1316, 1317, 1318, 1319, 1320, 1321, 1322, 1418, 1419, 1420, 1421, 1422, 1423, 1424, 1425, 1426, 1427, 1428, 1429, 1430, 1431, 1432, 1433, 1434, 1435, 1436, 1437, 1438, 1439, 1440, 1441, 1442, 1443, 1444, 1445, 1446, 1447, 1448, 1449, 1450, 1451, 1452, 1453, 1454, 1455, 1456, 1457, 1458, 1459, 1460, 1461, 1462, 1463, 1464, 1465, 1466, 1467] (by decide +kernel) (by decide +kernel)
set_option maxRecDepth 20000 in
theorem gL_law_X10_sets : GoodIn wsL_law (wsV RL 213 RX10 yX10_sets wsX10_sets) := goodIn_app (goodIn_of _ (by decide +kernel)) ggL_law_X10_sets
set_option maxRecDepth 20000 in
theorem ggL_law_X9_bits : GoodIn wsL_law wsX9_bits := goodIn_r _ [1326, 45, 222, 1327, 208, 1406, 1407, 1408, 1409, 1410, 1411, 1412, 1413, 1414, 1415, 1416, 1417, 1514, 1515] (by decide +kernel) (by decide +kernel)
set_option maxRecDepth 20000 in
theorem gL_law_X9_bits : GoodIn wsL_law (wsV RL 214 RX9 yX9_bits wsX9_bits) := goodIn_app (goodIn_of _ (by decide +kernel)) ggL_law_X9_bits
set_option maxRecDepth 20000 in
theorem ggL_law_X10_bits : GoodIn wsL_law wsX10_bits := goodIn_r _ [1331, 246, 200, 231, 234, 235, 5, 236, 1418, 1419, 1420, 1421, 1422, 1423, 1424, 1425, 1426, 1427, 1428, 1429, 1430, 1431, 1432, 1433, 1434, 1435, 1436, 1437, 1438, 1439, 1440, 1441, 1442, 1443, 1444, 1445, 1446, 1447, 1448, 1449, 1450, 1451, 1452, 1453, 1454, 1455, 1456, 1457, 1458, 1459, 1460, 1461, 1462, 1463, 1464, 1465, 1466, 1467] (by decide +kernel) (by decide +kernel)
set_option maxRecDepth 20000 in
theorem gL_law_X10_bits : GoodIn wsL_law (wsV RL 217 RX10 yX10_bits wsX10_bits) := goodIn_app (goodIn_of _ (by decide +kernel)) ggL_law_X10_bits
set_option maxRecDepth 20000 in
theorem ggL_law_X9_isSet : GoodIn wsL_law wsX9_isSet := goodIn_r _ [1335, 15, 208, 1271, 1272, 2, 1273, 1336, 1337, 1338, 14, 1339, 65, 1281, 1282, 1283, 1284, 66, 1285, 1286, 1287, 1288, 63, 62, 1289, 1290, 1291, 1292, 1406, 1407, 1408, 1409, 1410, 1411, 1412, 1413, 1414, 1415, 1416, 1417, 1468, 1469, 1470, 1471, 1472, 1473, 1474, 1475, 1476, 1477, 1478, 1479, 1480, 1481] (by decide +kernel) (by decide +kernel)
set_option maxRecDepth 20000 in
theorem gL_law_X9_isSet : GoodIn wsL_law (wsV RL 218 RX9 yX9_isSet wsX9_isSet) := goodIn_app (goodIn_of _ (by decide +kernel)) ggL_law_X9_isSet
set_option maxRecDepth 20000 in
theorem ggL_law_X10_isSet : GoodIn wsL_law wsX10_isSet := goodIn_r _ [1343, 231, 1344, 1345, 1346, 5, 1347, 232, 234, 235, 236, 1303, 1304, 1305, 1306, 261, 201, 202, 1307, 1308, 1309, 1310, 165, 166, 1315, 1316, 1317, 1318, 1418, 1419, 1420, 1421, 1422, 1423, 1424, 1425, 1426, 1427, 1428, 1429, 1430, 1431, 1432, 1433, 1434, 1435, 1436, 1437, 1438, 1439, 1440, 1441, 1442, 1443, 1444, 1445, 1446, 1447, 1448, 1449, 1450, 1451, 1452, 1453, 1454, 1455, 1456, 1457, 1458, 1459, 1460, 1461, 1462, 1463, 1464, 1465, 1466, 1467] (by decide +kernel) (by decide +kernel)
set_option maxRecDepth 20000 in
theorem gL_law_X10_isSet : GoodIn wsL_law (wsV RL 221 RX10 yX10_isSet wsX10_isSet) := goodIn_app (goodIn_of _ (by decide +kernel)) ggL_law_X10_isSet
set_option maxRecDepth 20000 in
theorem ggL_law_X9_greatest : GoodIn wsL_law wsX9_greatest := goodIn_r _ [1351, 15, 208, 1271, 1272, 2, 1273, 1336, 1337, 1338, 14, 1339, 65, 1281, 1282, 1283, 1284, 66, 1285, 1286, 1287, 1288, 63, 62, 1289, 1290, 1291, 1292, 1406, 1407, 1408, 1409, 1410, 1411, 1412, 1413, 1414, 1415, 1416, 1417, 1468, 1469, 1470, 1471, 1472, 1473, 1474, 1475, 1476, 1477, 1478, 1479, 1480, 1481] (by decide +kernel) (by decide +kernel)
set_option maxRecDepth 20000 in
theorem gL_law_X9_greatest : GoodIn wsL_law (wsV RL 222 RX9 yX9_greatest wsX9_greatest) := goodIn_app (goodIn_of _ (by decide +kernel)) ggL_law_X9_greatest
set_option maxRecDepth 20000 in
theorem ggL_law_X10_greatest : GoodIn wsL_law wsX10_greatest := goodIn_r _ [1355, 231, 1344, 1345, 1346, 5, 1347, 232, 234, 235, 236, 1303, 1304, 1305, 1306, 261, 201, 202, 1307, 1308, 1309, 1310, 165, 166, 1319, 1320, 1321, 1322, 1418, 1419, 1420, 1421, 1422, 1423, 1424, 1425, 1426, 1427, 1428, 1429, 1430, 1431, 1432, 1433, 1434, 1435, 1436, 1437, 1438, 1439, 1440, 1441, 1442, 1443, 1444, 1445, 1446, 1447, 1448, 1449, 1450, 1451, 1452, 1453, 1454, 1455, 1456, 1457, 1458, 1459, 1460, 1461, 1462, 1463, 1464, 1465, 1466, 1467] (by decide +kernel) (by decide +kernel)
set_option maxRecDepth 20000 in
theorem gL_law_X10_greatest : GoodIn wsL_law (wsV RL 225 RX10 yX10_greatest wsX10_greatest) := goodIn_app (goodIn_of _ (by decide +kernel)) ggL_law_X10_greatest
set_option maxRecDepth 20000 in
theorem ggL_law_X9_free : GoodIn wsL_law wsX9_free := goodIn_r _ [1359, 15, 1360, 1361, 1362, 14, 1363, 67, 66, 56, 57, 65, 1364, 975, 976, 977, 55, 1365, 1366, 1367, 1368, 62, 1406, 1407, 1408, 1409, 1410, 1411, 1412, 1413, 1414, 1415, 1416, 1417, 1468, 1469, 1470, 1471, 1472, 1473, 1474, 1475, 1476, 1477, 1478, 1479, 1480, 1481] (by decide +kernel) (by decide +kernel)
set_option maxRecDepth 20000 in
theorem gL_law_X9_free : GoodIn wsL_law (wsV RL 226 RX9 yX9_free wsX9_free) := goodIn_app (goodIn_of _ (by decide +kernel)) ggL_law_X9_free
set_option maxRecDepth 20000 in
theorem ggL_law_X10_free : GoodIn wsL_law wsX10_free := goodIn_r _ [1372, 232, 261, 165, 1373, 1374, 1375, 5, 1376, 164, 166, 696, 697, 698, 699, 163, 1307, 1308, 1309, 1310, 1377, 1378, 1379, 1380, 1418, 1419, 1420, 1421, 1422, 1423, 1424, 1425, 1426, 1427, 1428, 1429, 1430, 1431, 1432, 1433, 1434, 1435, 1436, 1437, 1438, 1439, 1440, 1441, 1442, 1443, 1444, 1445, 1446, 1447, 1448, 1449, 1450, 1451, 1452, 1453, 1454, 1455, 1456, 1457, 1458, 1459, 1460, 1461, 1462, 1463, 1464, 1465, 1466, 1467] (by decide +kernel) (by decide +kernel)
set_option maxRecDepth 20000 in
theorem gL_law_X10_free : GoodIn wsL_law (wsV RL 229 RX10 yX10_free wsX10_free) := goodIn_app (goodIn_of _ (by decide +kernel)) ggL_law_X10_free
set_option maxRecDepth 20000 in
theorem ggL_law_X9_bare : GoodIn wsL_law wsX9_bare := goodIn_r _ [1384, 1385, 15, 209, 19, 1298, 1279, 2, 1280, 1281, 1282, 1283, 14, 1284, 65, 66, 1285, 1286, 1287, 1288, 63, 62, 1289, 1290, 1291, 1292, 1293, 1294, 1295, 1296, 1297, 1386, 1387, 1388, 18, 1389, 72, 1406, 1407, 1408, 1409, 1410, 1411, 1412, 1413, 1414, 1415, 1416, 1417, 1468, 1469, 1470, 1471, 1472, 1473, 1474, 1475, 1476, 1477, 1478, 1479, 1480, 1481, 1482, 1483] (by decide +kernel) (by decide +kernel)
set_option maxRecDepth 20000 in
theorem gL_law_X9_bare : GoodIn wsL_law (wsV RL 230 RX9 yX9_bare wsX9_bare) := goodIn_app (goodIn_of _ (by decide +kernel)) ggL_law_X9_bare
set_option maxRecDepth 20000 in
theorem ggL_law_X10_bare : GoodIn wsL_law wsX10_bare := goodIn_r _ [1393, 232, 1303, 1304, 1305, 5, 1306, 261, 201, 202, 1307, 1308, 1309, 1310, 165, 166, 1311, 1312, 1313, 1314, 1315, 1316, 1317, 1318, 1319, 1320, 1321, 1322, 1394, 1395, 1396, 1397, 171, 1418, 1419, 1420, 1421, 1422, 1423, 1424, 1425, 1426, 1427, 1428, 1429, 1430, 1431, 1432, 1433, 1434, 1435, 1436, 1437, 1438, 1439, 1440, 1441, 1442, 1443, 1444, 1445, 1446, 1447, 1448, 1449, 1450, 1451, 1452, 1453, 1454, 1455, 1456, 1457, 1458, 1459, 1460, 1461, 1462, 1463, 1464, 1465, 1466, 1467] (by decide +kernel) (by decide +kernel)
set_option maxRecDepth 20000 in
theorem gL_law_X10_bare : GoodIn wsL_law (wsV RL 233 RX10 yX10_bare wsX10_bare) := goodIn_app (goodIn_of _ (by decide +kernel)) ggL_law_X10_bare
set_option maxRecDepth 20000 in
theorem ggL_law_X9_count : GoodIn wsL_law wsX9_count := goodIn_r _ [1401, 15, 209, 252, 24, 588, 46, 28, 604, 655, 32, 219, 708, 709, 36, 220, 973, 40, 221, 41, 45, 222, 208, 1406, 1407, 1408, 1409, 1410, 1411, 1412, 1413, 1414, 1415, 1416, 1417, 1468, 1469, 1470, 1471, 1472, 1473, 1474, 1475, 1476, 1477, 1478, 1479, 1480, 1481, 1484, 1485, 1486, 1487, 1488, 1489, 1490, 1491, 1492, 1493, 1494, 1495, 1496, 1497, 1498, 1499, 1500, 1501, 1502, 1516, 1517, 1518, 1519, 1520, 1521, 1522, 1503, 1504, 1505, 1506, 1507, 1508, 1509, 1510, 1511, 1512, 1513, 1514, 1515] (by decide +kernel) (by decide +kernel)
set_option maxRecDepth 20000 in
theorem gL_law_X9_count : GoodIn wsL_law (wsV RL 234 RX9 yX9_count wsX9_count) := goodIn_app (goodIn_of _ (by decide +kernel)) ggL_law_X9_count
set_option maxRecDepth 20000 in
theorem ggL_law_X10_count : GoodIn wsL_law wsX10_count := goodIn_r _ [1405, 232, 261, 247, 558, 614, 664, 203, 243, 244, 245, 246, 231, 1418, 1419, 1420, 1421, 1422, 1423, 1424, 1425, 1426, 1427, 1428, 1429, 1430, 1431, 1432, 1433, 1434, 1435, 1436, 1437, 1438, 1439, 1440, 1441, 1442, 1443, 1444, 1445, 1446, 1447, 1448, 1449, 1450, 1451, 1452, 1453, 1454, 1455, 1456, 1457, 1458, 1459, 1460, 1461, 1462, 1463, 1464, 1465, 1466, 1467] (by decide +kernel) (by decide +kernel)
set_option maxRecDepth 20000 in
theorem gL_law_X10_count : GoodIn wsL_law (wsV RL 237 RX10 yX10_count wsX10_count) := goodIn_app (goodIn_of _ (by decide +kernel)) ggL_law_X10_count
