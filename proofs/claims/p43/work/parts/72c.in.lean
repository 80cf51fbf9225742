set_option maxRecDepth 100000 in
theorem in_wsC_22 : ∀ w ∈ wsC_22, w ∈ lw_tbl := posT_use (is := [808, 50, 809, 810, 811, 812, 813, 814, 818, 819, 820, 821, 199, 200, 1100, 822, 824, 8, 825, 1060, 1062, 10, 1063, 1064]) (by decide +kernel)
set_option maxRecDepth 100000 in
theorem in_wsC_23 : ∀ w ∈ wsC_23, w ∈ lw_tbl := posT_use (is := [1066, 11, 1067, 1098, 1099, 1068, 883, 55, 884, 885, 886, 887, 888, 889, 1069, 1070, 1071, 1072, 1586, 1073, 1091, 1092, 1093, 1094]) (by decide +kernel)
set_option maxRecDepth 100000 in
theorem in_wsC_24 : ∀ w ∈ wsC_24, w ∈ lw_tbl := posT_use (is := [1095, 1097, 1101, 1102, 1103, 786, 721, 722, 740, 732, 609, 610, 618, 619, 622, 624, 4, 631, 632, 686, 687, 698, 699, 700]) (by decide +kernel)
set_option maxRecDepth 100000 in
theorem in_wsC_25 : ∀ w ∈ wsC_25, w ∈ lw_tbl := posT_use (is := [717, 718, 723, 724, 765, 766, 767, 783, 785, 7, 608, 1152, 266, 1150, 1151, 1154, 1155, 1156, 1157, 1167, 1168, 1149, 1176, 1177]) (by decide +kernel)
set_option maxRecDepth 100000 in
theorem in_wsC_26 : ∀ w ∈ wsC_26, w ∈ lw_tbl := posT_use (is := [1178, 1175, 1183, 1188, 1189, 1187, 264, 1198, 1197, 1203, 1207, 1208, 1209, 1216, 1217, 1218, 1219, 1220, 1221, 1202, 270, 1193, 1236, 1365]) (by decide +kernel)
set_option maxRecDepth 100000 in
theorem in_wsC_27 : ∀ w ∈ wsC_27, w ∈ lw_tbl := posT_use (is := [272, 1234, 1235, 1363, 1364, 1368, 1369, 1370, 1371, 1362, 1394, 1381, 1382, 1383, 1393, 1389, 1390, 1392, 22, 1395, 1396, 1397, 1379, 729]) (by decide +kernel)
set_option maxRecDepth 100000 in
theorem in_wsC_28 : ∀ w ∈ wsC_28, w ∈ lw_tbl := posT_use (is := [1410, 1409, 319, 1406, 1408, 23, 1405, 1432, 130, 128, 1429, 1431, 24, 1434, 1435, 1436, 1437, 1438, 1428, 1447, 1459, 1452, 1453, 1454]) (by decide +kernel)
set_option maxRecDepth 100000 in
theorem in_wsC_29 : ∀ w ∈ wsC_29, w ∈ lw_tbl := posT_use (is := [1451, 1472, 1474, 1475, 1476, 1463, 1465, 1466, 1467, 1420, 1421, 1422, 1423, 1233, 1230, 1232, 16, 1239, 1240, 1241, 1229, 1309, 1310, 1311]) (by decide +kernel)
set_option maxRecDepth 100000 in
theorem in_wsC_30 : ∀ w ∈ wsC_30, w ∈ lw_tbl := posT_use (is := [1308, 1276, 1277, 1278, 1275, 1324, 160, 158, 1529, 1530, 1225, 1493, 1497, 1508, 1506, 1507, 1510, 1511, 1512, 1505, 1518, 1501, 1522, 239]) (by decide +kernel)
set_option maxRecDepth 100000 in
theorem in_wsC_31 : ∀ w ∈ wsC_31, w ∈ lw_tbl := posT_use (is := [1557, 1558, 1556, 1539, 1540, 1541, 1538, 1536, 1537, 1534, 1551, 312, 1552, 1547]) (by decide +kernel)
set_option maxRecDepth 100000 in
theorem in_wsLw_0 : ∀ w ∈ wsLw_0, w ∈ lw_tbl := posT_use (is := [534, 535, 536, 539, 540, 603, 604, 605, 606, 607, 1146, 1147, 1148, 1172, 1173, 1174, 1180, 1181, 1182, 1184, 1185, 1186, 1190, 1191]) (by decide +kernel)
set_option maxRecDepth 100000 in
theorem in_wsLw_1 : ∀ w ∈ wsLw_1, w ∈ lw_tbl := posT_use (is := [1192, 1194, 1195, 1196, 1199, 1200, 1201, 1222, 1223, 1224, 1226, 1227, 1228, 1272, 1273, 1274, 1305, 1306, 1307, 1321, 1322, 1323, 602, 1359]) (by decide +kernel)
set_option maxRecDepth 100000 in
theorem in_wsLw_2 : ∀ w ∈ wsLw_2, w ∈ lw_tbl := posT_use (is := [1360, 1361, 1358, 546, 553, 547, 550, 554, 551, 552, 26, 557, 543, 544, 545, 548, 549, 555, 556, 584, 581, 582, 583, 1352]) (by decide +kernel)
set_option maxRecDepth 100000 in
theorem in_wsLw_3 : ∀ w ∈ wsLw_3, w ∈ lw_tbl := posT_use (is := [572, 587, 578, 579, 580, 570, 571, 585, 586, 575, 576, 577, 596, 593, 1331, 569, 566, 567, 568, 563, 564, 565, 599, 590]) (by decide +kernel)
set_option maxRecDepth 100000 in
theorem in_wsLw_4 : ∀ w ∈ wsLw_4, w ∈ lw_tbl := posT_use (is := [591, 592, 594, 595, 537, 538, 561, 562, 573, 574, 588, 589, 597, 598, 600, 601, 560, 1329, 1330, 1328, 1334, 1337, 1346, 1343]) (by decide +kernel)
set_option maxRecDepth 100000 in
theorem in_wsLw_5 : ∀ w ∈ wsLw_5, w ∈ lw_tbl := posT_use (is := [1344, 1345, 1341, 1342, 1340, 1350, 1351, 1349, 1356, 1357, 1355, 1376, 1377, 1378, 1375, 1402, 1403, 1404, 1401, 1480, 1417, 1418, 1419, 1425]) (by decide +kernel)
