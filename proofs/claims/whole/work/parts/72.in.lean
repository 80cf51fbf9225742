def posT : List Cond → List Nat → Bool
  | [], _ => true
  | _ :: _, [] => false
  | w :: ws, i :: is => decide (lw_tbl[i]? = some w) && posT ws is
theorem posT_use : ∀ {ws : List Cond} {is : List Nat}, posT ws is = true → ∀ w ∈ ws, w ∈ lw_tbl
  | [], _, _ => fun _ h => absurd h List.not_mem_nil
  | _ :: _, [], h => by cases h
  | w :: ws, i :: is, h => by
    unfold posT at h
    rw [Bool.and_eq_true] at h
    intro x hx
    rcases List.mem_cons.mp hx with rfl | hx
    · exact List.mem_of_getElem? (of_decide_eq_true h.1)
    · exact posT_use h.2 x hx
set_option maxRecDepth 100000 in
theorem in_wsC_0 : ∀ w ∈ wsC_0, w ∈ lw_tbl := posT_use (is := [727, 728, 115, 116, 729, 732, 735, 737, 739, 819, 746, 743, 152, 153, 147, 155, 154, 603, 156, 770, 771, 772, 87, 773]) (by decide +kernel)
set_option maxRecDepth 100000 in
theorem in_wsC_1 : ∀ w ∈ wsC_1, w ∈ lw_tbl := posT_use (is := [774, 775, 776, 777, 778, 780, 781, 669, 86, 670, 782, 784, 783, 97, 516, 125, 551, 131, 547, 514, 515, 76, 707, 548]) (by decide +kernel)
set_option maxRecDepth 100000 in
theorem in_wsC_2 : ∀ w ∈ wsC_2, w ∈ lw_tbl := posT_use (is := [549, 550, 711, 127, 647, 128, 643, 644, 646, 5, 651, 715, 716, 641, 642, 717, 649, 650, 546, 130, 704, 705, 706, 708]) (by decide +kernel)
set_option maxRecDepth 100000 in
theorem in_wsC_3 : ∀ w ∈ wsC_3, w ∈ lw_tbl := posT_use (is := [709, 710, 712, 714, 6, 77, 718, 544, 545, 703, 169, 170, 172, 173, 174, 195, 175, 171, 420, 176, 178, 1334, 1330, 1331]) (by decide +kernel)
set_option maxRecDepth 100000 in
theorem in_wsC_4 : ∀ w ∈ wsC_4, w ∈ lw_tbl := posT_use (is := [1333, 19, 78, 1359, 1371, 1383, 659, 286, 285, 1180, 1139, 657, 658, 85, 1176, 325, 1177, 1178, 1179, 1413, 129, 316, 1452, 1174]) (by decide +kernel)
set_option maxRecDepth 100000 in
theorem in_wsC_5 : ∀ w ∈ wsC_5, w ∈ lw_tbl := posT_use (is := [1175, 83, 1410, 1411, 1412, 1451, 663, 667, 328, 329, 618, 655, 326, 656, 660, 661, 662, 664, 665, 666, 617, 1408, 653, 654]) (by decide +kernel)
set_option maxRecDepth 100000 in
theorem in_wsC_6 : ∀ w ∈ wsC_6, w ∈ lw_tbl := posT_use (is := [1409, 615, 616, 1407, 1415, 1404, 1406, 21, 1414, 1403, 202, 203, 206, 210, 211, 204, 205, 685, 323, 686, 1423, 682, 683, 684]) (by decide +kernel)
set_option maxRecDepth 100000 in
theorem in_wsC_7 : ∀ w ∈ wsC_7, w ∈ lw_tbl := posT_use (is := [1418, 1419, 1420, 1421, 1422, 677, 680, 674, 269, 270, 681, 675, 676, 84, 678, 679, 322, 320, 668, 640, 648, 652, 671, 672]) (by decide +kernel)
set_option maxRecDepth 100000 in
theorem in_wsC_8 : ∀ w ∈ wsC_8, w ∈ lw_tbl := posT_use (is := [673, 639, 1428, 208, 363, 365, 213, 1400, 1401, 1402, 1416, 1417, 79, 1424, 637, 638, 1425, 1427, 22, 1399, 1231, 1440, 1229, 1230]) (by decide +kernel)
set_option maxRecDepth 100000 in
theorem in_wsC_9 : ∀ w ∈ wsC_9, w ∈ lw_tbl := posT_use (is := [1441, 1442, 108, 1443, 1444, 1445, 107, 1446, 1447, 1448, 1449, 1450, 1439, 1468, 318, 1469, 1473, 311, 698, 312, 324, 1138, 1134, 1140]) (by decide +kernel)
set_option maxRecDepth 100000 in
theorem in_wsC_10 : ∀ w ∈ wsC_10, w ∈ lw_tbl := posT_use (is := [327, 1482, 308, 309, 310, 695, 696, 697, 1135, 1136, 1137, 1481, 287, 212, 1478, 1479, 1480, 1483, 1477, 1464, 306, 307, 1465, 1467]) (by decide +kernel)
set_option maxRecDepth 100000 in
theorem in_wsC_11 : ∀ w ∈ wsC_11, w ∈ lw_tbl := posT_use (is := [23, 1470, 1472, 24, 1474, 1476, 25, 1463, 358, 359, 370, 360, 362, 796, 1290, 744, 745, 793, 794, 795, 88, 1286, 1287, 1288]) (by decide +kernel)
set_option maxRecDepth 100000 in
theorem in_wsC_12 : ∀ w ∈ wsC_12, w ∈ lw_tbl := posT_use (is := [1289, 800, 369, 747, 801, 283, 284, 792, 797, 798, 799, 1300, 1239, 1235, 367, 1240, 1236, 1237, 1238, 280, 281, 282, 1133, 267]) (by decide +kernel)
set_option maxRecDepth 100000 in
theorem in_wsC_13 : ∀ w ∈ wsC_13, w ∈ lw_tbl := posT_use (is := [268, 304, 305, 1151, 1274, 1149, 1150, 1148, 1152, 1612, 121, 122, 500, 123, 542, 543, 536, 1196, 314, 317, 298, 299, 300, 301]) (by decide +kernel)
set_option maxRecDepth 100000 in
theorem in_wsC_14 : ∀ w ∈ wsC_14, w ∈ lw_tbl := posT_use (is := [302, 303, 297, 262, 263, 264, 276, 277, 265, 266, 278, 279, 294, 295, 296, 261, 1129, 1130, 1131, 1132, 1125, 1126, 1128, 14]) (by decide +kernel)
set_option maxRecDepth 100000 in
theorem in_wsC_15 : ∀ w ∈ wsC_15, w ∈ lw_tbl := posT_use (is := [1124, 733, 736, 738, 740, 741, 1120, 817, 818, 96, 1121, 1123, 13, 1119, 1144, 1156, 730, 1116, 1118, 12, 1141, 1143, 15, 1145]) (by decide +kernel)
set_option maxRecDepth 100000 in
theorem in_wsC_16 : ∀ w ∈ wsC_16, w ∈ lw_tbl := posT_use (is := [1146, 1147, 1153, 1154, 1155, 1115, 694, 1185, 1173, 1172, 1536, 1183, 1184, 1535, 1582, 1581, 1616, 1609, 1610, 1611, 1613, 1615, 26, 1608]) (by decide +kernel)
set_option maxRecDepth 100000 in
theorem in_wsC_17 : ∀ w ∈ wsC_17, w ∈ lw_tbl := posT_use (is := [114, 117, 118, 384, 148, 149, 385, 165, 166, 386, 196, 387, 198, 199, 388, 231, 232, 82, 389, 257, 258, 390, 391, 355]) (by decide +kernel)
set_option maxRecDepth 100000 in
theorem in_wsC_18 : ∀ w ∈ wsC_18, w ∈ lw_tbl := posT_use (is := [119, 120, 150, 151, 167, 168, 200, 201, 233, 234, 235, 243, 245, 236, 237, 81, 238, 247, 239, 240, 80, 241, 242, 259]) (by decide +kernel)
set_option maxRecDepth 100000 in
theorem in_wsC_19 : ∀ w ∈ wsC_19, w ∈ lw_tbl := posT_use (is := [260, 356, 357, 113, 428, 429, 93, 124, 497, 498, 499, 512, 517, 94, 513, 126, 509, 511, 1, 75, 533, 534, 535, 539]) (by decide +kernel)
set_option maxRecDepth 100000 in
theorem in_wsC_20 : ∀ w ∈ wsC_20, w ∈ lw_tbl := posT_use (is := [540, 541, 508, 562, 566, 558, 366, 559, 561, 2, 564, 565, 579, 582, 583, 95, 157, 576, 578, 3, 580, 581, 600, 601]) (by decide +kernel)
set_option maxRecDepth 100000 in
theorem in_wsC_21 : ∀ w ∈ wsC_21, w ∈ lw_tbl := posT_use (is := [602, 575, 412, 613, 364, 614, 622, 627, 628, 629, 630, 631, 246, 636, 635, 691, 692, 693, 690, 721, 723, 789, 790, 791]) (by decide +kernel)
set_option maxRecDepth 100000 in
theorem in_wsC_22 : ∀ w ∈ wsC_22, w ∈ lw_tbl := posT_use (is := [802, 803, 804, 805, 806, 807, 98, 808, 809, 810, 99, 811, 812, 813, 814, 815, 816, 820, 821, 822, 823, 248, 249, 1111]) (by decide +kernel)
set_option maxRecDepth 100000 in
theorem in_wsC_23 : ∀ w ∈ wsC_23, w ∈ lw_tbl := posT_use (is := [824, 826, 8, 827, 1070, 1072, 10, 1073, 1074, 1076, 11, 1077, 1109, 1110, 1078, 885, 104, 886, 887, 888, 889, 890, 891, 1079]) (by decide +kernel)
set_option maxRecDepth 100000 in
theorem in_wsC_24 : ∀ w ∈ wsC_24, w ∈ lw_tbl := posT_use (is := [1080, 1081, 1082, 2215, 1083, 1102, 1103, 1104, 1105, 1106, 1108, 1112, 1113, 1114, 788, 723, 724, 742, 734, 611, 612, 620, 621, 624]) (by decide +kernel)
set_option maxRecDepth 100000 in
theorem in_wsC_25 : ∀ w ∈ wsC_25, w ∈ lw_tbl := posT_use (is := [626, 4, 633, 634, 688, 689, 700, 701, 702, 719, 720, 725, 726, 767, 768, 769, 785, 787, 7, 610, 1166, 315, 1164, 1165]) (by decide +kernel)
set_option maxRecDepth 100000 in
theorem in_wsC_26 : ∀ w ∈ wsC_26, w ∈ lw_tbl := posT_use (is := [1168, 1169, 1170, 1171, 1181, 1182, 1163, 1193, 1194, 1195, 1192, 1203, 1211, 1212, 1210, 313, 1220, 1219, 1228, 1232, 1233, 1234, 1241, 1242]) (by decide +kernel)
set_option maxRecDepth 100000 in
theorem in_wsC_27 : ∀ w ∈ wsC_27, w ∈ lw_tbl := posT_use (is := [1243, 1244, 1245, 1246, 1227, 319, 1253, 1263, 1267, 321, 1261, 1262, 1265, 1266, 1270, 1271, 1272, 1273, 1260, 1296, 1283, 1284, 1285, 1295]) (by decide +kernel)
set_option maxRecDepth 100000 in
theorem in_wsC_28 : ∀ w ∈ wsC_28, w ∈ lw_tbl := posT_use (is := [1291, 1292, 1294, 16, 1297, 1298, 1299, 1281, 731, 1312, 1311, 368, 1308, 1310, 17, 1307, 1323, 179, 177, 1320, 1322, 18, 1325, 1326]) (by decide +kernel)
set_option maxRecDepth 100000 in
theorem in_wsC_29 : ∀ w ∈ wsC_29, w ∈ lw_tbl := posT_use (is := [1327, 1328, 1329, 1319, 1341, 1348, 1356, 1357, 1358, 1355, 1366, 1368, 1369, 1370, 1378, 1380, 1381, 1382, 416, 417, 418, 419, 1394, 1391]) (by decide +kernel)
set_option maxRecDepth 100000 in
theorem in_wsC_30 : ∀ w ∈ wsC_30, w ∈ lw_tbl := posT_use (is := [1393, 20, 1396, 1397, 1398, 1390, 1436, 1437, 1438, 1435, 1460, 1461, 1462, 1459, 1490, 209, 207, 1498, 1499, 1506, 1513, 1520, 1530, 1528]) (by decide +kernel)
set_option maxRecDepth 100000 in
theorem in_wsC_31 : ∀ w ∈ wsC_31, w ∈ lw_tbl := posT_use (is := [1529, 1532, 1533, 1534, 1527, 1543, 1550, 1557, 288, 1565, 1566, 1564, 1578, 1579, 1580, 1577, 1575, 1576, 1573, 1589, 361, 1590, 1597, 1605]) (by decide +kernel)
set_option maxRecDepth 100000 in
theorem in_wsC_32 : ∀ w ∈ wsC_32, w ∈ lw_tbl := posT_use (is := [1606, 1607, 1604]) (by decide +kernel)
set_option maxRecDepth 100000 in
theorem in_wsM_0 : ∀ w ∈ wsM_0, w ∈ lw_tbl := posT_use (is := [1622, 115, 116, 1825, 1625, 1626, 147, 1628, 1629, 1630, 1632, 1633, 1635, 1636, 1637, 1638, 1640, 1641, 1642, 1643, 1644, 1646, 1647, 1648]) (by decide +kernel)
set_option maxRecDepth 100000 in
theorem in_wsM_1 : ∀ w ∈ wsM_1, w ∈ lw_tbl := posT_use (is := [1649, 1650, 1651, 1652, 1653, 1655, 1656, 1657, 1658, 1659, 1660, 1661, 1662, 1663, 1664, 1665, 1666, 1667, 1668, 1669, 1671, 1672, 1673, 1674]) (by decide +kernel)
set_option maxRecDepth 100000 in
theorem in_wsM_2 : ∀ w ∈ wsM_2, w ∈ lw_tbl := posT_use (is := [1676, 1678, 1679, 1680, 1681, 1682, 1683, 1684, 1686, 1687, 1688, 1689, 1621, 1829, 1623, 1837, 1844, 1851, 1842, 1843, 89, 1859, 1624, 1914]) (by decide +kernel)
set_option maxRecDepth 100000 in
theorem in_wsM_3 : ∀ w ∈ wsM_3, w ∈ lw_tbl := posT_use (is := [1627, 1862, 1898, 1882, 1894, 1670, 1895, 1897, 35, 1902, 1890, 1891, 1893, 34, 1899, 1901, 36, 1906, 1887, 1889, 33, 1903, 1905, 37]) (by decide +kernel)
set_option maxRecDepth 100000 in
theorem in_wsM_4 : ∀ w ∈ wsM_4, w ∈ lw_tbl := posT_use (is := [1886, 1910, 1645, 1879, 1881, 31, 1883, 1885, 32, 1907, 1909, 38, 1878, 1849, 1850, 1875, 1877, 30, 1874, 1970, 1938, 1942, 1954, 1950]) (by decide +kernel)
set_option maxRecDepth 100000 in
theorem in_wsM_5 : ∀ w ∈ wsM_5, w ∈ lw_tbl := posT_use (is := [1934, 1935, 1937, 45, 1931, 1933, 44, 1930, 1927, 1929, 43, 1926, 1923, 1925, 42, 1922, 1958, 1918, 1833, 1834, 1836, 27, 1841, 1848]) (by decide +kernel)
set_option maxRecDepth 100000 in
theorem in_wsM_6 : ∀ w ∈ wsM_6, w ∈ lw_tbl := posT_use (is := [1855, 1631, 1856, 1858, 28, 1860, 1861, 1866, 1946, 1947, 1949, 48, 1951, 1953, 49, 1654, 1871, 1873, 29, 1911, 1913, 39, 1915, 1917]) (by decide +kernel)
set_option maxRecDepth 100000 in
theorem in_wsM_7 : ∀ w ∈ wsM_7, w ∈ lw_tbl := posT_use (is := [40, 1919, 1921, 41, 1939, 1941, 46, 1943, 1945, 47, 1955, 1957, 50, 1870, 1966, 1967, 1969, 52, 1974, 1963, 1965, 51, 1971, 1973]) (by decide +kernel)
set_option maxRecDepth 100000 in
theorem in_wsM_8 : ∀ w ∈ wsM_8, w ∈ lw_tbl := posT_use (is := [53, 1962, 1978, 1982, 1986, 1990, 1998, 2010, 2006, 2007, 2009, 57, 2002, 2003, 2005, 56, 1995, 1997, 54, 1999, 2001, 55, 1994, 2014]) (by decide +kernel)
set_option maxRecDepth 100000 in
theorem in_wsM_9 : ∀ w ∈ wsM_9, w ∈ lw_tbl := posT_use (is := [2022, 2019, 2021, 58, 2018, 2026, 2030, 2038, 1639, 1634, 2042, 2035, 2037, 59, 2039, 2041, 60, 2034, 2046, 2050, 2054, 2058, 2062, 2066]) (by decide +kernel)
set_option maxRecDepth 100000 in
theorem in_wsM_10 : ∀ w ∈ wsM_10, w ∈ lw_tbl := posT_use (is := [2094, 2090, 2087, 2089, 65, 2091, 2093, 66, 2086, 2082, 2074, 2079, 2081, 63, 2083, 2085, 64, 2078, 1675, 2071, 2073, 61, 2075, 2077]) (by decide +kernel)
set_option maxRecDepth 100000 in
theorem in_wsM_11 : ∀ w ∈ wsM_11, w ∈ lw_tbl := posT_use (is := [62, 2070, 2098, 2106, 2110, 2114, 1677, 2103, 2105, 67, 2107, 2109, 68, 2111, 2113, 69, 2102, 2118, 2122, 2126, 2130, 2134, 2138, 2142]) (by decide +kernel)
set_option maxRecDepth 100000 in
theorem in_wsM_12 : ∀ w ∈ wsM_12, w ∈ lw_tbl := posT_use (is := [2146, 2150, 2154, 2162, 2159, 2161, 70, 2158, 2166, 2170, 1685, 2182, 2186, 2179, 2181, 72, 2183, 2185, 73, 2178, 2175, 2177, 71, 2174]) (by decide +kernel)
set_option maxRecDepth 100000 in
theorem in_wsX00 : ∀ w ∈ wsX00, w ∈ lw_tbl := posT_use (is := [748, 750, 752, 754, 756, 758, 760, 762, 764]) (by decide +kernel)
set_option maxRecDepth 100000 in
theorem in_wsX10 : ∀ w ∈ wsX10, w ∈ lw_tbl := posT_use (is := [158, 160, 162]) (by decide +kernel)
set_option maxRecDepth 100000 in
theorem in_wsX20 : ∀ w ∈ wsX20, w ∈ lw_tbl := posT_use (is := [180, 182, 184, 186, 188, 190, 192]) (by decide +kernel)
set_option maxRecDepth 100000 in
theorem in_wsX30 : ∀ w ∈ wsX30, w ∈ lw_tbl := posT_use (is := [214, 216, 218, 220, 222, 224, 226, 228]) (by decide +kernel)
set_option maxRecDepth 100000 in
theorem in_wsX40 : ∀ w ∈ wsX40, w ∈ lw_tbl := posT_use (is := [371, 373, 375, 377, 379, 381]) (by decide +kernel)
set_option maxRecDepth 100000 in
theorem in_wsX50 : ∀ w ∈ wsX50, w ∈ lw_tbl := posT_use (is := [289, 291]) (by decide +kernel)
set_option maxRecDepth 100000 in
theorem in_wsX60 : ∀ w ∈ wsX60, w ∈ lw_tbl := posT_use (is := [271, 273]) (by decide +kernel)
set_option maxRecDepth 100000 in
theorem in_wsX70 : ∀ w ∈ wsX70, w ∈ lw_tbl := posT_use (is := [132, 134, 136, 138, 140, 142, 144]) (by decide +kernel)
set_option maxRecDepth 100000 in
theorem in_wsX80 : ∀ w ∈ wsX80, w ∈ lw_tbl := posT_use (is := [330, 332, 334, 336, 338, 340, 342, 344, 346, 348, 350, 352]) (by decide +kernel)
set_option maxRecDepth 100000 in
theorem in_wsX90 : ∀ w ∈ wsX90, w ∈ lw_tbl := posT_use (is := [392, 394, 396, 398, 400, 402, 404, 406]) (by decide +kernel)
set_option maxRecDepth 100000 in
theorem in_wsX100 : ∀ w ∈ wsX100, w ∈ lw_tbl := posT_use (is := [1690, 1692, 1694, 1696, 1698, 1700, 1702, 1704, 1706, 1708, 1710, 1712, 1714, 1716, 1718, 1720, 1722, 1724, 1726, 1728, 1730, 1732, 1734, 1736, 1738, 1740, 1742, 1744, 1746, 1748, 1750, 1752, 1754, 1756, 1758, 1760, 1762, 1764, 1766, 1768, 1770, 1772, 1774, 1776, 1778, 1780, 1782, 1784, 1786, 1788, 1790, 1792, 1794, 1796, 1798, 1800, 1802, 1804, 1806, 1808, 1810, 1812, 1814, 1816, 1818, 1820, 1822]) (by decide +kernel)
set_option maxRecDepth 100000 in
theorem in_wsJx4a65c0 : ∀ w ∈ wsJx4a65c0, w ∈ lw_tbl := posT_use (is := [254, 250, 252]) (by decide +kernel)
set_option maxRecDepth 100000 in
theorem in_wsJ00 : ∀ w ∈ wsJ00, w ∈ lw_tbl := posT_use (is := [1060, 1062, 1064, 1066]) (by decide +kernel)
set_option maxRecDepth 100000 in
theorem in_wsJ40 : ∀ w ∈ wsJ40, w ∈ lw_tbl := posT_use (is := [855, 857, 859, 861]) (by decide +kernel)
set_option maxRecDepth 100000 in
theorem in_wsCx : ∀ w ∈ wsCx, w ∈ lw_tbl := inTbl_use (by decide +kernel)
theorem in_wsCt_32 : ∀ w ∈ wsCt_32, w ∈ lw_tbl := in_wsC_32
theorem in_wsCt_31 : ∀ w ∈ wsCt_31, w ∈ lw_tbl := List.forall_mem_append.mpr ⟨in_wsC_31, in_wsCt_32⟩
theorem in_wsCt_30 : ∀ w ∈ wsCt_30, w ∈ lw_tbl := List.forall_mem_append.mpr ⟨in_wsC_30, in_wsCt_31⟩
theorem in_wsCt_29 : ∀ w ∈ wsCt_29, w ∈ lw_tbl := List.forall_mem_append.mpr ⟨in_wsC_29, in_wsCt_30⟩
theorem in_wsCt_28 : ∀ w ∈ wsCt_28, w ∈ lw_tbl := List.forall_mem_append.mpr ⟨in_wsC_28, in_wsCt_29⟩
theorem in_wsCt_27 : ∀ w ∈ wsCt_27, w ∈ lw_tbl := List.forall_mem_append.mpr ⟨in_wsC_27, in_wsCt_28⟩
theorem in_wsCt_26 : ∀ w ∈ wsCt_26, w ∈ lw_tbl := List.forall_mem_append.mpr ⟨in_wsC_26, in_wsCt_27⟩
theorem in_wsCt_25 : ∀ w ∈ wsCt_25, w ∈ lw_tbl := List.forall_mem_append.mpr ⟨in_wsC_25, in_wsCt_26⟩
theorem in_wsCt_24 : ∀ w ∈ wsCt_24, w ∈ lw_tbl := List.forall_mem_append.mpr ⟨in_wsC_24, in_wsCt_25⟩
theorem in_wsCt_23 : ∀ w ∈ wsCt_23, w ∈ lw_tbl := List.forall_mem_append.mpr ⟨in_wsC_23, in_wsCt_24⟩
theorem in_wsCt_22 : ∀ w ∈ wsCt_22, w ∈ lw_tbl := List.forall_mem_append.mpr ⟨in_wsC_22, in_wsCt_23⟩
theorem in_wsCt_21 : ∀ w ∈ wsCt_21, w ∈ lw_tbl := List.forall_mem_append.mpr ⟨in_wsC_21, in_wsCt_22⟩
theorem in_wsCt_20 : ∀ w ∈ wsCt_20, w ∈ lw_tbl := List.forall_mem_append.mpr ⟨in_wsC_20, in_wsCt_21⟩
theorem in_wsCt_19 : ∀ w ∈ wsCt_19, w ∈ lw_tbl := List.forall_mem_append.mpr ⟨in_wsC_19, in_wsCt_20⟩
theorem in_wsCt_18 : ∀ w ∈ wsCt_18, w ∈ lw_tbl := List.forall_mem_append.mpr ⟨in_wsC_18, in_wsCt_19⟩
theorem in_wsCt_17 : ∀ w ∈ wsCt_17, w ∈ lw_tbl := List.forall_mem_append.mpr ⟨in_wsC_17, in_wsCt_18⟩
theorem in_wsCt_16 : ∀ w ∈ wsCt_16, w ∈ lw_tbl := List.forall_mem_append.mpr ⟨in_wsC_16, in_wsCt_17⟩
theorem in_wsCt_15 : ∀ w ∈ wsCt_15, w ∈ lw_tbl := List.forall_mem_append.mpr ⟨in_wsC_15, in_wsCt_16⟩
theorem in_wsCt_14 : ∀ w ∈ wsCt_14, w ∈ lw_tbl := List.forall_mem_append.mpr ⟨in_wsC_14, in_wsCt_15⟩
theorem in_wsCt_13 : ∀ w ∈ wsCt_13, w ∈ lw_tbl := List.forall_mem_append.mpr ⟨in_wsC_13, in_wsCt_14⟩
theorem in_wsCt_12 : ∀ w ∈ wsCt_12, w ∈ lw_tbl := List.forall_mem_append.mpr ⟨in_wsC_12, in_wsCt_13⟩
theorem in_wsCt_11 : ∀ w ∈ wsCt_11, w ∈ lw_tbl := List.forall_mem_append.mpr ⟨in_wsC_11, in_wsCt_12⟩
theorem in_wsCt_10 : ∀ w ∈ wsCt_10, w ∈ lw_tbl := List.forall_mem_append.mpr ⟨in_wsC_10, in_wsCt_11⟩
theorem in_wsCt_9 : ∀ w ∈ wsCt_9, w ∈ lw_tbl := List.forall_mem_append.mpr ⟨in_wsC_9, in_wsCt_10⟩
theorem in_wsCt_8 : ∀ w ∈ wsCt_8, w ∈ lw_tbl := List.forall_mem_append.mpr ⟨in_wsC_8, in_wsCt_9⟩
theorem in_wsCt_7 : ∀ w ∈ wsCt_7, w ∈ lw_tbl := List.forall_mem_append.mpr ⟨in_wsC_7, in_wsCt_8⟩
theorem in_wsCt_6 : ∀ w ∈ wsCt_6, w ∈ lw_tbl := List.forall_mem_append.mpr ⟨in_wsC_6, in_wsCt_7⟩
theorem in_wsCt_5 : ∀ w ∈ wsCt_5, w ∈ lw_tbl := List.forall_mem_append.mpr ⟨in_wsC_5, in_wsCt_6⟩
theorem in_wsCt_4 : ∀ w ∈ wsCt_4, w ∈ lw_tbl := List.forall_mem_append.mpr ⟨in_wsC_4, in_wsCt_5⟩
theorem in_wsCt_3 : ∀ w ∈ wsCt_3, w ∈ lw_tbl := List.forall_mem_append.mpr ⟨in_wsC_3, in_wsCt_4⟩
theorem in_wsCt_2 : ∀ w ∈ wsCt_2, w ∈ lw_tbl := List.forall_mem_append.mpr ⟨in_wsC_2, in_wsCt_3⟩
theorem in_wsCt_1 : ∀ w ∈ wsCt_1, w ∈ lw_tbl := List.forall_mem_append.mpr ⟨in_wsC_1, in_wsCt_2⟩
theorem in_wsCt_0 : ∀ w ∈ wsCt_0, w ∈ lw_tbl := List.forall_mem_append.mpr ⟨in_wsC_0, in_wsCt_1⟩
theorem in_wsM : ∀ w ∈ wsM, w ∈ lw_tbl := List.forall_mem_append.mpr ⟨(List.forall_mem_append.mpr ⟨in_wsM_0, (List.forall_mem_append.mpr ⟨in_wsM_1, (List.forall_mem_append.mpr ⟨in_wsM_2, (List.forall_mem_append.mpr ⟨in_wsM_3, (List.forall_mem_append.mpr ⟨in_wsM_4, (List.forall_mem_append.mpr ⟨in_wsM_5, (List.forall_mem_append.mpr ⟨in_wsM_6, (List.forall_mem_append.mpr ⟨in_wsM_7, (List.forall_mem_append.mpr ⟨in_wsM_8, (List.forall_mem_append.mpr ⟨in_wsM_9, (List.forall_mem_append.mpr ⟨in_wsM_10, (List.forall_mem_append.mpr ⟨in_wsM_11, in_wsM_12⟩)⟩)⟩)⟩)⟩)⟩)⟩)⟩)⟩)⟩)⟩)⟩), in_wsX100⟩
theorem in_wsC : ∀ w ∈ wsC, w ∈ lw_tbl := List.forall_mem_append.mpr ⟨in_wsCt_0, List.forall_mem_append.mpr ⟨(List.forall_mem_append.mpr ⟨in_wsX00, (List.forall_mem_append.mpr ⟨in_wsX10, (List.forall_mem_append.mpr ⟨in_wsX20, (List.forall_mem_append.mpr ⟨in_wsX30, (List.forall_mem_append.mpr ⟨in_wsX40, (List.forall_mem_append.mpr ⟨in_wsX50, (List.forall_mem_append.mpr ⟨in_wsX60, (List.forall_mem_append.mpr ⟨in_wsX70, (List.forall_mem_append.mpr ⟨in_wsX80, (List.forall_mem_append.mpr ⟨in_wsX90, in_wsJx4a65c0⟩)⟩)⟩)⟩)⟩)⟩)⟩)⟩)⟩)⟩), in_wsCx⟩⟩
theorem in_wsLt_15 : ∀ w ∈ wsLt_15, w ∈ lw_tbl := inTbl_use tbL_15
theorem in_wsLt_14 : ∀ w ∈ wsLt_14, w ∈ lw_tbl := List.forall_mem_append.mpr ⟨inTbl_use tbL_14, in_wsLt_15⟩
theorem in_wsLt_13 : ∀ w ∈ wsLt_13, w ∈ lw_tbl := List.forall_mem_append.mpr ⟨inTbl_use tbL_13, in_wsLt_14⟩
theorem in_wsLt_12 : ∀ w ∈ wsLt_12, w ∈ lw_tbl := List.forall_mem_append.mpr ⟨inTbl_use tbL_12, in_wsLt_13⟩
theorem in_wsLt_11 : ∀ w ∈ wsLt_11, w ∈ lw_tbl := List.forall_mem_append.mpr ⟨inTbl_use tbL_11, in_wsLt_12⟩
theorem in_wsLt_10 : ∀ w ∈ wsLt_10, w ∈ lw_tbl := List.forall_mem_append.mpr ⟨inTbl_use tbL_10, in_wsLt_11⟩
theorem in_wsLt_9 : ∀ w ∈ wsLt_9, w ∈ lw_tbl := List.forall_mem_append.mpr ⟨inTbl_use tbL_9, in_wsLt_10⟩
theorem in_wsLt_8 : ∀ w ∈ wsLt_8, w ∈ lw_tbl := List.forall_mem_append.mpr ⟨inTbl_use tbL_8, in_wsLt_9⟩
theorem in_wsLt_7 : ∀ w ∈ wsLt_7, w ∈ lw_tbl := List.forall_mem_append.mpr ⟨inTbl_use tbL_7, in_wsLt_8⟩
theorem in_wsLt_6 : ∀ w ∈ wsLt_6, w ∈ lw_tbl := List.forall_mem_append.mpr ⟨inTbl_use tbL_6, in_wsLt_7⟩
theorem in_wsLt_5 : ∀ w ∈ wsLt_5, w ∈ lw_tbl := List.forall_mem_append.mpr ⟨inTbl_use tbL_5, in_wsLt_6⟩
theorem in_wsLt_4 : ∀ w ∈ wsLt_4, w ∈ lw_tbl := List.forall_mem_append.mpr ⟨inTbl_use tbL_4, in_wsLt_5⟩
theorem in_wsLt_3 : ∀ w ∈ wsLt_3, w ∈ lw_tbl := List.forall_mem_append.mpr ⟨inTbl_use tbL_3, in_wsLt_4⟩
theorem in_wsLt_2 : ∀ w ∈ wsLt_2, w ∈ lw_tbl := List.forall_mem_append.mpr ⟨inTbl_use tbL_2, in_wsLt_3⟩
theorem in_wsLt_1 : ∀ w ∈ wsLt_1, w ∈ lw_tbl := List.forall_mem_append.mpr ⟨inTbl_use tbL_1, in_wsLt_2⟩
theorem in_wsLt_0 : ∀ w ∈ wsLt_0, w ∈ lw_tbl := List.forall_mem_append.mpr ⟨inTbl_use tbL_0, in_wsLt_1⟩
theorem in_wsT : ∀ w ∈ wsT, w ∈ lw_tbl := List.forall_mem_append.mpr ⟨in_wsLt_0, List.forall_mem_append.mpr ⟨in_wsC, in_wsM⟩⟩
