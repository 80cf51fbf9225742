set_option maxRecDepth 100000 in
theorem in_wsC_11 : ∀ w ∈ wsC_11, w ∈ lw_tbl := posT_use (is := [19, 1286, 1288, 20, 1295, 1297, 21, 1279, 309, 310, 321, 311, 313, 794, 1388, 742, 743, 791, 792, 793, 40, 1384, 1385, 1386]) (by decide +kernel)
set_option maxRecDepth 100000 in
theorem in_wsC_12 : ∀ w ∈ wsC_12, w ∈ lw_tbl := posT_use (is := [1387, 798, 320, 745, 799, 234, 235, 790, 795, 796, 797, 1398, 1214, 1210, 318, 1215, 1211, 1212, 1213, 231, 232, 233, 1122, 218]) (by decide +kernel)
set_option maxRecDepth 100000 in
theorem in_wsC_13 : ∀ w ∈ wsC_13, w ∈ lw_tbl := posT_use (is := [219, 255, 256, 1140, 1372, 1138, 1139, 1137, 1141, 72, 73, 435, 74, 473, 474, 467, 1179, 265, 268, 249, 250, 251, 252, 253]) (by decide +kernel)
set_option maxRecDepth 100000 in
theorem in_wsC_14 : ∀ w ∈ wsC_14, w ∈ lw_tbl := posT_use (is := [254, 248, 213, 214, 215, 227, 228, 216, 217, 229, 230, 245, 246, 247, 212, 1118, 1119, 1120, 1121, 1114, 1115, 1117, 14, 1113]) (by decide +kernel)
set_option maxRecDepth 100000 in
theorem in_wsC_15 : ∀ w ∈ wsC_15, w ∈ lw_tbl := posT_use (is := [731, 734, 736, 738, 739, 1109, 815, 816, 47, 1110, 1112, 13, 1108, 1133, 1145, 728, 1105, 1107, 12, 1130, 1132, 15, 1134, 1135]) (by decide +kernel)
set_option maxRecDepth 100000 in
theorem in_wsC_16 : ∀ w ∈ wsC_16, w ∈ lw_tbl := posT_use (is := [1136, 1142, 1143, 1144, 1104, 692, 1171, 1159, 1158, 1514, 1169, 1170, 1513, 1543, 1542, 65, 68, 69, 335, 99, 100, 336, 116, 117]) (by decide +kernel)
set_option maxRecDepth 100000 in
theorem in_wsC_17 : ∀ w ∈ wsC_17, w ∈ lw_tbl := posT_use (is := [337, 147, 338, 149, 150, 339, 182, 183, 34, 340, 208, 209, 341, 342, 306, 70, 71, 101, 102, 118, 119, 151, 152, 184]) (by decide +kernel)
set_option maxRecDepth 100000 in
theorem in_wsC_18 : ∀ w ∈ wsC_18, w ∈ lw_tbl := posT_use (is := [185, 186, 194, 196, 187, 188, 33, 189, 198, 190, 191, 32, 192, 193, 210, 211, 307, 308, 64, 363, 364, 44, 75, 432]) (by decide +kernel)
set_option maxRecDepth 100000 in
theorem in_wsC_19 : ∀ w ∈ wsC_19, w ∈ lw_tbl := posT_use (is := [433, 434, 443, 448, 45, 444, 77, 440, 442, 1, 27, 464, 465, 466, 470, 471, 472, 439, 490, 494, 486, 317, 487, 489]) (by decide +kernel)
set_option maxRecDepth 100000 in
theorem in_wsC_20 : ∀ w ∈ wsC_20, w ∈ lw_tbl := posT_use (is := [2, 492, 493, 503, 506, 507, 46, 108, 500, 502, 3, 504, 505, 524, 525, 526, 499, 531, 611, 315, 612, 620, 625, 626]) (by decide +kernel)
set_option maxRecDepth 100000 in
theorem in_wsC_21 : ∀ w ∈ wsC_21, w ∈ lw_tbl := posT_use (is := [627, 628, 629, 197, 634, 633, 689, 690, 691, 688, 719, 721, 787, 788, 789, 800, 801, 802, 803, 804, 805, 49, 806, 807]) (by decide +kernel)
