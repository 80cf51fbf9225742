def posT : List Cond → List Nat → Bool
  | [], _ => true
  | _ :: _, [] => false
  | w :: ws, i :: is => decide (lw_tbl[i]? = some w) && posT ws is
theorem posT_use : ∀ {ws : List Cond} {is : List Nat}, posT ws is = true → ∀ w ∈ ws, w ∈ lw_tbl
  | [], _, _ => fun _ h => absurd h List.not_mem_nil
  | _ :: _, [], h => by cases h
  | w :: ws, i :: is, h => by
    unfold posT at h
    rw [Bool.and_eq_true] at h
    intro x hx
    rcases List.mem_cons.mp hx with rfl | hx
    · exact List.mem_of_getElem? (of_decide_eq_true h.1)
    · exact posT_use h.2 x hx
set_option maxRecDepth 100000 in
theorem in_wsC_0 : ∀ w ∈ wsC_0, w ∈ lw_tbl := posT_use (is := [725, 726, 66, 67, 727, 730, 733, 735, 737, 817, 744, 741, 103, 104, 98, 106, 105, 527, 107, 768, 769, 770, 39, 771]) (by decide +kernel)
set_option maxRecDepth 100000 in
theorem in_wsC_1 : ∀ w ∈ wsC_1, w ∈ lw_tbl := posT_use (is := [772, 773, 774, 775, 776, 778, 779, 667, 38, 668, 780, 782, 781, 48, 447, 76, 482, 82, 478, 445, 446, 28, 705, 479]) (by decide +kernel)
set_option maxRecDepth 100000 in
theorem in_wsC_2 : ∀ w ∈ wsC_2, w ∈ lw_tbl := posT_use (is := [480, 481, 709, 78, 645, 79, 641, 642, 644, 5, 649, 713, 714, 639, 640, 715, 647, 648, 477, 81, 702, 703, 704, 706]) (by decide +kernel)
set_option maxRecDepth 100000 in
theorem in_wsC_3 : ∀ w ∈ wsC_3, w ∈ lw_tbl := posT_use (is := [707, 708, 710, 712, 6, 29, 716, 475, 476, 701, 120, 121, 123, 124, 125, 146, 126, 122, 1424, 127, 129, 1443, 1439, 1440]) (by decide +kernel)
set_option maxRecDepth 100000 in
theorem in_wsC_4 : ∀ w ∈ wsC_4, w ∈ lw_tbl := posT_use (is := [1442, 25, 30, 1455, 1477, 1468, 657, 237, 236, 1166, 1128, 655, 656, 37, 1162, 276, 1163, 1164, 1165, 1256, 80, 267, 1294, 1160]) (by decide +kernel)
set_option maxRecDepth 100000 in
theorem in_wsC_5 : ∀ w ∈ wsC_5, w ∈ lw_tbl := posT_use (is := [1161, 35, 1253, 1254, 1255, 1293, 661, 665, 279, 280, 616, 653, 277, 654, 658, 659, 660, 662, 663, 664, 615, 1251, 651, 652]) (by decide +kernel)
set_option maxRecDepth 100000 in
theorem in_wsC_6 : ∀ w ∈ wsC_6, w ∈ lw_tbl := posT_use (is := [1252, 613, 614, 1250, 1258, 1247, 1249, 17, 1257, 1246, 153, 154, 157, 161, 162, 155, 156, 683, 274, 684, 1266, 680, 681, 682]) (by decide +kernel)
set_option maxRecDepth 100000 in
theorem in_wsC_7 : ∀ w ∈ wsC_7, w ∈ lw_tbl := posT_use (is := [1261, 1262, 1263, 1264, 1265, 675, 678, 672, 220, 221, 679, 673, 674, 36, 676, 677, 273, 271, 666, 638, 646, 650, 669, 670]) (by decide +kernel)
set_option maxRecDepth 100000 in
theorem in_wsC_8 : ∀ w ∈ wsC_8, w ∈ lw_tbl := posT_use (is := [671, 637, 1271, 159, 314, 316, 164, 1243, 1244, 1245, 1259, 1260, 31, 1267, 635, 636, 1268, 1270, 18, 1242, 1206, 1313, 1204, 1205]) (by decide +kernel)
set_option maxRecDepth 100000 in
theorem in_wsC_9 : ∀ w ∈ wsC_9, w ∈ lw_tbl := posT_use (is := [1314, 1315, 59, 1316, 1317, 1318, 58, 1319, 1320, 1290, 1291, 1292, 1312, 1284, 269, 1285, 1289, 262, 696, 263, 275, 1127, 1123, 1129]) (by decide +kernel)
set_option maxRecDepth 100000 in
theorem in_wsC_10 : ∀ w ∈ wsC_10, w ∈ lw_tbl := posT_use (is := [278, 1303, 259, 260, 261, 693, 694, 695, 1124, 1125, 1126, 1302, 238, 163, 1299, 1300, 1301, 1304, 1298, 1280, 257, 258, 1281, 1283]) (by decide +kernel)
