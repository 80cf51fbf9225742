set_option maxRecDepth 100000 in
theorem in_wsLw_8 : ∀ w ∈ wsLw_8, w ∈ lw_tbl := posT_use (is := [1526, 1527, 1528, 1531, 1532, 1533, 1544, 1545, 1546, 1548, 1549, 1550, 1553, 1554, 1555, 1525, 60, 61, 62, 63, 532, 533, 360, 361]) (by decide +kernel)
set_option maxRecDepth 100000 in
theorem in_wsLw_9 : ∀ w ∈ wsLw_9, w ∈ lw_tbl := posT_use (is := [362, 436, 437, 438, 558, 559, 496, 497, 498, 528, 529, 530, 1326, 1327, 1332, 1333, 1335, 1336, 1338, 1339, 1347, 1348, 1353, 1354]) (by decide +kernel)
set_option maxRecDepth 100000 in
theorem in_wsLw_10 : ∀ w ∈ wsLw_10, w ∈ lw_tbl := posT_use (is := [1373, 1374, 483, 484, 485, 1399, 1400, 1481, 1482, 1411, 1412, 1523, 1524, 1487, 1488]) (by decide +kernel)
set_option maxRecDepth 100000 in
theorem in_wsX00 : ∀ w ∈ wsX00, w ∈ lw_tbl := posT_use (is := [746, 748, 750, 752, 754, 756, 758, 760, 762]) (by decide +kernel)
set_option maxRecDepth 100000 in
theorem in_wsX10 : ∀ w ∈ wsX10, w ∈ lw_tbl := posT_use (is := [109, 111, 113]) (by decide +kernel)
set_option maxRecDepth 100000 in
theorem in_wsX20 : ∀ w ∈ wsX20, w ∈ lw_tbl := posT_use (is := [131, 133, 135, 137, 139, 141, 143]) (by decide +kernel)
set_option maxRecDepth 100000 in
theorem in_wsX30 : ∀ w ∈ wsX30, w ∈ lw_tbl := posT_use (is := [165, 167, 169, 171, 173, 175, 177, 179]) (by decide +kernel)
set_option maxRecDepth 100000 in
theorem in_wsX40 : ∀ w ∈ wsX40, w ∈ lw_tbl := posT_use (is := [322, 324, 326, 328, 330, 332]) (by decide +kernel)
set_option maxRecDepth 100000 in
theorem in_wsX50 : ∀ w ∈ wsX50, w ∈ lw_tbl := posT_use (is := [240, 242]) (by decide +kernel)
set_option maxRecDepth 100000 in
theorem in_wsX60 : ∀ w ∈ wsX60, w ∈ lw_tbl := posT_use (is := [222, 224]) (by decide +kernel)
set_option maxRecDepth 100000 in
theorem in_wsX70 : ∀ w ∈ wsX70, w ∈ lw_tbl := posT_use (is := [83, 85, 87, 89, 91, 93, 95]) (by decide +kernel)
set_option maxRecDepth 100000 in
theorem in_wsX80 : ∀ w ∈ wsX80, w ∈ lw_tbl := posT_use (is := [281, 283, 285, 287, 289, 291, 293, 295, 297, 299, 301, 303]) (by decide +kernel)
set_option maxRecDepth 100000 in
theorem in_wsX90 : ∀ w ∈ wsX90, w ∈ lw_tbl := posT_use (is := [343, 345, 347, 349, 351, 353, 355, 357]) (by decide +kernel)
set_option maxRecDepth 100000 in
theorem in_wsJx4a65c0 : ∀ w ∈ wsJx4a65c0, w ∈ lw_tbl := posT_use (is := [205, 201, 203]) (by decide +kernel)
set_option maxRecDepth 100000 in
theorem in_wsJ00 : ∀ w ∈ wsJ00, w ∈ lw_tbl := posT_use (is := [1050, 1052, 1054, 1056]) (by decide +kernel)
set_option maxRecDepth 100000 in
theorem in_wsJ40 : ∀ w ∈ wsJ40, w ∈ lw_tbl := posT_use (is := [853, 855, 857, 859]) (by decide +kernel)
set_option maxRecDepth 100000 in
theorem in_wsCx : ∀ w ∈ wsCx, w ∈ lw_tbl := fun w hw => of_decide_eq_true (List.all_eq_true.mp (show wsCx.all (fun w => decide (w ∈ lw_tbl)) = true by decide +kernel) w hw)
theorem in_wsCt_31 : ∀ w ∈ wsCt_31, w ∈ lw_tbl := in_wsC_31
theorem in_wsCt_30 : ∀ w ∈ wsCt_30, w ∈ lw_tbl := List.forall_mem_append.mpr ⟨in_wsC_30, in_wsCt_31⟩
theorem in_wsCt_29 : ∀ w ∈ wsCt_29, w ∈ lw_tbl := List.forall_mem_append.mpr ⟨in_wsC_29, in_wsCt_30⟩
theorem in_wsCt_28 : ∀ w ∈ wsCt_28, w ∈ lw_tbl := List.forall_mem_append.mpr ⟨in_wsC_28, in_wsCt_29⟩
theorem in_wsCt_27 : ∀ w ∈ wsCt_27, w ∈ lw_tbl := List.forall_mem_append.mpr ⟨in_wsC_27, in_wsCt_28⟩
theorem in_wsCt_26 : ∀ w ∈ wsCt_26, w ∈ lw_tbl := List.forall_mem_append.mpr ⟨in_wsC_26, in_wsCt_27⟩
theorem in_wsCt_25 : ∀ w ∈ wsCt_25, w ∈ lw_tbl := List.forall_mem_append.mpr ⟨in_wsC_25, in_wsCt_26⟩
theorem in_wsCt_24 : ∀ w ∈ wsCt_24, w ∈ lw_tbl := List.forall_mem_append.mpr ⟨in_wsC_24, in_wsCt_25⟩
theorem in_wsCt_23 : ∀ w ∈ wsCt_23, w ∈ lw_tbl := List.forall_mem_append.mpr ⟨in_wsC_23, in_wsCt_24⟩
theorem in_wsCt_22 : ∀ w ∈ wsCt_22, w ∈ lw_tbl := List.forall_mem_append.mpr ⟨in_wsC_22, in_wsCt_23⟩
theorem in_wsCt_21 : ∀ w ∈ wsCt_21, w ∈ lw_tbl := List.forall_mem_append.mpr ⟨in_wsC_21, in_wsCt_22⟩
theorem in_wsCt_20 : ∀ w ∈ wsCt_20, w ∈ lw_tbl := List.forall_mem_append.mpr ⟨in_wsC_20, in_wsCt_21⟩
theorem in_wsCt_19 : ∀ w ∈ wsCt_19, w ∈ lw_tbl := List.forall_mem_append.mpr ⟨in_wsC_19, in_wsCt_20⟩
theorem in_wsCt_18 : ∀ w ∈ wsCt_18, w ∈ lw_tbl := List.forall_mem_append.mpr ⟨in_wsC_18, in_wsCt_19⟩
theorem in_wsCt_17 : ∀ w ∈ wsCt_17, w ∈ lw_tbl := List.forall_mem_append.mpr ⟨in_wsC_17, in_wsCt_18⟩
theorem in_wsCt_16 : ∀ w ∈ wsCt_16, w ∈ lw_tbl := List.forall_mem_append.mpr ⟨in_wsC_16, in_wsCt_17⟩
theorem in_wsCt_15 : ∀ w ∈ wsCt_15, w ∈ lw_tbl := List.forall_mem_append.mpr ⟨in_wsC_15, in_wsCt_16⟩
theorem in_wsCt_14 : ∀ w ∈ wsCt_14, w ∈ lw_tbl := List.forall_mem_append.mpr ⟨in_wsC_14, in_wsCt_15⟩
theorem in_wsCt_13 : ∀ w ∈ wsCt_13, w ∈ lw_tbl := List.forall_mem_append.mpr ⟨in_wsC_13, in_wsCt_14⟩
theorem in_wsCt_12 : ∀ w ∈ wsCt_12, w ∈ lw_tbl := List.forall_mem_append.mpr ⟨in_wsC_12, in_wsCt_13⟩
theorem in_wsCt_11 : ∀ w ∈ wsCt_11, w ∈ lw_tbl := List.forall_mem_append.mpr ⟨in_wsC_11, in_wsCt_12⟩
theorem in_wsCt_10 : ∀ w ∈ wsCt_10, w ∈ lw_tbl := List.forall_mem_append.mpr ⟨in_wsC_10, in_wsCt_11⟩
theorem in_wsCt_9 : ∀ w ∈ wsCt_9, w ∈ lw_tbl := List.forall_mem_append.mpr ⟨in_wsC_9, in_wsCt_10⟩
theorem in_wsCt_8 : ∀ w ∈ wsCt_8, w ∈ lw_tbl := List.forall_mem_append.mpr ⟨in_wsC_8, in_wsCt_9⟩
theorem in_wsCt_7 : ∀ w ∈ wsCt_7, w ∈ lw_tbl := List.forall_mem_append.mpr ⟨in_wsC_7, in_wsCt_8⟩
theorem in_wsCt_6 : ∀ w ∈ wsCt_6, w ∈ lw_tbl := List.forall_mem_append.mpr ⟨in_wsC_6, in_wsCt_7⟩
theorem in_wsCt_5 : ∀ w ∈ wsCt_5, w ∈ lw_tbl := List.forall_mem_append.mpr ⟨in_wsC_5, in_wsCt_6⟩
theorem in_wsCt_4 : ∀ w ∈ wsCt_4, w ∈ lw_tbl := List.forall_mem_append.mpr ⟨in_wsC_4, in_wsCt_5⟩
theorem in_wsCt_3 : ∀ w ∈ wsCt_3, w ∈ lw_tbl := List.forall_mem_append.mpr ⟨in_wsC_3, in_wsCt_4⟩
theorem in_wsCt_2 : ∀ w ∈ wsCt_2, w ∈ lw_tbl := List.forall_mem_append.mpr ⟨in_wsC_2, in_wsCt_3⟩
theorem in_wsCt_1 : ∀ w ∈ wsCt_1, w ∈ lw_tbl := List.forall_mem_append.mpr ⟨in_wsC_1, in_wsCt_2⟩
theorem in_wsCt_0 : ∀ w ∈ wsCt_0, w ∈ lw_tbl := List.forall_mem_append.mpr ⟨in_wsC_0, in_wsCt_1⟩
theorem in_wsC : ∀ w ∈ wsC, w ∈ lw_tbl := List.forall_mem_append.mpr ⟨in_wsCt_0, List.forall_mem_append.mpr ⟨(List.forall_mem_append.mpr ⟨in_wsX00, (List.forall_mem_append.mpr ⟨in_wsX10, (List.forall_mem_append.mpr ⟨in_wsX20, (List.forall_mem_append.mpr ⟨in_wsX30, (List.forall_mem_append.mpr ⟨in_wsX40, (List.forall_mem_append.mpr ⟨in_wsX50, (List.forall_mem_append.mpr ⟨in_wsX60, (List.forall_mem_append.mpr ⟨in_wsX70, (List.forall_mem_append.mpr ⟨in_wsX80, (List.forall_mem_append.mpr ⟨in_wsX90, in_wsJx4a65c0⟩)⟩)⟩)⟩)⟩)⟩)⟩)⟩)⟩)⟩), in_wsCx⟩⟩
theorem in_wsLt_10 : ∀ w ∈ wsLt_10, w ∈ lw_tbl := in_wsLw_10
theorem in_wsLt_9 : ∀ w ∈ wsLt_9, w ∈ lw_tbl := List.forall_mem_append.mpr ⟨in_wsLw_9, in_wsLt_10⟩
theorem in_wsLt_8 : ∀ w ∈ wsLt_8, w ∈ lw_tbl := List.forall_mem_append.mpr ⟨in_wsLw_8, in_wsLt_9⟩
theorem in_wsLt_7 : ∀ w ∈ wsLt_7, w ∈ lw_tbl := List.forall_mem_append.mpr ⟨in_wsLw_7, in_wsLt_8⟩
theorem in_wsLt_6 : ∀ w ∈ wsLt_6, w ∈ lw_tbl := List.forall_mem_append.mpr ⟨in_wsLw_6, in_wsLt_7⟩
theorem in_wsLt_5 : ∀ w ∈ wsLt_5, w ∈ lw_tbl := List.forall_mem_append.mpr ⟨in_wsLw_5, in_wsLt_6⟩
theorem in_wsLt_4 : ∀ w ∈ wsLt_4, w ∈ lw_tbl := List.forall_mem_append.mpr ⟨in_wsLw_4, in_wsLt_5⟩
theorem in_wsLt_3 : ∀ w ∈ wsLt_3, w ∈ lw_tbl := List.forall_mem_append.mpr ⟨in_wsLw_3, in_wsLt_4⟩
theorem in_wsLt_2 : ∀ w ∈ wsLt_2, w ∈ lw_tbl := List.forall_mem_append.mpr ⟨in_wsLw_2, in_wsLt_3⟩
theorem in_wsLt_1 : ∀ w ∈ wsLt_1, w ∈ lw_tbl := List.forall_mem_append.mpr ⟨in_wsLw_1, in_wsLt_2⟩
theorem in_wsLt_0 : ∀ w ∈ wsLt_0, w ∈ lw_tbl := List.forall_mem_append.mpr ⟨in_wsLw_0, in_wsLt_1⟩
theorem in_wsT : ∀ w ∈ wsT, w ∈ lw_tbl := List.forall_mem_append.mpr ⟨in_wsLt_0, in_wsC⟩
