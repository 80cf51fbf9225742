set_option maxRecDepth 100000 in
theorem in_wsLw_7_0 : ∀ w ∈ (wsLw_7.drop 0).take 4, w ∈ lw_tbl := posT_use (is := [541, 542, 1484, 1485]) (by decide +kernel)
set_option maxRecDepth 100000 in
theorem in_wsLw_7_4 : ∀ w ∈ (wsLw_7.drop 4).take 1, w ∈ lw_tbl := posT_use (is := [1483]) (by decide +kernel)
set_option maxRecDepth 100000 in
theorem in_wsLw_7_5 : ∀ w ∈ (wsLw_7.drop 5).take 18, w ∈ lw_tbl := posT_use (is := [1490, 1491, 1492, 1494, 1495, 1496, 1498, 1499, 1500, 1502, 1503, 1504, 1515, 1516, 1517, 1519, 1520, 1521]) (by decide +kernel)
set_option maxRecDepth 100000 in
theorem in_wsLw_7_23 : ∀ w ∈ (wsLw_7.drop 23).take 1, w ∈ lw_tbl := posT_use (is := [1489]) (by decide +kernel)
theorem in_wsLw_7 : ∀ w ∈ wsLw_7, w ∈ lw_tbl := by
  have h : wsLw_7 = (wsLw_7.drop 0).take 4 ++ (wsLw_7.drop 4).take 1 ++ (wsLw_7.drop 5).take 18 ++ (wsLw_7.drop 23).take 1 := rfl
  rw [h]
  exact List.forall_mem_append.mpr ⟨List.forall_mem_append.mpr ⟨List.forall_mem_append.mpr ⟨in_wsLw_7_0, in_wsLw_7_4⟩, in_wsLw_7_5⟩, in_wsLw_7_23⟩
