set_option maxRecDepth 100000 in
theorem in_wsLw_6 : ∀ w ∈ wsLw_6, w ∈ lw_tbl := posT_use (is := [1426, 1427, 1444, 1445, 1446, 1448, 1449, 1450, 1456, 1457, 1458, 1460, 1461, 1462, 1469, 1470, 1471, 1416, 1414, 1415, 1478, 1479, 1413, 1486]) (by decide +kernel)
