theorem fW_combine : gFw yL_combine cL_combine 4 [(0, 9, 12, 13)] 3 215 := ⟨kT_262, kT_263, kT_76, rfl, ⟨by decide +kernel, by decide +kernel, by decide +kernel⟩, by decide⟩
theorem fG_combine : gFm yX10_combine cX10_combine 2 (some .int) 1 218 := ⟨kT_264, kT_265, kT_266, kM_237, rfl, ⟨by decide +kernel, by decide +kernel, by decide +kernel⟩, by decide⟩
set_option maxRecDepth 100000 in
set_option maxHeartbeats 4000000 in
theorem g_case_20 {p : Program} {l : Launch} {e : Env} {s : State} {m : MethodId} {below : List Frame} {meth : Method} {c : Code} {H : Heap} {locs : List Loc} {cells slots : Nat} {Q : State → Prop} {ls : Array Slot} {dC : Nat → ClassId} {dI : Nat → Nat → Nat} {g : kG} {cZ : ClassId} {h o bb L i N : Nat} {a : Nat → Nat} {xs : Nat → Int32} {Z Z' : gZ} (hlt : l.stackTraces = false) (hi : i + 7 ≤ L) (hL : L ≤ 3584) (X : gX p s m meth c bb L xs dC dI g.1 cZ) (V : gV dC dI g h cZ a o s Z H locs) (hl : lv_has ls 7 (gLv bb (g.2.1 0) h o i)) (hcs : cells + 16 ≤ 601024 ∧ slots + 512 ≤ 7293034) (hpf : gCmp lZi (lPg lZi (lE1 3) (pX9_combine N (gB (xs (i + 1))) Z.1) Z.2.2) (pf_combine N (gB (xs (i + 1))) Z.2.1) = some Z')
    (kk : ∀ (cc2 cd2 : Nat → Nat) (ce2 : Nat) (H1 : Heap) (locs1 : List Loc) (ls1 : Array Slot), gV dC dI (g.1, g.2.1, cc2, cd2, ce2) h cZ a o s Z' H1 locs1 → lv_has ls1 7 (gLv bb (g.2.1 0) h o i) → W p l e room_1 s m #[Value.ref bb] below meth c H1 locs1 (cells + 16) (slots + 512) Q (F0 m 3094 ls1 [])) :
    W p l e room_1 s m #[Value.ref bb] below meth c H locs cells slots Q (F0 m 1723 ls []) := by
  obtain ⟨k, b9, hA, hB, ht, hv⟩ := gCmp_some hpf
  have hx := X.1
  have hb := X.2.1
  have hl : lv_has ls 7 [(0, .ref bb), (1, .ref (g.2.1 0)), (2, .ref h), (3, .ref o), (4, .int (nI i))] := hl
  refine lv_aload_n hx hb dL_law_1723 rfl (lv_at hl 1 rfl) ?_
  refine g_arg (k0 := 0) (k4 := 4) (k := 1) X V hl rfl rfl (by omega) hL rfl 1724 dL_law_1724 dL_law_1725 dL_law_1727 dL_law_1728 dL_law_1729 ?_
  refine g_bool X 1730 dL_law_1730 dL_law_1733 dL_law_1734 dL_law_1737 ?_
  refine lv_aload_n hx hb dL_law_1738 rfl (lv_at hl 3 rfl) ?_
  refine g_callW (As := [.int (gB (xs (i + 1)))]) (rest := []) X V fW_combine (w_combine l hlt N (gB (xs (i + 1)))) (by decide) 1739 dL_law_1739 rfl hl.1 rfl (Nat.le_of_ble_eq_true rfl) ⟨by omega, by omega⟩ hA (fun cc2 cd2 ce2 H1 locs1 V => ?_)
  have V : gV dC dI (g.1, g.2.1, cc2, cd2, ce2) h cZ a o s (Z'.1, Z.2.1, Z'.2.2) H1 locs1 := V
  have X : gX p s m meth c bb L xs dC dI ((g.1, g.2.1, cc2, cd2, ce2) : kG).1 cZ := X
  refine W.widen (k := cells + 16) (n := slots + 512) (by omega) (by omega) ?_
  refine lv_istore (lv' := [(5, .int k), (0, .ref bb), (1, .ref (g.2.1 0)), (2, .ref h), (3, .ref o), (4, .int (nI i))]) hx hb dL_law_1742 hl (by decide) rfl (fun ls hl => ?_)
  refine lv_aload_n hx hb dL_law_1744 rfl (lv_at hl 3 rfl) ?_
  refine g_arg (k0 := 1) (k4 := 5) (k := 1) X V hl rfl rfl (by omega) hL rfl 1745 dL_law_1745 dL_law_1746 dL_law_1748 dL_law_1749 dL_law_1750 ?_
  refine g_bool X 1751 dL_law_1751 dL_law_1754 dL_law_1755 dL_law_1758 ?_
  refine g_callM (As := [.int (gB (xs (i + 1)))]) (rest := []) X V fG_combine (c_combine l N (gB (xs (i + 1)))) (by decide) 1759 dL_law_1759 rfl hl.1 rfl (Nat.le_of_ble_eq_true rfl) ⟨by omega, by omega⟩ hB (fun H2 locs2 V2 => ?_)
  have V2 : gV dC dI (g.1, g.2.1, cc2, cd2, ce2) h cZ a o s Z' H2 locs2 := V2
  exact g_tail (N := N) 1762 X V2 ⟨dL_law_1762, dL_law_1764, dL_law_1765, dL_law_1768, dL_law_1770, dL_law_1775, dL_law_1777, dL_law_1780, dL_law_1781, dL_law_1782, dL_law_1783, dL_law_1785, dL_law_1786, dL_law_1787, dL_law_1792⟩ (by decide) hl ⟨by omega, by omega⟩ ht hv (fun H3 locs3 ls3 V3 hl3 => kk cc2 cd2 ce2 H3 locs3 ls3 V3 hl3)
theorem fW_not : gFw yL_not cL_not 3 [(0, 8, 11, 13)] 2 219 := ⟨kT_267, kT_268, kT_80, rfl, ⟨by decide +kernel, by decide +kernel, by decide +kernel⟩, by decide⟩
theorem fG_not : gFm yX10_not cX10_not 1 (some .int) 0 222 := ⟨kT_269, kT_270, kT_271, kM_238, rfl, ⟨by decide +kernel, by decide +kernel, by decide +kernel⟩, by decide⟩
set_option maxRecDepth 100000 in
set_option maxHeartbeats 4000000 in
theorem g_case_21 {p : Program} {l : Launch} {e : Env} {s : State} {m : MethodId} {below : List Frame} {meth : Method} {c : Code} {H : Heap} {locs : List Loc} {cells slots : Nat} {Q : State → Prop} {ls : Array Slot} {dC : Nat → ClassId} {dI : Nat → Nat → Nat} {g : kG} {cZ : ClassId} {h o bb L i N : Nat} {a : Nat → Nat} {xs : Nat → Int32} {Z Z' : gZ} (hlt : l.stackTraces = false) (hi : i + 7 ≤ L) (hL : L ≤ 3584) (X : gX p s m meth c bb L xs dC dI g.1 cZ) (V : gV dC dI g h cZ a o s Z H locs) (hl : lv_has ls 7 (gLv bb (g.2.1 0) h o i)) (hcs : cells + 16 ≤ 601024 ∧ slots + 512 ≤ 7293034) (hpf : gCmp lZi (lPg lZi (lE1 3) (pX9_not N Z.1) Z.2.2) (pf_not N Z.2.1) = some Z')
    (kk : ∀ (cc2 cd2 : Nat → Nat) (ce2 : Nat) (H1 : Heap) (locs1 : List Loc) (ls1 : Array Slot), gV dC dI (g.1, g.2.1, cc2, cd2, ce2) h cZ a o s Z' H1 locs1 → lv_has ls1 7 (gLv bb (g.2.1 0) h o i) → W p l e room_1 s m #[Value.ref bb] below meth c H1 locs1 (cells + 16) (slots + 512) Q (F0 m 3094 ls1 [])) :
    W p l e room_1 s m #[Value.ref bb] below meth c H locs cells slots Q (F0 m 1795 ls []) := by
  obtain ⟨k, b9, hA, hB, ht, hv⟩ := gCmp_some hpf
  have hx := X.1
  have hb := X.2.1
  have hl : lv_has ls 7 [(0, .ref bb), (1, .ref (g.2.1 0)), (2, .ref h), (3, .ref o), (4, .int (nI i))] := hl
  refine lv_aload_n hx hb dL_law_1795 rfl (lv_at hl 1 rfl) ?_
  refine lv_aload_n hx hb dL_law_1796 rfl (lv_at hl 3 rfl) ?_
  refine g_callW (As := []) (rest := []) X V fW_not (w_not l hlt N) (by decide) 1797 dL_law_1797 rfl hl.1 rfl (Nat.le_of_ble_eq_true rfl) ⟨by omega, by omega⟩ hA (fun cc2 cd2 ce2 H1 locs1 V => ?_)
  have V : gV dC dI (g.1, g.2.1, cc2, cd2, ce2) h cZ a o s (Z'.1, Z.2.1, Z'.2.2) H1 locs1 := V
  have X : gX p s m meth c bb L xs dC dI ((g.1, g.2.1, cc2, cd2, ce2) : kG).1 cZ := X
  refine W.widen (k := cells + 16) (n := slots + 512) (by omega) (by omega) ?_
  refine lv_istore (lv' := [(5, .int k), (0, .ref bb), (1, .ref (g.2.1 0)), (2, .ref h), (3, .ref o), (4, .int (nI i))]) hx hb dL_law_1800 hl (by decide) rfl (fun ls hl => ?_)
  refine lv_aload_n hx hb dL_law_1802 rfl (lv_at hl 3 rfl) ?_
  refine g_callM (As := []) (rest := []) X V fG_not (c_not l N) (by decide) 1803 dL_law_1803 rfl hl.1 rfl (Nat.le_of_ble_eq_true rfl) ⟨by omega, by omega⟩ hB (fun H2 locs2 V2 => ?_)
  have V2 : gV dC dI (g.1, g.2.1, cc2, cd2, ce2) h cZ a o s Z' H2 locs2 := V2
  exact g_tail (N := N) 1806 X V2 ⟨dL_law_1806, dL_law_1808, dL_law_1809, dL_law_1812, dL_law_1814, dL_law_1819, dL_law_1821, dL_law_1824, dL_law_1825, dL_law_1826, dL_law_1827, dL_law_1829, dL_law_1830, dL_law_1831, dL_law_1836⟩ (by decide) hl ⟨by omega, by omega⟩ ht hv (fun H3 locs3 ls3 V3 hl3 => kk cc2 cd2 ce2 H3 locs3 ls3 V3 hl3)
theorem fL_wipe : lFn yX9_wipe cX9_wipe 2 (some .int) 0 223 := ⟨kT_272, kT_273, kT_274, kC_714, rfl, ⟨by decide +kernel, by decide +kernel, by decide +kernel⟩, by decide⟩
theorem fG_wipe : gFm yX10_wipe cX10_wipe 2 (some .int) 0 226 := ⟨kT_275, kT_276, kT_277, kM_239, rfl, ⟨by decide +kernel, by decide +kernel, by decide +kernel⟩, by decide⟩
set_option maxRecDepth 100000 in
set_option maxHeartbeats 4000000 in
theorem g_case_22 {p : Program} {l : Launch} {e : Env} {s : State} {m : MethodId} {below : List Frame} {meth : Method} {c : Code} {H : Heap} {locs : List Loc} {cells slots : Nat} {Q : State → Prop} {ls : Array Slot} {dC : Nat → ClassId} {dI : Nat → Nat → Nat} {g : kG} {cZ : ClassId} {h o bb L i N : Nat} {a : Nat → Nat} {xs : Nat → Int32} {Z Z' : gZ} (hlt : l.stackTraces = false) (hi : i + 7 ≤ L) (hL : L ≤ 3584) (X : gX p s m meth c bb L xs dC dI g.1 cZ) (V : gV dC dI g h cZ a o s Z H locs) (hl : lv_has ls 7 (gLv bb (g.2.1 0) h o i)) (hcs : cells + 16 ≤ 601024 ∧ slots + 512 ≤ 7293034) (hpf : gCmp2 (pX9_wipe N Z.1) (pf_wipe N Z.2.1) Z.2.2 = some Z')
    (kk : ∀ (cc2 cd2 : Nat → Nat) (ce2 : Nat) (H1 : Heap) (locs1 : List Loc) (ls1 : Array Slot), gV dC dI (g.1, g.2.1, cc2, cd2, ce2) h cZ a o s Z' H1 locs1 → lv_has ls1 7 (gLv bb (g.2.1 0) h o i) → W p l e room_1 s m #[Value.ref bb] below meth c H1 locs1 (cells + 16) (slots + 512) Q (F0 m 3094 ls1 [])) :
    W p l e room_1 s m #[Value.ref bb] below meth c H locs cells slots Q (F0 m 1839 ls []) := by
  obtain ⟨b9, hA, hB, hF⟩ := gCmp2_some hpf
  have hx := X.1
  have hb := X.2.1
  have hl : lv_has ls 7 [(0, .ref bb), (1, .ref (g.2.1 0)), (2, .ref h), (3, .ref o), (4, .int (nI i))] := hl
  refine lv_aload_n hx hb dL_law_1839 rfl (lv_at hl 1 rfl) ?_
  refine g_callX (As := []) (rest := []) X V fL_wipe (c_X9_wipe l N) (by decide) 1840 dL_law_1840 rfl hl.1 rfl (Nat.le_of_ble_eq_true rfl) ⟨by omega, by omega⟩ hA (fun H1 locs1 V => ?_)
  have V : gV dC dI g h cZ a o s (Z'.1, Z.2.1, Z.2.2) H1 locs1 := V
  refine lv_aload_n hx hb dL_law_1843 rfl (lv_at hl 2 rfl) ?_
  refine g_callM (As := []) (rest := [.int b9]) X V fG_wipe (c_wipe l N) (by decide) 1844 dL_law_1844 rfl hl.1 rfl (Nat.le_of_ble_eq_true rfl) ⟨by omega, by omega⟩ hB (fun H2 locs2 V2 => ?_)
  have V2 : gV dC dI g h cZ a o s (Z'.1, Z'.2.1, Z.2.2) H2 locs2 := V2
  rw [← hF] at V2
  refine lv_icmp_eq (tgt := 3094) hx hb dL_law_1847 (by decide) (fun _ => ?_) (fun hne => absurd rfl hne)
  refine W.widen (k := cells + 16) (n := slots + 512) (by omega) (by omega) ?_
  exact kk g.2.2.1 g.2.2.2.1 g.2.2.2.2 H2 locs2 ls V2 hl
theorem fW_search : gFw yL_search cL_search 6 [(0, 12, 15, 19), (0, 12, 19, 13)] 5 227 := ⟨kT_278, kT_279, kT_84, rfl, ⟨by decide +kernel, by decide +kernel, by decide +kernel⟩, by decide⟩
theorem fG_search : gFm yX10_search cX10_search 5 (some .int) 3 229 := ⟨kT_280, kT_281, kT_282, kM_265, rfl, ⟨by decide +kernel, by decide +kernel, by decide +kernel⟩, by decide⟩
set_option maxRecDepth 100000 in
set_option maxHeartbeats 4000000 in
theorem g_case_23 {p : Program} {l : Launch} {e : Env} {s : State} {m : MethodId} {below : List Frame} {meth : Method} {c : Code} {H : Heap} {locs : List Loc} {cells slots : Nat} {Q : State → Prop} {ls : Array Slot} {dC : Nat → ClassId} {dI : Nat → Nat → Nat} {g : kG} {cZ : ClassId} {h o bb L i N : Nat} {a : Nat → Nat} {xs : Nat → Int32} {Z Z' : gZ} (hlt : l.stackTraces = false) (hi : i + 7 ≤ L) (hL : L ≤ 3584) (X : gX p s m meth c bb L xs dC dI g.1 cZ) (V : gV dC dI g h cZ a o s Z H locs) (hl : lv_has ls 7 (gLv bb (g.2.1 0) h o i)) (hcs : cells + 16 ≤ 601024 ∧ slots + 512 ≤ 7293034) (hpf : gCmp lZi (lPg lZi (lE2 1 3) (pX9_search N (xs (i + 1)) (xs (i + 2)) (xs (i + 3)) Z.1) Z.2.2) (pf_search N (xs (i + 1)) (xs (i + 2)) (xs (i + 3)) Z.2.1) = some Z')
    (kk : ∀ (cc2 cd2 : Nat → Nat) (ce2 : Nat) (H1 : Heap) (locs1 : List Loc) (ls1 : Array Slot), gV dC dI (g.1, g.2.1, cc2, cd2, ce2) h cZ a o s Z' H1 locs1 → lv_has ls1 7 (gLv bb (g.2.1 0) h o i) → W p l e room_1 s m #[Value.ref bb] below meth c H1 locs1 (cells + 16) (slots + 512) Q (F0 m 3094 ls1 [])) :
    W p l e room_1 s m #[Value.ref bb] below meth c H locs cells slots Q (F0 m 1852 ls []) := by
  obtain ⟨k, b9, hA, hB, ht, hv⟩ := gCmp_some hpf
  have hx := X.1
  have hb := X.2.1
  have hl : lv_has ls 7 [(0, .ref bb), (1, .ref (g.2.1 0)), (2, .ref h), (3, .ref o), (4, .int (nI i))] := hl
  refine lv_aload_n hx hb dL_law_1852 rfl (lv_at hl 1 rfl) ?_
  refine g_arg (k0 := 0) (k4 := 4) (k := 1) X V hl rfl rfl (by omega) hL rfl 1853 dL_law_1853 dL_law_1854 dL_law_1856 dL_law_1857 dL_law_1858 ?_
  refine g_arg (k0 := 0) (k4 := 4) (k := 2) X V hl rfl rfl (by omega) hL rfl 1859 dL_law_1859 dL_law_1860 dL_law_1862 dL_law_1863 dL_law_1864 ?_
  refine g_arg (k0 := 0) (k4 := 4) (k := 3) X V hl rfl rfl (by omega) hL rfl 1865 dL_law_1865 dL_law_1866 dL_law_1868 dL_law_1869 dL_law_1870 ?_
  refine lv_aload_n hx hb dL_law_1871 rfl (lv_at hl 3 rfl) ?_
  refine g_callW (As := [.int (xs (i + 1)), .int (xs (i + 2)), .int (xs (i + 3))]) (rest := []) X V fW_search (w_search l hlt N (xs (i + 1)) (xs (i + 2)) (xs (i + 3))) (by decide) 1872 dL_law_1872 rfl hl.1 rfl (Nat.le_of_ble_eq_true rfl) ⟨by omega, by omega⟩ hA (fun cc2 cd2 ce2 H1 locs1 V => ?_)
  have V : gV dC dI (g.1, g.2.1, cc2, cd2, ce2) h cZ a o s (Z'.1, Z.2.1, Z'.2.2) H1 locs1 := V
  have X : gX p s m meth c bb L xs dC dI ((g.1, g.2.1, cc2, cd2, ce2) : kG).1 cZ := X
  refine W.widen (k := cells + 16) (n := slots + 512) (by omega) (by omega) ?_
  refine lv_istore (lv' := [(5, .int k), (0, .ref bb), (1, .ref (g.2.1 0)), (2, .ref h), (3, .ref o), (4, .int (nI i))]) hx hb dL_law_1875 hl (by decide) rfl (fun ls hl => ?_)
  refine lv_aload_n hx hb dL_law_1877 rfl (lv_at hl 3 rfl) ?_
  refine g_arg (k0 := 1) (k4 := 5) (k := 1) X V hl rfl rfl (by omega) hL rfl 1878 dL_law_1878 dL_law_1879 dL_law_1881 dL_law_1882 dL_law_1883 ?_
  refine g_arg (k0 := 1) (k4 := 5) (k := 2) X V hl rfl rfl (by omega) hL rfl 1884 dL_law_1884 dL_law_1885 dL_law_1887 dL_law_1888 dL_law_1889 ?_
  refine g_arg (k0 := 1) (k4 := 5) (k := 3) X V hl rfl rfl (by omega) hL rfl 1890 dL_law_1890 dL_law_1891 dL_law_1893 dL_law_1894 dL_law_1895 ?_
  refine g_callM (As := [.int (xs (i + 1)), .int (xs (i + 2)), .int (xs (i + 3))]) (rest := []) X V fG_search (c_search l N (xs (i + 1)) (xs (i + 2)) (xs (i + 3))) (by decide) 1896 dL_law_1896 rfl hl.1 rfl (Nat.le_of_ble_eq_true rfl) ⟨by omega, by omega⟩ hB (fun H2 locs2 V2 => ?_)
  have V2 : gV dC dI (g.1, g.2.1, cc2, cd2, ce2) h cZ a o s Z' H2 locs2 := V2
  exact g_tail (N := N) 1899 X V2 ⟨dL_law_1899, dL_law_1901, dL_law_1902, dL_law_1905, dL_law_1907, dL_law_1912, dL_law_1914, dL_law_1917, dL_law_1918, dL_law_1919, dL_law_1920, dL_law_1922, dL_law_1923, dL_law_1924, dL_law_1929⟩ (by decide) hl ⟨by omega, by omega⟩ ht hv (fun H3 locs3 ls3 V3 hl3 => kk cc2 cd2 ce2 H3 locs3 ls3 V3 hl3)
theorem fW_searchByWalk : gFw yL_searchByWalk cL_searchByWalk 6 [(0, 12, 15, 19), (0, 12, 19, 13)] 5 230 := ⟨kT_283, kT_284, kT_88, rfl, ⟨by decide +kernel, by decide +kernel, by decide +kernel⟩, by decide⟩
theorem fG_searchByWalk : gFm yX10_searchByWalk cX10_searchByWalk 6 (some .int) 3 232 := ⟨kT_285, kT_286, kT_287, kM_266, rfl, ⟨by decide +kernel, by decide +kernel, by decide +kernel⟩, by decide⟩
set_option maxRecDepth 100000 in
set_option maxHeartbeats 4000000 in
theorem g_case_24 {p : Program} {l : Launch} {e : Env} {s : State} {m : MethodId} {below : List Frame} {meth : Method} {c : Code} {H : Heap} {locs : List Loc} {cells slots : Nat} {Q : State → Prop} {ls : Array Slot} {dC : Nat → ClassId} {dI : Nat → Nat → Nat} {g : kG} {cZ : ClassId} {h o bb L i N : Nat} {a : Nat → Nat} {xs : Nat → Int32} {Z Z' : gZ} (hlt : l.stackTraces = false) (hi : i + 7 ≤ L) (hL : L ≤ 3584) (X : gX p s m meth c bb L xs dC dI g.1 cZ) (V : gV dC dI g h cZ a o s Z H locs) (hl : lv_has ls 7 (gLv bb (g.2.1 0) h o i)) (hcs : cells + 16 ≤ 601024 ∧ slots + 512 ≤ 7293034) (hpf : gCmp lZi (lPg lZi (lE2 1 3) (pX9_searchByWalk N (xs (i + 1)) (xs (i + 2)) (xs (i + 3)) Z.1) Z.2.2) (pf_searchByWalk N (xs (i + 1)) (xs (i + 2)) (xs (i + 3)) Z.2.1) = some Z')
    (kk : ∀ (cc2 cd2 : Nat → Nat) (ce2 : Nat) (H1 : Heap) (locs1 : List Loc) (ls1 : Array Slot), gV dC dI (g.1, g.2.1, cc2, cd2, ce2) h cZ a o s Z' H1 locs1 → lv_has ls1 7 (gLv bb (g.2.1 0) h o i) → W p l e room_1 s m #[Value.ref bb] below meth c H1 locs1 (cells + 16) (slots + 512) Q (F0 m 3094 ls1 [])) :
    W p l e room_1 s m #[Value.ref bb] below meth c H locs cells slots Q (F0 m 1932 ls []) := by
  obtain ⟨k, b9, hA, hB, ht, hv⟩ := gCmp_some hpf
  have hx := X.1
  have hb := X.2.1
  have hl : lv_has ls 7 [(0, .ref bb), (1, .ref (g.2.1 0)), (2, .ref h), (3, .ref o), (4, .int (nI i))] := hl
  refine lv_aload_n hx hb dL_law_1932 rfl (lv_at hl 1 rfl) ?_
  refine g_arg (k0 := 0) (k4 := 4) (k := 1) X V hl rfl rfl (by omega) hL rfl 1933 dL_law_1933 dL_law_1934 dL_law_1936 dL_law_1937 dL_law_1938 ?_
  refine g_arg (k0 := 0) (k4 := 4) (k := 2) X V hl rfl rfl (by omega) hL rfl 1939 dL_law_1939 dL_law_1940 dL_law_1942 dL_law_1943 dL_law_1944 ?_
  refine g_arg (k0 := 0) (k4 := 4) (k := 3) X V hl rfl rfl (by omega) hL rfl 1945 dL_law_1945 dL_law_1946 dL_law_1948 dL_law_1949 dL_law_1950 ?_
  refine lv_aload_n hx hb dL_law_1951 rfl (lv_at hl 3 rfl) ?_
  refine g_callW (As := [.int (xs (i + 1)), .int (xs (i + 2)), .int (xs (i + 3))]) (rest := []) X V fW_searchByWalk (w_searchByWalk l hlt N (xs (i + 1)) (xs (i + 2)) (xs (i + 3))) (by decide) 1952 dL_law_1952 rfl hl.1 rfl (Nat.le_of_ble_eq_true rfl) ⟨by omega, by omega⟩ hA (fun cc2 cd2 ce2 H1 locs1 V => ?_)
  have V : gV dC dI (g.1, g.2.1, cc2, cd2, ce2) h cZ a o s (Z'.1, Z.2.1, Z'.2.2) H1 locs1 := V
  have X : gX p s m meth c bb L xs dC dI ((g.1, g.2.1, cc2, cd2, ce2) : kG).1 cZ := X
  refine W.widen (k := cells + 16) (n := slots + 512) (by omega) (by omega) ?_
  refine lv_istore (lv' := [(5, .int k), (0, .ref bb), (1, .ref (g.2.1 0)), (2, .ref h), (3, .ref o), (4, .int (nI i))]) hx hb dL_law_1955 hl (by decide) rfl (fun ls hl => ?_)
  refine lv_aload_n hx hb dL_law_1957 rfl (lv_at hl 3 rfl) ?_
  refine g_arg (k0 := 1) (k4 := 5) (k := 1) X V hl rfl rfl (by omega) hL rfl 1958 dL_law_1958 dL_law_1959 dL_law_1961 dL_law_1962 dL_law_1963 ?_
  refine g_arg (k0 := 1) (k4 := 5) (k := 2) X V hl rfl rfl (by omega) hL rfl 1964 dL_law_1964 dL_law_1965 dL_law_1967 dL_law_1968 dL_law_1969 ?_
  refine g_arg (k0 := 1) (k4 := 5) (k := 3) X V hl rfl rfl (by omega) hL rfl 1970 dL_law_1970 dL_law_1971 dL_law_1973 dL_law_1974 dL_law_1975 ?_
  refine g_callM (As := [.int (xs (i + 1)), .int (xs (i + 2)), .int (xs (i + 3))]) (rest := []) X V fG_searchByWalk (c_searchByWalk l N (xs (i + 1)) (xs (i + 2)) (xs (i + 3))) (by decide) 1976 dL_law_1976 rfl hl.1 rfl (Nat.le_of_ble_eq_true rfl) ⟨by omega, by omega⟩ hB (fun H2 locs2 V2 => ?_)
  have V2 : gV dC dI (g.1, g.2.1, cc2, cd2, ce2) h cZ a o s Z' H2 locs2 := V2
  exact g_tail (N := N) 1979 X V2 ⟨dL_law_1979, dL_law_1981, dL_law_1982, dL_law_1985, dL_law_1987, dL_law_1992, dL_law_1994, dL_law_1997, dL_law_1998, dL_law_1999, dL_law_2000, dL_law_2002, dL_law_2003, dL_law_2004, dL_law_2009⟩ (by decide) hl ⟨by omega, by omega⟩ ht hv (fun H3 locs3 ls3 V3 hl3 => kk cc2 cd2 ce2 H3 locs3 ls3 V3 hl3)
theorem fW_follow : gFw yL_follow cL_follow 6 [(0, 12, 15, 19), (0, 12, 19, 13)] 5 233 := ⟨kT_288, kT_289, kT_92, rfl, ⟨by decide +kernel, by decide +kernel, by decide +kernel⟩, by decide⟩
theorem fG_follow : gFm yX10_follow cX10_follow 6 (some .int) 3 235 := ⟨kT_290, kT_291, kT_292, kM_280, rfl, ⟨by decide +kernel, by decide +kernel, by decide +kernel⟩, by decide⟩
set_option maxRecDepth 100000 in
set_option maxHeartbeats 4000000 in
theorem g_case_25 {p : Program} {l : Launch} {e : Env} {s : State} {m : MethodId} {below : List Frame} {meth : Method} {c : Code} {H : Heap} {locs : List Loc} {cells slots : Nat} {Q : State → Prop} {ls : Array Slot} {dC : Nat → ClassId} {dI : Nat → Nat → Nat} {g : kG} {cZ : ClassId} {h o bb L i N : Nat} {a : Nat → Nat} {xs : Nat → Int32} {Z Z' : gZ} (hlt : l.stackTraces = false) (hi : i + 7 ≤ L) (hL : L ≤ 3584) (X : gX p s m meth c bb L xs dC dI g.1 cZ) (V : gV dC dI g h cZ a o s Z H locs) (hl : lv_has ls 7 (gLv bb (g.2.1 0) h o i)) (hcs : cells + 16 ≤ 601024 ∧ slots + 512 ≤ 7293034) (hpf : gCmp lZi (lPg lZi (lE2 1 3) (pX9_follow N (xs (i + 1)) (xs (i + 2)) (xs (i + 3)) Z.1) Z.2.2) (pf_follow N (xs (i + 1)) (xs (i + 2)) (xs (i + 3)) Z.2.1) = some Z')
    (kk : ∀ (cc2 cd2 : Nat → Nat) (ce2 : Nat) (H1 : Heap) (locs1 : List Loc) (ls1 : Array Slot), gV dC dI (g.1, g.2.1, cc2, cd2, ce2) h cZ a o s Z' H1 locs1 → lv_has ls1 7 (gLv bb (g.2.1 0) h o i) → W p l e room_1 s m #[Value.ref bb] below meth c H1 locs1 (cells + 16) (slots + 512) Q (F0 m 3094 ls1 [])) :
    W p l e room_1 s m #[Value.ref bb] below meth c H locs cells slots Q (F0 m 2012 ls []) := by
  obtain ⟨k, b9, hA, hB, ht, hv⟩ := gCmp_some hpf
  have hx := X.1
  have hb := X.2.1
  have hl : lv_has ls 7 [(0, .ref bb), (1, .ref (g.2.1 0)), (2, .ref h), (3, .ref o), (4, .int (nI i))] := hl
  refine lv_aload_n hx hb dL_law_2012 rfl (lv_at hl 1 rfl) ?_
  refine g_arg (k0 := 0) (k4 := 4) (k := 1) X V hl rfl rfl (by omega) hL rfl 2013 dL_law_2013 dL_law_2014 dL_law_2016 dL_law_2017 dL_law_2018 ?_
  refine g_arg (k0 := 0) (k4 := 4) (k := 2) X V hl rfl rfl (by omega) hL rfl 2019 dL_law_2019 dL_law_2020 dL_law_2022 dL_law_2023 dL_law_2024 ?_
  refine g_arg (k0 := 0) (k4 := 4) (k := 3) X V hl rfl rfl (by omega) hL rfl 2025 dL_law_2025 dL_law_2026 dL_law_2028 dL_law_2029 dL_law_2030 ?_
  refine lv_aload_n hx hb dL_law_2031 rfl (lv_at hl 3 rfl) ?_
  refine g_callW (As := [.int (xs (i + 1)), .int (xs (i + 2)), .int (xs (i + 3))]) (rest := []) X V fW_follow (w_follow l hlt N (xs (i + 1)) (xs (i + 2)) (xs (i + 3))) (by decide) 2032 dL_law_2032 rfl hl.1 rfl (Nat.le_of_ble_eq_true rfl) ⟨by omega, by omega⟩ hA (fun cc2 cd2 ce2 H1 locs1 V => ?_)
  have V : gV dC dI (g.1, g.2.1, cc2, cd2, ce2) h cZ a o s (Z'.1, Z.2.1, Z'.2.2) H1 locs1 := V
  have X : gX p s m meth c bb L xs dC dI ((g.1, g.2.1, cc2, cd2, ce2) : kG).1 cZ := X
  refine W.widen (k := cells + 16) (n := slots + 512) (by omega) (by omega) ?_
  refine lv_istore (lv' := [(5, .int k), (0, .ref bb), (1, .ref (g.2.1 0)), (2, .ref h), (3, .ref o), (4, .int (nI i))]) hx hb dL_law_2035 hl (by decide) rfl (fun ls hl => ?_)
  refine lv_aload_n hx hb dL_law_2037 rfl (lv_at hl 3 rfl) ?_
  refine g_arg (k0 := 1) (k4 := 5) (k := 1) X V hl rfl rfl (by omega) hL rfl 2038 dL_law_2038 dL_law_2039 dL_law_2041 dL_law_2042 dL_law_2043 ?_
  refine g_arg (k0 := 1) (k4 := 5) (k := 2) X V hl rfl rfl (by omega) hL rfl 2044 dL_law_2044 dL_law_2045 dL_law_2047 dL_law_2048 dL_law_2049 ?_
  refine g_arg (k0 := 1) (k4 := 5) (k := 3) X V hl rfl rfl (by omega) hL rfl 2050 dL_law_2050 dL_law_2051 dL_law_2053 dL_law_2054 dL_law_2055 ?_
  refine g_callM (As := [.int (xs (i + 1)), .int (xs (i + 2)), .int (xs (i + 3))]) (rest := []) X V fG_follow (c_follow l N (xs (i + 1)) (xs (i + 2)) (xs (i + 3))) (by decide) 2056 dL_law_2056 rfl hl.1 rfl (Nat.le_of_ble_eq_true rfl) ⟨by omega, by omega⟩ hB (fun H2 locs2 V2 => ?_)
  have V2 : gV dC dI (g.1, g.2.1, cc2, cd2, ce2) h cZ a o s Z' H2 locs2 := V2
  exact g_tail (N := N) 2059 X V2 ⟨dL_law_2059, dL_law_2061, dL_law_2062, dL_law_2065, dL_law_2067, dL_law_2072, dL_law_2074, dL_law_2077, dL_law_2078, dL_law_2079, dL_law_2080, dL_law_2082, dL_law_2083, dL_law_2084, dL_law_2089⟩ (by decide) hl ⟨by omega, by omega⟩ ht hv (fun H3 locs3 ls3 V3 hl3 => kk cc2 cd2 ce2 H3 locs3 ls3 V3 hl3)
theorem fW_found : gFw yL_found cL_found 4 [(0, 9, 12, 19)] 3 236 := ⟨kT_293, kT_294, kT_93, rfl, ⟨by decide +kernel, by decide +kernel, by decide +kernel⟩, by decide⟩
theorem fG_found : gFm yX10_found cX10_found 2 (some .int) 1 238 := ⟨kT_298, kT_299, kT_300, kM_281, rfl, ⟨by decide +kernel, by decide +kernel, by decide +kernel⟩, by decide⟩
set_option maxRecDepth 100000 in
set_option maxHeartbeats 4000000 in
theorem g_case_26 {p : Program} {l : Launch} {e : Env} {s : State} {m : MethodId} {below : List Frame} {meth : Method} {c : Code} {H : Heap} {locs : List Loc} {cells slots : Nat} {Q : State → Prop} {ls : Array Slot} {dC : Nat → ClassId} {dI : Nat → Nat → Nat} {g : kG} {cZ : ClassId} {h o bb L i N : Nat} {a : Nat → Nat} {xs : Nat → Int32} {Z Z' : gZ} (hlt : l.stackTraces = false) (hi : i + 7 ≤ L) (hL : L ≤ 3584) (X : gX p s m meth c bb L xs dC dI g.1 cZ) (V : gV dC dI g h cZ a o s Z H locs) (hl : lv_has ls 7 (gLv bb (g.2.1 0) h o i)) (hcs : cells + 16 ≤ 601024 ∧ slots + 512 ≤ 7293034) (hpf : gCmp lZi (lPg lZi (lE1 1) (pX9_found N (xs (i + 1)) Z.1) Z.2.2) (pf_found N (xs (i + 1)) Z.2.1) = some Z')
    (kk : ∀ (cc2 cd2 : Nat → Nat) (ce2 : Nat) (H1 : Heap) (locs1 : List Loc) (ls1 : Array Slot), gV dC dI (g.1, g.2.1, cc2, cd2, ce2) h cZ a o s Z' H1 locs1 → lv_has ls1 7 (gLv bb (g.2.1 0) h o i) → W p l e room_1 s m #[Value.ref bb] below meth c H1 locs1 (cells + 16) (slots + 512) Q (F0 m 3094 ls1 [])) :
    W p l e room_1 s m #[Value.ref bb] below meth c H locs cells slots Q (F0 m 2092 ls []) := by
  obtain ⟨k, b9, hA, hB, ht, hv⟩ := gCmp_some hpf
  have hx := X.1
  have hb := X.2.1
  have hl : lv_has ls 7 [(0, .ref bb), (1, .ref (g.2.1 0)), (2, .ref h), (3, .ref o), (4, .int (nI i))] := hl
  refine lv_aload_n hx hb dL_law_2092 rfl (lv_at hl 1 rfl) ?_
  refine g_arg (k0 := 0) (k4 := 4) (k := 1) X V hl rfl rfl (by omega) hL rfl 2093 dL_law_2093 dL_law_2094 dL_law_2096 dL_law_2097 dL_law_2098 ?_
  refine lv_aload_n hx hb dL_law_2099 rfl (lv_at hl 3 rfl) ?_
  refine g_callW (As := [.int (xs (i + 1))]) (rest := []) X V fW_found (w_found l hlt N (xs (i + 1))) (by decide) 2100 dL_law_2100 rfl hl.1 rfl (Nat.le_of_ble_eq_true rfl) ⟨by omega, by omega⟩ hA (fun cc2 cd2 ce2 H1 locs1 V => ?_)
  have V : gV dC dI (g.1, g.2.1, cc2, cd2, ce2) h cZ a o s (Z'.1, Z.2.1, Z'.2.2) H1 locs1 := V
  have X : gX p s m meth c bb L xs dC dI ((g.1, g.2.1, cc2, cd2, ce2) : kG).1 cZ := X
  refine W.widen (k := cells + 16) (n := slots + 512) (by omega) (by omega) ?_
  refine lv_istore (lv' := [(5, .int k), (0, .ref bb), (1, .ref (g.2.1 0)), (2, .ref h), (3, .ref o), (4, .int (nI i))]) hx hb dL_law_2103 hl (by decide) rfl (fun ls hl => ?_)
  refine lv_aload_n hx hb dL_law_2105 rfl (lv_at hl 3 rfl) ?_
  refine g_arg (k0 := 1) (k4 := 5) (k := 1) X V hl rfl rfl (by omega) hL rfl 2106 dL_law_2106 dL_law_2107 dL_law_2109 dL_law_2110 dL_law_2111 ?_
  refine g_callM (As := [.int (xs (i + 1))]) (rest := []) X V fG_found (c_found l N (xs (i + 1))) (by decide) 2112 dL_law_2112 rfl hl.1 rfl (Nat.le_of_ble_eq_true rfl) ⟨by omega, by omega⟩ hB (fun H2 locs2 V2 => ?_)
  have V2 : gV dC dI (g.1, g.2.1, cc2, cd2, ce2) h cZ a o s Z' H2 locs2 := V2
  exact g_tail (N := N) 2115 X V2 ⟨dL_law_2115, dL_law_2117, dL_law_2118, dL_law_2121, dL_law_2123, dL_law_2128, dL_law_2130, dL_law_2133, dL_law_2134, dL_law_2135, dL_law_2136, dL_law_2138, dL_law_2139, dL_law_2140, dL_law_2145⟩ (by decide) hl ⟨by omega, by omega⟩ ht hv (fun H3 locs3 ls3 V3 hl3 => kk cc2 cd2 ce2 H3 locs3 ls3 V3 hl3)
theorem fW_live : gFw yL_live cL_live 4 [(0, 9, 12, 19)] 3 239 := ⟨kT_301, kT_302, kT_97, rfl, ⟨by decide +kernel, by decide +kernel, by decide +kernel⟩, by decide⟩
theorem fG_live : gFm yX10_live cX10_live 4 (some .int) 1 241 := ⟨kT_303, kT_304, kT_305, kM_282, rfl, ⟨by decide +kernel, by decide +kernel, by decide +kernel⟩, by decide⟩
set_option maxRecDepth 100000 in
set_option maxHeartbeats 4000000 in
theorem g_case_27 {p : Program} {l : Launch} {e : Env} {s : State} {m : MethodId} {below : List Frame} {meth : Method} {c : Code} {H : Heap} {locs : List Loc} {cells slots : Nat} {Q : State → Prop} {ls : Array Slot} {dC : Nat → ClassId} {dI : Nat → Nat → Nat} {g : kG} {cZ : ClassId} {h o bb L i N : Nat} {a : Nat → Nat} {xs : Nat → Int32} {Z Z' : gZ} (hlt : l.stackTraces = false) (hi : i + 7 ≤ L) (hL : L ≤ 3584) (X : gX p s m meth c bb L xs dC dI g.1 cZ) (V : gV dC dI g h cZ a o s Z H locs) (hl : lv_has ls 7 (gLv bb (g.2.1 0) h o i)) (hcs : cells + 16 ≤ 601024 ∧ slots + 512 ≤ 7293034) (hpf : gCmp lZi (lPg lZi (lE1 1) (pX9_live N (xs (i + 1)) Z.1) Z.2.2) (pf_live N (xs (i + 1)) Z.2.1) = some Z')
    (kk : ∀ (cc2 cd2 : Nat → Nat) (ce2 : Nat) (H1 : Heap) (locs1 : List Loc) (ls1 : Array Slot), gV dC dI (g.1, g.2.1, cc2, cd2, ce2) h cZ a o s Z' H1 locs1 → lv_has ls1 7 (gLv bb (g.2.1 0) h o i) → W p l e room_1 s m #[Value.ref bb] below meth c H1 locs1 (cells + 16) (slots + 512) Q (F0 m 3094 ls1 [])) :
    W p l e room_1 s m #[Value.ref bb] below meth c H locs cells slots Q (F0 m 2148 ls []) := by
  obtain ⟨k, b9, hA, hB, ht, hv⟩ := gCmp_some hpf
  have hx := X.1
  have hb := X.2.1
  have hl : lv_has ls 7 [(0, .ref bb), (1, .ref (g.2.1 0)), (2, .ref h), (3, .ref o), (4, .int (nI i))] := hl
  refine lv_aload_n hx hb dL_law_2148 rfl (lv_at hl 1 rfl) ?_
  refine g_arg (k0 := 0) (k4 := 4) (k := 1) X V hl rfl rfl (by omega) hL rfl 2149 dL_law_2149 dL_law_2150 dL_law_2152 dL_law_2153 dL_law_2154 ?_
  refine lv_aload_n hx hb dL_law_2155 rfl (lv_at hl 3 rfl) ?_
  refine g_callW (As := [.int (xs (i + 1))]) (rest := []) X V fW_live (w_live l hlt N (xs (i + 1))) (by decide) 2156 dL_law_2156 rfl hl.1 rfl (Nat.le_of_ble_eq_true rfl) ⟨by omega, by omega⟩ hA (fun cc2 cd2 ce2 H1 locs1 V => ?_)
  have V : gV dC dI (g.1, g.2.1, cc2, cd2, ce2) h cZ a o s (Z'.1, Z.2.1, Z'.2.2) H1 locs1 := V
  have X : gX p s m meth c bb L xs dC dI ((g.1, g.2.1, cc2, cd2, ce2) : kG).1 cZ := X
  refine W.widen (k := cells + 16) (n := slots + 512) (by omega) (by omega) ?_
  refine lv_istore (lv' := [(5, .int k), (0, .ref bb), (1, .ref (g.2.1 0)), (2, .ref h), (3, .ref o), (4, .int (nI i))]) hx hb dL_law_2159 hl (by decide) rfl (fun ls hl => ?_)
  refine lv_aload_n hx hb dL_law_2161 rfl (lv_at hl 3 rfl) ?_
  refine g_arg (k0 := 1) (k4 := 5) (k := 1) X V hl rfl rfl (by omega) hL rfl 2162 dL_law_2162 dL_law_2163 dL_law_2165 dL_law_2166 dL_law_2167 ?_
  refine g_callM (As := [.int (xs (i + 1))]) (rest := []) X V fG_live (c_live l N (xs (i + 1))) (by decide) 2168 dL_law_2168 rfl hl.1 rfl (Nat.le_of_ble_eq_true rfl) ⟨by omega, by omega⟩ hB (fun H2 locs2 V2 => ?_)
  have V2 : gV dC dI (g.1, g.2.1, cc2, cd2, ce2) h cZ a o s Z' H2 locs2 := V2
  exact g_tail (N := N) 2171 X V2 ⟨dL_law_2171, dL_law_2173, dL_law_2174, dL_law_2177, dL_law_2179, dL_law_2184, dL_law_2186, dL_law_2189, dL_law_2190, dL_law_2191, dL_law_2192, dL_law_2194, dL_law_2195, dL_law_2196, dL_law_2201⟩ (by decide) hl ⟨by omega, by omega⟩ ht hv (fun H3 locs3 ls3 V3 hl3 => kk cc2 cd2 ce2 H3 locs3 ls3 V3 hl3)
theorem fW_parentOf : gFw yL_parentOf cL_parentOf 5 [(0, 10, 13, 19)] 4 242 := ⟨kT_306, kT_307, kT_101, rfl, ⟨by decide +kernel, by decide +kernel, by decide +kernel⟩, by decide⟩
theorem fG_parentOf : gFm yX10_parentOf cX10_parentOf 3 (some .int) 2 244 := ⟨kT_308, kT_309, kT_310, kM_283, rfl, ⟨by decide +kernel, by decide +kernel, by decide +kernel⟩, by decide⟩
set_option maxRecDepth 100000 in
set_option maxHeartbeats 4000000 in
theorem g_case_28 {p : Program} {l : Launch} {e : Env} {s : State} {m : MethodId} {below : List Frame} {meth : Method} {c : Code} {H : Heap} {locs : List Loc} {cells slots : Nat} {Q : State → Prop} {ls : Array Slot} {dC : Nat → ClassId} {dI : Nat → Nat → Nat} {g : kG} {cZ : ClassId} {h o bb L i N : Nat} {a : Nat → Nat} {xs : Nat → Int32} {Z Z' : gZ} (hlt : l.stackTraces = false) (hi : i + 7 ≤ L) (hL : L ≤ 3584) (X : gX p s m meth c bb L xs dC dI g.1 cZ) (V : gV dC dI g h cZ a o s Z H locs) (hl : lv_has ls 7 (gLv bb (g.2.1 0) h o i)) (hcs : cells + 16 ≤ 601024 ∧ slots + 512 ≤ 7293034) (hpf : gCmp lZi (lPg lZi (lE1 1) (pX9_parentOf N (xs (i + 1)) (xs (i + 2)) Z.1) Z.2.2) (pf_parentOf N (xs (i + 1)) (xs (i + 2)) Z.2.1) = some Z')
    (kk : ∀ (cc2 cd2 : Nat → Nat) (ce2 : Nat) (H1 : Heap) (locs1 : List Loc) (ls1 : Array Slot), gV dC dI (g.1, g.2.1, cc2, cd2, ce2) h cZ a o s Z' H1 locs1 → lv_has ls1 7 (gLv bb (g.2.1 0) h o i) → W p l e room_1 s m #[Value.ref bb] below meth c H1 locs1 (cells + 16) (slots + 512) Q (F0 m 3094 ls1 [])) :
    W p l e room_1 s m #[Value.ref bb] below meth c H locs cells slots Q (F0 m 2204 ls []) := by
  obtain ⟨k, b9, hA, hB, ht, hv⟩ := gCmp_some hpf
  have hx := X.1
  have hb := X.2.1
  have hl : lv_has ls 7 [(0, .ref bb), (1, .ref (g.2.1 0)), (2, .ref h), (3, .ref o), (4, .int (nI i))] := hl
  refine lv_aload_n hx hb dL_law_2204 rfl (lv_at hl 1 rfl) ?_
  refine g_arg (k0 := 0) (k4 := 4) (k := 1) X V hl rfl rfl (by omega) hL rfl 2205 dL_law_2205 dL_law_2206 dL_law_2208 dL_law_2209 dL_law_2210 ?_
  refine g_arg (k0 := 0) (k4 := 4) (k := 2) X V hl rfl rfl (by omega) hL rfl 2211 dL_law_2211 dL_law_2212 dL_law_2214 dL_law_2215 dL_law_2216 ?_
  refine lv_aload_n hx hb dL_law_2217 rfl (lv_at hl 3 rfl) ?_
  refine g_callW (As := [.int (xs (i + 1)), .int (xs (i + 2))]) (rest := []) X V fW_parentOf (w_parentOf l hlt N (xs (i + 1)) (xs (i + 2))) (by decide) 2218 dL_law_2218 rfl hl.1 rfl (Nat.le_of_ble_eq_true rfl) ⟨by omega, by omega⟩ hA (fun cc2 cd2 ce2 H1 locs1 V => ?_)
  have V : gV dC dI (g.1, g.2.1, cc2, cd2, ce2) h cZ a o s (Z'.1, Z.2.1, Z'.2.2) H1 locs1 := V
  have X : gX p s m meth c bb L xs dC dI ((g.1, g.2.1, cc2, cd2, ce2) : kG).1 cZ := X
  refine W.widen (k := cells + 16) (n := slots + 512) (by omega) (by omega) ?_
  refine lv_istore (lv' := [(5, .int k), (0, .ref bb), (1, .ref (g.2.1 0)), (2, .ref h), (3, .ref o), (4, .int (nI i))]) hx hb dL_law_2221 hl (by decide) rfl (fun ls hl => ?_)
  refine lv_aload_n hx hb dL_law_2223 rfl (lv_at hl 3 rfl) ?_
  refine g_arg (k0 := 1) (k4 := 5) (k := 1) X V hl rfl rfl (by omega) hL rfl 2224 dL_law_2224 dL_law_2225 dL_law_2227 dL_law_2228 dL_law_2229 ?_
  refine g_arg (k0 := 1) (k4 := 5) (k := 2) X V hl rfl rfl (by omega) hL rfl 2230 dL_law_2230 dL_law_2231 dL_law_2233 dL_law_2234 dL_law_2235 ?_
  refine g_callM (As := [.int (xs (i + 1)), .int (xs (i + 2))]) (rest := []) X V fG_parentOf (c_parentOf l N (xs (i + 1)) (xs (i + 2))) (by decide) 2236 dL_law_2236 rfl hl.1 rfl (Nat.le_of_ble_eq_true rfl) ⟨by omega, by omega⟩ hB (fun H2 locs2 V2 => ?_)
  have V2 : gV dC dI (g.1, g.2.1, cc2, cd2, ce2) h cZ a o s Z' H2 locs2 := V2
  exact g_tail (N := N) 2239 X V2 ⟨dL_law_2239, dL_law_2241, dL_law_2242, dL_law_2245, dL_law_2247, dL_law_2252, dL_law_2254, dL_law_2257, dL_law_2258, dL_law_2259, dL_law_2260, dL_law_2262, dL_law_2263, dL_law_2264, dL_law_2269⟩ (by decide) hl ⟨by omega, by omega⟩ ht hv (fun H3 locs3 ls3 V3 hl3 => kk cc2 cd2 ce2 H3 locs3 ls3 V3 hl3)
theorem fW_parentAnew : gFw yL_parentAnew cL_parentAnew 5 [(0, 10, 13, 19)] 4 245 := ⟨kT_311, kT_312, kT_105, rfl, ⟨by decide +kernel, by decide +kernel, by decide +kernel⟩, by decide⟩
theorem fG_parentAnew : gFm yX10_parentAnew cX10_parentAnew 3 (some .int) 2 247 := ⟨kT_313, kT_314, kT_315, kM_284, rfl, ⟨by decide +kernel, by decide +kernel, by decide +kernel⟩, by decide⟩
set_option maxRecDepth 100000 in
set_option maxHeartbeats 4000000 in
theorem g_case_29 {p : Program} {l : Launch} {e : Env} {s : State} {m : MethodId} {below : List Frame} {meth : Method} {c : Code} {H : Heap} {locs : List Loc} {cells slots : Nat} {Q : State → Prop} {ls : Array Slot} {dC : Nat → ClassId} {dI : Nat → Nat → Nat} {g : kG} {cZ : ClassId} {h o bb L i N : Nat} {a : Nat → Nat} {xs : Nat → Int32} {Z Z' : gZ} (hlt : l.stackTraces = false) (hi : i + 7 ≤ L) (hL : L ≤ 3584) (X : gX p s m meth c bb L xs dC dI g.1 cZ) (V : gV dC dI g h cZ a o s Z H locs) (hl : lv_has ls 7 (gLv bb (g.2.1 0) h o i)) (hcs : cells + 16 ≤ 601024 ∧ slots + 512 ≤ 7293034) (hpf : gCmp lZi (lPg lZi (lE1 1) (pX9_parentAnew N (xs (i + 1)) (xs (i + 2)) Z.1) Z.2.2) (pf_parentAnew N (xs (i + 1)) (xs (i + 2)) Z.2.1) = some Z')
    (kk : ∀ (cc2 cd2 : Nat → Nat) (ce2 : Nat) (H1 : Heap) (locs1 : List Loc) (ls1 : Array Slot), gV dC dI (g.1, g.2.1, cc2, cd2, ce2) h cZ a o s Z' H1 locs1 → lv_has ls1 7 (gLv bb (g.2.1 0) h o i) → W p l e room_1 s m #[Value.ref bb] below meth c H1 locs1 (cells + 16) (slots + 512) Q (F0 m 3094 ls1 [])) :
    W p l e room_1 s m #[Value.ref bb] below meth c H locs cells slots Q (F0 m 2272 ls []) := by
  obtain ⟨k, b9, hA, hB, ht, hv⟩ := gCmp_some hpf
  have hx := X.1
  have hb := X.2.1
  have hl : lv_has ls 7 [(0, .ref bb), (1, .ref (g.2.1 0)), (2, .ref h), (3, .ref o), (4, .int (nI i))] := hl
  refine lv_aload_n hx hb dL_law_2272 rfl (lv_at hl 1 rfl) ?_
  refine g_arg (k0 := 0) (k4 := 4) (k := 1) X V hl rfl rfl (by omega) hL rfl 2273 dL_law_2273 dL_law_2274 dL_law_2276 dL_law_2277 dL_law_2278 ?_
  refine g_arg (k0 := 0) (k4 := 4) (k := 2) X V hl rfl rfl (by omega) hL rfl 2279 dL_law_2279 dL_law_2280 dL_law_2282 dL_law_2283 dL_law_2284 ?_
  refine lv_aload_n hx hb dL_law_2285 rfl (lv_at hl 3 rfl) ?_
  refine g_callW (As := [.int (xs (i + 1)), .int (xs (i + 2))]) (rest := []) X V fW_parentAnew (w_parentAnew l hlt N (xs (i + 1)) (xs (i + 2))) (by decide) 2286 dL_law_2286 rfl hl.1 rfl (Nat.le_of_ble_eq_true rfl) ⟨by omega, by omega⟩ hA (fun cc2 cd2 ce2 H1 locs1 V => ?_)
  have V : gV dC dI (g.1, g.2.1, cc2, cd2, ce2) h cZ a o s (Z'.1, Z.2.1, Z'.2.2) H1 locs1 := V
  have X : gX p s m meth c bb L xs dC dI ((g.1, g.2.1, cc2, cd2, ce2) : kG).1 cZ := X
  refine W.widen (k := cells + 16) (n := slots + 512) (by omega) (by omega) ?_
  refine lv_istore (lv' := [(5, .int k), (0, .ref bb), (1, .ref (g.2.1 0)), (2, .ref h), (3, .ref o), (4, .int (nI i))]) hx hb dL_law_2289 hl (by decide) rfl (fun ls hl => ?_)
  refine lv_aload_n hx hb dL_law_2291 rfl (lv_at hl 3 rfl) ?_
  refine g_arg (k0 := 1) (k4 := 5) (k := 1) X V hl rfl rfl (by omega) hL rfl 2292 dL_law_2292 dL_law_2293 dL_law_2295 dL_law_2296 dL_law_2297 ?_
  refine g_arg (k0 := 1) (k4 := 5) (k := 2) X V hl rfl rfl (by omega) hL rfl 2298 dL_law_2298 dL_law_2299 dL_law_2301 dL_law_2302 dL_law_2303 ?_
  refine g_callM (As := [.int (xs (i + 1)), .int (xs (i + 2))]) (rest := []) X V fG_parentAnew (c_parentAnew l N (xs (i + 1)) (xs (i + 2))) (by decide) 2304 dL_law_2304 rfl hl.1 rfl (Nat.le_of_ble_eq_true rfl) ⟨by omega, by omega⟩ hB (fun H2 locs2 V2 => ?_)
  have V2 : gV dC dI (g.1, g.2.1, cc2, cd2, ce2) h cZ a o s Z' H2 locs2 := V2
  exact g_tail (N := N) 2307 X V2 ⟨dL_law_2307, dL_law_2309, dL_law_2310, dL_law_2313, dL_law_2315, dL_law_2320, dL_law_2322, dL_law_2325, dL_law_2326, dL_law_2327, dL_law_2328, dL_law_2330, dL_law_2331, dL_law_2332, dL_law_2337⟩ (by decide) hl ⟨by omega, by omega⟩ ht hv (fun H3 locs3 ls3 V3 hl3 => kk cc2 cd2 ce2 H3 locs3 ls3 V3 hl3)
