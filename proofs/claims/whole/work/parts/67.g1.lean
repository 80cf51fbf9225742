theorem fW_move : gFw yL_move cL_move 6 [(0, 12, 15, 19), (0, 12, 19, 13)] 5 183 := ⟨kT_212, kT_213, kT_36, rfl, ⟨by decide +kernel, by decide +kernel, by decide +kernel⟩, by decide⟩
theorem fG_move : gFm yX10_move cX10_move 6 (some .int) 3 185 := ⟨kT_214, kT_215, kT_216, kM_197, rfl, ⟨by decide +kernel, by decide +kernel, by decide +kernel⟩, by decide⟩
set_option maxRecDepth 100000 in
set_option maxHeartbeats 4000000 in
theorem g_case_10 {p : Program} {l : Launch} {e : Env} {s : State} {m : MethodId} {below : List Frame} {meth : Method} {c : Code} {H : Heap} {locs : List Loc} {cells slots : Nat} {Q : State → Prop} {ls : Array Slot} {dC : Nat → ClassId} {dI : Nat → Nat → Nat} {g : kG} {cZ : ClassId} {h o bb L i N : Nat} {a : Nat → Nat} {xs : Nat → Int32} {Z Z' : gZ} (hlt : l.stackTraces = false) (hi : i + 7 ≤ L) (hL : L ≤ 3584) (X : gX p s m meth c bb L xs dC dI g.1 cZ) (V : gV dC dI g h cZ a o s Z H locs) (hl : lv_has ls 7 (gLv bb (g.2.1 0) h o i)) (hcs : cells + 16 ≤ 601024 ∧ slots + 512 ≤ 7293034) (hpf : gCmp lZi (lPg lZi (lE2 1 3) (pX9_move N (xs (i + 1)) (xs (i + 2)) (xs (i + 3)) Z.1) Z.2.2) (pf_move N (xs (i + 1)) (xs (i + 2)) (xs (i + 3)) Z.2.1) = some Z')
    (kk : ∀ (cc2 cd2 : Nat → Nat) (ce2 : Nat) (H1 : Heap) (locs1 : List Loc) (ls1 : Array Slot), gV dC dI (g.1, g.2.1, cc2, cd2, ce2) h cZ a o s Z' H1 locs1 → lv_has ls1 7 (gLv bb (g.2.1 0) h o i) → W p l e room_1 s m #[Value.ref bb] below meth c H1 locs1 (cells + 16) (slots + 512) Q (F0 m 3094 ls1 [])) :
    W p l e room_1 s m #[Value.ref bb] below meth c H locs cells slots Q (F0 m 993 ls []) := by
  obtain ⟨k, b9, hA, hB, ht, hv⟩ := gCmp_some hpf
  have hx := X.1
  have hb := X.2.1
  have hl : lv_has ls 7 [(0, .ref bb), (1, .ref (g.2.1 0)), (2, .ref h), (3, .ref o), (4, .int (nI i))] := hl
  refine lv_aload_n hx hb dL_law_993 rfl (lv_at hl 1 rfl) ?_
  refine g_arg (k0 := 0) (k4 := 4) (k := 1) X V hl rfl rfl (by omega) hL rfl 994 dL_law_994 dL_law_995 dL_law_997 dL_law_998 dL_law_999 ?_
  refine g_arg (k0 := 0) (k4 := 4) (k := 2) X V hl rfl rfl (by omega) hL rfl 1000 dL_law_1000 dL_law_1001 dL_law_1003 dL_law_1004 dL_law_1005 ?_
  refine g_arg (k0 := 0) (k4 := 4) (k := 3) X V hl rfl rfl (by omega) hL rfl 1006 dL_law_1006 dL_law_1007 dL_law_1009 dL_law_1010 dL_law_1011 ?_
  refine lv_aload_n hx hb dL_law_1012 rfl (lv_at hl 3 rfl) ?_
  refine g_callW (As := [.int (xs (i + 1)), .int (xs (i + 2)), .int (xs (i + 3))]) (rest := []) X V fW_move (w_move l hlt N (xs (i + 1)) (xs (i + 2)) (xs (i + 3))) (by decide) 1013 dL_law_1013 rfl hl.1 rfl (Nat.le_of_ble_eq_true rfl) ⟨by omega, by omega⟩ hA (fun cc2 cd2 ce2 H1 locs1 V => ?_)
  have V : gV dC dI (g.1, g.2.1, cc2, cd2, ce2) h cZ a o s (Z'.1, Z.2.1, Z'.2.2) H1 locs1 := V
  have X : gX p s m meth c bb L xs dC dI ((g.1, g.2.1, cc2, cd2, ce2) : kG).1 cZ := X
  refine W.widen (k := cells + 16) (n := slots + 512) (by omega) (by omega) ?_
  refine lv_istore (lv' := [(5, .int k), (0, .ref bb), (1, .ref (g.2.1 0)), (2, .ref h), (3, .ref o), (4, .int (nI i))]) hx hb dL_law_1016 hl (by decide) rfl (fun ls hl => ?_)
  refine lv_aload_n hx hb dL_law_1018 rfl (lv_at hl 3 rfl) ?_
  refine g_arg (k0 := 1) (k4 := 5) (k := 1) X V hl rfl rfl (by omega) hL rfl 1019 dL_law_1019 dL_law_1020 dL_law_1022 dL_law_1023 dL_law_1024 ?_
  refine g_arg (k0 := 1) (k4 := 5) (k := 2) X V hl rfl rfl (by omega) hL rfl 1025 dL_law_1025 dL_law_1026 dL_law_1028 dL_law_1029 dL_law_1030 ?_
  refine g_arg (k0 := 1) (k4 := 5) (k := 3) X V hl rfl rfl (by omega) hL rfl 1031 dL_law_1031 dL_law_1032 dL_law_1034 dL_law_1035 dL_law_1036 ?_
  refine g_callM (As := [.int (xs (i + 1)), .int (xs (i + 2)), .int (xs (i + 3))]) (rest := []) X V fG_move (c_move l N (xs (i + 1)) (xs (i + 2)) (xs (i + 3))) (by decide) 1037 dL_law_1037 rfl hl.1 rfl (Nat.le_of_ble_eq_true rfl) ⟨by omega, by omega⟩ hB (fun H2 locs2 V2 => ?_)
  have V2 : gV dC dI (g.1, g.2.1, cc2, cd2, ce2) h cZ a o s Z' H2 locs2 := V2
  exact g_tail (N := N) 1040 X V2 ⟨dL_law_1040, dL_law_1042, dL_law_1043, dL_law_1046, dL_law_1048, dL_law_1053, dL_law_1055, dL_law_1058, dL_law_1059, dL_law_1060, dL_law_1061, dL_law_1063, dL_law_1064, dL_law_1065, dL_law_1070⟩ (by decide) hl ⟨by omega, by omega⟩ ht hv (fun H3 locs3 ls3 V3 hl3 => kk cc2 cd2 ce2 H3 locs3 ls3 V3 hl3)
theorem fW_delete : gFw yL_delete cL_delete 5 [(0, 10, 13, 19), (0, 10, 17, 13)] 4 186 := ⟨kT_217, kT_218, kT_40, rfl, ⟨by decide +kernel, by decide +kernel, by decide +kernel⟩, by decide⟩
theorem fG_delete : gFm yX10_delete cX10_delete 4 (some .int) 2 188 := ⟨kT_219, kT_220, kT_221, kM_214, rfl, ⟨by decide +kernel, by decide +kernel, by decide +kernel⟩, by decide⟩
set_option maxRecDepth 100000 in
set_option maxHeartbeats 4000000 in
theorem g_case_11 {p : Program} {l : Launch} {e : Env} {s : State} {m : MethodId} {below : List Frame} {meth : Method} {c : Code} {H : Heap} {locs : List Loc} {cells slots : Nat} {Q : State → Prop} {ls : Array Slot} {dC : Nat → ClassId} {dI : Nat → Nat → Nat} {g : kG} {cZ : ClassId} {h o bb L i N : Nat} {a : Nat → Nat} {xs : Nat → Int32} {Z Z' : gZ} (hlt : l.stackTraces = false) (hi : i + 7 ≤ L) (hL : L ≤ 3584) (X : gX p s m meth c bb L xs dC dI g.1 cZ) (V : gV dC dI g h cZ a o s Z H locs) (hl : lv_has ls 7 (gLv bb (g.2.1 0) h o i)) (hcs : cells + 16 ≤ 601024 ∧ slots + 512 ≤ 7293034) (hpf : gCmp lZi (lPg lZi (lE2 1 3) (pX9_delete N (xs (i + 1)) (xs (i + 2)) Z.1) Z.2.2) (pf_delete N (xs (i + 1)) (xs (i + 2)) Z.2.1) = some Z')
    (kk : ∀ (cc2 cd2 : Nat → Nat) (ce2 : Nat) (H1 : Heap) (locs1 : List Loc) (ls1 : Array Slot), gV dC dI (g.1, g.2.1, cc2, cd2, ce2) h cZ a o s Z' H1 locs1 → lv_has ls1 7 (gLv bb (g.2.1 0) h o i) → W p l e room_1 s m #[Value.ref bb] below meth c H1 locs1 (cells + 16) (slots + 512) Q (F0 m 3094 ls1 [])) :
    W p l e room_1 s m #[Value.ref bb] below meth c H locs cells slots Q (F0 m 1073 ls []) := by
  obtain ⟨k, b9, hA, hB, ht, hv⟩ := gCmp_some hpf
  have hx := X.1
  have hb := X.2.1
  have hl : lv_has ls 7 [(0, .ref bb), (1, .ref (g.2.1 0)), (2, .ref h), (3, .ref o), (4, .int (nI i))] := hl
  refine lv_aload_n hx hb dL_law_1073 rfl (lv_at hl 1 rfl) ?_
  refine g_arg (k0 := 0) (k4 := 4) (k := 1) X V hl rfl rfl (by omega) hL rfl 1074 dL_law_1074 dL_law_1075 dL_law_1077 dL_law_1078 dL_law_1079 ?_
  refine g_arg (k0 := 0) (k4 := 4) (k := 2) X V hl rfl rfl (by omega) hL rfl 1080 dL_law_1080 dL_law_1081 dL_law_1083 dL_law_1084 dL_law_1085 ?_
  refine lv_aload_n hx hb dL_law_1086 rfl (lv_at hl 3 rfl) ?_
  refine g_callW (As := [.int (xs (i + 1)), .int (xs (i + 2))]) (rest := []) X V fW_delete (w_delete l hlt N (xs (i + 1)) (xs (i + 2))) (by decide) 1087 dL_law_1087 rfl hl.1 rfl (Nat.le_of_ble_eq_true rfl) ⟨by omega, by omega⟩ hA (fun cc2 cd2 ce2 H1 locs1 V => ?_)
  have V : gV dC dI (g.1, g.2.1, cc2, cd2, ce2) h cZ a o s (Z'.1, Z.2.1, Z'.2.2) H1 locs1 := V
  have X : gX p s m meth c bb L xs dC dI ((g.1, g.2.1, cc2, cd2, ce2) : kG).1 cZ := X
  refine W.widen (k := cells + 16) (n := slots + 512) (by omega) (by omega) ?_
  refine lv_istore (lv' := [(5, .int k), (0, .ref bb), (1, .ref (g.2.1 0)), (2, .ref h), (3, .ref o), (4, .int (nI i))]) hx hb dL_law_1090 hl (by decide) rfl (fun ls hl => ?_)
  refine lv_aload_n hx hb dL_law_1092 rfl (lv_at hl 3 rfl) ?_
  refine g_arg (k0 := 1) (k4 := 5) (k := 1) X V hl rfl rfl (by omega) hL rfl 1093 dL_law_1093 dL_law_1094 dL_law_1096 dL_law_1097 dL_law_1098 ?_
  refine g_arg (k0 := 1) (k4 := 5) (k := 2) X V hl rfl rfl (by omega) hL rfl 1099 dL_law_1099 dL_law_1100 dL_law_1102 dL_law_1103 dL_law_1104 ?_
  refine g_callM (As := [.int (xs (i + 1)), .int (xs (i + 2))]) (rest := []) X V fG_delete (c_delete l N (xs (i + 1)) (xs (i + 2))) (by decide) 1105 dL_law_1105 rfl hl.1 rfl (Nat.le_of_ble_eq_true rfl) ⟨by omega, by omega⟩ hB (fun H2 locs2 V2 => ?_)
  have V2 : gV dC dI (g.1, g.2.1, cc2, cd2, ce2) h cZ a o s Z' H2 locs2 := V2
  exact g_tail (N := N) 1108 X V2 ⟨dL_law_1108, dL_law_1110, dL_law_1111, dL_law_1114, dL_law_1116, dL_law_1121, dL_law_1123, dL_law_1126, dL_law_1127, dL_law_1128, dL_law_1129, dL_law_1131, dL_law_1132, dL_law_1133, dL_law_1138⟩ (by decide) hl ⟨by omega, by omega⟩ ht hv (fun H3 locs3 ls3 V3 hl3 => kk cc2 cd2 ce2 H3 locs3 ls3 V3 hl3)
theorem fW_link : gFw yL_link cL_link 6 [(0, 12, 15, 19), (0, 12, 19, 13)] 5 189 := ⟨kT_222, kT_223, kT_44, rfl, ⟨by decide +kernel, by decide +kernel, by decide +kernel⟩, by decide⟩
theorem fG_link : gFm yX10_link cX10_link 7 (some .int) 3 191 := ⟨kT_224, kT_225, kT_226, kM_215, rfl, ⟨by decide +kernel, by decide +kernel, by decide +kernel⟩, by decide⟩
set_option maxRecDepth 100000 in
set_option maxHeartbeats 4000000 in
theorem g_case_12 {p : Program} {l : Launch} {e : Env} {s : State} {m : MethodId} {below : List Frame} {meth : Method} {c : Code} {H : Heap} {locs : List Loc} {cells slots : Nat} {Q : State → Prop} {ls : Array Slot} {dC : Nat → ClassId} {dI : Nat → Nat → Nat} {g : kG} {cZ : ClassId} {h o bb L i N : Nat} {a : Nat → Nat} {xs : Nat → Int32} {Z Z' : gZ} (hlt : l.stackTraces = false) (hi : i + 7 ≤ L) (hL : L ≤ 3584) (X : gX p s m meth c bb L xs dC dI g.1 cZ) (V : gV dC dI g h cZ a o s Z H locs) (hl : lv_has ls 7 (gLv bb (g.2.1 0) h o i)) (hcs : cells + 16 ≤ 601024 ∧ slots + 512 ≤ 7293034) (hpf : gCmp lZi (lPg lZi (lE2 1 3) (pX9_link N (xs (i + 1)) (xs (i + 2)) (xs (i + 3)) Z.1) Z.2.2) (pf_link N (xs (i + 1)) (xs (i + 2)) (xs (i + 3)) Z.2.1) = some Z')
    (kk : ∀ (cc2 cd2 : Nat → Nat) (ce2 : Nat) (H1 : Heap) (locs1 : List Loc) (ls1 : Array Slot), gV dC dI (g.1, g.2.1, cc2, cd2, ce2) h cZ a o s Z' H1 locs1 → lv_has ls1 7 (gLv bb (g.2.1 0) h o i) → W p l e room_1 s m #[Value.ref bb] below meth c H1 locs1 (cells + 16) (slots + 512) Q (F0 m 3094 ls1 [])) :
    W p l e room_1 s m #[Value.ref bb] below meth c H locs cells slots Q (F0 m 1141 ls []) := by
  obtain ⟨k, b9, hA, hB, ht, hv⟩ := gCmp_some hpf
  have hx := X.1
  have hb := X.2.1
  have hl : lv_has ls 7 [(0, .ref bb), (1, .ref (g.2.1 0)), (2, .ref h), (3, .ref o), (4, .int (nI i))] := hl
  refine lv_aload_n hx hb dL_law_1141 rfl (lv_at hl 1 rfl) ?_
  refine g_arg (k0 := 0) (k4 := 4) (k := 1) X V hl rfl rfl (by omega) hL rfl 1142 dL_law_1142 dL_law_1143 dL_law_1145 dL_law_1146 dL_law_1147 ?_
  refine g_arg (k0 := 0) (k4 := 4) (k := 2) X V hl rfl rfl (by omega) hL rfl 1148 dL_law_1148 dL_law_1149 dL_law_1151 dL_law_1152 dL_law_1153 ?_
  refine g_arg (k0 := 0) (k4 := 4) (k := 3) X V hl rfl rfl (by omega) hL rfl 1154 dL_law_1154 dL_law_1155 dL_law_1157 dL_law_1158 dL_law_1159 ?_
  refine lv_aload_n hx hb dL_law_1160 rfl (lv_at hl 3 rfl) ?_
  refine g_callW (As := [.int (xs (i + 1)), .int (xs (i + 2)), .int (xs (i + 3))]) (rest := []) X V fW_link (w_link l hlt N (xs (i + 1)) (xs (i + 2)) (xs (i + 3))) (by decide) 1161 dL_law_1161 rfl hl.1 rfl (Nat.le_of_ble_eq_true rfl) ⟨by omega, by omega⟩ hA (fun cc2 cd2 ce2 H1 locs1 V => ?_)
  have V : gV dC dI (g.1, g.2.1, cc2, cd2, ce2) h cZ a o s (Z'.1, Z.2.1, Z'.2.2) H1 locs1 := V
  have X : gX p s m meth c bb L xs dC dI ((g.1, g.2.1, cc2, cd2, ce2) : kG).1 cZ := X
  refine W.widen (k := cells + 16) (n := slots + 512) (by omega) (by omega) ?_
  refine lv_istore (lv' := [(5, .int k), (0, .ref bb), (1, .ref (g.2.1 0)), (2, .ref h), (3, .ref o), (4, .int (nI i))]) hx hb dL_law_1164 hl (by decide) rfl (fun ls hl => ?_)
  refine lv_aload_n hx hb dL_law_1166 rfl (lv_at hl 3 rfl) ?_
  refine g_arg (k0 := 1) (k4 := 5) (k := 1) X V hl rfl rfl (by omega) hL rfl 1167 dL_law_1167 dL_law_1168 dL_law_1170 dL_law_1171 dL_law_1172 ?_
  refine g_arg (k0 := 1) (k4 := 5) (k := 2) X V hl rfl rfl (by omega) hL rfl 1173 dL_law_1173 dL_law_1174 dL_law_1176 dL_law_1177 dL_law_1178 ?_
  refine g_arg (k0 := 1) (k4 := 5) (k := 3) X V hl rfl rfl (by omega) hL rfl 1179 dL_law_1179 dL_law_1180 dL_law_1182 dL_law_1183 dL_law_1184 ?_
  refine g_callM (As := [.int (xs (i + 1)), .int (xs (i + 2)), .int (xs (i + 3))]) (rest := []) X V fG_link (c_link l N (xs (i + 1)) (xs (i + 2)) (xs (i + 3))) (by decide) 1185 dL_law_1185 rfl hl.1 rfl (Nat.le_of_ble_eq_true rfl) ⟨by omega, by omega⟩ hB (fun H2 locs2 V2 => ?_)
  have V2 : gV dC dI (g.1, g.2.1, cc2, cd2, ce2) h cZ a o s Z' H2 locs2 := V2
  exact g_tail (N := N) 1188 X V2 ⟨dL_law_1188, dL_law_1190, dL_law_1191, dL_law_1194, dL_law_1196, dL_law_1201, dL_law_1203, dL_law_1206, dL_law_1207, dL_law_1208, dL_law_1209, dL_law_1211, dL_law_1212, dL_law_1213, dL_law_1218⟩ (by decide) hl ⟨by omega, by omega⟩ ht hv (fun H3 locs3 ls3 V3 hl3 => kk cc2 cd2 ce2 H3 locs3 ls3 V3 hl3)
theorem fW_rule : gFw yL_rule cL_rule 9 [(0, 18, 21, 19), (0, 18, 25, 28), (0, 18, 29, 13)] 8 192 := ⟨kT_227, kT_228, kT_48, rfl, ⟨by decide +kernel, by decide +kernel, by decide +kernel⟩, by decide⟩
theorem fG_rule : gFm yX10_rule cX10_rule 10 (some .int) 6 195 := ⟨kT_229, kT_230, kT_231, kM_220, rfl, ⟨by decide +kernel, by decide +kernel, by decide +kernel⟩, by decide⟩
set_option maxRecDepth 100000 in
set_option maxHeartbeats 4000000 in
theorem g_case_13 {p : Program} {l : Launch} {e : Env} {s : State} {m : MethodId} {below : List Frame} {meth : Method} {c : Code} {H : Heap} {locs : List Loc} {cells slots : Nat} {Q : State → Prop} {ls : Array Slot} {dC : Nat → ClassId} {dI : Nat → Nat → Nat} {g : kG} {cZ : ClassId} {h o bb L i N : Nat} {a : Nat → Nat} {xs : Nat → Int32} {Z Z' : gZ} (hlt : l.stackTraces = false) (hi : i + 7 ≤ L) (hL : L ≤ 3584) (X : gX p s m meth c bb L xs dC dI g.1 cZ) (V : gV dC dI g h cZ a o s Z H locs) (hl : lv_has ls 7 (gLv bb (g.2.1 0) h o i)) (hcs : cells + 16 ≤ 601024 ∧ slots + 512 ≤ 7293034) (hpf : gCmp lZi (lPg lZi (lE3 1 2 3) (pX9_rule N (xs (i + 1)) (xs (i + 2)) (xs (i + 3)) (xs (i + 4)) (xs (i + 5)) (xs (i + 6)) Z.1) Z.2.2) (pf_rule N (xs (i + 1)) (xs (i + 2)) (xs (i + 3)) (xs (i + 4)) (xs (i + 5)) (xs (i + 6)) Z.2.1) = some Z')
    (kk : ∀ (cc2 cd2 : Nat → Nat) (ce2 : Nat) (H1 : Heap) (locs1 : List Loc) (ls1 : Array Slot), gV dC dI (g.1, g.2.1, cc2, cd2, ce2) h cZ a o s Z' H1 locs1 → lv_has ls1 7 (gLv bb (g.2.1 0) h o i) → W p l e room_1 s m #[Value.ref bb] below meth c H1 locs1 (cells + 16) (slots + 512) Q (F0 m 3094 ls1 [])) :
    W p l e room_1 s m #[Value.ref bb] below meth c H locs cells slots Q (F0 m 1221 ls []) := by
  obtain ⟨k, b9, hA, hB, ht, hv⟩ := gCmp_some hpf
  have hx := X.1
  have hb := X.2.1
  have hl : lv_has ls 7 [(0, .ref bb), (1, .ref (g.2.1 0)), (2, .ref h), (3, .ref o), (4, .int (nI i))] := hl
  refine lv_aload_n hx hb dL_law_1221 rfl (lv_at hl 1 rfl) ?_
  refine g_arg (k0 := 0) (k4 := 4) (k := 1) X V hl rfl rfl (by omega) hL rfl 1222 dL_law_1222 dL_law_1223 dL_law_1225 dL_law_1226 dL_law_1227 ?_
  refine g_arg (k0 := 0) (k4 := 4) (k := 2) X V hl rfl rfl (by omega) hL rfl 1228 dL_law_1228 dL_law_1229 dL_law_1231 dL_law_1232 dL_law_1233 ?_
  refine g_arg (k0 := 0) (k4 := 4) (k := 3) X V hl rfl rfl (by omega) hL rfl 1234 dL_law_1234 dL_law_1235 dL_law_1237 dL_law_1238 dL_law_1239 ?_
  refine g_arg (k0 := 0) (k4 := 4) (k := 4) X V hl rfl rfl (by omega) hL rfl 1240 dL_law_1240 dL_law_1241 dL_law_1243 dL_law_1244 dL_law_1245 ?_
  refine g_arg (k0 := 0) (k4 := 4) (k := 5) X V hl rfl rfl (by omega) hL rfl 1246 dL_law_1246 dL_law_1247 dL_law_1249 dL_law_1250 dL_law_1251 ?_
  refine g_arg6 (k0 := 0) (k4 := 4) (k := 6) X V hl rfl rfl (by omega) hL rfl 1252 dL_law_1252 dL_law_1253 dL_law_1255 dL_law_1257 dL_law_1258 ?_
  refine lv_aload_n hx hb dL_law_1259 rfl (lv_at hl 3 rfl) ?_
  refine g_callW (As := [.int (xs (i + 1)), .int (xs (i + 2)), .int (xs (i + 3)), .int (xs (i + 4)), .int (xs (i + 5)), .int (xs (i + 6))]) (rest := []) X V fW_rule (w_rule l hlt N (xs (i + 1)) (xs (i + 2)) (xs (i + 3)) (xs (i + 4)) (xs (i + 5)) (xs (i + 6))) (by decide) 1260 dL_law_1260 rfl hl.1 rfl (Nat.le_of_ble_eq_true rfl) ⟨by omega, by omega⟩ hA (fun cc2 cd2 ce2 H1 locs1 V => ?_)
  have V : gV dC dI (g.1, g.2.1, cc2, cd2, ce2) h cZ a o s (Z'.1, Z.2.1, Z'.2.2) H1 locs1 := V
  have X : gX p s m meth c bb L xs dC dI ((g.1, g.2.1, cc2, cd2, ce2) : kG).1 cZ := X
  refine W.widen (k := cells + 16) (n := slots + 512) (by omega) (by omega) ?_
  refine lv_istore (lv' := [(5, .int k), (0, .ref bb), (1, .ref (g.2.1 0)), (2, .ref h), (3, .ref o), (4, .int (nI i))]) hx hb dL_law_1263 hl (by decide) rfl (fun ls hl => ?_)
  refine lv_aload_n hx hb dL_law_1265 rfl (lv_at hl 3 rfl) ?_
  refine g_arg (k0 := 1) (k4 := 5) (k := 1) X V hl rfl rfl (by omega) hL rfl 1266 dL_law_1266 dL_law_1267 dL_law_1269 dL_law_1270 dL_law_1271 ?_
  refine g_arg (k0 := 1) (k4 := 5) (k := 2) X V hl rfl rfl (by omega) hL rfl 1272 dL_law_1272 dL_law_1273 dL_law_1275 dL_law_1276 dL_law_1277 ?_
  refine g_arg (k0 := 1) (k4 := 5) (k := 3) X V hl rfl rfl (by omega) hL rfl 1278 dL_law_1278 dL_law_1279 dL_law_1281 dL_law_1282 dL_law_1283 ?_
  refine g_arg (k0 := 1) (k4 := 5) (k := 4) X V hl rfl rfl (by omega) hL rfl 1284 dL_law_1284 dL_law_1285 dL_law_1287 dL_law_1288 dL_law_1289 ?_
  refine g_arg (k0 := 1) (k4 := 5) (k := 5) X V hl rfl rfl (by omega) hL rfl 1290 dL_law_1290 dL_law_1291 dL_law_1293 dL_law_1294 dL_law_1295 ?_
  refine g_arg6 (k0 := 1) (k4 := 5) (k := 6) X V hl rfl rfl (by omega) hL rfl 1296 dL_law_1296 dL_law_1297 dL_law_1299 dL_law_1301 dL_law_1302 ?_
  refine g_callM (As := [.int (xs (i + 1)), .int (xs (i + 2)), .int (xs (i + 3)), .int (xs (i + 4)), .int (xs (i + 5)), .int (xs (i + 6))]) (rest := []) X V fG_rule (c_rule l N (xs (i + 1)) (xs (i + 2)) (xs (i + 3)) (xs (i + 4)) (xs (i + 5)) (xs (i + 6))) (by decide) 1303 dL_law_1303 rfl hl.1 rfl (Nat.le_of_ble_eq_true rfl) ⟨by omega, by omega⟩ hB (fun H2 locs2 V2 => ?_)
  have V2 : gV dC dI (g.1, g.2.1, cc2, cd2, ce2) h cZ a o s Z' H2 locs2 := V2
  exact g_tail (N := N) 1306 X V2 ⟨dL_law_1306, dL_law_1308, dL_law_1309, dL_law_1312, dL_law_1314, dL_law_1319, dL_law_1321, dL_law_1324, dL_law_1325, dL_law_1326, dL_law_1327, dL_law_1329, dL_law_1330, dL_law_1331, dL_law_1336⟩ (by decide) hl ⟨by omega, by omega⟩ ht hv (fun H3 locs3 ls3 V3 hl3 => kk cc2 cd2 ce2 H3 locs3 ls3 V3 hl3)
theorem fW_exchange : gFw yL_exchange cL_exchange 6 [(0, 12, 15, 19), (0, 12, 19, 28)] 5 196 := ⟨kT_232, kT_233, kT_52, rfl, ⟨by decide +kernel, by decide +kernel, by decide +kernel⟩, by decide⟩
theorem fG_exchange : gFm yX10_exchange cX10_exchange 7 (some .int) 3 198 := ⟨kT_234, kT_235, kT_236, kM_221, rfl, ⟨by decide +kernel, by decide +kernel, by decide +kernel⟩, by decide⟩
set_option maxRecDepth 100000 in
set_option maxHeartbeats 4000000 in
theorem g_case_14 {p : Program} {l : Launch} {e : Env} {s : State} {m : MethodId} {below : List Frame} {meth : Method} {c : Code} {H : Heap} {locs : List Loc} {cells slots : Nat} {Q : State → Prop} {ls : Array Slot} {dC : Nat → ClassId} {dI : Nat → Nat → Nat} {g : kG} {cZ : ClassId} {h o bb L i N : Nat} {a : Nat → Nat} {xs : Nat → Int32} {Z Z' : gZ} (hlt : l.stackTraces = false) (hi : i + 7 ≤ L) (hL : L ≤ 3584) (X : gX p s m meth c bb L xs dC dI g.1 cZ) (V : gV dC dI g h cZ a o s Z H locs) (hl : lv_has ls 7 (gLv bb (g.2.1 0) h o i)) (hcs : cells + 16 ≤ 601024 ∧ slots + 512 ≤ 7293034) (hpf : gCmp lZi (lPg lZi (lE2 1 2) (pX9_exchange N (xs (i + 1)) (xs (i + 2)) (xs (i + 3)) Z.1) Z.2.2) (pf_exchange N (xs (i + 1)) (xs (i + 2)) (xs (i + 3)) Z.2.1) = some Z')
    (kk : ∀ (cc2 cd2 : Nat → Nat) (ce2 : Nat) (H1 : Heap) (locs1 : List Loc) (ls1 : Array Slot), gV dC dI (g.1, g.2.1, cc2, cd2, ce2) h cZ a o s Z' H1 locs1 → lv_has ls1 7 (gLv bb (g.2.1 0) h o i) → W p l e room_1 s m #[Value.ref bb] below meth c H1 locs1 (cells + 16) (slots + 512) Q (F0 m 3094 ls1 [])) :
    W p l e room_1 s m #[Value.ref bb] below meth c H locs cells slots Q (F0 m 1339 ls []) := by
  obtain ⟨k, b9, hA, hB, ht, hv⟩ := gCmp_some hpf
  have hx := X.1
  have hb := X.2.1
  have hl : lv_has ls 7 [(0, .ref bb), (1, .ref (g.2.1 0)), (2, .ref h), (3, .ref o), (4, .int (nI i))] := hl
  refine lv_aload_n hx hb dL_law_1339 rfl (lv_at hl 1 rfl) ?_
  refine g_arg (k0 := 0) (k4 := 4) (k := 1) X V hl rfl rfl (by omega) hL rfl 1340 dL_law_1340 dL_law_1341 dL_law_1343 dL_law_1344 dL_law_1345 ?_
  refine g_arg (k0 := 0) (k4 := 4) (k := 2) X V hl rfl rfl (by omega) hL rfl 1346 dL_law_1346 dL_law_1347 dL_law_1349 dL_law_1350 dL_law_1351 ?_
  refine g_arg (k0 := 0) (k4 := 4) (k := 3) X V hl rfl rfl (by omega) hL rfl 1352 dL_law_1352 dL_law_1353 dL_law_1355 dL_law_1356 dL_law_1357 ?_
  refine lv_aload_n hx hb dL_law_1358 rfl (lv_at hl 3 rfl) ?_
  refine g_callW (As := [.int (xs (i + 1)), .int (xs (i + 2)), .int (xs (i + 3))]) (rest := []) X V fW_exchange (w_exchange l hlt N (xs (i + 1)) (xs (i + 2)) (xs (i + 3))) (by decide) 1359 dL_law_1359 rfl hl.1 rfl (Nat.le_of_ble_eq_true rfl) ⟨by omega, by omega⟩ hA (fun cc2 cd2 ce2 H1 locs1 V => ?_)
  have V : gV dC dI (g.1, g.2.1, cc2, cd2, ce2) h cZ a o s (Z'.1, Z.2.1, Z'.2.2) H1 locs1 := V
  have X : gX p s m meth c bb L xs dC dI ((g.1, g.2.1, cc2, cd2, ce2) : kG).1 cZ := X
  refine W.widen (k := cells + 16) (n := slots + 512) (by omega) (by omega) ?_
  refine lv_istore (lv' := [(5, .int k), (0, .ref bb), (1, .ref (g.2.1 0)), (2, .ref h), (3, .ref o), (4, .int (nI i))]) hx hb dL_law_1362 hl (by decide) rfl (fun ls hl => ?_)
  refine lv_aload_n hx hb dL_law_1364 rfl (lv_at hl 3 rfl) ?_
  refine g_arg (k0 := 1) (k4 := 5) (k := 1) X V hl rfl rfl (by omega) hL rfl 1365 dL_law_1365 dL_law_1366 dL_law_1368 dL_law_1369 dL_law_1370 ?_
  refine g_arg (k0 := 1) (k4 := 5) (k := 2) X V hl rfl rfl (by omega) hL rfl 1371 dL_law_1371 dL_law_1372 dL_law_1374 dL_law_1375 dL_law_1376 ?_
  refine g_arg (k0 := 1) (k4 := 5) (k := 3) X V hl rfl rfl (by omega) hL rfl 1377 dL_law_1377 dL_law_1378 dL_law_1380 dL_law_1381 dL_law_1382 ?_
  refine g_callM (As := [.int (xs (i + 1)), .int (xs (i + 2)), .int (xs (i + 3))]) (rest := []) X V fG_exchange (c_exchange l N (xs (i + 1)) (xs (i + 2)) (xs (i + 3))) (by decide) 1383 dL_law_1383 rfl hl.1 rfl (Nat.le_of_ble_eq_true rfl) ⟨by omega, by omega⟩ hB (fun H2 locs2 V2 => ?_)
  have V2 : gV dC dI (g.1, g.2.1, cc2, cd2, ce2) h cZ a o s Z' H2 locs2 := V2
  exact g_tail (N := N) 1386 X V2 ⟨dL_law_1386, dL_law_1388, dL_law_1389, dL_law_1392, dL_law_1394, dL_law_1399, dL_law_1401, dL_law_1404, dL_law_1405, dL_law_1406, dL_law_1407, dL_law_1409, dL_law_1410, dL_law_1411, dL_law_1416⟩ (by decide) hl ⟨by omega, by omega⟩ ht hv (fun H3 locs3 ls3 V3 hl3 => kk cc2 cd2 ce2 H3 locs3 ls3 V3 hl3)
theorem fW_sweep : gFw yL_sweep cL_sweep 4 [(0, 9, 12, 19)] 3 199 := ⟨kT_237, kT_238, kT_56, rfl, ⟨by decide +kernel, by decide +kernel, by decide +kernel⟩, by decide⟩
theorem fG_sweep : gFm yX10_sweep cX10_sweep 5 (some .int) 1 202 := ⟨kT_239, kT_240, kT_241, kM_222, rfl, ⟨by decide +kernel, by decide +kernel, by decide +kernel⟩, by decide⟩
set_option maxRecDepth 100000 in
set_option maxHeartbeats 4000000 in
theorem g_case_15 {p : Program} {l : Launch} {e : Env} {s : State} {m : MethodId} {below : List Frame} {meth : Method} {c : Code} {H : Heap} {locs : List Loc} {cells slots : Nat} {Q : State → Prop} {ls : Array Slot} {dC : Nat → ClassId} {dI : Nat → Nat → Nat} {g : kG} {cZ : ClassId} {h o bb L i N : Nat} {a : Nat → Nat} {xs : Nat → Int32} {Z Z' : gZ} (hlt : l.stackTraces = false) (hi : i + 7 ≤ L) (hL : L ≤ 3584) (X : gX p s m meth c bb L xs dC dI g.1 cZ) (V : gV dC dI g h cZ a o s Z H locs) (hl : lv_has ls 7 (gLv bb (g.2.1 0) h o i)) (hcs : cells + 16 ≤ 601024 ∧ slots + 512 ≤ 7293034) (hpf : gCmp lZi (lPg lZi (lE1 1) (pX9_sweep N (xs (i + 1)) Z.1) Z.2.2) (pf_sweep N (xs (i + 1)) Z.2.1) = some Z')
    (kk : ∀ (cc2 cd2 : Nat → Nat) (ce2 : Nat) (H1 : Heap) (locs1 : List Loc) (ls1 : Array Slot), gV dC dI (g.1, g.2.1, cc2, cd2, ce2) h cZ a o s Z' H1 locs1 → lv_has ls1 7 (gLv bb (g.2.1 0) h o i) → W p l e room_1 s m #[Value.ref bb] below meth c H1 locs1 (cells + 16) (slots + 512) Q (F0 m 3094 ls1 [])) :
    W p l e room_1 s m #[Value.ref bb] below meth c H locs cells slots Q (F0 m 1419 ls []) := by
  obtain ⟨k, b9, hA, hB, ht, hv⟩ := gCmp_some hpf
  have hx := X.1
  have hb := X.2.1
  have hl : lv_has ls 7 [(0, .ref bb), (1, .ref (g.2.1 0)), (2, .ref h), (3, .ref o), (4, .int (nI i))] := hl
  refine lv_aload_n hx hb dL_law_1419 rfl (lv_at hl 1 rfl) ?_
  refine g_arg (k0 := 0) (k4 := 4) (k := 1) X V hl rfl rfl (by omega) hL rfl 1420 dL_law_1420 dL_law_1421 dL_law_1423 dL_law_1424 dL_law_1425 ?_
  refine lv_aload_n hx hb dL_law_1426 rfl (lv_at hl 3 rfl) ?_
  refine g_callW (As := [.int (xs (i + 1))]) (rest := []) X V fW_sweep (w_sweep l hlt N (xs (i + 1))) (by decide) 1427 dL_law_1427 rfl hl.1 rfl (Nat.le_of_ble_eq_true rfl) ⟨by omega, by omega⟩ hA (fun cc2 cd2 ce2 H1 locs1 V => ?_)
  have V : gV dC dI (g.1, g.2.1, cc2, cd2, ce2) h cZ a o s (Z'.1, Z.2.1, Z'.2.2) H1 locs1 := V
  have X : gX p s m meth c bb L xs dC dI ((g.1, g.2.1, cc2, cd2, ce2) : kG).1 cZ := X
  refine W.widen (k := cells + 16) (n := slots + 512) (by omega) (by omega) ?_
  refine lv_istore (lv' := [(5, .int k), (0, .ref bb), (1, .ref (g.2.1 0)), (2, .ref h), (3, .ref o), (4, .int (nI i))]) hx hb dL_law_1430 hl (by decide) rfl (fun ls hl => ?_)
  refine lv_aload_n hx hb dL_law_1432 rfl (lv_at hl 3 rfl) ?_
  refine g_arg (k0 := 1) (k4 := 5) (k := 1) X V hl rfl rfl (by omega) hL rfl 1433 dL_law_1433 dL_law_1434 dL_law_1436 dL_law_1437 dL_law_1438 ?_
  refine g_callM (As := [.int (xs (i + 1))]) (rest := []) X V fG_sweep (c_sweep l N (xs (i + 1))) (by decide) 1439 dL_law_1439 rfl hl.1 rfl (Nat.le_of_ble_eq_true rfl) ⟨by omega, by omega⟩ hB (fun H2 locs2 V2 => ?_)
  have V2 : gV dC dI (g.1, g.2.1, cc2, cd2, ce2) h cZ a o s Z' H2 locs2 := V2
  exact g_tail (N := N) 1442 X V2 ⟨dL_law_1442, dL_law_1444, dL_law_1445, dL_law_1448, dL_law_1450, dL_law_1455, dL_law_1457, dL_law_1460, dL_law_1461, dL_law_1462, dL_law_1463, dL_law_1465, dL_law_1466, dL_law_1467, dL_law_1472⟩ (by decide) hl ⟨by omega, by omega⟩ ht hv (fun H3 locs3 ls3 V3 hl3 => kk cc2 cd2 ce2 H3 locs3 ls3 V3 hl3)
theorem fW_equal : gFw yL_equal cL_equal 5 [(0, 10, 13, 19), (0, 10, 17, 28), (0, 10, 21, 13)] 4 203 := ⟨kT_242, kT_243, kT_60, rfl, ⟨by decide +kernel, by decide +kernel, by decide +kernel⟩, by decide⟩
theorem fG_equal : gFm yX10_equal cX10_equal 3 (some .int) 2 205 := ⟨kT_244, kT_245, kT_246, kM_233, rfl, ⟨by decide +kernel, by decide +kernel, by decide +kernel⟩, by decide⟩
set_option maxRecDepth 100000 in
set_option maxHeartbeats 4000000 in
theorem g_case_16 {p : Program} {l : Launch} {e : Env} {s : State} {m : MethodId} {below : List Frame} {meth : Method} {c : Code} {H : Heap} {locs : List Loc} {cells slots : Nat} {Q : State → Prop} {ls : Array Slot} {dC : Nat → ClassId} {dI : Nat → Nat → Nat} {g : kG} {cZ : ClassId} {h o bb L i N : Nat} {a : Nat → Nat} {xs : Nat → Int32} {Z Z' : gZ} (hlt : l.stackTraces = false) (hi : i + 7 ≤ L) (hL : L ≤ 3584) (X : gX p s m meth c bb L xs dC dI g.1 cZ) (V : gV dC dI g h cZ a o s Z H locs) (hl : lv_has ls 7 (gLv bb (g.2.1 0) h o i)) (hcs : cells + 16 ≤ 601024 ∧ slots + 512 ≤ 7293034) (hpf : gCmp lZi (lPg lZi (lE3 1 2 3) (pX9_equal N (xs (i + 1)) (xs (i + 2)) Z.1) Z.2.2) (pf_equal N (xs (i + 1)) (xs (i + 2)) Z.2.1) = some Z')
    (kk : ∀ (cc2 cd2 : Nat → Nat) (ce2 : Nat) (H1 : Heap) (locs1 : List Loc) (ls1 : Array Slot), gV dC dI (g.1, g.2.1, cc2, cd2, ce2) h cZ a o s Z' H1 locs1 → lv_has ls1 7 (gLv bb (g.2.1 0) h o i) → W p l e room_1 s m #[Value.ref bb] below meth c H1 locs1 (cells + 16) (slots + 512) Q (F0 m 3094 ls1 [])) :
    W p l e room_1 s m #[Value.ref bb] below meth c H locs cells slots Q (F0 m 1475 ls []) := by
  obtain ⟨k, b9, hA, hB, ht, hv⟩ := gCmp_some hpf
  have hx := X.1
  have hb := X.2.1
  have hl : lv_has ls 7 [(0, .ref bb), (1, .ref (g.2.1 0)), (2, .ref h), (3, .ref o), (4, .int (nI i))] := hl
  refine lv_aload_n hx hb dL_law_1475 rfl (lv_at hl 1 rfl) ?_
  refine g_arg (k0 := 0) (k4 := 4) (k := 1) X V hl rfl rfl (by omega) hL rfl 1476 dL_law_1476 dL_law_1477 dL_law_1479 dL_law_1480 dL_law_1481 ?_
  refine g_arg (k0 := 0) (k4 := 4) (k := 2) X V hl rfl rfl (by omega) hL rfl 1482 dL_law_1482 dL_law_1483 dL_law_1485 dL_law_1486 dL_law_1487 ?_
  refine lv_aload_n hx hb dL_law_1488 rfl (lv_at hl 3 rfl) ?_
  refine g_callW (As := [.int (xs (i + 1)), .int (xs (i + 2))]) (rest := []) X V fW_equal (w_equal l hlt N (xs (i + 1)) (xs (i + 2))) (by decide) 1489 dL_law_1489 rfl hl.1 rfl (Nat.le_of_ble_eq_true rfl) ⟨by omega, by omega⟩ hA (fun cc2 cd2 ce2 H1 locs1 V => ?_)
  have V : gV dC dI (g.1, g.2.1, cc2, cd2, ce2) h cZ a o s (Z'.1, Z.2.1, Z'.2.2) H1 locs1 := V
  have X : gX p s m meth c bb L xs dC dI ((g.1, g.2.1, cc2, cd2, ce2) : kG).1 cZ := X
  refine W.widen (k := cells + 16) (n := slots + 512) (by omega) (by omega) ?_
  refine lv_istore (lv' := [(5, .int k), (0, .ref bb), (1, .ref (g.2.1 0)), (2, .ref h), (3, .ref o), (4, .int (nI i))]) hx hb dL_law_1492 hl (by decide) rfl (fun ls hl => ?_)
  refine lv_aload_n hx hb dL_law_1494 rfl (lv_at hl 3 rfl) ?_
  refine g_arg (k0 := 1) (k4 := 5) (k := 1) X V hl rfl rfl (by omega) hL rfl 1495 dL_law_1495 dL_law_1496 dL_law_1498 dL_law_1499 dL_law_1500 ?_
  refine g_arg (k0 := 1) (k4 := 5) (k := 2) X V hl rfl rfl (by omega) hL rfl 1501 dL_law_1501 dL_law_1502 dL_law_1504 dL_law_1505 dL_law_1506 ?_
  refine g_callM (As := [.int (xs (i + 1)), .int (xs (i + 2))]) (rest := []) X V fG_equal (c_equal l N (xs (i + 1)) (xs (i + 2))) (by decide) 1507 dL_law_1507 rfl hl.1 rfl (Nat.le_of_ble_eq_true rfl) ⟨by omega, by omega⟩ hB (fun H2 locs2 V2 => ?_)
  have V2 : gV dC dI (g.1, g.2.1, cc2, cd2, ce2) h cZ a o s Z' H2 locs2 := V2
  exact g_tail (N := N) 1510 X V2 ⟨dL_law_1510, dL_law_1512, dL_law_1513, dL_law_1516, dL_law_1518, dL_law_1523, dL_law_1525, dL_law_1528, dL_law_1529, dL_law_1530, dL_law_1531, dL_law_1533, dL_law_1534, dL_law_1535, dL_law_1540⟩ (by decide) hl ⟨by omega, by omega⟩ ht hv (fun H3 locs3 ls3 V3 hl3 => kk cc2 cd2 ce2 H3 locs3 ls3 V3 hl3)
theorem fW_atLeast : gFw yL_atLeast cL_atLeast 5 [(0, 10, 13, 19), (0, 10, 17, 28), (0, 10, 21, 13)] 4 206 := ⟨kT_247, kT_248, kT_64, rfl, ⟨by decide +kernel, by decide +kernel, by decide +kernel⟩, by decide⟩
theorem fG_atLeast : gFm yX10_atLeast cX10_atLeast 3 (some .int) 2 208 := ⟨kT_249, kT_250, kT_251, kM_234, rfl, ⟨by decide +kernel, by decide +kernel, by decide +kernel⟩, by decide⟩
set_option maxRecDepth 100000 in
set_option maxHeartbeats 4000000 in
theorem g_case_17 {p : Program} {l : Launch} {e : Env} {s : State} {m : MethodId} {below : List Frame} {meth : Method} {c : Code} {H : Heap} {locs : List Loc} {cells slots : Nat} {Q : State → Prop} {ls : Array Slot} {dC : Nat → ClassId} {dI : Nat → Nat → Nat} {g : kG} {cZ : ClassId} {h o bb L i N : Nat} {a : Nat → Nat} {xs : Nat → Int32} {Z Z' : gZ} (hlt : l.stackTraces = false) (hi : i + 7 ≤ L) (hL : L ≤ 3584) (X : gX p s m meth c bb L xs dC dI g.1 cZ) (V : gV dC dI g h cZ a o s Z H locs) (hl : lv_has ls 7 (gLv bb (g.2.1 0) h o i)) (hcs : cells + 16 ≤ 601024 ∧ slots + 512 ≤ 7293034) (hpf : gCmp lZi (lPg lZi (lE3 1 2 3) (pX9_atLeast N (xs (i + 1)) (xs (i + 2)) Z.1) Z.2.2) (pf_atLeast N (xs (i + 1)) (xs (i + 2)) Z.2.1) = some Z')
    (kk : ∀ (cc2 cd2 : Nat → Nat) (ce2 : Nat) (H1 : Heap) (locs1 : List Loc) (ls1 : Array Slot), gV dC dI (g.1, g.2.1, cc2, cd2, ce2) h cZ a o s Z' H1 locs1 → lv_has ls1 7 (gLv bb (g.2.1 0) h o i) → W p l e room_1 s m #[Value.ref bb] below meth c H1 locs1 (cells + 16) (slots + 512) Q (F0 m 3094 ls1 [])) :
    W p l e room_1 s m #[Value.ref bb] below meth c H locs cells slots Q (F0 m 1543 ls []) := by
  obtain ⟨k, b9, hA, hB, ht, hv⟩ := gCmp_some hpf
  have hx := X.1
  have hb := X.2.1
  have hl : lv_has ls 7 [(0, .ref bb), (1, .ref (g.2.1 0)), (2, .ref h), (3, .ref o), (4, .int (nI i))] := hl
  refine lv_aload_n hx hb dL_law_1543 rfl (lv_at hl 1 rfl) ?_
  refine g_arg (k0 := 0) (k4 := 4) (k := 1) X V hl rfl rfl (by omega) hL rfl 1544 dL_law_1544 dL_law_1545 dL_law_1547 dL_law_1548 dL_law_1549 ?_
  refine g_arg (k0 := 0) (k4 := 4) (k := 2) X V hl rfl rfl (by omega) hL rfl 1550 dL_law_1550 dL_law_1551 dL_law_1553 dL_law_1554 dL_law_1555 ?_
  refine lv_aload_n hx hb dL_law_1556 rfl (lv_at hl 3 rfl) ?_
  refine g_callW (As := [.int (xs (i + 1)), .int (xs (i + 2))]) (rest := []) X V fW_atLeast (w_atLeast l hlt N (xs (i + 1)) (xs (i + 2))) (by decide) 1557 dL_law_1557 rfl hl.1 rfl (Nat.le_of_ble_eq_true rfl) ⟨by omega, by omega⟩ hA (fun cc2 cd2 ce2 H1 locs1 V => ?_)
  have V : gV dC dI (g.1, g.2.1, cc2, cd2, ce2) h cZ a o s (Z'.1, Z.2.1, Z'.2.2) H1 locs1 := V
  have X : gX p s m meth c bb L xs dC dI ((g.1, g.2.1, cc2, cd2, ce2) : kG).1 cZ := X
  refine W.widen (k := cells + 16) (n := slots + 512) (by omega) (by omega) ?_
  refine lv_istore (lv' := [(5, .int k), (0, .ref bb), (1, .ref (g.2.1 0)), (2, .ref h), (3, .ref o), (4, .int (nI i))]) hx hb dL_law_1560 hl (by decide) rfl (fun ls hl => ?_)
  refine lv_aload_n hx hb dL_law_1562 rfl (lv_at hl 3 rfl) ?_
  refine g_arg (k0 := 1) (k4 := 5) (k := 1) X V hl rfl rfl (by omega) hL rfl 1563 dL_law_1563 dL_law_1564 dL_law_1566 dL_law_1567 dL_law_1568 ?_
  refine g_arg (k0 := 1) (k4 := 5) (k := 2) X V hl rfl rfl (by omega) hL rfl 1569 dL_law_1569 dL_law_1570 dL_law_1572 dL_law_1573 dL_law_1574 ?_
  refine g_callM (As := [.int (xs (i + 1)), .int (xs (i + 2))]) (rest := []) X V fG_atLeast (c_atLeast l N (xs (i + 1)) (xs (i + 2))) (by decide) 1575 dL_law_1575 rfl hl.1 rfl (Nat.le_of_ble_eq_true rfl) ⟨by omega, by omega⟩ hB (fun H2 locs2 V2 => ?_)
  have V2 : gV dC dI (g.1, g.2.1, cc2, cd2, ce2) h cZ a o s Z' H2 locs2 := V2
  exact g_tail (N := N) 1578 X V2 ⟨dL_law_1578, dL_law_1580, dL_law_1581, dL_law_1584, dL_law_1586, dL_law_1591, dL_law_1593, dL_law_1596, dL_law_1597, dL_law_1598, dL_law_1599, dL_law_1601, dL_law_1602, dL_law_1603, dL_law_1608⟩ (by decide) hl ⟨by omega, by omega⟩ ht hv (fun H3 locs3 ls3 V3 hl3 => kk cc2 cd2 ce2 H3 locs3 ls3 V3 hl3)
theorem fW_has : gFw yL_has cL_has 4 [(0, 9, 12, 19), (0, 9, 15, 13)] 3 209 := ⟨kT_252, kT_253, kT_68, rfl, ⟨by decide +kernel, by decide +kernel, by decide +kernel⟩, by decide⟩
theorem fG_has : gFm yX10_has cX10_has 2 (some .int) 1 211 := ⟨kT_254, kT_255, kT_256, kM_235, rfl, ⟨by decide +kernel, by decide +kernel, by decide +kernel⟩, by decide⟩
set_option maxRecDepth 100000 in
set_option maxHeartbeats 4000000 in
theorem g_case_18 {p : Program} {l : Launch} {e : Env} {s : State} {m : MethodId} {below : List Frame} {meth : Method} {c : Code} {H : Heap} {locs : List Loc} {cells slots : Nat} {Q : State → Prop} {ls : Array Slot} {dC : Nat → ClassId} {dI : Nat → Nat → Nat} {g : kG} {cZ : ClassId} {h o bb L i N : Nat} {a : Nat → Nat} {xs : Nat → Int32} {Z Z' : gZ} (hlt : l.stackTraces = false) (hi : i + 7 ≤ L) (hL : L ≤ 3584) (X : gX p s m meth c bb L xs dC dI g.1 cZ) (V : gV dC dI g h cZ a o s Z H locs) (hl : lv_has ls 7 (gLv bb (g.2.1 0) h o i)) (hcs : cells + 16 ≤ 601024 ∧ slots + 512 ≤ 7293034) (hpf : gCmp lZi (lPg lZi (lE2 1 3) (pX9_has N (xs (i + 1)) Z.1) Z.2.2) (pf_has N (xs (i + 1)) Z.2.1) = some Z')
    (kk : ∀ (cc2 cd2 : Nat → Nat) (ce2 : Nat) (H1 : Heap) (locs1 : List Loc) (ls1 : Array Slot), gV dC dI (g.1, g.2.1, cc2, cd2, ce2) h cZ a o s Z' H1 locs1 → lv_has ls1 7 (gLv bb (g.2.1 0) h o i) → W p l e room_1 s m #[Value.ref bb] below meth c H1 locs1 (cells + 16) (slots + 512) Q (F0 m 3094 ls1 [])) :
    W p l e room_1 s m #[Value.ref bb] below meth c H locs cells slots Q (F0 m 1611 ls []) := by
  obtain ⟨k, b9, hA, hB, ht, hv⟩ := gCmp_some hpf
  have hx := X.1
  have hb := X.2.1
  have hl : lv_has ls 7 [(0, .ref bb), (1, .ref (g.2.1 0)), (2, .ref h), (3, .ref o), (4, .int (nI i))] := hl
  refine lv_aload_n hx hb dL_law_1611 rfl (lv_at hl 1 rfl) ?_
  refine g_arg (k0 := 0) (k4 := 4) (k := 1) X V hl rfl rfl (by omega) hL rfl 1612 dL_law_1612 dL_law_1613 dL_law_1615 dL_law_1616 dL_law_1617 ?_
  refine lv_aload_n hx hb dL_law_1618 rfl (lv_at hl 3 rfl) ?_
  refine g_callW (As := [.int (xs (i + 1))]) (rest := []) X V fW_has (w_has l hlt N (xs (i + 1))) (by decide) 1619 dL_law_1619 rfl hl.1 rfl (Nat.le_of_ble_eq_true rfl) ⟨by omega, by omega⟩ hA (fun cc2 cd2 ce2 H1 locs1 V => ?_)
  have V : gV dC dI (g.1, g.2.1, cc2, cd2, ce2) h cZ a o s (Z'.1, Z.2.1, Z'.2.2) H1 locs1 := V
  have X : gX p s m meth c bb L xs dC dI ((g.1, g.2.1, cc2, cd2, ce2) : kG).1 cZ := X
  refine W.widen (k := cells + 16) (n := slots + 512) (by omega) (by omega) ?_
  refine lv_istore (lv' := [(5, .int k), (0, .ref bb), (1, .ref (g.2.1 0)), (2, .ref h), (3, .ref o), (4, .int (nI i))]) hx hb dL_law_1622 hl (by decide) rfl (fun ls hl => ?_)
  refine lv_aload_n hx hb dL_law_1624 rfl (lv_at hl 3 rfl) ?_
  refine g_arg (k0 := 1) (k4 := 5) (k := 1) X V hl rfl rfl (by omega) hL rfl 1625 dL_law_1625 dL_law_1626 dL_law_1628 dL_law_1629 dL_law_1630 ?_
  refine g_callM (As := [.int (xs (i + 1))]) (rest := []) X V fG_has (c_has l N (xs (i + 1))) (by decide) 1631 dL_law_1631 rfl hl.1 rfl (Nat.le_of_ble_eq_true rfl) ⟨by omega, by omega⟩ hB (fun H2 locs2 V2 => ?_)
  have V2 : gV dC dI (g.1, g.2.1, cc2, cd2, ce2) h cZ a o s Z' H2 locs2 := V2
  exact g_tail (N := N) 1634 X V2 ⟨dL_law_1634, dL_law_1636, dL_law_1637, dL_law_1640, dL_law_1642, dL_law_1647, dL_law_1649, dL_law_1652, dL_law_1653, dL_law_1654, dL_law_1655, dL_law_1657, dL_law_1658, dL_law_1659, dL_law_1664⟩ (by decide) hl ⟨by omega, by omega⟩ ht hv (fun H3 locs3 ls3 V3 hl3 => kk cc2 cd2 ce2 H3 locs3 ls3 V3 hl3)
theorem fW_ofClass : gFw yL_ofClass cL_ofClass 4 [(0, 9, 12, 19), (0, 9, 15, 13)] 3 212 := ⟨kT_257, kT_258, kT_72, rfl, ⟨by decide +kernel, by decide +kernel, by decide +kernel⟩, by decide⟩
theorem fG_ofClass : gFm yX10_ofClass cX10_ofClass 2 (some .int) 1 214 := ⟨kT_259, kT_260, kT_261, kM_236, rfl, ⟨by decide +kernel, by decide +kernel, by decide +kernel⟩, by decide⟩
set_option maxRecDepth 100000 in
set_option maxHeartbeats 4000000 in
theorem g_case_19 {p : Program} {l : Launch} {e : Env} {s : State} {m : MethodId} {below : List Frame} {meth : Method} {c : Code} {H : Heap} {locs : List Loc} {cells slots : Nat} {Q : State → Prop} {ls : Array Slot} {dC : Nat → ClassId} {dI : Nat → Nat → Nat} {g : kG} {cZ : ClassId} {h o bb L i N : Nat} {a : Nat → Nat} {xs : Nat → Int32} {Z Z' : gZ} (hlt : l.stackTraces = false) (hi : i + 7 ≤ L) (hL : L ≤ 3584) (X : gX p s m meth c bb L xs dC dI g.1 cZ) (V : gV dC dI g h cZ a o s Z H locs) (hl : lv_has ls 7 (gLv bb (g.2.1 0) h o i)) (hcs : cells + 16 ≤ 601024 ∧ slots + 512 ≤ 7293034) (hpf : gCmp lZi (lPg lZi (lE2 1 3) (pX9_ofClass N (xs (i + 1)) Z.1) Z.2.2) (pf_ofClass N (xs (i + 1)) Z.2.1) = some Z')
    (kk : ∀ (cc2 cd2 : Nat → Nat) (ce2 : Nat) (H1 : Heap) (locs1 : List Loc) (ls1 : Array Slot), gV dC dI (g.1, g.2.1, cc2, cd2, ce2) h cZ a o s Z' H1 locs1 → lv_has ls1 7 (gLv bb (g.2.1 0) h o i) → W p l e room_1 s m #[Value.ref bb] below meth c H1 locs1 (cells + 16) (slots + 512) Q (F0 m 3094 ls1 [])) :
    W p l e room_1 s m #[Value.ref bb] below meth c H locs cells slots Q (F0 m 1667 ls []) := by
  obtain ⟨k, b9, hA, hB, ht, hv⟩ := gCmp_some hpf
  have hx := X.1
  have hb := X.2.1
  have hl : lv_has ls 7 [(0, .ref bb), (1, .ref (g.2.1 0)), (2, .ref h), (3, .ref o), (4, .int (nI i))] := hl
  refine lv_aload_n hx hb dL_law_1667 rfl (lv_at hl 1 rfl) ?_
  refine g_arg (k0 := 0) (k4 := 4) (k := 1) X V hl rfl rfl (by omega) hL rfl 1668 dL_law_1668 dL_law_1669 dL_law_1671 dL_law_1672 dL_law_1673 ?_
  refine lv_aload_n hx hb dL_law_1674 rfl (lv_at hl 3 rfl) ?_
  refine g_callW (As := [.int (xs (i + 1))]) (rest := []) X V fW_ofClass (w_ofClass l hlt N (xs (i + 1))) (by decide) 1675 dL_law_1675 rfl hl.1 rfl (Nat.le_of_ble_eq_true rfl) ⟨by omega, by omega⟩ hA (fun cc2 cd2 ce2 H1 locs1 V => ?_)
  have V : gV dC dI (g.1, g.2.1, cc2, cd2, ce2) h cZ a o s (Z'.1, Z.2.1, Z'.2.2) H1 locs1 := V
  have X : gX p s m meth c bb L xs dC dI ((g.1, g.2.1, cc2, cd2, ce2) : kG).1 cZ := X
  refine W.widen (k := cells + 16) (n := slots + 512) (by omega) (by omega) ?_
  refine lv_istore (lv' := [(5, .int k), (0, .ref bb), (1, .ref (g.2.1 0)), (2, .ref h), (3, .ref o), (4, .int (nI i))]) hx hb dL_law_1678 hl (by decide) rfl (fun ls hl => ?_)
  refine lv_aload_n hx hb dL_law_1680 rfl (lv_at hl 3 rfl) ?_
  refine g_arg (k0 := 1) (k4 := 5) (k := 1) X V hl rfl rfl (by omega) hL rfl 1681 dL_law_1681 dL_law_1682 dL_law_1684 dL_law_1685 dL_law_1686 ?_
  refine g_callM (As := [.int (xs (i + 1))]) (rest := []) X V fG_ofClass (c_ofClass l N (xs (i + 1))) (by decide) 1687 dL_law_1687 rfl hl.1 rfl (Nat.le_of_ble_eq_true rfl) ⟨by omega, by omega⟩ hB (fun H2 locs2 V2 => ?_)
  have V2 : gV dC dI (g.1, g.2.1, cc2, cd2, ce2) h cZ a o s Z' H2 locs2 := V2
  exact g_tail (N := N) 1690 X V2 ⟨dL_law_1690, dL_law_1692, dL_law_1693, dL_law_1696, dL_law_1698, dL_law_1703, dL_law_1705, dL_law_1708, dL_law_1709, dL_law_1710, dL_law_1711, dL_law_1713, dL_law_1714, dL_law_1715, dL_law_1720⟩ (by decide) hl ⟨by omega, by omega⟩ ht hv (fun H3 locs3 ls3 V3 hl3 => kk cc2 cd2 ce2 H3 locs3 ls3 V3 hl3)
