theorem fW_nameOf : gFw yL_nameOf cL_nameOf 5 [(0, 10, 13, 19)] 4 248 := ⟨kT_316, kT_317, kT_109, rfl, ⟨by decide +kernel, by decide +kernel, by decide +kernel⟩, by decide⟩
theorem fG_nameOf : gFm yX10_nameOf cX10_nameOf 3 (some .int) 2 250 := ⟨kT_318, kT_319, kT_320, kM_285, rfl, ⟨by decide +kernel, by decide +kernel, by decide +kernel⟩, by decide⟩
set_option maxRecDepth 100000 in
set_option maxHeartbeats 4000000 in
theorem g_case_30 {p : Program} {l : Launch} {e : Env} {s : State} {m : MethodId} {below : List Frame} {meth : Method} {c : Code} {H : Heap} {locs : List Loc} {cells slots : Nat} {Q : State → Prop} {ls : Array Slot} {dC : Nat → ClassId} {dI : Nat → Nat → Nat} {g : kG} {cZ : ClassId} {h o bb L i N : Nat} {a : Nat → Nat} {xs : Nat → Int32} {Z Z' : gZ} (hlt : l.stackTraces = false) (hi : i + 7 ≤ L) (hL : L ≤ 3584) (X : gX p s m meth c bb L xs dC dI g.1 cZ) (V : gV dC dI g h cZ a o s Z H locs) (hl : lv_has ls 7 (gLv bb (g.2.1 0) h o i)) (hcs : cells + 16 ≤ 601024 ∧ slots + 512 ≤ 7293034) (hpf : gCmp lZi (lPg lZi (lE1 1) (pX9_nameOf N (xs (i + 1)) (xs (i + 2)) Z.1) Z.2.2) (pf_nameOf N (xs (i + 1)) (xs (i + 2)) Z.2.1) = some Z')
    (kk : ∀ (cc2 cd2 : Nat → Nat) (ce2 : Nat) (H1 : Heap) (locs1 : List Loc) (ls1 : Array Slot), gV dC dI (g.1, g.2.1, cc2, cd2, ce2) h cZ a o s Z' H1 locs1 → lv_has ls1 7 (gLv bb (g.2.1 0) h o i) → W p l e room_1 s m #[Value.ref bb] below meth c H1 locs1 (cells + 16) (slots + 512) Q (F0 m 3094 ls1 [])) :
    W p l e room_1 s m #[Value.ref bb] below meth c H locs cells slots Q (F0 m 2340 ls []) := by
  obtain ⟨k, b9, hA, hB, ht, hv⟩ := gCmp_some hpf
  have hx := X.1
  have hb := X.2.1
  have hl : lv_has ls 7 [(0, .ref bb), (1, .ref (g.2.1 0)), (2, .ref h), (3, .ref o), (4, .int (nI i))] := hl
  refine lv_aload_n hx hb dL_law_2340 rfl (lv_at hl 1 rfl) ?_
  refine g_arg (k0 := 0) (k4 := 4) (k := 1) X V hl rfl rfl (by omega) hL rfl 2341 dL_law_2341 dL_law_2342 dL_law_2344 dL_law_2345 dL_law_2346 ?_
  refine g_arg (k0 := 0) (k4 := 4) (k := 2) X V hl rfl rfl (by omega) hL rfl 2347 dL_law_2347 dL_law_2348 dL_law_2350 dL_law_2351 dL_law_2352 ?_
  refine lv_aload_n hx hb dL_law_2353 rfl (lv_at hl 3 rfl) ?_
  refine g_callW (As := [.int (xs (i + 1)), .int (xs (i + 2))]) (rest := []) X V fW_nameOf (w_nameOf l hlt N (xs (i + 1)) (xs (i + 2))) (by decide) 2354 dL_law_2354 rfl hl.1 rfl (Nat.le_of_ble_eq_true rfl) ⟨by omega, by omega⟩ hA (fun cc2 cd2 ce2 H1 locs1 V => ?_)
  have V : gV dC dI (g.1, g.2.1, cc2, cd2, ce2) h cZ a o s (Z'.1, Z.2.1, Z'.2.2) H1 locs1 := V
  have X : gX p s m meth c bb L xs dC dI ((g.1, g.2.1, cc2, cd2, ce2) : kG).1 cZ := X
  refine W.widen (k := cells + 16) (n := slots + 512) (by omega) (by omega) ?_
  refine lv_istore (lv' := [(5, .int k), (0, .ref bb), (1, .ref (g.2.1 0)), (2, .ref h), (3, .ref o), (4, .int (nI i))]) hx hb dL_law_2357 hl (by decide) rfl (fun ls hl => ?_)
  refine lv_aload_n hx hb dL_law_2359 rfl (lv_at hl 3 rfl) ?_
  refine g_arg (k0 := 1) (k4 := 5) (k := 1) X V hl rfl rfl (by omega) hL rfl 2360 dL_law_2360 dL_law_2361 dL_law_2363 dL_law_2364 dL_law_2365 ?_
  refine g_arg (k0 := 1) (k4 := 5) (k := 2) X V hl rfl rfl (by omega) hL rfl 2366 dL_law_2366 dL_law_2367 dL_law_2369 dL_law_2370 dL_law_2371 ?_
  refine g_callM (As := [.int (xs (i + 1)), .int (xs (i + 2))]) (rest := []) X V fG_nameOf (c_nameOf l N (xs (i + 1)) (xs (i + 2))) (by decide) 2372 dL_law_2372 rfl hl.1 rfl (Nat.le_of_ble_eq_true rfl) ⟨by omega, by omega⟩ hB (fun H2 locs2 V2 => ?_)
  have V2 : gV dC dI (g.1, g.2.1, cc2, cd2, ce2) h cZ a o s Z' H2 locs2 := V2
  exact g_tail (N := N) 2375 X V2 ⟨dL_law_2375, dL_law_2377, dL_law_2378, dL_law_2381, dL_law_2383, dL_law_2388, dL_law_2390, dL_law_2393, dL_law_2394, dL_law_2395, dL_law_2396, dL_law_2398, dL_law_2399, dL_law_2400, dL_law_2405⟩ (by decide) hl ⟨by omega, by omega⟩ ht hv (fun H3 locs3 ls3 V3 hl3 => kk cc2 cd2 ce2 H3 locs3 ls3 V3 hl3)
theorem fW_valueAt : gFw yL_valueAt cL_valueAt 7 [(0, 14, 17, 19)] 6 251 := ⟨kT_321, kT_322, kT_113, rfl, ⟨by decide +kernel, by decide +kernel, by decide +kernel⟩, by decide⟩
theorem fG_valueAt : gFm yX10_valueAt cX10_valueAt 10 (some .int) 4 253 := ⟨kT_323, kT_324, kT_325, kM_286, rfl, ⟨by decide +kernel, by decide +kernel, by decide +kernel⟩, by decide⟩
set_option maxRecDepth 100000 in
set_option maxHeartbeats 4000000 in
theorem g_case_31 {p : Program} {l : Launch} {e : Env} {s : State} {m : MethodId} {below : List Frame} {meth : Method} {c : Code} {H : Heap} {locs : List Loc} {cells slots : Nat} {Q : State → Prop} {ls : Array Slot} {dC : Nat → ClassId} {dI : Nat → Nat → Nat} {g : kG} {cZ : ClassId} {h o bb L i N : Nat} {a : Nat → Nat} {xs : Nat → Int32} {Z Z' : gZ} (hlt : l.stackTraces = false) (hi : i + 7 ≤ L) (hL : L ≤ 3584) (X : gX p s m meth c bb L xs dC dI g.1 cZ) (V : gV dC dI g h cZ a o s Z H locs) (hl : lv_has ls 7 (gLv bb (g.2.1 0) h o i)) (hcs : cells + 16 ≤ 601024 ∧ slots + 512 ≤ 7293034) (hpf : gCmp lZi (lPg lZi (lE1 1) (pX9_valueAt N (xs (i + 1)) (xs (i + 2)) (xs (i + 3)) (xs (i + 4)) Z.1) Z.2.2) (pf_valueAt N (xs (i + 1)) (xs (i + 2)) (xs (i + 3)) (xs (i + 4)) Z.2.1) = some Z')
    (kk : ∀ (cc2 cd2 : Nat → Nat) (ce2 : Nat) (H1 : Heap) (locs1 : List Loc) (ls1 : Array Slot), gV dC dI (g.1, g.2.1, cc2, cd2, ce2) h cZ a o s Z' H1 locs1 → lv_has ls1 7 (gLv bb (g.2.1 0) h o i) → W p l e room_1 s m #[Value.ref bb] below meth c H1 locs1 (cells + 16) (slots + 512) Q (F0 m 3094 ls1 [])) :
    W p l e room_1 s m #[Value.ref bb] below meth c H locs cells slots Q (F0 m 2408 ls []) := by
  obtain ⟨k, b9, hA, hB, ht, hv⟩ := gCmp_some hpf
  have hx := X.1
  have hb := X.2.1
  have hl : lv_has ls 7 [(0, .ref bb), (1, .ref (g.2.1 0)), (2, .ref h), (3, .ref o), (4, .int (nI i))] := hl
  refine lv_aload_n hx hb dL_law_2408 rfl (lv_at hl 1 rfl) ?_
  refine g_arg (k0 := 0) (k4 := 4) (k := 1) X V hl rfl rfl (by omega) hL rfl 2409 dL_law_2409 dL_law_2410 dL_law_2412 dL_law_2413 dL_law_2414 ?_
  refine g_arg (k0 := 0) (k4 := 4) (k := 2) X V hl rfl rfl (by omega) hL rfl 2415 dL_law_2415 dL_law_2416 dL_law_2418 dL_law_2419 dL_law_2420 ?_
  refine g_arg (k0 := 0) (k4 := 4) (k := 3) X V hl rfl rfl (by omega) hL rfl 2421 dL_law_2421 dL_law_2422 dL_law_2424 dL_law_2425 dL_law_2426 ?_
  refine g_arg (k0 := 0) (k4 := 4) (k := 4) X V hl rfl rfl (by omega) hL rfl 2427 dL_law_2427 dL_law_2428 dL_law_2430 dL_law_2431 dL_law_2432 ?_
  refine lv_aload_n hx hb dL_law_2433 rfl (lv_at hl 3 rfl) ?_
  refine g_callW (As := [.int (xs (i + 1)), .int (xs (i + 2)), .int (xs (i + 3)), .int (xs (i + 4))]) (rest := []) X V fW_valueAt (w_valueAt l hlt N (xs (i + 1)) (xs (i + 2)) (xs (i + 3)) (xs (i + 4))) (by decide) 2434 dL_law_2434 rfl hl.1 rfl (Nat.le_of_ble_eq_true rfl) ⟨by omega, by omega⟩ hA (fun cc2 cd2 ce2 H1 locs1 V => ?_)
  have V : gV dC dI (g.1, g.2.1, cc2, cd2, ce2) h cZ a o s (Z'.1, Z.2.1, Z'.2.2) H1 locs1 := V
  have X : gX p s m meth c bb L xs dC dI ((g.1, g.2.1, cc2, cd2, ce2) : kG).1 cZ := X
  refine W.widen (k := cells + 16) (n := slots + 512) (by omega) (by omega) ?_
  refine lv_istore (lv' := [(5, .int k), (0, .ref bb), (1, .ref (g.2.1 0)), (2, .ref h), (3, .ref o), (4, .int (nI i))]) hx hb dL_law_2437 hl (by decide) rfl (fun ls hl => ?_)
  refine lv_aload_n hx hb dL_law_2439 rfl (lv_at hl 3 rfl) ?_
  refine g_arg (k0 := 1) (k4 := 5) (k := 1) X V hl rfl rfl (by omega) hL rfl 2440 dL_law_2440 dL_law_2441 dL_law_2443 dL_law_2444 dL_law_2445 ?_
  refine g_arg (k0 := 1) (k4 := 5) (k := 2) X V hl rfl rfl (by omega) hL rfl 2446 dL_law_2446 dL_law_2447 dL_law_2449 dL_law_2450 dL_law_2451 ?_
  refine g_arg (k0 := 1) (k4 := 5) (k := 3) X V hl rfl rfl (by omega) hL rfl 2452 dL_law_2452 dL_law_2453 dL_law_2455 dL_law_2456 dL_law_2457 ?_
  refine g_arg (k0 := 1) (k4 := 5) (k := 4) X V hl rfl rfl (by omega) hL rfl 2458 dL_law_2458 dL_law_2459 dL_law_2461 dL_law_2462 dL_law_2463 ?_
  refine g_callM (As := [.int (xs (i + 1)), .int (xs (i + 2)), .int (xs (i + 3)), .int (xs (i + 4))]) (rest := []) X V fG_valueAt (c_valueAt l N (xs (i + 1)) (xs (i + 2)) (xs (i + 3)) (xs (i + 4))) (by decide) 2464 dL_law_2464 rfl hl.1 rfl (Nat.le_of_ble_eq_true rfl) ⟨by omega, by omega⟩ hB (fun H2 locs2 V2 => ?_)
  have V2 : gV dC dI (g.1, g.2.1, cc2, cd2, ce2) h cZ a o s Z' H2 locs2 := V2
  exact g_tail (N := N) 2467 X V2 ⟨dL_law_2467, dL_law_2469, dL_law_2470, dL_law_2473, dL_law_2475, dL_law_2480, dL_law_2482, dL_law_2485, dL_law_2486, dL_law_2487, dL_law_2488, dL_law_2490, dL_law_2491, dL_law_2492, dL_law_2497⟩ (by decide) hl ⟨by omega, by omega⟩ ht hv (fun H3 locs3 ls3 V3 hl3 => kk cc2 cd2 ce2 H3 locs3 ls3 V3 hl3)
theorem fW_valuesAnew : gFw yL_valuesAnew cL_valuesAnew 6 [(0, 12, 15, 19)] 5 254 := ⟨kT_326, kT_327, kT_117, rfl, ⟨by decide +kernel, by decide +kernel, by decide +kernel⟩, by decide⟩
theorem fG_valuesAnew : gFm yX10_valuesAnew cX10_valuesAnew 4 (some .int) 3 256 := ⟨kT_328, kT_329, kT_330, kM_287, rfl, ⟨by decide +kernel, by decide +kernel, by decide +kernel⟩, by decide⟩
set_option maxRecDepth 100000 in
set_option maxHeartbeats 4000000 in
theorem g_case_32 {p : Program} {l : Launch} {e : Env} {s : State} {m : MethodId} {below : List Frame} {meth : Method} {c : Code} {H : Heap} {locs : List Loc} {cells slots : Nat} {Q : State → Prop} {ls : Array Slot} {dC : Nat → ClassId} {dI : Nat → Nat → Nat} {g : kG} {cZ : ClassId} {h o bb L i N : Nat} {a : Nat → Nat} {xs : Nat → Int32} {Z Z' : gZ} (hlt : l.stackTraces = false) (hi : i + 7 ≤ L) (hL : L ≤ 3584) (X : gX p s m meth c bb L xs dC dI g.1 cZ) (V : gV dC dI g h cZ a o s Z H locs) (hl : lv_has ls 7 (gLv bb (g.2.1 0) h o i)) (hcs : cells + 16 ≤ 601024 ∧ slots + 512 ≤ 7293034) (hpf : gCmp lZi (lPg lZi (lE1 1) (pX9_valuesAnew N (xs (i + 1)) (xs (i + 2)) (xs (i + 3)) Z.1) Z.2.2) (pf_valuesAnew N (xs (i + 1)) (xs (i + 2)) (xs (i + 3)) Z.2.1) = some Z')
    (kk : ∀ (cc2 cd2 : Nat → Nat) (ce2 : Nat) (H1 : Heap) (locs1 : List Loc) (ls1 : Array Slot), gV dC dI (g.1, g.2.1, cc2, cd2, ce2) h cZ a o s Z' H1 locs1 → lv_has ls1 7 (gLv bb (g.2.1 0) h o i) → W p l e room_1 s m #[Value.ref bb] below meth c H1 locs1 (cells + 16) (slots + 512) Q (F0 m 3094 ls1 [])) :
    W p l e room_1 s m #[Value.ref bb] below meth c H locs cells slots Q (F0 m 2500 ls []) := by
  obtain ⟨k, b9, hA, hB, ht, hv⟩ := gCmp_some hpf
  have hx := X.1
  have hb := X.2.1
  have hl : lv_has ls 7 [(0, .ref bb), (1, .ref (g.2.1 0)), (2, .ref h), (3, .ref o), (4, .int (nI i))] := hl
  refine lv_aload_n hx hb dL_law_2500 rfl (lv_at hl 1 rfl) ?_
  refine g_arg (k0 := 0) (k4 := 4) (k := 1) X V hl rfl rfl (by omega) hL rfl 2501 dL_law_2501 dL_law_2502 dL_law_2504 dL_law_2505 dL_law_2506 ?_
  refine g_arg (k0 := 0) (k4 := 4) (k := 2) X V hl rfl rfl (by omega) hL rfl 2507 dL_law_2507 dL_law_2508 dL_law_2510 dL_law_2511 dL_law_2512 ?_
  refine g_arg (k0 := 0) (k4 := 4) (k := 3) X V hl rfl rfl (by omega) hL rfl 2513 dL_law_2513 dL_law_2514 dL_law_2516 dL_law_2517 dL_law_2518 ?_
  refine lv_aload_n hx hb dL_law_2519 rfl (lv_at hl 3 rfl) ?_
  refine g_callW (As := [.int (xs (i + 1)), .int (xs (i + 2)), .int (xs (i + 3))]) (rest := []) X V fW_valuesAnew (w_valuesAnew l hlt N (xs (i + 1)) (xs (i + 2)) (xs (i + 3))) (by decide) 2520 dL_law_2520 rfl hl.1 rfl (Nat.le_of_ble_eq_true rfl) ⟨by omega, by omega⟩ hA (fun cc2 cd2 ce2 H1 locs1 V => ?_)
  have V : gV dC dI (g.1, g.2.1, cc2, cd2, ce2) h cZ a o s (Z'.1, Z.2.1, Z'.2.2) H1 locs1 := V
  have X : gX p s m meth c bb L xs dC dI ((g.1, g.2.1, cc2, cd2, ce2) : kG).1 cZ := X
  refine W.widen (k := cells + 16) (n := slots + 512) (by omega) (by omega) ?_
  refine lv_istore (lv' := [(5, .int k), (0, .ref bb), (1, .ref (g.2.1 0)), (2, .ref h), (3, .ref o), (4, .int (nI i))]) hx hb dL_law_2523 hl (by decide) rfl (fun ls hl => ?_)
  refine lv_aload_n hx hb dL_law_2525 rfl (lv_at hl 3 rfl) ?_
  refine g_arg (k0 := 1) (k4 := 5) (k := 1) X V hl rfl rfl (by omega) hL rfl 2526 dL_law_2526 dL_law_2527 dL_law_2529 dL_law_2530 dL_law_2531 ?_
  refine g_arg (k0 := 1) (k4 := 5) (k := 2) X V hl rfl rfl (by omega) hL rfl 2532 dL_law_2532 dL_law_2533 dL_law_2535 dL_law_2536 dL_law_2537 ?_
  refine g_arg (k0 := 1) (k4 := 5) (k := 3) X V hl rfl rfl (by omega) hL rfl 2538 dL_law_2538 dL_law_2539 dL_law_2541 dL_law_2542 dL_law_2543 ?_
  refine g_callM (As := [.int (xs (i + 1)), .int (xs (i + 2)), .int (xs (i + 3))]) (rest := []) X V fG_valuesAnew (c_valuesAnew l N (xs (i + 1)) (xs (i + 2)) (xs (i + 3))) (by decide) 2544 dL_law_2544 rfl hl.1 rfl (Nat.le_of_ble_eq_true rfl) ⟨by omega, by omega⟩ hB (fun H2 locs2 V2 => ?_)
  have V2 : gV dC dI (g.1, g.2.1, cc2, cd2, ce2) h cZ a o s Z' H2 locs2 := V2
  exact g_tail (N := N) 2547 X V2 ⟨dL_law_2547, dL_law_2549, dL_law_2550, dL_law_2553, dL_law_2555, dL_law_2560, dL_law_2562, dL_law_2565, dL_law_2566, dL_law_2567, dL_law_2568, dL_law_2570, dL_law_2571, dL_law_2572, dL_law_2577⟩ (by decide) hl ⟨by omega, by omega⟩ ht hv (fun H3 locs3 ls3 V3 hl3 => kk cc2 cd2 ce2 H3 locs3 ls3 V3 hl3)
theorem fW_linkOf : gFw yL_linkOf cL_linkOf 5 [(0, 10, 13, 19)] 4 257 := ⟨kT_331, kT_332, kT_121, rfl, ⟨by decide +kernel, by decide +kernel, by decide +kernel⟩, by decide⟩
theorem fG_linkOf : gFm yX10_linkOf cX10_linkOf 3 (some .int) 2 259 := ⟨kT_333, kT_334, kT_335, kM_288, rfl, ⟨by decide +kernel, by decide +kernel, by decide +kernel⟩, by decide⟩
set_option maxRecDepth 100000 in
set_option maxHeartbeats 4000000 in
theorem g_case_33 {p : Program} {l : Launch} {e : Env} {s : State} {m : MethodId} {below : List Frame} {meth : Method} {c : Code} {H : Heap} {locs : List Loc} {cells slots : Nat} {Q : State → Prop} {ls : Array Slot} {dC : Nat → ClassId} {dI : Nat → Nat → Nat} {g : kG} {cZ : ClassId} {h o bb L i N : Nat} {a : Nat → Nat} {xs : Nat → Int32} {Z Z' : gZ} (hlt : l.stackTraces = false) (hi : i + 7 ≤ L) (hL : L ≤ 3584) (X : gX p s m meth c bb L xs dC dI g.1 cZ) (V : gV dC dI g h cZ a o s Z H locs) (hl : lv_has ls 7 (gLv bb (g.2.1 0) h o i)) (hcs : cells + 16 ≤ 601024 ∧ slots + 512 ≤ 7293034) (hpf : gCmp lZi (lPg lZi (lE1 1) (pX9_linkOf N (xs (i + 1)) (xs (i + 2)) Z.1) Z.2.2) (pf_linkOf N (xs (i + 1)) (xs (i + 2)) Z.2.1) = some Z')
    (kk : ∀ (cc2 cd2 : Nat → Nat) (ce2 : Nat) (H1 : Heap) (locs1 : List Loc) (ls1 : Array Slot), gV dC dI (g.1, g.2.1, cc2, cd2, ce2) h cZ a o s Z' H1 locs1 → lv_has ls1 7 (gLv bb (g.2.1 0) h o i) → W p l e room_1 s m #[Value.ref bb] below meth c H1 locs1 (cells + 16) (slots + 512) Q (F0 m 3094 ls1 [])) :
    W p l e room_1 s m #[Value.ref bb] below meth c H locs cells slots Q (F0 m 2580 ls []) := by
  obtain ⟨k, b9, hA, hB, ht, hv⟩ := gCmp_some hpf
  have hx := X.1
  have hb := X.2.1
  have hl : lv_has ls 7 [(0, .ref bb), (1, .ref (g.2.1 0)), (2, .ref h), (3, .ref o), (4, .int (nI i))] := hl
  refine lv_aload_n hx hb dL_law_2580 rfl (lv_at hl 1 rfl) ?_
  refine g_arg (k0 := 0) (k4 := 4) (k := 1) X V hl rfl rfl (by omega) hL rfl 2581 dL_law_2581 dL_law_2582 dL_law_2584 dL_law_2585 dL_law_2586 ?_
  refine g_arg (k0 := 0) (k4 := 4) (k := 2) X V hl rfl rfl (by omega) hL rfl 2587 dL_law_2587 dL_law_2588 dL_law_2590 dL_law_2591 dL_law_2592 ?_
  refine lv_aload_n hx hb dL_law_2593 rfl (lv_at hl 3 rfl) ?_
  refine g_callW (As := [.int (xs (i + 1)), .int (xs (i + 2))]) (rest := []) X V fW_linkOf (w_linkOf l hlt N (xs (i + 1)) (xs (i + 2))) (by decide) 2594 dL_law_2594 rfl hl.1 rfl (Nat.le_of_ble_eq_true rfl) ⟨by omega, by omega⟩ hA (fun cc2 cd2 ce2 H1 locs1 V => ?_)
  have V : gV dC dI (g.1, g.2.1, cc2, cd2, ce2) h cZ a o s (Z'.1, Z.2.1, Z'.2.2) H1 locs1 := V
  have X : gX p s m meth c bb L xs dC dI ((g.1, g.2.1, cc2, cd2, ce2) : kG).1 cZ := X
  refine W.widen (k := cells + 16) (n := slots + 512) (by omega) (by omega) ?_
  refine lv_istore (lv' := [(5, .int k), (0, .ref bb), (1, .ref (g.2.1 0)), (2, .ref h), (3, .ref o), (4, .int (nI i))]) hx hb dL_law_2597 hl (by decide) rfl (fun ls hl => ?_)
  refine lv_aload_n hx hb dL_law_2599 rfl (lv_at hl 3 rfl) ?_
  refine g_arg (k0 := 1) (k4 := 5) (k := 1) X V hl rfl rfl (by omega) hL rfl 2600 dL_law_2600 dL_law_2601 dL_law_2603 dL_law_2604 dL_law_2605 ?_
  refine g_arg (k0 := 1) (k4 := 5) (k := 2) X V hl rfl rfl (by omega) hL rfl 2606 dL_law_2606 dL_law_2607 dL_law_2609 dL_law_2610 dL_law_2611 ?_
  refine g_callM (As := [.int (xs (i + 1)), .int (xs (i + 2))]) (rest := []) X V fG_linkOf (c_linkOf l N (xs (i + 1)) (xs (i + 2))) (by decide) 2612 dL_law_2612 rfl hl.1 rfl (Nat.le_of_ble_eq_true rfl) ⟨by omega, by omega⟩ hB (fun H2 locs2 V2 => ?_)
  have V2 : gV dC dI (g.1, g.2.1, cc2, cd2, ce2) h cZ a o s Z' H2 locs2 := V2
  exact g_tail (N := N) 2615 X V2 ⟨dL_law_2615, dL_law_2617, dL_law_2618, dL_law_2621, dL_law_2623, dL_law_2628, dL_law_2630, dL_law_2633, dL_law_2634, dL_law_2635, dL_law_2636, dL_law_2638, dL_law_2639, dL_law_2640, dL_law_2645⟩ (by decide) hl ⟨by omega, by omega⟩ ht hv (fun H3 locs3 ls3 V3 hl3 => kk cc2 cd2 ce2 H3 locs3 ls3 V3 hl3)
theorem fW_may : gFw yL_may cL_may 7 [(0, 21, 24, 19)] 6 260 := ⟨kT_336, kT_337, kT_125, rfl, ⟨by decide +kernel, by decide +kernel, by decide +kernel⟩, by decide⟩
theorem fG_may : gFm yX10_may cX10_may 5 (some .boolean) 4 262 := ⟨kT_338, kT_339, kT_340, kM_289, rfl, ⟨by decide +kernel, by decide +kernel, by decide +kernel⟩, by decide⟩
set_option maxRecDepth 100000 in
set_option maxHeartbeats 4000000 in
theorem g_case_34 {p : Program} {l : Launch} {e : Env} {s : State} {m : MethodId} {below : List Frame} {meth : Method} {c : Code} {H : Heap} {locs : List Loc} {cells slots : Nat} {Q : State → Prop} {ls : Array Slot} {dC : Nat → ClassId} {dI : Nat → Nat → Nat} {g : kG} {cZ : ClassId} {h o bb L i N : Nat} {a : Nat → Nat} {xs : Nat → Int32} {Z Z' : gZ} (hlt : l.stackTraces = false) (hi : i + 7 ≤ L) (hL : L ≤ 3584) (X : gX p s m meth c bb L xs dC dI g.1 cZ) (V : gV dC dI g h cZ a o s Z H locs) (hl : lv_has ls 7 (gLv bb (g.2.1 0) h o i)) (hcs : cells + 16 ≤ 601024 ∧ slots + 512 ≤ 7293034) (hpf : gCmp lZb (lPg lZb (lE1 1) (pX9_may N (xs (i + 1)) (xs (i + 2)) (xs (i + 3)) (xs (i + 4)) Z.1) Z.2.2) (pf_may N (xs (i + 1)) (xs (i + 2)) (xs (i + 3)) (xs (i + 4)) Z.2.1) = some Z')
    (kk : ∀ (cc2 cd2 : Nat → Nat) (ce2 : Nat) (H1 : Heap) (locs1 : List Loc) (ls1 : Array Slot), gV dC dI (g.1, g.2.1, cc2, cd2, ce2) h cZ a o s Z' H1 locs1 → lv_has ls1 7 (gLv bb (g.2.1 0) h o i) → W p l e room_1 s m #[Value.ref bb] below meth c H1 locs1 (cells + 16) (slots + 512) Q (F0 m 3094 ls1 [])) :
    W p l e room_1 s m #[Value.ref bb] below meth c H locs cells slots Q (F0 m 2648 ls []) := by
  obtain ⟨k, b9, hA, hB, ht, hv⟩ := gCmp_some hpf
  have hx := X.1
  have hb := X.2.1
  have hl : lv_has ls 7 [(0, .ref bb), (1, .ref (g.2.1 0)), (2, .ref h), (3, .ref o), (4, .int (nI i))] := hl
  refine lv_aload_n hx hb dL_law_2648 rfl (lv_at hl 1 rfl) ?_
  refine g_arg (k0 := 0) (k4 := 4) (k := 1) X V hl rfl rfl (by omega) hL rfl 2649 dL_law_2649 dL_law_2650 dL_law_2652 dL_law_2653 dL_law_2654 ?_
  refine g_arg (k0 := 0) (k4 := 4) (k := 2) X V hl rfl rfl (by omega) hL rfl 2655 dL_law_2655 dL_law_2656 dL_law_2658 dL_law_2659 dL_law_2660 ?_
  refine g_arg (k0 := 0) (k4 := 4) (k := 3) X V hl rfl rfl (by omega) hL rfl 2661 dL_law_2661 dL_law_2662 dL_law_2664 dL_law_2665 dL_law_2666 ?_
  refine g_arg (k0 := 0) (k4 := 4) (k := 4) X V hl rfl rfl (by omega) hL rfl 2667 dL_law_2667 dL_law_2668 dL_law_2670 dL_law_2671 dL_law_2672 ?_
  refine lv_aload_n hx hb dL_law_2673 rfl (lv_at hl 3 rfl) ?_
  refine g_callW (As := [.int (xs (i + 1)), .int (xs (i + 2)), .int (xs (i + 3)), .int (xs (i + 4))]) (rest := []) X V fW_may (w_may l hlt N (xs (i + 1)) (xs (i + 2)) (xs (i + 3)) (xs (i + 4))) (by decide) 2674 dL_law_2674 rfl hl.1 rfl (Nat.le_of_ble_eq_true rfl) ⟨by omega, by omega⟩ hA (fun cc2 cd2 ce2 H1 locs1 V => ?_)
  have V : gV dC dI (g.1, g.2.1, cc2, cd2, ce2) h cZ a o s (Z'.1, Z.2.1, Z'.2.2) H1 locs1 := V
  have X : gX p s m meth c bb L xs dC dI ((g.1, g.2.1, cc2, cd2, ce2) : kG).1 cZ := X
  refine W.widen (k := cells + 16) (n := slots + 512) (by omega) (by omega) ?_
  refine lv_istore (lv' := [(5, .int k), (0, .ref bb), (1, .ref (g.2.1 0)), (2, .ref h), (3, .ref o), (4, .int (nI i))]) hx hb dL_law_2677 hl (by decide) rfl (fun ls hl => ?_)
  refine lv_aload_n hx hb dL_law_2679 rfl (lv_at hl 3 rfl) ?_
  refine g_arg (k0 := 1) (k4 := 5) (k := 1) X V hl rfl rfl (by omega) hL rfl 2680 dL_law_2680 dL_law_2681 dL_law_2683 dL_law_2684 dL_law_2685 ?_
  refine g_arg (k0 := 1) (k4 := 5) (k := 2) X V hl rfl rfl (by omega) hL rfl 2686 dL_law_2686 dL_law_2687 dL_law_2689 dL_law_2690 dL_law_2691 ?_
  refine g_arg (k0 := 1) (k4 := 5) (k := 3) X V hl rfl rfl (by omega) hL rfl 2692 dL_law_2692 dL_law_2693 dL_law_2695 dL_law_2696 dL_law_2697 ?_
  refine g_arg (k0 := 1) (k4 := 5) (k := 4) X V hl rfl rfl (by omega) hL rfl 2698 dL_law_2698 dL_law_2699 dL_law_2701 dL_law_2702 dL_law_2703 ?_
  refine g_callM (As := [.int (xs (i + 1)), .int (xs (i + 2)), .int (xs (i + 3)), .int (xs (i + 4))]) (rest := []) X V fG_may (c_may l N (xs (i + 1)) (xs (i + 2)) (xs (i + 3)) (xs (i + 4))) (by decide) 2704 dL_law_2704 rfl hl.1 rfl (Nat.le_of_ble_eq_true rfl) ⟨by omega, by omega⟩ hB (fun H2 locs2 V2 => ?_)
  have V2 : gV dC dI (g.1, g.2.1, cc2, cd2, ce2) h cZ a o s Z' H2 locs2 := V2
  exact g_tailZ (N := N) 2707 X V2 ⟨dL_law_2707, dL_law_2709, dL_law_2710, dL_law_2713, dL_law_2715, dL_law_2720, dL_law_2722, dL_law_2725, dL_law_2726, dL_law_2727, dL_law_2728, dL_law_2730, dL_law_2733, dL_law_2734, dL_law_2737, dL_law_2738, dL_law_2739, dL_law_2744⟩ (by decide) hl ⟨by omega, by omega⟩ ht hv (fun H3 locs3 ls3 V3 hl3 => kk cc2 cd2 ce2 H3 locs3 ls3 V3 hl3)
theorem fW_childAt : gFw yL_childAt cL_childAt 6 [(0, 12, 15, 19)] 5 263 := ⟨kT_341, kT_342, kT_129, rfl, ⟨by decide +kernel, by decide +kernel, by decide +kernel⟩, by decide⟩
theorem fG_childAt : gFm yX10_childAt cX10_childAt 10 (some .int) 3 265 := ⟨kT_343, kT_344, kT_345, kM_290, rfl, ⟨by decide +kernel, by decide +kernel, by decide +kernel⟩, by decide⟩
set_option maxRecDepth 100000 in
set_option maxHeartbeats 4000000 in
theorem g_case_35 {p : Program} {l : Launch} {e : Env} {s : State} {m : MethodId} {below : List Frame} {meth : Method} {c : Code} {H : Heap} {locs : List Loc} {cells slots : Nat} {Q : State → Prop} {ls : Array Slot} {dC : Nat → ClassId} {dI : Nat → Nat → Nat} {g : kG} {cZ : ClassId} {h o bb L i N : Nat} {a : Nat → Nat} {xs : Nat → Int32} {Z Z' : gZ} (hlt : l.stackTraces = false) (hi : i + 7 ≤ L) (hL : L ≤ 3584) (X : gX p s m meth c bb L xs dC dI g.1 cZ) (V : gV dC dI g h cZ a o s Z H locs) (hl : lv_has ls 7 (gLv bb (g.2.1 0) h o i)) (hcs : cells + 16 ≤ 601024 ∧ slots + 512 ≤ 7293034) (hpf : gCmp lZi (lPg lZi (lE1 1) (pX9_childAt N (xs (i + 1)) (xs (i + 2)) (xs (i + 3)) Z.1) Z.2.2) (pf_childAt N (xs (i + 1)) (xs (i + 2)) (xs (i + 3)) Z.2.1) = some Z')
    (kk : ∀ (cc2 cd2 : Nat → Nat) (ce2 : Nat) (H1 : Heap) (locs1 : List Loc) (ls1 : Array Slot), gV dC dI (g.1, g.2.1, cc2, cd2, ce2) h cZ a o s Z' H1 locs1 → lv_has ls1 7 (gLv bb (g.2.1 0) h o i) → W p l e room_1 s m #[Value.ref bb] below meth c H1 locs1 (cells + 16) (slots + 512) Q (F0 m 3094 ls1 [])) :
    W p l e room_1 s m #[Value.ref bb] below meth c H locs cells slots Q (F0 m 2747 ls []) := by
  obtain ⟨k, b9, hA, hB, ht, hv⟩ := gCmp_some hpf
  have hx := X.1
  have hb := X.2.1
  have hl : lv_has ls 7 [(0, .ref bb), (1, .ref (g.2.1 0)), (2, .ref h), (3, .ref o), (4, .int (nI i))] := hl
  refine lv_aload_n hx hb dL_law_2747 rfl (lv_at hl 1 rfl) ?_
  refine g_arg (k0 := 0) (k4 := 4) (k := 1) X V hl rfl rfl (by omega) hL rfl 2748 dL_law_2748 dL_law_2749 dL_law_2751 dL_law_2752 dL_law_2753 ?_
  refine g_arg (k0 := 0) (k4 := 4) (k := 2) X V hl rfl rfl (by omega) hL rfl 2754 dL_law_2754 dL_law_2755 dL_law_2757 dL_law_2758 dL_law_2759 ?_
  refine g_arg (k0 := 0) (k4 := 4) (k := 3) X V hl rfl rfl (by omega) hL rfl 2760 dL_law_2760 dL_law_2761 dL_law_2763 dL_law_2764 dL_law_2765 ?_
  refine lv_aload_n hx hb dL_law_2766 rfl (lv_at hl 3 rfl) ?_
  refine g_callW (As := [.int (xs (i + 1)), .int (xs (i + 2)), .int (xs (i + 3))]) (rest := []) X V fW_childAt (w_childAt l hlt N (xs (i + 1)) (xs (i + 2)) (xs (i + 3))) (by decide) 2767 dL_law_2767 rfl hl.1 rfl (Nat.le_of_ble_eq_true rfl) ⟨by omega, by omega⟩ hA (fun cc2 cd2 ce2 H1 locs1 V => ?_)
  have V : gV dC dI (g.1, g.2.1, cc2, cd2, ce2) h cZ a o s (Z'.1, Z.2.1, Z'.2.2) H1 locs1 := V
  have X : gX p s m meth c bb L xs dC dI ((g.1, g.2.1, cc2, cd2, ce2) : kG).1 cZ := X
  refine W.widen (k := cells + 16) (n := slots + 512) (by omega) (by omega) ?_
  refine lv_istore (lv' := [(5, .int k), (0, .ref bb), (1, .ref (g.2.1 0)), (2, .ref h), (3, .ref o), (4, .int (nI i))]) hx hb dL_law_2770 hl (by decide) rfl (fun ls hl => ?_)
  refine lv_aload_n hx hb dL_law_2772 rfl (lv_at hl 3 rfl) ?_
  refine g_arg (k0 := 1) (k4 := 5) (k := 1) X V hl rfl rfl (by omega) hL rfl 2773 dL_law_2773 dL_law_2774 dL_law_2776 dL_law_2777 dL_law_2778 ?_
  refine g_arg (k0 := 1) (k4 := 5) (k := 2) X V hl rfl rfl (by omega) hL rfl 2779 dL_law_2779 dL_law_2780 dL_law_2782 dL_law_2783 dL_law_2784 ?_
  refine g_arg (k0 := 1) (k4 := 5) (k := 3) X V hl rfl rfl (by omega) hL rfl 2785 dL_law_2785 dL_law_2786 dL_law_2788 dL_law_2789 dL_law_2790 ?_
  refine g_callM (As := [.int (xs (i + 1)), .int (xs (i + 2)), .int (xs (i + 3))]) (rest := []) X V fG_childAt (c_childAt l N (xs (i + 1)) (xs (i + 2)) (xs (i + 3))) (by decide) 2791 dL_law_2791 rfl hl.1 rfl (Nat.le_of_ble_eq_true rfl) ⟨by omega, by omega⟩ hB (fun H2 locs2 V2 => ?_)
  have V2 : gV dC dI (g.1, g.2.1, cc2, cd2, ce2) h cZ a o s Z' H2 locs2 := V2
  exact g_tail (N := N) 2794 X V2 ⟨dL_law_2794, dL_law_2796, dL_law_2797, dL_law_2800, dL_law_2802, dL_law_2807, dL_law_2809, dL_law_2812, dL_law_2813, dL_law_2814, dL_law_2815, dL_law_2817, dL_law_2818, dL_law_2819, dL_law_2824⟩ (by decide) hl ⟨by omega, by omega⟩ ht hv (fun H3 locs3 ls3 V3 hl3 => kk cc2 cd2 ce2 H3 locs3 ls3 V3 hl3)
theorem fW_conflicts : gFw yL_conflicts cL_conflicts 5 [(0, 10, 13, 19)] 4 266 := ⟨kT_346, kT_347, kT_133, rfl, ⟨by decide +kernel, by decide +kernel, by decide +kernel⟩, by decide⟩
theorem fG_conflicts : gFm yX10_conflicts cX10_conflicts 6 (some .int) 2 268 := ⟨kT_348, kT_349, kT_350, kM_295, rfl, ⟨by decide +kernel, by decide +kernel, by decide +kernel⟩, by decide⟩
set_option maxRecDepth 100000 in
set_option maxHeartbeats 4000000 in
theorem g_case_36 {p : Program} {l : Launch} {e : Env} {s : State} {m : MethodId} {below : List Frame} {meth : Method} {c : Code} {H : Heap} {locs : List Loc} {cells slots : Nat} {Q : State → Prop} {ls : Array Slot} {dC : Nat → ClassId} {dI : Nat → Nat → Nat} {g : kG} {cZ : ClassId} {h o bb L i N : Nat} {a : Nat → Nat} {xs : Nat → Int32} {Z Z' : gZ} (hlt : l.stackTraces = false) (hi : i + 7 ≤ L) (hL : L ≤ 3584) (X : gX p s m meth c bb L xs dC dI g.1 cZ) (V : gV dC dI g h cZ a o s Z H locs) (hl : lv_has ls 7 (gLv bb (g.2.1 0) h o i)) (hcs : cells + 16 ≤ 601024 ∧ slots + 512 ≤ 7293034) (hpf : gCmp lZi (lPg lZi (lE1 1) (pX9_conflicts N (xs (i + 1)) (xs (i + 2)) Z.1) Z.2.2) (pf_conflicts N (xs (i + 1)) (xs (i + 2)) Z.2.1) = some Z')
    (kk : ∀ (cc2 cd2 : Nat → Nat) (ce2 : Nat) (H1 : Heap) (locs1 : List Loc) (ls1 : Array Slot), gV dC dI (g.1, g.2.1, cc2, cd2, ce2) h cZ a o s Z' H1 locs1 → lv_has ls1 7 (gLv bb (g.2.1 0) h o i) → W p l e room_1 s m #[Value.ref bb] below meth c H1 locs1 (cells + 16) (slots + 512) Q (F0 m 3094 ls1 [])) :
    W p l e room_1 s m #[Value.ref bb] below meth c H locs cells slots Q (F0 m 2827 ls []) := by
  obtain ⟨k, b9, hA, hB, ht, hv⟩ := gCmp_some hpf
  have hx := X.1
  have hb := X.2.1
  have hl : lv_has ls 7 [(0, .ref bb), (1, .ref (g.2.1 0)), (2, .ref h), (3, .ref o), (4, .int (nI i))] := hl
  refine lv_aload_n hx hb dL_law_2827 rfl (lv_at hl 1 rfl) ?_
  refine g_arg (k0 := 0) (k4 := 4) (k := 1) X V hl rfl rfl (by omega) hL rfl 2828 dL_law_2828 dL_law_2829 dL_law_2831 dL_law_2832 dL_law_2833 ?_
  refine g_arg (k0 := 0) (k4 := 4) (k := 2) X V hl rfl rfl (by omega) hL rfl 2834 dL_law_2834 dL_law_2835 dL_law_2837 dL_law_2838 dL_law_2839 ?_
  refine lv_aload_n hx hb dL_law_2840 rfl (lv_at hl 3 rfl) ?_
  refine g_callW (As := [.int (xs (i + 1)), .int (xs (i + 2))]) (rest := []) X V fW_conflicts (w_conflicts l hlt N (xs (i + 1)) (xs (i + 2))) (by decide) 2841 dL_law_2841 rfl hl.1 rfl (Nat.le_of_ble_eq_true rfl) ⟨by omega, by omega⟩ hA (fun cc2 cd2 ce2 H1 locs1 V => ?_)
  have V : gV dC dI (g.1, g.2.1, cc2, cd2, ce2) h cZ a o s (Z'.1, Z.2.1, Z'.2.2) H1 locs1 := V
  have X : gX p s m meth c bb L xs dC dI ((g.1, g.2.1, cc2, cd2, ce2) : kG).1 cZ := X
  refine W.widen (k := cells + 16) (n := slots + 512) (by omega) (by omega) ?_
  refine lv_istore (lv' := [(5, .int k), (0, .ref bb), (1, .ref (g.2.1 0)), (2, .ref h), (3, .ref o), (4, .int (nI i))]) hx hb dL_law_2844 hl (by decide) rfl (fun ls hl => ?_)
  refine lv_aload_n hx hb dL_law_2846 rfl (lv_at hl 3 rfl) ?_
  refine g_arg (k0 := 1) (k4 := 5) (k := 1) X V hl rfl rfl (by omega) hL rfl 2847 dL_law_2847 dL_law_2848 dL_law_2850 dL_law_2851 dL_law_2852 ?_
  refine g_arg (k0 := 1) (k4 := 5) (k := 2) X V hl rfl rfl (by omega) hL rfl 2853 dL_law_2853 dL_law_2854 dL_law_2856 dL_law_2857 dL_law_2858 ?_
  refine g_callM (As := [.int (xs (i + 1)), .int (xs (i + 2))]) (rest := []) X V fG_conflicts (c_conflicts l N (xs (i + 1)) (xs (i + 2))) (by decide) 2859 dL_law_2859 rfl hl.1 rfl (Nat.le_of_ble_eq_true rfl) ⟨by omega, by omega⟩ hB (fun H2 locs2 V2 => ?_)
  have V2 : gV dC dI (g.1, g.2.1, cc2, cd2, ce2) h cZ a o s Z' H2 locs2 := V2
  exact g_tail (N := N) 2862 X V2 ⟨dL_law_2862, dL_law_2864, dL_law_2865, dL_law_2868, dL_law_2870, dL_law_2875, dL_law_2877, dL_law_2880, dL_law_2881, dL_law_2882, dL_law_2883, dL_law_2885, dL_law_2886, dL_law_2887, dL_law_2892⟩ (by decide) hl ⟨by omega, by omega⟩ ht hv (fun H3 locs3 ls3 V3 hl3 => kk cc2 cd2 ce2 H3 locs3 ls3 V3 hl3)
theorem fW_knows : gFw yL_knows cL_knows 5 [(0, 10, 13, 19)] 4 269 := ⟨kT_351, kT_352, kT_134, rfl, ⟨by decide +kernel, by decide +kernel, by decide +kernel⟩, by decide⟩
theorem fG_knows : gFm yX10_knows cX10_knows 3 (some .int) 2 271 := ⟨kT_356, kT_357, kT_358, kM_296, rfl, ⟨by decide +kernel, by decide +kernel, by decide +kernel⟩, by decide⟩
set_option maxRecDepth 100000 in
set_option maxHeartbeats 4000000 in
theorem g_case_37 {p : Program} {l : Launch} {e : Env} {s : State} {m : MethodId} {below : List Frame} {meth : Method} {c : Code} {H : Heap} {locs : List Loc} {cells slots : Nat} {Q : State → Prop} {ls : Array Slot} {dC : Nat → ClassId} {dI : Nat → Nat → Nat} {g : kG} {cZ : ClassId} {h o bb L i N : Nat} {a : Nat → Nat} {xs : Nat → Int32} {Z Z' : gZ} (hlt : l.stackTraces = false) (hi : i + 7 ≤ L) (hL : L ≤ 3584) (X : gX p s m meth c bb L xs dC dI g.1 cZ) (V : gV dC dI g h cZ a o s Z H locs) (hl : lv_has ls 7 (gLv bb (g.2.1 0) h o i)) (hcs : cells + 16 ≤ 601024 ∧ slots + 512 ≤ 7293034) (hpf : gCmp lZi (lPg lZi (lE1 1) (pX9_knows N (xs (i + 1)) (xs (i + 2)) Z.1) Z.2.2) (pf_knows N (xs (i + 1)) (xs (i + 2)) Z.2.1) = some Z')
    (kk : ∀ (cc2 cd2 : Nat → Nat) (ce2 : Nat) (H1 : Heap) (locs1 : List Loc) (ls1 : Array Slot), gV dC dI (g.1, g.2.1, cc2, cd2, ce2) h cZ a o s Z' H1 locs1 → lv_has ls1 7 (gLv bb (g.2.1 0) h o i) → W p l e room_1 s m #[Value.ref bb] below meth c H1 locs1 (cells + 16) (slots + 512) Q (F0 m 3094 ls1 [])) :
    W p l e room_1 s m #[Value.ref bb] below meth c H locs cells slots Q (F0 m 2895 ls []) := by
  obtain ⟨k, b9, hA, hB, ht, hv⟩ := gCmp_some hpf
  have hx := X.1
  have hb := X.2.1
  have hl : lv_has ls 7 [(0, .ref bb), (1, .ref (g.2.1 0)), (2, .ref h), (3, .ref o), (4, .int (nI i))] := hl
  refine lv_aload_n hx hb dL_law_2895 rfl (lv_at hl 1 rfl) ?_
  refine g_arg (k0 := 0) (k4 := 4) (k := 1) X V hl rfl rfl (by omega) hL rfl 2896 dL_law_2896 dL_law_2897 dL_law_2899 dL_law_2900 dL_law_2901 ?_
  refine g_arg (k0 := 0) (k4 := 4) (k := 2) X V hl rfl rfl (by omega) hL rfl 2902 dL_law_2902 dL_law_2903 dL_law_2905 dL_law_2906 dL_law_2907 ?_
  refine lv_aload_n hx hb dL_law_2908 rfl (lv_at hl 3 rfl) ?_
  refine g_callW (As := [.int (xs (i + 1)), .int (xs (i + 2))]) (rest := []) X V fW_knows (w_knows l hlt N (xs (i + 1)) (xs (i + 2))) (by decide) 2909 dL_law_2909 rfl hl.1 rfl (Nat.le_of_ble_eq_true rfl) ⟨by omega, by omega⟩ hA (fun cc2 cd2 ce2 H1 locs1 V => ?_)
  have V : gV dC dI (g.1, g.2.1, cc2, cd2, ce2) h cZ a o s (Z'.1, Z.2.1, Z'.2.2) H1 locs1 := V
  have X : gX p s m meth c bb L xs dC dI ((g.1, g.2.1, cc2, cd2, ce2) : kG).1 cZ := X
  refine W.widen (k := cells + 16) (n := slots + 512) (by omega) (by omega) ?_
  refine lv_istore (lv' := [(5, .int k), (0, .ref bb), (1, .ref (g.2.1 0)), (2, .ref h), (3, .ref o), (4, .int (nI i))]) hx hb dL_law_2912 hl (by decide) rfl (fun ls hl => ?_)
  refine lv_aload_n hx hb dL_law_2914 rfl (lv_at hl 3 rfl) ?_
  refine g_arg (k0 := 1) (k4 := 5) (k := 1) X V hl rfl rfl (by omega) hL rfl 2915 dL_law_2915 dL_law_2916 dL_law_2918 dL_law_2919 dL_law_2920 ?_
  refine g_arg (k0 := 1) (k4 := 5) (k := 2) X V hl rfl rfl (by omega) hL rfl 2921 dL_law_2921 dL_law_2922 dL_law_2924 dL_law_2925 dL_law_2926 ?_
  refine g_callM (As := [.int (xs (i + 1)), .int (xs (i + 2))]) (rest := []) X V fG_knows (c_knows l N (xs (i + 1)) (xs (i + 2))) (by decide) 2927 dL_law_2927 rfl hl.1 rfl (Nat.le_of_ble_eq_true rfl) ⟨by omega, by omega⟩ hB (fun H2 locs2 V2 => ?_)
  have V2 : gV dC dI (g.1, g.2.1, cc2, cd2, ce2) h cZ a o s Z' H2 locs2 := V2
  exact g_tail (N := N) 2930 X V2 ⟨dL_law_2930, dL_law_2932, dL_law_2933, dL_law_2936, dL_law_2938, dL_law_2943, dL_law_2945, dL_law_2948, dL_law_2949, dL_law_2950, dL_law_2951, dL_law_2953, dL_law_2954, dL_law_2955, dL_law_2960⟩ (by decide) hl ⟨by omega, by omega⟩ ht hv (fun H3 locs3 ls3 V3 hl3 => kk cc2 cd2 ce2 H3 locs3 ls3 V3 hl3)
theorem fW_marks : gFw yL_marks cL_marks 4 [(0, 9, 12, 19)] 3 272 := ⟨kT_359, kT_360, kT_138, rfl, ⟨by decide +kernel, by decide +kernel, by decide +kernel⟩, by decide⟩
theorem fG_marks : gFm yX10_marks cX10_marks 2 (some .int) 1 274 := ⟨kT_361, kT_362, kT_363, kM_297, rfl, ⟨by decide +kernel, by decide +kernel, by decide +kernel⟩, by decide⟩
set_option maxRecDepth 100000 in
set_option maxHeartbeats 4000000 in
theorem g_case_38 {p : Program} {l : Launch} {e : Env} {s : State} {m : MethodId} {below : List Frame} {meth : Method} {c : Code} {H : Heap} {locs : List Loc} {cells slots : Nat} {Q : State → Prop} {ls : Array Slot} {dC : Nat → ClassId} {dI : Nat → Nat → Nat} {g : kG} {cZ : ClassId} {h o bb L i N : Nat} {a : Nat → Nat} {xs : Nat → Int32} {Z Z' : gZ} (hlt : l.stackTraces = false) (hi : i + 7 ≤ L) (hL : L ≤ 3584) (X : gX p s m meth c bb L xs dC dI g.1 cZ) (V : gV dC dI g h cZ a o s Z H locs) (hl : lv_has ls 7 (gLv bb (g.2.1 0) h o i)) (hcs : cells + 16 ≤ 601024 ∧ slots + 512 ≤ 7293034) (hpf : gCmp lZi (lPg lZi (lE1 1) (pX9_marks N (xs (i + 1)) Z.1) Z.2.2) (pf_marks N (xs (i + 1)) Z.2.1) = some Z')
    (kk : ∀ (cc2 cd2 : Nat → Nat) (ce2 : Nat) (H1 : Heap) (locs1 : List Loc) (ls1 : Array Slot), gV dC dI (g.1, g.2.1, cc2, cd2, ce2) h cZ a o s Z' H1 locs1 → lv_has ls1 7 (gLv bb (g.2.1 0) h o i) → W p l e room_1 s m #[Value.ref bb] below meth c H1 locs1 (cells + 16) (slots + 512) Q (F0 m 3094 ls1 [])) :
    W p l e room_1 s m #[Value.ref bb] below meth c H locs cells slots Q (F0 m 2963 ls []) := by
  obtain ⟨k, b9, hA, hB, ht, hv⟩ := gCmp_some hpf
  have hx := X.1
  have hb := X.2.1
  have hl : lv_has ls 7 [(0, .ref bb), (1, .ref (g.2.1 0)), (2, .ref h), (3, .ref o), (4, .int (nI i))] := hl
  refine lv_aload_n hx hb dL_law_2963 rfl (lv_at hl 1 rfl) ?_
  refine g_arg (k0 := 0) (k4 := 4) (k := 1) X V hl rfl rfl (by omega) hL rfl 2964 dL_law_2964 dL_law_2965 dL_law_2967 dL_law_2968 dL_law_2969 ?_
  refine lv_aload_n hx hb dL_law_2970 rfl (lv_at hl 3 rfl) ?_
  refine g_callW (As := [.int (xs (i + 1))]) (rest := []) X V fW_marks (w_marks l hlt N (xs (i + 1))) (by decide) 2971 dL_law_2971 rfl hl.1 rfl (Nat.le_of_ble_eq_true rfl) ⟨by omega, by omega⟩ hA (fun cc2 cd2 ce2 H1 locs1 V => ?_)
  have V : gV dC dI (g.1, g.2.1, cc2, cd2, ce2) h cZ a o s (Z'.1, Z.2.1, Z'.2.2) H1 locs1 := V
  have X : gX p s m meth c bb L xs dC dI ((g.1, g.2.1, cc2, cd2, ce2) : kG).1 cZ := X
  refine W.widen (k := cells + 16) (n := slots + 512) (by omega) (by omega) ?_
  refine lv_istore (lv' := [(5, .int k), (0, .ref bb), (1, .ref (g.2.1 0)), (2, .ref h), (3, .ref o), (4, .int (nI i))]) hx hb dL_law_2974 hl (by decide) rfl (fun ls hl => ?_)
  refine lv_aload_n hx hb dL_law_2976 rfl (lv_at hl 3 rfl) ?_
  refine g_arg (k0 := 1) (k4 := 5) (k := 1) X V hl rfl rfl (by omega) hL rfl 2977 dL_law_2977 dL_law_2978 dL_law_2980 dL_law_2981 dL_law_2982 ?_
  refine g_callM (As := [.int (xs (i + 1))]) (rest := []) X V fG_marks (c_marks l N (xs (i + 1))) (by decide) 2983 dL_law_2983 rfl hl.1 rfl (Nat.le_of_ble_eq_true rfl) ⟨by omega, by omega⟩ hB (fun H2 locs2 V2 => ?_)
  have V2 : gV dC dI (g.1, g.2.1, cc2, cd2, ce2) h cZ a o s Z' H2 locs2 := V2
  exact g_tail (N := N) 2986 X V2 ⟨dL_law_2986, dL_law_2988, dL_law_2989, dL_law_2992, dL_law_2994, dL_law_2999, dL_law_3001, dL_law_3004, dL_law_3005, dL_law_3006, dL_law_3007, dL_law_3009, dL_law_3010, dL_law_3011, dL_law_3016⟩ (by decide) hl ⟨by omega, by omega⟩ ht hv (fun H3 locs3 ls3 V3 hl3 => kk cc2 cd2 ce2 H3 locs3 ls3 V3 hl3)
theorem fW_areAlike : gFw yL_areAlike cL_areAlike 5 [(0, 17, 20, 19)] 4 275 := ⟨kT_364, kT_365, kT_142, rfl, ⟨by decide +kernel, by decide +kernel, by decide +kernel⟩, by decide⟩
theorem fG_areAlike : gFm yX10_areAlike cX10_areAlike 3 (some .boolean) 2 277 := ⟨kT_366, kT_367, kT_368, kM_311, rfl, ⟨by decide +kernel, by decide +kernel, by decide +kernel⟩, by decide⟩
set_option maxRecDepth 100000 in
set_option maxHeartbeats 4000000 in
theorem g_case_39 {p : Program} {l : Launch} {e : Env} {s : State} {m : MethodId} {below : List Frame} {meth : Method} {c : Code} {H : Heap} {locs : List Loc} {cells slots : Nat} {Q : State → Prop} {ls : Array Slot} {dC : Nat → ClassId} {dI : Nat → Nat → Nat} {g : kG} {cZ : ClassId} {h o bb L i N : Nat} {a : Nat → Nat} {xs : Nat → Int32} {Z Z' : gZ} (hlt : l.stackTraces = false) (hi : i + 7 ≤ L) (hL : L ≤ 3584) (X : gX p s m meth c bb L xs dC dI g.1 cZ) (V : gV dC dI g h cZ a o s Z H locs) (hl : lv_has ls 7 (gLv bb (g.2.1 0) h o i)) (hcs : cells + 16 ≤ 601024 ∧ slots + 512 ≤ 7293034) (hpf : gCmp lZb (lPg lZb (lE1 1) (pX9_areAlike N (xs (i + 1)) (xs (i + 2)) Z.1) Z.2.2) (pf_areAlike N (xs (i + 1)) (xs (i + 2)) Z.2.1) = some Z')
    (kk : ∀ (cc2 cd2 : Nat → Nat) (ce2 : Nat) (H1 : Heap) (locs1 : List Loc) (ls1 : Array Slot), gV dC dI (g.1, g.2.1, cc2, cd2, ce2) h cZ a o s Z' H1 locs1 → lv_has ls1 7 (gLv bb (g.2.1 0) h o i) → W p l e room_1 s m #[Value.ref bb] below meth c H1 locs1 (cells + 16) (slots + 512) Q (F0 m 3094 ls1 [])) :
    W p l e room_1 s m #[Value.ref bb] below meth c H locs cells slots Q (F0 m 3019 ls []) := by
  obtain ⟨k, b9, hA, hB, ht, hv⟩ := gCmp_some hpf
  have hx := X.1
  have hb := X.2.1
  have hl : lv_has ls 7 [(0, .ref bb), (1, .ref (g.2.1 0)), (2, .ref h), (3, .ref o), (4, .int (nI i))] := hl
  refine lv_aload_n hx hb dL_law_3019 rfl (lv_at hl 1 rfl) ?_
  refine g_arg (k0 := 0) (k4 := 4) (k := 1) X V hl rfl rfl (by omega) hL rfl 3020 dL_law_3020 dL_law_3021 dL_law_3023 dL_law_3024 dL_law_3025 ?_
  refine g_arg (k0 := 0) (k4 := 4) (k := 2) X V hl rfl rfl (by omega) hL rfl 3026 dL_law_3026 dL_law_3027 dL_law_3029 dL_law_3030 dL_law_3031 ?_
  refine lv_aload_n hx hb dL_law_3032 rfl (lv_at hl 3 rfl) ?_
  refine g_callW (As := [.int (xs (i + 1)), .int (xs (i + 2))]) (rest := []) X V fW_areAlike (w_areAlike l hlt N (xs (i + 1)) (xs (i + 2))) (by decide) 3033 dL_law_3033 rfl hl.1 rfl (Nat.le_of_ble_eq_true rfl) ⟨by omega, by omega⟩ hA (fun cc2 cd2 ce2 H1 locs1 V => ?_)
  have V : gV dC dI (g.1, g.2.1, cc2, cd2, ce2) h cZ a o s (Z'.1, Z.2.1, Z'.2.2) H1 locs1 := V
  have X : gX p s m meth c bb L xs dC dI ((g.1, g.2.1, cc2, cd2, ce2) : kG).1 cZ := X
  refine W.widen (k := cells + 16) (n := slots + 512) (by omega) (by omega) ?_
  refine lv_istore (lv' := [(5, .int k), (0, .ref bb), (1, .ref (g.2.1 0)), (2, .ref h), (3, .ref o), (4, .int (nI i))]) hx hb dL_law_3036 hl (by decide) rfl (fun ls hl => ?_)
  refine lv_aload_n hx hb dL_law_3038 rfl (lv_at hl 3 rfl) ?_
  refine g_arg (k0 := 1) (k4 := 5) (k := 1) X V hl rfl rfl (by omega) hL rfl 3039 dL_law_3039 dL_law_3040 dL_law_3042 dL_law_3043 dL_law_3044 ?_
  refine g_arg (k0 := 1) (k4 := 5) (k := 2) X V hl rfl rfl (by omega) hL rfl 3045 dL_law_3045 dL_law_3046 dL_law_3048 dL_law_3049 dL_law_3050 ?_
  refine g_callM (As := [.int (xs (i + 1)), .int (xs (i + 2))]) (rest := []) X V fG_areAlike (c_areAlike l N (xs (i + 1)) (xs (i + 2))) (by decide) 3051 dL_law_3051 rfl hl.1 rfl (Nat.le_of_ble_eq_true rfl) ⟨by omega, by omega⟩ hB (fun H2 locs2 V2 => ?_)
  have V2 : gV dC dI (g.1, g.2.1, cc2, cd2, ce2) h cZ a o s Z' H2 locs2 := V2
  exact g_tailZ (N := N) 3054 X V2 ⟨dL_law_3054, dL_law_3056, dL_law_3057, dL_law_3060, dL_law_3062, dL_law_3067, dL_law_3069, dL_law_3072, dL_law_3073, dL_law_3074, dL_law_3075, dL_law_3077, dL_law_3080, dL_law_3081, dL_law_3084, dL_law_3085, dL_law_3086, dL_law_3091⟩ (by decide) hl ⟨by omega, by omega⟩ ht hv (fun H3 locs3 ls3 V3 hl3 => kk cc2 cd2 ce2 H3 locs3 ls3 V3 hl3)
