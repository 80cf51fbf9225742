theorem fW_attribute : gFw yL_attribute cL_attribute 5 [(0, 10, 13, 13)] 4 143 := ⟨kT_151, kT_152, kT_0, rfl, ⟨by decide +kernel, by decide +kernel, by decide +kernel⟩, by decide⟩
theorem fG_attribute : gFm yX10_attribute cX10_attribute 3 (some .int) 2 148 := ⟨kT_157, kT_158, kT_159, kM_138, rfl, ⟨by decide +kernel, by decide +kernel, by decide +kernel⟩, by decide⟩
set_option maxRecDepth 100000 in
set_option maxHeartbeats 4000000 in
theorem g_case_0 {p : Program} {l : Launch} {e : Env} {s : State} {m : MethodId} {below : List Frame} {meth : Method} {c : Code} {H : Heap} {locs : List Loc} {cells slots : Nat} {Q : State → Prop} {ls : Array Slot} {dC : Nat → ClassId} {dI : Nat → Nat → Nat} {g : kG} {cZ : ClassId} {h o bb L i N : Nat} {a : Nat → Nat} {xs : Nat → Int32} {Z Z' : gZ} (hlt : l.stackTraces = false) (hi : i + 7 ≤ L) (hL : L ≤ 3584) (X : gX p s m meth c bb L xs dC dI g.1 cZ) (V : gV dC dI g h cZ a o s Z H locs) (hl : lv_has ls 7 (gLv bb (g.2.1 0) h o i)) (hcs : cells + 16 ≤ 601024 ∧ slots + 512 ≤ 7293034) (hpf : gCmp lZi (lPg lZi (lE1 3) (pX9_attribute N (gB (xs (i + 1))) (gB (xs (i + 2))) Z.1) Z.2.2) (pf_attribute N (gB (xs (i + 1))) (gB (xs (i + 2))) Z.2.1) = some Z')
    (kk : ∀ (cc2 cd2 : Nat → Nat) (ce2 : Nat) (H1 : Heap) (locs1 : List Loc) (ls1 : Array Slot), gV dC dI (g.1, g.2.1, cc2, cd2, ce2) h cZ a o s Z' H1 locs1 → lv_has ls1 7 (gLv bb (g.2.1 0) h o i) → W p l e room_1 s m #[Value.ref bb] below meth c H1 locs1 (cells + 16) (slots + 512) Q (F0 m 3094 ls1 [])) :
    W p l e room_1 s m #[Value.ref bb] below meth c H locs cells slots Q (F0 m 216 ls []) := by
  obtain ⟨k, b9, hA, hB, ht, hv⟩ := gCmp_some hpf
  have hx := X.1
  have hb := X.2.1
  have hl : lv_has ls 7 [(0, .ref bb), (1, .ref (g.2.1 0)), (2, .ref h), (3, .ref o), (4, .int (nI i))] := hl
  refine lv_aload_n hx hb dL_law_216 rfl (lv_at hl 1 rfl) ?_
  refine g_arg (k0 := 0) (k4 := 4) (k := 1) X V hl rfl rfl (by omega) hL rfl 217 dL_law_217 dL_law_218 dL_law_220 dL_law_221 dL_law_222 ?_
  refine g_bool X 223 dL_law_223 dL_law_226 dL_law_227 dL_law_230 ?_
  refine g_arg (k0 := 0) (k4 := 4) (k := 2) X V hl rfl rfl (by omega) hL rfl 231 dL_law_231 dL_law_232 dL_law_234 dL_law_235 dL_law_236 ?_
  refine g_bool X 237 dL_law_237 dL_law_240 dL_law_241 dL_law_244 ?_
  refine lv_aload_n hx hb dL_law_245 rfl (lv_at hl 3 rfl) ?_
  refine g_callW (As := [.int (gB (xs (i + 1))), .int (gB (xs (i + 2)))]) (rest := []) X V fW_attribute (w_attribute l hlt N (gB (xs (i + 1))) (gB (xs (i + 2)))) (by decide) 246 dL_law_246 rfl hl.1 rfl (Nat.le_of_ble_eq_true rfl) ⟨by omega, by omega⟩ hA (fun cc2 cd2 ce2 H1 locs1 V => ?_)
  have V : gV dC dI (g.1, g.2.1, cc2, cd2, ce2) h cZ a o s (Z'.1, Z.2.1, Z'.2.2) H1 locs1 := V
  have X : gX p s m meth c bb L xs dC dI ((g.1, g.2.1, cc2, cd2, ce2) : kG).1 cZ := X
  refine W.widen (k := cells + 16) (n := slots + 512) (by omega) (by omega) ?_
  refine lv_istore (lv' := [(5, .int k), (0, .ref bb), (1, .ref (g.2.1 0)), (2, .ref h), (3, .ref o), (4, .int (nI i))]) hx hb dL_law_249 hl (by decide) rfl (fun ls hl => ?_)
  refine lv_aload_n hx hb dL_law_251 rfl (lv_at hl 3 rfl) ?_
  refine g_arg (k0 := 1) (k4 := 5) (k := 1) X V hl rfl rfl (by omega) hL rfl 252 dL_law_252 dL_law_253 dL_law_255 dL_law_256 dL_law_257 ?_
  refine g_bool X 258 dL_law_258 dL_law_261 dL_law_262 dL_law_265 ?_
  refine g_arg (k0 := 1) (k4 := 5) (k := 2) X V hl rfl rfl (by omega) hL rfl 266 dL_law_266 dL_law_267 dL_law_269 dL_law_270 dL_law_271 ?_
  refine g_bool X 272 dL_law_272 dL_law_275 dL_law_276 dL_law_279 ?_
  refine g_callM (As := [.int (gB (xs (i + 1))), .int (gB (xs (i + 2)))]) (rest := []) X V fG_attribute (c_attribute l N (gB (xs (i + 1))) (gB (xs (i + 2)))) (by decide) 280 dL_law_280 rfl hl.1 rfl (Nat.le_of_ble_eq_true rfl) ⟨by omega, by omega⟩ hB (fun H2 locs2 V2 => ?_)
  have V2 : gV dC dI (g.1, g.2.1, cc2, cd2, ce2) h cZ a o s Z' H2 locs2 := V2
  exact g_tail (N := N) 283 X V2 ⟨dL_law_283, dL_law_285, dL_law_286, dL_law_289, dL_law_291, dL_law_296, dL_law_298, dL_law_301, dL_law_302, dL_law_303, dL_law_304, dL_law_306, dL_law_307, dL_law_308, dL_law_313⟩ (by decide) hl ⟨by omega, by omega⟩ ht hv (fun H3 locs3 ls3 V3 hl3 => kk cc2 cd2 ce2 H3 locs3 ls3 V3 hl3)
theorem fW_objectClass : gFw yL_objectClass cL_objectClass 6 [(0, 12, 15, 19), (0, 12, 19, 13)] 5 152 := ⟨kT_163, kT_164, kT_6, rfl, ⟨by decide +kernel, by decide +kernel, by decide +kernel⟩, by decide⟩
theorem fG_objectClass : gFm yX10_objectClass cX10_objectClass 4 (some .int) 3 155 := ⟨kT_165, kT_166, kT_167, kM_142, rfl, ⟨by decide +kernel, by decide +kernel, by decide +kernel⟩, by decide⟩
set_option maxRecDepth 100000 in
set_option maxHeartbeats 4000000 in
theorem g_case_1 {p : Program} {l : Launch} {e : Env} {s : State} {m : MethodId} {below : List Frame} {meth : Method} {c : Code} {H : Heap} {locs : List Loc} {cells slots : Nat} {Q : State → Prop} {ls : Array Slot} {dC : Nat → ClassId} {dI : Nat → Nat → Nat} {g : kG} {cZ : ClassId} {h o bb L i N : Nat} {a : Nat → Nat} {xs : Nat → Int32} {Z Z' : gZ} (hlt : l.stackTraces = false) (hi : i + 7 ≤ L) (hL : L ≤ 3584) (X : gX p s m meth c bb L xs dC dI g.1 cZ) (V : gV dC dI g h cZ a o s Z H locs) (hl : lv_has ls 7 (gLv bb (g.2.1 0) h o i)) (hcs : cells + 16 ≤ 601024 ∧ slots + 512 ≤ 7293034) (hpf : gCmp lZi (lPg lZi (lE2 1 3) (pX9_objectClass N (xs (i + 1)) (xs (i + 2)) (xs (i + 3)) Z.1) Z.2.2) (pf_objectClass N (xs (i + 1)) (xs (i + 2)) (xs (i + 3)) Z.2.1) = some Z')
    (kk : ∀ (cc2 cd2 : Nat → Nat) (ce2 : Nat) (H1 : Heap) (locs1 : List Loc) (ls1 : Array Slot), gV dC dI (g.1, g.2.1, cc2, cd2, ce2) h cZ a o s Z' H1 locs1 → lv_has ls1 7 (gLv bb (g.2.1 0) h o i) → W p l e room_1 s m #[Value.ref bb] below meth c H1 locs1 (cells + 16) (slots + 512) Q (F0 m 3094 ls1 [])) :
    W p l e room_1 s m #[Value.ref bb] below meth c H locs cells slots Q (F0 m 316 ls []) := by
  obtain ⟨k, b9, hA, hB, ht, hv⟩ := gCmp_some hpf
  have hx := X.1
  have hb := X.2.1
  have hl : lv_has ls 7 [(0, .ref bb), (1, .ref (g.2.1 0)), (2, .ref h), (3, .ref o), (4, .int (nI i))] := hl
  refine lv_aload_n hx hb dL_law_316 rfl (lv_at hl 1 rfl) ?_
  refine g_arg (k0 := 0) (k4 := 4) (k := 1) X V hl rfl rfl (by omega) hL rfl 317 dL_law_317 dL_law_318 dL_law_320 dL_law_321 dL_law_322 ?_
  refine g_arg (k0 := 0) (k4 := 4) (k := 2) X V hl rfl rfl (by omega) hL rfl 323 dL_law_323 dL_law_324 dL_law_326 dL_law_327 dL_law_328 ?_
  refine g_arg (k0 := 0) (k4 := 4) (k := 3) X V hl rfl rfl (by omega) hL rfl 329 dL_law_329 dL_law_330 dL_law_332 dL_law_333 dL_law_334 ?_
  refine lv_aload_n hx hb dL_law_335 rfl (lv_at hl 3 rfl) ?_
  refine g_callW (As := [.int (xs (i + 1)), .int (xs (i + 2)), .int (xs (i + 3))]) (rest := []) X V fW_objectClass (w_objectClass l hlt N (xs (i + 1)) (xs (i + 2)) (xs (i + 3))) (by decide) 336 dL_law_336 rfl hl.1 rfl (Nat.le_of_ble_eq_true rfl) ⟨by omega, by omega⟩ hA (fun cc2 cd2 ce2 H1 locs1 V => ?_)
  have V : gV dC dI (g.1, g.2.1, cc2, cd2, ce2) h cZ a o s (Z'.1, Z.2.1, Z'.2.2) H1 locs1 := V
  have X : gX p s m meth c bb L xs dC dI ((g.1, g.2.1, cc2, cd2, ce2) : kG).1 cZ := X
  refine W.widen (k := cells + 16) (n := slots + 512) (by omega) (by omega) ?_
  refine lv_istore (lv' := [(5, .int k), (0, .ref bb), (1, .ref (g.2.1 0)), (2, .ref h), (3, .ref o), (4, .int (nI i))]) hx hb dL_law_339 hl (by decide) rfl (fun ls hl => ?_)
  refine lv_aload_n hx hb dL_law_341 rfl (lv_at hl 3 rfl) ?_
  refine g_arg (k0 := 1) (k4 := 5) (k := 1) X V hl rfl rfl (by omega) hL rfl 342 dL_law_342 dL_law_343 dL_law_345 dL_law_346 dL_law_347 ?_
  refine g_arg (k0 := 1) (k4 := 5) (k := 2) X V hl rfl rfl (by omega) hL rfl 348 dL_law_348 dL_law_349 dL_law_351 dL_law_352 dL_law_353 ?_
  refine g_arg (k0 := 1) (k4 := 5) (k := 3) X V hl rfl rfl (by omega) hL rfl 354 dL_law_354 dL_law_355 dL_law_357 dL_law_358 dL_law_359 ?_
  refine g_callM (As := [.int (xs (i + 1)), .int (xs (i + 2)), .int (xs (i + 3))]) (rest := []) X V fG_objectClass (c_objectClass l N (xs (i + 1)) (xs (i + 2)) (xs (i + 3))) (by decide) 360 dL_law_360 rfl hl.1 rfl (Nat.le_of_ble_eq_true rfl) ⟨by omega, by omega⟩ hB (fun H2 locs2 V2 => ?_)
  have V2 : gV dC dI (g.1, g.2.1, cc2, cd2, ce2) h cZ a o s Z' H2 locs2 := V2
  exact g_tail (N := N) 363 X V2 ⟨dL_law_363, dL_law_365, dL_law_366, dL_law_369, dL_law_371, dL_law_376, dL_law_378, dL_law_381, dL_law_382, dL_law_383, dL_law_384, dL_law_386, dL_law_387, dL_law_388, dL_law_393⟩ (by decide) hl ⟨by omega, by omega⟩ ht hv (fun H3 locs3 ls3 V3 hl3 => kk cc2 cd2 ce2 H3 locs3 ls3 V3 hl3)
theorem fW_serve : gFw yL_serve cL_serve 5 [(0, 10, 13, 19)] 4 156 := ⟨kT_168, kT_169, kT_7, rfl, ⟨by decide +kernel, by decide +kernel, by decide +kernel⟩, by decide⟩
theorem fG_serve : gFm yX10_serve cX10_serve 4 (some .int) 2 159 := ⟨kT_173, kT_174, kT_175, kM_143, rfl, ⟨by decide +kernel, by decide +kernel, by decide +kernel⟩, by decide⟩
set_option maxRecDepth 100000 in
set_option maxHeartbeats 4000000 in
theorem g_case_2 {p : Program} {l : Launch} {e : Env} {s : State} {m : MethodId} {below : List Frame} {meth : Method} {c : Code} {H : Heap} {locs : List Loc} {cells slots : Nat} {Q : State → Prop} {ls : Array Slot} {dC : Nat → ClassId} {dI : Nat → Nat → Nat} {g : kG} {cZ : ClassId} {h o bb L i N : Nat} {a : Nat → Nat} {xs : Nat → Int32} {Z Z' : gZ} (hlt : l.stackTraces = false) (hi : i + 7 ≤ L) (hL : L ≤ 3584) (X : gX p s m meth c bb L xs dC dI g.1 cZ) (V : gV dC dI g h cZ a o s Z H locs) (hl : lv_has ls 7 (gLv bb (g.2.1 0) h o i)) (hcs : cells + 16 ≤ 601024 ∧ slots + 512 ≤ 7293034) (hpf : gCmp lZi (lPg lZi (lE1 1) (pX9_serve N (xs (i + 1)) (xs (i + 2)) Z.1) Z.2.2) (pf_serve N (xs (i + 1)) (xs (i + 2)) Z.2.1) = some Z')
    (kk : ∀ (cc2 cd2 : Nat → Nat) (ce2 : Nat) (H1 : Heap) (locs1 : List Loc) (ls1 : Array Slot), gV dC dI (g.1, g.2.1, cc2, cd2, ce2) h cZ a o s Z' H1 locs1 → lv_has ls1 7 (gLv bb (g.2.1 0) h o i) → W p l e room_1 s m #[Value.ref bb] below meth c H1 locs1 (cells + 16) (slots + 512) Q (F0 m 3094 ls1 [])) :
    W p l e room_1 s m #[Value.ref bb] below meth c H locs cells slots Q (F0 m 396 ls []) := by
  obtain ⟨k, b9, hA, hB, ht, hv⟩ := gCmp_some hpf
  have hx := X.1
  have hb := X.2.1
  have hl : lv_has ls 7 [(0, .ref bb), (1, .ref (g.2.1 0)), (2, .ref h), (3, .ref o), (4, .int (nI i))] := hl
  refine lv_aload_n hx hb dL_law_396 rfl (lv_at hl 1 rfl) ?_
  refine g_arg (k0 := 0) (k4 := 4) (k := 1) X V hl rfl rfl (by omega) hL rfl 397 dL_law_397 dL_law_398 dL_law_400 dL_law_401 dL_law_402 ?_
  refine g_arg (k0 := 0) (k4 := 4) (k := 2) X V hl rfl rfl (by omega) hL rfl 403 dL_law_403 dL_law_404 dL_law_406 dL_law_407 dL_law_408 ?_
  refine lv_aload_n hx hb dL_law_409 rfl (lv_at hl 3 rfl) ?_
  refine g_callW (As := [.int (xs (i + 1)), .int (xs (i + 2))]) (rest := []) X V fW_serve (w_serve l hlt N (xs (i + 1)) (xs (i + 2))) (by decide) 410 dL_law_410 rfl hl.1 rfl (Nat.le_of_ble_eq_true rfl) ⟨by omega, by omega⟩ hA (fun cc2 cd2 ce2 H1 locs1 V => ?_)
  have V : gV dC dI (g.1, g.2.1, cc2, cd2, ce2) h cZ a o s (Z'.1, Z.2.1, Z'.2.2) H1 locs1 := V
  have X : gX p s m meth c bb L xs dC dI ((g.1, g.2.1, cc2, cd2, ce2) : kG).1 cZ := X
  refine W.widen (k := cells + 16) (n := slots + 512) (by omega) (by omega) ?_
  refine lv_istore (lv' := [(5, .int k), (0, .ref bb), (1, .ref (g.2.1 0)), (2, .ref h), (3, .ref o), (4, .int (nI i))]) hx hb dL_law_413 hl (by decide) rfl (fun ls hl => ?_)
  refine lv_aload_n hx hb dL_law_415 rfl (lv_at hl 3 rfl) ?_
  refine g_arg (k0 := 1) (k4 := 5) (k := 1) X V hl rfl rfl (by omega) hL rfl 416 dL_law_416 dL_law_417 dL_law_419 dL_law_420 dL_law_421 ?_
  refine g_arg (k0 := 1) (k4 := 5) (k := 2) X V hl rfl rfl (by omega) hL rfl 422 dL_law_422 dL_law_423 dL_law_425 dL_law_426 dL_law_427 ?_
  refine g_callM (As := [.int (xs (i + 1)), .int (xs (i + 2))]) (rest := []) X V fG_serve (c_serve l N (xs (i + 1)) (xs (i + 2))) (by decide) 428 dL_law_428 rfl hl.1 rfl (Nat.le_of_ble_eq_true rfl) ⟨by omega, by omega⟩ hB (fun H2 locs2 V2 => ?_)
  have V2 : gV dC dI (g.1, g.2.1, cc2, cd2, ce2) h cZ a o s Z' H2 locs2 := V2
  exact g_tail (N := N) 431 X V2 ⟨dL_law_431, dL_law_433, dL_law_434, dL_law_437, dL_law_439, dL_law_444, dL_law_446, dL_law_449, dL_law_450, dL_law_451, dL_law_452, dL_law_454, dL_law_455, dL_law_456, dL_law_461⟩ (by decide) hl ⟨by omega, by omega⟩ ht hv (fun H3 locs3 ls3 V3 hl3 => kk cc2 cd2 ce2 H3 locs3 ls3 V3 hl3)
theorem fW_draft : gFw yL_draft cL_draft 5 [(0, 10, 13, 19), (0, 10, 17, 28), (0, 10, 21, 13)] 4 160 := ⟨kT_176, kT_177, kT_12, rfl, ⟨by decide +kernel, by decide +kernel, by decide +kernel⟩, by decide⟩
theorem fG_draft : gFm yX10_draft cX10_draft 3 (some .int) 2 162 := ⟨kT_178, kT_179, kT_180, kM_144, rfl, ⟨by decide +kernel, by decide +kernel, by decide +kernel⟩, by decide⟩
set_option maxRecDepth 100000 in
set_option maxHeartbeats 4000000 in
theorem g_case_3 {p : Program} {l : Launch} {e : Env} {s : State} {m : MethodId} {below : List Frame} {meth : Method} {c : Code} {H : Heap} {locs : List Loc} {cells slots : Nat} {Q : State → Prop} {ls : Array Slot} {dC : Nat → ClassId} {dI : Nat → Nat → Nat} {g : kG} {cZ : ClassId} {h o bb L i N : Nat} {a : Nat → Nat} {xs : Nat → Int32} {Z Z' : gZ} (hlt : l.stackTraces = false) (hi : i + 7 ≤ L) (hL : L ≤ 3584) (X : gX p s m meth c bb L xs dC dI g.1 cZ) (V : gV dC dI g h cZ a o s Z H locs) (hl : lv_has ls 7 (gLv bb (g.2.1 0) h o i)) (hcs : cells + 16 ≤ 601024 ∧ slots + 512 ≤ 7293034) (hpf : gCmp lZi (lPg lZi (lE3 1 2 3) (pX9_draft N (xs (i + 1)) (xs (i + 2)) Z.1) Z.2.2) (pf_draft N (xs (i + 1)) (xs (i + 2)) Z.2.1) = some Z')
    (kk : ∀ (cc2 cd2 : Nat → Nat) (ce2 : Nat) (H1 : Heap) (locs1 : List Loc) (ls1 : Array Slot), gV dC dI (g.1, g.2.1, cc2, cd2, ce2) h cZ a o s Z' H1 locs1 → lv_has ls1 7 (gLv bb (g.2.1 0) h o i) → W p l e room_1 s m #[Value.ref bb] below meth c H1 locs1 (cells + 16) (slots + 512) Q (F0 m 3094 ls1 [])) :
    W p l e room_1 s m #[Value.ref bb] below meth c H locs cells slots Q (F0 m 464 ls []) := by
  obtain ⟨k, b9, hA, hB, ht, hv⟩ := gCmp_some hpf
  have hx := X.1
  have hb := X.2.1
  have hl : lv_has ls 7 [(0, .ref bb), (1, .ref (g.2.1 0)), (2, .ref h), (3, .ref o), (4, .int (nI i))] := hl
  refine lv_aload_n hx hb dL_law_464 rfl (lv_at hl 1 rfl) ?_
  refine g_arg (k0 := 0) (k4 := 4) (k := 1) X V hl rfl rfl (by omega) hL rfl 465 dL_law_465 dL_law_466 dL_law_468 dL_law_469 dL_law_470 ?_
  refine g_arg (k0 := 0) (k4 := 4) (k := 2) X V hl rfl rfl (by omega) hL rfl 471 dL_law_471 dL_law_472 dL_law_474 dL_law_475 dL_law_476 ?_
  refine lv_aload_n hx hb dL_law_477 rfl (lv_at hl 3 rfl) ?_
  refine g_callW (As := [.int (xs (i + 1)), .int (xs (i + 2))]) (rest := []) X V fW_draft (w_draft l hlt N (xs (i + 1)) (xs (i + 2))) (by decide) 478 dL_law_478 rfl hl.1 rfl (Nat.le_of_ble_eq_true rfl) ⟨by omega, by omega⟩ hA (fun cc2 cd2 ce2 H1 locs1 V => ?_)
  have V : gV dC dI (g.1, g.2.1, cc2, cd2, ce2) h cZ a o s (Z'.1, Z.2.1, Z'.2.2) H1 locs1 := V
  have X : gX p s m meth c bb L xs dC dI ((g.1, g.2.1, cc2, cd2, ce2) : kG).1 cZ := X
  refine W.widen (k := cells + 16) (n := slots + 512) (by omega) (by omega) ?_
  refine lv_istore (lv' := [(5, .int k), (0, .ref bb), (1, .ref (g.2.1 0)), (2, .ref h), (3, .ref o), (4, .int (nI i))]) hx hb dL_law_481 hl (by decide) rfl (fun ls hl => ?_)
  refine lv_aload_n hx hb dL_law_483 rfl (lv_at hl 3 rfl) ?_
  refine g_arg (k0 := 1) (k4 := 5) (k := 1) X V hl rfl rfl (by omega) hL rfl 484 dL_law_484 dL_law_485 dL_law_487 dL_law_488 dL_law_489 ?_
  refine g_arg (k0 := 1) (k4 := 5) (k := 2) X V hl rfl rfl (by omega) hL rfl 490 dL_law_490 dL_law_491 dL_law_493 dL_law_494 dL_law_495 ?_
  refine g_callM (As := [.int (xs (i + 1)), .int (xs (i + 2))]) (rest := []) X V fG_draft (c_draft l N (xs (i + 1)) (xs (i + 2))) (by decide) 496 dL_law_496 rfl hl.1 rfl (Nat.le_of_ble_eq_true rfl) ⟨by omega, by omega⟩ hB (fun H2 locs2 V2 => ?_)
  have V2 : gV dC dI (g.1, g.2.1, cc2, cd2, ce2) h cZ a o s Z' H2 locs2 := V2
  exact g_tail (N := N) 499 X V2 ⟨dL_law_499, dL_law_501, dL_law_502, dL_law_505, dL_law_507, dL_law_512, dL_law_514, dL_law_517, dL_law_518, dL_law_519, dL_law_520, dL_law_522, dL_law_523, dL_law_524, dL_law_529⟩ (by decide) hl ⟨by omega, by omega⟩ ht hv (fun H3 locs3 ls3 V3 hl3 => kk cc2 cd2 ce2 H3 locs3 ls3 V3 hl3)
theorem fL_undraft : lFn yX9_undraft cX9_undraft 2 (some .int) 0 163 := ⟨kT_181, kT_182, kT_183, kC_506, rfl, ⟨by decide +kernel, by decide +kernel, by decide +kernel⟩, by decide⟩
theorem fG_undraft : gFm yX10_undraft cX10_undraft 2 (some .int) 0 166 := ⟨kT_184, kT_185, kT_186, kM_151, rfl, ⟨by decide +kernel, by decide +kernel, by decide +kernel⟩, by decide⟩
set_option maxRecDepth 100000 in
set_option maxHeartbeats 4000000 in
theorem g_case_4 {p : Program} {l : Launch} {e : Env} {s : State} {m : MethodId} {below : List Frame} {meth : Method} {c : Code} {H : Heap} {locs : List Loc} {cells slots : Nat} {Q : State → Prop} {ls : Array Slot} {dC : Nat → ClassId} {dI : Nat → Nat → Nat} {g : kG} {cZ : ClassId} {h o bb L i N : Nat} {a : Nat → Nat} {xs : Nat → Int32} {Z Z' : gZ} (hlt : l.stackTraces = false) (hi : i + 7 ≤ L) (hL : L ≤ 3584) (X : gX p s m meth c bb L xs dC dI g.1 cZ) (V : gV dC dI g h cZ a o s Z H locs) (hl : lv_has ls 7 (gLv bb (g.2.1 0) h o i)) (hcs : cells + 16 ≤ 601024 ∧ slots + 512 ≤ 7293034) (hpf : gCmp2 (pX9_undraft N Z.1) (pf_undraft N Z.2.1) Z.2.2 = some Z')
    (kk : ∀ (cc2 cd2 : Nat → Nat) (ce2 : Nat) (H1 : Heap) (locs1 : List Loc) (ls1 : Array Slot), gV dC dI (g.1, g.2.1, cc2, cd2, ce2) h cZ a o s Z' H1 locs1 → lv_has ls1 7 (gLv bb (g.2.1 0) h o i) → W p l e room_1 s m #[Value.ref bb] below meth c H1 locs1 (cells + 16) (slots + 512) Q (F0 m 3094 ls1 [])) :
    W p l e room_1 s m #[Value.ref bb] below meth c H locs cells slots Q (F0 m 532 ls []) := by
  obtain ⟨b9, hA, hB, hF⟩ := gCmp2_some hpf
  have hx := X.1
  have hb := X.2.1
  have hl : lv_has ls 7 [(0, .ref bb), (1, .ref (g.2.1 0)), (2, .ref h), (3, .ref o), (4, .int (nI i))] := hl
  refine lv_aload_n hx hb dL_law_532 rfl (lv_at hl 1 rfl) ?_
  refine g_callX (As := []) (rest := []) X V fL_undraft (c_X9_undraft l N) (by decide) 533 dL_law_533 rfl hl.1 rfl (Nat.le_of_ble_eq_true rfl) ⟨by omega, by omega⟩ hA (fun H1 locs1 V => ?_)
  have V : gV dC dI g h cZ a o s (Z'.1, Z.2.1, Z.2.2) H1 locs1 := V
  refine lv_aload_n hx hb dL_law_536 rfl (lv_at hl 2 rfl) ?_
  refine g_callM (As := []) (rest := [.int b9]) X V fG_undraft (c_undraft l N) (by decide) 537 dL_law_537 rfl hl.1 rfl (Nat.le_of_ble_eq_true rfl) ⟨by omega, by omega⟩ hB (fun H2 locs2 V2 => ?_)
  have V2 : gV dC dI g h cZ a o s (Z'.1, Z'.2.1, Z.2.2) H2 locs2 := V2
  rw [← hF] at V2
  refine lv_icmp_eq (tgt := 3094) hx hb dL_law_540 (by decide) (fun _ => ?_) (fun hne => absurd rfl hne)
  refine W.widen (k := cells + 16) (n := slots + 512) (by omega) (by omega) ?_
  exact kk g.2.2.1 g.2.2.2.1 g.2.2.2.2 H2 locs2 ls V2 hl
theorem fW_add : gFw yL_add cL_add 7 [(0, 14, 17, 19), (0, 14, 21, 28), (0, 14, 25, 13)] 6 167 := ⟨kT_187, kT_188, kT_16, rfl, ⟨by decide +kernel, by decide +kernel, by decide +kernel⟩, by decide⟩
theorem fG_add : gFm yX10_add cX10_add 7 (some .int) 4 170 := ⟨kT_189, kT_190, kT_191, kM_181, rfl, ⟨by decide +kernel, by decide +kernel, by decide +kernel⟩, by decide⟩
set_option maxRecDepth 100000 in
set_option maxHeartbeats 4000000 in
theorem g_case_5 {p : Program} {l : Launch} {e : Env} {s : State} {m : MethodId} {below : List Frame} {meth : Method} {c : Code} {H : Heap} {locs : List Loc} {cells slots : Nat} {Q : State → Prop} {ls : Array Slot} {dC : Nat → ClassId} {dI : Nat → Nat → Nat} {g : kG} {cZ : ClassId} {h o bb L i N : Nat} {a : Nat → Nat} {xs : Nat → Int32} {Z Z' : gZ} (hlt : l.stackTraces = false) (hi : i + 7 ≤ L) (hL : L ≤ 3584) (X : gX p s m meth c bb L xs dC dI g.1 cZ) (V : gV dC dI g h cZ a o s Z H locs) (hl : lv_has ls 7 (gLv bb (g.2.1 0) h o i)) (hcs : cells + 16 ≤ 601024 ∧ slots + 512 ≤ 7293034) (hpf : gCmp lZi (lPg lZi (lE3 1 2 3) (pX9_add N (xs (i + 1)) (xs (i + 2)) (xs (i + 3)) (xs (i + 4)) Z.1) Z.2.2) (pf_add N (xs (i + 1)) (xs (i + 2)) (xs (i + 3)) (xs (i + 4)) Z.2.1) = some Z')
    (kk : ∀ (cc2 cd2 : Nat → Nat) (ce2 : Nat) (H1 : Heap) (locs1 : List Loc) (ls1 : Array Slot), gV dC dI (g.1, g.2.1, cc2, cd2, ce2) h cZ a o s Z' H1 locs1 → lv_has ls1 7 (gLv bb (g.2.1 0) h o i) → W p l e room_1 s m #[Value.ref bb] below meth c H1 locs1 (cells + 16) (slots + 512) Q (F0 m 3094 ls1 [])) :
    W p l e room_1 s m #[Value.ref bb] below meth c H locs cells slots Q (F0 m 545 ls []) := by
  obtain ⟨k, b9, hA, hB, ht, hv⟩ := gCmp_some hpf
  have hx := X.1
  have hb := X.2.1
  have hl : lv_has ls 7 [(0, .ref bb), (1, .ref (g.2.1 0)), (2, .ref h), (3, .ref o), (4, .int (nI i))] := hl
  refine lv_aload_n hx hb dL_law_545 rfl (lv_at hl 1 rfl) ?_
  refine g_arg (k0 := 0) (k4 := 4) (k := 1) X V hl rfl rfl (by omega) hL rfl 546 dL_law_546 dL_law_547 dL_law_549 dL_law_550 dL_law_551 ?_
  refine g_arg (k0 := 0) (k4 := 4) (k := 2) X V hl rfl rfl (by omega) hL rfl 552 dL_law_552 dL_law_553 dL_law_555 dL_law_556 dL_law_557 ?_
  refine g_arg (k0 := 0) (k4 := 4) (k := 3) X V hl rfl rfl (by omega) hL rfl 558 dL_law_558 dL_law_559 dL_law_561 dL_law_562 dL_law_563 ?_
  refine g_arg (k0 := 0) (k4 := 4) (k := 4) X V hl rfl rfl (by omega) hL rfl 564 dL_law_564 dL_law_565 dL_law_567 dL_law_568 dL_law_569 ?_
  refine lv_aload_n hx hb dL_law_570 rfl (lv_at hl 3 rfl) ?_
  refine g_callW (As := [.int (xs (i + 1)), .int (xs (i + 2)), .int (xs (i + 3)), .int (xs (i + 4))]) (rest := []) X V fW_add (w_add l hlt N (xs (i + 1)) (xs (i + 2)) (xs (i + 3)) (xs (i + 4))) (by decide) 571 dL_law_571 rfl hl.1 rfl (Nat.le_of_ble_eq_true rfl) ⟨by omega, by omega⟩ hA (fun cc2 cd2 ce2 H1 locs1 V => ?_)
  have V : gV dC dI (g.1, g.2.1, cc2, cd2, ce2) h cZ a o s (Z'.1, Z.2.1, Z'.2.2) H1 locs1 := V
  have X : gX p s m meth c bb L xs dC dI ((g.1, g.2.1, cc2, cd2, ce2) : kG).1 cZ := X
  refine W.widen (k := cells + 16) (n := slots + 512) (by omega) (by omega) ?_
  refine lv_istore (lv' := [(5, .int k), (0, .ref bb), (1, .ref (g.2.1 0)), (2, .ref h), (3, .ref o), (4, .int (nI i))]) hx hb dL_law_574 hl (by decide) rfl (fun ls hl => ?_)
  refine lv_aload_n hx hb dL_law_576 rfl (lv_at hl 3 rfl) ?_
  refine g_arg (k0 := 1) (k4 := 5) (k := 1) X V hl rfl rfl (by omega) hL rfl 577 dL_law_577 dL_law_578 dL_law_580 dL_law_581 dL_law_582 ?_
  refine g_arg (k0 := 1) (k4 := 5) (k := 2) X V hl rfl rfl (by omega) hL rfl 583 dL_law_583 dL_law_584 dL_law_586 dL_law_587 dL_law_588 ?_
  refine g_arg (k0 := 1) (k4 := 5) (k := 3) X V hl rfl rfl (by omega) hL rfl 589 dL_law_589 dL_law_590 dL_law_592 dL_law_593 dL_law_594 ?_
  refine g_arg (k0 := 1) (k4 := 5) (k := 4) X V hl rfl rfl (by omega) hL rfl 595 dL_law_595 dL_law_596 dL_law_598 dL_law_599 dL_law_600 ?_
  refine g_callM (As := [.int (xs (i + 1)), .int (xs (i + 2)), .int (xs (i + 3)), .int (xs (i + 4))]) (rest := []) X V fG_add (c_add l N (xs (i + 1)) (xs (i + 2)) (xs (i + 3)) (xs (i + 4))) (by decide) 601 dL_law_601 rfl hl.1 rfl (Nat.le_of_ble_eq_true rfl) ⟨by omega, by omega⟩ hB (fun H2 locs2 V2 => ?_)
  have V2 : gV dC dI (g.1, g.2.1, cc2, cd2, ce2) h cZ a o s Z' H2 locs2 := V2
  exact g_tail (N := N) 604 X V2 ⟨dL_law_604, dL_law_606, dL_law_607, dL_law_610, dL_law_612, dL_law_617, dL_law_619, dL_law_622, dL_law_623, dL_law_624, dL_law_625, dL_law_627, dL_law_628, dL_law_629, dL_law_634⟩ (by decide) hl ⟨by omega, by omega⟩ ht hv (fun H3 locs3 ls3 V3 hl3 => kk cc2 cd2 ce2 H3 locs3 ls3 V3 hl3)
theorem fW_addValue : gFw yL_addValue cL_addValue 7 [(0, 14, 17, 19), (0, 14, 21, 28), (0, 14, 25, 13)] 6 171 := ⟨kT_192, kT_193, kT_20, rfl, ⟨by decide +kernel, by decide +kernel, by decide +kernel⟩, by decide⟩
theorem fG_addValue : gFm yX10_addValue cX10_addValue 6 (some .int) 4 173 := ⟨kT_194, kT_195, kT_196, kM_193, rfl, ⟨by decide +kernel, by decide +kernel, by decide +kernel⟩, by decide⟩
set_option maxRecDepth 100000 in
set_option maxHeartbeats 4000000 in
theorem g_case_6 {p : Program} {l : Launch} {e : Env} {s : State} {m : MethodId} {below : List Frame} {meth : Method} {c : Code} {H : Heap} {locs : List Loc} {cells slots : Nat} {Q : State → Prop} {ls : Array Slot} {dC : Nat → ClassId} {dI : Nat → Nat → Nat} {g : kG} {cZ : ClassId} {h o bb L i N : Nat} {a : Nat → Nat} {xs : Nat → Int32} {Z Z' : gZ} (hlt : l.stackTraces = false) (hi : i + 7 ≤ L) (hL : L ≤ 3584) (X : gX p s m meth c bb L xs dC dI g.1 cZ) (V : gV dC dI g h cZ a o s Z H locs) (hl : lv_has ls 7 (gLv bb (g.2.1 0) h o i)) (hcs : cells + 16 ≤ 601024 ∧ slots + 512 ≤ 7293034) (hpf : gCmp lZi (lPg lZi (lE3 1 2 3) (pX9_addValue N (xs (i + 1)) (xs (i + 2)) (xs (i + 3)) (xs (i + 4)) Z.1) Z.2.2) (pf_addValue N (xs (i + 1)) (xs (i + 2)) (xs (i + 3)) (xs (i + 4)) Z.2.1) = some Z')
    (kk : ∀ (cc2 cd2 : Nat → Nat) (ce2 : Nat) (H1 : Heap) (locs1 : List Loc) (ls1 : Array Slot), gV dC dI (g.1, g.2.1, cc2, cd2, ce2) h cZ a o s Z' H1 locs1 → lv_has ls1 7 (gLv bb (g.2.1 0) h o i) → W p l e room_1 s m #[Value.ref bb] below meth c H1 locs1 (cells + 16) (slots + 512) Q (F0 m 3094 ls1 [])) :
    W p l e room_1 s m #[Value.ref bb] below meth c H locs cells slots Q (F0 m 637 ls []) := by
  obtain ⟨k, b9, hA, hB, ht, hv⟩ := gCmp_some hpf
  have hx := X.1
  have hb := X.2.1
  have hl : lv_has ls 7 [(0, .ref bb), (1, .ref (g.2.1 0)), (2, .ref h), (3, .ref o), (4, .int (nI i))] := hl
  refine lv_aload_n hx hb dL_law_637 rfl (lv_at hl 1 rfl) ?_
  refine g_arg (k0 := 0) (k4 := 4) (k := 1) X V hl rfl rfl (by omega) hL rfl 638 dL_law_638 dL_law_639 dL_law_641 dL_law_642 dL_law_643 ?_
  refine g_arg (k0 := 0) (k4 := 4) (k := 2) X V hl rfl rfl (by omega) hL rfl 644 dL_law_644 dL_law_645 dL_law_647 dL_law_648 dL_law_649 ?_
  refine g_arg (k0 := 0) (k4 := 4) (k := 3) X V hl rfl rfl (by omega) hL rfl 650 dL_law_650 dL_law_651 dL_law_653 dL_law_654 dL_law_655 ?_
  refine g_arg (k0 := 0) (k4 := 4) (k := 4) X V hl rfl rfl (by omega) hL rfl 656 dL_law_656 dL_law_657 dL_law_659 dL_law_660 dL_law_661 ?_
  refine lv_aload_n hx hb dL_law_662 rfl (lv_at hl 3 rfl) ?_
  refine g_callW (As := [.int (xs (i + 1)), .int (xs (i + 2)), .int (xs (i + 3)), .int (xs (i + 4))]) (rest := []) X V fW_addValue (w_addValue l hlt N (xs (i + 1)) (xs (i + 2)) (xs (i + 3)) (xs (i + 4))) (by decide) 663 dL_law_663 rfl hl.1 rfl (Nat.le_of_ble_eq_true rfl) ⟨by omega, by omega⟩ hA (fun cc2 cd2 ce2 H1 locs1 V => ?_)
  have V : gV dC dI (g.1, g.2.1, cc2, cd2, ce2) h cZ a o s (Z'.1, Z.2.1, Z'.2.2) H1 locs1 := V
  have X : gX p s m meth c bb L xs dC dI ((g.1, g.2.1, cc2, cd2, ce2) : kG).1 cZ := X
  refine W.widen (k := cells + 16) (n := slots + 512) (by omega) (by omega) ?_
  refine lv_istore (lv' := [(5, .int k), (0, .ref bb), (1, .ref (g.2.1 0)), (2, .ref h), (3, .ref o), (4, .int (nI i))]) hx hb dL_law_666 hl (by decide) rfl (fun ls hl => ?_)
  refine lv_aload_n hx hb dL_law_668 rfl (lv_at hl 3 rfl) ?_
  refine g_arg (k0 := 1) (k4 := 5) (k := 1) X V hl rfl rfl (by omega) hL rfl 669 dL_law_669 dL_law_670 dL_law_672 dL_law_673 dL_law_674 ?_
  refine g_arg (k0 := 1) (k4 := 5) (k := 2) X V hl rfl rfl (by omega) hL rfl 675 dL_law_675 dL_law_676 dL_law_678 dL_law_679 dL_law_680 ?_
  refine g_arg (k0 := 1) (k4 := 5) (k := 3) X V hl rfl rfl (by omega) hL rfl 681 dL_law_681 dL_law_682 dL_law_684 dL_law_685 dL_law_686 ?_
  refine g_arg (k0 := 1) (k4 := 5) (k := 4) X V hl rfl rfl (by omega) hL rfl 687 dL_law_687 dL_law_688 dL_law_690 dL_law_691 dL_law_692 ?_
  refine g_callM (As := [.int (xs (i + 1)), .int (xs (i + 2)), .int (xs (i + 3)), .int (xs (i + 4))]) (rest := []) X V fG_addValue (c_addValue l N (xs (i + 1)) (xs (i + 2)) (xs (i + 3)) (xs (i + 4))) (by decide) 693 dL_law_693 rfl hl.1 rfl (Nat.le_of_ble_eq_true rfl) ⟨by omega, by omega⟩ hB (fun H2 locs2 V2 => ?_)
  have V2 : gV dC dI (g.1, g.2.1, cc2, cd2, ce2) h cZ a o s Z' H2 locs2 := V2
  exact g_tail (N := N) 696 X V2 ⟨dL_law_696, dL_law_698, dL_law_699, dL_law_702, dL_law_704, dL_law_709, dL_law_711, dL_law_714, dL_law_715, dL_law_716, dL_law_717, dL_law_719, dL_law_720, dL_law_721, dL_law_726⟩ (by decide) hl ⟨by omega, by omega⟩ ht hv (fun H3 locs3 ls3 V3 hl3 => kk cc2 cd2 ce2 H3 locs3 ls3 V3 hl3)
theorem fW_removeValue : gFw yL_removeValue cL_removeValue 7 [(0, 14, 17, 19), (0, 14, 21, 28), (0, 14, 25, 13)] 6 174 := ⟨kT_197, kT_198, kT_24, rfl, ⟨by decide +kernel, by decide +kernel, by decide +kernel⟩, by decide⟩
theorem fG_removeValue : gFm yX10_removeValue cX10_removeValue 7 (some .int) 4 176 := ⟨kT_199, kT_200, kT_201, kM_194, rfl, ⟨by decide +kernel, by decide +kernel, by decide +kernel⟩, by decide⟩
set_option maxRecDepth 100000 in
set_option maxHeartbeats 4000000 in
theorem g_case_7 {p : Program} {l : Launch} {e : Env} {s : State} {m : MethodId} {below : List Frame} {meth : Method} {c : Code} {H : Heap} {locs : List Loc} {cells slots : Nat} {Q : State → Prop} {ls : Array Slot} {dC : Nat → ClassId} {dI : Nat → Nat → Nat} {g : kG} {cZ : ClassId} {h o bb L i N : Nat} {a : Nat → Nat} {xs : Nat → Int32} {Z Z' : gZ} (hlt : l.stackTraces = false) (hi : i + 7 ≤ L) (hL : L ≤ 3584) (X : gX p s m meth c bb L xs dC dI g.1 cZ) (V : gV dC dI g h cZ a o s Z H locs) (hl : lv_has ls 7 (gLv bb (g.2.1 0) h o i)) (hcs : cells + 16 ≤ 601024 ∧ slots + 512 ≤ 7293034) (hpf : gCmp lZi (lPg lZi (lE3 1 2 3) (pX9_removeValue N (xs (i + 1)) (xs (i + 2)) (xs (i + 3)) (xs (i + 4)) Z.1) Z.2.2) (pf_removeValue N (xs (i + 1)) (xs (i + 2)) (xs (i + 3)) (xs (i + 4)) Z.2.1) = some Z')
    (kk : ∀ (cc2 cd2 : Nat → Nat) (ce2 : Nat) (H1 : Heap) (locs1 : List Loc) (ls1 : Array Slot), gV dC dI (g.1, g.2.1, cc2, cd2, ce2) h cZ a o s Z' H1 locs1 → lv_has ls1 7 (gLv bb (g.2.1 0) h o i) → W p l e room_1 s m #[Value.ref bb] below meth c H1 locs1 (cells + 16) (slots + 512) Q (F0 m 3094 ls1 [])) :
    W p l e room_1 s m #[Value.ref bb] below meth c H locs cells slots Q (F0 m 729 ls []) := by
  obtain ⟨k, b9, hA, hB, ht, hv⟩ := gCmp_some hpf
  have hx := X.1
  have hb := X.2.1
  have hl : lv_has ls 7 [(0, .ref bb), (1, .ref (g.2.1 0)), (2, .ref h), (3, .ref o), (4, .int (nI i))] := hl
  refine lv_aload_n hx hb dL_law_729 rfl (lv_at hl 1 rfl) ?_
  refine g_arg (k0 := 0) (k4 := 4) (k := 1) X V hl rfl rfl (by omega) hL rfl 730 dL_law_730 dL_law_731 dL_law_733 dL_law_734 dL_law_735 ?_
  refine g_arg (k0 := 0) (k4 := 4) (k := 2) X V hl rfl rfl (by omega) hL rfl 736 dL_law_736 dL_law_737 dL_law_739 dL_law_740 dL_law_741 ?_
  refine g_arg (k0 := 0) (k4 := 4) (k := 3) X V hl rfl rfl (by omega) hL rfl 742 dL_law_742 dL_law_743 dL_law_745 dL_law_746 dL_law_747 ?_
  refine g_arg (k0 := 0) (k4 := 4) (k := 4) X V hl rfl rfl (by omega) hL rfl 748 dL_law_748 dL_law_749 dL_law_751 dL_law_752 dL_law_753 ?_
  refine lv_aload_n hx hb dL_law_754 rfl (lv_at hl 3 rfl) ?_
  refine g_callW (As := [.int (xs (i + 1)), .int (xs (i + 2)), .int (xs (i + 3)), .int (xs (i + 4))]) (rest := []) X V fW_removeValue (w_removeValue l hlt N (xs (i + 1)) (xs (i + 2)) (xs (i + 3)) (xs (i + 4))) (by decide) 755 dL_law_755 rfl hl.1 rfl (Nat.le_of_ble_eq_true rfl) ⟨by omega, by omega⟩ hA (fun cc2 cd2 ce2 H1 locs1 V => ?_)
  have V : gV dC dI (g.1, g.2.1, cc2, cd2, ce2) h cZ a o s (Z'.1, Z.2.1, Z'.2.2) H1 locs1 := V
  have X : gX p s m meth c bb L xs dC dI ((g.1, g.2.1, cc2, cd2, ce2) : kG).1 cZ := X
  refine W.widen (k := cells + 16) (n := slots + 512) (by omega) (by omega) ?_
  refine lv_istore (lv' := [(5, .int k), (0, .ref bb), (1, .ref (g.2.1 0)), (2, .ref h), (3, .ref o), (4, .int (nI i))]) hx hb dL_law_758 hl (by decide) rfl (fun ls hl => ?_)
  refine lv_aload_n hx hb dL_law_760 rfl (lv_at hl 3 rfl) ?_
  refine g_arg (k0 := 1) (k4 := 5) (k := 1) X V hl rfl rfl (by omega) hL rfl 761 dL_law_761 dL_law_762 dL_law_764 dL_law_765 dL_law_766 ?_
  refine g_arg (k0 := 1) (k4 := 5) (k := 2) X V hl rfl rfl (by omega) hL rfl 767 dL_law_767 dL_law_768 dL_law_770 dL_law_771 dL_law_772 ?_
  refine g_arg (k0 := 1) (k4 := 5) (k := 3) X V hl rfl rfl (by omega) hL rfl 773 dL_law_773 dL_law_774 dL_law_776 dL_law_777 dL_law_778 ?_
  refine g_arg (k0 := 1) (k4 := 5) (k := 4) X V hl rfl rfl (by omega) hL rfl 779 dL_law_779 dL_law_780 dL_law_782 dL_law_783 dL_law_784 ?_
  refine g_callM (As := [.int (xs (i + 1)), .int (xs (i + 2)), .int (xs (i + 3)), .int (xs (i + 4))]) (rest := []) X V fG_removeValue (c_removeValue l N (xs (i + 1)) (xs (i + 2)) (xs (i + 3)) (xs (i + 4))) (by decide) 785 dL_law_785 rfl hl.1 rfl (Nat.le_of_ble_eq_true rfl) ⟨by omega, by omega⟩ hB (fun H2 locs2 V2 => ?_)
  have V2 : gV dC dI (g.1, g.2.1, cc2, cd2, ce2) h cZ a o s Z' H2 locs2 := V2
  exact g_tail (N := N) 788 X V2 ⟨dL_law_788, dL_law_790, dL_law_791, dL_law_794, dL_law_796, dL_law_801, dL_law_803, dL_law_806, dL_law_807, dL_law_808, dL_law_809, dL_law_811, dL_law_812, dL_law_813, dL_law_818⟩ (by decide) hl ⟨by omega, by omega⟩ ht hv (fun H3 locs3 ls3 V3 hl3 => kk cc2 cd2 ce2 H3 locs3 ls3 V3 hl3)
theorem fW_replace : gFw yL_replace cL_replace 7 [(0, 14, 17, 19), (0, 14, 21, 28), (0, 14, 25, 13)] 6 177 := ⟨kT_202, kT_203, kT_28, rfl, ⟨by decide +kernel, by decide +kernel, by decide +kernel⟩, by decide⟩
theorem fG_replace : gFm yX10_replace cX10_replace 7 (some .int) 4 179 := ⟨kT_204, kT_205, kT_206, kM_195, rfl, ⟨by decide +kernel, by decide +kernel, by decide +kernel⟩, by decide⟩
set_option maxRecDepth 100000 in
set_option maxHeartbeats 4000000 in
theorem g_case_8 {p : Program} {l : Launch} {e : Env} {s : State} {m : MethodId} {below : List Frame} {meth : Method} {c : Code} {H : Heap} {locs : List Loc} {cells slots : Nat} {Q : State → Prop} {ls : Array Slot} {dC : Nat → ClassId} {dI : Nat → Nat → Nat} {g : kG} {cZ : ClassId} {h o bb L i N : Nat} {a : Nat → Nat} {xs : Nat → Int32} {Z Z' : gZ} (hlt : l.stackTraces = false) (hi : i + 7 ≤ L) (hL : L ≤ 3584) (X : gX p s m meth c bb L xs dC dI g.1 cZ) (V : gV dC dI g h cZ a o s Z H locs) (hl : lv_has ls 7 (gLv bb (g.2.1 0) h o i)) (hcs : cells + 16 ≤ 601024 ∧ slots + 512 ≤ 7293034) (hpf : gCmp lZi (lPg lZi (lE3 1 2 3) (pX9_replace N (xs (i + 1)) (xs (i + 2)) (xs (i + 3)) (xs (i + 4)) Z.1) Z.2.2) (pf_replace N (xs (i + 1)) (xs (i + 2)) (xs (i + 3)) (xs (i + 4)) Z.2.1) = some Z')
    (kk : ∀ (cc2 cd2 : Nat → Nat) (ce2 : Nat) (H1 : Heap) (locs1 : List Loc) (ls1 : Array Slot), gV dC dI (g.1, g.2.1, cc2, cd2, ce2) h cZ a o s Z' H1 locs1 → lv_has ls1 7 (gLv bb (g.2.1 0) h o i) → W p l e room_1 s m #[Value.ref bb] below meth c H1 locs1 (cells + 16) (slots + 512) Q (F0 m 3094 ls1 [])) :
    W p l e room_1 s m #[Value.ref bb] below meth c H locs cells slots Q (F0 m 821 ls []) := by
  obtain ⟨k, b9, hA, hB, ht, hv⟩ := gCmp_some hpf
  have hx := X.1
  have hb := X.2.1
  have hl : lv_has ls 7 [(0, .ref bb), (1, .ref (g.2.1 0)), (2, .ref h), (3, .ref o), (4, .int (nI i))] := hl
  refine lv_aload_n hx hb dL_law_821 rfl (lv_at hl 1 rfl) ?_
  refine g_arg (k0 := 0) (k4 := 4) (k := 1) X V hl rfl rfl (by omega) hL rfl 822 dL_law_822 dL_law_823 dL_law_825 dL_law_826 dL_law_827 ?_
  refine g_arg (k0 := 0) (k4 := 4) (k := 2) X V hl rfl rfl (by omega) hL rfl 828 dL_law_828 dL_law_829 dL_law_831 dL_law_832 dL_law_833 ?_
  refine g_arg (k0 := 0) (k4 := 4) (k := 3) X V hl rfl rfl (by omega) hL rfl 834 dL_law_834 dL_law_835 dL_law_837 dL_law_838 dL_law_839 ?_
  refine g_arg (k0 := 0) (k4 := 4) (k := 4) X V hl rfl rfl (by omega) hL rfl 840 dL_law_840 dL_law_841 dL_law_843 dL_law_844 dL_law_845 ?_
  refine lv_aload_n hx hb dL_law_846 rfl (lv_at hl 3 rfl) ?_
  refine g_callW (As := [.int (xs (i + 1)), .int (xs (i + 2)), .int (xs (i + 3)), .int (xs (i + 4))]) (rest := []) X V fW_replace (w_replace l hlt N (xs (i + 1)) (xs (i + 2)) (xs (i + 3)) (xs (i + 4))) (by decide) 847 dL_law_847 rfl hl.1 rfl (Nat.le_of_ble_eq_true rfl) ⟨by omega, by omega⟩ hA (fun cc2 cd2 ce2 H1 locs1 V => ?_)
  have V : gV dC dI (g.1, g.2.1, cc2, cd2, ce2) h cZ a o s (Z'.1, Z.2.1, Z'.2.2) H1 locs1 := V
  have X : gX p s m meth c bb L xs dC dI ((g.1, g.2.1, cc2, cd2, ce2) : kG).1 cZ := X
  refine W.widen (k := cells + 16) (n := slots + 512) (by omega) (by omega) ?_
  refine lv_istore (lv' := [(5, .int k), (0, .ref bb), (1, .ref (g.2.1 0)), (2, .ref h), (3, .ref o), (4, .int (nI i))]) hx hb dL_law_850 hl (by decide) rfl (fun ls hl => ?_)
  refine lv_aload_n hx hb dL_law_852 rfl (lv_at hl 3 rfl) ?_
  refine g_arg (k0 := 1) (k4 := 5) (k := 1) X V hl rfl rfl (by omega) hL rfl 853 dL_law_853 dL_law_854 dL_law_856 dL_law_857 dL_law_858 ?_
  refine g_arg (k0 := 1) (k4 := 5) (k := 2) X V hl rfl rfl (by omega) hL rfl 859 dL_law_859 dL_law_860 dL_law_862 dL_law_863 dL_law_864 ?_
  refine g_arg (k0 := 1) (k4 := 5) (k := 3) X V hl rfl rfl (by omega) hL rfl 865 dL_law_865 dL_law_866 dL_law_868 dL_law_869 dL_law_870 ?_
  refine g_arg (k0 := 1) (k4 := 5) (k := 4) X V hl rfl rfl (by omega) hL rfl 871 dL_law_871 dL_law_872 dL_law_874 dL_law_875 dL_law_876 ?_
  refine g_callM (As := [.int (xs (i + 1)), .int (xs (i + 2)), .int (xs (i + 3)), .int (xs (i + 4))]) (rest := []) X V fG_replace (c_replace l N (xs (i + 1)) (xs (i + 2)) (xs (i + 3)) (xs (i + 4))) (by decide) 877 dL_law_877 rfl hl.1 rfl (Nat.le_of_ble_eq_true rfl) ⟨by omega, by omega⟩ hB (fun H2 locs2 V2 => ?_)
  have V2 : gV dC dI (g.1, g.2.1, cc2, cd2, ce2) h cZ a o s Z' H2 locs2 := V2
  exact g_tail (N := N) 880 X V2 ⟨dL_law_880, dL_law_882, dL_law_883, dL_law_886, dL_law_888, dL_law_893, dL_law_895, dL_law_898, dL_law_899, dL_law_900, dL_law_901, dL_law_903, dL_law_904, dL_law_905, dL_law_910⟩ (by decide) hl ⟨by omega, by omega⟩ ht hv (fun H3 locs3 ls3 V3 hl3 => kk cc2 cd2 ce2 H3 locs3 ls3 V3 hl3)
theorem fW_rename : gFw yL_rename cL_rename 6 [(0, 12, 15, 19), (0, 12, 19, 28), (0, 12, 23, 13)] 5 180 := ⟨kT_207, kT_208, kT_32, rfl, ⟨by decide +kernel, by decide +kernel, by decide +kernel⟩, by decide⟩
theorem fG_rename : gFm yX10_rename cX10_rename 6 (some .int) 3 182 := ⟨kT_209, kT_210, kT_211, kM_196, rfl, ⟨by decide +kernel, by decide +kernel, by decide +kernel⟩, by decide⟩
set_option maxRecDepth 100000 in
set_option maxHeartbeats 4000000 in
theorem g_case_9 {p : Program} {l : Launch} {e : Env} {s : State} {m : MethodId} {below : List Frame} {meth : Method} {c : Code} {H : Heap} {locs : List Loc} {cells slots : Nat} {Q : State → Prop} {ls : Array Slot} {dC : Nat → ClassId} {dI : Nat → Nat → Nat} {g : kG} {cZ : ClassId} {h o bb L i N : Nat} {a : Nat → Nat} {xs : Nat → Int32} {Z Z' : gZ} (hlt : l.stackTraces = false) (hi : i + 7 ≤ L) (hL : L ≤ 3584) (X : gX p s m meth c bb L xs dC dI g.1 cZ) (V : gV dC dI g h cZ a o s Z H locs) (hl : lv_has ls 7 (gLv bb (g.2.1 0) h o i)) (hcs : cells + 16 ≤ 601024 ∧ slots + 512 ≤ 7293034) (hpf : gCmp lZi (lPg lZi (lE3 1 2 3) (pX9_rename N (xs (i + 1)) (xs (i + 2)) (xs (i + 3)) Z.1) Z.2.2) (pf_rename N (xs (i + 1)) (xs (i + 2)) (xs (i + 3)) Z.2.1) = some Z')
    (kk : ∀ (cc2 cd2 : Nat → Nat) (ce2 : Nat) (H1 : Heap) (locs1 : List Loc) (ls1 : Array Slot), gV dC dI (g.1, g.2.1, cc2, cd2, ce2) h cZ a o s Z' H1 locs1 → lv_has ls1 7 (gLv bb (g.2.1 0) h o i) → W p l e room_1 s m #[Value.ref bb] below meth c H1 locs1 (cells + 16) (slots + 512) Q (F0 m 3094 ls1 [])) :
    W p l e room_1 s m #[Value.ref bb] below meth c H locs cells slots Q (F0 m 913 ls []) := by
  obtain ⟨k, b9, hA, hB, ht, hv⟩ := gCmp_some hpf
  have hx := X.1
  have hb := X.2.1
  have hl : lv_has ls 7 [(0, .ref bb), (1, .ref (g.2.1 0)), (2, .ref h), (3, .ref o), (4, .int (nI i))] := hl
  refine lv_aload_n hx hb dL_law_913 rfl (lv_at hl 1 rfl) ?_
  refine g_arg (k0 := 0) (k4 := 4) (k := 1) X V hl rfl rfl (by omega) hL rfl 914 dL_law_914 dL_law_915 dL_law_917 dL_law_918 dL_law_919 ?_
  refine g_arg (k0 := 0) (k4 := 4) (k := 2) X V hl rfl rfl (by omega) hL rfl 920 dL_law_920 dL_law_921 dL_law_923 dL_law_924 dL_law_925 ?_
  refine g_arg (k0 := 0) (k4 := 4) (k := 3) X V hl rfl rfl (by omega) hL rfl 926 dL_law_926 dL_law_927 dL_law_929 dL_law_930 dL_law_931 ?_
  refine lv_aload_n hx hb dL_law_932 rfl (lv_at hl 3 rfl) ?_
  refine g_callW (As := [.int (xs (i + 1)), .int (xs (i + 2)), .int (xs (i + 3))]) (rest := []) X V fW_rename (w_rename l hlt N (xs (i + 1)) (xs (i + 2)) (xs (i + 3))) (by decide) 933 dL_law_933 rfl hl.1 rfl (Nat.le_of_ble_eq_true rfl) ⟨by omega, by omega⟩ hA (fun cc2 cd2 ce2 H1 locs1 V => ?_)
  have V : gV dC dI (g.1, g.2.1, cc2, cd2, ce2) h cZ a o s (Z'.1, Z.2.1, Z'.2.2) H1 locs1 := V
  have X : gX p s m meth c bb L xs dC dI ((g.1, g.2.1, cc2, cd2, ce2) : kG).1 cZ := X
  refine W.widen (k := cells + 16) (n := slots + 512) (by omega) (by omega) ?_
  refine lv_istore (lv' := [(5, .int k), (0, .ref bb), (1, .ref (g.2.1 0)), (2, .ref h), (3, .ref o), (4, .int (nI i))]) hx hb dL_law_936 hl (by decide) rfl (fun ls hl => ?_)
  refine lv_aload_n hx hb dL_law_938 rfl (lv_at hl 3 rfl) ?_
  refine g_arg (k0 := 1) (k4 := 5) (k := 1) X V hl rfl rfl (by omega) hL rfl 939 dL_law_939 dL_law_940 dL_law_942 dL_law_943 dL_law_944 ?_
  refine g_arg (k0 := 1) (k4 := 5) (k := 2) X V hl rfl rfl (by omega) hL rfl 945 dL_law_945 dL_law_946 dL_law_948 dL_law_949 dL_law_950 ?_
  refine g_arg (k0 := 1) (k4 := 5) (k := 3) X V hl rfl rfl (by omega) hL rfl 951 dL_law_951 dL_law_952 dL_law_954 dL_law_955 dL_law_956 ?_
  refine g_callM (As := [.int (xs (i + 1)), .int (xs (i + 2)), .int (xs (i + 3))]) (rest := []) X V fG_rename (c_rename l N (xs (i + 1)) (xs (i + 2)) (xs (i + 3))) (by decide) 957 dL_law_957 rfl hl.1 rfl (Nat.le_of_ble_eq_true rfl) ⟨by omega, by omega⟩ hB (fun H2 locs2 V2 => ?_)
  have V2 : gV dC dI (g.1, g.2.1, cc2, cd2, ce2) h cZ a o s Z' H2 locs2 := V2
  exact g_tail (N := N) 960 X V2 ⟨dL_law_960, dL_law_962, dL_law_963, dL_law_966, dL_law_968, dL_law_973, dL_law_975, dL_law_978, dL_law_979, dL_law_980, dL_law_981, dL_law_983, dL_law_984, dL_law_985, dL_law_990⟩ (by decide) hl ⟨by omega, by omega⟩ ht hv (fun H3 locs3 ls3 V3 hl3 => kk cc2 cd2 ce2 H3 locs3 ls3 V3 hl3)
