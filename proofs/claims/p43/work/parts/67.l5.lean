-- ===== the law's values =====
noncomputable def pL_values_349 (N : Nat) (x1 : Int32) (x2 : Int32) (x15 : Int32) (x16 : Int32) (x17 : Int32) (x24 : Int32) (S : kS) (L : lS) (C : Nat) (D : Nat) : Option (Int32 × kS × lS) :=
    lbb 11 435 11 435 C D (pL_calls N x2 x1 x15 x16 x17 S L) fun v101 S102 L103 C104 D105 =>
    if v101 = x24 then (
      zlB 11 435 C104 D105 (1 : Int32) S102 L103)
    else (
      zlB 11 435 C104 D105 (0 : Int32) S102 L103)
noncomputable def pL_values_314 (N : Nat) (t0 : Int32) (x1 : Int32) (x2 : Int32) (x15 : Int32) (x16 : Int32) (x17 : Int32) (S : kS) (L : lS) (C : Nat) (D : Nat) : Option (Int32 × kS × lS) :=
    if t0 < (0 : Int32) then (
      pL_values_349 N x1 x2 x15 x16 x17 t0 S L C D)
    else (
      lba (pL_makes N x1 x2 x15 x16 x17 (0 : Int64) L) fun v101 L102 =>
      pL_values_349 N x1 x2 x15 x16 x17 t0 S L102 C D)
noncomputable def pL_values_237 (N : Nat) (t0 : Int32) (x1 : Int32) (x2 : Int32) (x15 : Int32) (x16 : Int32) (x17 : Int32) (x18 : Int32) (S : kS) (L : lS) (C : Nat) (D : Nat) : Option (Int32 × kS × lS) :=
    if x15 = (0 : Int32) then (
      pL_values_314 N (-9 : Int32) x1 x2 x15 x16 x17 S L C D)
    else (
      gd ((3 : Int32) * x15) 36 <|
      if (aI L 9 ((3 : Int32) * x15).toNatClampNeg) = (1 : Int32) then (
        if t0 = (0 : Int32) then (
          pL_values_314 N (-7 : Int32) x1 x2 x15 x16 x17 S L C D)
        else (
          if x2 = (3 : Int32) then (
            gd x18 36 <|
            lba (pL_bits N (aJ L 10 x18.toNatClampNeg) L) fun v105 L106 =>
            pL_values_314 N v105 x1 x2 x15 x16 x17 S L106 C D)
          else (
            if x2 = (1 : Int32) then (
              gd x18 36 <|
              lba (pL_bits N (aJ L 10 x18.toNatClampNeg) L) fun v103 L104 =>
              pL_values_314 N (v103 + (1 : Int32)) x1 x2 x15 x16 x17 S L104 C D)
            else (
              gd x18 36 <|
              lba (pL_bits N (aJ L 10 x18.toNatClampNeg) L) fun v101 L102 =>
              pL_values_314 N (v101 - (1 : Int32)) x1 x2 x15 x16 x17 S L102 C D))))
      else (
        pL_values_314 N (-9 : Int32) x1 x2 x15 x16 x17 S L C D))
noncomputable def pL_values_106 (N : Nat) (t0 : Int32) (x1 : Int32) (x2 : Int32) (x15 : Int32) (x16 : Int32) (x17 : Int32) (x18 : Int32) (x19 : Int32) (w20 : Int64) (S : kS) (L : lS) (C : Nat) (D : Nat) : Option (Int32 × kS × lS) :=
    gd ((4 : Int32) + x1) 20 <|
    lba (pL_may N x1 (aI L 0 ((4 : Int32) + x1).toNatClampNeg) x15 (1 : Int32) L) fun v101 L102 =>
    if v101 = (0 : Int32) then (
      pL_values_237 N (0 : Int32) x1 x2 x15 x16 x17 x18 S L102 C D)
    else (
      if x2 = (1 : Int32) then (
        if t0 = (0 : Int32) then (
          pL_values_237 N (0 : Int32) x1 x2 x15 x16 x17 x18 S L102 C D)
        else (
          if (lg_cmp w20 (0 : Int64)) = (0 : Int32) then (
            gd ((13 : Int32) + x16) 20 <|
            if ((aI L102 0 ((13 : Int32) + x16).toNatClampNeg) - (aI L102 0 ((13 : Int32) + x16).toNatClampNeg) / (2 : Int32) * (2 : Int32)) = (0 : Int32) then (
              pL_values_237 N (1 : Int32) x1 x2 x15 x16 x17 x18 S L102 C D)
            else (
              gd x18 36 <|
              if (lg_cmp (aJ L102 10 x18.toNatClampNeg) (0 : Int64)) = (0 : Int32) then (
                pL_values_237 N (1 : Int32) x1 x2 x15 x16 x17 x18 S L102 C D)
              else (
                pL_values_237 N (0 : Int32) x1 x2 x15 x16 x17 x18 S L102 C D)))
          else (
            pL_values_237 N (0 : Int32) x1 x2 x15 x16 x17 x18 S L102 C D)))
      else (
        if x2 = (2 : Int32) then (
          if (lg_cmp w20 (0 : Int64)) = (0 : Int32) then (
            pL_values_237 N (0 : Int32) x1 x2 x15 x16 x17 x18 S L102 C D)
          else (
            lba (pL_requires N x19 L102) fun v103 L104 =>
            if ((v103 >>> (x16 &&& 31)) &&& (1 : Int32)) = (0 : Int32) then (
              pL_values_237 N (1 : Int32) x1 x2 x15 x16 x17 x18 S L104 C D)
            else (
              gd x18 36 <|
              lba (pL_bits N (aJ L104 10 x18.toNatClampNeg) L104) fun v105 L106 =>
              if v105 ≤ (1 : Int32) then (
                pL_values_237 N (0 : Int32) x1 x2 x15 x16 x17 x18 S L106 C D)
              else (
                pL_values_237 N (1 : Int32) x1 x2 x15 x16 x17 x18 S L106 C D))))
        else (
          if t0 = (0 : Int32) then (
            pL_values_237 N (0 : Int32) x1 x2 x15 x16 x17 x18 S L102 C D)
          else (
            pL_values_237 N (1 : Int32) x1 x2 x15 x16 x17 x18 S L102 C D))))
noncomputable def pL_values_43 (N : Nat) (t0 : Int32) (t1 : Int32) (x1 : Int32) (x2 : Int32) (x15 : Int32) (x16 : Int32) (S : kS) (L : lS) (C : Nat) (D : Nat) : Option (Int32 × kS × lS) :=
    lba (pL_low N t1 t0 L) fun v101 L102 =>
    nm (((3 : Int32) * x15) + x16) fun y103 =>
    gd (((3 : Int32) * x15) + (1 : Int32)) 36 <|
    nm (aI L102 9 (((3 : Int32) * x15) + (1 : Int32)).toNatClampNeg) fun y104 =>
    gd y103 36 <|
    lba (pL_match N x16 v101 L102) fun v105 L106 =>
    nml ((aJ L102 10 y103.toNatClampNeg) &&& v105) fun y107 =>
    lba (pL_allows N y104 L106) fun v108 L109 =>
    if ((v108 >>> (x16 &&& 31)) &&& (1 : Int32)) = (1 : Int32) then (
      pL_values_106 N (1 : Int32) x1 x2 x15 x16 v101 y103 y104 y107 S L109 C D)
    else (
      pL_values_106 N (0 : Int32) x1 x2 x15 x16 v101 y103 y104 y107 S L109 C D)
noncomputable def pL_values (N : Nat) (x1 : Int32) (x2 : Int32) (x3 : Int32) (S : kS) (L : lS) : Option (Int32 × kS × lS) :=
    gd (0 : Int32) 20 <|
    lba (pL_low N x3 (aI L 0 (0 : Int32).toNatClampNeg) L) fun v101 L102 =>
    gd (2 : Int32) 20 <|
    lba (pL_low N (x3 >>> ((4 : Int32) &&& 31)) (aI L102 0 (2 : Int32).toNatClampNeg) L102) fun v103 L104 =>
    lba (pL_low N (x3 >>> ((11 : Int32) &&& 31)) (2 : Int32) L104) fun v105 L106 =>
    if v105 = (0 : Int32) then (
      pL_values_43 N (60 : Int32) (x3 >>> ((6 : Int32) &&& 31)) x1 x2 v101 v103 S L106 0 0)
    else (
      pL_values_43 N (5 : Int32) (x3 >>> ((6 : Int32) &&& 31)) x1 x2 v101 v103 S L106 0 0)
theorem fL_values : lFnS yL_values (.code yL_values cL_values 25 (some .boolean)) 15 259 := ⟨kT_228, kT_229, kT_115, rfl, by decide +kernel⟩
set_option maxRecDepth 100000 in
set_option maxHeartbeats 4000000 in
theorem c_L_values (l : Launch) (hlt : l.stackTraces = false) (N : Nat) (x1 : Int32) (x2 : Int32) (x3 : Int32) : lMet l yL_values (.code yL_values cL_values 25 (some .boolean)) 10 373 11 435 (fun ca a => [.ref (ca 0), .int x1, .int x2, .int x3, .ref (a 0), .ref (a 1), .ref (a 2), .ref (a 3), .ref (a 4), .ref (a 5), .ref (a 6), .ref (a 7), .ref (a 8), .ref (a 9), .ref (a 10)]) qI (pL_values N x1 x2 x3) := by
  refine l_start hlt (by decide +kernel) rfl (fun ca a => [(0, .ref (ca 0)), (1, .int x1), (2, .int x2), (3, .int x3), (4, .ref (a 0)), (5, .ref (a 1)), (6, .ref (a 2)), (7, .ref (a 3)), (8, .ref (a 4)), (9, .ref (a 5)), (10, .ref (a 6)), (11, .ref (a 7)), (12, .ref (a 8)), (13, .ref (a 9)), (14, .ref (a 10))]) (fun _ _ => Nat.le_of_ble_eq_true rfl) (fun _ _ => rfl) ?_
  intro dC dI g a sz Si Li r Sf Lf hpf p e s m args below meth c X hr H locs I ls hl
  have hx := X.1
  have hb := X.2.1
  have hCD : (0 : Nat) ≤ 11 ∧ (0 : Nat) ≤ 435 := ⟨Nat.zero_le _, Nat.zero_le _⟩
  unfold pL_values at hpf
  have hC_349 : ∀ (x1 : Int32) (x2 : Int32) (x15 : Int32) (x16 : Int32) (x17 : Int32) (x24 : Int32) (S : kS) (L : lS) (C D : Nat) (hCD : C ≤ 11 ∧ D ≤ 435) (H : Heap) (locs : List Loc), lV dC dI g a (lFr g a Si Li sz) s Si S L H locs → ∀ ls : Array Slot, lv_has ls 25 [(0, .ref (g.2.1 0)), (1, .int x1), (2, .int x2), (15, .int x15), (16, .int x16), (17, .int x17), (24, .int x24)] → pL_values_349 N x1 x2 x15 x16 x17 x24 S L C D = some (r, Sf, Lf) → W p l e (lRm 10 373 11 435) s m args below meth c H locs C D (MQ below (lQ dC dI g a sz Si Li (qI r) Sf Lf) args s 11 435 (lFr g a Si Li sz)) (F0 m 349 ls []) := by
    intro x1 x2 x15 x16 x17 x24 S L C D hCD H locs I ls hl hpf
    unfold pL_values_349 at hpf
    refine lv_aload_n hx hb dL_values_349 rfl (lv_at hl 0 rfl) ?_
    refine lv_iload_n hx hb dL_values_350 rfl (lv_at hl 2 rfl) ?_
    refine lv_iload_n hx hb dL_values_351 rfl (lv_at hl 1 rfl) ?_
    refine lv_iload hx hb dL_values_352 (lv_at hl 3 rfl) ?_
    refine lv_iload hx hb dL_values_354 (lv_at hl 4 rfl) ?_
    refine lv_iload hx hb dL_values_356 (lv_at hl 5 rfl) ?_
    refine l_cBW (rest := []) (As := [.ref (g.2.1 0), .int x2, .int x1, .int x15, .int x16, .int x17]) X I fL_calls (c_L_calls l hlt N x2 x1 x15 x16 x17) rfl ⟨Nat.le_of_ble_eq_true rfl, Nat.le_of_ble_eq_true rfl⟩ 358 dL_values_358 rfl hl.1 rfl (Nat.le_of_ble_eq_true rfl) ⟨Nat.le_refl _, Nat.le_refl _⟩ hpf (fun v101 S102 L103 C104 D105 hCD H locs I hpf => ?_)
    refine lv_iload hx hb dL_values_361 (lv_at hl 6 rfl) ?_
    refine b_icmp_ne hx hb 370 363 dL_values_363 (by decide) hpf (fun hpf => ?_) (fun hpf => ?_)
    · refine lv_iconst (v := (0 : Int32)) hx hb dL_values_370 (by decide) ?_
      exact l_retzB X I hr 371 dL_values_371 hpf
    refine lv_iconst (v := (1 : Int32)) hx hb dL_values_366 (by decide) ?_
    refine lv_goto (tgt := 371) hx hb dL_values_367 (by decide) ?_
    exact l_retzB X I hr 371 dL_values_371 hpf
  have hC_314 : ∀ (t0 : Int32) (x1 : Int32) (x2 : Int32) (x15 : Int32) (x16 : Int32) (x17 : Int32) (S : kS) (L : lS) (C D : Nat) (hCD : C ≤ 11 ∧ D ≤ 435) (H : Heap) (locs : List Loc), lV dC dI g a (lFr g a Si Li sz) s Si S L H locs → ∀ ls : Array Slot, lv_has ls 25 [(0, .ref (g.2.1 0)), (1, .int x1), (2, .int x2), (4, .ref (a 0)), (6, .ref (a 2)), (7, .ref (a 3)), (8, .ref (a 4)), (9, .ref (a 5)), (10, .ref (a 6)), (11, .ref (a 7)), (12, .ref (a 8)), (15, .int x15), (16, .int x16), (17, .int x17)] → pL_values_314 N t0 x1 x2 x15 x16 x17 S L C D = some (r, Sf, Lf) → W p l e (lRm 10 373 11 435) s m args below meth c H locs C D (MQ below (lQ dC dI g a sz Si Li (qI r) Sf Lf) args s 11 435 (lFr g a Si Li sz)) (F0 m 314 ls [.int t0]) := by
    intro t0 x1 x2 x15 x16 x17 S L C D hCD H locs I ls hl hpf
    unfold pL_values_314 at hpf
    refine lv_istore (lv' := [(24, .int t0), (0, .ref (g.2.1 0)), (1, .int x1), (2, .int x2), (4, .ref (a 0)), (6, .ref (a 2)), (7, .ref (a 3)), (8, .ref (a 4)), (9, .ref (a 5)), (10, .ref (a 6)), (11, .ref (a 7)), (12, .ref (a 8)), (15, .int x15), (16, .int x16), (17, .int x17)]) hx hb dL_values_314 hl (by decide) rfl (fun ls hl => ?_)
    refine lv_iload hx hb dL_values_316 (lv_at hl 0 rfl) ?_
    refine b_if_lt hx hb 349 318 dL_values_318 (by decide) hpf (fun hpf => ?_) (fun hpf => ?_)
    · exact hC_349 x1 x2 x15 x16 x17 t0 S L C D hCD H locs I ls (lv_sub hl [1, 2, 3, 12, 13, 14, 0] rfl) hpf
    refine lv_iload_n hx hb dL_values_321 rfl (lv_at hl 2 rfl) ?_
    refine lv_iload_n hx hb dL_values_322 rfl (lv_at hl 3 rfl) ?_
    refine lv_iload hx hb dL_values_323 (lv_at hl 12 rfl) ?_
    refine lv_iload hx hb dL_values_325 (lv_at hl 13 rfl) ?_
    refine lv_iload hx hb dL_values_327 (lv_at hl 14 rfl) ?_
    refine lv_lconst (v := (0 : Int64)) hx hb dL_values_329 (by decide) ?_
    refine lv_aload hx hb dL_values_330 (lv_at hl 4 rfl) ?_
    refine lv_aload hx hb dL_values_332 (lv_at hl 5 rfl) ?_
    refine lv_aload hx hb dL_values_334 (lv_at hl 6 rfl) ?_
    refine lv_aload hx hb dL_values_336 (lv_at hl 7 rfl) ?_
    refine lv_aload hx hb dL_values_338 (lv_at hl 8 rfl) ?_
    refine lv_aload hx hb dL_values_340 (lv_at hl 9 rfl) ?_
    refine lv_aload hx hb dL_values_342 (lv_at hl 10 rfl) ?_
    refine lv_aload hx hb dL_values_344 (lv_at hl 11 rfl) ?_
    refine l_cAU (rest := []) (As := [.int x1, .int x2, .int x15, .int x16, .int x17, .long (0 : Int64), .ref (a 0), .ref (a 2), .ref (a 3), .ref (a 4), .ref (a 5), .ref (a 6), .ref (a 7), .ref (a 8)]) X I fL_makes (c_L_makes l hlt N x1 x2 x15 x16 x17 (0 : Int64)) rfl ⟨Nat.le_of_ble_eq_true rfl, Nat.le_of_ble_eq_true rfl⟩ 346 dL_values_346 rfl hl.1 rfl (Nat.le_of_ble_eq_true rfl) hCD hpf (fun v101 L102 H locs I hpf => ?_)
    exact hC_349 x1 x2 x15 x16 x17 t0 S L102 C D hCD H locs I ls (lv_sub hl [1, 2, 3, 12, 13, 14, 0] rfl) hpf
  have hC_237 : ∀ (t0 : Int32) (x1 : Int32) (x2 : Int32) (x15 : Int32) (x16 : Int32) (x17 : Int32) (x18 : Int32) (S : kS) (L : lS) (C D : Nat) (hCD : C ≤ 11 ∧ D ≤ 435) (H : Heap) (locs : List Loc), lV dC dI g a (lFr g a Si Li sz) s Si S L H locs → ∀ ls : Array Slot, lv_has ls 25 [(0, .ref (g.2.1 0)), (1, .int x1), (2, .int x2), (4, .ref (a 0)), (6, .ref (a 2)), (7, .ref (a 3)), (8, .ref (a 4)), (9, .ref (a 5)), (10, .ref (a 6)), (11, .ref (a 7)), (12, .ref (a 8)), (13, .ref (a 9)), (14, .ref (a 10)), (15, .int x15), (16, .int x16), (17, .int x17), (18, .int x18)] → pL_values_237 N t0 x1 x2 x15 x16 x17 x18 S L C D = some (r, Sf, Lf) → W p l e (lRm 10 373 11 435) s m args below meth c H locs C D (MQ below (lQ dC dI g a sz Si Li (qI r) Sf Lf) args s 11 435 (lFr g a Si Li sz)) (F0 m 237 ls [.int t0]) := by
    intro t0 x1 x2 x15 x16 x17 x18 S L C D hCD H locs I ls hl hpf
    unfold pL_values_237 at hpf
    refine lv_istore (lv' := [(23, .int t0), (0, .ref (g.2.1 0)), (1, .int x1), (2, .int x2), (4, .ref (a 0)), (6, .ref (a 2)), (7, .ref (a 3)), (8, .ref (a 4)), (9, .ref (a 5)), (10, .ref (a 6)), (11, .ref (a 7)), (12, .ref (a 8)), (13, .ref (a 9)), (14, .ref (a 10)), (15, .int x15), (16, .int x16), (17, .int x17), (18, .int x18)]) hx hb dL_values_237 hl (by decide) rfl (fun ls hl => ?_)
    refine lv_iload hx hb dL_values_239 (lv_at hl 14 rfl) ?_
    refine b_if_eq hx hb 255 241 dL_values_241 (by decide) hpf (fun hpf => ?_) (fun hpf => ?_)
    · refine lv_bipush (v := (-9 : Int32)) hx hb dL_values_255 (by decide) ?_
      refine lv_goto (tgt := 314) hx hb dL_values_257 (by decide) ?_
      exact hC_314 (-9 : Int32) x1 x2 x15 x16 x17 S L C D hCD H locs I ls (lv_sub hl [1, 2, 3, 4, 5, 6, 7, 8, 9, 10, 11, 14, 15, 16] rfl) hpf
    refine lv_aload hx hb dL_values_244 (lv_at hl 12 rfl) ?_
    refine lv_iconst (v := (3 : Int32)) hx hb dL_values_246 (by decide) ?_
    refine lv_iload hx hb dL_values_247 (lv_at hl 14 rfl) ?_
    refine lv_imul hx hb dL_values_249 ?_
    refine l_iald X I lR_9 250 dL_values_250 hpf (fun hpf => ?_)
    refine lv_iconst (v := (1 : Int32)) hx hb dL_values_251 (by decide) ?_
    refine b_icmp_eq hx hb 260 252 dL_values_252 (by decide) hpf (fun hpf => ?_) (fun hpf => ?_)
    · refine lv_iload hx hb dL_values_260 (lv_at hl 0 rfl) ?_
      refine b_if_ne hx hb 270 262 dL_values_262 (by decide) hpf (fun hpf => ?_) (fun hpf => ?_)
      · refine lv_iload_n hx hb dL_values_270 rfl (lv_at hl 3 rfl) ?_
        refine lv_iconst (v := (3 : Int32)) hx hb dL_values_271 (by decide) ?_
        refine b_icmp_ne hx hb 286 272 dL_values_272 (by decide) hpf (fun hpf => ?_) (fun hpf => ?_)
        · refine lv_iload_n hx hb dL_values_286 rfl (lv_at hl 3 rfl) ?_
          refine lv_iconst (v := (1 : Int32)) hx hb dL_values_287 (by decide) ?_
          refine b_icmp_ne hx hb 304 288 dL_values_288 (by decide) hpf (fun hpf => ?_) (fun hpf => ?_)
          · refine lv_aload hx hb dL_values_304 (lv_at hl 13 rfl) ?_
            refine lv_iload hx hb dL_values_306 (lv_at hl 17 rfl) ?_
            refine l_lald X I lR_10 308 dL_values_308 hpf (fun hpf => ?_)
            refine l_cAI (rest := []) (As := [.long (aJ L 10 x18.toNatClampNeg)]) X I fL_bits (c_L_bits l hlt N (aJ L 10 x18.toNatClampNeg)) rfl ⟨Nat.le_of_ble_eq_true rfl, Nat.le_of_ble_eq_true rfl⟩ 309 dL_values_309 rfl hl.1 rfl (Nat.le_of_ble_eq_true rfl) hCD hpf (fun v101 L102 H locs I hpf => ?_)
            refine lv_iconst (v := (1 : Int32)) hx hb dL_values_312 (by decide) ?_
            refine lv_isub hx hb dL_values_313 ?_
            exact hC_314 (v101 - (1 : Int32)) x1 x2 x15 x16 x17 S L102 C D hCD H locs I ls (lv_sub hl [1, 2, 3, 4, 5, 6, 7, 8, 9, 10, 11, 14, 15, 16] rfl) hpf
          refine lv_aload hx hb dL_values_291 (lv_at hl 13 rfl) ?_
          refine lv_iload hx hb dL_values_293 (lv_at hl 17 rfl) ?_
          refine l_lald X I lR_10 295 dL_values_295 hpf (fun hpf => ?_)
          refine l_cAI (rest := []) (As := [.long (aJ L 10 x18.toNatClampNeg)]) X I fL_bits (c_L_bits l hlt N (aJ L 10 x18.toNatClampNeg)) rfl ⟨Nat.le_of_ble_eq_true rfl, Nat.le_of_ble_eq_true rfl⟩ 296 dL_values_296 rfl hl.1 rfl (Nat.le_of_ble_eq_true rfl) hCD hpf (fun v103 L104 H locs I hpf => ?_)
          refine lv_iconst (v := (1 : Int32)) hx hb dL_values_299 (by decide) ?_
          refine lv_iadd hx hb dL_values_300 ?_
          refine lv_goto (tgt := 314) hx hb dL_values_301 (by decide) ?_
          exact hC_314 (v103 + (1 : Int32)) x1 x2 x15 x16 x17 S L104 C D hCD H locs I ls (lv_sub hl [1, 2, 3, 4, 5, 6, 7, 8, 9, 10, 11, 14, 15, 16] rfl) hpf
        refine lv_aload hx hb dL_values_275 (lv_at hl 13 rfl) ?_
        refine lv_iload hx hb dL_values_277 (lv_at hl 17 rfl) ?_
        refine l_lald X I lR_10 279 dL_values_279 hpf (fun hpf => ?_)
        refine l_cAI (rest := []) (As := [.long (aJ L 10 x18.toNatClampNeg)]) X I fL_bits (c_L_bits l hlt N (aJ L 10 x18.toNatClampNeg)) rfl ⟨Nat.le_of_ble_eq_true rfl, Nat.le_of_ble_eq_true rfl⟩ 280 dL_values_280 rfl hl.1 rfl (Nat.le_of_ble_eq_true rfl) hCD hpf (fun v105 L106 H locs I hpf => ?_)
        refine lv_goto (tgt := 314) hx hb dL_values_283 (by decide) ?_
        exact hC_314 v105 x1 x2 x15 x16 x17 S L106 C D hCD H locs I ls (lv_sub hl [1, 2, 3, 4, 5, 6, 7, 8, 9, 10, 11, 14, 15, 16] rfl) hpf
      refine lv_bipush (v := (-7 : Int32)) hx hb dL_values_265 (by decide) ?_
      refine lv_goto (tgt := 314) hx hb dL_values_267 (by decide) ?_
      exact hC_314 (-7 : Int32) x1 x2 x15 x16 x17 S L C D hCD H locs I ls (lv_sub hl [1, 2, 3, 4, 5, 6, 7, 8, 9, 10, 11, 14, 15, 16] rfl) hpf
    refine lv_bipush (v := (-9 : Int32)) hx hb dL_values_255 (by decide) ?_
    refine lv_goto (tgt := 314) hx hb dL_values_257 (by decide) ?_
    exact hC_314 (-9 : Int32) x1 x2 x15 x16 x17 S L C D hCD H locs I ls (lv_sub hl [1, 2, 3, 4, 5, 6, 7, 8, 9, 10, 11, 14, 15, 16] rfl) hpf
  have hC_106 : ∀ (t0 : Int32) (x1 : Int32) (x2 : Int32) (x15 : Int32) (x16 : Int32) (x17 : Int32) (x18 : Int32) (x19 : Int32) (w20 : Int64) (S : kS) (L : lS) (C D : Nat) (hCD : C ≤ 11 ∧ D ≤ 435) (H : Heap) (locs : List Loc), lV dC dI g a (lFr g a Si Li sz) s Si S L H locs → ∀ ls : Array Slot, lv_has ls 25 [(0, .ref (g.2.1 0)), (1, .int x1), (2, .int x2), (4, .ref (a 0)), (5, .ref (a 1)), (6, .ref (a 2)), (7, .ref (a 3)), (8, .ref (a 4)), (9, .ref (a 5)), (10, .ref (a 6)), (11, .ref (a 7)), (12, .ref (a 8)), (13, .ref (a 9)), (14, .ref (a 10)), (15, .int x15), (16, .int x16), (17, .int x17), (18, .int x18), (19, .int x19), (20, .long w20)] → pL_values_106 N t0 x1 x2 x15 x16 x17 x18 x19 w20 S L C D = some (r, Sf, Lf) → W p l e (lRm 10 373 11 435) s m args below meth c H locs C D (MQ below (lQ dC dI g a sz Si Li (qI r) Sf Lf) args s 11 435 (lFr g a Si Li sz)) (F0 m 106 ls [.int t0]) := by
    intro t0 x1 x2 x15 x16 x17 x18 x19 w20 S L C D hCD H locs I ls hl hpf
    unfold pL_values_106 at hpf
    refine lv_istore (lv' := [(22, .int t0), (0, .ref (g.2.1 0)), (1, .int x1), (2, .int x2), (4, .ref (a 0)), (5, .ref (a 1)), (6, .ref (a 2)), (7, .ref (a 3)), (8, .ref (a 4)), (9, .ref (a 5)), (10, .ref (a 6)), (11, .ref (a 7)), (12, .ref (a 8)), (13, .ref (a 9)), (14, .ref (a 10)), (15, .int x15), (16, .int x16), (17, .int x17), (18, .int x18), (19, .int x19), (20, .long w20)]) hx hb dL_values_106 hl (by decide) rfl (fun ls hl => ?_)
    refine lv_iload_n hx hb dL_values_108 rfl (lv_at hl 2 rfl) ?_
    refine lv_aload hx hb dL_values_109 (lv_at hl 4 rfl) ?_
    refine lv_iconst (v := (4 : Int32)) hx hb dL_values_111 (by decide) ?_
    refine lv_iload_n hx hb dL_values_112 rfl (lv_at hl 2 rfl) ?_
    refine lv_iadd hx hb dL_values_113 ?_
    refine l_iald X I lR_0 114 dL_values_114 hpf (fun hpf => ?_)
    refine lv_iload hx hb dL_values_115 (lv_at hl 15 rfl) ?_
    refine lv_iconst (v := (1 : Int32)) hx hb dL_values_117 (by decide) ?_
    refine lv_aload hx hb dL_values_118 (lv_at hl 4 rfl) ?_
    refine lv_aload hx hb dL_values_120 (lv_at hl 6 rfl) ?_
    refine lv_aload hx hb dL_values_122 (lv_at hl 7 rfl) ?_
    refine lv_aload hx hb dL_values_124 (lv_at hl 8 rfl) ?_
    refine lv_aload hx hb dL_values_126 (lv_at hl 9 rfl) ?_
    refine lv_aload hx hb dL_values_128 (lv_at hl 10 rfl) ?_
    refine lv_aload hx hb dL_values_130 (lv_at hl 12 rfl) ?_
    refine lv_aload hx hb dL_values_132 (lv_at hl 13 rfl) ?_
    refine lv_aload hx hb dL_values_134 (lv_at hl 14 rfl) ?_
    refine l_cAI (rest := []) (As := [.int x1, .int (aI L 0 ((4 : Int32) + x1).toNatClampNeg), .int x15, .int (1 : Int32), .ref (a 0), .ref (a 2), .ref (a 3), .ref (a 4), .ref (a 5), .ref (a 6), .ref (a 8), .ref (a 9), .ref (a 10)]) X I fL_may (c_L_may l hlt N x1 (aI L 0 ((4 : Int32) + x1).toNatClampNeg) x15 (1 : Int32)) rfl ⟨Nat.le_of_ble_eq_true rfl, Nat.le_of_ble_eq_true rfl⟩ 136 dL_values_136 rfl hl.1 rfl (Nat.le_of_ble_eq_true rfl) hCD hpf (fun v101 L102 H locs I hpf => ?_)
    refine b_if_eq hx hb 236 139 dL_values_139 (by decide) hpf (fun hpf => ?_) (fun hpf => ?_)
    · refine lv_iconst (v := (0 : Int32)) hx hb dL_values_236 (by decide) ?_
      exact hC_237 (0 : Int32) x1 x2 x15 x16 x17 x18 S L102 C D hCD H locs I ls (lv_sub hl [1, 2, 3, 4, 6, 7, 8, 9, 10, 11, 12, 13, 14, 15, 16, 17, 18] rfl) hpf
    refine lv_iload_n hx hb dL_values_142 rfl (lv_at hl 3 rfl) ?_
    refine lv_iconst (v := (1 : Int32)) hx hb dL_values_143 (by decide) ?_
    refine b_icmp_ne hx hb 185 144 dL_values_144 (by decide) hpf (fun hpf => ?_) (fun hpf => ?_)
    · refine lv_iload_n hx hb dL_values_185 rfl (lv_at hl 3 rfl) ?_
      refine lv_iconst (v := (2 : Int32)) hx hb dL_values_186 (by decide) ?_
      refine b_icmp_ne hx hb 227 187 dL_values_187 (by decide) hpf (fun hpf => ?_) (fun hpf => ?_)
      · refine lv_iload hx hb dL_values_227 (lv_at hl 0 rfl) ?_
        refine b_if_eq hx hb 236 229 dL_values_229 (by decide) hpf (fun hpf => ?_) (fun hpf => ?_)
        · refine lv_iconst (v := (0 : Int32)) hx hb dL_values_236 (by decide) ?_
          exact hC_237 (0 : Int32) x1 x2 x15 x16 x17 x18 S L102 C D hCD H locs I ls (lv_sub hl [1, 2, 3, 4, 6, 7, 8, 9, 10, 11, 12, 13, 14, 15, 16, 17, 18] rfl) hpf
        refine lv_iconst (v := (1 : Int32)) hx hb dL_values_232 (by decide) ?_
        refine lv_goto (tgt := 237) hx hb dL_values_233 (by decide) ?_
        exact hC_237 (1 : Int32) x1 x2 x15 x16 x17 x18 S L102 C D hCD H locs I ls (lv_sub hl [1, 2, 3, 4, 6, 7, 8, 9, 10, 11, 12, 13, 14, 15, 16, 17, 18] rfl) hpf
      refine lv_lload hx hb dL_values_190 (lv_at hl 20 rfl) ?_
      refine lv_lconst (v := (0 : Int64)) hx hb dL_values_192 (by decide) ?_
      refine W.lcmp hx hb dL_values_193 ?_
      refine b_if_eq hx hb 236 194 dL_values_194 (by decide) hpf (fun hpf => ?_) (fun hpf => ?_)
      · refine lv_iconst (v := (0 : Int32)) hx hb dL_values_236 (by decide) ?_
        exact hC_237 (0 : Int32) x1 x2 x15 x16 x17 x18 S L102 C D hCD H locs I ls (lv_sub hl [1, 2, 3, 4, 6, 7, 8, 9, 10, 11, 12, 13, 14, 15, 16, 17, 18] rfl) hpf
      refine lv_iload hx hb dL_values_197 (lv_at hl 19 rfl) ?_
      refine lv_aload hx hb dL_values_199 (lv_at hl 5 rfl) ?_
      refine l_cAI (rest := []) (As := [.int x19, .ref (a 1)]) X I fL_requires (c_L_requires l hlt N x19) rfl ⟨Nat.le_of_ble_eq_true rfl, Nat.le_of_ble_eq_true rfl⟩ 201 dL_values_201 rfl hl.1 rfl (Nat.le_of_ble_eq_true rfl) hCD hpf (fun v103 L104 H locs I hpf => ?_)
      refine lv_iload hx hb dL_values_204 (lv_at hl 16 rfl) ?_
      refine lv_ishr hx hb dL_values_206 ?_
      refine lv_iconst (v := (1 : Int32)) hx hb dL_values_207 (by decide) ?_
      refine lv_iand hx hb dL_values_208 ?_
      refine b_if_eq hx hb 232 209 dL_values_209 (by decide) hpf (fun hpf => ?_) (fun hpf => ?_)
      · refine lv_iconst (v := (1 : Int32)) hx hb dL_values_232 (by decide) ?_
        refine lv_goto (tgt := 237) hx hb dL_values_233 (by decide) ?_
        exact hC_237 (1 : Int32) x1 x2 x15 x16 x17 x18 S L104 C D hCD H locs I ls (lv_sub hl [1, 2, 3, 4, 6, 7, 8, 9, 10, 11, 12, 13, 14, 15, 16, 17, 18] rfl) hpf
      refine lv_aload hx hb dL_values_212 (lv_at hl 14 rfl) ?_
      refine lv_iload hx hb dL_values_214 (lv_at hl 18 rfl) ?_
      refine l_lald X I lR_10 216 dL_values_216 hpf (fun hpf => ?_)
      refine l_cAI (rest := []) (As := [.long (aJ L104 10 x18.toNatClampNeg)]) X I fL_bits (c_L_bits l hlt N (aJ L104 10 x18.toNatClampNeg)) rfl ⟨Nat.le_of_ble_eq_true rfl, Nat.le_of_ble_eq_true rfl⟩ 217 dL_values_217 rfl hl.1 rfl (Nat.le_of_ble_eq_true rfl) hCD hpf (fun v105 L106 H locs I hpf => ?_)
      refine lv_iconst (v := (1 : Int32)) hx hb dL_values_220 (by decide) ?_
      refine b_icmp_le hx hb 236 221 dL_values_221 (by decide) hpf (fun hpf => ?_) (fun hpf => ?_)
      · refine lv_iconst (v := (0 : Int32)) hx hb dL_values_236 (by decide) ?_
        exact hC_237 (0 : Int32) x1 x2 x15 x16 x17 x18 S L106 C D hCD H locs I ls (lv_sub hl [1, 2, 3, 4, 6, 7, 8, 9, 10, 11, 12, 13, 14, 15, 16, 17, 18] rfl) hpf
      refine lv_goto (tgt := 232) hx hb dL_values_224 (by decide) ?_
      refine lv_iconst (v := (1 : Int32)) hx hb dL_values_232 (by decide) ?_
      refine lv_goto (tgt := 237) hx hb dL_values_233 (by decide) ?_
      exact hC_237 (1 : Int32) x1 x2 x15 x16 x17 x18 S L106 C D hCD H locs I ls (lv_sub hl [1, 2, 3, 4, 6, 7, 8, 9, 10, 11, 12, 13, 14, 15, 16, 17, 18] rfl) hpf
    refine lv_iload hx hb dL_values_147 (lv_at hl 0 rfl) ?_
    refine b_if_eq hx hb 236 149 dL_values_149 (by decide) hpf (fun hpf => ?_) (fun hpf => ?_)
    · refine lv_iconst (v := (0 : Int32)) hx hb dL_values_236 (by decide) ?_
      exact hC_237 (0 : Int32) x1 x2 x15 x16 x17 x18 S L102 C D hCD H locs I ls (lv_sub hl [1, 2, 3, 4, 6, 7, 8, 9, 10, 11, 12, 13, 14, 15, 16, 17, 18] rfl) hpf
    refine lv_lload hx hb dL_values_152 (lv_at hl 20 rfl) ?_
    refine lv_lconst (v := (0 : Int64)) hx hb dL_values_154 (by decide) ?_
    refine W.lcmp hx hb dL_values_155 ?_
    refine b_if_ne hx hb 236 156 dL_values_156 (by decide) hpf (fun hpf => ?_) (fun hpf => ?_)
    · refine lv_iconst (v := (0 : Int32)) hx hb dL_values_236 (by decide) ?_
      exact hC_237 (0 : Int32) x1 x2 x15 x16 x17 x18 S L102 C D hCD H locs I ls (lv_sub hl [1, 2, 3, 4, 6, 7, 8, 9, 10, 11, 12, 13, 14, 15, 16, 17, 18] rfl) hpf
    refine lv_aload hx hb dL_values_159 (lv_at hl 4 rfl) ?_
    refine lv_bipush (v := (13 : Int32)) hx hb dL_values_161 (by decide) ?_
    refine lv_iload hx hb dL_values_163 (lv_at hl 16 rfl) ?_
    refine lv_iadd hx hb dL_values_165 ?_
    refine l_iald X I lR_0 166 dL_values_166 hpf (fun hpf => ?_)
    refine lv_iconst (v := (2 : Int32)) hx hb dL_values_167 (by decide) ?_
    refine lv_irem hx hb dL_values_168 (by decide) ?_
    refine b_if_eq hx hb 232 169 dL_values_169 (by decide) hpf (fun hpf => ?_) (fun hpf => ?_)
    · refine lv_iconst (v := (1 : Int32)) hx hb dL_values_232 (by decide) ?_
      refine lv_goto (tgt := 237) hx hb dL_values_233 (by decide) ?_
      exact hC_237 (1 : Int32) x1 x2 x15 x16 x17 x18 S L102 C D hCD H locs I ls (lv_sub hl [1, 2, 3, 4, 6, 7, 8, 9, 10, 11, 12, 13, 14, 15, 16, 17, 18] rfl) hpf
    refine lv_aload hx hb dL_values_172 (lv_at hl 14 rfl) ?_
    refine lv_iload hx hb dL_values_174 (lv_at hl 18 rfl) ?_
    refine l_lald X I lR_10 176 dL_values_176 hpf (fun hpf => ?_)
    refine lv_lconst (v := (0 : Int64)) hx hb dL_values_177 (by decide) ?_
    refine W.lcmp hx hb dL_values_178 ?_
    refine b_if_ne hx hb 236 179 dL_values_179 (by decide) hpf (fun hpf => ?_) (fun hpf => ?_)
    · refine lv_iconst (v := (0 : Int32)) hx hb dL_values_236 (by decide) ?_
      exact hC_237 (0 : Int32) x1 x2 x15 x16 x17 x18 S L102 C D hCD H locs I ls (lv_sub hl [1, 2, 3, 4, 6, 7, 8, 9, 10, 11, 12, 13, 14, 15, 16, 17, 18] rfl) hpf
    refine lv_goto (tgt := 232) hx hb dL_values_182 (by decide) ?_
    refine lv_iconst (v := (1 : Int32)) hx hb dL_values_232 (by decide) ?_
    refine lv_goto (tgt := 237) hx hb dL_values_233 (by decide) ?_
    exact hC_237 (1 : Int32) x1 x2 x15 x16 x17 x18 S L102 C D hCD H locs I ls (lv_sub hl [1, 2, 3, 4, 6, 7, 8, 9, 10, 11, 12, 13, 14, 15, 16, 17, 18] rfl) hpf
  have hC_43 : ∀ (t0 : Int32) (t1 : Int32) (x1 : Int32) (x2 : Int32) (x15 : Int32) (x16 : Int32) (S : kS) (L : lS) (C D : Nat) (hCD : C ≤ 11 ∧ D ≤ 435) (H : Heap) (locs : List Loc), lV dC dI g a (lFr g a Si Li sz) s Si S L H locs → ∀ ls : Array Slot, lv_has ls 25 [(0, .ref (g.2.1 0)), (1, .int x1), (2, .int x2), (4, .ref (a 0)), (5, .ref (a 1)), (6, .ref (a 2)), (7, .ref (a 3)), (8, .ref (a 4)), (9, .ref (a 5)), (10, .ref (a 6)), (11, .ref (a 7)), (12, .ref (a 8)), (13, .ref (a 9)), (14, .ref (a 10)), (15, .int x15), (16, .int x16)] → pL_values_43 N t0 t1 x1 x2 x15 x16 S L C D = some (r, Sf, Lf) → W p l e (lRm 10 373 11 435) s m args below meth c H locs C D (MQ below (lQ dC dI g a sz Si Li (qI r) Sf Lf) args s 11 435 (lFr g a Si Li sz)) (F0 m 43 ls [.int t0, .int t1]) := by
    intro t0 t1 x1 x2 x15 x16 S L C D hCD H locs I ls hl hpf
    unfold pL_values_43 at hpf
    refine l_cAI (rest := []) (As := [.int t1, .int t0]) X I fL_low (c_L_low l hlt N t1 t0) rfl ⟨Nat.le_of_ble_eq_true rfl, Nat.le_of_ble_eq_true rfl⟩ 43 dL_values_43 rfl hl.1 rfl (Nat.le_of_ble_eq_true rfl) hCD hpf (fun v101 L102 H locs I hpf => ?_)
    refine lv_istore (lv' := [(17, .int v101), (0, .ref (g.2.1 0)), (1, .int x1), (2, .int x2), (4, .ref (a 0)), (5, .ref (a 1)), (6, .ref (a 2)), (7, .ref (a 3)), (8, .ref (a 4)), (9, .ref (a 5)), (10, .ref (a 6)), (11, .ref (a 7)), (12, .ref (a 8)), (13, .ref (a 9)), (14, .ref (a 10)), (15, .int x15), (16, .int x16)]) hx hb dL_values_46 hl (by decide) rfl (fun ls hl => ?_)
    refine lv_iconst (v := (3 : Int32)) hx hb dL_values_48 (by decide) ?_
    refine lv_iload hx hb dL_values_49 (lv_at hl 15 rfl) ?_
    refine lv_imul hx hb dL_values_51 ?_
    refine lv_iload hx hb dL_values_52 (lv_at hl 16 rfl) ?_
    refine lv_iadd hx hb dL_values_54 ?_
    refine m_isto hx hb (fun y103 => [(18, .int y103), (17, .int v101), (0, .ref (g.2.1 0)), (1, .int x1), (2, .int x2), (4, .ref (a 0)), (5, .ref (a 1)), (6, .ref (a 2)), (7, .ref (a 3)), (8, .ref (a 4)), (9, .ref (a 5)), (10, .ref (a 6)), (11, .ref (a 7)), (12, .ref (a 8)), (13, .ref (a 9)), (14, .ref (a 10)), (15, .int x15), (16, .int x16)]) 55 dL_values_55 hl (by decide) (fun _ => rfl) hpf (fun y103 ls hl hpf => ?_)
    refine lv_aload hx hb dL_values_57 (lv_at hl 14 rfl) ?_
    refine lv_iconst (v := (3 : Int32)) hx hb dL_values_59 (by decide) ?_
    refine lv_iload hx hb dL_values_60 (lv_at hl 16 rfl) ?_
    refine lv_imul hx hb dL_values_62 ?_
    refine lv_iconst (v := (1 : Int32)) hx hb dL_values_63 (by decide) ?_
    refine lv_iadd hx hb dL_values_64 ?_
    refine l_iald X I lR_9 65 dL_values_65 hpf (fun hpf => ?_)
    refine m_isto hx hb (fun y104 => [(19, .int y104), (18, .int y103), (17, .int v101), (0, .ref (g.2.1 0)), (1, .int x1), (2, .int x2), (4, .ref (a 0)), (5, .ref (a 1)), (6, .ref (a 2)), (7, .ref (a 3)), (8, .ref (a 4)), (9, .ref (a 5)), (10, .ref (a 6)), (11, .ref (a 7)), (12, .ref (a 8)), (13, .ref (a 9)), (14, .ref (a 10)), (15, .int x15), (16, .int x16)]) 66 dL_values_66 hl (by decide) (fun _ => rfl) hpf (fun y104 ls hl hpf => ?_)
    refine lv_aload hx hb dL_values_68 (lv_at hl 16 rfl) ?_
    refine lv_iload hx hb dL_values_70 (lv_at hl 1 rfl) ?_
    refine l_lald X I lR_10 72 dL_values_72 hpf (fun hpf => ?_)
    refine lv_iload hx hb dL_values_73 (lv_at hl 18 rfl) ?_
    refine lv_iload hx hb dL_values_75 (lv_at hl 2 rfl) ?_
    refine lv_aload hx hb dL_values_77 (lv_at hl 6 rfl) ?_
    refine l_cAJ (rest := [.long (aJ L102 10 y103.toNatClampNeg)]) (As := [.int x16, .int v101, .ref (a 0)]) X I fL_match (c_L_match l hlt N x16 v101) rfl ⟨Nat.le_of_ble_eq_true rfl, Nat.le_of_ble_eq_true rfl⟩ 79 dL_values_79 rfl hl.1 rfl (Nat.le_of_ble_eq_true rfl) hCD hpf (fun v105 L106 H locs I hpf => ?_)
    refine lv_land hx hb dL_values_82 ?_
    refine k_lsto hx hb (fun y107 => [(20, .long y107), (19, .int y104), (18, .int y103), (17, .int v101), (0, .ref (g.2.1 0)), (1, .int x1), (2, .int x2), (4, .ref (a 0)), (5, .ref (a 1)), (6, .ref (a 2)), (7, .ref (a 3)), (8, .ref (a 4)), (9, .ref (a 5)), (10, .ref (a 6)), (11, .ref (a 7)), (12, .ref (a 8)), (13, .ref (a 9)), (14, .ref (a 10)), (15, .int x15), (16, .int x16)]) 83 dL_values_83 hl (by decide) (fun _ => rfl) hpf (fun y107 ls hl hpf => ?_)
    refine lv_iload hx hb dL_values_85 (lv_at hl 1 rfl) ?_
    refine lv_aload hx hb dL_values_87 (lv_at hl 8 rfl) ?_
    refine l_cAI (rest := []) (As := [.int y104, .ref (a 1)]) X I fL_allows (c_L_allows l hlt N y104) rfl ⟨Nat.le_of_ble_eq_true rfl, Nat.le_of_ble_eq_true rfl⟩ 89 dL_values_89 rfl hl.1 rfl (Nat.le_of_ble_eq_true rfl) hCD hpf (fun v108 L109 H locs I hpf => ?_)
    refine lv_iload hx hb dL_values_92 (lv_at hl 19 rfl) ?_
    refine lv_ishr hx hb dL_values_94 ?_
    refine lv_iconst (v := (1 : Int32)) hx hb dL_values_95 (by decide) ?_
    refine lv_iand hx hb dL_values_96 ?_
    refine lv_iconst (v := (1 : Int32)) hx hb dL_values_97 (by decide) ?_
    refine b_icmp_ne hx hb 105 98 dL_values_98 (by decide) hpf (fun hpf => ?_) (fun hpf => ?_)
    · refine lv_iconst (v := (0 : Int32)) hx hb dL_values_105 (by decide) ?_
      exact hC_106 (0 : Int32) x1 x2 x15 x16 v101 y103 y104 y107 S L109 C D hCD H locs I ls (lv_sub hl [4, 5, 6, 7, 8, 9, 10, 11, 12, 13, 14, 15, 16, 17, 18, 19, 3, 2, 1, 0] rfl) hpf
    refine lv_iconst (v := (1 : Int32)) hx hb dL_values_101 (by decide) ?_
    refine lv_goto (tgt := 106) hx hb dL_values_102 (by decide) ?_
    exact hC_106 (1 : Int32) x1 x2 x15 x16 v101 y103 y104 y107 S L109 C D hCD H locs I ls (lv_sub hl [4, 5, 6, 7, 8, 9, 10, 11, 12, 13, 14, 15, 16, 17, 18, 19, 3, 2, 1, 0] rfl) hpf
  refine lv_iload_n hx hb dL_values_0 rfl (lv_at hl 3 rfl) ?_
  refine lv_aload hx hb dL_values_1 (lv_at hl 4 rfl) ?_
  refine lv_iconst (v := (0 : Int32)) hx hb dL_values_3 (by decide) ?_
  refine l_iald X I lR_0 4 dL_values_4 hpf (fun hpf => ?_)
  refine l_cAI (rest := []) (As := [.int x3, .int (aI Li 0 (0 : Int32).toNatClampNeg)]) X I fL_low (c_L_low l hlt N x3 (aI Li 0 (0 : Int32).toNatClampNeg)) rfl ⟨Nat.le_of_ble_eq_true rfl, Nat.le_of_ble_eq_true rfl⟩ 5 dL_values_5 rfl hl.1 rfl (Nat.le_of_ble_eq_true rfl) hCD hpf (fun v101 L102 H locs I hpf => ?_)
  refine lv_istore (lv' := [(15, .int v101), (0, .ref (g.2.1 0)), (1, .int x1), (2, .int x2), (3, .int x3), (4, .ref (a 0)), (5, .ref (a 1)), (6, .ref (a 2)), (7, .ref (a 3)), (8, .ref (a 4)), (9, .ref (a 5)), (10, .ref (a 6)), (11, .ref (a 7)), (12, .ref (a 8)), (13, .ref (a 9)), (14, .ref (a 10))]) hx hb dL_values_8 hl (by decide) rfl (fun ls hl => ?_)
  refine lv_iload_n hx hb dL_values_10 rfl (lv_at hl 4 rfl) ?_
  refine lv_iconst (v := (4 : Int32)) hx hb dL_values_11 (by decide) ?_
  refine lv_ishr hx hb dL_values_12 ?_
  refine lv_aload hx hb dL_values_13 (lv_at hl 5 rfl) ?_
  refine lv_iconst (v := (2 : Int32)) hx hb dL_values_15 (by decide) ?_
  refine l_iald X I lR_0 16 dL_values_16 hpf (fun hpf => ?_)
  refine l_cAI (rest := []) (As := [.int (x3 >>> ((4 : Int32) &&& 31)), .int (aI L102 0 (2 : Int32).toNatClampNeg)]) X I fL_low (c_L_low l hlt N (x3 >>> ((4 : Int32) &&& 31)) (aI L102 0 (2 : Int32).toNatClampNeg)) rfl ⟨Nat.le_of_ble_eq_true rfl, Nat.le_of_ble_eq_true rfl⟩ 17 dL_values_17 rfl hl.1 rfl (Nat.le_of_ble_eq_true rfl) hCD hpf (fun v103 L104 H locs I hpf => ?_)
  refine lv_istore (lv' := [(16, .int v103), (15, .int v101), (0, .ref (g.2.1 0)), (1, .int x1), (2, .int x2), (3, .int x3), (4, .ref (a 0)), (5, .ref (a 1)), (6, .ref (a 2)), (7, .ref (a 3)), (8, .ref (a 4)), (9, .ref (a 5)), (10, .ref (a 6)), (11, .ref (a 7)), (12, .ref (a 8)), (13, .ref (a 9)), (14, .ref (a 10))]) hx hb dL_values_20 hl (by decide) rfl (fun ls hl => ?_)
  refine lv_iload_n hx hb dL_values_22 rfl (lv_at hl 5 rfl) ?_
  refine lv_bipush (v := (6 : Int32)) hx hb dL_values_23 (by decide) ?_
  refine lv_ishr hx hb dL_values_25 ?_
  refine lv_iload_n hx hb dL_values_26 rfl (lv_at hl 5 rfl) ?_
  refine lv_bipush (v := (11 : Int32)) hx hb dL_values_27 (by decide) ?_
  refine lv_ishr hx hb dL_values_29 ?_
  refine lv_iconst (v := (2 : Int32)) hx hb dL_values_30 (by decide) ?_
  refine l_cAI (rest := [.int (x3 >>> ((6 : Int32) &&& 31))]) (As := [.int (x3 >>> ((11 : Int32) &&& 31)), .int (2 : Int32)]) X I fL_low (c_L_low l hlt N (x3 >>> ((11 : Int32) &&& 31)) (2 : Int32)) rfl ⟨Nat.le_of_ble_eq_true rfl, Nat.le_of_ble_eq_true rfl⟩ 31 dL_values_31 rfl hl.1 rfl (Nat.le_of_ble_eq_true rfl) hCD hpf (fun v105 L106 H locs I hpf => ?_)
  refine b_if_ne hx hb 42 34 dL_values_34 (by decide) hpf (fun hpf => ?_) (fun hpf => ?_)
  · refine lv_iconst (v := (5 : Int32)) hx hb dL_values_42 (by decide) ?_
    exact hC_43 (5 : Int32) (x3 >>> ((6 : Int32) &&& 31)) x1 x2 v101 v103 Si L106 0 0 hCD H locs I ls (lv_sub hl [2, 3, 4, 6, 7, 8, 9, 10, 11, 12, 13, 14, 15, 16, 1, 0] rfl) hpf
  refine lv_bipush (v := (60 : Int32)) hx hb dL_values_37 (by decide) ?_
  refine lv_goto (tgt := 43) hx hb dL_values_39 (by decide) ?_
  exact hC_43 (60 : Int32) (x3 >>> ((6 : Int32) &&& 31)) x1 x2 v101 v103 Si L106 0 0 hCD H locs I ls (lv_sub hl [2, 3, 4, 6, 7, 8, 9, 10, 11, 12, 13, 14, 15, 16, 1, 0] rfl) hpf
-- ===== the law's moves =====
noncomputable def pL_moves_244 (N : Nat) (x1 : Int32) (x13 : Int32) (x14 : Int32) (x17 : Int32) (S : kS) (L : lS) (C : Nat) (D : Nat) : Option (Int32 × kS × lS) :=
    lbb 11 435 11 435 C D (pL_calls N (7 : Int32) x1 x13 x14 (0 : Int32) S L) fun v101 S102 L103 C104 D105 =>
    if v101 = x17 then (
      zlB 11 435 C104 D105 (1 : Int32) S102 L103)
    else (
      zlB 11 435 C104 D105 (0 : Int32) S102 L103)
noncomputable def pL_moves_210 (N : Nat) (t0 : Int32) (x1 : Int32) (x13 : Int32) (x14 : Int32) (x16 : Int32) (S : kS) (L : lS) (C : Nat) (D : Nat) : Option (Int32 × kS × lS) :=
    if x16 = (0 : Int32) then (
      pL_moves_244 N x1 x13 x14 t0 S L C D)
    else (
      lba (pL_makes N x1 (7 : Int32) x13 x14 (0 : Int32) (0 : Int64) L) fun v101 L102 =>
      pL_moves_244 N x1 x13 x14 t0 S L102 C D)
noncomputable def pL_moves_181 (N : Nat) (t0 : Int32) (x1 : Int32) (x13 : Int32) (x14 : Int32) (x15 : Int32) (S : kS) (L : lS) (C : Nat) (D : Nat) : Option (Int32 × kS × lS) :=
    if x15 = (0 : Int32) then (
      pL_moves_210 N (-9 : Int32) x1 x13 x14 t0 S L C D)
    else (
      if t0 = (0 : Int32) then (
        pL_moves_210 N (-7 : Int32) x1 x13 x14 t0 S L C D)
      else (
        lba (pL_place N x13 L) fun v101 L102 =>
        pL_moves_210 N v101 x1 x13 x14 t0 S L102 C D))
noncomputable def pL_moves_52 (N : Nat) (t0 : Int32) (x1 : Int32) (x13 : Int32) (x14 : Int32) (S : kS) (L : lS) (C : Nat) (D : Nat) : Option (Int32 × kS × lS) :=
    if t0 = (0 : Int32) then (
      pL_moves_181 N (0 : Int32) x1 x13 x14 t0 S L C D)
    else (
      gd ((4 : Int32) + x1) 20 <|
      lba (pL_may N x1 (aI L 0 ((4 : Int32) + x1).toNatClampNeg) x13 (1 : Int32) L) fun v101 L102 =>
      if v101 = (0 : Int32) then (
        pL_moves_181 N (0 : Int32) x1 x13 x14 t0 S L102 C D)
      else (
        gd ((4 : Int32) + x1) 20 <|
        lba (pL_may N x1 (aI L102 0 ((4 : Int32) + x1).toNatClampNeg) x14 (1 : Int32) L102) fun v103 L104 =>
        if v103 = (0 : Int32) then (
          pL_moves_181 N (0 : Int32) x1 x13 x14 t0 S L104 C D)
        else (
          lba (pL_up N x13 x14 L104) fun v105 L106 =>
          if v105 = (0 : Int32) then (
            lba (pL_name N x1 x13 L106) fun v107 L108 =>
            lba (pL_named N x1 x14 x13 v107 L108) fun v109 L110 =>
            if v109 = (0 : Int32) then (
              pL_moves_181 N (1 : Int32) x1 x13 x14 t0 S L110 C D)
            else (
              pL_moves_181 N (0 : Int32) x1 x13 x14 t0 S L110 C D))
          else (
            pL_moves_181 N (0 : Int32) x1 x13 x14 t0 S L106 C D))))
noncomputable def pL_moves (N : Nat) (x1 : Int32) (x2 : Int32) (S : kS) (L : lS) : Option (Int32 × kS × lS) :=
    gd (0 : Int32) 20 <|
    lba (pL_low N x2 (aI L 0 (0 : Int32).toNatClampNeg) L) fun v101 L102 =>
    gd (0 : Int32) 20 <|
    lba (pL_low N (x2 >>> ((4 : Int32) &&& 31)) (aI L102 0 (0 : Int32).toNatClampNeg) L102) fun v103 L104 =>
    if v101 ≤ (0 : Int32) then (
      pL_moves_52 N (0 : Int32) x1 v101 v103 S L104 0 0)
    else (
      gd ((3 : Int32) * v101) 36 <|
      if (aI L104 9 ((3 : Int32) * v101).toNatClampNeg) = (1 : Int32) then (
        gd ((3 : Int32) * v103) 36 <|
        if (aI L104 9 ((3 : Int32) * v103).toNatClampNeg) = (1 : Int32) then (
          pL_moves_52 N (1 : Int32) x1 v101 v103 S L104 0 0)
        else (
          pL_moves_52 N (0 : Int32) x1 v101 v103 S L104 0 0))
      else (
        pL_moves_52 N (0 : Int32) x1 v101 v103 S L104 0 0))
theorem fL_moves : lFnS yL_moves (.code yL_moves cL_moves 18 (some .boolean)) 13 267 := ⟨kT_232, kT_233, kT_117, rfl, by decide +kernel⟩
set_option maxRecDepth 100000 in
set_option maxHeartbeats 4000000 in
theorem c_L_moves (l : Launch) (hlt : l.stackTraces = false) (N : Nat) (x1 : Int32) (x2 : Int32) : lMet l yL_moves (.code yL_moves cL_moves 18 (some .boolean)) 10 373 11 435 (fun ca a => [.ref (ca 0), .int x1, .int x2, .ref (a 0), .ref (a 2), .ref (a 3), .ref (a 4), .ref (a 5), .ref (a 6), .ref (a 7), .ref (a 8), .ref (a 9), .ref (a 10)]) qI (pL_moves N x1 x2) := by
  refine l_start hlt (by decide +kernel) rfl (fun ca a => [(0, .ref (ca 0)), (1, .int x1), (2, .int x2), (3, .ref (a 0)), (4, .ref (a 2)), (5, .ref (a 3)), (6, .ref (a 4)), (7, .ref (a 5)), (8, .ref (a 6)), (9, .ref (a 7)), (10, .ref (a 8)), (11, .ref (a 9)), (12, .ref (a 10))]) (fun _ _ => Nat.le_of_ble_eq_true rfl) (fun _ _ => rfl) ?_
  intro dC dI g a sz Si Li r Sf Lf hpf p e s m args below meth c X hr H locs I ls hl
  have hx := X.1
  have hb := X.2.1
  have hCD : (0 : Nat) ≤ 11 ∧ (0 : Nat) ≤ 435 := ⟨Nat.zero_le _, Nat.zero_le _⟩
  unfold pL_moves at hpf
  have hC_244 : ∀ (x1 : Int32) (x13 : Int32) (x14 : Int32) (x17 : Int32) (S : kS) (L : lS) (C D : Nat) (hCD : C ≤ 11 ∧ D ≤ 435) (H : Heap) (locs : List Loc), lV dC dI g a (lFr g a Si Li sz) s Si S L H locs → ∀ ls : Array Slot, lv_has ls 18 [(0, .ref (g.2.1 0)), (1, .int x1), (13, .int x13), (14, .int x14), (17, .int x17)] → pL_moves_244 N x1 x13 x14 x17 S L C D = some (r, Sf, Lf) → W p l e (lRm 10 373 11 435) s m args below meth c H locs C D (MQ below (lQ dC dI g a sz Si Li (qI r) Sf Lf) args s 11 435 (lFr g a Si Li sz)) (F0 m 244 ls []) := by
    intro x1 x13 x14 x17 S L C D hCD H locs I ls hl hpf
    unfold pL_moves_244 at hpf
    refine lv_aload_n hx hb dL_moves_244 rfl (lv_at hl 0 rfl) ?_
    refine lv_bipush (v := (7 : Int32)) hx hb dL_moves_245 (by decide) ?_
    refine lv_iload_n hx hb dL_moves_247 rfl (lv_at hl 1 rfl) ?_
    refine lv_iload hx hb dL_moves_248 (lv_at hl 2 rfl) ?_
    refine lv_iload hx hb dL_moves_250 (lv_at hl 3 rfl) ?_
    refine lv_iconst (v := (0 : Int32)) hx hb dL_moves_252 (by decide) ?_
    refine l_cBW (rest := []) (As := [.ref (g.2.1 0), .int (7 : Int32), .int x1, .int x13, .int x14, .int (0 : Int32)]) X I fL_calls (c_L_calls l hlt N (7 : Int32) x1 x13 x14 (0 : Int32)) rfl ⟨Nat.le_of_ble_eq_true rfl, Nat.le_of_ble_eq_true rfl⟩ 253 dL_moves_253 rfl hl.1 rfl (Nat.le_of_ble_eq_true rfl) ⟨Nat.le_refl _, Nat.le_refl _⟩ hpf (fun v101 S102 L103 C104 D105 hCD H locs I hpf => ?_)
    refine lv_iload hx hb dL_moves_256 (lv_at hl 4 rfl) ?_
    refine b_icmp_ne hx hb 265 258 dL_moves_258 (by decide) hpf (fun hpf => ?_) (fun hpf => ?_)
    · refine lv_iconst (v := (0 : Int32)) hx hb dL_moves_265 (by decide) ?_
      exact l_retzB X I hr 266 dL_moves_266 hpf
    refine lv_iconst (v := (1 : Int32)) hx hb dL_moves_261 (by decide) ?_
    refine lv_goto (tgt := 266) hx hb dL_moves_262 (by decide) ?_
    exact l_retzB X I hr 266 dL_moves_266 hpf
  have hC_210 : ∀ (t0 : Int32) (x1 : Int32) (x13 : Int32) (x14 : Int32) (x16 : Int32) (S : kS) (L : lS) (C D : Nat) (hCD : C ≤ 11 ∧ D ≤ 435) (H : Heap) (locs : List Loc), lV dC dI g a (lFr g a Si Li sz) s Si S L H locs → ∀ ls : Array Slot, lv_has ls 18 [(0, .ref (g.2.1 0)), (1, .int x1), (3, .ref (a 0)), (4, .ref (a 2)), (5, .ref (a 3)), (6, .ref (a 4)), (7, .ref (a 5)), (8, .ref (a 6)), (9, .ref (a 7)), (10, .ref (a 8)), (13, .int x13), (14, .int x14), (16, .int x16)] → pL_moves_210 N t0 x1 x13 x14 x16 S L C D = some (r, Sf, Lf) → W p l e (lRm 10 373 11 435) s m args below meth c H locs C D (MQ below (lQ dC dI g a sz Si Li (qI r) Sf Lf) args s 11 435 (lFr g a Si Li sz)) (F0 m 210 ls [.int t0]) := by
    intro t0 x1 x13 x14 x16 S L C D hCD H locs I ls hl hpf
    unfold pL_moves_210 at hpf
    refine lv_istore (lv' := [(17, .int t0), (0, .ref (g.2.1 0)), (1, .int x1), (3, .ref (a 0)), (4, .ref (a 2)), (5, .ref (a 3)), (6, .ref (a 4)), (7, .ref (a 5)), (8, .ref (a 6)), (9, .ref (a 7)), (10, .ref (a 8)), (13, .int x13), (14, .int x14), (16, .int x16)]) hx hb dL_moves_210 hl (by decide) rfl (fun ls hl => ?_)
    refine lv_iload hx hb dL_moves_212 (lv_at hl 13 rfl) ?_
    refine b_if_eq hx hb 244 214 dL_moves_214 (by decide) hpf (fun hpf => ?_) (fun hpf => ?_)
    · exact hC_244 x1 x13 x14 t0 S L C D hCD H locs I ls (lv_sub hl [1, 2, 11, 12, 0] rfl) hpf
    refine lv_iload_n hx hb dL_moves_217 rfl (lv_at hl 2 rfl) ?_
    refine lv_bipush (v := (7 : Int32)) hx hb dL_moves_218 (by decide) ?_
    refine lv_iload hx hb dL_moves_220 (lv_at hl 11 rfl) ?_
    refine lv_iload hx hb dL_moves_222 (lv_at hl 12 rfl) ?_
    refine lv_iconst (v := (0 : Int32)) hx hb dL_moves_224 (by decide) ?_
    refine lv_lconst (v := (0 : Int64)) hx hb dL_moves_225 (by decide) ?_
    refine lv_aload_n hx hb dL_moves_226 rfl (lv_at hl 3 rfl) ?_
    refine lv_aload hx hb dL_moves_227 (lv_at hl 4 rfl) ?_
    refine lv_aload hx hb dL_moves_229 (lv_at hl 5 rfl) ?_
    refine lv_aload hx hb dL_moves_231 (lv_at hl 6 rfl) ?_
    refine lv_aload hx hb dL_moves_233 (lv_at hl 7 rfl) ?_
    refine lv_aload hx hb dL_moves_235 (lv_at hl 8 rfl) ?_
    refine lv_aload hx hb dL_moves_237 (lv_at hl 9 rfl) ?_
    refine lv_aload hx hb dL_moves_239 (lv_at hl 10 rfl) ?_
    refine l_cAU (rest := []) (As := [.int x1, .int (7 : Int32), .int x13, .int x14, .int (0 : Int32), .long (0 : Int64), .ref (a 0), .ref (a 2), .ref (a 3), .ref (a 4), .ref (a 5), .ref (a 6), .ref (a 7), .ref (a 8)]) X I fL_makes (c_L_makes l hlt N x1 (7 : Int32) x13 x14 (0 : Int32) (0 : Int64)) rfl ⟨Nat.le_of_ble_eq_true rfl, Nat.le_of_ble_eq_true rfl⟩ 241 dL_moves_241 rfl hl.1 rfl (Nat.le_of_ble_eq_true rfl) hCD hpf (fun v101 L102 H locs I hpf => ?_)
    exact hC_244 x1 x13 x14 t0 S L102 C D hCD H locs I ls (lv_sub hl [1, 2, 11, 12, 0] rfl) hpf
  have hC_181 : ∀ (t0 : Int32) (x1 : Int32) (x13 : Int32) (x14 : Int32) (x15 : Int32) (S : kS) (L : lS) (C D : Nat) (hCD : C ≤ 11 ∧ D ≤ 435) (H : Heap) (locs : List Loc), lV dC dI g a (lFr g a Si Li sz) s Si S L H locs → ∀ ls : Array Slot, lv_has ls 18 [(0, .ref (g.2.1 0)), (1, .int x1), (3, .ref (a 0)), (4, .ref (a 2)), (5, .ref (a 3)), (6, .ref (a 4)), (7, .ref (a 5)), (8, .ref (a 6)), (9, .ref (a 7)), (10, .ref (a 8)), (11, .ref (a 9)), (13, .int x13), (14, .int x14), (15, .int x15)] → pL_moves_181 N t0 x1 x13 x14 x15 S L C D = some (r, Sf, Lf) → W p l e (lRm 10 373 11 435) s m args below meth c H locs C D (MQ below (lQ dC dI g a sz Si Li (qI r) Sf Lf) args s 11 435 (lFr g a Si Li sz)) (F0 m 181 ls [.int t0]) := by
    intro t0 x1 x13 x14 x15 S L C D hCD H locs I ls hl hpf
    unfold pL_moves_181 at hpf
    refine lv_istore (lv' := [(16, .int t0), (0, .ref (g.2.1 0)), (1, .int x1), (3, .ref (a 0)), (4, .ref (a 2)), (5, .ref (a 3)), (6, .ref (a 4)), (7, .ref (a 5)), (8, .ref (a 6)), (9, .ref (a 7)), (10, .ref (a 8)), (11, .ref (a 9)), (13, .int x13), (14, .int x14), (15, .int x15)]) hx hb dL_moves_181 hl (by decide) rfl (fun ls hl => ?_)
    refine lv_iload hx hb dL_moves_183 (lv_at hl 14 rfl) ?_
    refine b_if_ne hx hb 193 185 dL_moves_185 (by decide) hpf (fun hpf => ?_) (fun hpf => ?_)
    · refine lv_iload hx hb dL_moves_193 (lv_at hl 0 rfl) ?_
      refine b_if_eq hx hb 208 195 dL_moves_195 (by decide) hpf (fun hpf => ?_) (fun hpf => ?_)
      · refine lv_bipush (v := (-7 : Int32)) hx hb dL_moves_208 (by decide) ?_
        exact hC_210 (-7 : Int32) x1 x13 x14 t0 S L C D hCD H locs I ls (lv_sub hl [1, 2, 3, 4, 5, 6, 7, 8, 9, 10, 12, 13, 0] rfl) hpf
      refine lv_iload hx hb dL_moves_198 (lv_at hl 12 rfl) ?_
      refine lv_aload hx hb dL_moves_200 (lv_at hl 11 rfl) ?_
      refine l_cAI (rest := []) (As := [.int x13, .ref (a 9)]) X I fL_place (c_L_place l hlt N x13) rfl ⟨Nat.le_of_ble_eq_true rfl, Nat.le_of_ble_eq_true rfl⟩ 202 dL_moves_202 rfl hl.1 rfl (Nat.le_of_ble_eq_true rfl) hCD hpf (fun v101 L102 H locs I hpf => ?_)
      refine lv_goto (tgt := 210) hx hb dL_moves_205 (by decide) ?_
      exact hC_210 v101 x1 x13 x14 t0 S L102 C D hCD H locs I ls (lv_sub hl [1, 2, 3, 4, 5, 6, 7, 8, 9, 10, 12, 13, 0] rfl) hpf
    refine lv_bipush (v := (-9 : Int32)) hx hb dL_moves_188 (by decide) ?_
    refine lv_goto (tgt := 210) hx hb dL_moves_190 (by decide) ?_
    exact hC_210 (-9 : Int32) x1 x13 x14 t0 S L C D hCD H locs I ls (lv_sub hl [1, 2, 3, 4, 5, 6, 7, 8, 9, 10, 12, 13, 0] rfl) hpf
  have hC_52 : ∀ (t0 : Int32) (x1 : Int32) (x13 : Int32) (x14 : Int32) (S : kS) (L : lS) (C D : Nat) (hCD : C ≤ 11 ∧ D ≤ 435) (H : Heap) (locs : List Loc), lV dC dI g a (lFr g a Si Li sz) s Si S L H locs → ∀ ls : Array Slot, lv_has ls 18 [(0, .ref (g.2.1 0)), (1, .int x1), (3, .ref (a 0)), (4, .ref (a 2)), (5, .ref (a 3)), (6, .ref (a 4)), (7, .ref (a 5)), (8, .ref (a 6)), (9, .ref (a 7)), (10, .ref (a 8)), (11, .ref (a 9)), (12, .ref (a 10)), (13, .int x13), (14, .int x14)] → pL_moves_52 N t0 x1 x13 x14 S L C D = some (r, Sf, Lf) → W p l e (lRm 10 373 11 435) s m args below meth c H locs C D (MQ below (lQ dC dI g a sz Si Li (qI r) Sf Lf) args s 11 435 (lFr g a Si Li sz)) (F0 m 52 ls [.int t0]) := by
    intro t0 x1 x13 x14 S L C D hCD H locs I ls hl hpf
    unfold pL_moves_52 at hpf
    refine lv_istore (lv' := [(15, .int t0), (0, .ref (g.2.1 0)), (1, .int x1), (3, .ref (a 0)), (4, .ref (a 2)), (5, .ref (a 3)), (6, .ref (a 4)), (7, .ref (a 5)), (8, .ref (a 6)), (9, .ref (a 7)), (10, .ref (a 8)), (11, .ref (a 9)), (12, .ref (a 10)), (13, .int x13), (14, .int x14)]) hx hb dL_moves_52 hl (by decide) rfl (fun ls hl => ?_)
    refine lv_iload hx hb dL_moves_54 (lv_at hl 0 rfl) ?_
    refine b_if_eq hx hb 180 56 dL_moves_56 (by decide) hpf (fun hpf => ?_) (fun hpf => ?_)
    · refine lv_iconst (v := (0 : Int32)) hx hb dL_moves_180 (by decide) ?_
      exact hC_181 (0 : Int32) x1 x13 x14 t0 S L C D hCD H locs I ls (lv_sub hl [1, 2, 3, 4, 5, 6, 7, 8, 9, 10, 11, 13, 14, 0] rfl) hpf
    refine lv_iload_n hx hb dL_moves_59 rfl (lv_at hl 2 rfl) ?_
    refine lv_aload_n hx hb dL_moves_60 rfl (lv_at hl 3 rfl) ?_
    refine lv_iconst (v := (4 : Int32)) hx hb dL_moves_61 (by decide) ?_
    refine lv_iload_n hx hb dL_moves_62 rfl (lv_at hl 2 rfl) ?_
    refine lv_iadd hx hb dL_moves_63 ?_
    refine l_iald X I lR_0 64 dL_moves_64 hpf (fun hpf => ?_)
    refine lv_iload hx hb dL_moves_65 (lv_at hl 13 rfl) ?_
    refine lv_iconst (v := (1 : Int32)) hx hb dL_moves_67 (by decide) ?_
    refine lv_aload_n hx hb dL_moves_68 rfl (lv_at hl 3 rfl) ?_
    refine lv_aload hx hb dL_moves_69 (lv_at hl 4 rfl) ?_
    refine lv_aload hx hb dL_moves_71 (lv_at hl 5 rfl) ?_
    refine lv_aload hx hb dL_moves_73 (lv_at hl 6 rfl) ?_
    refine lv_aload hx hb dL_moves_75 (lv_at hl 7 rfl) ?_
    refine lv_aload hx hb dL_moves_77 (lv_at hl 8 rfl) ?_
    refine lv_aload hx hb dL_moves_79 (lv_at hl 10 rfl) ?_
    refine lv_aload hx hb dL_moves_81 (lv_at hl 11 rfl) ?_
    refine lv_aload hx hb dL_moves_83 (lv_at hl 12 rfl) ?_
    refine l_cAI (rest := []) (As := [.int x1, .int (aI L 0 ((4 : Int32) + x1).toNatClampNeg), .int x13, .int (1 : Int32), .ref (a 0), .ref (a 2), .ref (a 3), .ref (a 4), .ref (a 5), .ref (a 6), .ref (a 8), .ref (a 9), .ref (a 10)]) X I fL_may (c_L_may l hlt N x1 (aI L 0 ((4 : Int32) + x1).toNatClampNeg) x13 (1 : Int32)) rfl ⟨Nat.le_of_ble_eq_true rfl, Nat.le_of_ble_eq_true rfl⟩ 85 dL_moves_85 rfl hl.1 rfl (Nat.le_of_ble_eq_true rfl) hCD hpf (fun v101 L102 H locs I hpf => ?_)
    refine b_if_eq hx hb 180 88 dL_moves_88 (by decide) hpf (fun hpf => ?_) (fun hpf => ?_)
    · refine lv_iconst (v := (0 : Int32)) hx hb dL_moves_180 (by decide) ?_
      exact hC_181 (0 : Int32) x1 x13 x14 t0 S L102 C D hCD H locs I ls (lv_sub hl [1, 2, 3, 4, 5, 6, 7, 8, 9, 10, 11, 13, 14, 0] rfl) hpf
    refine lv_iload_n hx hb dL_moves_91 rfl (lv_at hl 2 rfl) ?_
    refine lv_aload_n hx hb dL_moves_92 rfl (lv_at hl 3 rfl) ?_
    refine lv_iconst (v := (4 : Int32)) hx hb dL_moves_93 (by decide) ?_
    refine lv_iload_n hx hb dL_moves_94 rfl (lv_at hl 2 rfl) ?_
    refine lv_iadd hx hb dL_moves_95 ?_
    refine l_iald X I lR_0 96 dL_moves_96 hpf (fun hpf => ?_)
    refine lv_iload hx hb dL_moves_97 (lv_at hl 14 rfl) ?_
    refine lv_iconst (v := (1 : Int32)) hx hb dL_moves_99 (by decide) ?_
    refine lv_aload_n hx hb dL_moves_100 rfl (lv_at hl 3 rfl) ?_
    refine lv_aload hx hb dL_moves_101 (lv_at hl 4 rfl) ?_
    refine lv_aload hx hb dL_moves_103 (lv_at hl 5 rfl) ?_
    refine lv_aload hx hb dL_moves_105 (lv_at hl 6 rfl) ?_
    refine lv_aload hx hb dL_moves_107 (lv_at hl 7 rfl) ?_
    refine lv_aload hx hb dL_moves_109 (lv_at hl 8 rfl) ?_
    refine lv_aload hx hb dL_moves_111 (lv_at hl 10 rfl) ?_
    refine lv_aload hx hb dL_moves_113 (lv_at hl 11 rfl) ?_
    refine lv_aload hx hb dL_moves_115 (lv_at hl 12 rfl) ?_
    refine l_cAI (rest := []) (As := [.int x1, .int (aI L102 0 ((4 : Int32) + x1).toNatClampNeg), .int x14, .int (1 : Int32), .ref (a 0), .ref (a 2), .ref (a 3), .ref (a 4), .ref (a 5), .ref (a 6), .ref (a 8), .ref (a 9), .ref (a 10)]) X I fL_may (c_L_may l hlt N x1 (aI L102 0 ((4 : Int32) + x1).toNatClampNeg) x14 (1 : Int32)) rfl ⟨Nat.le_of_ble_eq_true rfl, Nat.le_of_ble_eq_true rfl⟩ 117 dL_moves_117 rfl hl.1 rfl (Nat.le_of_ble_eq_true rfl) hCD hpf (fun v103 L104 H locs I hpf => ?_)
    refine b_if_eq hx hb 180 120 dL_moves_120 (by decide) hpf (fun hpf => ?_) (fun hpf => ?_)
    · refine lv_iconst (v := (0 : Int32)) hx hb dL_moves_180 (by decide) ?_
      exact hC_181 (0 : Int32) x1 x13 x14 t0 S L104 C D hCD H locs I ls (lv_sub hl [1, 2, 3, 4, 5, 6, 7, 8, 9, 10, 11, 13, 14, 0] rfl) hpf
    refine lv_iload hx hb dL_moves_123 (lv_at hl 13 rfl) ?_
    refine lv_iload hx hb dL_moves_125 (lv_at hl 14 rfl) ?_
    refine lv_aload hx hb dL_moves_127 (lv_at hl 11 rfl) ?_
    refine l_cAI (rest := []) (As := [.int x13, .int x14, .ref (a 9)]) X I fL_up (c_L_up l hlt N x13 x14) rfl ⟨Nat.le_of_ble_eq_true rfl, Nat.le_of_ble_eq_true rfl⟩ 129 dL_moves_129 rfl hl.1 rfl (Nat.le_of_ble_eq_true rfl) hCD hpf (fun v105 L106 H locs I hpf => ?_)
    refine b_if_ne hx hb 180 132 dL_moves_132 (by decide) hpf (fun hpf => ?_) (fun hpf => ?_)
    · refine lv_iconst (v := (0 : Int32)) hx hb dL_moves_180 (by decide) ?_
      exact hC_181 (0 : Int32) x1 x13 x14 t0 S L106 C D hCD H locs I ls (lv_sub hl [1, 2, 3, 4, 5, 6, 7, 8, 9, 10, 11, 13, 14, 0] rfl) hpf
    refine lv_iload_n hx hb dL_moves_135 rfl (lv_at hl 2 rfl) ?_
    refine lv_iload hx hb dL_moves_136 (lv_at hl 14 rfl) ?_
    refine lv_iload hx hb dL_moves_138 (lv_at hl 13 rfl) ?_
    refine lv_iload_n hx hb dL_moves_140 rfl (lv_at hl 2 rfl) ?_
    refine lv_iload hx hb dL_moves_141 (lv_at hl 13 rfl) ?_
    refine lv_aload_n hx hb dL_moves_143 rfl (lv_at hl 3 rfl) ?_
    refine lv_aload hx hb dL_moves_144 (lv_at hl 4 rfl) ?_
    refine lv_aload hx hb dL_moves_146 (lv_at hl 5 rfl) ?_
    refine lv_aload hx hb dL_moves_148 (lv_at hl 6 rfl) ?_
    refine lv_aload hx hb dL_moves_150 (lv_at hl 7 rfl) ?_
    refine lv_aload hx hb dL_moves_152 (lv_at hl 10 rfl) ?_
    refine l_cAI (rest := [.int x13, .int x14, .int x1]) (As := [.int x1, .int x13, .ref (a 0), .ref (a 2), .ref (a 3), .ref (a 4), .ref (a 5), .ref (a 8)]) X I fL_name (c_L_name l hlt N x1 x13) rfl ⟨Nat.le_of_ble_eq_true rfl, Nat.le_of_ble_eq_true rfl⟩ 154 dL_moves_154 rfl hl.1 rfl (Nat.le_of_ble_eq_true rfl) hCD hpf (fun v107 L108 H locs I hpf => ?_)
    refine lv_aload_n hx hb dL_moves_157 rfl (lv_at hl 3 rfl) ?_
    refine lv_aload hx hb dL_moves_158 (lv_at hl 4 rfl) ?_
    refine lv_aload hx hb dL_moves_160 (lv_at hl 5 rfl) ?_
    refine lv_aload hx hb dL_moves_162 (lv_at hl 6 rfl) ?_
    refine lv_aload hx hb dL_moves_164 (lv_at hl 7 rfl) ?_
    refine lv_aload hx hb dL_moves_166 (lv_at hl 10 rfl) ?_
    refine lv_aload hx hb dL_moves_168 (lv_at hl 11 rfl) ?_
    refine l_cAI (rest := []) (As := [.int x1, .int x14, .int x13, .int v107, .ref (a 0), .ref (a 2), .ref (a 3), .ref (a 4), .ref (a 5), .ref (a 8), .ref (a 9)]) X I fL_named (c_L_named l hlt N x1 x14 x13 v107) rfl ⟨Nat.le_of_ble_eq_true rfl, Nat.le_of_ble_eq_true rfl⟩ 170 dL_moves_170 rfl hl.1 rfl (Nat.le_of_ble_eq_true rfl) hCD hpf (fun v109 L110 H locs I hpf => ?_)
    refine b_if_ne hx hb 180 173 dL_moves_173 (by decide) hpf (fun hpf => ?_) (fun hpf => ?_)
    · refine lv_iconst (v := (0 : Int32)) hx hb dL_moves_180 (by decide) ?_
      exact hC_181 (0 : Int32) x1 x13 x14 t0 S L110 C D hCD H locs I ls (lv_sub hl [1, 2, 3, 4, 5, 6, 7, 8, 9, 10, 11, 13, 14, 0] rfl) hpf
    refine lv_iconst (v := (1 : Int32)) hx hb dL_moves_176 (by decide) ?_
    refine lv_goto (tgt := 181) hx hb dL_moves_177 (by decide) ?_
    exact hC_181 (1 : Int32) x1 x13 x14 t0 S L110 C D hCD H locs I ls (lv_sub hl [1, 2, 3, 4, 5, 6, 7, 8, 9, 10, 11, 13, 14, 0] rfl) hpf
  refine lv_iload_n hx hb dL_moves_0 rfl (lv_at hl 2 rfl) ?_
  refine lv_aload_n hx hb dL_moves_1 rfl (lv_at hl 3 rfl) ?_
  refine lv_iconst (v := (0 : Int32)) hx hb dL_moves_2 (by decide) ?_
  refine l_iald X I lR_0 3 dL_moves_3 hpf (fun hpf => ?_)
  refine l_cAI (rest := []) (As := [.int x2, .int (aI Li 0 (0 : Int32).toNatClampNeg)]) X I fL_low (c_L_low l hlt N x2 (aI Li 0 (0 : Int32).toNatClampNeg)) rfl ⟨Nat.le_of_ble_eq_true rfl, Nat.le_of_ble_eq_true rfl⟩ 4 dL_moves_4 rfl hl.1 rfl (Nat.le_of_ble_eq_true rfl) hCD hpf (fun v101 L102 H locs I hpf => ?_)
  refine lv_istore (lv' := [(13, .int v101), (0, .ref (g.2.1 0)), (1, .int x1), (2, .int x2), (3, .ref (a 0)), (4, .ref (a 2)), (5, .ref (a 3)), (6, .ref (a 4)), (7, .ref (a 5)), (8, .ref (a 6)), (9, .ref (a 7)), (10, .ref (a 8)), (11, .ref (a 9)), (12, .ref (a 10))]) hx hb dL_moves_7 hl (by decide) rfl (fun ls hl => ?_)
  refine lv_iload_n hx hb dL_moves_9 rfl (lv_at hl 3 rfl) ?_
  refine lv_iconst (v := (4 : Int32)) hx hb dL_moves_10 (by decide) ?_
  refine lv_ishr hx hb dL_moves_11 ?_
  refine lv_aload_n hx hb dL_moves_12 rfl (lv_at hl 4 rfl) ?_
  refine lv_iconst (v := (0 : Int32)) hx hb dL_moves_13 (by decide) ?_
  refine l_iald X I lR_0 14 dL_moves_14 hpf (fun hpf => ?_)
  refine l_cAI (rest := []) (As := [.int (x2 >>> ((4 : Int32) &&& 31)), .int (aI L102 0 (0 : Int32).toNatClampNeg)]) X I fL_low (c_L_low l hlt N (x2 >>> ((4 : Int32) &&& 31)) (aI L102 0 (0 : Int32).toNatClampNeg)) rfl ⟨Nat.le_of_ble_eq_true rfl, Nat.le_of_ble_eq_true rfl⟩ 15 dL_moves_15 rfl hl.1 rfl (Nat.le_of_ble_eq_true rfl) hCD hpf (fun v103 L104 H locs I hpf => ?_)
  refine lv_istore (lv' := [(14, .int v103), (13, .int v101), (0, .ref (g.2.1 0)), (1, .int x1), (2, .int x2), (3, .ref (a 0)), (4, .ref (a 2)), (5, .ref (a 3)), (6, .ref (a 4)), (7, .ref (a 5)), (8, .ref (a 6)), (9, .ref (a 7)), (10, .ref (a 8)), (11, .ref (a 9)), (12, .ref (a 10))]) hx hb dL_moves_18 hl (by decide) rfl (fun ls hl => ?_)
  refine lv_iload hx hb dL_moves_20 (lv_at hl 1 rfl) ?_
  refine b_if_le hx hb 51 22 dL_moves_22 (by decide) hpf (fun hpf => ?_) (fun hpf => ?_)
  · refine lv_iconst (v := (0 : Int32)) hx hb dL_moves_51 (by decide) ?_
    exact hC_52 (0 : Int32) x1 v101 v103 Si L104 0 0 hCD H locs I ls (lv_sub hl [2, 3, 5, 6, 7, 8, 9, 10, 11, 12, 13, 14, 1, 0] rfl) hpf
  refine lv_aload hx hb dL_moves_25 (lv_at hl 13 rfl) ?_
  refine lv_iconst (v := (3 : Int32)) hx hb dL_moves_27 (by decide) ?_
  refine lv_iload hx hb dL_moves_28 (lv_at hl 1 rfl) ?_
  refine lv_imul hx hb dL_moves_30 ?_
  refine l_iald X I lR_9 31 dL_moves_31 hpf (fun hpf => ?_)
  refine lv_iconst (v := (1 : Int32)) hx hb dL_moves_32 (by decide) ?_
  refine b_icmp_ne hx hb 51 33 dL_moves_33 (by decide) hpf (fun hpf => ?_) (fun hpf => ?_)
  · refine lv_iconst (v := (0 : Int32)) hx hb dL_moves_51 (by decide) ?_
    exact hC_52 (0 : Int32) x1 v101 v103 Si L104 0 0 hCD H locs I ls (lv_sub hl [2, 3, 5, 6, 7, 8, 9, 10, 11, 12, 13, 14, 1, 0] rfl) hpf
  refine lv_aload hx hb dL_moves_36 (lv_at hl 13 rfl) ?_
  refine lv_iconst (v := (3 : Int32)) hx hb dL_moves_38 (by decide) ?_
  refine lv_iload hx hb dL_moves_39 (lv_at hl 0 rfl) ?_
  refine lv_imul hx hb dL_moves_41 ?_
  refine l_iald X I lR_9 42 dL_moves_42 hpf (fun hpf => ?_)
  refine lv_iconst (v := (1 : Int32)) hx hb dL_moves_43 (by decide) ?_
  refine b_icmp_ne hx hb 51 44 dL_moves_44 (by decide) hpf (fun hpf => ?_) (fun hpf => ?_)
  · refine lv_iconst (v := (0 : Int32)) hx hb dL_moves_51 (by decide) ?_
    exact hC_52 (0 : Int32) x1 v101 v103 Si L104 0 0 hCD H locs I ls (lv_sub hl [2, 3, 5, 6, 7, 8, 9, 10, 11, 12, 13, 14, 1, 0] rfl) hpf
  refine lv_iconst (v := (1 : Int32)) hx hb dL_moves_47 (by decide) ?_
  refine lv_goto (tgt := 52) hx hb dL_moves_48 (by decide) ?_
  exact hC_52 (1 : Int32) x1 v101 v103 Si L104 0 0 hCD H locs I ls (lv_sub hl [2, 3, 5, 6, 7, 8, 9, 10, 11, 12, 13, 14, 1, 0] rfl) hpf
-- ===== the law's deletes =====
noncomputable def pL_deletes_203 (N : Nat) (t0 : Int32) (t1 : Int32) (S : kS) (L : lS) (C : Nat) (D : Nat) : Option (Int32 × kS × lS) :=
    if t1 = t0 then (
      zlB 11 435 C D (1 : Int32) S L)
    else (
      zlB 11 435 C D (0 : Int32) S L)
noncomputable def pL_deletes_159 (N : Nat) (x1 : Int32) (x13 : Int32) (x14 : Int32) (x15 : Int32) (S : kS) (L : lS) (C : Nat) (D : Nat) : Option (Int32 × kS × lS) :=
    lbb 11 435 11 435 C D (pL_calls N (8 : Int32) x1 x13 (0 : Int32) (0 : Int32) S L) fun v101 S102 L103 C104 D105 =>
    if x14 = (0 : Int32) then (
      pL_deletes_203 N (-9 : Int32) v101 S102 L103 C104 D105)
    else (
      if x15 = (0 : Int32) then (
        pL_deletes_203 N (-7 : Int32) v101 S102 L103 C104 D105)
      else (
        lba (pL_marks N x1 L103) fun v106 L107 =>
        pL_deletes_203 N v106 v101 S102 L107 C104 D105))
noncomputable def pL_deletes_128 (N : Nat) (x1 : Int32) (x13 : Int32) (x14 : Int32) (x15 : Int32) (S : kS) (L : lS) (C : Nat) (D : Nat) : Option (Int32 × kS × lS) :=
    if x15 = (0 : Int32) then (
      pL_deletes_159 N x1 x13 x14 x15 S L C D)
    else (
      lba (pL_makes N x1 (8 : Int32) x13 (0 : Int32) (0 : Int32) (0 : Int64) L) fun v101 L102 =>
      pL_deletes_159 N x1 x13 x14 x15 S L102 C D)
noncomputable def pL_deletes_120 (N : Nat) (k_79 : Int32 → Int32 → Int32 → Int32 → Int32 → kS → lS → Nat → Nat → Option (Int32 × kS × lS)) (t0 : Int32) (x1 : Int32) (x13 : Int32) (x14 : Int32) (x16 : Int32) (S : kS) (L : lS) (C : Nat) (D : Nat) : Option (Int32 × kS × lS) :=
    nm (x16 + (1 : Int32)) fun y101 =>
    k_79 x1 x13 x14 t0 y101 S L C D
noncomputable def pL_deletes_79 (N : Nat) (k_128 : Int32 → Int32 → Int32 → Int32 → kS → lS → Nat → Nat → Option (Int32 × kS × lS)) : Nat → Int32 → Int32 → Int32 → Int32 → Int32 → kS → lS → Nat → Nat → Option (Int32 × kS × lS)
  | 0 => fun _ _ _ _ _ _ _ _ _ => none
  | n_79 + 1 => fun x1 x13 x14 x15 x16 S L C D =>
    gd (0 : Int32) 20 <|
    if (aI L 0 (0 : Int32).toNatClampNeg) ≤ x16 then (
      k_128 x1 x13 x14 x15 S L C D)
    else (
      if x15 = (0 : Int32) then (
        pL_deletes_120 N (pL_deletes_79 N k_128 n_79) (0 : Int32) x1 x13 x14 x16 S L C D)
      else (
        gd ((3 : Int32) * x16) 36 <|
        if (aI L 9 ((3 : Int32) * x16).toNatClampNeg) = (1 : Int32) then (
          lba (pL_place N x16 L) fun v101 L102 =>
          if v101 = x13 then (
            pL_deletes_120 N (pL_deletes_79 N k_128 n_79) (0 : Int32) x1 x13 x14 x16 S L102 C D)
          else (
            pL_deletes_120 N (pL_deletes_79 N k_128 n_79) (1 : Int32) x1 x13 x14 x16 S L102 C D))
        else (
          pL_deletes_120 N (pL_deletes_79 N k_128 n_79) (1 : Int32) x1 x13 x14 x16 S L C D)))
noncomputable def pL_deletes_74 (N : Nat) (t0 : Int32) (x1 : Int32) (x13 : Int32) (x14 : Int32) (S : kS) (L : lS) (C : Nat) (D : Nat) : Option (Int32 × kS × lS) :=
    pL_deletes_79 N (pL_deletes_128 N) N x1 x13 x14 t0 (1 : Int32) S L C D
noncomputable def pL_deletes_30 (N : Nat) (t0 : Int32) (x1 : Int32) (x13 : Int32) (S : kS) (L : lS) (C : Nat) (D : Nat) : Option (Int32 × kS × lS) :=
    if t0 = (0 : Int32) then (
      pL_deletes_74 N (0 : Int32) x1 x13 t0 S L C D)
    else (
      gd ((4 : Int32) + x1) 20 <|
      lba (pL_may N x1 (aI L 0 ((4 : Int32) + x1).toNatClampNeg) x13 (1 : Int32) L) fun v101 L102 =>
      if v101 = (0 : Int32) then (
        pL_deletes_74 N (0 : Int32) x1 x13 t0 S L102 C D)
      else (
        pL_deletes_74 N (1 : Int32) x1 x13 t0 S L102 C D))
noncomputable def pL_deletes (N : Nat) (x1 : Int32) (x2 : Int32) (S : kS) (L : lS) : Option (Int32 × kS × lS) :=
    gd (0 : Int32) 20 <|
    lba (pL_low N x2 (aI L 0 (0 : Int32).toNatClampNeg) L) fun v101 L102 =>
    if v101 ≤ (0 : Int32) then (
      pL_deletes_30 N (0 : Int32) x1 v101 S L102 0 0)
    else (
      gd ((3 : Int32) * v101) 36 <|
      if (aI L102 9 ((3 : Int32) * v101).toNatClampNeg) = (1 : Int32) then (
        pL_deletes_30 N (1 : Int32) x1 v101 S L102 0 0)
      else (
        pL_deletes_30 N (0 : Int32) x1 v101 S L102 0 0))
theorem fL_deletes : lFnS yL_deletes (.code yL_deletes cL_deletes 17 (some .boolean)) 13 270 := ⟨kT_234, kT_235, kT_124, rfl, by decide +kernel⟩
set_option maxRecDepth 100000 in
set_option maxHeartbeats 4000000 in
theorem c_L_deletes (l : Launch) (hlt : l.stackTraces = false) (N : Nat) (x1 : Int32) (x2 : Int32) : lMet l yL_deletes (.code yL_deletes cL_deletes 17 (some .boolean)) 10 373 11 435 (fun ca a => [.ref (ca 0), .int x1, .int x2, .ref (a 0), .ref (a 2), .ref (a 3), .ref (a 4), .ref (a 5), .ref (a 6), .ref (a 7), .ref (a 8), .ref (a 9), .ref (a 10)]) qI (pL_deletes N x1 x2) := by
  refine l_start hlt (by decide +kernel) rfl (fun ca a => [(0, .ref (ca 0)), (1, .int x1), (2, .int x2), (3, .ref (a 0)), (4, .ref (a 2)), (5, .ref (a 3)), (6, .ref (a 4)), (7, .ref (a 5)), (8, .ref (a 6)), (9, .ref (a 7)), (10, .ref (a 8)), (11, .ref (a 9)), (12, .ref (a 10))]) (fun _ _ => Nat.le_of_ble_eq_true rfl) (fun _ _ => rfl) ?_
  intro dC dI g a sz Si Li r Sf Lf hpf p e s m args below meth c X hr H locs I ls hl
  have hx := X.1
  have hb := X.2.1
  have hCD : (0 : Nat) ≤ 11 ∧ (0 : Nat) ≤ 435 := ⟨Nat.zero_le _, Nat.zero_le _⟩
  unfold pL_deletes at hpf
  have hC_203 : ∀ (t0 : Int32) (t1 : Int32) (S : kS) (L : lS) (C D : Nat) (hCD : C ≤ 11 ∧ D ≤ 435) (H : Heap) (locs : List Loc), lV dC dI g a (lFr g a Si Li sz) s Si S L H locs → ∀ ls : Array Slot, lv_has ls 17 [] → pL_deletes_203 N t0 t1 S L C D = some (r, Sf, Lf) → W p l e (lRm 10 373 11 435) s m args below meth c H locs C D (MQ below (lQ dC dI g a sz Si Li (qI r) Sf Lf) args s 11 435 (lFr g a Si Li sz)) (F0 m 203 ls [.int t0, .int t1]) := by
    intro t0 t1 S L C D hCD H locs I ls hl hpf
    unfold pL_deletes_203 at hpf
    refine b_icmp_ne hx hb 210 203 dL_deletes_203 (by decide) hpf (fun hpf => ?_) (fun hpf => ?_)
    · refine lv_iconst (v := (0 : Int32)) hx hb dL_deletes_210 (by decide) ?_
      exact l_retzB X I hr 211 dL_deletes_211 hpf
    refine lv_iconst (v := (1 : Int32)) hx hb dL_deletes_206 (by decide) ?_
    refine lv_goto (tgt := 211) hx hb dL_deletes_207 (by decide) ?_
    exact l_retzB X I hr 211 dL_deletes_211 hpf
  have hC_159 : ∀ (x1 : Int32) (x13 : Int32) (x14 : Int32) (x15 : Int32) (S : kS) (L : lS) (C D : Nat) (hCD : C ≤ 11 ∧ D ≤ 435) (H : Heap) (locs : List Loc), lV dC dI g a (lFr g a Si Li sz) s Si S L H locs → ∀ ls : Array Slot, lv_has ls 17 [(0, .ref (g.2.1 0)), (1, .int x1), (3, .ref (a 0)), (4, .ref (a 2)), (5, .ref (a 3)), (6, .ref (a 4)), (10, .ref (a 8)), (13, .int x13), (14, .int x14), (15, .int x15)] → pL_deletes_159 N x1 x13 x14 x15 S L C D = some (r, Sf, Lf) → W p l e (lRm 10 373 11 435) s m args below meth c H locs C D (MQ below (lQ dC dI g a sz Si Li (qI r) Sf Lf) args s 11 435 (lFr g a Si Li sz)) (F0 m 159 ls []) := by
    intro x1 x13 x14 x15 S L C D hCD H locs I ls hl hpf
    unfold pL_deletes_159 at hpf
    refine lv_aload_n hx hb dL_deletes_159 rfl (lv_at hl 0 rfl) ?_
    refine lv_bipush (v := (8 : Int32)) hx hb dL_deletes_160 (by decide) ?_
    refine lv_iload_n hx hb dL_deletes_162 rfl (lv_at hl 1 rfl) ?_
    refine lv_iload hx hb dL_deletes_163 (lv_at hl 7 rfl) ?_
    refine lv_iconst (v := (0 : Int32)) hx hb dL_deletes_165 (by decide) ?_
    refine lv_iconst (v := (0 : Int32)) hx hb dL_deletes_166 (by decide) ?_
    refine l_cBW (rest := []) (As := [.ref (g.2.1 0), .int (8 : Int32), .int x1, .int x13, .int (0 : Int32), .int (0 : Int32)]) X I fL_calls (c_L_calls l hlt N (8 : Int32) x1 x13 (0 : Int32) (0 : Int32)) rfl ⟨Nat.le_of_ble_eq_true rfl, Nat.le_of_ble_eq_true rfl⟩ 167 dL_deletes_167 rfl hl.1 rfl (Nat.le_of_ble_eq_true rfl) ⟨Nat.le_refl _, Nat.le_refl _⟩ hpf (fun v101 S102 L103 C104 D105 hCD H locs I hpf => ?_)
    refine lv_iload hx hb dL_deletes_170 (lv_at hl 8 rfl) ?_
    refine b_if_ne hx hb 180 172 dL_deletes_172 (by decide) hpf (fun hpf => ?_) (fun hpf => ?_)
    · refine lv_iload hx hb dL_deletes_180 (lv_at hl 9 rfl) ?_
      refine b_if_eq hx hb 201 182 dL_deletes_182 (by decide) hpf (fun hpf => ?_) (fun hpf => ?_)
      · refine lv_bipush (v := (-7 : Int32)) hx hb dL_deletes_201 (by decide) ?_
        exact hC_203 (-7 : Int32) v101 S102 L103 C104 D105 hCD H locs I ls (lv_sub hl [] rfl) hpf
      refine lv_iload_n hx hb dL_deletes_185 rfl (lv_at hl 1 rfl) ?_
      refine lv_aload_n hx hb dL_deletes_186 rfl (lv_at hl 2 rfl) ?_
      refine lv_aload hx hb dL_deletes_187 (lv_at hl 3 rfl) ?_
      refine lv_aload hx hb dL_deletes_189 (lv_at hl 4 rfl) ?_
      refine lv_aload hx hb dL_deletes_191 (lv_at hl 5 rfl) ?_
      refine lv_aload hx hb dL_deletes_193 (lv_at hl 6 rfl) ?_
      refine l_cAI (rest := [.int v101]) (As := [.int x1, .ref (a 0), .ref (a 2), .ref (a 3), .ref (a 4), .ref (a 8)]) X I fL_marks (c_L_marks l hlt N x1) rfl ⟨Nat.le_of_ble_eq_true rfl, Nat.le_of_ble_eq_true rfl⟩ 195 dL_deletes_195 rfl hl.1 rfl (Nat.le_of_ble_eq_true rfl) hCD hpf (fun v106 L107 H locs I hpf => ?_)
      refine lv_goto (tgt := 203) hx hb dL_deletes_198 (by decide) ?_
      exact hC_203 v106 v101 S102 L107 C104 D105 hCD H locs I ls (lv_sub hl [] rfl) hpf
    refine lv_bipush (v := (-9 : Int32)) hx hb dL_deletes_175 (by decide) ?_
    refine lv_goto (tgt := 203) hx hb dL_deletes_177 (by decide) ?_
    exact hC_203 (-9 : Int32) v101 S102 L103 C104 D105 hCD H locs I ls (lv_sub hl [] rfl) hpf
  have hC_128 : ∀ (x1 : Int32) (x13 : Int32) (x14 : Int32) (x15 : Int32) (S : kS) (L : lS) (C D : Nat) (hCD : C ≤ 11 ∧ D ≤ 435) (H : Heap) (locs : List Loc), lV dC dI g a (lFr g a Si Li sz) s Si S L H locs → ∀ ls : Array Slot, lv_has ls 17 [(0, .ref (g.2.1 0)), (1, .int x1), (3, .ref (a 0)), (4, .ref (a 2)), (5, .ref (a 3)), (6, .ref (a 4)), (7, .ref (a 5)), (8, .ref (a 6)), (9, .ref (a 7)), (10, .ref (a 8)), (13, .int x13), (14, .int x14), (15, .int x15)] → pL_deletes_128 N x1 x13 x14 x15 S L C D = some (r, Sf, Lf) → W p l e (lRm 10 373 11 435) s m args below meth c H locs C D (MQ below (lQ dC dI g a sz Si Li (qI r) Sf Lf) args s 11 435 (lFr g a Si Li sz)) (F0 m 128 ls []) := by
    intro x1 x13 x14 x15 S L C D hCD H locs I ls hl hpf
    unfold pL_deletes_128 at hpf
    refine lv_iload hx hb dL_deletes_128 (lv_at hl 12 rfl) ?_
    refine b_if_eq hx hb 159 130 dL_deletes_130 (by decide) hpf (fun hpf => ?_) (fun hpf => ?_)
    · exact hC_159 x1 x13 x14 x15 S L C D hCD H locs I ls (lv_sub hl [0, 1, 2, 3, 4, 5, 9, 10, 11, 12] rfl) hpf
    refine lv_iload_n hx hb dL_deletes_133 rfl (lv_at hl 1 rfl) ?_
    refine lv_bipush (v := (8 : Int32)) hx hb dL_deletes_134 (by decide) ?_
    refine lv_iload hx hb dL_deletes_136 (lv_at hl 10 rfl) ?_
    refine lv_iconst (v := (0 : Int32)) hx hb dL_deletes_138 (by decide) ?_
    refine lv_iconst (v := (0 : Int32)) hx hb dL_deletes_139 (by decide) ?_
    refine lv_lconst (v := (0 : Int64)) hx hb dL_deletes_140 (by decide) ?_
    refine lv_aload_n hx hb dL_deletes_141 rfl (lv_at hl 2 rfl) ?_
    refine lv_aload hx hb dL_deletes_142 (lv_at hl 3 rfl) ?_
    refine lv_aload hx hb dL_deletes_144 (lv_at hl 4 rfl) ?_
    refine lv_aload hx hb dL_deletes_146 (lv_at hl 5 rfl) ?_
    refine lv_aload hx hb dL_deletes_148 (lv_at hl 6 rfl) ?_
    refine lv_aload hx hb dL_deletes_150 (lv_at hl 7 rfl) ?_
    refine lv_aload hx hb dL_deletes_152 (lv_at hl 8 rfl) ?_
    refine lv_aload hx hb dL_deletes_154 (lv_at hl 9 rfl) ?_
    refine l_cAU (rest := []) (As := [.int x1, .int (8 : Int32), .int x13, .int (0 : Int32), .int (0 : Int32), .long (0 : Int64), .ref (a 0), .ref (a 2), .ref (a 3), .ref (a 4), .ref (a 5), .ref (a 6), .ref (a 7), .ref (a 8)]) X I fL_makes (c_L_makes l hlt N x1 (8 : Int32) x13 (0 : Int32) (0 : Int32) (0 : Int64)) rfl ⟨Nat.le_of_ble_eq_true rfl, Nat.le_of_ble_eq_true rfl⟩ 156 dL_deletes_156 rfl hl.1 rfl (Nat.le_of_ble_eq_true rfl) hCD hpf (fun v101 L102 H locs I hpf => ?_)
    exact hC_159 x1 x13 x14 x15 S L102 C D hCD H locs I ls (lv_sub hl [0, 1, 2, 3, 4, 5, 9, 10, 11, 12] rfl) hpf
  have hC_79 : ∀ (n_79 : Nat), ∀ (x1 : Int32) (x13 : Int32) (x14 : Int32) (x15 : Int32) (x16 : Int32) (S : kS) (L : lS) (C D : Nat) (hCD : C ≤ 11 ∧ D ≤ 435) (H : Heap) (locs : List Loc), lV dC dI g a (lFr g a Si Li sz) s Si S L H locs → ∀ ls : Array Slot, lv_has ls 17 [(0, .ref (g.2.1 0)), (1, .int x1), (3, .ref (a 0)), (4, .ref (a 2)), (5, .ref (a 3)), (6, .ref (a 4)), (7, .ref (a 5)), (8, .ref (a 6)), (9, .ref (a 7)), (10, .ref (a 8)), (11, .ref (a 9)), (13, .int x13), (14, .int x14), (15, .int x15), (16, .int x16)] → pL_deletes_79 N (pL_deletes_128 N) n_79 x1 x13 x14 x15 x16 S L C D = some (r, Sf, Lf) → W p l e (lRm 10 373 11 435) s m args below meth c H locs C D (MQ below (lQ dC dI g a sz Si Li (qI r) Sf Lf) args s 11 435 (lFr g a Si Li sz)) (F0 m 79 ls []) := by
    intro n_79
    induction n_79 with
    | zero =>
      intro x1 x13 x14 x15 x16 S L C D hCD H locs I ls hl hpf
      rw [pL_deletes_79] at hpf
      cases hpf
    | succ n_79 ih_79 =>
      have hC_120 : ∀ (t0 : Int32) (x1 : Int32) (x13 : Int32) (x14 : Int32) (x16 : Int32) (S : kS) (L : lS) (C D : Nat) (hCD : C ≤ 11 ∧ D ≤ 435) (H : Heap) (locs : List Loc), lV dC dI g a (lFr g a Si Li sz) s Si S L H locs → ∀ ls : Array Slot, lv_has ls 17 [(0, .ref (g.2.1 0)), (1, .int x1), (3, .ref (a 0)), (4, .ref (a 2)), (5, .ref (a 3)), (6, .ref (a 4)), (7, .ref (a 5)), (8, .ref (a 6)), (9, .ref (a 7)), (10, .ref (a 8)), (11, .ref (a 9)), (13, .int x13), (14, .int x14), (16, .int x16)] → pL_deletes_120 N (pL_deletes_79 N (pL_deletes_128 N) n_79) t0 x1 x13 x14 x16 S L C D = some (r, Sf, Lf) → W p l e (lRm 10 373 11 435) s m args below meth c H locs C D (MQ below (lQ dC dI g a sz Si Li (qI r) Sf Lf) args s 11 435 (lFr g a Si Li sz)) (F0 m 120 ls [.int t0]) := by
        intro t0 x1 x13 x14 x16 S L C D hCD H locs I ls hl hpf
        unfold pL_deletes_120 at hpf
        refine lv_istore (lv' := [(15, .int t0), (0, .ref (g.2.1 0)), (1, .int x1), (3, .ref (a 0)), (4, .ref (a 2)), (5, .ref (a 3)), (6, .ref (a 4)), (7, .ref (a 5)), (8, .ref (a 6)), (9, .ref (a 7)), (10, .ref (a 8)), (11, .ref (a 9)), (13, .int x13), (14, .int x14), (16, .int x16)]) hx hb dL_deletes_120 hl (by decide) rfl (fun ls hl => ?_)
        refine m_iinc (w := (1 : Int32)) hx hb (fun y101 => [(16, .int y101), (15, .int t0), (0, .ref (g.2.1 0)), (1, .int x1), (3, .ref (a 0)), (4, .ref (a 2)), (5, .ref (a 3)), (6, .ref (a 4)), (7, .ref (a 5)), (8, .ref (a 6)), (9, .ref (a 7)), (10, .ref (a 8)), (11, .ref (a 9)), (13, .int x13), (14, .int x14)]) 122 dL_deletes_122 hl (k := 14) rfl (by decide) (by decide) (fun _ => rfl) hpf (fun y101 ls hl hpf => ?_)
        refine lv_goto (tgt := 79) hx hb dL_deletes_125 (by decide) ?_
        exact ih_79 x1 x13 x14 t0 y101 S L C D hCD H locs I ls (lv_sub hl [2, 3, 4, 5, 6, 7, 8, 9, 10, 11, 12, 13, 14, 1, 0] rfl) hpf
      intro x1 x13 x14 x15 x16 S L C D hCD H locs I ls hl hpf
      rw [pL_deletes_79] at hpf
      refine lv_iload hx hb dL_deletes_79 (lv_at hl 14 rfl) ?_
      refine lv_aload_n hx hb dL_deletes_81 rfl (lv_at hl 2 rfl) ?_
      refine lv_iconst (v := (0 : Int32)) hx hb dL_deletes_82 (by decide) ?_
      refine l_iald X I lR_0 83 dL_deletes_83 hpf (fun hpf => ?_)
      refine b_icmp_ge hx hb 128 84 dL_deletes_84 (by decide) hpf (fun hpf => ?_) (fun hpf => ?_)
      · exact hC_128 x1 x13 x14 x15 S L C D hCD H locs I ls (lv_sub hl [0, 1, 2, 3, 4, 5, 6, 7, 8, 9, 11, 12, 13] rfl) hpf
      refine lv_iload hx hb dL_deletes_87 (lv_at hl 13 rfl) ?_
      refine b_if_eq hx hb 119 89 dL_deletes_89 (by decide) hpf (fun hpf => ?_) (fun hpf => ?_)
      · refine lv_iconst (v := (0 : Int32)) hx hb dL_deletes_119 (by decide) ?_
        exact hC_120 (0 : Int32) x1 x13 x14 x16 S L C D hCD H locs I ls (lv_sub hl [0, 1, 2, 3, 4, 5, 6, 7, 8, 9, 10, 11, 12, 14] rfl) hpf
      refine lv_aload hx hb dL_deletes_92 (lv_at hl 10 rfl) ?_
      refine lv_iconst (v := (3 : Int32)) hx hb dL_deletes_94 (by decide) ?_
      refine lv_iload hx hb dL_deletes_95 (lv_at hl 14 rfl) ?_
      refine lv_imul hx hb dL_deletes_97 ?_
      refine l_iald X I lR_9 98 dL_deletes_98 hpf (fun hpf => ?_)
      refine lv_iconst (v := (1 : Int32)) hx hb dL_deletes_99 (by decide) ?_
      refine b_icmp_ne hx hb 115 100 dL_deletes_100 (by decide) hpf (fun hpf => ?_) (fun hpf => ?_)
      · refine lv_iconst (v := (1 : Int32)) hx hb dL_deletes_115 (by decide) ?_
        refine lv_goto (tgt := 120) hx hb dL_deletes_116 (by decide) ?_
        exact hC_120 (1 : Int32) x1 x13 x14 x16 S L C D hCD H locs I ls (lv_sub hl [0, 1, 2, 3, 4, 5, 6, 7, 8, 9, 10, 11, 12, 14] rfl) hpf
      refine lv_iload hx hb dL_deletes_103 (lv_at hl 14 rfl) ?_
      refine lv_aload hx hb dL_deletes_105 (lv_at hl 10 rfl) ?_
      refine l_cAI (rest := []) (As := [.int x16, .ref (a 9)]) X I fL_place (c_L_place l hlt N x16) rfl ⟨Nat.le_of_ble_eq_true rfl, Nat.le_of_ble_eq_true rfl⟩ 107 dL_deletes_107 rfl hl.1 rfl (Nat.le_of_ble_eq_true rfl) hCD hpf (fun v101 L102 H locs I hpf => ?_)
      refine lv_iload hx hb dL_deletes_110 (lv_at hl 11 rfl) ?_
      refine b_icmp_eq hx hb 119 112 dL_deletes_112 (by decide) hpf (fun hpf => ?_) (fun hpf => ?_)
      · refine lv_iconst (v := (0 : Int32)) hx hb dL_deletes_119 (by decide) ?_
        exact hC_120 (0 : Int32) x1 x13 x14 x16 S L102 C D hCD H locs I ls (lv_sub hl [0, 1, 2, 3, 4, 5, 6, 7, 8, 9, 10, 11, 12, 14] rfl) hpf
      refine lv_iconst (v := (1 : Int32)) hx hb dL_deletes_115 (by decide) ?_
      refine lv_goto (tgt := 120) hx hb dL_deletes_116 (by decide) ?_
      exact hC_120 (1 : Int32) x1 x13 x14 x16 S L102 C D hCD H locs I ls (lv_sub hl [0, 1, 2, 3, 4, 5, 6, 7, 8, 9, 10, 11, 12, 14] rfl) hpf
  have hC_74 : ∀ (t0 : Int32) (x1 : Int32) (x13 : Int32) (x14 : Int32) (S : kS) (L : lS) (C D : Nat) (hCD : C ≤ 11 ∧ D ≤ 435) (H : Heap) (locs : List Loc), lV dC dI g a (lFr g a Si Li sz) s Si S L H locs → ∀ ls : Array Slot, lv_has ls 17 [(0, .ref (g.2.1 0)), (1, .int x1), (3, .ref (a 0)), (4, .ref (a 2)), (5, .ref (a 3)), (6, .ref (a 4)), (7, .ref (a 5)), (8, .ref (a 6)), (9, .ref (a 7)), (10, .ref (a 8)), (11, .ref (a 9)), (13, .int x13), (14, .int x14)] → pL_deletes_74 N t0 x1 x13 x14 S L C D = some (r, Sf, Lf) → W p l e (lRm 10 373 11 435) s m args below meth c H locs C D (MQ below (lQ dC dI g a sz Si Li (qI r) Sf Lf) args s 11 435 (lFr g a Si Li sz)) (F0 m 74 ls [.int t0]) := by
    intro t0 x1 x13 x14 S L C D hCD H locs I ls hl hpf
    unfold pL_deletes_74 at hpf
    refine lv_istore (lv' := [(15, .int t0), (0, .ref (g.2.1 0)), (1, .int x1), (3, .ref (a 0)), (4, .ref (a 2)), (5, .ref (a 3)), (6, .ref (a 4)), (7, .ref (a 5)), (8, .ref (a 6)), (9, .ref (a 7)), (10, .ref (a 8)), (11, .ref (a 9)), (13, .int x13), (14, .int x14)]) hx hb dL_deletes_74 hl (by decide) rfl (fun ls hl => ?_)
    refine lv_iconst (v := (1 : Int32)) hx hb dL_deletes_76 (by decide) ?_
    refine lv_istore (lv' := [(16, .int (1 : Int32)), (15, .int t0), (0, .ref (g.2.1 0)), (1, .int x1), (3, .ref (a 0)), (4, .ref (a 2)), (5, .ref (a 3)), (6, .ref (a 4)), (7, .ref (a 5)), (8, .ref (a 6)), (9, .ref (a 7)), (10, .ref (a 8)), (11, .ref (a 9)), (13, .int x13), (14, .int x14)]) hx hb dL_deletes_77 hl (by decide) rfl (fun ls hl => ?_)
    exact hC_79 N x1 x13 x14 t0 (1 : Int32) S L C D hCD H locs I ls (lv_sub hl [2, 3, 4, 5, 6, 7, 8, 9, 10, 11, 12, 13, 14, 1, 0] rfl) hpf
  have hC_30 : ∀ (t0 : Int32) (x1 : Int32) (x13 : Int32) (S : kS) (L : lS) (C D : Nat) (hCD : C ≤ 11 ∧ D ≤ 435) (H : Heap) (locs : List Loc), lV dC dI g a (lFr g a Si Li sz) s Si S L H locs → ∀ ls : Array Slot, lv_has ls 17 [(0, .ref (g.2.1 0)), (1, .int x1), (3, .ref (a 0)), (4, .ref (a 2)), (5, .ref (a 3)), (6, .ref (a 4)), (7, .ref (a 5)), (8, .ref (a 6)), (9, .ref (a 7)), (10, .ref (a 8)), (11, .ref (a 9)), (12, .ref (a 10)), (13, .int x13)] → pL_deletes_30 N t0 x1 x13 S L C D = some (r, Sf, Lf) → W p l e (lRm 10 373 11 435) s m args below meth c H locs C D (MQ below (lQ dC dI g a sz Si Li (qI r) Sf Lf) args s 11 435 (lFr g a Si Li sz)) (F0 m 30 ls [.int t0]) := by
    intro t0 x1 x13 S L C D hCD H locs I ls hl hpf
    unfold pL_deletes_30 at hpf
    refine lv_istore (lv' := [(14, .int t0), (0, .ref (g.2.1 0)), (1, .int x1), (3, .ref (a 0)), (4, .ref (a 2)), (5, .ref (a 3)), (6, .ref (a 4)), (7, .ref (a 5)), (8, .ref (a 6)), (9, .ref (a 7)), (10, .ref (a 8)), (11, .ref (a 9)), (12, .ref (a 10)), (13, .int x13)]) hx hb dL_deletes_30 hl (by decide) rfl (fun ls hl => ?_)
    refine lv_iload hx hb dL_deletes_32 (lv_at hl 0 rfl) ?_
    refine b_if_eq hx hb 73 34 dL_deletes_34 (by decide) hpf (fun hpf => ?_) (fun hpf => ?_)
    · refine lv_iconst (v := (0 : Int32)) hx hb dL_deletes_73 (by decide) ?_
      exact hC_74 (0 : Int32) x1 x13 t0 S L C D hCD H locs I ls (lv_sub hl [1, 2, 3, 4, 5, 6, 7, 8, 9, 10, 11, 13, 0] rfl) hpf
    refine lv_iload_n hx hb dL_deletes_37 rfl (lv_at hl 2 rfl) ?_
    refine lv_aload_n hx hb dL_deletes_38 rfl (lv_at hl 3 rfl) ?_
    refine lv_iconst (v := (4 : Int32)) hx hb dL_deletes_39 (by decide) ?_
    refine lv_iload_n hx hb dL_deletes_40 rfl (lv_at hl 2 rfl) ?_
    refine lv_iadd hx hb dL_deletes_41 ?_
    refine l_iald X I lR_0 42 dL_deletes_42 hpf (fun hpf => ?_)
    refine lv_iload hx hb dL_deletes_43 (lv_at hl 13 rfl) ?_
    refine lv_iconst (v := (1 : Int32)) hx hb dL_deletes_45 (by decide) ?_
    refine lv_aload_n hx hb dL_deletes_46 rfl (lv_at hl 3 rfl) ?_
    refine lv_aload hx hb dL_deletes_47 (lv_at hl 4 rfl) ?_
    refine lv_aload hx hb dL_deletes_49 (lv_at hl 5 rfl) ?_
    refine lv_aload hx hb dL_deletes_51 (lv_at hl 6 rfl) ?_
    refine lv_aload hx hb dL_deletes_53 (lv_at hl 7 rfl) ?_
    refine lv_aload hx hb dL_deletes_55 (lv_at hl 8 rfl) ?_
    refine lv_aload hx hb dL_deletes_57 (lv_at hl 10 rfl) ?_
    refine lv_aload hx hb dL_deletes_59 (lv_at hl 11 rfl) ?_
    refine lv_aload hx hb dL_deletes_61 (lv_at hl 12 rfl) ?_
    refine l_cAI (rest := []) (As := [.int x1, .int (aI L 0 ((4 : Int32) + x1).toNatClampNeg), .int x13, .int (1 : Int32), .ref (a 0), .ref (a 2), .ref (a 3), .ref (a 4), .ref (a 5), .ref (a 6), .ref (a 8), .ref (a 9), .ref (a 10)]) X I fL_may (c_L_may l hlt N x1 (aI L 0 ((4 : Int32) + x1).toNatClampNeg) x13 (1 : Int32)) rfl ⟨Nat.le_of_ble_eq_true rfl, Nat.le_of_ble_eq_true rfl⟩ 63 dL_deletes_63 rfl hl.1 rfl (Nat.le_of_ble_eq_true rfl) hCD hpf (fun v101 L102 H locs I hpf => ?_)
    refine b_if_eq hx hb 73 66 dL_deletes_66 (by decide) hpf (fun hpf => ?_) (fun hpf => ?_)
    · refine lv_iconst (v := (0 : Int32)) hx hb dL_deletes_73 (by decide) ?_
      exact hC_74 (0 : Int32) x1 x13 t0 S L102 C D hCD H locs I ls (lv_sub hl [1, 2, 3, 4, 5, 6, 7, 8, 9, 10, 11, 13, 0] rfl) hpf
    refine lv_iconst (v := (1 : Int32)) hx hb dL_deletes_69 (by decide) ?_
    refine lv_goto (tgt := 74) hx hb dL_deletes_70 (by decide) ?_
    exact hC_74 (1 : Int32) x1 x13 t0 S L102 C D hCD H locs I ls (lv_sub hl [1, 2, 3, 4, 5, 6, 7, 8, 9, 10, 11, 13, 0] rfl) hpf
  refine lv_iload_n hx hb dL_deletes_0 rfl (lv_at hl 2 rfl) ?_
  refine lv_aload_n hx hb dL_deletes_1 rfl (lv_at hl 3 rfl) ?_
  refine lv_iconst (v := (0 : Int32)) hx hb dL_deletes_2 (by decide) ?_
  refine l_iald X I lR_0 3 dL_deletes_3 hpf (fun hpf => ?_)
  refine l_cAI (rest := []) (As := [.int x2, .int (aI Li 0 (0 : Int32).toNatClampNeg)]) X I fL_low (c_L_low l hlt N x2 (aI Li 0 (0 : Int32).toNatClampNeg)) rfl ⟨Nat.le_of_ble_eq_true rfl, Nat.le_of_ble_eq_true rfl⟩ 4 dL_deletes_4 rfl hl.1 rfl (Nat.le_of_ble_eq_true rfl) hCD hpf (fun v101 L102 H locs I hpf => ?_)
  refine lv_istore (lv' := [(13, .int v101), (0, .ref (g.2.1 0)), (1, .int x1), (2, .int x2), (3, .ref (a 0)), (4, .ref (a 2)), (5, .ref (a 3)), (6, .ref (a 4)), (7, .ref (a 5)), (8, .ref (a 6)), (9, .ref (a 7)), (10, .ref (a 8)), (11, .ref (a 9)), (12, .ref (a 10))]) hx hb dL_deletes_7 hl (by decide) rfl (fun ls hl => ?_)
  refine lv_iload hx hb dL_deletes_9 (lv_at hl 0 rfl) ?_
  refine b_if_le hx hb 29 11 dL_deletes_11 (by decide) hpf (fun hpf => ?_) (fun hpf => ?_)
  · refine lv_iconst (v := (0 : Int32)) hx hb dL_deletes_29 (by decide) ?_
    exact hC_30 (0 : Int32) x1 v101 Si L102 0 0 hCD H locs I ls (lv_sub hl [1, 2, 4, 5, 6, 7, 8, 9, 10, 11, 12, 13, 0] rfl) hpf
  refine lv_aload hx hb dL_deletes_14 (lv_at hl 12 rfl) ?_
  refine lv_iconst (v := (3 : Int32)) hx hb dL_deletes_16 (by decide) ?_
  refine lv_iload hx hb dL_deletes_17 (lv_at hl 0 rfl) ?_
  refine lv_imul hx hb dL_deletes_19 ?_
  refine l_iald X I lR_9 20 dL_deletes_20 hpf (fun hpf => ?_)
  refine lv_iconst (v := (1 : Int32)) hx hb dL_deletes_21 (by decide) ?_
  refine b_icmp_ne hx hb 29 22 dL_deletes_22 (by decide) hpf (fun hpf => ?_) (fun hpf => ?_)
  · refine lv_iconst (v := (0 : Int32)) hx hb dL_deletes_29 (by decide) ?_
    exact hC_30 (0 : Int32) x1 v101 Si L102 0 0 hCD H locs I ls (lv_sub hl [1, 2, 4, 5, 6, 7, 8, 9, 10, 11, 12, 13, 0] rfl) hpf
  refine lv_iconst (v := (1 : Int32)) hx hb dL_deletes_25 (by decide) ?_
  refine lv_goto (tgt := 30) hx hb dL_deletes_26 (by decide) ?_
  exact hC_30 (1 : Int32) x1 v101 Si L102 0 0 hCD H locs I ls (lv_sub hl [1, 2, 4, 5, 6, 7, 8, 9, 10, 11, 12, 13, 0] rfl) hpf
