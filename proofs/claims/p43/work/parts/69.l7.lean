-- ===== the law's entry =====
noncomputable def pL_entry_276 (N : Nat) (x1 : Int32) (x2 : Int32) (x3 : Int32) (x15 : Int32) (S : kS) (L : lS) (C : Nat) (D : Nat) : Option (Int32 × kS × lS) :=
    lba (pL_low N x3 (4 : Int32) L) fun v101 L102 =>
    lba (pL_low N (x3 >>> ((2 : Int32) &&& 31)) (2 : Int32) L102) fun v103 L104 =>
    if x15 = (0 : Int32) then (
      zlB 800 5000 C D (0 : Int32) S L104)
    else (
      lbx 4 24 800 5000 C D (pX9_may N x1 v101 x2 v103 S) fun v105 S106 C107 D108 =>
      lba (pL_may N x1 v101 x2 v103 L104) fun v109 L110 =>
      if v105 = v109 then (
        zlB 800 5000 C107 D108 (1 : Int32) S106 L110)
      else (
        zlB 800 5000 C107 D108 (0 : Int32) S106 L110))
noncomputable def pL_entry_268 (N : Nat) (k_125 : Int32 → Int32 → Int32 → Int32 → Int32 → kS → lS → Nat → Nat → Option (Int32 × kS × lS)) (t0 : Int32) (x1 : Int32) (x2 : Int32) (x3 : Int32) (x16 : Int32) (S : kS) (L : lS) (C : Nat) (D : Nat) : Option (Int32 × kS × lS) :=
    nm (x16 + (1 : Int32)) fun y101 =>
    k_125 x1 x2 x3 t0 y101 S L C D
noncomputable def pL_entry_231 (N : Nat) (k_125 : Int32 → Int32 → Int32 → Int32 → Int32 → kS → lS → Nat → Nat → Option (Int32 × kS × lS)) (x1 : Int32) (x2 : Int32) (x3 : Int32) (x15 : Int32) (x16 : Int32) (x17 : Int32) (S : kS) (L : lS) (C : Nat) (D : Nat) : Option (Int32 × kS × lS) :=
    if x15 = (0 : Int32) then (
      pL_entry_268 N k_125 (0 : Int32) x1 x2 x3 x16 S L C D)
    else (
      lbx 3 18 800 5000 C D (pX9_valuesAnew N x1 x2 x16 S) fun v101 S102 C103 D104 =>
      if v101 = x17 then (
        lbx 4 24 800 5000 C103 D104 (pX9_valueAt N x1 x2 x16 x17 S102) fun v105 S106 C107 D108 =>
        if v105 = (-1 : Int32) then (
          pL_entry_268 N k_125 (1 : Int32) x1 x2 x3 x16 S106 L C107 D108)
        else (
          pL_entry_268 N k_125 (0 : Int32) x1 x2 x3 x16 S106 L C107 D108))
      else (
        pL_entry_268 N k_125 (0 : Int32) x1 x2 x3 x16 S102 L C103 D104))
noncomputable def pL_entry_222 (N : Nat) (k_145 : Int32 → Int32 → Int32 → Int32 → Int32 → Int32 → Int32 → kS → lS → Nat → Nat → Option (Int32 × kS × lS)) (t0 : Int32) (t1 : Int32) (x1 : Int32) (x2 : Int32) (x3 : Int32) (x15 : Int32) (x16 : Int32) (x18 : Int32) (S : kS) (L : lS) (C : Nat) (D : Nat) : Option (Int32 × kS × lS) :=
    nm (t1 + t0) fun y101 =>
    nm (x18 + (1 : Int32)) fun y102 =>
    k_145 x1 x2 x3 x15 x16 y101 y102 S L C D
noncomputable def pL_entry_208 (N : Nat) (k_145 : Int32 → Int32 → Int32 → Int32 → Int32 → Int32 → Int32 → kS → lS → Nat → Nat → Option (Int32 × kS × lS)) (t0 : Int32) (x1 : Int32) (x2 : Int32) (x3 : Int32) (x16 : Int32) (x17 : Int32) (x18 : Int32) (x19 : Int32) (S : kS) (L : lS) (C : Nat) (D : Nat) : Option (Int32 × kS × lS) :=
    if x19 = (0 : Int32) then (
      pL_entry_222 N k_145 (0 : Int32) x17 x1 x2 x3 t0 x16 x18 S L C D)
    else (
      pL_entry_222 N k_145 (1 : Int32) x17 x1 x2 x3 t0 x16 x18 S L C D)
noncomputable def pL_entry_176 (N : Nat) (k_145 : Int32 → Int32 → Int32 → Int32 → Int32 → Int32 → Int32 → kS → lS → Nat → Nat → Option (Int32 × kS × lS)) (t0 : Int32) (x1 : Int32) (x2 : Int32) (x3 : Int32) (x15 : Int32) (x16 : Int32) (x17 : Int32) (x18 : Int32) (S : kS) (L : lS) (C : Nat) (D : Nat) : Option (Int32 × kS × lS) :=
    if x15 = (0 : Int32) then (
      pL_entry_208 N k_145 (0 : Int32) x1 x2 x3 x16 x17 x18 t0 S L C D)
    else (
      if t0 = (0 : Int32) then (
        pL_entry_208 N k_145 (1 : Int32) x1 x2 x3 x16 x17 x18 t0 S L C D)
      else (
        lbx 4 24 800 5000 C D (pX9_valueAt N x1 x2 x16 x17 S) fun v101 S102 C103 D104 =>
        if v101 = x18 then (
          pL_entry_208 N k_145 (1 : Int32) x1 x2 x3 x16 x17 x18 t0 S102 L C103 D104)
        else (
          pL_entry_208 N k_145 (0 : Int32) x1 x2 x3 x16 x17 x18 t0 S102 L C103 D104)))
noncomputable def pL_entry_145 (N : Nat) (k_231 : Int32 → Int32 → Int32 → Int32 → Int32 → Int32 → kS → lS → Nat → Nat → Option (Int32 × kS × lS)) : Nat → Int32 → Int32 → Int32 → Int32 → Int32 → Int32 → Int32 → kS → lS → Nat → Nat → Option (Int32 × kS × lS)
  | 0 => fun _ _ _ _ _ _ _ _ _ _ _ => none
  | n_145 + 1 => fun x1 x2 x3 x15 x16 x17 x18 S L C D =>
    if (60 : Int32) ≤ x18 then (
      k_231 x1 x2 x3 x15 x16 x17 S L C D)
    else (
      gd (((3 : Int32) * x2) + x16) 36 <|
      if (lg_cmp (((aJ L 10 (((3 : Int32) * x2) + x16).toNatClampNeg) >>> (x18.toInt64 &&& 63)) &&& (1 : Int64)) (1 : Int64)) = (0 : Int32) then (
        pL_entry_176 N (pL_entry_145 N k_231 n_145) (1 : Int32) x1 x2 x3 x15 x16 x17 x18 S L C D)
      else (
        pL_entry_176 N (pL_entry_145 N k_231 n_145) (0 : Int32) x1 x2 x3 x15 x16 x17 x18 S L C D))
noncomputable def pL_entry_125 (N : Nat) (k_276 : Int32 → Int32 → Int32 → Int32 → kS → lS → Nat → Nat → Option (Int32 × kS × lS)) : Nat → Int32 → Int32 → Int32 → Int32 → Int32 → kS → lS → Nat → Nat → Option (Int32 × kS × lS)
  | 0 => fun _ _ _ _ _ _ _ _ _ => none
  | n_125 + 1 => fun x1 x2 x3 x15 x16 S L C D =>
    gd (2 : Int32) 20 <|
    if (aI L 0 (2 : Int32).toNatClampNeg) ≤ x16 then (
      k_276 x1 x2 x3 x15 S L C D)
    else (
      if x15 = (0 : Int32) then (
        k_276 x1 x2 x3 x15 S L C D)
      else (
        pL_entry_145 N (pL_entry_231 N (pL_entry_125 N k_276 n_125)) N x1 x2 x3 x15 x16 (0 : Int32) (0 : Int32) S L C D))
noncomputable def pL_entry_120 (N : Nat) (t0 : Int32) (x1 : Int32) (x2 : Int32) (x3 : Int32) (S : kS) (L : lS) (C : Nat) (D : Nat) : Option (Int32 × kS × lS) :=
    pL_entry_125 N (pL_entry_276 N) N x1 x2 x3 t0 (0 : Int32) S L C D
noncomputable def pL_entry (N : Nat) (x1 : Int32) (x2 : Int32) (x3 : Int32) (S : kS) (L : lS) : Option (Int32 × kS × lS) :=
    gd ((3 : Int32) * x2) 36 <|
    if (aI L 9 ((3 : Int32) * x2).toNatClampNeg) = (1 : Int32) then (
      lba (pL_place N x2 L) fun v101 L102 =>
      lbx 2 12 800 5000 0 0 (pX9_parentOf N x1 x2 S) fun v103 S104 C105 D106 =>
      if v103 = v101 then (
        lbx 2 12 800 5000 C105 D106 (pX9_parentAnew N x1 x2 S104) fun v107 S108 C109 D110 =>
        if v107 = v101 then (
          lbx 2 12 800 5000 C109 D110 (pX9_nameOf N x1 x2 S108) fun v111 S112 C113 D114 =>
          lba (pL_shown N x1 x2 L102) fun v115 L116 =>
          if v111 = v115 then (
            lbx 2 12 800 5000 C113 D114 (pX9_linkOf N x1 x2 S112) fun v117 S118 C119 D120 =>
            lba (pL_link N x1 x2 L116) fun v121 L122 =>
            if v117 = v121 then (
              pL_entry_120 N (1 : Int32) x1 x2 x3 S118 L122 C119 D120)
            else (
              pL_entry_120 N (0 : Int32) x1 x2 x3 S118 L122 C119 D120))
          else (
            pL_entry_120 N (0 : Int32) x1 x2 x3 S112 L116 C113 D114))
        else (
          pL_entry_120 N (0 : Int32) x1 x2 x3 S108 L102 C109 D110))
      else (
        pL_entry_120 N (0 : Int32) x1 x2 x3 S104 L102 C105 D106))
    else (
      lbb 11 435 800 5000 0 0 (pL_calls N (9 : Int32) x1 x2 (0 : Int32) (0 : Int32) S L) fun v123 S124 L125 C126 D127 =>
      if v123 = (-9 : Int32) then (
        zlB 800 5000 C126 D127 (1 : Int32) S124 L125)
      else (
        zlB 800 5000 C126 D127 (0 : Int32) S124 L125))
theorem fL_entry : lFnS yL_entry (.code yL_entry cL_entry 20 (some .boolean)) 14 300 := ⟨kT_253, kT_254, kT_191, rfl, by decide +kernel⟩
set_option maxRecDepth 100000 in
set_option maxHeartbeats 4000000 in
theorem c_L_entry (l : Launch) (hlt : l.stackTraces = false) (N : Nat) (x1 : Int32) (x2 : Int32) (x3 : Int32) : lMet l yL_entry (.code yL_entry cL_entry 20 (some .boolean)) 10 373 800 5000 (fun ca a => [.ref (ca 0), .int x1, .int x2, .int x3, .ref (a 0), .ref (a 1), .ref (a 2), .ref (a 3), .ref (a 4), .ref (a 5), .ref (a 6), .ref (a 8), .ref (a 9), .ref (a 10)]) qI (pL_entry N x1 x2 x3) := by
  refine l_start hlt (by decide +kernel) rfl (fun ca a => [(0, .ref (ca 0)), (1, .int x1), (2, .int x2), (3, .int x3), (4, .ref (a 0)), (5, .ref (a 1)), (6, .ref (a 2)), (7, .ref (a 3)), (8, .ref (a 4)), (9, .ref (a 5)), (10, .ref (a 6)), (11, .ref (a 8)), (12, .ref (a 9)), (13, .ref (a 10))]) (fun _ _ => Nat.le_of_ble_eq_true rfl) (fun _ _ => rfl) ?_
  intro dC dI g a sz Si Li r Sf Lf hpf p e s m args below meth c X hr H locs I ls hl
  have hx := X.1
  have hb := X.2.1
  have hCD : (0 : Nat) ≤ 800 ∧ (0 : Nat) ≤ 5000 := ⟨Nat.zero_le _, Nat.zero_le _⟩
  unfold pL_entry at hpf
  have hC_276 : ∀ (x1 : Int32) (x2 : Int32) (x3 : Int32) (x15 : Int32) (S : kS) (L : lS) (C D : Nat) (hCD : C ≤ 800 ∧ D ≤ 5000) (H : Heap) (locs : List Loc), lV dC dI g a (lFr g a Si Li sz) s Si S L H locs → ∀ ls : Array Slot, lv_has ls 20 [(0, .ref (g.2.1 0)), (1, .int x1), (2, .int x2), (3, .int x3), (4, .ref (a 0)), (6, .ref (a 2)), (7, .ref (a 3)), (8, .ref (a 4)), (9, .ref (a 5)), (10, .ref (a 6)), (11, .ref (a 8)), (12, .ref (a 9)), (13, .ref (a 10)), (15, .int x15)] → pL_entry_276 N x1 x2 x3 x15 S L C D = some (r, Sf, Lf) → W p l e (lRm 10 373 800 5000) s m args below meth c H locs C D (MQ below (lQ dC dI g a sz Si Li (qI r) Sf Lf) args s 800 5000 (lFr g a Si Li sz)) (F0 m 276 ls []) := by
    intro x1 x2 x3 x15 S L C D hCD H locs I ls hl hpf
    unfold pL_entry_276 at hpf
    refine lv_iload_n hx hb dL_entry_276 rfl (lv_at hl 3 rfl) ?_
    refine lv_iconst (v := (4 : Int32)) hx hb dL_entry_277 (by decide) ?_
    refine l_cAI (rest := []) (As := [.int x3, .int (4 : Int32)]) X I fL_low (c_L_low l hlt N x3 (4 : Int32)) rfl ⟨Nat.le_of_ble_eq_true rfl, Nat.le_of_ble_eq_true rfl⟩ 278 dL_entry_278 rfl hl.1 rfl (Nat.le_of_ble_eq_true rfl) hCD hpf (fun v101 L102 H locs I hpf => ?_)
    refine lv_istore (lv' := [(16, .int v101), (0, .ref (g.2.1 0)), (1, .int x1), (2, .int x2), (3, .int x3), (4, .ref (a 0)), (6, .ref (a 2)), (7, .ref (a 3)), (8, .ref (a 4)), (9, .ref (a 5)), (10, .ref (a 6)), (11, .ref (a 8)), (12, .ref (a 9)), (13, .ref (a 10)), (15, .int x15)]) hx hb dL_entry_281 hl (by decide) rfl (fun ls hl => ?_)
    refine lv_iload_n hx hb dL_entry_283 rfl (lv_at hl 4 rfl) ?_
    refine lv_iconst (v := (2 : Int32)) hx hb dL_entry_284 (by decide) ?_
    refine lv_ishr hx hb dL_entry_285 ?_
    refine lv_iconst (v := (2 : Int32)) hx hb dL_entry_286 (by decide) ?_
    refine l_cAI (rest := []) (As := [.int (x3 >>> ((2 : Int32) &&& 31)), .int (2 : Int32)]) X I fL_low (c_L_low l hlt N (x3 >>> ((2 : Int32) &&& 31)) (2 : Int32)) rfl ⟨Nat.le_of_ble_eq_true rfl, Nat.le_of_ble_eq_true rfl⟩ 287 dL_entry_287 rfl hl.1 rfl (Nat.le_of_ble_eq_true rfl) hCD hpf (fun v103 L104 H locs I hpf => ?_)
    refine lv_istore (lv' := [(17, .int v103), (16, .int v101), (0, .ref (g.2.1 0)), (1, .int x1), (2, .int x2), (3, .int x3), (4, .ref (a 0)), (6, .ref (a 2)), (7, .ref (a 3)), (8, .ref (a 4)), (9, .ref (a 5)), (10, .ref (a 6)), (11, .ref (a 8)), (12, .ref (a 9)), (13, .ref (a 10)), (15, .int x15)]) hx hb dL_entry_290 hl (by decide) rfl (fun ls hl => ?_)
    refine lv_iload hx hb dL_entry_292 (lv_at hl 15 rfl) ?_
    refine b_if_eq hx hb 341 294 dL_entry_294 (by decide) hpf (fun hpf => ?_) (fun hpf => ?_)
    · refine lv_iconst (v := (0 : Int32)) hx hb dL_entry_341 (by decide) ?_
      exact l_retzB X I hr 342 dL_entry_342 hpf
    refine lv_aload_n hx hb dL_entry_297 rfl (lv_at hl 2 rfl) ?_
    refine lv_iload_n hx hb dL_entry_298 rfl (lv_at hl 3 rfl) ?_
    refine lv_iload hx hb dL_entry_299 (lv_at hl 1 rfl) ?_
    refine lv_iload_n hx hb dL_entry_301 rfl (lv_at hl 4 rfl) ?_
    refine lv_iload hx hb dL_entry_302 (lv_at hl 0 rfl) ?_
    refine l_cX (rest := []) (As := [.int x1, .int v101, .int x2, .int v103]) X I fX_may (c_X9_may l hlt N x1 v101 x2 v103) ⟨Nat.le_of_ble_eq_true rfl, Nat.le_of_ble_eq_true rfl⟩ 304 dL_entry_304 rfl hl.1 ⟨Nat.le_refl _, Nat.le_refl _⟩ rfl (Nat.le_of_ble_eq_true rfl) hpf (fun v105 S106 C107 D108 hCD H locs I hpf => ?_)
    refine lv_iload_n hx hb dL_entry_307 rfl (lv_at hl 3 rfl) ?_
    refine lv_iload hx hb dL_entry_308 (lv_at hl 1 rfl) ?_
    refine lv_iload_n hx hb dL_entry_310 rfl (lv_at hl 4 rfl) ?_
    refine lv_iload hx hb dL_entry_311 (lv_at hl 0 rfl) ?_
    refine lv_aload hx hb dL_entry_313 (lv_at hl 6 rfl) ?_
    refine lv_aload hx hb dL_entry_315 (lv_at hl 7 rfl) ?_
    refine lv_aload hx hb dL_entry_317 (lv_at hl 8 rfl) ?_
    refine lv_aload hx hb dL_entry_319 (lv_at hl 9 rfl) ?_
    refine lv_aload hx hb dL_entry_321 (lv_at hl 10 rfl) ?_
    refine lv_aload hx hb dL_entry_323 (lv_at hl 11 rfl) ?_
    refine lv_aload hx hb dL_entry_325 (lv_at hl 12 rfl) ?_
    refine lv_aload hx hb dL_entry_327 (lv_at hl 13 rfl) ?_
    refine lv_aload hx hb dL_entry_329 (lv_at hl 14 rfl) ?_
    refine l_cAI (rest := [.int v105]) (As := [.int x1, .int v101, .int x2, .int v103, .ref (a 0), .ref (a 2), .ref (a 3), .ref (a 4), .ref (a 5), .ref (a 6), .ref (a 8), .ref (a 9), .ref (a 10)]) X I fL_may (c_L_may l hlt N x1 v101 x2 v103) rfl ⟨Nat.le_of_ble_eq_true rfl, Nat.le_of_ble_eq_true rfl⟩ 331 dL_entry_331 rfl hl.1 rfl (Nat.le_of_ble_eq_true rfl) hCD hpf (fun v109 L110 H locs I hpf => ?_)
    refine b_icmp_ne hx hb 341 334 dL_entry_334 (by decide) hpf (fun hpf => ?_) (fun hpf => ?_)
    · refine lv_iconst (v := (0 : Int32)) hx hb dL_entry_341 (by decide) ?_
      exact l_retzB X I hr 342 dL_entry_342 hpf
    refine lv_iconst (v := (1 : Int32)) hx hb dL_entry_337 (by decide) ?_
    refine lv_goto (tgt := 342) hx hb dL_entry_338 (by decide) ?_
    exact l_retzB X I hr 342 dL_entry_342 hpf
  have hC_125 : ∀ (n_125 : Nat), ∀ (x1 : Int32) (x2 : Int32) (x3 : Int32) (x15 : Int32) (x16 : Int32) (S : kS) (L : lS) (C D : Nat) (hCD : C ≤ 800 ∧ D ≤ 5000) (H : Heap) (locs : List Loc), lV dC dI g a (lFr g a Si Li sz) s Si S L H locs → ∀ ls : Array Slot, lv_has ls 20 [(0, .ref (g.2.1 0)), (1, .int x1), (2, .int x2), (3, .int x3), (4, .ref (a 0)), (6, .ref (a 2)), (7, .ref (a 3)), (8, .ref (a 4)), (9, .ref (a 5)), (10, .ref (a 6)), (11, .ref (a 8)), (12, .ref (a 9)), (13, .ref (a 10)), (15, .int x15), (16, .int x16)] → pL_entry_125 N (pL_entry_276 N) n_125 x1 x2 x3 x15 x16 S L C D = some (r, Sf, Lf) → W p l e (lRm 10 373 800 5000) s m args below meth c H locs C D (MQ below (lQ dC dI g a sz Si Li (qI r) Sf Lf) args s 800 5000 (lFr g a Si Li sz)) (F0 m 125 ls []) := by
    intro n_125
    induction n_125 with
    | zero =>
      intro x1 x2 x3 x15 x16 S L C D hCD H locs I ls hl hpf
      rw [pL_entry_125] at hpf
      cases hpf
    | succ n_125 ih_125 =>
      have hC_268 : ∀ (t0 : Int32) (x1 : Int32) (x2 : Int32) (x3 : Int32) (x16 : Int32) (S : kS) (L : lS) (C D : Nat) (hCD : C ≤ 800 ∧ D ≤ 5000) (H : Heap) (locs : List Loc), lV dC dI g a (lFr g a Si Li sz) s Si S L H locs → ∀ ls : Array Slot, lv_has ls 20 [(0, .ref (g.2.1 0)), (1, .int x1), (2, .int x2), (3, .int x3), (4, .ref (a 0)), (6, .ref (a 2)), (7, .ref (a 3)), (8, .ref (a 4)), (9, .ref (a 5)), (10, .ref (a 6)), (11, .ref (a 8)), (12, .ref (a 9)), (13, .ref (a 10)), (16, .int x16)] → pL_entry_268 N (pL_entry_125 N (pL_entry_276 N) n_125) t0 x1 x2 x3 x16 S L C D = some (r, Sf, Lf) → W p l e (lRm 10 373 800 5000) s m args below meth c H locs C D (MQ below (lQ dC dI g a sz Si Li (qI r) Sf Lf) args s 800 5000 (lFr g a Si Li sz)) (F0 m 268 ls [.int t0]) := by
        intro t0 x1 x2 x3 x16 S L C D hCD H locs I ls hl hpf
        unfold pL_entry_268 at hpf
        refine lv_istore (lv' := [(15, .int t0), (0, .ref (g.2.1 0)), (1, .int x1), (2, .int x2), (3, .int x3), (4, .ref (a 0)), (6, .ref (a 2)), (7, .ref (a 3)), (8, .ref (a 4)), (9, .ref (a 5)), (10, .ref (a 6)), (11, .ref (a 8)), (12, .ref (a 9)), (13, .ref (a 10)), (16, .int x16)]) hx hb dL_entry_268 hl (by decide) rfl (fun ls hl => ?_)
        refine m_iinc (w := (1 : Int32)) hx hb (fun y101 => [(16, .int y101), (15, .int t0), (0, .ref (g.2.1 0)), (1, .int x1), (2, .int x2), (3, .int x3), (4, .ref (a 0)), (6, .ref (a 2)), (7, .ref (a 3)), (8, .ref (a 4)), (9, .ref (a 5)), (10, .ref (a 6)), (11, .ref (a 8)), (12, .ref (a 9)), (13, .ref (a 10))]) 270 dL_entry_270 hl (k := 14) rfl (by decide) (by decide) (fun _ => rfl) hpf (fun y101 ls hl hpf => ?_)
        refine lv_goto (tgt := 125) hx hb dL_entry_273 (by decide) ?_
        exact ih_125 x1 x2 x3 t0 y101 S L C D hCD H locs I ls (lv_sub hl [2, 3, 4, 5, 6, 7, 8, 9, 10, 11, 12, 13, 14, 1, 0] rfl) hpf
      have hC_231 : ∀ (x1 : Int32) (x2 : Int32) (x3 : Int32) (x15 : Int32) (x16 : Int32) (x17 : Int32) (S : kS) (L : lS) (C D : Nat) (hCD : C ≤ 800 ∧ D ≤ 5000) (H : Heap) (locs : List Loc), lV dC dI g a (lFr g a Si Li sz) s Si S L H locs → ∀ ls : Array Slot, lv_has ls 20 [(0, .ref (g.2.1 0)), (1, .int x1), (2, .int x2), (3, .int x3), (4, .ref (a 0)), (6, .ref (a 2)), (7, .ref (a 3)), (8, .ref (a 4)), (9, .ref (a 5)), (10, .ref (a 6)), (11, .ref (a 8)), (12, .ref (a 9)), (13, .ref (a 10)), (15, .int x15), (16, .int x16), (17, .int x17)] → pL_entry_231 N (pL_entry_125 N (pL_entry_276 N) n_125) x1 x2 x3 x15 x16 x17 S L C D = some (r, Sf, Lf) → W p l e (lRm 10 373 800 5000) s m args below meth c H locs C D (MQ below (lQ dC dI g a sz Si Li (qI r) Sf Lf) args s 800 5000 (lFr g a Si Li sz)) (F0 m 231 ls []) := by
        intro x1 x2 x3 x15 x16 x17 S L C D hCD H locs I ls hl hpf
        unfold pL_entry_231 at hpf
        refine lv_iload hx hb dL_entry_231 (lv_at hl 13 rfl) ?_
        refine b_if_eq hx hb 267 233 dL_entry_233 (by decide) hpf (fun hpf => ?_) (fun hpf => ?_)
        · refine lv_iconst (v := (0 : Int32)) hx hb dL_entry_267 (by decide) ?_
          exact hC_268 (0 : Int32) x1 x2 x3 x16 S L C D hCD H locs I ls (lv_sub hl [0, 1, 2, 3, 4, 5, 6, 7, 8, 9, 10, 11, 12, 14] rfl) hpf
        refine lv_aload_n hx hb dL_entry_236 rfl (lv_at hl 0 rfl) ?_
        refine lv_iload_n hx hb dL_entry_237 rfl (lv_at hl 1 rfl) ?_
        refine lv_iload_n hx hb dL_entry_238 rfl (lv_at hl 2 rfl) ?_
        refine lv_iload hx hb dL_entry_239 (lv_at hl 14 rfl) ?_
        refine l_cX (rest := []) (As := [.int x1, .int x2, .int x16]) X I fX_valuesAnew (c_X9_valuesAnew l hlt N x1 x2 x16) ⟨Nat.le_of_ble_eq_true rfl, Nat.le_of_ble_eq_true rfl⟩ 241 dL_entry_241 rfl hl.1 ⟨Nat.le_refl _, Nat.le_refl _⟩ rfl (Nat.le_of_ble_eq_true rfl) hpf (fun v101 S102 C103 D104 hCD H locs I hpf => ?_)
        refine lv_iload hx hb dL_entry_244 (lv_at hl 15 rfl) ?_
        refine b_icmp_ne hx hb 267 246 dL_entry_246 (by decide) hpf (fun hpf => ?_) (fun hpf => ?_)
        · refine lv_iconst (v := (0 : Int32)) hx hb dL_entry_267 (by decide) ?_
          exact hC_268 (0 : Int32) x1 x2 x3 x16 S102 L C103 D104 hCD H locs I ls (lv_sub hl [0, 1, 2, 3, 4, 5, 6, 7, 8, 9, 10, 11, 12, 14] rfl) hpf
        refine lv_aload_n hx hb dL_entry_249 rfl (lv_at hl 0 rfl) ?_
        refine lv_iload_n hx hb dL_entry_250 rfl (lv_at hl 1 rfl) ?_
        refine lv_iload_n hx hb dL_entry_251 rfl (lv_at hl 2 rfl) ?_
        refine lv_iload hx hb dL_entry_252 (lv_at hl 14 rfl) ?_
        refine lv_iload hx hb dL_entry_254 (lv_at hl 15 rfl) ?_
        refine l_cX (rest := []) (As := [.int x1, .int x2, .int x16, .int x17]) X I fX_valueAt (c_X9_valueAt l hlt N x1 x2 x16 x17) ⟨Nat.le_of_ble_eq_true rfl, Nat.le_of_ble_eq_true rfl⟩ 256 dL_entry_256 rfl hl.1 ⟨Nat.le_refl _, Nat.le_refl _⟩ rfl (Nat.le_of_ble_eq_true rfl) hpf (fun v105 S106 C107 D108 hCD H locs I hpf => ?_)
        refine lv_iconst (v := (-1 : Int32)) hx hb dL_entry_259 (by decide) ?_
        refine b_icmp_ne hx hb 267 260 dL_entry_260 (by decide) hpf (fun hpf => ?_) (fun hpf => ?_)
        · refine lv_iconst (v := (0 : Int32)) hx hb dL_entry_267 (by decide) ?_
          exact hC_268 (0 : Int32) x1 x2 x3 x16 S106 L C107 D108 hCD H locs I ls (lv_sub hl [0, 1, 2, 3, 4, 5, 6, 7, 8, 9, 10, 11, 12, 14] rfl) hpf
        refine lv_iconst (v := (1 : Int32)) hx hb dL_entry_263 (by decide) ?_
        refine lv_goto (tgt := 268) hx hb dL_entry_264 (by decide) ?_
        exact hC_268 (1 : Int32) x1 x2 x3 x16 S106 L C107 D108 hCD H locs I ls (lv_sub hl [0, 1, 2, 3, 4, 5, 6, 7, 8, 9, 10, 11, 12, 14] rfl) hpf
      have hC_145 : ∀ (n_145 : Nat), ∀ (x1 : Int32) (x2 : Int32) (x3 : Int32) (x15 : Int32) (x16 : Int32) (x17 : Int32) (x18 : Int32) (S : kS) (L : lS) (C D : Nat) (hCD : C ≤ 800 ∧ D ≤ 5000) (H : Heap) (locs : List Loc), lV dC dI g a (lFr g a Si Li sz) s Si S L H locs → ∀ ls : Array Slot, lv_has ls 20 [(0, .ref (g.2.1 0)), (1, .int x1), (2, .int x2), (3, .int x3), (4, .ref (a 0)), (6, .ref (a 2)), (7, .ref (a 3)), (8, .ref (a 4)), (9, .ref (a 5)), (10, .ref (a 6)), (11, .ref (a 8)), (12, .ref (a 9)), (13, .ref (a 10)), (15, .int x15), (16, .int x16), (17, .int x17), (18, .int x18)] → pL_entry_145 N (pL_entry_231 N (pL_entry_125 N (pL_entry_276 N) n_125)) n_145 x1 x2 x3 x15 x16 x17 x18 S L C D = some (r, Sf, Lf) → W p l e (lRm 10 373 800 5000) s m args below meth c H locs C D (MQ below (lQ dC dI g a sz Si Li (qI r) Sf Lf) args s 800 5000 (lFr g a Si Li sz)) (F0 m 145 ls []) := by
        intro n_145
        induction n_145 with
        | zero =>
          intro x1 x2 x3 x15 x16 x17 x18 S L C D hCD H locs I ls hl hpf
          rw [pL_entry_145] at hpf
          cases hpf
        | succ n_145 ih_145 =>
          have hC_222 : ∀ (t0 : Int32) (t1 : Int32) (x1 : Int32) (x2 : Int32) (x3 : Int32) (x15 : Int32) (x16 : Int32) (x18 : Int32) (S : kS) (L : lS) (C D : Nat) (hCD : C ≤ 800 ∧ D ≤ 5000) (H : Heap) (locs : List Loc), lV dC dI g a (lFr g a Si Li sz) s Si S L H locs → ∀ ls : Array Slot, lv_has ls 20 [(0, .ref (g.2.1 0)), (1, .int x1), (2, .int x2), (3, .int x3), (4, .ref (a 0)), (6, .ref (a 2)), (7, .ref (a 3)), (8, .ref (a 4)), (9, .ref (a 5)), (10, .ref (a 6)), (11, .ref (a 8)), (12, .ref (a 9)), (13, .ref (a 10)), (15, .int x15), (16, .int x16), (18, .int x18)] → pL_entry_222 N (pL_entry_145 N (pL_entry_231 N (pL_entry_125 N (pL_entry_276 N) n_125)) n_145) t0 t1 x1 x2 x3 x15 x16 x18 S L C D = some (r, Sf, Lf) → W p l e (lRm 10 373 800 5000) s m args below meth c H locs C D (MQ below (lQ dC dI g a sz Si Li (qI r) Sf Lf) args s 800 5000 (lFr g a Si Li sz)) (F0 m 222 ls [.int t0, .int t1]) := by
            intro t0 t1 x1 x2 x3 x15 x16 x18 S L C D hCD H locs I ls hl hpf
            unfold pL_entry_222 at hpf
            refine lv_iadd hx hb dL_entry_222 ?_
            refine m_isto hx hb (fun y101 => [(17, .int y101), (0, .ref (g.2.1 0)), (1, .int x1), (2, .int x2), (3, .int x3), (4, .ref (a 0)), (6, .ref (a 2)), (7, .ref (a 3)), (8, .ref (a 4)), (9, .ref (a 5)), (10, .ref (a 6)), (11, .ref (a 8)), (12, .ref (a 9)), (13, .ref (a 10)), (15, .int x15), (16, .int x16), (18, .int x18)]) 223 dL_entry_223 hl (by decide) (fun _ => rfl) hpf (fun y101 ls hl hpf => ?_)
            refine m_iinc (w := (1 : Int32)) hx hb (fun y102 => [(18, .int y102), (17, .int y101), (0, .ref (g.2.1 0)), (1, .int x1), (2, .int x2), (3, .int x3), (4, .ref (a 0)), (6, .ref (a 2)), (7, .ref (a 3)), (8, .ref (a 4)), (9, .ref (a 5)), (10, .ref (a 6)), (11, .ref (a 8)), (12, .ref (a 9)), (13, .ref (a 10)), (15, .int x15), (16, .int x16)]) 225 dL_entry_225 hl (k := 16) rfl (by decide) (by decide) (fun _ => rfl) hpf (fun y102 ls hl hpf => ?_)
            refine lv_goto (tgt := 145) hx hb dL_entry_228 (by decide) ?_
            exact ih_145 x1 x2 x3 x15 x16 y101 y102 S L C D hCD H locs I ls (lv_sub hl [2, 3, 4, 5, 6, 7, 8, 9, 10, 11, 12, 13, 14, 15, 16, 1, 0] rfl) hpf
          have hC_208 : ∀ (t0 : Int32) (x1 : Int32) (x2 : Int32) (x3 : Int32) (x16 : Int32) (x17 : Int32) (x18 : Int32) (x19 : Int32) (S : kS) (L : lS) (C D : Nat) (hCD : C ≤ 800 ∧ D ≤ 5000) (H : Heap) (locs : List Loc), lV dC dI g a (lFr g a Si Li sz) s Si S L H locs → ∀ ls : Array Slot, lv_has ls 20 [(0, .ref (g.2.1 0)), (1, .int x1), (2, .int x2), (3, .int x3), (4, .ref (a 0)), (6, .ref (a 2)), (7, .ref (a 3)), (8, .ref (a 4)), (9, .ref (a 5)), (10, .ref (a 6)), (11, .ref (a 8)), (12, .ref (a 9)), (13, .ref (a 10)), (16, .int x16), (17, .int x17), (18, .int x18), (19, .int x19)] → pL_entry_208 N (pL_entry_145 N (pL_entry_231 N (pL_entry_125 N (pL_entry_276 N) n_125)) n_145) t0 x1 x2 x3 x16 x17 x18 x19 S L C D = some (r, Sf, Lf) → W p l e (lRm 10 373 800 5000) s m args below meth c H locs C D (MQ below (lQ dC dI g a sz Si Li (qI r) Sf Lf) args s 800 5000 (lFr g a Si Li sz)) (F0 m 208 ls [.int t0]) := by
            intro t0 x1 x2 x3 x16 x17 x18 x19 S L C D hCD H locs I ls hl hpf
            unfold pL_entry_208 at hpf
            refine lv_istore (lv' := [(15, .int t0), (0, .ref (g.2.1 0)), (1, .int x1), (2, .int x2), (3, .int x3), (4, .ref (a 0)), (6, .ref (a 2)), (7, .ref (a 3)), (8, .ref (a 4)), (9, .ref (a 5)), (10, .ref (a 6)), (11, .ref (a 8)), (12, .ref (a 9)), (13, .ref (a 10)), (16, .int x16), (17, .int x17), (18, .int x18), (19, .int x19)]) hx hb dL_entry_208 hl (by decide) rfl (fun ls hl => ?_)
            refine lv_iload hx hb dL_entry_210 (lv_at hl 15 rfl) ?_
            refine lv_iload hx hb dL_entry_212 (lv_at hl 17 rfl) ?_
            refine b_if_eq hx hb 221 214 dL_entry_214 (by decide) hpf (fun hpf => ?_) (fun hpf => ?_)
            · refine lv_iconst (v := (0 : Int32)) hx hb dL_entry_221 (by decide) ?_
              exact hC_222 (0 : Int32) x17 x1 x2 x3 t0 x16 x18 S L C D hCD H locs I ls (lv_sub hl [1, 2, 3, 4, 5, 6, 7, 8, 9, 10, 11, 12, 13, 0, 14, 16] rfl) hpf
            refine lv_iconst (v := (1 : Int32)) hx hb dL_entry_217 (by decide) ?_
            refine lv_goto (tgt := 222) hx hb dL_entry_218 (by decide) ?_
            exact hC_222 (1 : Int32) x17 x1 x2 x3 t0 x16 x18 S L C D hCD H locs I ls (lv_sub hl [1, 2, 3, 4, 5, 6, 7, 8, 9, 10, 11, 12, 13, 0, 14, 16] rfl) hpf
          have hC_176 : ∀ (t0 : Int32) (x1 : Int32) (x2 : Int32) (x3 : Int32) (x15 : Int32) (x16 : Int32) (x17 : Int32) (x18 : Int32) (S : kS) (L : lS) (C D : Nat) (hCD : C ≤ 800 ∧ D ≤ 5000) (H : Heap) (locs : List Loc), lV dC dI g a (lFr g a Si Li sz) s Si S L H locs → ∀ ls : Array Slot, lv_has ls 20 [(0, .ref (g.2.1 0)), (1, .int x1), (2, .int x2), (3, .int x3), (4, .ref (a 0)), (6, .ref (a 2)), (7, .ref (a 3)), (8, .ref (a 4)), (9, .ref (a 5)), (10, .ref (a 6)), (11, .ref (a 8)), (12, .ref (a 9)), (13, .ref (a 10)), (15, .int x15), (16, .int x16), (17, .int x17), (18, .int x18)] → pL_entry_176 N (pL_entry_145 N (pL_entry_231 N (pL_entry_125 N (pL_entry_276 N) n_125)) n_145) t0 x1 x2 x3 x15 x16 x17 x18 S L C D = some (r, Sf, Lf) → W p l e (lRm 10 373 800 5000) s m args below meth c H locs C D (MQ below (lQ dC dI g a sz Si Li (qI r) Sf Lf) args s 800 5000 (lFr g a Si Li sz)) (F0 m 176 ls [.int t0]) := by
            intro t0 x1 x2 x3 x15 x16 x17 x18 S L C D hCD H locs I ls hl hpf
            unfold pL_entry_176 at hpf
            refine lv_istore (lv' := [(19, .int t0), (0, .ref (g.2.1 0)), (1, .int x1), (2, .int x2), (3, .int x3), (4, .ref (a 0)), (6, .ref (a 2)), (7, .ref (a 3)), (8, .ref (a 4)), (9, .ref (a 5)), (10, .ref (a 6)), (11, .ref (a 8)), (12, .ref (a 9)), (13, .ref (a 10)), (15, .int x15), (16, .int x16), (17, .int x17), (18, .int x18)]) hx hb dL_entry_176 hl (by decide) rfl (fun ls hl => ?_)
            refine lv_iload hx hb dL_entry_178 (lv_at hl 14 rfl) ?_
            refine b_if_eq hx hb 207 180 dL_entry_180 (by decide) hpf (fun hpf => ?_) (fun hpf => ?_)
            · refine lv_iconst (v := (0 : Int32)) hx hb dL_entry_207 (by decide) ?_
              exact hC_208 (0 : Int32) x1 x2 x3 x16 x17 x18 t0 S L C D hCD H locs I ls (lv_sub hl [1, 2, 3, 4, 5, 6, 7, 8, 9, 10, 11, 12, 13, 15, 16, 17, 0] rfl) hpf
            refine lv_iload hx hb dL_entry_183 (lv_at hl 0 rfl) ?_
            refine b_if_eq hx hb 203 185 dL_entry_185 (by decide) hpf (fun hpf => ?_) (fun hpf => ?_)
            · refine lv_iconst (v := (1 : Int32)) hx hb dL_entry_203 (by decide) ?_
              refine lv_goto (tgt := 208) hx hb dL_entry_204 (by decide) ?_
              exact hC_208 (1 : Int32) x1 x2 x3 x16 x17 x18 t0 S L C D hCD H locs I ls (lv_sub hl [1, 2, 3, 4, 5, 6, 7, 8, 9, 10, 11, 12, 13, 15, 16, 17, 0] rfl) hpf
            refine lv_aload_n hx hb dL_entry_188 rfl (lv_at hl 1 rfl) ?_
            refine lv_iload_n hx hb dL_entry_189 rfl (lv_at hl 2 rfl) ?_
            refine lv_iload_n hx hb dL_entry_190 rfl (lv_at hl 3 rfl) ?_
            refine lv_iload hx hb dL_entry_191 (lv_at hl 15 rfl) ?_
            refine lv_iload hx hb dL_entry_193 (lv_at hl 16 rfl) ?_
            refine l_cX (rest := []) (As := [.int x1, .int x2, .int x16, .int x17]) X I fX_valueAt (c_X9_valueAt l hlt N x1 x2 x16 x17) ⟨Nat.le_of_ble_eq_true rfl, Nat.le_of_ble_eq_true rfl⟩ 195 dL_entry_195 rfl hl.1 ⟨Nat.le_refl _, Nat.le_refl _⟩ rfl (Nat.le_of_ble_eq_true rfl) hpf (fun v101 S102 C103 D104 hCD H locs I hpf => ?_)
            refine lv_iload hx hb dL_entry_198 (lv_at hl 17 rfl) ?_
            refine b_icmp_ne hx hb 207 200 dL_entry_200 (by decide) hpf (fun hpf => ?_) (fun hpf => ?_)
            · refine lv_iconst (v := (0 : Int32)) hx hb dL_entry_207 (by decide) ?_
              exact hC_208 (0 : Int32) x1 x2 x3 x16 x17 x18 t0 S102 L C103 D104 hCD H locs I ls (lv_sub hl [1, 2, 3, 4, 5, 6, 7, 8, 9, 10, 11, 12, 13, 15, 16, 17, 0] rfl) hpf
            refine lv_iconst (v := (1 : Int32)) hx hb dL_entry_203 (by decide) ?_
            refine lv_goto (tgt := 208) hx hb dL_entry_204 (by decide) ?_
            exact hC_208 (1 : Int32) x1 x2 x3 x16 x17 x18 t0 S102 L C103 D104 hCD H locs I ls (lv_sub hl [1, 2, 3, 4, 5, 6, 7, 8, 9, 10, 11, 12, 13, 15, 16, 17, 0] rfl) hpf
          intro x1 x2 x3 x15 x16 x17 x18 S L C D hCD H locs I ls hl hpf
          rw [pL_entry_145] at hpf
          refine lv_iload hx hb dL_entry_145 (lv_at hl 16 rfl) ?_
          refine lv_bipush (v := (60 : Int32)) hx hb dL_entry_147 (by decide) ?_
          refine b_icmp_ge hx hb 231 149 dL_entry_149 (by decide) hpf (fun hpf => ?_) (fun hpf => ?_)
          · exact hC_231 x1 x2 x3 x15 x16 x17 S L C D hCD H locs I ls (lv_sub hl [0, 1, 2, 3, 4, 5, 6, 7, 8, 9, 10, 11, 12, 13, 14, 15] rfl) hpf
          refine lv_aload hx hb dL_entry_152 (lv_at hl 12 rfl) ?_
          refine lv_iconst (v := (3 : Int32)) hx hb dL_entry_154 (by decide) ?_
          refine lv_iload_n hx hb dL_entry_155 rfl (lv_at hl 2 rfl) ?_
          refine lv_imul hx hb dL_entry_156 ?_
          refine lv_iload hx hb dL_entry_157 (lv_at hl 14 rfl) ?_
          refine lv_iadd hx hb dL_entry_159 ?_
          refine l_lald X I lR_10 160 dL_entry_160 hpf (fun hpf => ?_)
          refine lv_iload hx hb dL_entry_161 (lv_at hl 16 rfl) ?_
          refine lv_lshr hx hb dL_entry_163 rfl ?_
          refine lv_lconst (v := (1 : Int64)) hx hb dL_entry_164 (by decide) ?_
          refine lv_land hx hb dL_entry_165 ?_
          refine lv_lconst (v := (1 : Int64)) hx hb dL_entry_166 (by decide) ?_
          refine W.lcmp hx hb dL_entry_167 ?_
          refine b_if_ne hx hb 175 168 dL_entry_168 (by decide) hpf (fun hpf => ?_) (fun hpf => ?_)
          · refine lv_iconst (v := (0 : Int32)) hx hb dL_entry_175 (by decide) ?_
            exact hC_176 (0 : Int32) x1 x2 x3 x15 x16 x17 x18 S L C D hCD H locs I ls (lv_sub hl [0, 1, 2, 3, 4, 5, 6, 7, 8, 9, 10, 11, 12, 13, 14, 15, 16] rfl) hpf
          refine lv_iconst (v := (1 : Int32)) hx hb dL_entry_171 (by decide) ?_
          refine lv_goto (tgt := 176) hx hb dL_entry_172 (by decide) ?_
          exact hC_176 (1 : Int32) x1 x2 x3 x15 x16 x17 x18 S L C D hCD H locs I ls (lv_sub hl [0, 1, 2, 3, 4, 5, 6, 7, 8, 9, 10, 11, 12, 13, 14, 15, 16] rfl) hpf
      intro x1 x2 x3 x15 x16 S L C D hCD H locs I ls hl hpf
      rw [pL_entry_125] at hpf
      refine lv_iload hx hb dL_entry_125 (lv_at hl 14 rfl) ?_
      refine lv_aload hx hb dL_entry_127 (lv_at hl 4 rfl) ?_
      refine lv_iconst (v := (2 : Int32)) hx hb dL_entry_129 (by decide) ?_
      refine l_iald X I lR_0 130 dL_entry_130 hpf (fun hpf => ?_)
      refine b_icmp_ge hx hb 276 131 dL_entry_131 (by decide) hpf (fun hpf => ?_) (fun hpf => ?_)
      · exact hC_276 x1 x2 x3 x15 S L C D hCD H locs I ls (lv_sub hl [0, 1, 2, 3, 4, 5, 6, 7, 8, 9, 10, 11, 12, 13] rfl) hpf
      refine lv_iload hx hb dL_entry_134 (lv_at hl 13 rfl) ?_
      refine b_if_eq hx hb 276 136 dL_entry_136 (by decide) hpf (fun hpf => ?_) (fun hpf => ?_)
      · exact hC_276 x1 x2 x3 x15 S L C D hCD H locs I ls (lv_sub hl [0, 1, 2, 3, 4, 5, 6, 7, 8, 9, 10, 11, 12, 13] rfl) hpf
      refine lv_iconst (v := (0 : Int32)) hx hb dL_entry_139 (by decide) ?_
      refine lv_istore (lv' := [(17, .int (0 : Int32)), (0, .ref (g.2.1 0)), (1, .int x1), (2, .int x2), (3, .int x3), (4, .ref (a 0)), (6, .ref (a 2)), (7, .ref (a 3)), (8, .ref (a 4)), (9, .ref (a 5)), (10, .ref (a 6)), (11, .ref (a 8)), (12, .ref (a 9)), (13, .ref (a 10)), (15, .int x15), (16, .int x16)]) hx hb dL_entry_140 hl (by decide) rfl (fun ls hl => ?_)
      refine lv_iconst (v := (0 : Int32)) hx hb dL_entry_142 (by decide) ?_
      refine lv_istore (lv' := [(18, .int (0 : Int32)), (17, .int (0 : Int32)), (0, .ref (g.2.1 0)), (1, .int x1), (2, .int x2), (3, .int x3), (4, .ref (a 0)), (6, .ref (a 2)), (7, .ref (a 3)), (8, .ref (a 4)), (9, .ref (a 5)), (10, .ref (a 6)), (11, .ref (a 8)), (12, .ref (a 9)), (13, .ref (a 10)), (15, .int x15), (16, .int x16)]) hx hb dL_entry_143 hl (by decide) rfl (fun ls hl => ?_)
      exact hC_145 N x1 x2 x3 x15 x16 (0 : Int32) (0 : Int32) S L C D hCD H locs I ls (lv_sub hl [2, 3, 4, 5, 6, 7, 8, 9, 10, 11, 12, 13, 14, 15, 16, 1, 0] rfl) hpf
  have hC_120 : ∀ (t0 : Int32) (x1 : Int32) (x2 : Int32) (x3 : Int32) (S : kS) (L : lS) (C D : Nat) (hCD : C ≤ 800 ∧ D ≤ 5000) (H : Heap) (locs : List Loc), lV dC dI g a (lFr g a Si Li sz) s Si S L H locs → ∀ ls : Array Slot, lv_has ls 20 [(0, .ref (g.2.1 0)), (1, .int x1), (2, .int x2), (3, .int x3), (4, .ref (a 0)), (6, .ref (a 2)), (7, .ref (a 3)), (8, .ref (a 4)), (9, .ref (a 5)), (10, .ref (a 6)), (11, .ref (a 8)), (12, .ref (a 9)), (13, .ref (a 10))] → pL_entry_120 N t0 x1 x2 x3 S L C D = some (r, Sf, Lf) → W p l e (lRm 10 373 800 5000) s m args below meth c H locs C D (MQ below (lQ dC dI g a sz Si Li (qI r) Sf Lf) args s 800 5000 (lFr g a Si Li sz)) (F0 m 120 ls [.int t0]) := by
    intro t0 x1 x2 x3 S L C D hCD H locs I ls hl hpf
    unfold pL_entry_120 at hpf
    refine lv_istore (lv' := [(15, .int t0), (0, .ref (g.2.1 0)), (1, .int x1), (2, .int x2), (3, .int x3), (4, .ref (a 0)), (6, .ref (a 2)), (7, .ref (a 3)), (8, .ref (a 4)), (9, .ref (a 5)), (10, .ref (a 6)), (11, .ref (a 8)), (12, .ref (a 9)), (13, .ref (a 10))]) hx hb dL_entry_120 hl (by decide) rfl (fun ls hl => ?_)
    refine lv_iconst (v := (0 : Int32)) hx hb dL_entry_122 (by decide) ?_
    refine lv_istore (lv' := [(16, .int (0 : Int32)), (15, .int t0), (0, .ref (g.2.1 0)), (1, .int x1), (2, .int x2), (3, .int x3), (4, .ref (a 0)), (6, .ref (a 2)), (7, .ref (a 3)), (8, .ref (a 4)), (9, .ref (a 5)), (10, .ref (a 6)), (11, .ref (a 8)), (12, .ref (a 9)), (13, .ref (a 10))]) hx hb dL_entry_123 hl (by decide) rfl (fun ls hl => ?_)
    exact hC_125 N x1 x2 x3 t0 (0 : Int32) S L C D hCD H locs I ls (lv_sub hl [2, 3, 4, 5, 6, 7, 8, 9, 10, 11, 12, 13, 14, 1, 0] rfl) hpf
  refine lv_aload hx hb dL_entry_0 (lv_at hl 12 rfl) ?_
  refine lv_iconst (v := (3 : Int32)) hx hb dL_entry_2 (by decide) ?_
  refine lv_iload_n hx hb dL_entry_3 rfl (lv_at hl 2 rfl) ?_
  refine lv_imul hx hb dL_entry_4 ?_
  refine l_iald X I lR_9 5 dL_entry_5 hpf (fun hpf => ?_)
  refine lv_iconst (v := (1 : Int32)) hx hb dL_entry_6 (by decide) ?_
  refine b_icmp_eq hx hb 31 7 dL_entry_7 (by decide) hpf (fun hpf => ?_) (fun hpf => ?_)
  · refine lv_iload_n hx hb dL_entry_31 rfl (lv_at hl 2 rfl) ?_
    refine lv_aload hx hb dL_entry_32 (lv_at hl 12 rfl) ?_
    refine l_cAI (rest := []) (As := [.int x2, .ref (a 9)]) X I fL_place (c_L_place l hlt N x2) rfl ⟨Nat.le_of_ble_eq_true rfl, Nat.le_of_ble_eq_true rfl⟩ 34 dL_entry_34 rfl hl.1 rfl (Nat.le_of_ble_eq_true rfl) hCD hpf (fun v101 L102 H locs I hpf => ?_)
    refine lv_istore (lv' := [(14, .int v101), (0, .ref (g.2.1 0)), (1, .int x1), (2, .int x2), (3, .int x3), (4, .ref (a 0)), (5, .ref (a 1)), (6, .ref (a 2)), (7, .ref (a 3)), (8, .ref (a 4)), (9, .ref (a 5)), (10, .ref (a 6)), (11, .ref (a 8)), (12, .ref (a 9)), (13, .ref (a 10))]) hx hb dL_entry_37 hl (by decide) rfl (fun ls hl => ?_)
    refine lv_aload_n hx hb dL_entry_39 rfl (lv_at hl 1 rfl) ?_
    refine lv_iload_n hx hb dL_entry_40 rfl (lv_at hl 2 rfl) ?_
    refine lv_iload_n hx hb dL_entry_41 rfl (lv_at hl 3 rfl) ?_
    refine l_cX (rest := []) (As := [.int x1, .int x2]) X I fX_parentOf (c_X9_parentOf l hlt N x1 x2) ⟨Nat.le_of_ble_eq_true rfl, Nat.le_of_ble_eq_true rfl⟩ 42 dL_entry_42 rfl hl.1 ⟨Nat.le_refl _, Nat.le_refl _⟩ rfl (Nat.le_of_ble_eq_true rfl) hpf (fun v103 S104 C105 D106 hCD H locs I hpf => ?_)
    refine lv_iload hx hb dL_entry_45 (lv_at hl 0 rfl) ?_
    refine b_icmp_ne hx hb 119 47 dL_entry_47 (by decide) hpf (fun hpf => ?_) (fun hpf => ?_)
    · refine lv_iconst (v := (0 : Int32)) hx hb dL_entry_119 (by decide) ?_
      exact hC_120 (0 : Int32) x1 x2 x3 S104 L102 C105 D106 hCD H locs I ls (lv_sub hl [1, 2, 3, 4, 5, 7, 8, 9, 10, 11, 12, 13, 14] rfl) hpf
    refine lv_aload_n hx hb dL_entry_50 rfl (lv_at hl 1 rfl) ?_
    refine lv_iload_n hx hb dL_entry_51 rfl (lv_at hl 2 rfl) ?_
    refine lv_iload_n hx hb dL_entry_52 rfl (lv_at hl 3 rfl) ?_
    refine l_cX (rest := []) (As := [.int x1, .int x2]) X I fX_parentAnew (c_X9_parentAnew l hlt N x1 x2) ⟨Nat.le_of_ble_eq_true rfl, Nat.le_of_ble_eq_true rfl⟩ 53 dL_entry_53 rfl hl.1 ⟨Nat.le_refl _, Nat.le_refl _⟩ rfl (Nat.le_of_ble_eq_true rfl) hpf (fun v107 S108 C109 D110 hCD H locs I hpf => ?_)
    refine lv_iload hx hb dL_entry_56 (lv_at hl 0 rfl) ?_
    refine b_icmp_ne hx hb 119 58 dL_entry_58 (by decide) hpf (fun hpf => ?_) (fun hpf => ?_)
    · refine lv_iconst (v := (0 : Int32)) hx hb dL_entry_119 (by decide) ?_
      exact hC_120 (0 : Int32) x1 x2 x3 S108 L102 C109 D110 hCD H locs I ls (lv_sub hl [1, 2, 3, 4, 5, 7, 8, 9, 10, 11, 12, 13, 14] rfl) hpf
    refine lv_aload_n hx hb dL_entry_61 rfl (lv_at hl 1 rfl) ?_
    refine lv_iload_n hx hb dL_entry_62 rfl (lv_at hl 2 rfl) ?_
    refine lv_iload_n hx hb dL_entry_63 rfl (lv_at hl 3 rfl) ?_
    refine l_cX (rest := []) (As := [.int x1, .int x2]) X I fX_nameOf (c_X9_nameOf l hlt N x1 x2) ⟨Nat.le_of_ble_eq_true rfl, Nat.le_of_ble_eq_true rfl⟩ 64 dL_entry_64 rfl hl.1 ⟨Nat.le_refl _, Nat.le_refl _⟩ rfl (Nat.le_of_ble_eq_true rfl) hpf (fun v111 S112 C113 D114 hCD H locs I hpf => ?_)
    refine lv_iload_n hx hb dL_entry_67 rfl (lv_at hl 2 rfl) ?_
    refine lv_iload_n hx hb dL_entry_68 rfl (lv_at hl 3 rfl) ?_
    refine lv_aload hx hb dL_entry_69 (lv_at hl 5 rfl) ?_
    refine lv_aload hx hb dL_entry_71 (lv_at hl 7 rfl) ?_
    refine lv_aload hx hb dL_entry_73 (lv_at hl 8 rfl) ?_
    refine lv_aload hx hb dL_entry_75 (lv_at hl 9 rfl) ?_
    refine lv_aload hx hb dL_entry_77 (lv_at hl 10 rfl) ?_
    refine lv_aload hx hb dL_entry_79 (lv_at hl 12 rfl) ?_
    refine lv_aload hx hb dL_entry_81 (lv_at hl 13 rfl) ?_
    refine l_cAI (rest := [.int v111]) (As := [.int x1, .int x2, .ref (a 0), .ref (a 2), .ref (a 3), .ref (a 4), .ref (a 5), .ref (a 8), .ref (a 9)]) X I fL_shown (c_L_shown l hlt N x1 x2) rfl ⟨Nat.le_of_ble_eq_true rfl, Nat.le_of_ble_eq_true rfl⟩ 83 dL_entry_83 rfl hl.1 rfl (Nat.le_of_ble_eq_true rfl) hCD hpf (fun v115 L116 H locs I hpf => ?_)
    refine b_icmp_ne hx hb 119 86 dL_entry_86 (by decide) hpf (fun hpf => ?_) (fun hpf => ?_)
    · refine lv_iconst (v := (0 : Int32)) hx hb dL_entry_119 (by decide) ?_
      exact hC_120 (0 : Int32) x1 x2 x3 S112 L116 C113 D114 hCD H locs I ls (lv_sub hl [1, 2, 3, 4, 5, 7, 8, 9, 10, 11, 12, 13, 14] rfl) hpf
    refine lv_aload_n hx hb dL_entry_89 rfl (lv_at hl 1 rfl) ?_
    refine lv_iload_n hx hb dL_entry_90 rfl (lv_at hl 2 rfl) ?_
    refine lv_iload_n hx hb dL_entry_91 rfl (lv_at hl 3 rfl) ?_
    refine l_cX (rest := []) (As := [.int x1, .int x2]) X I fX_linkOf (c_X9_linkOf l hlt N x1 x2) ⟨Nat.le_of_ble_eq_true rfl, Nat.le_of_ble_eq_true rfl⟩ 92 dL_entry_92 rfl hl.1 ⟨Nat.le_refl _, Nat.le_refl _⟩ rfl (Nat.le_of_ble_eq_true rfl) hpf (fun v117 S118 C119 D120 hCD H locs I hpf => ?_)
    refine lv_iload_n hx hb dL_entry_95 rfl (lv_at hl 2 rfl) ?_
    refine lv_iload_n hx hb dL_entry_96 rfl (lv_at hl 3 rfl) ?_
    refine lv_aload hx hb dL_entry_97 (lv_at hl 5 rfl) ?_
    refine lv_aload hx hb dL_entry_99 (lv_at hl 7 rfl) ?_
    refine lv_aload hx hb dL_entry_101 (lv_at hl 8 rfl) ?_
    refine lv_aload hx hb dL_entry_103 (lv_at hl 9 rfl) ?_
    refine lv_aload hx hb dL_entry_105 (lv_at hl 10 rfl) ?_
    refine lv_aload hx hb dL_entry_107 (lv_at hl 12 rfl) ?_
    refine l_cAI (rest := [.int v117]) (As := [.int x1, .int x2, .ref (a 0), .ref (a 2), .ref (a 3), .ref (a 4), .ref (a 5), .ref (a 8)]) X I fL_link (c_L_link l hlt N x1 x2) rfl ⟨Nat.le_of_ble_eq_true rfl, Nat.le_of_ble_eq_true rfl⟩ 109 dL_entry_109 rfl hl.1 rfl (Nat.le_of_ble_eq_true rfl) hCD hpf (fun v121 L122 H locs I hpf => ?_)
    refine b_icmp_ne hx hb 119 112 dL_entry_112 (by decide) hpf (fun hpf => ?_) (fun hpf => ?_)
    · refine lv_iconst (v := (0 : Int32)) hx hb dL_entry_119 (by decide) ?_
      exact hC_120 (0 : Int32) x1 x2 x3 S118 L122 C119 D120 hCD H locs I ls (lv_sub hl [1, 2, 3, 4, 5, 7, 8, 9, 10, 11, 12, 13, 14] rfl) hpf
    refine lv_iconst (v := (1 : Int32)) hx hb dL_entry_115 (by decide) ?_
    refine lv_goto (tgt := 120) hx hb dL_entry_116 (by decide) ?_
    exact hC_120 (1 : Int32) x1 x2 x3 S118 L122 C119 D120 hCD H locs I ls (lv_sub hl [1, 2, 3, 4, 5, 7, 8, 9, 10, 11, 12, 13, 14] rfl) hpf
  refine lv_aload_n hx hb dL_entry_10 rfl (lv_at hl 0 rfl) ?_
  refine lv_bipush (v := (9 : Int32)) hx hb dL_entry_11 (by decide) ?_
  refine lv_iload_n hx hb dL_entry_13 rfl (lv_at hl 1 rfl) ?_
  refine lv_iload_n hx hb dL_entry_14 rfl (lv_at hl 2 rfl) ?_
  refine lv_iconst (v := (0 : Int32)) hx hb dL_entry_15 (by decide) ?_
  refine lv_iconst (v := (0 : Int32)) hx hb dL_entry_16 (by decide) ?_
  refine l_cBW (rest := []) (As := [.ref (g.2.1 0), .int (9 : Int32), .int x1, .int x2, .int (0 : Int32), .int (0 : Int32)]) X I fL_calls (c_L_calls l hlt N (9 : Int32) x1 x2 (0 : Int32) (0 : Int32)) rfl ⟨Nat.le_of_ble_eq_true rfl, Nat.le_of_ble_eq_true rfl⟩ 17 dL_entry_17 rfl hl.1 rfl (Nat.le_of_ble_eq_true rfl) ⟨Nat.le_refl _, Nat.le_refl _⟩ hpf (fun v123 S124 L125 C126 D127 hCD H locs I hpf => ?_)
  refine lv_bipush (v := (-9 : Int32)) hx hb dL_entry_20 (by decide) ?_
  refine b_icmp_ne hx hb 29 22 dL_entry_22 (by decide) hpf (fun hpf => ?_) (fun hpf => ?_)
  · refine lv_iconst (v := (0 : Int32)) hx hb dL_entry_29 (by decide) ?_
    exact l_retzB X I hr 30 dL_entry_30 hpf
  refine lv_iconst (v := (1 : Int32)) hx hb dL_entry_25 (by decide) ?_
  refine lv_goto (tgt := 30) hx hb dL_entry_26 (by decide) ?_
  exact l_retzB X I hr 30 dL_entry_30 hpf
-- ===== the law's master =====
noncomputable def pL_master_497 (N : Nat) (x1 : Int32) (x17 : Int32) (x18 : Int32) (x19 : Int32) (S : kS) (L : lS) (C : Nat) (D : Nat) : Option (Int32 × kS × lS) :=
    if x17 = (0 : Int32) then (
      zlB 60 360 C D (0 : Int32) S L)
    else (
      lbx 3 18 60 360 C D (pX9_childAt N x1 x18 x19 S) fun v101 S102 C103 D104 =>
      if v101 = (-1 : Int32) then (
        zlB 60 360 C103 D104 (1 : Int32) S102 L)
      else (
        zlB 60 360 C103 D104 (0 : Int32) S102 L))
noncomputable def pL_master_491 (N : Nat) (k_385 : Int32 → Int32 → Int32 → Int32 → Int32 → kS → lS → Nat → Nat → Option (Int32 × kS × lS)) (x1 : Int32) (x17 : Int32) (x18 : Int32) (x19 : Int32) (x20 : Int32) (S : kS) (L : lS) (C : Nat) (D : Nat) : Option (Int32 × kS × lS) :=
    nm (x20 + (1 : Int32)) fun y101 =>
    k_385 x1 x17 x18 x19 y101 S L C D
noncomputable def pL_master_485 (N : Nat) (k_401 : Int32 → Int32 → Int32 → Int32 → Int32 → Int32 → kS → lS → Nat → Nat → Option (Int32 × kS × lS)) (x1 : Int32) (x17 : Int32) (x18 : Int32) (x19 : Int32) (x20 : Int32) (x21 : Int32) (S : kS) (L : lS) (C : Nat) (D : Nat) : Option (Int32 × kS × lS) :=
    nm (x21 + (1 : Int32)) fun y101 =>
    k_401 x1 x17 x18 x19 x20 y101 S L C D
noncomputable def pL_master_480 (N : Nat) (k_401 : Int32 → Int32 → Int32 → Int32 → Int32 → Int32 → kS → lS → Nat → Nat → Option (Int32 × kS × lS)) (t0 : Int32) (x1 : Int32) (x18 : Int32) (x19 : Int32) (x20 : Int32) (x21 : Int32) (S : kS) (L : lS) (C : Nat) (D : Nat) : Option (Int32 × kS × lS) :=
    nm (x19 + (1 : Int32)) fun y101 =>
    pL_master_485 N k_401 x1 t0 x18 y101 x20 x21 S L C D
noncomputable def pL_master_401 (N : Nat) (k_491 : Int32 → Int32 → Int32 → Int32 → Int32 → kS → lS → Nat → Nat → Option (Int32 × kS × lS)) : Nat → Int32 → Int32 → Int32 → Int32 → Int32 → Int32 → kS → lS → Nat → Nat → Option (Int32 × kS × lS)
  | 0 => fun _ _ _ _ _ _ _ _ _ _ => none
  | n_401 + 1 => fun x1 x17 x18 x19 x20 x21 S L C D =>
    gd (0 : Int32) 20 <|
    if (aI L 0 (0 : Int32).toNatClampNeg) ≤ x21 then (
      k_491 x1 x17 x18 x19 x20 S L C D)
    else (
      gd ((3 : Int32) * x21) 36 <|
      if (aI L 9 ((3 : Int32) * x21).toNatClampNeg) = (1 : Int32) then (
        lba (pL_place N x21 L) fun v101 L102 =>
        if v101 = x18 then (
          lba (pL_shown N x1 x21 L102) fun v103 L104 =>
          if v103 = x20 then (
            if x17 = (0 : Int32) then (
              pL_master_480 N (pL_master_401 N k_491 n_401) (0 : Int32) x1 x18 x19 x20 x21 S L104 C D)
            else (
              lbx 3 18 60 360 C D (pX9_childAt N x1 x18 x19 S) fun v105 S106 C107 D108 =>
              if v105 = x21 then (
                pL_master_480 N (pL_master_401 N k_491 n_401) (1 : Int32) x1 x18 x19 x20 x21 S106 L104 C107 D108)
              else (
                pL_master_480 N (pL_master_401 N k_491 n_401) (0 : Int32) x1 x18 x19 x20 x21 S106 L104 C107 D108)))
          else (
            pL_master_485 N (pL_master_401 N k_491 n_401) x1 x17 x18 x19 x20 x21 S L104 C D))
        else (
          pL_master_485 N (pL_master_401 N k_491 n_401) x1 x17 x18 x19 x20 x21 S L102 C D))
      else (
        pL_master_485 N (pL_master_401 N k_491 n_401) x1 x17 x18 x19 x20 x21 S L C D))
noncomputable def pL_master_385 (N : Nat) (k_497 : Int32 → Int32 → Int32 → Int32 → kS → lS → Nat → Nat → Option (Int32 × kS × lS)) : Nat → Int32 → Int32 → Int32 → Int32 → Int32 → kS → lS → Nat → Nat → Option (Int32 × kS × lS)
  | 0 => fun _ _ _ _ _ _ _ _ _ => none
  | n_385 + 1 => fun x1 x17 x18 x19 x20 S L C D =>
    if (148 : Int32) ≤ x20 then (
      k_497 x1 x17 x18 x19 S L C D)
    else (
      if x17 = (0 : Int32) then (
        k_497 x1 x17 x18 x19 S L C D)
      else (
        pL_master_401 N (pL_master_491 N (pL_master_385 N k_497 n_385)) N x1 x17 x18 x19 x20 (1 : Int32) S L C D))
noncomputable def pL_master_377 (N : Nat) (t0 : Int32) (x1 : Int32) (x17 : Int32) (S : kS) (L : lS) (C : Nat) (D : Nat) : Option (Int32 × kS × lS) :=
    pL_master_385 N (pL_master_497 N) N x1 x17 t0 (0 : Int32) (0 : Int32) S L C D
noncomputable def pL_master_336 (N : Nat) (x1 : Int32) (x2 : Int32) (x17 : Int32) (S : kS) (L : lS) (C : Nat) (D : Nat) : Option (Int32 × kS × lS) :=
    gd (0 : Int32) 20 <|
    lba (pL_low N x2 ((aI L 0 (0 : Int32).toNatClampNeg) + (1 : Int32)) L) fun v101 L102 =>
    nm (v101 - (2 : Int32)) fun y103 =>
    if y103 = (-1 : Int32) then (
      pL_master_377 N (0 : Int32) x1 x17 S L102 C D)
    else (
      if y103 < (0 : Int32) then (
        pL_master_377 N y103 x1 x17 S L102 C D)
      else (
        gd ((3 : Int32) * y103) 36 <|
        if (aI L102 9 ((3 : Int32) * y103).toNatClampNeg) = (1 : Int32) then (
          pL_master_377 N y103 x1 x17 S L102 C D)
        else (
          pL_master_377 N (0 : Int32) x1 x17 S L102 C D)))
noncomputable def pL_master_328 (N : Nat) (k_292 : Int32 → Int32 → Int32 → Int32 → kS → lS → Nat → Nat → Option (Int32 × kS × lS)) (t0 : Int32) (x1 : Int32) (x2 : Int32) (x18 : Int32) (S : kS) (L : lS) (C : Nat) (D : Nat) : Option (Int32 × kS × lS) :=
    nm (x18 + (1 : Int32)) fun y101 =>
    k_292 x1 x2 t0 y101 S L C D
noncomputable def pL_master_292 (N : Nat) (k_336 : Int32 → Int32 → Int32 → kS → lS → Nat → Nat → Option (Int32 × kS × lS)) : Nat → Int32 → Int32 → Int32 → Int32 → kS → lS → Nat → Nat → Option (Int32 × kS × lS)
  | 0 => fun _ _ _ _ _ _ _ _ => none
  | n_292 + 1 => fun x1 x2 x17 x18 S L C D =>
    if (4 : Int32) ≤ x18 then (
      k_336 x1 x2 x17 S L C D)
    else (
      if x17 = (0 : Int32) then (
        pL_master_328 N (pL_master_292 N k_336 n_292) (0 : Int32) x1 x2 x18 S L C D)
      else (
        lbx 2 12 60 360 C D (pX9_knows N x1 x18 S) fun v101 S102 C103 D104 =>
        gd (((20 : Int32) * x1) + x18) 64 <|
        if v101 = (aI L 8 (((20 : Int32) * x1) + x18).toNatClampNeg) then (
          pL_master_328 N (pL_master_292 N k_336 n_292) (1 : Int32) x1 x2 x18 S102 L C103 D104)
        else (
          pL_master_328 N (pL_master_292 N k_336 n_292) (0 : Int32) x1 x2 x18 S102 L C103 D104)))
noncomputable def pL_master_287 (N : Nat) (t0 : Int32) (x1 : Int32) (x2 : Int32) (S : kS) (L : lS) (C : Nat) (D : Nat) : Option (Int32 × kS × lS) :=
    pL_master_292 N (pL_master_336 N) N x1 x2 t0 (0 : Int32) S L C D
noncomputable def pL_master_218 (N : Nat) (x1 : Int32) (x2 : Int32) (x13 : Int32) (x14 : Int32) (x15 : Int32) (x16 : Int32) (S : kS) (L : lS) (C : Nat) (D : Nat) : Option (Int32 × kS × lS) :=
    lbx 1 6 60 360 C D (pX9_live N x1 S) fun v101 S102 C103 D104 =>
    if v101 = x13 then (
      lbx 2 12 60 360 C103 D104 (pX9_conflicts N x1 (0 : Int32) S102) fun v105 S106 C107 D108 =>
      if v105 = x14 then (
        lbx 2 12 60 360 C107 D108 (pX9_conflicts N x1 (1 : Int32) S106) fun v109 S110 C111 D112 =>
        if v109 = x15 then (
          lbx 2 12 60 360 C111 D112 (pX9_conflicts N x1 (2 : Int32) S110) fun v113 S114 C115 D116 =>
          if v113 = x16 then (
            lbx 1 6 60 360 C115 D116 (pX9_marks N x1 S114) fun v117 S118 C119 D120 =>
            lba (pL_marks N x1 L) fun v121 L122 =>
            if v117 = v121 then (
              pL_master_287 N (1 : Int32) x1 x2 S118 L122 C119 D120)
            else (
              pL_master_287 N (0 : Int32) x1 x2 S118 L122 C119 D120))
          else (
            pL_master_287 N (0 : Int32) x1 x2 S114 L C115 D116))
        else (
          pL_master_287 N (0 : Int32) x1 x2 S110 L C111 D112))
      else (
        pL_master_287 N (0 : Int32) x1 x2 S106 L C107 D108))
    else (
      pL_master_287 N (0 : Int32) x1 x2 S102 L C103 D104)
noncomputable def pL_master_209 (N : Nat) (k_15 : Int32 → Int32 → Int32 → Int32 → Int32 → Int32 → Int32 → kS → lS → Nat → Nat → Option (Int32 × kS × lS)) (t0 : Int32) (t1 : Int32) (x1 : Int32) (x2 : Int32) (x13 : Int32) (x14 : Int32) (x15 : Int32) (x17 : Int32) (S : kS) (L : lS) (C : Nat) (D : Nat) : Option (Int32 × kS × lS) :=
    nm (t1 + t0) fun y101 =>
    nm (x17 + (1 : Int32)) fun y102 =>
    k_15 x1 x2 x13 x14 x15 y101 y102 S L C D
noncomputable def pL_master_187 (N : Nat) (k_15 : Int32 → Int32 → Int32 → Int32 → Int32 → Int32 → Int32 → kS → lS → Nat → Nat → Option (Int32 × kS × lS)) (t0 : Int32) (t1 : Int32) (x1 : Int32) (x2 : Int32) (x13 : Int32) (x14 : Int32) (x16 : Int32) (x17 : Int32) (x18 : Int32) (S : kS) (L : lS) (C : Nat) (D : Nat) : Option (Int32 × kS × lS) :=
    nm (t1 + t0) fun y101 =>
    gd ((3 : Int32) * x17) 36 <|
    if (aI L 9 ((3 : Int32) * x17).toNatClampNeg) = (1 : Int32) then (
      pL_master_209 N k_15 x18 x16 x1 x2 x13 x14 y101 x17 S L C D)
    else (
      pL_master_209 N k_15 (0 : Int32) x16 x1 x2 x13 x14 y101 x17 S L C D)
noncomputable def pL_master_154 (N : Nat) (k_15 : Int32 → Int32 → Int32 → Int32 → Int32 → Int32 → Int32 → kS → lS → Nat → Nat → Option (Int32 × kS × lS)) (t0 : Int32) (t1 : Int32) (x1 : Int32) (x2 : Int32) (x13 : Int32) (x15 : Int32) (x16 : Int32) (x17 : Int32) (x18 : Int32) (S : kS) (L : lS) (C : Nat) (D : Nat) : Option (Int32 × kS × lS) :=
    nm (t1 + t0) fun y101 =>
    gd ((3 : Int32) * x17) 36 <|
    if (aI L 9 ((3 : Int32) * x17).toNatClampNeg) = (1 : Int32) then (
      lba (pL_place N x17 L) fun v102 L103 =>
      if v102 = (-2 : Int32) then (
        pL_master_187 N k_15 (1 : Int32) x15 x1 x2 x13 y101 x16 x17 x18 S L103 C D)
      else (
        pL_master_187 N k_15 (0 : Int32) x15 x1 x2 x13 y101 x16 x17 x18 S L103 C D))
    else (
      pL_master_187 N k_15 (0 : Int32) x15 x1 x2 x13 y101 x16 x17 x18 S L C D)
noncomputable def pL_master_109 (N : Nat) (k_15 : Int32 → Int32 → Int32 → Int32 → Int32 → Int32 → Int32 → kS → lS → Nat → Nat → Option (Int32 × kS × lS)) (t0 : Int32) (t1 : Int32) (x1 : Int32) (x2 : Int32) (x14 : Int32) (x15 : Int32) (x16 : Int32) (x17 : Int32) (x18 : Int32) (S : kS) (L : lS) (C : Nat) (D : Nat) : Option (Int32 × kS × lS) :=
    nm (t1 + t0) fun y101 =>
    gd ((3 : Int32) * x17) 36 <|
    if (aI L 9 ((3 : Int32) * x17).toNatClampNeg) = (1 : Int32) then (
      lba (pL_shown N x1 x17 L) fun v102 L103 =>
      if v102 ≤ (99 : Int32) then (
        pL_master_154 N k_15 (0 : Int32) x14 x1 x2 y101 x15 x16 x17 x18 S L103 C D)
      else (
        pL_master_154 N k_15 (1 : Int32) x14 x1 x2 y101 x15 x16 x17 x18 S L103 C D))
    else (
      pL_master_154 N k_15 (0 : Int32) x14 x1 x2 y101 x15 x16 x17 x18 S L C D)
noncomputable def pL_master_91 (N : Nat) (k_15 : Int32 → Int32 → Int32 → Int32 → Int32 → Int32 → Int32 → kS → lS → Nat → Nat → Option (Int32 × kS × lS)) (x1 : Int32) (x2 : Int32) (x13 : Int32) (x14 : Int32) (x15 : Int32) (x16 : Int32) (x17 : Int32) (x18 : Int32) (S : kS) (L : lS) (C : Nat) (D : Nat) : Option (Int32 × kS × lS) :=
    gd ((3 : Int32) * x17) 36 <|
    if (aI L 9 ((3 : Int32) * x17).toNatClampNeg) = (1 : Int32) then (
      pL_master_109 N k_15 (1 : Int32) x13 x1 x2 x14 x15 x16 x17 x18 S L C D)
    else (
      pL_master_109 N k_15 (0 : Int32) x13 x1 x2 x14 x15 x16 x17 x18 S L C D)
noncomputable def pL_master_82 (N : Nat) (k_29 : Int32 → Int32 → Int32 → Int32 → Int32 → Int32 → Int32 → Int32 → Int32 → kS → lS → Nat → Nat → Option (Int32 × kS × lS)) (t0 : Int32) (t1 : Int32) (x1 : Int32) (x2 : Int32) (x13 : Int32) (x14 : Int32) (x15 : Int32) (x16 : Int32) (x17 : Int32) (x19 : Int32) (S : kS) (L : lS) (C : Nat) (D : Nat) : Option (Int32 × kS × lS) :=
    nm (t1 ||| t0) fun y101 =>
    nm (x19 + (1 : Int32)) fun y102 =>
    k_29 x1 x2 x13 x14 x15 x16 x17 y101 y102 S L C D
noncomputable def pL_master_29 (N : Nat) (k_91 : Int32 → Int32 → Int32 → Int32 → Int32 → Int32 → Int32 → Int32 → kS → lS → Nat → Nat → Option (Int32 × kS × lS)) : Nat → Int32 → Int32 → Int32 → Int32 → Int32 → Int32 → Int32 → Int32 → Int32 → kS → lS → Nat → Nat → Option (Int32 × kS × lS)
  | 0 => fun _ _ _ _ _ _ _ _ _ _ _ _ _ => none
  | n_29 + 1 => fun x1 x2 x13 x14 x15 x16 x17 x18 x19 S L C D =>
    gd (2 : Int32) 20 <|
    if (aI L 0 (2 : Int32).toNatClampNeg) ≤ x19 then (
      k_91 x1 x2 x13 x14 x15 x16 x17 x18 S L C D)
    else (
      gd (((3 : Int32) * x17) + (1 : Int32)) 36 <|
      lba (pL_requires N (aI L 9 (((3 : Int32) * x17) + (1 : Int32)).toNatClampNeg) L) fun v101 L102 =>
      if ((v101 >>> (x19 &&& 31)) &&& (1 : Int32)) = (1 : Int32) then (
        gd (((3 : Int32) * x17) + x19) 36 <|
        if (lg_cmp (aJ L102 10 (((3 : Int32) * x17) + x19).toNatClampNeg) (0 : Int64)) = (0 : Int32) then (
          pL_master_82 N (pL_master_29 N k_91 n_29) (1 : Int32) x18 x1 x2 x13 x14 x15 x16 x17 x19 S L102 C D)
        else (
          pL_master_82 N (pL_master_29 N k_91 n_29) (0 : Int32) x18 x1 x2 x13 x14 x15 x16 x17 x19 S L102 C D))
      else (
        pL_master_82 N (pL_master_29 N k_91 n_29) (0 : Int32) x18 x1 x2 x13 x14 x15 x16 x17 x19 S L102 C D))
noncomputable def pL_master_15 (N : Nat) (k_218 : Int32 → Int32 → Int32 → Int32 → Int32 → Int32 → kS → lS → Nat → Nat → Option (Int32 × kS × lS)) : Nat → Int32 → Int32 → Int32 → Int32 → Int32 → Int32 → Int32 → kS → lS → Nat → Nat → Option (Int32 × kS × lS)
  | 0 => fun _ _ _ _ _ _ _ _ _ _ _ => none
  | n_15 + 1 => fun x1 x2 x13 x14 x15 x16 x17 S L C D =>
    gd (0 : Int32) 20 <|
    if (aI L 0 (0 : Int32).toNatClampNeg) ≤ x17 then (
      k_218 x1 x2 x13 x14 x15 x16 S L C D)
    else (
      pL_master_29 N (pL_master_91 N (pL_master_15 N k_218 n_15)) N x1 x2 x13 x14 x15 x16 x17 (0 : Int32) (0 : Int32) S L C D)
noncomputable def pL_master (N : Nat) (x1 : Int32) (x2 : Int32) (S : kS) (L : lS) : Option (Int32 × kS × lS) :=
    pL_master_15 N (pL_master_218 N) N x1 x2 (0 : Int32) (0 : Int32) (0 : Int32) (0 : Int32) (0 : Int32) S L 0 0
theorem fL_master : lFnS yL_master (.code yL_master cL_master 22 (some .boolean)) 13 297 := ⟨kT_251, kT_252, kT_207, rfl, by decide +kernel⟩
set_option maxRecDepth 100000 in
set_option maxHeartbeats 4000000 in
theorem c_L_master (l : Launch) (hlt : l.stackTraces = false) (N : Nat) (x1 : Int32) (x2 : Int32) : lMet l yL_master (.code yL_master cL_master 22 (some .boolean)) 8 305 60 360 (fun ca a => [.ref (ca 0), .int x1, .int x2, .ref (a 0), .ref (a 1), .ref (a 2), .ref (a 3), .ref (a 4), .ref (a 5), .ref (a 6), .ref (a 8), .ref (a 9), .ref (a 10)]) qI (pL_master N x1 x2) := by
  refine l_start hlt (by decide +kernel) rfl (fun ca a => [(0, .ref (ca 0)), (1, .int x1), (2, .int x2), (3, .ref (a 0)), (4, .ref (a 1)), (5, .ref (a 2)), (6, .ref (a 3)), (7, .ref (a 4)), (8, .ref (a 5)), (9, .ref (a 6)), (10, .ref (a 8)), (11, .ref (a 9)), (12, .ref (a 10))]) (fun _ _ => Nat.le_of_ble_eq_true rfl) (fun _ _ => rfl) ?_
  intro dC dI g a sz Si Li r Sf Lf hpf p e s m args below meth c X hr H locs I ls hl
  have hx := X.1
  have hb := X.2.1
  have hCD : (0 : Nat) ≤ 60 ∧ (0 : Nat) ≤ 360 := ⟨Nat.zero_le _, Nat.zero_le _⟩
  unfold pL_master at hpf
  have hC_497 : ∀ (x1 : Int32) (x17 : Int32) (x18 : Int32) (x19 : Int32) (S : kS) (L : lS) (C D : Nat) (hCD : C ≤ 60 ∧ D ≤ 360) (H : Heap) (locs : List Loc), lV dC dI g a (lFr g a Si Li sz) s Si S L H locs → ∀ ls : Array Slot, lv_has ls 22 [(0, .ref (g.2.1 0)), (1, .int x1), (17, .int x17), (18, .int x18), (19, .int x19)] → pL_master_497 N x1 x17 x18 x19 S L C D = some (r, Sf, Lf) → W p l e (lRm 8 305 60 360) s m args below meth c H locs C D (MQ below (lQ dC dI g a sz Si Li (qI r) Sf Lf) args s 60 360 (lFr g a Si Li sz)) (F0 m 497 ls []) := by
    intro x1 x17 x18 x19 S L C D hCD H locs I ls hl hpf
    unfold pL_master_497 at hpf
    refine lv_iload hx hb dL_master_497 (lv_at hl 2 rfl) ?_
    refine b_if_eq hx hb 519 499 dL_master_499 (by decide) hpf (fun hpf => ?_) (fun hpf => ?_)
    · refine lv_iconst (v := (0 : Int32)) hx hb dL_master_519 (by decide) ?_
      exact l_retzB X I hr 520 dL_master_520 hpf
    refine lv_aload_n hx hb dL_master_502 rfl (lv_at hl 0 rfl) ?_
    refine lv_iload_n hx hb dL_master_503 rfl (lv_at hl 1 rfl) ?_
    refine lv_iload hx hb dL_master_504 (lv_at hl 3 rfl) ?_
    refine lv_iload hx hb dL_master_506 (lv_at hl 4 rfl) ?_
    refine l_cX (rest := []) (As := [.int x1, .int x18, .int x19]) X I fX_childAt (c_X9_childAt l hlt N x1 x18 x19) ⟨Nat.le_of_ble_eq_true rfl, Nat.le_of_ble_eq_true rfl⟩ 508 dL_master_508 rfl hl.1 ⟨Nat.le_refl _, Nat.le_refl _⟩ rfl (Nat.le_of_ble_eq_true rfl) hpf (fun v101 S102 C103 D104 hCD H locs I hpf => ?_)
    refine lv_iconst (v := (-1 : Int32)) hx hb dL_master_511 (by decide) ?_
    refine b_icmp_ne hx hb 519 512 dL_master_512 (by decide) hpf (fun hpf => ?_) (fun hpf => ?_)
    · refine lv_iconst (v := (0 : Int32)) hx hb dL_master_519 (by decide) ?_
      exact l_retzB X I hr 520 dL_master_520 hpf
    refine lv_iconst (v := (1 : Int32)) hx hb dL_master_515 (by decide) ?_
    refine lv_goto (tgt := 520) hx hb dL_master_516 (by decide) ?_
    exact l_retzB X I hr 520 dL_master_520 hpf
  have hC_385 : ∀ (n_385 : Nat), ∀ (x1 : Int32) (x17 : Int32) (x18 : Int32) (x19 : Int32) (x20 : Int32) (S : kS) (L : lS) (C D : Nat) (hCD : C ≤ 60 ∧ D ≤ 360) (H : Heap) (locs : List Loc), lV dC dI g a (lFr g a Si Li sz) s Si S L H locs → ∀ ls : Array Slot, lv_has ls 22 [(0, .ref (g.2.1 0)), (1, .int x1), (3, .ref (a 0)), (5, .ref (a 2)), (6, .ref (a 3)), (7, .ref (a 4)), (8, .ref (a 5)), (10, .ref (a 8)), (11, .ref (a 9)), (17, .int x17), (18, .int x18), (19, .int x19), (20, .int x20)] → pL_master_385 N (pL_master_497 N) n_385 x1 x17 x18 x19 x20 S L C D = some (r, Sf, Lf) → W p l e (lRm 8 305 60 360) s m args below meth c H locs C D (MQ below (lQ dC dI g a sz Si Li (qI r) Sf Lf) args s 60 360 (lFr g a Si Li sz)) (F0 m 385 ls []) := by
    intro n_385
    induction n_385 with
    | zero =>
      intro x1 x17 x18 x19 x20 S L C D hCD H locs I ls hl hpf
      rw [pL_master_385] at hpf
      cases hpf
    | succ n_385 ih_385 =>
      have hC_491 : ∀ (x1 : Int32) (x17 : Int32) (x18 : Int32) (x19 : Int32) (x20 : Int32) (S : kS) (L : lS) (C D : Nat) (hCD : C ≤ 60 ∧ D ≤ 360) (H : Heap) (locs : List Loc), lV dC dI g a (lFr g a Si Li sz) s Si S L H locs → ∀ ls : Array Slot, lv_has ls 22 [(0, .ref (g.2.1 0)), (1, .int x1), (3, .ref (a 0)), (5, .ref (a 2)), (6, .ref (a 3)), (7, .ref (a 4)), (8, .ref (a 5)), (10, .ref (a 8)), (11, .ref (a 9)), (17, .int x17), (18, .int x18), (19, .int x19), (20, .int x20)] → pL_master_491 N (pL_master_385 N (pL_master_497 N) n_385) x1 x17 x18 x19 x20 S L C D = some (r, Sf, Lf) → W p l e (lRm 8 305 60 360) s m args below meth c H locs C D (MQ below (lQ dC dI g a sz Si Li (qI r) Sf Lf) args s 60 360 (lFr g a Si Li sz)) (F0 m 491 ls []) := by
        intro x1 x17 x18 x19 x20 S L C D hCD H locs I ls hl hpf
        unfold pL_master_491 at hpf
        refine m_iinc (w := (1 : Int32)) hx hb (fun y101 => [(20, .int y101), (0, .ref (g.2.1 0)), (1, .int x1), (3, .ref (a 0)), (5, .ref (a 2)), (6, .ref (a 3)), (7, .ref (a 4)), (8, .ref (a 5)), (10, .ref (a 8)), (11, .ref (a 9)), (17, .int x17), (18, .int x18), (19, .int x19)]) 491 dL_master_491 hl (k := 12) rfl (by decide) (by decide) (fun _ => rfl) hpf (fun y101 ls hl hpf => ?_)
        refine lv_goto (tgt := 385) hx hb dL_master_494 (by decide) ?_
        exact ih_385 x1 x17 x18 x19 y101 S L C D hCD H locs I ls (lv_sub hl [1, 2, 3, 4, 5, 6, 7, 8, 9, 10, 11, 12, 0] rfl) hpf
      have hC_401 : ∀ (n_401 : Nat), ∀ (x1 : Int32) (x17 : Int32) (x18 : Int32) (x19 : Int32) (x20 : Int32) (x21 : Int32) (S : kS) (L : lS) (C D : Nat) (hCD : C ≤ 60 ∧ D ≤ 360) (H : Heap) (locs : List Loc), lV dC dI g a (lFr g a Si Li sz) s Si S L H locs → ∀ ls : Array Slot, lv_has ls 22 [(0, .ref (g.2.1 0)), (1, .int x1), (3, .ref (a 0)), (5, .ref (a 2)), (6, .ref (a 3)), (7, .ref (a 4)), (8, .ref (a 5)), (10, .ref (a 8)), (11, .ref (a 9)), (17, .int x17), (18, .int x18), (19, .int x19), (20, .int x20), (21, .int x21)] → pL_master_401 N (pL_master_491 N (pL_master_385 N (pL_master_497 N) n_385)) n_401 x1 x17 x18 x19 x20 x21 S L C D = some (r, Sf, Lf) → W p l e (lRm 8 305 60 360) s m args below meth c H locs C D (MQ below (lQ dC dI g a sz Si Li (qI r) Sf Lf) args s 60 360 (lFr g a Si Li sz)) (F0 m 401 ls []) := by
        intro n_401
        induction n_401 with
        | zero =>
          intro x1 x17 x18 x19 x20 x21 S L C D hCD H locs I ls hl hpf
          rw [pL_master_401] at hpf
          cases hpf
        | succ n_401 ih_401 =>
          have hC_485 : ∀ (x1 : Int32) (x17 : Int32) (x18 : Int32) (x19 : Int32) (x20 : Int32) (x21 : Int32) (S : kS) (L : lS) (C D : Nat) (hCD : C ≤ 60 ∧ D ≤ 360) (H : Heap) (locs : List Loc), lV dC dI g a (lFr g a Si Li sz) s Si S L H locs → ∀ ls : Array Slot, lv_has ls 22 [(0, .ref (g.2.1 0)), (1, .int x1), (3, .ref (a 0)), (5, .ref (a 2)), (6, .ref (a 3)), (7, .ref (a 4)), (8, .ref (a 5)), (10, .ref (a 8)), (11, .ref (a 9)), (17, .int x17), (18, .int x18), (19, .int x19), (20, .int x20), (21, .int x21)] → pL_master_485 N (pL_master_401 N (pL_master_491 N (pL_master_385 N (pL_master_497 N) n_385)) n_401) x1 x17 x18 x19 x20 x21 S L C D = some (r, Sf, Lf) → W p l e (lRm 8 305 60 360) s m args below meth c H locs C D (MQ below (lQ dC dI g a sz Si Li (qI r) Sf Lf) args s 60 360 (lFr g a Si Li sz)) (F0 m 485 ls []) := by
            intro x1 x17 x18 x19 x20 x21 S L C D hCD H locs I ls hl hpf
            unfold pL_master_485 at hpf
            refine m_iinc (w := (1 : Int32)) hx hb (fun y101 => [(21, .int y101), (0, .ref (g.2.1 0)), (1, .int x1), (3, .ref (a 0)), (5, .ref (a 2)), (6, .ref (a 3)), (7, .ref (a 4)), (8, .ref (a 5)), (10, .ref (a 8)), (11, .ref (a 9)), (17, .int x17), (18, .int x18), (19, .int x19), (20, .int x20)]) 485 dL_master_485 hl (k := 13) rfl (by decide) (by decide) (fun _ => rfl) hpf (fun y101 ls hl hpf => ?_)
            refine lv_goto (tgt := 401) hx hb dL_master_488 (by decide) ?_
            exact ih_401 x1 x17 x18 x19 x20 y101 S L C D hCD H locs I ls (lv_sub hl [1, 2, 3, 4, 5, 6, 7, 8, 9, 10, 11, 12, 13, 0] rfl) hpf
          have hC_480 : ∀ (t0 : Int32) (x1 : Int32) (x18 : Int32) (x19 : Int32) (x20 : Int32) (x21 : Int32) (S : kS) (L : lS) (C D : Nat) (hCD : C ≤ 60 ∧ D ≤ 360) (H : Heap) (locs : List Loc), lV dC dI g a (lFr g a Si Li sz) s Si S L H locs → ∀ ls : Array Slot, lv_has ls 22 [(0, .ref (g.2.1 0)), (1, .int x1), (3, .ref (a 0)), (5, .ref (a 2)), (6, .ref (a 3)), (7, .ref (a 4)), (8, .ref (a 5)), (10, .ref (a 8)), (11, .ref (a 9)), (18, .int x18), (19, .int x19), (20, .int x20), (21, .int x21)] → pL_master_480 N (pL_master_401 N (pL_master_491 N (pL_master_385 N (pL_master_497 N) n_385)) n_401) t0 x1 x18 x19 x20 x21 S L C D = some (r, Sf, Lf) → W p l e (lRm 8 305 60 360) s m args below meth c H locs C D (MQ below (lQ dC dI g a sz Si Li (qI r) Sf Lf) args s 60 360 (lFr g a Si Li sz)) (F0 m 480 ls [.int t0]) := by
            intro t0 x1 x18 x19 x20 x21 S L C D hCD H locs I ls hl hpf
            unfold pL_master_480 at hpf
            refine lv_istore (lv' := [(17, .int t0), (0, .ref (g.2.1 0)), (1, .int x1), (3, .ref (a 0)), (5, .ref (a 2)), (6, .ref (a 3)), (7, .ref (a 4)), (8, .ref (a 5)), (10, .ref (a 8)), (11, .ref (a 9)), (18, .int x18), (19, .int x19), (20, .int x20), (21, .int x21)]) hx hb dL_master_480 hl (by decide) rfl (fun ls hl => ?_)
            refine m_iinc (w := (1 : Int32)) hx hb (fun y101 => [(19, .int y101), (17, .int t0), (0, .ref (g.2.1 0)), (1, .int x1), (3, .ref (a 0)), (5, .ref (a 2)), (6, .ref (a 3)), (7, .ref (a 4)), (8, .ref (a 5)), (10, .ref (a 8)), (11, .ref (a 9)), (18, .int x18), (20, .int x20), (21, .int x21)]) 482 dL_master_482 hl (k := 11) rfl (by decide) (by decide) (fun _ => rfl) hpf (fun y101 ls hl hpf => ?_)
            exact hC_485 x1 t0 x18 y101 x20 x21 S L C D hCD H locs I ls (lv_sub hl [2, 3, 4, 5, 6, 7, 8, 9, 10, 1, 11, 0, 12, 13] rfl) hpf
          intro x1 x17 x18 x19 x20 x21 S L C D hCD H locs I ls hl hpf
          rw [pL_master_401] at hpf
          refine lv_iload hx hb dL_master_401 (lv_at hl 13 rfl) ?_
          refine lv_aload_n hx hb dL_master_403 rfl (lv_at hl 2 rfl) ?_
          refine lv_iconst (v := (0 : Int32)) hx hb dL_master_404 (by decide) ?_
          refine l_iald X I lR_0 405 dL_master_405 hpf (fun hpf => ?_)
          refine b_icmp_ge hx hb 491 406 dL_master_406 (by decide) hpf (fun hpf => ?_) (fun hpf => ?_)
          · exact hC_491 x1 x17 x18 x19 x20 S L C D hCD H locs I ls (lv_sub hl [0, 1, 2, 3, 4, 5, 6, 7, 8, 9, 10, 11, 12] rfl) hpf
          refine lv_aload hx hb dL_master_409 (lv_at hl 8 rfl) ?_
          refine lv_iconst (v := (3 : Int32)) hx hb dL_master_411 (by decide) ?_
          refine lv_iload hx hb dL_master_412 (lv_at hl 13 rfl) ?_
          refine lv_imul hx hb dL_master_414 ?_
          refine l_iald X I lR_9 415 dL_master_415 hpf (fun hpf => ?_)
          refine lv_iconst (v := (1 : Int32)) hx hb dL_master_416 (by decide) ?_
          refine b_icmp_ne hx hb 485 417 dL_master_417 (by decide) hpf (fun hpf => ?_) (fun hpf => ?_)
          · exact hC_485 x1 x17 x18 x19 x20 x21 S L C D hCD H locs I ls (lv_sub hl [0, 1, 2, 3, 4, 5, 6, 7, 8, 9, 10, 11, 12, 13] rfl) hpf
          refine lv_iload hx hb dL_master_420 (lv_at hl 13 rfl) ?_
          refine lv_aload hx hb dL_master_422 (lv_at hl 8 rfl) ?_
          refine l_cAI (rest := []) (As := [.int x21, .ref (a 9)]) X I fL_place (c_L_place l hlt N x21) rfl ⟨Nat.le_of_ble_eq_true rfl, Nat.le_of_ble_eq_true rfl⟩ 424 dL_master_424 rfl hl.1 rfl (Nat.le_of_ble_eq_true rfl) hCD hpf (fun v101 L102 H locs I hpf => ?_)
          refine lv_iload hx hb dL_master_427 (lv_at hl 10 rfl) ?_
          refine b_icmp_ne hx hb 485 429 dL_master_429 (by decide) hpf (fun hpf => ?_) (fun hpf => ?_)
          · exact hC_485 x1 x17 x18 x19 x20 x21 S L102 C D hCD H locs I ls (lv_sub hl [0, 1, 2, 3, 4, 5, 6, 7, 8, 9, 10, 11, 12, 13] rfl) hpf
          refine lv_iload_n hx hb dL_master_432 rfl (lv_at hl 1 rfl) ?_
          refine lv_iload hx hb dL_master_433 (lv_at hl 13 rfl) ?_
          refine lv_aload_n hx hb dL_master_435 rfl (lv_at hl 2 rfl) ?_
          refine lv_aload hx hb dL_master_436 (lv_at hl 3 rfl) ?_
          refine lv_aload hx hb dL_master_438 (lv_at hl 4 rfl) ?_
          refine lv_aload hx hb dL_master_440 (lv_at hl 5 rfl) ?_
          refine lv_aload hx hb dL_master_442 (lv_at hl 6 rfl) ?_
          refine lv_aload hx hb dL_master_444 (lv_at hl 7 rfl) ?_
          refine lv_aload hx hb dL_master_446 (lv_at hl 8 rfl) ?_
          refine l_cAI (rest := []) (As := [.int x1, .int x21, .ref (a 0), .ref (a 2), .ref (a 3), .ref (a 4), .ref (a 5), .ref (a 8), .ref (a 9)]) X I fL_shown (c_L_shown l hlt N x1 x21) rfl ⟨Nat.le_of_ble_eq_true rfl, Nat.le_of_ble_eq_true rfl⟩ 448 dL_master_448 rfl hl.1 rfl (Nat.le_of_ble_eq_true rfl) hCD hpf (fun v103 L104 H locs I hpf => ?_)
          refine lv_iload hx hb dL_master_451 (lv_at hl 12 rfl) ?_
          refine b_icmp_ne hx hb 485 453 dL_master_453 (by decide) hpf (fun hpf => ?_) (fun hpf => ?_)
          · exact hC_485 x1 x17 x18 x19 x20 x21 S L104 C D hCD H locs I ls (lv_sub hl [0, 1, 2, 3, 4, 5, 6, 7, 8, 9, 10, 11, 12, 13] rfl) hpf
          refine lv_iload hx hb dL_master_456 (lv_at hl 9 rfl) ?_
          refine b_if_eq hx hb 479 458 dL_master_458 (by decide) hpf (fun hpf => ?_) (fun hpf => ?_)
          · refine lv_iconst (v := (0 : Int32)) hx hb dL_master_479 (by decide) ?_
            exact hC_480 (0 : Int32) x1 x18 x19 x20 x21 S L104 C D hCD H locs I ls (lv_sub hl [0, 1, 2, 3, 4, 5, 6, 7, 8, 10, 11, 12, 13] rfl) hpf
          refine lv_aload_n hx hb dL_master_461 rfl (lv_at hl 0 rfl) ?_
          refine lv_iload_n hx hb dL_master_462 rfl (lv_at hl 1 rfl) ?_
          refine lv_iload hx hb dL_master_463 (lv_at hl 10 rfl) ?_
          refine lv_iload hx hb dL_master_465 (lv_at hl 11 rfl) ?_
          refine l_cX (rest := []) (As := [.int x1, .int x18, .int x19]) X I fX_childAt (c_X9_childAt l hlt N x1 x18 x19) ⟨Nat.le_of_ble_eq_true rfl, Nat.le_of_ble_eq_true rfl⟩ 467 dL_master_467 rfl hl.1 ⟨Nat.le_refl _, Nat.le_refl _⟩ rfl (Nat.le_of_ble_eq_true rfl) hpf (fun v105 S106 C107 D108 hCD H locs I hpf => ?_)
          refine lv_iload hx hb dL_master_470 (lv_at hl 13 rfl) ?_
          refine b_icmp_ne hx hb 479 472 dL_master_472 (by decide) hpf (fun hpf => ?_) (fun hpf => ?_)
          · refine lv_iconst (v := (0 : Int32)) hx hb dL_master_479 (by decide) ?_
            exact hC_480 (0 : Int32) x1 x18 x19 x20 x21 S106 L104 C107 D108 hCD H locs I ls (lv_sub hl [0, 1, 2, 3, 4, 5, 6, 7, 8, 10, 11, 12, 13] rfl) hpf
          refine lv_iconst (v := (1 : Int32)) hx hb dL_master_475 (by decide) ?_
          refine lv_goto (tgt := 480) hx hb dL_master_476 (by decide) ?_
          exact hC_480 (1 : Int32) x1 x18 x19 x20 x21 S106 L104 C107 D108 hCD H locs I ls (lv_sub hl [0, 1, 2, 3, 4, 5, 6, 7, 8, 10, 11, 12, 13] rfl) hpf
      intro x1 x17 x18 x19 x20 S L C D hCD H locs I ls hl hpf
      rw [pL_master_385] at hpf
      refine lv_iload hx hb dL_master_385 (lv_at hl 12 rfl) ?_
      refine lv_sipush (v := (148 : Int32)) hx hb dL_master_387 (by decide) ?_
      refine b_icmp_ge hx hb 497 390 dL_master_390 (by decide) hpf (fun hpf => ?_) (fun hpf => ?_)
      · exact hC_497 x1 x17 x18 x19 S L C D hCD H locs I ls (lv_sub hl [0, 1, 9, 10, 11] rfl) hpf
      refine lv_iload hx hb dL_master_393 (lv_at hl 9 rfl) ?_
      refine b_if_eq hx hb 497 395 dL_master_395 (by decide) hpf (fun hpf => ?_) (fun hpf => ?_)
      · exact hC_497 x1 x17 x18 x19 S L C D hCD H locs I ls (lv_sub hl [0, 1, 9, 10, 11] rfl) hpf
      refine lv_iconst (v := (1 : Int32)) hx hb dL_master_398 (by decide) ?_
      refine lv_istore (lv' := [(21, .int (1 : Int32)), (0, .ref (g.2.1 0)), (1, .int x1), (3, .ref (a 0)), (5, .ref (a 2)), (6, .ref (a 3)), (7, .ref (a 4)), (8, .ref (a 5)), (10, .ref (a 8)), (11, .ref (a 9)), (17, .int x17), (18, .int x18), (19, .int x19), (20, .int x20)]) hx hb dL_master_399 hl (by decide) rfl (fun ls hl => ?_)
      exact hC_401 N x1 x17 x18 x19 x20 (1 : Int32) S L C D hCD H locs I ls (lv_sub hl [1, 2, 3, 4, 5, 6, 7, 8, 9, 10, 11, 12, 13, 0] rfl) hpf
  have hC_377 : ∀ (t0 : Int32) (x1 : Int32) (x17 : Int32) (S : kS) (L : lS) (C D : Nat) (hCD : C ≤ 60 ∧ D ≤ 360) (H : Heap) (locs : List Loc), lV dC dI g a (lFr g a Si Li sz) s Si S L H locs → ∀ ls : Array Slot, lv_has ls 22 [(0, .ref (g.2.1 0)), (1, .int x1), (3, .ref (a 0)), (5, .ref (a 2)), (6, .ref (a 3)), (7, .ref (a 4)), (8, .ref (a 5)), (10, .ref (a 8)), (11, .ref (a 9)), (17, .int x17)] → pL_master_377 N t0 x1 x17 S L C D = some (r, Sf, Lf) → W p l e (lRm 8 305 60 360) s m args below meth c H locs C D (MQ below (lQ dC dI g a sz Si Li (qI r) Sf Lf) args s 60 360 (lFr g a Si Li sz)) (F0 m 377 ls [.int t0]) := by
    intro t0 x1 x17 S L C D hCD H locs I ls hl hpf
    unfold pL_master_377 at hpf
    refine lv_istore (lv' := [(18, .int t0), (0, .ref (g.2.1 0)), (1, .int x1), (3, .ref (a 0)), (5, .ref (a 2)), (6, .ref (a 3)), (7, .ref (a 4)), (8, .ref (a 5)), (10, .ref (a 8)), (11, .ref (a 9)), (17, .int x17)]) hx hb dL_master_377 hl (by decide) rfl (fun ls hl => ?_)
    refine lv_iconst (v := (0 : Int32)) hx hb dL_master_379 (by decide) ?_
    refine lv_istore (lv' := [(19, .int (0 : Int32)), (18, .int t0), (0, .ref (g.2.1 0)), (1, .int x1), (3, .ref (a 0)), (5, .ref (a 2)), (6, .ref (a 3)), (7, .ref (a 4)), (8, .ref (a 5)), (10, .ref (a 8)), (11, .ref (a 9)), (17, .int x17)]) hx hb dL_master_380 hl (by decide) rfl (fun ls hl => ?_)
    refine lv_iconst (v := (0 : Int32)) hx hb dL_master_382 (by decide) ?_
    refine lv_istore (lv' := [(20, .int (0 : Int32)), (19, .int (0 : Int32)), (18, .int t0), (0, .ref (g.2.1 0)), (1, .int x1), (3, .ref (a 0)), (5, .ref (a 2)), (6, .ref (a 3)), (7, .ref (a 4)), (8, .ref (a 5)), (10, .ref (a 8)), (11, .ref (a 9)), (17, .int x17)]) hx hb dL_master_383 hl (by decide) rfl (fun ls hl => ?_)
    exact hC_385 N x1 x17 t0 (0 : Int32) (0 : Int32) S L C D hCD H locs I ls (lv_sub hl [3, 4, 5, 6, 7, 8, 9, 10, 11, 12, 2, 1, 0] rfl) hpf
  have hC_336 : ∀ (x1 : Int32) (x2 : Int32) (x17 : Int32) (S : kS) (L : lS) (C D : Nat) (hCD : C ≤ 60 ∧ D ≤ 360) (H : Heap) (locs : List Loc), lV dC dI g a (lFr g a Si Li sz) s Si S L H locs → ∀ ls : Array Slot, lv_has ls 22 [(0, .ref (g.2.1 0)), (1, .int x1), (2, .int x2), (3, .ref (a 0)), (5, .ref (a 2)), (6, .ref (a 3)), (7, .ref (a 4)), (8, .ref (a 5)), (10, .ref (a 8)), (11, .ref (a 9)), (17, .int x17)] → pL_master_336 N x1 x2 x17 S L C D = some (r, Sf, Lf) → W p l e (lRm 8 305 60 360) s m args below meth c H locs C D (MQ below (lQ dC dI g a sz Si Li (qI r) Sf Lf) args s 60 360 (lFr g a Si Li sz)) (F0 m 336 ls []) := by
    intro x1 x2 x17 S L C D hCD H locs I ls hl hpf
    unfold pL_master_336 at hpf
    refine lv_iload_n hx hb dL_master_336 rfl (lv_at hl 2 rfl) ?_
    refine lv_aload_n hx hb dL_master_337 rfl (lv_at hl 3 rfl) ?_
    refine lv_iconst (v := (0 : Int32)) hx hb dL_master_338 (by decide) ?_
    refine l_iald X I lR_0 339 dL_master_339 hpf (fun hpf => ?_)
    refine lv_iconst (v := (1 : Int32)) hx hb dL_master_340 (by decide) ?_
    refine lv_iadd hx hb dL_master_341 ?_
    refine l_cAI (rest := []) (As := [.int x2, .int ((aI L 0 (0 : Int32).toNatClampNeg) + (1 : Int32))]) X I fL_low (c_L_low l hlt N x2 ((aI L 0 (0 : Int32).toNatClampNeg) + (1 : Int32))) rfl ⟨Nat.le_of_ble_eq_true rfl, Nat.le_of_ble_eq_true rfl⟩ 342 dL_master_342 rfl hl.1 rfl (Nat.le_of_ble_eq_true rfl) hCD hpf (fun v101 L102 H locs I hpf => ?_)
    refine lv_iconst (v := (2 : Int32)) hx hb dL_master_345 (by decide) ?_
    refine lv_isub hx hb dL_master_346 ?_
    refine m_isto hx hb (fun y103 => [(18, .int y103), (0, .ref (g.2.1 0)), (1, .int x1), (2, .int x2), (3, .ref (a 0)), (5, .ref (a 2)), (6, .ref (a 3)), (7, .ref (a 4)), (8, .ref (a 5)), (10, .ref (a 8)), (11, .ref (a 9)), (17, .int x17)]) 347 dL_master_347 hl (by decide) (fun _ => rfl) hpf (fun y103 ls hl hpf => ?_)
    refine lv_iload hx hb dL_master_349 (lv_at hl 0 rfl) ?_
    refine lv_iconst (v := (-1 : Int32)) hx hb dL_master_351 (by decide) ?_
    refine b_icmp_eq hx hb 371 352 dL_master_352 (by decide) hpf (fun hpf => ?_) (fun hpf => ?_)
    · refine lv_iconst (v := (0 : Int32)) hx hb dL_master_371 (by decide) ?_
      refine lv_goto (tgt := 377) hx hb dL_master_372 (by decide) ?_
      exact hC_377 (0 : Int32) x1 x17 S L102 C D hCD H locs I ls (lv_sub hl [1, 2, 4, 5, 6, 7, 8, 9, 10, 11] rfl) hpf
    refine lv_iload hx hb dL_master_355 (lv_at hl 0 rfl) ?_
    refine b_if_lt hx hb 375 357 dL_master_357 (by decide) hpf (fun hpf => ?_) (fun hpf => ?_)
    · refine lv_iload hx hb dL_master_375 (lv_at hl 0 rfl) ?_
      exact hC_377 y103 x1 x17 S L102 C D hCD H locs I ls (lv_sub hl [1, 2, 4, 5, 6, 7, 8, 9, 10, 11] rfl) hpf
    refine lv_aload hx hb dL_master_360 (lv_at hl 10 rfl) ?_
    refine lv_iconst (v := (3 : Int32)) hx hb dL_master_362 (by decide) ?_
    refine lv_iload hx hb dL_master_363 (lv_at hl 0 rfl) ?_
    refine lv_imul hx hb dL_master_365 ?_
    refine l_iald X I lR_9 366 dL_master_366 hpf (fun hpf => ?_)
    refine lv_iconst (v := (1 : Int32)) hx hb dL_master_367 (by decide) ?_
    refine b_icmp_eq hx hb 375 368 dL_master_368 (by decide) hpf (fun hpf => ?_) (fun hpf => ?_)
    · refine lv_iload hx hb dL_master_375 (lv_at hl 0 rfl) ?_
      exact hC_377 y103 x1 x17 S L102 C D hCD H locs I ls (lv_sub hl [1, 2, 4, 5, 6, 7, 8, 9, 10, 11] rfl) hpf
    refine lv_iconst (v := (0 : Int32)) hx hb dL_master_371 (by decide) ?_
    refine lv_goto (tgt := 377) hx hb dL_master_372 (by decide) ?_
    exact hC_377 (0 : Int32) x1 x17 S L102 C D hCD H locs I ls (lv_sub hl [1, 2, 4, 5, 6, 7, 8, 9, 10, 11] rfl) hpf
  have hC_292 : ∀ (n_292 : Nat), ∀ (x1 : Int32) (x2 : Int32) (x17 : Int32) (x18 : Int32) (S : kS) (L : lS) (C D : Nat) (hCD : C ≤ 60 ∧ D ≤ 360) (H : Heap) (locs : List Loc), lV dC dI g a (lFr g a Si Li sz) s Si S L H locs → ∀ ls : Array Slot, lv_has ls 22 [(0, .ref (g.2.1 0)), (1, .int x1), (2, .int x2), (3, .ref (a 0)), (5, .ref (a 2)), (6, .ref (a 3)), (7, .ref (a 4)), (8, .ref (a 5)), (10, .ref (a 8)), (11, .ref (a 9)), (17, .int x17), (18, .int x18)] → pL_master_292 N (pL_master_336 N) n_292 x1 x2 x17 x18 S L C D = some (r, Sf, Lf) → W p l e (lRm 8 305 60 360) s m args below meth c H locs C D (MQ below (lQ dC dI g a sz Si Li (qI r) Sf Lf) args s 60 360 (lFr g a Si Li sz)) (F0 m 292 ls []) := by
    intro n_292
    induction n_292 with
    | zero =>
      intro x1 x2 x17 x18 S L C D hCD H locs I ls hl hpf
      rw [pL_master_292] at hpf
      cases hpf
    | succ n_292 ih_292 =>
      have hC_328 : ∀ (t0 : Int32) (x1 : Int32) (x2 : Int32) (x18 : Int32) (S : kS) (L : lS) (C D : Nat) (hCD : C ≤ 60 ∧ D ≤ 360) (H : Heap) (locs : List Loc), lV dC dI g a (lFr g a Si Li sz) s Si S L H locs → ∀ ls : Array Slot, lv_has ls 22 [(0, .ref (g.2.1 0)), (1, .int x1), (2, .int x2), (3, .ref (a 0)), (5, .ref (a 2)), (6, .ref (a 3)), (7, .ref (a 4)), (8, .ref (a 5)), (10, .ref (a 8)), (11, .ref (a 9)), (18, .int x18)] → pL_master_328 N (pL_master_292 N (pL_master_336 N) n_292) t0 x1 x2 x18 S L C D = some (r, Sf, Lf) → W p l e (lRm 8 305 60 360) s m args below meth c H locs C D (MQ below (lQ dC dI g a sz Si Li (qI r) Sf Lf) args s 60 360 (lFr g a Si Li sz)) (F0 m 328 ls [.int t0]) := by
        intro t0 x1 x2 x18 S L C D hCD H locs I ls hl hpf
        unfold pL_master_328 at hpf
        refine lv_istore (lv' := [(17, .int t0), (0, .ref (g.2.1 0)), (1, .int x1), (2, .int x2), (3, .ref (a 0)), (5, .ref (a 2)), (6, .ref (a 3)), (7, .ref (a 4)), (8, .ref (a 5)), (10, .ref (a 8)), (11, .ref (a 9)), (18, .int x18)]) hx hb dL_master_328 hl (by decide) rfl (fun ls hl => ?_)
        refine m_iinc (w := (1 : Int32)) hx hb (fun y101 => [(18, .int y101), (17, .int t0), (0, .ref (g.2.1 0)), (1, .int x1), (2, .int x2), (3, .ref (a 0)), (5, .ref (a 2)), (6, .ref (a 3)), (7, .ref (a 4)), (8, .ref (a 5)), (10, .ref (a 8)), (11, .ref (a 9))]) 330 dL_master_330 hl (k := 11) rfl (by decide) (by decide) (fun _ => rfl) hpf (fun y101 ls hl hpf => ?_)
        refine lv_goto (tgt := 292) hx hb dL_master_333 (by decide) ?_
        exact ih_292 x1 x2 t0 y101 S L C D hCD H locs I ls (lv_sub hl [2, 3, 4, 5, 6, 7, 8, 9, 10, 11, 1, 0] rfl) hpf
      intro x1 x2 x17 x18 S L C D hCD H locs I ls hl hpf
      rw [pL_master_292] at hpf
      refine lv_iload hx hb dL_master_292 (lv_at hl 11 rfl) ?_
      refine lv_iconst (v := (4 : Int32)) hx hb dL_master_294 (by decide) ?_
      refine b_icmp_ge hx hb 336 295 dL_master_295 (by decide) hpf (fun hpf => ?_) (fun hpf => ?_)
      · exact hC_336 x1 x2 x17 S L C D hCD H locs I ls (lv_sub hl [0, 1, 2, 3, 4, 5, 6, 7, 8, 9, 10] rfl) hpf
      refine lv_iload hx hb dL_master_298 (lv_at hl 10 rfl) ?_
      refine b_if_eq hx hb 327 300 dL_master_300 (by decide) hpf (fun hpf => ?_) (fun hpf => ?_)
      · refine lv_iconst (v := (0 : Int32)) hx hb dL_master_327 (by decide) ?_
        exact hC_328 (0 : Int32) x1 x2 x18 S L C D hCD H locs I ls (lv_sub hl [0, 1, 2, 3, 4, 5, 6, 7, 8, 9, 11] rfl) hpf
      refine lv_aload_n hx hb dL_master_303 rfl (lv_at hl 0 rfl) ?_
      refine lv_iload_n hx hb dL_master_304 rfl (lv_at hl 1 rfl) ?_
      refine lv_iload hx hb dL_master_305 (lv_at hl 11 rfl) ?_
      refine l_cX (rest := []) (As := [.int x1, .int x18]) X I fX_knows (c_X9_knows l hlt N x1 x18) ⟨Nat.le_of_ble_eq_true rfl, Nat.le_of_ble_eq_true rfl⟩ 307 dL_master_307 rfl hl.1 ⟨Nat.le_refl _, Nat.le_refl _⟩ rfl (Nat.le_of_ble_eq_true rfl) hpf (fun v101 S102 C103 D104 hCD H locs I hpf => ?_)
      refine lv_aload hx hb dL_master_310 (lv_at hl 8 rfl) ?_
      refine lv_bipush (v := (20 : Int32)) hx hb dL_master_312 (by decide) ?_
      refine lv_iload_n hx hb dL_master_314 rfl (lv_at hl 1 rfl) ?_
      refine lv_imul hx hb dL_master_315 ?_
      refine lv_iload hx hb dL_master_316 (lv_at hl 11 rfl) ?_
      refine lv_iadd hx hb dL_master_318 ?_
      refine l_iald X I lR_8 319 dL_master_319 hpf (fun hpf => ?_)
      refine b_icmp_ne hx hb 327 320 dL_master_320 (by decide) hpf (fun hpf => ?_) (fun hpf => ?_)
      · refine lv_iconst (v := (0 : Int32)) hx hb dL_master_327 (by decide) ?_
        exact hC_328 (0 : Int32) x1 x2 x18 S102 L C103 D104 hCD H locs I ls (lv_sub hl [0, 1, 2, 3, 4, 5, 6, 7, 8, 9, 11] rfl) hpf
      refine lv_iconst (v := (1 : Int32)) hx hb dL_master_323 (by decide) ?_
      refine lv_goto (tgt := 328) hx hb dL_master_324 (by decide) ?_
      exact hC_328 (1 : Int32) x1 x2 x18 S102 L C103 D104 hCD H locs I ls (lv_sub hl [0, 1, 2, 3, 4, 5, 6, 7, 8, 9, 11] rfl) hpf
  have hC_287 : ∀ (t0 : Int32) (x1 : Int32) (x2 : Int32) (S : kS) (L : lS) (C D : Nat) (hCD : C ≤ 60 ∧ D ≤ 360) (H : Heap) (locs : List Loc), lV dC dI g a (lFr g a Si Li sz) s Si S L H locs → ∀ ls : Array Slot, lv_has ls 22 [(0, .ref (g.2.1 0)), (1, .int x1), (2, .int x2), (3, .ref (a 0)), (5, .ref (a 2)), (6, .ref (a 3)), (7, .ref (a 4)), (8, .ref (a 5)), (10, .ref (a 8)), (11, .ref (a 9))] → pL_master_287 N t0 x1 x2 S L C D = some (r, Sf, Lf) → W p l e (lRm 8 305 60 360) s m args below meth c H locs C D (MQ below (lQ dC dI g a sz Si Li (qI r) Sf Lf) args s 60 360 (lFr g a Si Li sz)) (F0 m 287 ls [.int t0]) := by
    intro t0 x1 x2 S L C D hCD H locs I ls hl hpf
    unfold pL_master_287 at hpf
    refine lv_istore (lv' := [(17, .int t0), (0, .ref (g.2.1 0)), (1, .int x1), (2, .int x2), (3, .ref (a 0)), (5, .ref (a 2)), (6, .ref (a 3)), (7, .ref (a 4)), (8, .ref (a 5)), (10, .ref (a 8)), (11, .ref (a 9))]) hx hb dL_master_287 hl (by decide) rfl (fun ls hl => ?_)
    refine lv_iconst (v := (0 : Int32)) hx hb dL_master_289 (by decide) ?_
    refine lv_istore (lv' := [(18, .int (0 : Int32)), (17, .int t0), (0, .ref (g.2.1 0)), (1, .int x1), (2, .int x2), (3, .ref (a 0)), (5, .ref (a 2)), (6, .ref (a 3)), (7, .ref (a 4)), (8, .ref (a 5)), (10, .ref (a 8)), (11, .ref (a 9))]) hx hb dL_master_290 hl (by decide) rfl (fun ls hl => ?_)
    exact hC_292 N x1 x2 t0 (0 : Int32) S L C D hCD H locs I ls (lv_sub hl [2, 3, 4, 5, 6, 7, 8, 9, 10, 11, 1, 0] rfl) hpf
  have hC_218 : ∀ (x1 : Int32) (x2 : Int32) (x13 : Int32) (x14 : Int32) (x15 : Int32) (x16 : Int32) (S : kS) (L : lS) (C D : Nat) (hCD : C ≤ 60 ∧ D ≤ 360) (H : Heap) (locs : List Loc), lV dC dI g a (lFr g a Si Li sz) s Si S L H locs → ∀ ls : Array Slot, lv_has ls 22 [(0, .ref (g.2.1 0)), (1, .int x1), (2, .int x2), (3, .ref (a 0)), (5, .ref (a 2)), (6, .ref (a 3)), (7, .ref (a 4)), (8, .ref (a 5)), (10, .ref (a 8)), (11, .ref (a 9)), (13, .int x13), (14, .int x14), (15, .int x15), (16, .int x16)] → pL_master_218 N x1 x2 x13 x14 x15 x16 S L C D = some (r, Sf, Lf) → W p l e (lRm 8 305 60 360) s m args below meth c H locs C D (MQ below (lQ dC dI g a sz Si Li (qI r) Sf Lf) args s 60 360 (lFr g a Si Li sz)) (F0 m 218 ls []) := by
    intro x1 x2 x13 x14 x15 x16 S L C D hCD H locs I ls hl hpf
    unfold pL_master_218 at hpf
    refine lv_aload_n hx hb dL_master_218 rfl (lv_at hl 0 rfl) ?_
    refine lv_iload_n hx hb dL_master_219 rfl (lv_at hl 1 rfl) ?_
    refine l_cX (rest := []) (As := [.int x1]) X I fX_live (c_X9_live l hlt N x1) ⟨Nat.le_of_ble_eq_true rfl, Nat.le_of_ble_eq_true rfl⟩ 220 dL_master_220 rfl hl.1 ⟨Nat.le_refl _, Nat.le_refl _⟩ rfl (Nat.le_of_ble_eq_true rfl) hpf (fun v101 S102 C103 D104 hCD H locs I hpf => ?_)
    refine lv_iload hx hb dL_master_223 (lv_at hl 10 rfl) ?_
    refine b_icmp_ne hx hb 286 225 dL_master_225 (by decide) hpf (fun hpf => ?_) (fun hpf => ?_)
    · refine lv_iconst (v := (0 : Int32)) hx hb dL_master_286 (by decide) ?_
      exact hC_287 (0 : Int32) x1 x2 S102 L C103 D104 hCD H locs I ls (lv_sub hl [0, 1, 2, 3, 4, 5, 6, 7, 8, 9] rfl) hpf
    refine lv_aload_n hx hb dL_master_228 rfl (lv_at hl 0 rfl) ?_
    refine lv_iload_n hx hb dL_master_229 rfl (lv_at hl 1 rfl) ?_
    refine lv_iconst (v := (0 : Int32)) hx hb dL_master_230 (by decide) ?_
    refine l_cX (rest := []) (As := [.int x1, .int (0 : Int32)]) X I fX_conflicts (c_X9_conflicts l hlt N x1 (0 : Int32)) ⟨Nat.le_of_ble_eq_true rfl, Nat.le_of_ble_eq_true rfl⟩ 231 dL_master_231 rfl hl.1 ⟨Nat.le_refl _, Nat.le_refl _⟩ rfl (Nat.le_of_ble_eq_true rfl) hpf (fun v105 S106 C107 D108 hCD H locs I hpf => ?_)
    refine lv_iload hx hb dL_master_234 (lv_at hl 11 rfl) ?_
    refine b_icmp_ne hx hb 286 236 dL_master_236 (by decide) hpf (fun hpf => ?_) (fun hpf => ?_)
    · refine lv_iconst (v := (0 : Int32)) hx hb dL_master_286 (by decide) ?_
      exact hC_287 (0 : Int32) x1 x2 S106 L C107 D108 hCD H locs I ls (lv_sub hl [0, 1, 2, 3, 4, 5, 6, 7, 8, 9] rfl) hpf
    refine lv_aload_n hx hb dL_master_239 rfl (lv_at hl 0 rfl) ?_
    refine lv_iload_n hx hb dL_master_240 rfl (lv_at hl 1 rfl) ?_
    refine lv_iconst (v := (1 : Int32)) hx hb dL_master_241 (by decide) ?_
    refine l_cX (rest := []) (As := [.int x1, .int (1 : Int32)]) X I fX_conflicts (c_X9_conflicts l hlt N x1 (1 : Int32)) ⟨Nat.le_of_ble_eq_true rfl, Nat.le_of_ble_eq_true rfl⟩ 242 dL_master_242 rfl hl.1 ⟨Nat.le_refl _, Nat.le_refl _⟩ rfl (Nat.le_of_ble_eq_true rfl) hpf (fun v109 S110 C111 D112 hCD H locs I hpf => ?_)
    refine lv_iload hx hb dL_master_245 (lv_at hl 12 rfl) ?_
    refine b_icmp_ne hx hb 286 247 dL_master_247 (by decide) hpf (fun hpf => ?_) (fun hpf => ?_)
    · refine lv_iconst (v := (0 : Int32)) hx hb dL_master_286 (by decide) ?_
      exact hC_287 (0 : Int32) x1 x2 S110 L C111 D112 hCD H locs I ls (lv_sub hl [0, 1, 2, 3, 4, 5, 6, 7, 8, 9] rfl) hpf
    refine lv_aload_n hx hb dL_master_250 rfl (lv_at hl 0 rfl) ?_
    refine lv_iload_n hx hb dL_master_251 rfl (lv_at hl 1 rfl) ?_
    refine lv_iconst (v := (2 : Int32)) hx hb dL_master_252 (by decide) ?_
    refine l_cX (rest := []) (As := [.int x1, .int (2 : Int32)]) X I fX_conflicts (c_X9_conflicts l hlt N x1 (2 : Int32)) ⟨Nat.le_of_ble_eq_true rfl, Nat.le_of_ble_eq_true rfl⟩ 253 dL_master_253 rfl hl.1 ⟨Nat.le_refl _, Nat.le_refl _⟩ rfl (Nat.le_of_ble_eq_true rfl) hpf (fun v113 S114 C115 D116 hCD H locs I hpf => ?_)
    refine lv_iload hx hb dL_master_256 (lv_at hl 13 rfl) ?_
    refine b_icmp_ne hx hb 286 258 dL_master_258 (by decide) hpf (fun hpf => ?_) (fun hpf => ?_)
    · refine lv_iconst (v := (0 : Int32)) hx hb dL_master_286 (by decide) ?_
      exact hC_287 (0 : Int32) x1 x2 S114 L C115 D116 hCD H locs I ls (lv_sub hl [0, 1, 2, 3, 4, 5, 6, 7, 8, 9] rfl) hpf
    refine lv_aload_n hx hb dL_master_261 rfl (lv_at hl 0 rfl) ?_
    refine lv_iload_n hx hb dL_master_262 rfl (lv_at hl 1 rfl) ?_
    refine l_cX (rest := []) (As := [.int x1]) X I fX_marks (c_X9_marks l hlt N x1) ⟨Nat.le_of_ble_eq_true rfl, Nat.le_of_ble_eq_true rfl⟩ 263 dL_master_263 rfl hl.1 ⟨Nat.le_refl _, Nat.le_refl _⟩ rfl (Nat.le_of_ble_eq_true rfl) hpf (fun v117 S118 C119 D120 hCD H locs I hpf => ?_)
    refine lv_iload_n hx hb dL_master_266 rfl (lv_at hl 1 rfl) ?_
    refine lv_aload_n hx hb dL_master_267 rfl (lv_at hl 3 rfl) ?_
    refine lv_aload hx hb dL_master_268 (lv_at hl 4 rfl) ?_
    refine lv_aload hx hb dL_master_270 (lv_at hl 5 rfl) ?_
    refine lv_aload hx hb dL_master_272 (lv_at hl 6 rfl) ?_
    refine lv_aload hx hb dL_master_274 (lv_at hl 8 rfl) ?_
    refine l_cAI (rest := [.int v117]) (As := [.int x1, .ref (a 0), .ref (a 2), .ref (a 3), .ref (a 4), .ref (a 8)]) X I fL_marks (c_L_marks l hlt N x1) rfl ⟨Nat.le_of_ble_eq_true rfl, Nat.le_of_ble_eq_true rfl⟩ 276 dL_master_276 rfl hl.1 rfl (Nat.le_of_ble_eq_true rfl) hCD hpf (fun v121 L122 H locs I hpf => ?_)
    refine b_icmp_ne hx hb 286 279 dL_master_279 (by decide) hpf (fun hpf => ?_) (fun hpf => ?_)
    · refine lv_iconst (v := (0 : Int32)) hx hb dL_master_286 (by decide) ?_
      exact hC_287 (0 : Int32) x1 x2 S118 L122 C119 D120 hCD H locs I ls (lv_sub hl [0, 1, 2, 3, 4, 5, 6, 7, 8, 9] rfl) hpf
    refine lv_iconst (v := (1 : Int32)) hx hb dL_master_282 (by decide) ?_
    refine lv_goto (tgt := 287) hx hb dL_master_283 (by decide) ?_
    exact hC_287 (1 : Int32) x1 x2 S118 L122 C119 D120 hCD H locs I ls (lv_sub hl [0, 1, 2, 3, 4, 5, 6, 7, 8, 9] rfl) hpf
  have hC_15 : ∀ (n_15 : Nat), ∀ (x1 : Int32) (x2 : Int32) (x13 : Int32) (x14 : Int32) (x15 : Int32) (x16 : Int32) (x17 : Int32) (S : kS) (L : lS) (C D : Nat) (hCD : C ≤ 60 ∧ D ≤ 360) (H : Heap) (locs : List Loc), lV dC dI g a (lFr g a Si Li sz) s Si S L H locs → ∀ ls : Array Slot, lv_has ls 22 [(0, .ref (g.2.1 0)), (1, .int x1), (2, .int x2), (3, .ref (a 0)), (4, .ref (a 1)), (5, .ref (a 2)), (6, .ref (a 3)), (7, .ref (a 4)), (8, .ref (a 5)), (10, .ref (a 8)), (11, .ref (a 9)), (12, .ref (a 10)), (13, .int x13), (14, .int x14), (15, .int x15), (16, .int x16), (17, .int x17)] → pL_master_15 N (pL_master_218 N) n_15 x1 x2 x13 x14 x15 x16 x17 S L C D = some (r, Sf, Lf) → W p l e (lRm 8 305 60 360) s m args below meth c H locs C D (MQ below (lQ dC dI g a sz Si Li (qI r) Sf Lf) args s 60 360 (lFr g a Si Li sz)) (F0 m 15 ls []) := by
    intro n_15
    induction n_15 with
    | zero =>
      intro x1 x2 x13 x14 x15 x16 x17 S L C D hCD H locs I ls hl hpf
      rw [pL_master_15] at hpf
      cases hpf
    | succ n_15 ih_15 =>
      have hC_209 : ∀ (t0 : Int32) (t1 : Int32) (x1 : Int32) (x2 : Int32) (x13 : Int32) (x14 : Int32) (x15 : Int32) (x17 : Int32) (S : kS) (L : lS) (C D : Nat) (hCD : C ≤ 60 ∧ D ≤ 360) (H : Heap) (locs : List Loc), lV dC dI g a (lFr g a Si Li sz) s Si S L H locs → ∀ ls : Array Slot, lv_has ls 22 [(0, .ref (g.2.1 0)), (1, .int x1), (2, .int x2), (3, .ref (a 0)), (4, .ref (a 1)), (5, .ref (a 2)), (6, .ref (a 3)), (7, .ref (a 4)), (8, .ref (a 5)), (10, .ref (a 8)), (11, .ref (a 9)), (12, .ref (a 10)), (13, .int x13), (14, .int x14), (15, .int x15), (17, .int x17)] → pL_master_209 N (pL_master_15 N (pL_master_218 N) n_15) t0 t1 x1 x2 x13 x14 x15 x17 S L C D = some (r, Sf, Lf) → W p l e (lRm 8 305 60 360) s m args below meth c H locs C D (MQ below (lQ dC dI g a sz Si Li (qI r) Sf Lf) args s 60 360 (lFr g a Si Li sz)) (F0 m 209 ls [.int t0, .int t1]) := by
        intro t0 t1 x1 x2 x13 x14 x15 x17 S L C D hCD H locs I ls hl hpf
        unfold pL_master_209 at hpf
        refine lv_iadd hx hb dL_master_209 ?_
        refine m_isto hx hb (fun y101 => [(16, .int y101), (0, .ref (g.2.1 0)), (1, .int x1), (2, .int x2), (3, .ref (a 0)), (4, .ref (a 1)), (5, .ref (a 2)), (6, .ref (a 3)), (7, .ref (a 4)), (8, .ref (a 5)), (10, .ref (a 8)), (11, .ref (a 9)), (12, .ref (a 10)), (13, .int x13), (14, .int x14), (15, .int x15), (17, .int x17)]) 210 dL_master_210 hl (by decide) (fun _ => rfl) hpf (fun y101 ls hl hpf => ?_)
        refine m_iinc (w := (1 : Int32)) hx hb (fun y102 => [(17, .int y102), (16, .int y101), (0, .ref (g.2.1 0)), (1, .int x1), (2, .int x2), (3, .ref (a 0)), (4, .ref (a 1)), (5, .ref (a 2)), (6, .ref (a 3)), (7, .ref (a 4)), (8, .ref (a 5)), (10, .ref (a 8)), (11, .ref (a 9)), (12, .ref (a 10)), (13, .int x13), (14, .int x14), (15, .int x15)]) 212 dL_master_212 hl (k := 16) rfl (by decide) (by decide) (fun _ => rfl) hpf (fun y102 ls hl hpf => ?_)
        refine lv_goto (tgt := 15) hx hb dL_master_215 (by decide) ?_
        exact ih_15 x1 x2 x13 x14 x15 y101 y102 S L C D hCD H locs I ls (lv_sub hl [2, 3, 4, 5, 6, 7, 8, 9, 10, 11, 12, 13, 14, 15, 16, 1, 0] rfl) hpf
      have hC_187 : ∀ (t0 : Int32) (t1 : Int32) (x1 : Int32) (x2 : Int32) (x13 : Int32) (x14 : Int32) (x16 : Int32) (x17 : Int32) (x18 : Int32) (S : kS) (L : lS) (C D : Nat) (hCD : C ≤ 60 ∧ D ≤ 360) (H : Heap) (locs : List Loc), lV dC dI g a (lFr g a Si Li sz) s Si S L H locs → ∀ ls : Array Slot, lv_has ls 22 [(0, .ref (g.2.1 0)), (1, .int x1), (2, .int x2), (3, .ref (a 0)), (4, .ref (a 1)), (5, .ref (a 2)), (6, .ref (a 3)), (7, .ref (a 4)), (8, .ref (a 5)), (10, .ref (a 8)), (11, .ref (a 9)), (12, .ref (a 10)), (13, .int x13), (14, .int x14), (16, .int x16), (17, .int x17), (18, .int x18)] → pL_master_187 N (pL_master_15 N (pL_master_218 N) n_15) t0 t1 x1 x2 x13 x14 x16 x17 x18 S L C D = some (r, Sf, Lf) → W p l e (lRm 8 305 60 360) s m args below meth c H locs C D (MQ below (lQ dC dI g a sz Si Li (qI r) Sf Lf) args s 60 360 (lFr g a Si Li sz)) (F0 m 187 ls [.int t0, .int t1]) := by
        intro t0 t1 x1 x2 x13 x14 x16 x17 x18 S L C D hCD H locs I ls hl hpf
        unfold pL_master_187 at hpf
        refine lv_iadd hx hb dL_master_187 ?_
        refine m_isto hx hb (fun y101 => [(15, .int y101), (0, .ref (g.2.1 0)), (1, .int x1), (2, .int x2), (3, .ref (a 0)), (4, .ref (a 1)), (5, .ref (a 2)), (6, .ref (a 3)), (7, .ref (a 4)), (8, .ref (a 5)), (10, .ref (a 8)), (11, .ref (a 9)), (12, .ref (a 10)), (13, .int x13), (14, .int x14), (16, .int x16), (17, .int x17), (18, .int x18)]) 188 dL_master_188 hl (by decide) (fun _ => rfl) hpf (fun y101 ls hl hpf => ?_)
        refine lv_iload hx hb dL_master_190 (lv_at hl 15 rfl) ?_
        refine lv_aload hx hb dL_master_192 (lv_at hl 11 rfl) ?_
        refine lv_iconst (v := (3 : Int32)) hx hb dL_master_194 (by decide) ?_
        refine lv_iload hx hb dL_master_195 (lv_at hl 16 rfl) ?_
        refine lv_imul hx hb dL_master_197 ?_
        refine l_iald X I lR_9 198 dL_master_198 hpf (fun hpf => ?_)
        refine lv_iconst (v := (1 : Int32)) hx hb dL_master_199 (by decide) ?_
        refine b_icmp_ne hx hb 208 200 dL_master_200 (by decide) hpf (fun hpf => ?_) (fun hpf => ?_)
        · refine lv_iconst (v := (0 : Int32)) hx hb dL_master_208 (by decide) ?_
          exact hC_209 (0 : Int32) x16 x1 x2 x13 x14 y101 x17 S L C D hCD H locs I ls (lv_sub hl [1, 2, 3, 4, 5, 6, 7, 8, 9, 10, 11, 12, 13, 14, 0, 16] rfl) hpf
        refine lv_iload hx hb dL_master_203 (lv_at hl 17 rfl) ?_
        refine lv_goto (tgt := 209) hx hb dL_master_205 (by decide) ?_
        exact hC_209 x18 x16 x1 x2 x13 x14 y101 x17 S L C D hCD H locs I ls (lv_sub hl [1, 2, 3, 4, 5, 6, 7, 8, 9, 10, 11, 12, 13, 14, 0, 16] rfl) hpf
      have hC_154 : ∀ (t0 : Int32) (t1 : Int32) (x1 : Int32) (x2 : Int32) (x13 : Int32) (x15 : Int32) (x16 : Int32) (x17 : Int32) (x18 : Int32) (S : kS) (L : lS) (C D : Nat) (hCD : C ≤ 60 ∧ D ≤ 360) (H : Heap) (locs : List Loc), lV dC dI g a (lFr g a Si Li sz) s Si S L H locs → ∀ ls : Array Slot, lv_has ls 22 [(0, .ref (g.2.1 0)), (1, .int x1), (2, .int x2), (3, .ref (a 0)), (4, .ref (a 1)), (5, .ref (a 2)), (6, .ref (a 3)), (7, .ref (a 4)), (8, .ref (a 5)), (10, .ref (a 8)), (11, .ref (a 9)), (12, .ref (a 10)), (13, .int x13), (15, .int x15), (16, .int x16), (17, .int x17), (18, .int x18)] → pL_master_154 N (pL_master_15 N (pL_master_218 N) n_15) t0 t1 x1 x2 x13 x15 x16 x17 x18 S L C D = some (r, Sf, Lf) → W p l e (lRm 8 305 60 360) s m args below meth c H locs C D (MQ below (lQ dC dI g a sz Si Li (qI r) Sf Lf) args s 60 360 (lFr g a Si Li sz)) (F0 m 154 ls [.int t0, .int t1]) := by
        intro t0 t1 x1 x2 x13 x15 x16 x17 x18 S L C D hCD H locs I ls hl hpf
        unfold pL_master_154 at hpf
        refine lv_iadd hx hb dL_master_154 ?_
        refine m_isto hx hb (fun y101 => [(14, .int y101), (0, .ref (g.2.1 0)), (1, .int x1), (2, .int x2), (3, .ref (a 0)), (4, .ref (a 1)), (5, .ref (a 2)), (6, .ref (a 3)), (7, .ref (a 4)), (8, .ref (a 5)), (10, .ref (a 8)), (11, .ref (a 9)), (12, .ref (a 10)), (13, .int x13), (15, .int x15), (16, .int x16), (17, .int x17), (18, .int x18)]) 155 dL_master_155 hl (by decide) (fun _ => rfl) hpf (fun y101 ls hl hpf => ?_)
        refine lv_iload hx hb dL_master_157 (lv_at hl 14 rfl) ?_
        refine lv_aload hx hb dL_master_159 (lv_at hl 11 rfl) ?_
        refine lv_iconst (v := (3 : Int32)) hx hb dL_master_161 (by decide) ?_
        refine lv_iload hx hb dL_master_162 (lv_at hl 16 rfl) ?_
        refine lv_imul hx hb dL_master_164 ?_
        refine l_iald X I lR_9 165 dL_master_165 hpf (fun hpf => ?_)
        refine lv_iconst (v := (1 : Int32)) hx hb dL_master_166 (by decide) ?_
        refine b_icmp_ne hx hb 186 167 dL_master_167 (by decide) hpf (fun hpf => ?_) (fun hpf => ?_)
        · refine lv_iconst (v := (0 : Int32)) hx hb dL_master_186 (by decide) ?_
          exact hC_187 (0 : Int32) x15 x1 x2 x13 y101 x16 x17 x18 S L C D hCD H locs I ls (lv_sub hl [1, 2, 3, 4, 5, 6, 7, 8, 9, 10, 11, 12, 13, 0, 15, 16, 17] rfl) hpf
        refine lv_iload hx hb dL_master_170 (lv_at hl 16 rfl) ?_
        refine lv_aload hx hb dL_master_172 (lv_at hl 11 rfl) ?_
        refine l_cAI (rest := [.int x15]) (As := [.int x17, .ref (a 9)]) X I fL_place (c_L_place l hlt N x17) rfl ⟨Nat.le_of_ble_eq_true rfl, Nat.le_of_ble_eq_true rfl⟩ 174 dL_master_174 rfl hl.1 rfl (Nat.le_of_ble_eq_true rfl) hCD hpf (fun v102 L103 H locs I hpf => ?_)
        refine lv_bipush (v := (-2 : Int32)) hx hb dL_master_177 (by decide) ?_
        refine b_icmp_ne hx hb 186 179 dL_master_179 (by decide) hpf (fun hpf => ?_) (fun hpf => ?_)
        · refine lv_iconst (v := (0 : Int32)) hx hb dL_master_186 (by decide) ?_
          exact hC_187 (0 : Int32) x15 x1 x2 x13 y101 x16 x17 x18 S L103 C D hCD H locs I ls (lv_sub hl [1, 2, 3, 4, 5, 6, 7, 8, 9, 10, 11, 12, 13, 0, 15, 16, 17] rfl) hpf
        refine lv_iconst (v := (1 : Int32)) hx hb dL_master_182 (by decide) ?_
        refine lv_goto (tgt := 187) hx hb dL_master_183 (by decide) ?_
        exact hC_187 (1 : Int32) x15 x1 x2 x13 y101 x16 x17 x18 S L103 C D hCD H locs I ls (lv_sub hl [1, 2, 3, 4, 5, 6, 7, 8, 9, 10, 11, 12, 13, 0, 15, 16, 17] rfl) hpf
      have hC_109 : ∀ (t0 : Int32) (t1 : Int32) (x1 : Int32) (x2 : Int32) (x14 : Int32) (x15 : Int32) (x16 : Int32) (x17 : Int32) (x18 : Int32) (S : kS) (L : lS) (C D : Nat) (hCD : C ≤ 60 ∧ D ≤ 360) (H : Heap) (locs : List Loc), lV dC dI g a (lFr g a Si Li sz) s Si S L H locs → ∀ ls : Array Slot, lv_has ls 22 [(0, .ref (g.2.1 0)), (1, .int x1), (2, .int x2), (3, .ref (a 0)), (4, .ref (a 1)), (5, .ref (a 2)), (6, .ref (a 3)), (7, .ref (a 4)), (8, .ref (a 5)), (10, .ref (a 8)), (11, .ref (a 9)), (12, .ref (a 10)), (14, .int x14), (15, .int x15), (16, .int x16), (17, .int x17), (18, .int x18)] → pL_master_109 N (pL_master_15 N (pL_master_218 N) n_15) t0 t1 x1 x2 x14 x15 x16 x17 x18 S L C D = some (r, Sf, Lf) → W p l e (lRm 8 305 60 360) s m args below meth c H locs C D (MQ below (lQ dC dI g a sz Si Li (qI r) Sf Lf) args s 60 360 (lFr g a Si Li sz)) (F0 m 109 ls [.int t0, .int t1]) := by
        intro t0 t1 x1 x2 x14 x15 x16 x17 x18 S L C D hCD H locs I ls hl hpf
        unfold pL_master_109 at hpf
        refine lv_iadd hx hb dL_master_109 ?_
        refine m_isto hx hb (fun y101 => [(13, .int y101), (0, .ref (g.2.1 0)), (1, .int x1), (2, .int x2), (3, .ref (a 0)), (4, .ref (a 1)), (5, .ref (a 2)), (6, .ref (a 3)), (7, .ref (a 4)), (8, .ref (a 5)), (10, .ref (a 8)), (11, .ref (a 9)), (12, .ref (a 10)), (14, .int x14), (15, .int x15), (16, .int x16), (17, .int x17), (18, .int x18)]) 110 dL_master_110 hl (by decide) (fun _ => rfl) hpf (fun y101 ls hl hpf => ?_)
        refine lv_iload hx hb dL_master_112 (lv_at hl 13 rfl) ?_
        refine lv_aload hx hb dL_master_114 (lv_at hl 11 rfl) ?_
        refine lv_iconst (v := (3 : Int32)) hx hb dL_master_116 (by decide) ?_
        refine lv_iload hx hb dL_master_117 (lv_at hl 16 rfl) ?_
        refine lv_imul hx hb dL_master_119 ?_
        refine l_iald X I lR_9 120 dL_master_120 hpf (fun hpf => ?_)
        refine lv_iconst (v := (1 : Int32)) hx hb dL_master_121 (by decide) ?_
        refine b_icmp_ne hx hb 153 122 dL_master_122 (by decide) hpf (fun hpf => ?_) (fun hpf => ?_)
        · refine lv_iconst (v := (0 : Int32)) hx hb dL_master_153 (by decide) ?_
          exact hC_154 (0 : Int32) x14 x1 x2 y101 x15 x16 x17 x18 S L C D hCD H locs I ls (lv_sub hl [1, 2, 3, 4, 5, 6, 7, 8, 9, 10, 11, 12, 0, 14, 15, 16, 17] rfl) hpf
        refine lv_iload_n hx hb dL_master_125 rfl (lv_at hl 2 rfl) ?_
        refine lv_iload hx hb dL_master_126 (lv_at hl 16 rfl) ?_
        refine lv_aload_n hx hb dL_master_128 rfl (lv_at hl 4 rfl) ?_
        refine lv_aload hx hb dL_master_129 (lv_at hl 6 rfl) ?_
        refine lv_aload hx hb dL_master_131 (lv_at hl 7 rfl) ?_
        refine lv_aload hx hb dL_master_133 (lv_at hl 8 rfl) ?_
        refine lv_aload hx hb dL_master_135 (lv_at hl 9 rfl) ?_
        refine lv_aload hx hb dL_master_137 (lv_at hl 10 rfl) ?_
        refine lv_aload hx hb dL_master_139 (lv_at hl 11 rfl) ?_
        refine l_cAI (rest := [.int x14]) (As := [.int x1, .int x17, .ref (a 0), .ref (a 2), .ref (a 3), .ref (a 4), .ref (a 5), .ref (a 8), .ref (a 9)]) X I fL_shown (c_L_shown l hlt N x1 x17) rfl ⟨Nat.le_of_ble_eq_true rfl, Nat.le_of_ble_eq_true rfl⟩ 141 dL_master_141 rfl hl.1 rfl (Nat.le_of_ble_eq_true rfl) hCD hpf (fun v102 L103 H locs I hpf => ?_)
        refine lv_bipush (v := (99 : Int32)) hx hb dL_master_144 (by decide) ?_
        refine b_icmp_le hx hb 153 146 dL_master_146 (by decide) hpf (fun hpf => ?_) (fun hpf => ?_)
        · refine lv_iconst (v := (0 : Int32)) hx hb dL_master_153 (by decide) ?_
          exact hC_154 (0 : Int32) x14 x1 x2 y101 x15 x16 x17 x18 S L103 C D hCD H locs I ls (lv_sub hl [1, 2, 3, 4, 5, 6, 7, 8, 9, 10, 11, 12, 0, 14, 15, 16, 17] rfl) hpf
        refine lv_iconst (v := (1 : Int32)) hx hb dL_master_149 (by decide) ?_
        refine lv_goto (tgt := 154) hx hb dL_master_150 (by decide) ?_
        exact hC_154 (1 : Int32) x14 x1 x2 y101 x15 x16 x17 x18 S L103 C D hCD H locs I ls (lv_sub hl [1, 2, 3, 4, 5, 6, 7, 8, 9, 10, 11, 12, 0, 14, 15, 16, 17] rfl) hpf
      have hC_91 : ∀ (x1 : Int32) (x2 : Int32) (x13 : Int32) (x14 : Int32) (x15 : Int32) (x16 : Int32) (x17 : Int32) (x18 : Int32) (S : kS) (L : lS) (C D : Nat) (hCD : C ≤ 60 ∧ D ≤ 360) (H : Heap) (locs : List Loc), lV dC dI g a (lFr g a Si Li sz) s Si S L H locs → ∀ ls : Array Slot, lv_has ls 22 [(0, .ref (g.2.1 0)), (1, .int x1), (2, .int x2), (3, .ref (a 0)), (4, .ref (a 1)), (5, .ref (a 2)), (6, .ref (a 3)), (7, .ref (a 4)), (8, .ref (a 5)), (10, .ref (a 8)), (11, .ref (a 9)), (12, .ref (a 10)), (13, .int x13), (14, .int x14), (15, .int x15), (16, .int x16), (17, .int x17), (18, .int x18)] → pL_master_91 N (pL_master_15 N (pL_master_218 N) n_15) x1 x2 x13 x14 x15 x16 x17 x18 S L C D = some (r, Sf, Lf) → W p l e (lRm 8 305 60 360) s m args below meth c H locs C D (MQ below (lQ dC dI g a sz Si Li (qI r) Sf Lf) args s 60 360 (lFr g a Si Li sz)) (F0 m 91 ls []) := by
        intro x1 x2 x13 x14 x15 x16 x17 x18 S L C D hCD H locs I ls hl hpf
        unfold pL_master_91 at hpf
        refine lv_iload hx hb dL_master_91 (lv_at hl 12 rfl) ?_
        refine lv_aload hx hb dL_master_93 (lv_at hl 10 rfl) ?_
        refine lv_iconst (v := (3 : Int32)) hx hb dL_master_95 (by decide) ?_
        refine lv_iload hx hb dL_master_96 (lv_at hl 16 rfl) ?_
        refine lv_imul hx hb dL_master_98 ?_
        refine l_iald X I lR_9 99 dL_master_99 hpf (fun hpf => ?_)
        refine lv_iconst (v := (1 : Int32)) hx hb dL_master_100 (by decide) ?_
        refine b_icmp_ne hx hb 108 101 dL_master_101 (by decide) hpf (fun hpf => ?_) (fun hpf => ?_)
        · refine lv_iconst (v := (0 : Int32)) hx hb dL_master_108 (by decide) ?_
          exact hC_109 (0 : Int32) x13 x1 x2 x14 x15 x16 x17 x18 S L C D hCD H locs I ls (lv_sub hl [0, 1, 2, 3, 4, 5, 6, 7, 8, 9, 10, 11, 13, 14, 15, 16, 17] rfl) hpf
        refine lv_iconst (v := (1 : Int32)) hx hb dL_master_104 (by decide) ?_
        refine lv_goto (tgt := 109) hx hb dL_master_105 (by decide) ?_
        exact hC_109 (1 : Int32) x13 x1 x2 x14 x15 x16 x17 x18 S L C D hCD H locs I ls (lv_sub hl [0, 1, 2, 3, 4, 5, 6, 7, 8, 9, 10, 11, 13, 14, 15, 16, 17] rfl) hpf
      have hC_29 : ∀ (n_29 : Nat), ∀ (x1 : Int32) (x2 : Int32) (x13 : Int32) (x14 : Int32) (x15 : Int32) (x16 : Int32) (x17 : Int32) (x18 : Int32) (x19 : Int32) (S : kS) (L : lS) (C D : Nat) (hCD : C ≤ 60 ∧ D ≤ 360) (H : Heap) (locs : List Loc), lV dC dI g a (lFr g a Si Li sz) s Si S L H locs → ∀ ls : Array Slot, lv_has ls 22 [(0, .ref (g.2.1 0)), (1, .int x1), (2, .int x2), (3, .ref (a 0)), (4, .ref (a 1)), (5, .ref (a 2)), (6, .ref (a 3)), (7, .ref (a 4)), (8, .ref (a 5)), (10, .ref (a 8)), (11, .ref (a 9)), (12, .ref (a 10)), (13, .int x13), (14, .int x14), (15, .int x15), (16, .int x16), (17, .int x17), (18, .int x18), (19, .int x19)] → pL_master_29 N (pL_master_91 N (pL_master_15 N (pL_master_218 N) n_15)) n_29 x1 x2 x13 x14 x15 x16 x17 x18 x19 S L C D = some (r, Sf, Lf) → W p l e (lRm 8 305 60 360) s m args below meth c H locs C D (MQ below (lQ dC dI g a sz Si Li (qI r) Sf Lf) args s 60 360 (lFr g a Si Li sz)) (F0 m 29 ls []) := by
        intro n_29
        induction n_29 with
        | zero =>
          intro x1 x2 x13 x14 x15 x16 x17 x18 x19 S L C D hCD H locs I ls hl hpf
          rw [pL_master_29] at hpf
          cases hpf
        | succ n_29 ih_29 =>
          have hC_82 : ∀ (t0 : Int32) (t1 : Int32) (x1 : Int32) (x2 : Int32) (x13 : Int32) (x14 : Int32) (x15 : Int32) (x16 : Int32) (x17 : Int32) (x19 : Int32) (S : kS) (L : lS) (C D : Nat) (hCD : C ≤ 60 ∧ D ≤ 360) (H : Heap) (locs : List Loc), lV dC dI g a (lFr g a Si Li sz) s Si S L H locs → ∀ ls : Array Slot, lv_has ls 22 [(0, .ref (g.2.1 0)), (1, .int x1), (2, .int x2), (3, .ref (a 0)), (4, .ref (a 1)), (5, .ref (a 2)), (6, .ref (a 3)), (7, .ref (a 4)), (8, .ref (a 5)), (10, .ref (a 8)), (11, .ref (a 9)), (12, .ref (a 10)), (13, .int x13), (14, .int x14), (15, .int x15), (16, .int x16), (17, .int x17), (19, .int x19)] → pL_master_82 N (pL_master_29 N (pL_master_91 N (pL_master_15 N (pL_master_218 N) n_15)) n_29) t0 t1 x1 x2 x13 x14 x15 x16 x17 x19 S L C D = some (r, Sf, Lf) → W p l e (lRm 8 305 60 360) s m args below meth c H locs C D (MQ below (lQ dC dI g a sz Si Li (qI r) Sf Lf) args s 60 360 (lFr g a Si Li sz)) (F0 m 82 ls [.int t0, .int t1]) := by
            intro t0 t1 x1 x2 x13 x14 x15 x16 x17 x19 S L C D hCD H locs I ls hl hpf
            unfold pL_master_82 at hpf
            refine lv_ior hx hb dL_master_82 ?_
            refine m_isto hx hb (fun y101 => [(18, .int y101), (0, .ref (g.2.1 0)), (1, .int x1), (2, .int x2), (3, .ref (a 0)), (4, .ref (a 1)), (5, .ref (a 2)), (6, .ref (a 3)), (7, .ref (a 4)), (8, .ref (a 5)), (10, .ref (a 8)), (11, .ref (a 9)), (12, .ref (a 10)), (13, .int x13), (14, .int x14), (15, .int x15), (16, .int x16), (17, .int x17), (19, .int x19)]) 83 dL_master_83 hl (by decide) (fun _ => rfl) hpf (fun y101 ls hl hpf => ?_)
            refine m_iinc (w := (1 : Int32)) hx hb (fun y102 => [(19, .int y102), (18, .int y101), (0, .ref (g.2.1 0)), (1, .int x1), (2, .int x2), (3, .ref (a 0)), (4, .ref (a 1)), (5, .ref (a 2)), (6, .ref (a 3)), (7, .ref (a 4)), (8, .ref (a 5)), (10, .ref (a 8)), (11, .ref (a 9)), (12, .ref (a 10)), (13, .int x13), (14, .int x14), (15, .int x15), (16, .int x16), (17, .int x17)]) 85 dL_master_85 hl (k := 18) rfl (by decide) (by decide) (fun _ => rfl) hpf (fun y102 ls hl hpf => ?_)
            refine lv_goto (tgt := 29) hx hb dL_master_88 (by decide) ?_
            exact ih_29 x1 x2 x13 x14 x15 x16 x17 y101 y102 S L C D hCD H locs I ls (lv_sub hl [2, 3, 4, 5, 6, 7, 8, 9, 10, 11, 12, 13, 14, 15, 16, 17, 18, 1, 0] rfl) hpf
          intro x1 x2 x13 x14 x15 x16 x17 x18 x19 S L C D hCD H locs I ls hl hpf
          rw [pL_master_29] at hpf
          refine lv_iload hx hb dL_master_29 (lv_at hl 18 rfl) ?_
          refine lv_aload_n hx hb dL_master_31 rfl (lv_at hl 3 rfl) ?_
          refine lv_iconst (v := (2 : Int32)) hx hb dL_master_32 (by decide) ?_
          refine l_iald X I lR_0 33 dL_master_33 hpf (fun hpf => ?_)
          refine b_icmp_ge hx hb 91 34 dL_master_34 (by decide) hpf (fun hpf => ?_) (fun hpf => ?_)
          · exact hC_91 x1 x2 x13 x14 x15 x16 x17 x18 S L C D hCD H locs I ls (lv_sub hl [0, 1, 2, 3, 4, 5, 6, 7, 8, 9, 10, 11, 12, 13, 14, 15, 16, 17] rfl) hpf
          refine lv_iload hx hb dL_master_37 (lv_at hl 17 rfl) ?_
          refine lv_aload hx hb dL_master_39 (lv_at hl 10 rfl) ?_
          refine lv_iconst (v := (3 : Int32)) hx hb dL_master_41 (by decide) ?_
          refine lv_iload hx hb dL_master_42 (lv_at hl 16 rfl) ?_
          refine lv_imul hx hb dL_master_44 ?_
          refine lv_iconst (v := (1 : Int32)) hx hb dL_master_45 (by decide) ?_
          refine lv_iadd hx hb dL_master_46 ?_
          refine l_iald X I lR_9 47 dL_master_47 hpf (fun hpf => ?_)
          refine lv_aload hx hb dL_master_48 (lv_at hl 4 rfl) ?_
          refine l_cAI (rest := [.int x18]) (As := [.int (aI L 9 (((3 : Int32) * x17) + (1 : Int32)).toNatClampNeg), .ref (a 1)]) X I fL_requires (c_L_requires l hlt N (aI L 9 (((3 : Int32) * x17) + (1 : Int32)).toNatClampNeg)) rfl ⟨Nat.le_of_ble_eq_true rfl, Nat.le_of_ble_eq_true rfl⟩ 50 dL_master_50 rfl hl.1 rfl (Nat.le_of_ble_eq_true rfl) hCD hpf (fun v101 L102 H locs I hpf => ?_)
          refine lv_iload hx hb dL_master_53 (lv_at hl 18 rfl) ?_
          refine lv_ishr hx hb dL_master_55 ?_
          refine lv_iconst (v := (1 : Int32)) hx hb dL_master_56 (by decide) ?_
          refine lv_iand hx hb dL_master_57 ?_
          refine lv_iconst (v := (1 : Int32)) hx hb dL_master_58 (by decide) ?_
          refine b_icmp_ne hx hb 81 59 dL_master_59 (by decide) hpf (fun hpf => ?_) (fun hpf => ?_)
          · refine lv_iconst (v := (0 : Int32)) hx hb dL_master_81 (by decide) ?_
            exact hC_82 (0 : Int32) x18 x1 x2 x13 x14 x15 x16 x17 x19 S L102 C D hCD H locs I ls (lv_sub hl [0, 1, 2, 3, 4, 5, 6, 7, 8, 9, 10, 11, 12, 13, 14, 15, 16, 18] rfl) hpf
          refine lv_aload hx hb dL_master_62 (lv_at hl 11 rfl) ?_
          refine lv_iconst (v := (3 : Int32)) hx hb dL_master_64 (by decide) ?_
          refine lv_iload hx hb dL_master_65 (lv_at hl 16 rfl) ?_
          refine lv_imul hx hb dL_master_67 ?_
          refine lv_iload hx hb dL_master_68 (lv_at hl 18 rfl) ?_
          refine lv_iadd hx hb dL_master_70 ?_
          refine l_lald X I lR_10 71 dL_master_71 hpf (fun hpf => ?_)
          refine lv_lconst (v := (0 : Int64)) hx hb dL_master_72 (by decide) ?_
          refine W.lcmp hx hb dL_master_73 ?_
          refine b_if_ne hx hb 81 74 dL_master_74 (by decide) hpf (fun hpf => ?_) (fun hpf => ?_)
          · refine lv_iconst (v := (0 : Int32)) hx hb dL_master_81 (by decide) ?_
            exact hC_82 (0 : Int32) x18 x1 x2 x13 x14 x15 x16 x17 x19 S L102 C D hCD H locs I ls (lv_sub hl [0, 1, 2, 3, 4, 5, 6, 7, 8, 9, 10, 11, 12, 13, 14, 15, 16, 18] rfl) hpf
          refine lv_iconst (v := (1 : Int32)) hx hb dL_master_77 (by decide) ?_
          refine lv_goto (tgt := 82) hx hb dL_master_78 (by decide) ?_
          exact hC_82 (1 : Int32) x18 x1 x2 x13 x14 x15 x16 x17 x19 S L102 C D hCD H locs I ls (lv_sub hl [0, 1, 2, 3, 4, 5, 6, 7, 8, 9, 10, 11, 12, 13, 14, 15, 16, 18] rfl) hpf
      intro x1 x2 x13 x14 x15 x16 x17 S L C D hCD H locs I ls hl hpf
      rw [pL_master_15] at hpf
      refine lv_iload hx hb dL_master_15 (lv_at hl 16 rfl) ?_
      refine lv_aload_n hx hb dL_master_17 rfl (lv_at hl 3 rfl) ?_
      refine lv_iconst (v := (0 : Int32)) hx hb dL_master_18 (by decide) ?_
      refine l_iald X I lR_0 19 dL_master_19 hpf (fun hpf => ?_)
      refine b_icmp_ge hx hb 218 20 dL_master_20 (by decide) hpf (fun hpf => ?_) (fun hpf => ?_)
      · exact hC_218 x1 x2 x13 x14 x15 x16 S L C D hCD H locs I ls (lv_sub hl [0, 1, 2, 3, 5, 6, 7, 8, 9, 10, 12, 13, 14, 15] rfl) hpf
      refine lv_iconst (v := (0 : Int32)) hx hb dL_master_23 (by decide) ?_
      refine lv_istore (lv' := [(18, .int (0 : Int32)), (0, .ref (g.2.1 0)), (1, .int x1), (2, .int x2), (3, .ref (a 0)), (4, .ref (a 1)), (5, .ref (a 2)), (6, .ref (a 3)), (7, .ref (a 4)), (8, .ref (a 5)), (10, .ref (a 8)), (11, .ref (a 9)), (12, .ref (a 10)), (13, .int x13), (14, .int x14), (15, .int x15), (16, .int x16), (17, .int x17)]) hx hb dL_master_24 hl (by decide) rfl (fun ls hl => ?_)
      refine lv_iconst (v := (0 : Int32)) hx hb dL_master_26 (by decide) ?_
      refine lv_istore (lv' := [(19, .int (0 : Int32)), (18, .int (0 : Int32)), (0, .ref (g.2.1 0)), (1, .int x1), (2, .int x2), (3, .ref (a 0)), (4, .ref (a 1)), (5, .ref (a 2)), (6, .ref (a 3)), (7, .ref (a 4)), (8, .ref (a 5)), (10, .ref (a 8)), (11, .ref (a 9)), (12, .ref (a 10)), (13, .int x13), (14, .int x14), (15, .int x15), (16, .int x16), (17, .int x17)]) hx hb dL_master_27 hl (by decide) rfl (fun ls hl => ?_)
      exact hC_29 N x1 x2 x13 x14 x15 x16 x17 (0 : Int32) (0 : Int32) S L C D hCD H locs I ls (lv_sub hl [2, 3, 4, 5, 6, 7, 8, 9, 10, 11, 12, 13, 14, 15, 16, 17, 18, 1, 0] rfl) hpf
  refine lv_iconst (v := (0 : Int32)) hx hb dL_master_0 (by decide) ?_
  refine lv_istore (lv' := [(13, .int (0 : Int32)), (0, .ref (g.2.1 0)), (1, .int x1), (2, .int x2), (3, .ref (a 0)), (4, .ref (a 1)), (5, .ref (a 2)), (6, .ref (a 3)), (7, .ref (a 4)), (8, .ref (a 5)), (9, .ref (a 6)), (10, .ref (a 8)), (11, .ref (a 9)), (12, .ref (a 10))]) hx hb dL_master_1 hl (by decide) rfl (fun ls hl => ?_)
  refine lv_iconst (v := (0 : Int32)) hx hb dL_master_3 (by decide) ?_
  refine lv_istore (lv' := [(14, .int (0 : Int32)), (13, .int (0 : Int32)), (0, .ref (g.2.1 0)), (1, .int x1), (2, .int x2), (3, .ref (a 0)), (4, .ref (a 1)), (5, .ref (a 2)), (6, .ref (a 3)), (7, .ref (a 4)), (8, .ref (a 5)), (9, .ref (a 6)), (10, .ref (a 8)), (11, .ref (a 9)), (12, .ref (a 10))]) hx hb dL_master_4 hl (by decide) rfl (fun ls hl => ?_)
  refine lv_iconst (v := (0 : Int32)) hx hb dL_master_6 (by decide) ?_
  refine lv_istore (lv' := [(15, .int (0 : Int32)), (14, .int (0 : Int32)), (13, .int (0 : Int32)), (0, .ref (g.2.1 0)), (1, .int x1), (2, .int x2), (3, .ref (a 0)), (4, .ref (a 1)), (5, .ref (a 2)), (6, .ref (a 3)), (7, .ref (a 4)), (8, .ref (a 5)), (9, .ref (a 6)), (10, .ref (a 8)), (11, .ref (a 9)), (12, .ref (a 10))]) hx hb dL_master_7 hl (by decide) rfl (fun ls hl => ?_)
  refine lv_iconst (v := (0 : Int32)) hx hb dL_master_9 (by decide) ?_
  refine lv_istore (lv' := [(16, .int (0 : Int32)), (15, .int (0 : Int32)), (14, .int (0 : Int32)), (13, .int (0 : Int32)), (0, .ref (g.2.1 0)), (1, .int x1), (2, .int x2), (3, .ref (a 0)), (4, .ref (a 1)), (5, .ref (a 2)), (6, .ref (a 3)), (7, .ref (a 4)), (8, .ref (a 5)), (9, .ref (a 6)), (10, .ref (a 8)), (11, .ref (a 9)), (12, .ref (a 10))]) hx hb dL_master_10 hl (by decide) rfl (fun ls hl => ?_)
  refine lv_iconst (v := (0 : Int32)) hx hb dL_master_12 (by decide) ?_
  refine lv_istore (lv' := [(17, .int (0 : Int32)), (16, .int (0 : Int32)), (15, .int (0 : Int32)), (14, .int (0 : Int32)), (13, .int (0 : Int32)), (0, .ref (g.2.1 0)), (1, .int x1), (2, .int x2), (3, .ref (a 0)), (4, .ref (a 1)), (5, .ref (a 2)), (6, .ref (a 3)), (7, .ref (a 4)), (8, .ref (a 5)), (9, .ref (a 6)), (10, .ref (a 8)), (11, .ref (a 9)), (12, .ref (a 10))]) hx hb dL_master_13 hl (by decide) rfl (fun ls hl => ?_)
  exact hC_15 N x1 x2 (0 : Int32) (0 : Int32) (0 : Int32) (0 : Int32) (0 : Int32) Si Li 0 0 hCD H locs I ls (lv_sub hl [5, 6, 7, 8, 9, 10, 11, 12, 13, 15, 16, 17, 4, 3, 2, 1, 0] rfl) hpf
