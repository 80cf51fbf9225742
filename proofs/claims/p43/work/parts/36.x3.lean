theorem fn_X9_X8_living : kFnI RX9 yX8_living cX8_living 1 (some .long) 0 338 := ⟨⟨kC_729, kC_121, kC_127, ⟨by decide +kernel, by decide +kernel, by decide +kernel⟩, by decide⟩, kC_138, kC_139⟩
theorem fn_X9_X9_needIndex : kFnS RX9 yX9_needIndex cX9_needIndex 1 none 1 341 := ⟨⟨kC_734, kC_466, kC_733, ⟨by decide +kernel, by decide +kernel, by decide +kernel⟩, by decide⟩, kC_735⟩
theorem fn_X9_X8_valueNumbered : kFnI RX9 yX8_valueNumbered cX8_valueNumbered 5 (some .int) 3 344 := ⟨⟨kC_736, kC_121, kC_396, ⟨by decide +kernel, by decide +kernel, by decide +kernel⟩, by decide⟩, kC_737, kC_738⟩
theorem fn_X9_X8_valuesOf : kFnI RX9 yX8_valuesOf cX8_valuesOf 3 (some .int) 2 191 := ⟨⟨kC_620, kC_121, kC_390, ⟨by decide +kernel, by decide +kernel, by decide +kernel⟩, by decide⟩, kC_394, kC_395⟩
theorem fn_X9_X9_needRight : kFnS RX9 yX9_needRight cX9_needRight 1 none 1 230 := ⟨⟨kC_651, kC_466, kC_647, ⟨by decide +kernel, by decide +kernel, by decide +kernel⟩, by decide⟩, kC_652⟩
theorem fn_X9_X8_rankedAt : kFnI RX9 yX8_rankedAt cX8_rankedAt 5 (some (.object "MasterTree$Numbers")) 1 351 := ⟨⟨kC_744, kC_121, kC_251, ⟨by decide +kernel, by decide +kernel, by decide +kernel⟩, by decide⟩, kC_255, kC_256⟩
theorem fn_X9_X5_at : kFnI RX9 yX5_at cX5_at 2 (some .int) 1 359 := ⟨⟨kC_745, kC_109, kC_126, ⟨by decide +kernel, by decide +kernel, by decide +kernel⟩, by decide⟩, kC_135, kC_136⟩
theorem fn_X9_X9_isInConflict : kFnS RX9 yX9_isInConflict cX9_isInConflict 3 (some .boolean) 3 367 := ⟨⟨kC_751, kC_466, kC_750, ⟨by decide +kernel, by decide +kernel, by decide +kernel⟩, by decide⟩, kC_752⟩
theorem fn_X9_X4_toldOf : kFnI RX9 yX4_toldOf cX4_toldOf 3 (some .int) 2 374 := ⟨⟨kC_756, kC_284, kC_277, ⟨by decide +kernel, by decide +kernel, by decide +kernel⟩, by decide⟩, kC_282, kC_283⟩
-- ===== X9_live =====
def pX9_live (N : Nat) (x1 : Int32) (S : kS) : Option ((Int32 ⊕ Nat) × kS) :=
    bx (pX9_masterAt N x1 S) fun v101 S102 =>
    gn v101 4 <|
    bk (pX8_living N v101 S102) fun v104 S105 =>
    bk (pJ13_bitCount_95d88 N v104 S105) fun v106 S107 =>
    some (.inl v106, S107)
set_option maxRecDepth 100000 in
set_option maxHeartbeats 4000000 in
theorem c_X9_live (l : Launch) (hlt : l.stackTraces = false) (N : Nat) (x1 : Int32) : kMx l yX9_live cX9_live 2 (some .int) 7 1 6 (fun g => [.ref (g.2.1 0), .int x1]) rI (pX9_live N x1) := by
  refine xStart hlt RX9 (by decide +kernel) rfl (fun g => [(0, .ref (g.2.1 0)), (1, .int x1)]) (fun _ => Nat.le_of_ble_eq_true rfl) (fun _ => rfl) ?_
  intro dC dI g sz Si o Sf hpf p e s m args below meth c X XX hr H locs I hc ls hl
  have hx := X.1
  have hb := X.2.1
  unfold pX9_live at hpf
  refine lv_aload_n hx hb dX9_live_0 rfl (lv_at hl 0 rfl) ?_
  refine lv_iload_n hx hb dX9_live_1 rfl (lv_at hl 1 rfl) ?_
  refine x_cIm (rest := []) (As := [.int x1]) (d := 7) ⟨Nat.le_refl _, Nat.le_refl _⟩ X XX I hc fn_X9_X9_masterAt kCl_9 rfl (kO_X (g.1, g.2.1, g.2.2.1, g.2.2.2.1, g.2.2.2.2) Si) (c_X9_masterAt l hlt N x1) rfl (by decide) 2 dX9_live_2 rfl hl.1 rfl (Nat.le_of_ble_eq_true rfl) ⟨Nat.le_of_ble_eq_true rfl, Nat.le_of_ble_eq_true rfl⟩ ⟨Nat.le_of_ble_eq_true rfl, Nat.le_of_ble_eq_true rfl⟩ hpf (fun v101 S102 cca103 cda103 cea103 H locs I hc hg hpf => ?_)
  have X := kX_to X cca103 cda103 cea103
  obtain ⟨hv101, hpf⟩ := gn_some hpf
  refine k_get (k := 0) X I kCl_4 (kO_M (g.1, g.2.1, cca103, cda103, cea103) S102 v101 hv101) 1 (by decide) rfl kC_499 5 dX9_live_5 ?_
  refine k_cIl (rest := []) (As := []) (d := 7) ⟨Nat.le_refl _, Nat.le_refl _⟩ X I fn_X9_X8_living kCl_8 rfl (kO_T (g.1, g.2.1, cca103, cda103, cea103) S102 v101 (Nat.lt_succ_of_lt hv101)) (c_X8_living l N v101 (Nat.lt_succ_of_lt hv101)) rfl (by decide) 8 dX9_live_8 rfl hl.1 rfl (Nat.le_of_ble_eq_true rfl) ⟨Nat.le_of_ble_eq_true rfl, Nat.le_of_ble_eq_true rfl⟩ hpf (fun v104 S105 H locs I hm hpf => ?_)
  refine k_cSi (rest := []) (As := [.long v104]) (d := 7) ⟨Nat.le_refl _, Nat.le_refl _⟩ X I fn_X9_J13_bitCount_95d88 (c_J13_bitCount_95d88 l N v104) rfl (by decide) 11 dX9_live_11 rfl hl.1 rfl (Nat.le_of_ble_eq_true rfl) ⟨Nat.le_of_ble_eq_true rfl, Nat.le_of_ble_eq_true rfl⟩ hpf (fun v106 S107 H locs I hm hpf => ?_)
  exact x_reti X I hc hr ⟨Nat.le_of_ble_eq_true rfl, Nat.le_of_ble_eq_true rfl⟩ 14 dX9_live_14 hpf
-- ===== X9_parentOf =====
def pX9_parentOf (N : Nat) (x1 : Int32) (x2 : Int32) (S : kS) : Option ((Int32 ⊕ Nat) × kS) :=
    bx (pX9_masterAt N x1 S) fun v101 S102 =>
    gn v101 4 <|
    bx (pX9_needEntry N v101 x2 S102) fun v104 S105 =>
    bk (pX8_placeOf N v101 x2 S105) fun v107 S108 =>
    some (.inl v107, S108)
set_option maxRecDepth 100000 in
set_option maxHeartbeats 4000000 in
theorem c_X9_parentOf (l : Launch) (hlt : l.stackTraces = false) (N : Nat) (x1 : Int32) (x2 : Int32) : kMx l yX9_parentOf cX9_parentOf 4 (some .int) 7 2 12 (fun g => [.ref (g.2.1 0), .int x1, .int x2]) rI (pX9_parentOf N x1 x2) := by
  refine xStart hlt RX9 (by decide +kernel) rfl (fun g => [(0, .ref (g.2.1 0)), (1, .int x1), (2, .int x2)]) (fun _ => Nat.le_of_ble_eq_true rfl) (fun _ => rfl) ?_
  intro dC dI g sz Si o Sf hpf p e s m args below meth c X XX hr H locs I hc ls hl
  have hx := X.1
  have hb := X.2.1
  unfold pX9_parentOf at hpf
  refine lv_aload_n hx hb dX9_parentOf_0 rfl (lv_at hl 0 rfl) ?_
  refine lv_iload_n hx hb dX9_parentOf_1 rfl (lv_at hl 1 rfl) ?_
  refine x_cIm (rest := []) (As := [.int x1]) (d := 7) ⟨Nat.le_refl _, Nat.le_refl _⟩ X XX I hc fn_X9_X9_masterAt kCl_9 rfl (kO_X (g.1, g.2.1, g.2.2.1, g.2.2.2.1, g.2.2.2.2) Si) (c_X9_masterAt l hlt N x1) rfl (by decide) 2 dX9_parentOf_2 rfl hl.1 rfl (Nat.le_of_ble_eq_true rfl) ⟨Nat.le_of_ble_eq_true rfl, Nat.le_of_ble_eq_true rfl⟩ ⟨Nat.le_of_ble_eq_true rfl, Nat.le_of_ble_eq_true rfl⟩ hpf (fun v101 S102 cca103 cda103 cea103 H locs I hc hg hpf => ?_)
  have X := kX_to X cca103 cda103 cea103
  obtain ⟨hv101, hpf⟩ := gn_some hpf
  refine lv_astore_n (lv' := [(3, .ref (g.2.1 (18 + 2 * v101))), (0, .ref (g.2.1 0)), (1, .int x1), (2, .int x2)]) hx hb dX9_parentOf_5 rfl hl (by decide) rfl (fun ls hl => ?_)
  refine lv_aload_n hx hb dX9_parentOf_6 rfl (lv_at hl 0 rfl) ?_
  refine lv_iload_n hx hb dX9_parentOf_7 rfl (lv_at hl 3 rfl) ?_
  refine x_cSv (rest := []) (As := [.ref (g.2.1 (18 + 2 * v101)), .int x2]) (d := 7) ⟨Nat.le_refl _, Nat.le_refl _⟩ X XX I hc fn_X9_X9_needEntry (c_X9_needEntry l hlt N v101 hv101 x2) rfl (by decide) 8 dX9_parentOf_8 rfl hl.1 rfl (Nat.le_of_ble_eq_true rfl) ⟨Nat.le_of_ble_eq_true rfl, Nat.le_of_ble_eq_true rfl⟩ ⟨Nat.le_of_ble_eq_true rfl, Nat.le_of_ble_eq_true rfl⟩ hpf (fun v104 S105 cca106 cda106 cea106 H locs I hc hg hpf => ?_)
  have X := kX_to X cca106 cda106 cea106
  refine lv_aload_n hx hb dX9_parentOf_11 rfl (lv_at hl 0 rfl) ?_
  refine k_get (k := 0) X I kCl_4 (kO_M (g.1, g.2.1, cca106, cda106, cea106) S105 v101 hv101) 1 (by decide) rfl kC_499 12 dX9_parentOf_12 ?_
  refine lv_iload_n hx hb dX9_parentOf_15 rfl (lv_at hl 3 rfl) ?_
  refine k_cIi (rest := []) (As := [.int x2]) (d := 7) ⟨Nat.le_refl _, Nat.le_refl _⟩ X I fn_X9_X8_placeOf kCl_8 rfl (kO_T (g.1, g.2.1, cca106, cda106, cea106) S105 v101 (Nat.lt_succ_of_lt hv101)) (c_X8_placeOf l N v101 (Nat.lt_succ_of_lt hv101) x2) rfl (by decide) 16 dX9_parentOf_16 rfl hl.1 rfl (Nat.le_of_ble_eq_true rfl) ⟨Nat.le_of_ble_eq_true rfl, Nat.le_of_ble_eq_true rfl⟩ hpf (fun v107 S108 H locs I hm hpf => ?_)
  exact x_reti X I hc hr ⟨Nat.le_of_ble_eq_true rfl, Nat.le_of_ble_eq_true rfl⟩ 19 dX9_parentOf_19 hpf
-- ===== X9_parentAnew =====
def pX9_parentAnew (N : Nat) (x1 : Int32) (x2 : Int32) (S : kS) : Option ((Int32 ⊕ Nat) × kS) :=
    bx (pX9_masterAt N x1 S) fun v101 S102 =>
    gn v101 4 <|
    bx (pX9_needEntry N v101 x2 S102) fun v104 S105 =>
    bk (pX9_redo N 4 v101 S105) fun v107 S108 =>
    bk (pX8_placeOf N 4 x2 S108) fun v109 S110 =>
    some (.inl v109, S110)
set_option maxRecDepth 100000 in
set_option maxHeartbeats 4000000 in
theorem c_X9_parentAnew (l : Launch) (hlt : l.stackTraces = false) (N : Nat) (x1 : Int32) (x2 : Int32) : kMx l yX9_parentAnew cX9_parentAnew 4 (some .int) 7 2 12 (fun g => [.ref (g.2.1 0), .int x1, .int x2]) rI (pX9_parentAnew N x1 x2) := by
  refine xStart hlt RX9 (by decide +kernel) rfl (fun g => [(0, .ref (g.2.1 0)), (1, .int x1), (2, .int x2)]) (fun _ => Nat.le_of_ble_eq_true rfl) (fun _ => rfl) ?_
  intro dC dI g sz Si o Sf hpf p e s m args below meth c X XX hr H locs I hc ls hl
  have hx := X.1
  have hb := X.2.1
  unfold pX9_parentAnew at hpf
  refine lv_aload_n hx hb dX9_parentAnew_0 rfl (lv_at hl 0 rfl) ?_
  refine lv_iload_n hx hb dX9_parentAnew_1 rfl (lv_at hl 1 rfl) ?_
  refine x_cIm (rest := []) (As := [.int x1]) (d := 7) ⟨Nat.le_refl _, Nat.le_refl _⟩ X XX I hc fn_X9_X9_masterAt kCl_9 rfl (kO_X (g.1, g.2.1, g.2.2.1, g.2.2.2.1, g.2.2.2.2) Si) (c_X9_masterAt l hlt N x1) rfl (by decide) 2 dX9_parentAnew_2 rfl hl.1 rfl (Nat.le_of_ble_eq_true rfl) ⟨Nat.le_of_ble_eq_true rfl, Nat.le_of_ble_eq_true rfl⟩ ⟨Nat.le_of_ble_eq_true rfl, Nat.le_of_ble_eq_true rfl⟩ hpf (fun v101 S102 cca103 cda103 cea103 H locs I hc hg hpf => ?_)
  have X := kX_to X cca103 cda103 cea103
  obtain ⟨hv101, hpf⟩ := gn_some hpf
  refine lv_astore_n (lv' := [(3, .ref (g.2.1 (18 + 2 * v101))), (0, .ref (g.2.1 0)), (1, .int x1), (2, .int x2)]) hx hb dX9_parentAnew_5 rfl hl (by decide) rfl (fun ls hl => ?_)
  refine lv_aload_n hx hb dX9_parentAnew_6 rfl (lv_at hl 0 rfl) ?_
  refine lv_iload_n hx hb dX9_parentAnew_7 rfl (lv_at hl 3 rfl) ?_
  refine x_cSv (rest := []) (As := [.ref (g.2.1 (18 + 2 * v101)), .int x2]) (d := 7) ⟨Nat.le_refl _, Nat.le_refl _⟩ X XX I hc fn_X9_X9_needEntry (c_X9_needEntry l hlt N v101 hv101 x2) rfl (by decide) 8 dX9_parentAnew_8 rfl hl.1 rfl (Nat.le_of_ble_eq_true rfl) ⟨Nat.le_of_ble_eq_true rfl, Nat.le_of_ble_eq_true rfl⟩ ⟨Nat.le_of_ble_eq_true rfl, Nat.le_of_ble_eq_true rfl⟩ hpf (fun v104 S105 cca106 cda106 cea106 H locs I hc hg hpf => ?_)
  have X := kX_to X cca106 cda106 cea106
  refine lv_aload_n hx hb dX9_parentAnew_11 rfl (lv_at hl 1 rfl) ?_
  refine lv_aload_n hx hb dX9_parentAnew_12 rfl (lv_at hl 1 rfl) ?_
  refine k_get (k := 0) X I kCl_9 (kO_X (g.1, g.2.1, cca106, cda106, cea106) S105) 6 (by decide) rfl kC_420 13 dX9_parentAnew_13 ?_
  refine lv_aload_n hx hb dX9_parentAnew_16 rfl (lv_at hl 0 rfl) ?_
  refine k_cIv (rest := []) (As := [.ref (g.2.1 (26 + 15 * 4)), .ref (g.2.1 (18 + 2 * v101))]) (d := 7) ⟨Nat.le_refl _, Nat.le_refl _⟩ X I fn_X9_X9_redo kCl_9 rfl (kO_X (g.1, g.2.1, cca106, cda106, cea106) S105) (c_X9_redo l N 4 (by decide) v101 hv101) rfl (by decide) 17 dX9_parentAnew_17 rfl hl.1 rfl (Nat.le_of_ble_eq_true rfl) ⟨Nat.le_of_ble_eq_true rfl, Nat.le_of_ble_eq_true rfl⟩ hpf (fun v107 S108 H locs I hm hpf => ?_)
  refine lv_aload_n hx hb dX9_parentAnew_20 rfl (lv_at hl 1 rfl) ?_
  refine k_get (k := 0) X I kCl_9 (kO_X (g.1, g.2.1, cca106, cda106, cea106) S108) 6 (by decide) rfl kC_420 21 dX9_parentAnew_21 ?_
  refine lv_iload_n hx hb dX9_parentAnew_24 rfl (lv_at hl 3 rfl) ?_
  refine k_cIi (rest := []) (As := [.int x2]) (d := 7) ⟨Nat.le_refl _, Nat.le_refl _⟩ X I fn_X9_X8_placeOf kCl_8 rfl (kO_T (g.1, g.2.1, cca106, cda106, cea106) S108 4 (by decide)) (c_X8_placeOf l N 4 (by decide) x2) rfl (by decide) 25 dX9_parentAnew_25 rfl hl.1 rfl (Nat.le_of_ble_eq_true rfl) ⟨Nat.le_of_ble_eq_true rfl, Nat.le_of_ble_eq_true rfl⟩ hpf (fun v109 S110 H locs I hm hpf => ?_)
  exact x_reti X I hc hr ⟨Nat.le_of_ble_eq_true rfl, Nat.le_of_ble_eq_true rfl⟩ 28 dX9_parentAnew_28 hpf
-- ===== X9_nameOf =====
def pX9_nameOf (N : Nat) (x1 : Int32) (x2 : Int32) (S : kS) : Option ((Int32 ⊕ Nat) × kS) :=
    bx (pX9_masterAt N x1 S) fun v101 S102 =>
    gn v101 4 <|
    bx (pX9_needEntry N v101 x2 S102) fun v104 S105 =>
    bk (pX8_shownName N v101 x2 S105) fun v107 S108 =>
    some (.inl v107, S108)
set_option maxRecDepth 100000 in
set_option maxHeartbeats 4000000 in
theorem c_X9_nameOf (l : Launch) (hlt : l.stackTraces = false) (N : Nat) (x1 : Int32) (x2 : Int32) : kMx l yX9_nameOf cX9_nameOf 4 (some .int) 7 2 12 (fun g => [.ref (g.2.1 0), .int x1, .int x2]) rI (pX9_nameOf N x1 x2) := by
  refine xStart hlt RX9 (by decide +kernel) rfl (fun g => [(0, .ref (g.2.1 0)), (1, .int x1), (2, .int x2)]) (fun _ => Nat.le_of_ble_eq_true rfl) (fun _ => rfl) ?_
  intro dC dI g sz Si o Sf hpf p e s m args below meth c X XX hr H locs I hc ls hl
  have hx := X.1
  have hb := X.2.1
  unfold pX9_nameOf at hpf
  refine lv_aload_n hx hb dX9_nameOf_0 rfl (lv_at hl 0 rfl) ?_
  refine lv_iload_n hx hb dX9_nameOf_1 rfl (lv_at hl 1 rfl) ?_
  refine x_cIm (rest := []) (As := [.int x1]) (d := 7) ⟨Nat.le_refl _, Nat.le_refl _⟩ X XX I hc fn_X9_X9_masterAt kCl_9 rfl (kO_X (g.1, g.2.1, g.2.2.1, g.2.2.2.1, g.2.2.2.2) Si) (c_X9_masterAt l hlt N x1) rfl (by decide) 2 dX9_nameOf_2 rfl hl.1 rfl (Nat.le_of_ble_eq_true rfl) ⟨Nat.le_of_ble_eq_true rfl, Nat.le_of_ble_eq_true rfl⟩ ⟨Nat.le_of_ble_eq_true rfl, Nat.le_of_ble_eq_true rfl⟩ hpf (fun v101 S102 cca103 cda103 cea103 H locs I hc hg hpf => ?_)
  have X := kX_to X cca103 cda103 cea103
  obtain ⟨hv101, hpf⟩ := gn_some hpf
  refine lv_astore_n (lv' := [(3, .ref (g.2.1 (18 + 2 * v101))), (0, .ref (g.2.1 0)), (1, .int x1), (2, .int x2)]) hx hb dX9_nameOf_5 rfl hl (by decide) rfl (fun ls hl => ?_)
  refine lv_aload_n hx hb dX9_nameOf_6 rfl (lv_at hl 0 rfl) ?_
  refine lv_iload_n hx hb dX9_nameOf_7 rfl (lv_at hl 3 rfl) ?_
  refine x_cSv (rest := []) (As := [.ref (g.2.1 (18 + 2 * v101)), .int x2]) (d := 7) ⟨Nat.le_refl _, Nat.le_refl _⟩ X XX I hc fn_X9_X9_needEntry (c_X9_needEntry l hlt N v101 hv101 x2) rfl (by decide) 8 dX9_nameOf_8 rfl hl.1 rfl (Nat.le_of_ble_eq_true rfl) ⟨Nat.le_of_ble_eq_true rfl, Nat.le_of_ble_eq_true rfl⟩ ⟨Nat.le_of_ble_eq_true rfl, Nat.le_of_ble_eq_true rfl⟩ hpf (fun v104 S105 cca106 cda106 cea106 H locs I hc hg hpf => ?_)
  have X := kX_to X cca106 cda106 cea106
  refine lv_aload_n hx hb dX9_nameOf_11 rfl (lv_at hl 0 rfl) ?_
  refine k_get (k := 0) X I kCl_4 (kO_M (g.1, g.2.1, cca106, cda106, cea106) S105 v101 hv101) 1 (by decide) rfl kC_499 12 dX9_nameOf_12 ?_
  refine lv_iload_n hx hb dX9_nameOf_15 rfl (lv_at hl 3 rfl) ?_
  refine k_cIi (rest := []) (As := [.int x2]) (d := 7) ⟨Nat.le_refl _, Nat.le_refl _⟩ X I fn_X9_X8_shownName kCl_8 rfl (kO_T (g.1, g.2.1, cca106, cda106, cea106) S105 v101 (Nat.lt_succ_of_lt hv101)) (c_X8_shownName l N v101 (Nat.lt_succ_of_lt hv101) x2) rfl (by decide) 16 dX9_nameOf_16 rfl hl.1 rfl (Nat.le_of_ble_eq_true rfl) ⟨Nat.le_of_ble_eq_true rfl, Nat.le_of_ble_eq_true rfl⟩ hpf (fun v107 S108 H locs I hm hpf => ?_)
  exact x_reti X I hc hr ⟨Nat.le_of_ble_eq_true rfl, Nat.le_of_ble_eq_true rfl⟩ 19 dX9_nameOf_19 hpf
-- ===== X9_valueAt =====
def pX9_valueAt (N : Nat) (x1 : Int32) (x2 : Int32) (x3 : Int32) (x4 : Int32) (S : kS) : Option ((Int32 ⊕ Nat) × kS) :=
    bx (pX9_masterAt N x1 S) fun v101 S102 =>
    gn v101 4 <|
    bx (pX9_needEntry N v101 x2 S102) fun v104 S105 =>
    bx (pX9_needAttribute N x3 S105) fun v107 S108 =>
    bx (pX9_needIndex N x4 S108) fun v110 S111 =>
    bk (pX8_valueNumbered N v101 x2 x3 x4 S111) fun v113 S114 =>
    some (.inl v113, S114)
set_option maxRecDepth 100000 in
set_option maxHeartbeats 4000000 in
theorem c_X9_valueAt (l : Launch) (hlt : l.stackTraces = false) (N : Nat) (x1 : Int32) (x2 : Int32) (x3 : Int32) (x4 : Int32) : kMx l yX9_valueAt cX9_valueAt 6 (some .int) 7 4 24 (fun g => [.ref (g.2.1 0), .int x1, .int x2, .int x3, .int x4]) rI (pX9_valueAt N x1 x2 x3 x4) := by
  refine xStart hlt RX9 (by decide +kernel) rfl (fun g => [(0, .ref (g.2.1 0)), (1, .int x1), (2, .int x2), (3, .int x3), (4, .int x4)]) (fun _ => Nat.le_of_ble_eq_true rfl) (fun _ => rfl) ?_
  intro dC dI g sz Si o Sf hpf p e s m args below meth c X XX hr H locs I hc ls hl
  have hx := X.1
  have hb := X.2.1
  unfold pX9_valueAt at hpf
  refine lv_aload_n hx hb dX9_valueAt_0 rfl (lv_at hl 0 rfl) ?_
  refine lv_iload_n hx hb dX9_valueAt_1 rfl (lv_at hl 1 rfl) ?_
  refine x_cIm (rest := []) (As := [.int x1]) (d := 7) ⟨Nat.le_refl _, Nat.le_refl _⟩ X XX I hc fn_X9_X9_masterAt kCl_9 rfl (kO_X (g.1, g.2.1, g.2.2.1, g.2.2.2.1, g.2.2.2.2) Si) (c_X9_masterAt l hlt N x1) rfl (by decide) 2 dX9_valueAt_2 rfl hl.1 rfl (Nat.le_of_ble_eq_true rfl) ⟨Nat.le_of_ble_eq_true rfl, Nat.le_of_ble_eq_true rfl⟩ ⟨Nat.le_of_ble_eq_true rfl, Nat.le_of_ble_eq_true rfl⟩ hpf (fun v101 S102 cca103 cda103 cea103 H locs I hc hg hpf => ?_)
  have X := kX_to X cca103 cda103 cea103
  obtain ⟨hv101, hpf⟩ := gn_some hpf
  refine lv_astore (lv' := [(5, .ref (g.2.1 (18 + 2 * v101))), (0, .ref (g.2.1 0)), (1, .int x1), (2, .int x2), (3, .int x3), (4, .int x4)]) hx hb dX9_valueAt_5 hl (by decide) rfl (fun ls hl => ?_)
  refine lv_aload hx hb dX9_valueAt_7 (lv_at hl 0 rfl) ?_
  refine lv_iload_n hx hb dX9_valueAt_9 rfl (lv_at hl 3 rfl) ?_
  refine x_cSv (rest := []) (As := [.ref (g.2.1 (18 + 2 * v101)), .int x2]) (d := 7) ⟨Nat.le_refl _, Nat.le_refl _⟩ X XX I hc fn_X9_X9_needEntry (c_X9_needEntry l hlt N v101 hv101 x2) rfl (by decide) 10 dX9_valueAt_10 rfl hl.1 rfl (Nat.le_of_ble_eq_true rfl) ⟨Nat.le_of_ble_eq_true rfl, Nat.le_of_ble_eq_true rfl⟩ ⟨Nat.le_of_ble_eq_true rfl, Nat.le_of_ble_eq_true rfl⟩ hpf (fun v104 S105 cca106 cda106 cea106 H locs I hc hg hpf => ?_)
  have X := kX_to X cca106 cda106 cea106
  refine lv_aload_n hx hb dX9_valueAt_13 rfl (lv_at hl 1 rfl) ?_
  refine lv_iload_n hx hb dX9_valueAt_14 rfl (lv_at hl 4 rfl) ?_
  refine x_cIv (rest := []) (As := [.int x3]) (d := 7) ⟨Nat.le_refl _, Nat.le_refl _⟩ X XX I hc fn_X9_X9_needAttribute kCl_9 rfl (kO_X (g.1, g.2.1, cca106, cda106, cea106) S105) (c_X9_needAttribute l hlt N x3) rfl (by decide) 15 dX9_valueAt_15 rfl hl.1 rfl (Nat.le_of_ble_eq_true rfl) ⟨Nat.le_of_ble_eq_true rfl, Nat.le_of_ble_eq_true rfl⟩ ⟨Nat.le_of_ble_eq_true rfl, Nat.le_of_ble_eq_true rfl⟩ hpf (fun v107 S108 cca109 cda109 cea109 H locs I hc hg hpf => ?_)
  have X := kX_to X cca109 cda109 cea109
  refine lv_iload hx hb dX9_valueAt_18 (lv_at hl 5 rfl) ?_
  refine x_cSv (rest := []) (As := [.int x4]) (d := 7) ⟨Nat.le_refl _, Nat.le_refl _⟩ X XX I hc fn_X9_X9_needIndex (c_X9_needIndex l hlt N x4) rfl (by decide) 20 dX9_valueAt_20 rfl hl.1 rfl (Nat.le_of_ble_eq_true rfl) ⟨Nat.le_of_ble_eq_true rfl, Nat.le_of_ble_eq_true rfl⟩ ⟨Nat.le_of_ble_eq_true rfl, Nat.le_of_ble_eq_true rfl⟩ hpf (fun v110 S111 cca112 cda112 cea112 H locs I hc hg hpf => ?_)
  have X := kX_to X cca112 cda112 cea112
  refine lv_aload hx hb dX9_valueAt_23 (lv_at hl 0 rfl) ?_
  refine k_get (k := 0) X I kCl_4 (kO_M (g.1, g.2.1, cca112, cda112, cea112) S111 v101 hv101) 1 (by decide) rfl kC_499 25 dX9_valueAt_25 ?_
  refine lv_iload_n hx hb dX9_valueAt_28 rfl (lv_at hl 3 rfl) ?_
  refine lv_iload_n hx hb dX9_valueAt_29 rfl (lv_at hl 4 rfl) ?_
  refine lv_iload hx hb dX9_valueAt_30 (lv_at hl 5 rfl) ?_
  refine k_cIi (rest := []) (As := [.int x2, .int x3, .int x4]) (d := 7) ⟨Nat.le_refl _, Nat.le_refl _⟩ X I fn_X9_X8_valueNumbered kCl_8 rfl (kO_T (g.1, g.2.1, cca112, cda112, cea112) S111 v101 (Nat.lt_succ_of_lt hv101)) (c_X8_valueNumbered l N v101 (Nat.lt_succ_of_lt hv101) x2 x3 x4) rfl (by decide) 32 dX9_valueAt_32 rfl hl.1 rfl (Nat.le_of_ble_eq_true rfl) ⟨Nat.le_of_ble_eq_true rfl, Nat.le_of_ble_eq_true rfl⟩ hpf (fun v113 S114 H locs I hm hpf => ?_)
  exact x_reti X I hc hr ⟨Nat.le_of_ble_eq_true rfl, Nat.le_of_ble_eq_true rfl⟩ 35 dX9_valueAt_35 hpf
-- ===== X9_valuesAnew =====
def pX9_valuesAnew (N : Nat) (x1 : Int32) (x2 : Int32) (x3 : Int32) (S : kS) : Option ((Int32 ⊕ Nat) × kS) :=
    bx (pX9_masterAt N x1 S) fun v101 S102 =>
    gn v101 4 <|
    bx (pX9_needEntry N v101 x2 S102) fun v104 S105 =>
    bx (pX9_needAttribute N x3 S105) fun v107 S108 =>
    bk (pX9_redo N 4 v101 S108) fun v110 S111 =>
    bk (pX8_valuesOf N 4 x2 x3 S111) fun v112 S113 =>
    some (.inl v112, S113)
set_option maxRecDepth 100000 in
set_option maxHeartbeats 4000000 in
theorem c_X9_valuesAnew (l : Launch) (hlt : l.stackTraces = false) (N : Nat) (x1 : Int32) (x2 : Int32) (x3 : Int32) : kMx l yX9_valuesAnew cX9_valuesAnew 5 (some .int) 7 3 18 (fun g => [.ref (g.2.1 0), .int x1, .int x2, .int x3]) rI (pX9_valuesAnew N x1 x2 x3) := by
  refine xStart hlt RX9 (by decide +kernel) rfl (fun g => [(0, .ref (g.2.1 0)), (1, .int x1), (2, .int x2), (3, .int x3)]) (fun _ => Nat.le_of_ble_eq_true rfl) (fun _ => rfl) ?_
  intro dC dI g sz Si o Sf hpf p e s m args below meth c X XX hr H locs I hc ls hl
  have hx := X.1
  have hb := X.2.1
  unfold pX9_valuesAnew at hpf
  refine lv_aload_n hx hb dX9_valuesAnew_0 rfl (lv_at hl 0 rfl) ?_
  refine lv_iload_n hx hb dX9_valuesAnew_1 rfl (lv_at hl 1 rfl) ?_
  refine x_cIm (rest := []) (As := [.int x1]) (d := 7) ⟨Nat.le_refl _, Nat.le_refl _⟩ X XX I hc fn_X9_X9_masterAt kCl_9 rfl (kO_X (g.1, g.2.1, g.2.2.1, g.2.2.2.1, g.2.2.2.2) Si) (c_X9_masterAt l hlt N x1) rfl (by decide) 2 dX9_valuesAnew_2 rfl hl.1 rfl (Nat.le_of_ble_eq_true rfl) ⟨Nat.le_of_ble_eq_true rfl, Nat.le_of_ble_eq_true rfl⟩ ⟨Nat.le_of_ble_eq_true rfl, Nat.le_of_ble_eq_true rfl⟩ hpf (fun v101 S102 cca103 cda103 cea103 H locs I hc hg hpf => ?_)
  have X := kX_to X cca103 cda103 cea103
  obtain ⟨hv101, hpf⟩ := gn_some hpf
  refine lv_astore (lv' := [(4, .ref (g.2.1 (18 + 2 * v101))), (0, .ref (g.2.1 0)), (1, .int x1), (2, .int x2), (3, .int x3)]) hx hb dX9_valuesAnew_5 hl (by decide) rfl (fun ls hl => ?_)
  refine lv_aload hx hb dX9_valuesAnew_7 (lv_at hl 0 rfl) ?_
  refine lv_iload_n hx hb dX9_valuesAnew_9 rfl (lv_at hl 3 rfl) ?_
  refine x_cSv (rest := []) (As := [.ref (g.2.1 (18 + 2 * v101)), .int x2]) (d := 7) ⟨Nat.le_refl _, Nat.le_refl _⟩ X XX I hc fn_X9_X9_needEntry (c_X9_needEntry l hlt N v101 hv101 x2) rfl (by decide) 10 dX9_valuesAnew_10 rfl hl.1 rfl (Nat.le_of_ble_eq_true rfl) ⟨Nat.le_of_ble_eq_true rfl, Nat.le_of_ble_eq_true rfl⟩ ⟨Nat.le_of_ble_eq_true rfl, Nat.le_of_ble_eq_true rfl⟩ hpf (fun v104 S105 cca106 cda106 cea106 H locs I hc hg hpf => ?_)
  have X := kX_to X cca106 cda106 cea106
  refine lv_aload_n hx hb dX9_valuesAnew_13 rfl (lv_at hl 1 rfl) ?_
  refine lv_iload_n hx hb dX9_valuesAnew_14 rfl (lv_at hl 4 rfl) ?_
  refine x_cIv (rest := []) (As := [.int x3]) (d := 7) ⟨Nat.le_refl _, Nat.le_refl _⟩ X XX I hc fn_X9_X9_needAttribute kCl_9 rfl (kO_X (g.1, g.2.1, cca106, cda106, cea106) S105) (c_X9_needAttribute l hlt N x3) rfl (by decide) 15 dX9_valuesAnew_15 rfl hl.1 rfl (Nat.le_of_ble_eq_true rfl) ⟨Nat.le_of_ble_eq_true rfl, Nat.le_of_ble_eq_true rfl⟩ ⟨Nat.le_of_ble_eq_true rfl, Nat.le_of_ble_eq_true rfl⟩ hpf (fun v107 S108 cca109 cda109 cea109 H locs I hc hg hpf => ?_)
  have X := kX_to X cca109 cda109 cea109
  refine lv_aload_n hx hb dX9_valuesAnew_18 rfl (lv_at hl 1 rfl) ?_
  refine lv_aload_n hx hb dX9_valuesAnew_19 rfl (lv_at hl 1 rfl) ?_
  refine k_get (k := 0) X I kCl_9 (kO_X (g.1, g.2.1, cca109, cda109, cea109) S108) 6 (by decide) rfl kC_420 20 dX9_valuesAnew_20 ?_
  refine lv_aload hx hb dX9_valuesAnew_23 (lv_at hl 0 rfl) ?_
  refine k_cIv (rest := []) (As := [.ref (g.2.1 (26 + 15 * 4)), .ref (g.2.1 (18 + 2 * v101))]) (d := 7) ⟨Nat.le_refl _, Nat.le_refl _⟩ X I fn_X9_X9_redo kCl_9 rfl (kO_X (g.1, g.2.1, cca109, cda109, cea109) S108) (c_X9_redo l N 4 (by decide) v101 hv101) rfl (by decide) 25 dX9_valuesAnew_25 rfl hl.1 rfl (Nat.le_of_ble_eq_true rfl) ⟨Nat.le_of_ble_eq_true rfl, Nat.le_of_ble_eq_true rfl⟩ hpf (fun v110 S111 H locs I hm hpf => ?_)
  refine lv_aload_n hx hb dX9_valuesAnew_28 rfl (lv_at hl 1 rfl) ?_
  refine k_get (k := 0) X I kCl_9 (kO_X (g.1, g.2.1, cca109, cda109, cea109) S111) 6 (by decide) rfl kC_420 29 dX9_valuesAnew_29 ?_
  refine lv_iload_n hx hb dX9_valuesAnew_32 rfl (lv_at hl 3 rfl) ?_
  refine lv_iload_n hx hb dX9_valuesAnew_33 rfl (lv_at hl 4 rfl) ?_
  refine k_cIi (rest := []) (As := [.int x2, .int x3]) (d := 7) ⟨Nat.le_refl _, Nat.le_refl _⟩ X I fn_X9_X8_valuesOf kCl_8 rfl (kO_T (g.1, g.2.1, cca109, cda109, cea109) S111 4 (by decide)) (c_X8_valuesOf l N 4 (by decide) x2 x3) rfl (by decide) 34 dX9_valuesAnew_34 rfl hl.1 rfl (Nat.le_of_ble_eq_true rfl) ⟨Nat.le_of_ble_eq_true rfl, Nat.le_of_ble_eq_true rfl⟩ hpf (fun v112 S113 H locs I hm hpf => ?_)
  exact x_reti X I hc hr ⟨Nat.le_of_ble_eq_true rfl, Nat.le_of_ble_eq_true rfl⟩ 37 dX9_valuesAnew_37 hpf
-- ===== X9_linkOf =====
def pX9_linkOf (N : Nat) (x1 : Int32) (x2 : Int32) (S : kS) : Option ((Int32 ⊕ Nat) × kS) :=
    bx (pX9_masterAt N x1 S) fun v101 S102 =>
    gn v101 4 <|
    bx (pX9_needEntry N v101 x2 S102) fun v104 S105 =>
    gd x2 48 <|
    some (.inl (kA S105 (26 + 15 * v101 + 3) x2.toNatClampNeg), S105)
set_option maxRecDepth 100000 in
set_option maxHeartbeats 4000000 in
theorem c_X9_linkOf (l : Launch) (hlt : l.stackTraces = false) (N : Nat) (x1 : Int32) (x2 : Int32) : kMx l yX9_linkOf cX9_linkOf 4 (some .int) 7 2 12 (fun g => [.ref (g.2.1 0), .int x1, .int x2]) rI (pX9_linkOf N x1 x2) := by
  refine xStart hlt RX9 (by decide +kernel) rfl (fun g => [(0, .ref (g.2.1 0)), (1, .int x1), (2, .int x2)]) (fun _ => Nat.le_of_ble_eq_true rfl) (fun _ => rfl) ?_
  intro dC dI g sz Si o Sf hpf p e s m args below meth c X XX hr H locs I hc ls hl
  have hx := X.1
  have hb := X.2.1
  unfold pX9_linkOf at hpf
  refine lv_aload_n hx hb dX9_linkOf_0 rfl (lv_at hl 0 rfl) ?_
  refine lv_iload_n hx hb dX9_linkOf_1 rfl (lv_at hl 1 rfl) ?_
  refine x_cIm (rest := []) (As := [.int x1]) (d := 7) ⟨Nat.le_refl _, Nat.le_refl _⟩ X XX I hc fn_X9_X9_masterAt kCl_9 rfl (kO_X (g.1, g.2.1, g.2.2.1, g.2.2.2.1, g.2.2.2.2) Si) (c_X9_masterAt l hlt N x1) rfl (by decide) 2 dX9_linkOf_2 rfl hl.1 rfl (Nat.le_of_ble_eq_true rfl) ⟨Nat.le_of_ble_eq_true rfl, Nat.le_of_ble_eq_true rfl⟩ ⟨Nat.le_of_ble_eq_true rfl, Nat.le_of_ble_eq_true rfl⟩ hpf (fun v101 S102 cca103 cda103 cea103 H locs I hc hg hpf => ?_)
  have X := kX_to X cca103 cda103 cea103
  obtain ⟨hv101, hpf⟩ := gn_some hpf
  refine lv_astore_n (lv' := [(3, .ref (g.2.1 (18 + 2 * v101))), (0, .ref (g.2.1 0)), (1, .int x1), (2, .int x2)]) hx hb dX9_linkOf_5 rfl hl (by decide) rfl (fun ls hl => ?_)
  refine lv_aload_n hx hb dX9_linkOf_6 rfl (lv_at hl 0 rfl) ?_
  refine lv_iload_n hx hb dX9_linkOf_7 rfl (lv_at hl 3 rfl) ?_
  refine x_cSv (rest := []) (As := [.ref (g.2.1 (18 + 2 * v101)), .int x2]) (d := 7) ⟨Nat.le_refl _, Nat.le_refl _⟩ X XX I hc fn_X9_X9_needEntry (c_X9_needEntry l hlt N v101 hv101 x2) rfl (by decide) 8 dX9_linkOf_8 rfl hl.1 rfl (Nat.le_of_ble_eq_true rfl) ⟨Nat.le_of_ble_eq_true rfl, Nat.le_of_ble_eq_true rfl⟩ ⟨Nat.le_of_ble_eq_true rfl, Nat.le_of_ble_eq_true rfl⟩ hpf (fun v104 S105 cca106 cda106 cea106 H locs I hc hg hpf => ?_)
  have X := kX_to X cca106 cda106 cea106
  refine lv_aload_n hx hb dX9_linkOf_11 rfl (lv_at hl 0 rfl) ?_
  refine k_get (k := 0) X I kCl_4 (kO_M (g.1, g.2.1, cca106, cda106, cea106) S105 v101 hv101) 1 (by decide) rfl kC_499 12 dX9_linkOf_12 ?_
  refine k_get (k := 0) X I kCl_8 (kO_T (g.1, g.2.1, cca106, cda106, cea106) S105 v101 (Nat.lt_succ_of_lt hv101)) 2 (by decide) rfl kC_644 15 dX9_linkOf_15 ?_
  refine lv_iload_n hx hb dX9_linkOf_18 rfl (lv_at hl 3 rfl) ?_
  refine k_iald X I (kR_T3 v101 (Nat.lt_succ_of_lt hv101)) 19 dX9_linkOf_19 hpf (fun hpf => ?_)
  exact x_reti X I hc hr ⟨Nat.le_of_ble_eq_true rfl, Nat.le_of_ble_eq_true rfl⟩ 20 dX9_linkOf_20 hpf
-- ===== X9_may =====
def pX9_may (N : Nat) (x1 : Int32) (x2 : Int32) (x3 : Int32) (x4 : Int32) (S : kS) : Option ((Int32 ⊕ Nat) × kS) :=
    bx (pX9_masterAt N x1 S) fun v101 S102 =>
    gn v101 4 <|
    bx (pX9_needUser N x2 S102) fun v104 S105 =>
    bx (pX9_needEntry N v101 x3 S105) fun v107 S108 =>
    bx (pX9_needRight N x4 S108) fun v110 S111 =>
    bk (pX8_grants N v101 x2 x3 x4 S111) fun v113 S114 =>
    zx v113 S114
set_option maxRecDepth 100000 in
set_option maxHeartbeats 4000000 in
theorem c_X9_may (l : Launch) (hlt : l.stackTraces = false) (N : Nat) (x1 : Int32) (x2 : Int32) (x3 : Int32) (x4 : Int32) : kMx l yX9_may cX9_may 6 (some .boolean) 7 4 24 (fun g => [.ref (g.2.1 0), .int x1, .int x2, .int x3, .int x4]) rI (pX9_may N x1 x2 x3 x4) := by
  refine xStart hlt RX9 (by decide +kernel) rfl (fun g => [(0, .ref (g.2.1 0)), (1, .int x1), (2, .int x2), (3, .int x3), (4, .int x4)]) (fun _ => Nat.le_of_ble_eq_true rfl) (fun _ => rfl) ?_
  intro dC dI g sz Si o Sf hpf p e s m args below meth c X XX hr H locs I hc ls hl
  have hx := X.1
  have hb := X.2.1
  unfold pX9_may at hpf
  refine lv_aload_n hx hb dX9_may_0 rfl (lv_at hl 0 rfl) ?_
  refine lv_iload_n hx hb dX9_may_1 rfl (lv_at hl 1 rfl) ?_
  refine x_cIm (rest := []) (As := [.int x1]) (d := 7) ⟨Nat.le_refl _, Nat.le_refl _⟩ X XX I hc fn_X9_X9_masterAt kCl_9 rfl (kO_X (g.1, g.2.1, g.2.2.1, g.2.2.2.1, g.2.2.2.2) Si) (c_X9_masterAt l hlt N x1) rfl (by decide) 2 dX9_may_2 rfl hl.1 rfl (Nat.le_of_ble_eq_true rfl) ⟨Nat.le_of_ble_eq_true rfl, Nat.le_of_ble_eq_true rfl⟩ ⟨Nat.le_of_ble_eq_true rfl, Nat.le_of_ble_eq_true rfl⟩ hpf (fun v101 S102 cca103 cda103 cea103 H locs I hc hg hpf => ?_)
  have X := kX_to X cca103 cda103 cea103
  obtain ⟨hv101, hpf⟩ := gn_some hpf
  refine lv_astore (lv' := [(5, .ref (g.2.1 (18 + 2 * v101))), (0, .ref (g.2.1 0)), (1, .int x1), (2, .int x2), (3, .int x3), (4, .int x4)]) hx hb dX9_may_5 hl (by decide) rfl (fun ls hl => ?_)
  refine lv_iload_n hx hb dX9_may_7 rfl (lv_at hl 3 rfl) ?_
  refine x_cSv (rest := []) (As := [.int x2]) (d := 7) ⟨Nat.le_refl _, Nat.le_refl _⟩ X XX I hc fn_X9_X9_needUser (c_X9_needUser l hlt N x2) rfl (by decide) 8 dX9_may_8 rfl hl.1 rfl (Nat.le_of_ble_eq_true rfl) ⟨Nat.le_of_ble_eq_true rfl, Nat.le_of_ble_eq_true rfl⟩ ⟨Nat.le_of_ble_eq_true rfl, Nat.le_of_ble_eq_true rfl⟩ hpf (fun v104 S105 cca106 cda106 cea106 H locs I hc hg hpf => ?_)
  have X := kX_to X cca106 cda106 cea106
  refine lv_aload hx hb dX9_may_11 (lv_at hl 0 rfl) ?_
  refine lv_iload_n hx hb dX9_may_13 rfl (lv_at hl 4 rfl) ?_
  refine x_cSv (rest := []) (As := [.ref (g.2.1 (18 + 2 * v101)), .int x3]) (d := 7) ⟨Nat.le_refl _, Nat.le_refl _⟩ X XX I hc fn_X9_X9_needEntry (c_X9_needEntry l hlt N v101 hv101 x3) rfl (by decide) 14 dX9_may_14 rfl hl.1 rfl (Nat.le_of_ble_eq_true rfl) ⟨Nat.le_of_ble_eq_true rfl, Nat.le_of_ble_eq_true rfl⟩ ⟨Nat.le_of_ble_eq_true rfl, Nat.le_of_ble_eq_true rfl⟩ hpf (fun v107 S108 cca109 cda109 cea109 H locs I hc hg hpf => ?_)
  have X := kX_to X cca109 cda109 cea109
  refine lv_iload hx hb dX9_may_17 (lv_at hl 5 rfl) ?_
  refine x_cSv (rest := []) (As := [.int x4]) (d := 7) ⟨Nat.le_refl _, Nat.le_refl _⟩ X XX I hc fn_X9_X9_needRight (c_X9_needRight l hlt N x4) rfl (by decide) 19 dX9_may_19 rfl hl.1 rfl (Nat.le_of_ble_eq_true rfl) ⟨Nat.le_of_ble_eq_true rfl, Nat.le_of_ble_eq_true rfl⟩ ⟨Nat.le_of_ble_eq_true rfl, Nat.le_of_ble_eq_true rfl⟩ hpf (fun v110 S111 cca112 cda112 cea112 H locs I hc hg hpf => ?_)
  have X := kX_to X cca112 cda112 cea112
  refine lv_aload hx hb dX9_may_22 (lv_at hl 0 rfl) ?_
  refine k_get (k := 0) X I kCl_4 (kO_M (g.1, g.2.1, cca112, cda112, cea112) S111 v101 hv101) 1 (by decide) rfl kC_499 24 dX9_may_24 ?_
  refine lv_iload_n hx hb dX9_may_27 rfl (lv_at hl 3 rfl) ?_
  refine lv_iload_n hx hb dX9_may_28 rfl (lv_at hl 4 rfl) ?_
  refine lv_iload hx hb dX9_may_29 (lv_at hl 5 rfl) ?_
  refine k_cIi (rest := []) (As := [.int x2, .int x3, .int x4]) (d := 7) ⟨Nat.le_refl _, Nat.le_refl _⟩ X I fn_X9_X8_grants kCl_8 rfl (kO_T (g.1, g.2.1, cca112, cda112, cea112) S111 v101 (Nat.lt_succ_of_lt hv101)) (c_X8_grants l N v101 (Nat.lt_succ_of_lt hv101) x2 x3 x4) rfl (by decide) 31 dX9_may_31 rfl hl.1 rfl (Nat.le_of_ble_eq_true rfl) ⟨Nat.le_of_ble_eq_true rfl, Nat.le_of_ble_eq_true rfl⟩ hpf (fun v113 S114 H locs I hm hpf => ?_)
  exact x_retz X I hc hr ⟨Nat.le_of_ble_eq_true rfl, Nat.le_of_ble_eq_true rfl⟩ 34 dX9_may_34 hpf
-- ===== X9_childAt =====
def pX9_childAt_19 (N : Nat) (x2 : Int32) (x3 : Int32) (n4 : Nat) (S : kS) : Option ((Int32 ⊕ Nat) × kS) :=
    bx (pX9_needIndex N x3 S) fun v101 S102 =>
    bk (pX8_rankedAt N n4 x2 S102) fun v104 S105 =>
    if (kI S105 (40 + 3 * n4 + 2)) ≤ x3 then (
      some (.inl (-1 : Int32), S105))
    else (
      bk (pX5_at N n4 2 x3 S105) fun v106 S107 =>
      some (.inl (v106 - v106 / (48 : Int32) * (48 : Int32)), S107))
def pX9_childAt (N : Nat) (x1 : Int32) (x2 : Int32) (x3 : Int32) (S : kS) : Option ((Int32 ⊕ Nat) × kS) :=
    bx (pX9_masterAt N x1 S) fun v101 S102 =>
    gn v101 4 <|
    if x2 = (-2 : Int32) then (
      pX9_childAt_19 N x2 x3 v101 S102)
    else (
      bx (pX9_needEntry N v101 x2 S102) fun v104 S105 =>
      pX9_childAt_19 N x2 x3 v101 S105)
set_option maxRecDepth 100000 in
set_option maxHeartbeats 4000000 in
theorem c_X9_childAt (l : Launch) (hlt : l.stackTraces = false) (N : Nat) (x1 : Int32) (x2 : Int32) (x3 : Int32) : kMx l yX9_childAt cX9_childAt 6 (some .int) 7 3 18 (fun g => [.ref (g.2.1 0), .int x1, .int x2, .int x3]) rI (pX9_childAt N x1 x2 x3) := by
  refine xStart hlt RX9 (by decide +kernel) rfl (fun g => [(0, .ref (g.2.1 0)), (1, .int x1), (2, .int x2), (3, .int x3)]) (fun _ => Nat.le_of_ble_eq_true rfl) (fun _ => rfl) ?_
  intro dC dI g sz Si o Sf hpf p e s m args below meth c X XX hr H locs I hc ls hl
  have hx := X.1
  have hb := X.2.1
  unfold pX9_childAt at hpf
  have hC_19 : ∀ (x2 : Int32) (x3 : Int32) (n4 : Nat) (hn4 : n4 < 4) (cC cD : Nat → Nat) (cE : Nat) (S S0 : kS), kGc g cC cE Si S0 → kX p s m meth c cX9_childAt 6 args RX9 dC dI (g.1, g.2.1, cC, cD, cE) (kAt g (kn Si) (km Si) (kp Si) sz) → ∀ (H : Heap) (locs : List Loc), kV dC dI (g.1, g.2.1, cC, cD, cE) (kAt g (kn Si) (km Si) (kp Si) sz) s S0 S H locs → ∀ ls : Array Slot, lv_has ls 6 [(0, .ref (g.2.1 0)), (2, .int x2), (3, .int x3), (4, .ref (g.2.1 (18 + 2 * n4)))] → pX9_childAt_19 N x2 x3 n4 S = some (o, Sf) → W p l e (xRm 7 3 18) s m args below meth c H locs 2 12 (vx_MQ below (kQx dC dI g sz Si rI o Sf) (kXx dC dI g sz Si o Sf) args s 3 18 (kAt g (kn Si) (km Si) (kp Si) sz)) (F0 m 19 ls []) := by
    intro x2 x3 n4 hn4 cC cD cE S S0 hc X H locs I ls hl hpf
    unfold pX9_childAt_19 at hpf
    refine lv_iload_n hx hb dX9_childAt_19 rfl (lv_at hl 2 rfl) ?_
    refine x_cSv (rest := []) (As := [.int x3]) (d := 7) ⟨Nat.le_refl _, Nat.le_refl _⟩ X XX I hc fn_X9_X9_needIndex (c_X9_needIndex l hlt N x3) rfl (by decide) 20 dX9_childAt_20 rfl hl.1 rfl (Nat.le_of_ble_eq_true rfl) ⟨Nat.le_of_ble_eq_true rfl, Nat.le_of_ble_eq_true rfl⟩ ⟨Nat.le_of_ble_eq_true rfl, Nat.le_of_ble_eq_true rfl⟩ hpf (fun v101 S102 cca103 cda103 cea103 H locs I hc hg hpf => ?_)
    have X := kX_to X cca103 cda103 cea103
    refine lv_aload hx hb dX9_childAt_23 (lv_at hl 3 rfl) ?_
    refine k_get (k := 0) X I kCl_4 (kO_M (g.1, g.2.1, cca103, cda103, cea103) S102 n4 hn4) 1 (by decide) rfl kC_499 25 dX9_childAt_25 ?_
    refine lv_iload_n hx hb dX9_childAt_28 rfl (lv_at hl 1 rfl) ?_
    refine k_cIr (rest := []) (As := [.int x2]) (d := 7) ⟨Nat.le_refl _, Nat.le_refl _⟩ X I fn_X9_X8_rankedAt kCl_8 rfl (kO_T (g.1, g.2.1, cca103, cda103, cea103) S102 n4 (Nat.lt_succ_of_lt hn4)) (c_X8_rankedAt l N n4 (Nat.lt_succ_of_lt hn4) x2) rfl (by decide) 29 dX9_childAt_29 rfl hl.1 rfl (Nat.le_of_ble_eq_true rfl) ⟨Nat.le_of_ble_eq_true rfl, Nat.le_of_ble_eq_true rfl⟩ hpf (fun v104 S105 H locs I hm hpf => ?_)
    refine lv_astore (lv' := [(5, .ref (g.2.1 (26 + 15 * n4 + 9 + 2 * 2))), (0, .ref (g.2.1 0)), (2, .int x2), (3, .int x3), (4, .ref (g.2.1 (18 + 2 * n4)))]) hx hb dX9_childAt_32 hl (by decide) rfl (fun ls hl => ?_)
    refine lv_iload_n hx hb dX9_childAt_34 rfl (lv_at hl 3 rfl) ?_
    refine lv_aload hx hb dX9_childAt_35 (lv_at hl 0 rfl) ?_
    refine k_get (k := 0) X I kCl_5 (kO_N (g.1, g.2.1, cca103, cda103, cea103) S105 n4 2 (Nat.lt_succ_of_lt hn4) (by decide)) 1 (by decide) rfl kC_743 37 dX9_childAt_37 ?_
    refine b_icmp_ge hx hb 55 40 dX9_childAt_40 (by decide) hpf (fun hpf => ?_) (fun hpf => ?_)
    · refine lv_iconst (v := (-1 : Int32)) hx hb dX9_childAt_55 (by decide) ?_
      exact x_reti X I hc hr ⟨Nat.le_of_ble_eq_true rfl, Nat.le_of_ble_eq_true rfl⟩ 56 dX9_childAt_56 hpf
    refine lv_aload hx hb dX9_childAt_43 (lv_at hl 0 rfl) ?_
    refine lv_iload_n hx hb dX9_childAt_45 rfl (lv_at hl 3 rfl) ?_
    refine k_cIi (rest := []) (As := [.int x3]) (d := 7) ⟨Nat.le_refl _, Nat.le_refl _⟩ X I fn_X9_X5_at kCl_5 rfl (kO_N (g.1, g.2.1, cca103, cda103, cea103) S105 n4 2 (Nat.lt_succ_of_lt hn4) (by decide)) (c_X5_at l N n4 2 (Nat.lt_succ_of_lt hn4) (by decide) x3) rfl (by decide) 46 dX9_childAt_46 rfl hl.1 rfl (Nat.le_of_ble_eq_true rfl) ⟨Nat.le_of_ble_eq_true rfl, Nat.le_of_ble_eq_true rfl⟩ hpf (fun v106 S107 H locs I hm hpf => ?_)
    refine lv_bipush (v := (48 : Int32)) hx hb dX9_childAt_49 (by decide) ?_
    refine lv_irem hx hb dX9_childAt_51 (by decide) ?_
    refine lv_goto (tgt := 56) hx hb dX9_childAt_52 (by decide) ?_
    exact x_reti X I hc hr ⟨Nat.le_of_ble_eq_true rfl, Nat.le_of_ble_eq_true rfl⟩ 56 dX9_childAt_56 hpf
  refine lv_aload_n hx hb dX9_childAt_0 rfl (lv_at hl 0 rfl) ?_
  refine lv_iload_n hx hb dX9_childAt_1 rfl (lv_at hl 1 rfl) ?_
  refine x_cIm (rest := []) (As := [.int x1]) (d := 7) ⟨Nat.le_refl _, Nat.le_refl _⟩ X XX I hc fn_X9_X9_masterAt kCl_9 rfl (kO_X (g.1, g.2.1, g.2.2.1, g.2.2.2.1, g.2.2.2.2) Si) (c_X9_masterAt l hlt N x1) rfl (by decide) 2 dX9_childAt_2 rfl hl.1 rfl (Nat.le_of_ble_eq_true rfl) ⟨Nat.le_of_ble_eq_true rfl, Nat.le_of_ble_eq_true rfl⟩ ⟨Nat.le_of_ble_eq_true rfl, Nat.le_of_ble_eq_true rfl⟩ hpf (fun v101 S102 cca103 cda103 cea103 H locs I hc hg hpf => ?_)
  have X := kX_to X cca103 cda103 cea103
  obtain ⟨hv101, hpf⟩ := gn_some hpf
  refine lv_astore (lv' := [(4, .ref (g.2.1 (18 + 2 * v101))), (0, .ref (g.2.1 0)), (1, .int x1), (2, .int x2), (3, .int x3)]) hx hb dX9_childAt_5 hl (by decide) rfl (fun ls hl => ?_)
  refine lv_iload_n hx hb dX9_childAt_7 rfl (lv_at hl 3 rfl) ?_
  refine lv_bipush (v := (-2 : Int32)) hx hb dX9_childAt_8 (by decide) ?_
  refine b_icmp_eq hx hb 19 10 dX9_childAt_10 (by decide) hpf (fun hpf => ?_) (fun hpf => ?_)
  · refine W.widen (k := 2) (n := 12) (Nat.le_of_ble_eq_true rfl) (Nat.le_of_ble_eq_true rfl) ?_
    exact hC_19 x2 x3 v101 hv101 cca103 cda103 cea103 S102 _ hc X H locs I ls (lv_sub hl [1, 3, 4, 0] rfl) hpf
  refine lv_aload hx hb dX9_childAt_13 (lv_at hl 0 rfl) ?_
  refine lv_iload_n hx hb dX9_childAt_15 rfl (lv_at hl 3 rfl) ?_
  refine x_cSv (rest := []) (As := [.ref (g.2.1 (18 + 2 * v101)), .int x2]) (d := 7) ⟨Nat.le_refl _, Nat.le_refl _⟩ X XX I hc fn_X9_X9_needEntry (c_X9_needEntry l hlt N v101 hv101 x2) rfl (by decide) 16 dX9_childAt_16 rfl hl.1 rfl (Nat.le_of_ble_eq_true rfl) ⟨Nat.le_of_ble_eq_true rfl, Nat.le_of_ble_eq_true rfl⟩ ⟨Nat.le_of_ble_eq_true rfl, Nat.le_of_ble_eq_true rfl⟩ hpf (fun v104 S105 cca106 cda106 cea106 H locs I hc hg hpf => ?_)
  have X := kX_to X cca106 cda106 cea106
  refine W.widen (k := 2) (n := 12) (Nat.le_of_ble_eq_true rfl) (Nat.le_of_ble_eq_true rfl) ?_
  exact hC_19 x2 x3 v101 hv101 cca106 cda106 cea106 S105 _ hc X H locs I ls (lv_sub hl [1, 3, 4, 0] rfl) hpf
-- ===== X9_conflicts =====
def pX9_conflicts_18 (N : Nat) (S : kS) : Option ((Int32 ⊕ Nat) × kS) :=
    some (.inr 1, S)
def pX9_conflicts_64 (N : Nat) (k_35 : Int32 → Nat → Int32 → Int32 → kS → Option ((Int32 ⊕ Nat) × kS)) (x2 : Int32) (n3 : Nat) (x4 : Int32) (x5 : Int32) (S : kS) : Option ((Int32 ⊕ Nat) × kS) :=
    nm (x5 + (1 : Int32)) fun y101 =>
    k_35 x2 n3 x4 y101 S
def pX9_conflicts_35 (N : Nat) : Nat → Int32 → Nat → Int32 → Int32 → kS → Option ((Int32 ⊕ Nat) × kS)
  | 0 => fun _ _ _ _ _ => none
  | n_35 + 1 => fun x2 n3 x4 x5 S =>
    if (48 : Int32) ≤ x5 then (
      some (.inl x4, S))
    else (
      bk (pX8_isLive N n3 x5 S) fun v101 S102 =>
      if v101 = (0 : Int32) then (
        pX9_conflicts_64 N (pX9_conflicts_35 N n_35) x2 n3 x4 x5 S102)
      else (
        bk (pX9_isInConflict N n3 x5 x2 S102) fun v103 S104 =>
        if v103 = (0 : Int32) then (
          pX9_conflicts_64 N (pX9_conflicts_35 N n_35) x2 n3 x4 x5 S104)
        else (
          nm (x4 + (1 : Int32)) fun y105 =>
          pX9_conflicts_64 N (pX9_conflicts_35 N n_35) x2 n3 y105 x5 S104)))
def pX9_conflicts (N : Nat) (x1 : Int32) (x2 : Int32) (S : kS) : Option ((Int32 ⊕ Nat) × kS) :=
    bx (pX9_masterAt N x1 S) fun v101 S102 =>
    gn v101 4 <|
    if x2 < (0 : Int32) then (
      pX9_conflicts_18 N S102)
    else (
      if x2 < (3 : Int32) then (
        pX9_conflicts_35 N N x2 v101 (0 : Int32) (1 : Int32) S102)
      else (
        pX9_conflicts_18 N S102))
set_option maxRecDepth 100000 in
set_option maxHeartbeats 4000000 in
theorem c_X9_conflicts (l : Launch) (hlt : l.stackTraces = false) (N : Nat) (x1 : Int32) (x2 : Int32) : kMx l yX9_conflicts cX9_conflicts 6 (some .int) 7 2 12 (fun g => [.ref (g.2.1 0), .int x1, .int x2]) rI (pX9_conflicts N x1 x2) := by
  refine xStart hlt RX9 (by decide +kernel) rfl (fun g => [(0, .ref (g.2.1 0)), (1, .int x1), (2, .int x2)]) (fun _ => Nat.le_of_ble_eq_true rfl) (fun _ => rfl) ?_
  intro dC dI g sz Si o Sf hpf p e s m args below meth c X XX hr H locs I hc ls hl
  have hx := X.1
  have hb := X.2.1
  unfold pX9_conflicts at hpf
  have hC_18 : ∀ (cC cD : Nat → Nat) (cE : Nat) (S S0 : kS), kGc g cC cE Si S0 → kX p s m meth c cX9_conflicts 6 args RX9 dC dI (g.1, g.2.1, cC, cD, cE) (kAt g (kn Si) (km Si) (kp Si) sz) → ∀ (H : Heap) (locs : List Loc), kV dC dI (g.1, g.2.1, cC, cD, cE) (kAt g (kn Si) (km Si) (kp Si) sz) s S0 S H locs → ∀ ls : Array Slot, lv_has ls 6 [(0, .ref (g.2.1 0))] → pX9_conflicts_18 N S = some (o, Sf) → W p l e (xRm 7 2 12) s m args below meth c H locs 1 6 (vx_MQ below (kQx dC dI g sz Si rI o Sf) (kXx dC dI g sz Si o Sf) args s 2 12 (kAt g (kn Si) (km Si) (kp Si) sz)) (F0 m 18 ls []) := by
    intro cC cD cE S S0 hc X H locs I ls hl hpf
    unfold pX9_conflicts_18 at hpf
    exact x_throwW 1 (Or.inl rfl) X XX I hc (is := 362) (tx := "no such sort") (List.mem_of_getElem? (i := 9) rfl) hl.1 ⟨Nat.le_of_ble_eq_true rfl, Nat.le_of_ble_eq_true rfl⟩ ⟨Nat.le_of_ble_eq_true rfl, Nat.le_of_ble_eq_true rfl⟩ ⟨Nat.le_of_ble_eq_true rfl, Nat.le_of_ble_eq_true rfl⟩ (Nat.le_of_ble_eq_true rfl) 18 dX9_conflicts_18 dX9_conflicts_21 dX9_conflicts_22 dX9_conflicts_25 dX9_conflicts_28 hpf
  have hC_35 : ∀ (n_35 : Nat), ∀ (x2 : Int32) (n3 : Nat) (x4 : Int32) (x5 : Int32) (hn3 : n3 < 5) (cC cD : Nat → Nat) (cE : Nat) (S S0 : kS), kGc g cC cE Si S0 → kX p s m meth c cX9_conflicts 6 args RX9 dC dI (g.1, g.2.1, cC, cD, cE) (kAt g (kn Si) (km Si) (kp Si) sz) → ∀ (H : Heap) (locs : List Loc), kV dC dI (g.1, g.2.1, cC, cD, cE) (kAt g (kn Si) (km Si) (kp Si) sz) s S0 S H locs → ∀ ls : Array Slot, lv_has ls 6 [(0, .ref (g.2.1 0)), (2, .int x2), (3, .ref (g.2.1 (26 + 15 * n3))), (4, .int x4), (5, .int x5)] → pX9_conflicts_35 N n_35 x2 n3 x4 x5 S = some (o, Sf) → W p l e (xRm 7 2 12) s m args below meth c H locs 1 6 (vx_MQ below (kQx dC dI g sz Si rI o Sf) (kXx dC dI g sz Si o Sf) args s 2 12 (kAt g (kn Si) (km Si) (kp Si) sz)) (F0 m 35 ls []) := by
    intro n_35
    induction n_35 with
    | zero =>
      intro x2 n3 x4 x5 hn3 cC cD cE S S0 hc X H locs I ls hl hpf
      rw [pX9_conflicts_35] at hpf
      cases hpf
    | succ n_35 ih_35 =>
      have hC_64 : ∀ (x2 : Int32) (n3 : Nat) (x4 : Int32) (x5 : Int32) (hn3 : n3 < 5) (cC cD : Nat → Nat) (cE : Nat) (S S0 : kS), kGc g cC cE Si S0 → kX p s m meth c cX9_conflicts 6 args RX9 dC dI (g.1, g.2.1, cC, cD, cE) (kAt g (kn Si) (km Si) (kp Si) sz) → ∀ (H : Heap) (locs : List Loc), kV dC dI (g.1, g.2.1, cC, cD, cE) (kAt g (kn Si) (km Si) (kp Si) sz) s S0 S H locs → ∀ ls : Array Slot, lv_has ls 6 [(0, .ref (g.2.1 0)), (2, .int x2), (3, .ref (g.2.1 (26 + 15 * n3))), (4, .int x4), (5, .int x5)] → pX9_conflicts_64 N (pX9_conflicts_35 N n_35) x2 n3 x4 x5 S = some (o, Sf) → W p l e (xRm 7 2 12) s m args below meth c H locs 1 6 (vx_MQ below (kQx dC dI g sz Si rI o Sf) (kXx dC dI g sz Si o Sf) args s 2 12 (kAt g (kn Si) (km Si) (kp Si) sz)) (F0 m 64 ls []) := by
        intro x2 n3 x4 x5 hn3 cC cD cE S S0 hc X H locs I ls hl hpf
        unfold pX9_conflicts_64 at hpf
        refine m_iinc (w := (1 : Int32)) hx hb (fun y101 => [(5, .int y101), (0, .ref (g.2.1 0)), (2, .int x2), (3, .ref (g.2.1 (26 + 15 * n3))), (4, .int x4)]) 64 dX9_conflicts_64 hl (k := 4) rfl (by decide) (by decide) (fun _ => rfl) hpf (fun y101 ls hl hpf => ?_)
        refine lv_goto (tgt := 35) hx hb dX9_conflicts_67 (by decide) ?_
        refine W.widen (k := 1) (n := 6) (Nat.le_of_ble_eq_true rfl) (Nat.le_of_ble_eq_true rfl) ?_
        exact ih_35 x2 n3 x4 y101 hn3 cC cD cE S _ hc X H locs I ls (lv_sub hl [1, 2, 3, 4, 0] rfl) hpf
      intro x2 n3 x4 x5 hn3 cC cD cE S S0 hc X H locs I ls hl hpf
      rw [pX9_conflicts_35] at hpf
      refine lv_iload hx hb dX9_conflicts_35 (lv_at hl 4 rfl) ?_
      refine lv_bipush (v := (48 : Int32)) hx hb dX9_conflicts_37 (by decide) ?_
      refine b_icmp_ge hx hb 70 39 dX9_conflicts_39 (by decide) hpf (fun hpf => ?_) (fun hpf => ?_)
      · refine lv_iload hx hb dX9_conflicts_70 (lv_at hl 3 rfl) ?_
        exact x_reti X I hc hr ⟨Nat.le_of_ble_eq_true rfl, Nat.le_of_ble_eq_true rfl⟩ 72 dX9_conflicts_72 hpf
      refine lv_aload_n hx hb dX9_conflicts_42 rfl (lv_at hl 2 rfl) ?_
      refine lv_iload hx hb dX9_conflicts_43 (lv_at hl 4 rfl) ?_
      refine k_cIi (rest := []) (As := [.int x5]) (d := 7) ⟨Nat.le_refl _, Nat.le_refl _⟩ X I fn_X9_X8_isLive kCl_8 rfl (kO_T (g.1, g.2.1, cC, cD, cE) S n3 hn3) (c_X8_isLive l N n3 hn3 x5) rfl (by decide) 45 dX9_conflicts_45 rfl hl.1 rfl (Nat.le_of_ble_eq_true rfl) ⟨Nat.le_of_ble_eq_true rfl, Nat.le_of_ble_eq_true rfl⟩ hpf (fun v101 S102 H locs I hm hpf => ?_)
      refine b_if_eq hx hb 64 48 dX9_conflicts_48 (by decide) hpf (fun hpf => ?_) (fun hpf => ?_)
      · refine W.widen (k := 1) (n := 6) (Nat.le_of_ble_eq_true rfl) (Nat.le_of_ble_eq_true rfl) ?_
        exact hC_64 x2 n3 x4 x5 hn3 cC cD cE S102 _ hc X H locs I ls (lv_sub hl [0, 1, 2, 3, 4] rfl) hpf
      refine lv_aload_n hx hb dX9_conflicts_51 rfl (lv_at hl 2 rfl) ?_
      refine lv_iload hx hb dX9_conflicts_52 (lv_at hl 4 rfl) ?_
      refine lv_iload_n hx hb dX9_conflicts_54 rfl (lv_at hl 1 rfl) ?_
      refine k_cSi (rest := []) (As := [.ref (g.2.1 (26 + 15 * n3)), .int x5, .int x2]) (d := 7) ⟨Nat.le_refl _, Nat.le_refl _⟩ X I fn_X9_X9_isInConflict (c_X9_isInConflict l N n3 hn3 x5 x2) rfl (by decide) 55 dX9_conflicts_55 rfl hl.1 rfl (Nat.le_of_ble_eq_true rfl) ⟨Nat.le_of_ble_eq_true rfl, Nat.le_of_ble_eq_true rfl⟩ hpf (fun v103 S104 H locs I hm hpf => ?_)
      refine b_if_eq hx hb 64 58 dX9_conflicts_58 (by decide) hpf (fun hpf => ?_) (fun hpf => ?_)
      · refine W.widen (k := 1) (n := 6) (Nat.le_of_ble_eq_true rfl) (Nat.le_of_ble_eq_true rfl) ?_
        exact hC_64 x2 n3 x4 x5 hn3 cC cD cE S104 _ hc X H locs I ls (lv_sub hl [0, 1, 2, 3, 4] rfl) hpf
      refine m_iinc (w := (1 : Int32)) hx hb (fun y105 => [(4, .int y105), (0, .ref (g.2.1 0)), (2, .int x2), (3, .ref (g.2.1 (26 + 15 * n3))), (5, .int x5)]) 61 dX9_conflicts_61 hl (k := 3) rfl (by decide) (by decide) (fun _ => rfl) hpf (fun y105 ls hl hpf => ?_)
      refine W.widen (k := 1) (n := 6) (Nat.le_of_ble_eq_true rfl) (Nat.le_of_ble_eq_true rfl) ?_
      exact hC_64 x2 n3 y105 x5 hn3 cC cD cE S104 _ hc X H locs I ls (lv_sub hl [1, 2, 3, 0, 4] rfl) hpf
  refine lv_aload_n hx hb dX9_conflicts_0 rfl (lv_at hl 0 rfl) ?_
  refine lv_iload_n hx hb dX9_conflicts_1 rfl (lv_at hl 1 rfl) ?_
  refine x_cIm (rest := []) (As := [.int x1]) (d := 7) ⟨Nat.le_refl _, Nat.le_refl _⟩ X XX I hc fn_X9_X9_masterAt kCl_9 rfl (kO_X (g.1, g.2.1, g.2.2.1, g.2.2.2.1, g.2.2.2.2) Si) (c_X9_masterAt l hlt N x1) rfl (by decide) 2 dX9_conflicts_2 rfl hl.1 rfl (Nat.le_of_ble_eq_true rfl) ⟨Nat.le_of_ble_eq_true rfl, Nat.le_of_ble_eq_true rfl⟩ ⟨Nat.le_of_ble_eq_true rfl, Nat.le_of_ble_eq_true rfl⟩ hpf (fun v101 S102 cca103 cda103 cea103 H locs I hc hg hpf => ?_)
  have X := kX_to X cca103 cda103 cea103
  obtain ⟨hv101, hpf⟩ := gn_some hpf
  refine k_get (k := 0) X I kCl_4 (kO_M (g.1, g.2.1, cca103, cda103, cea103) S102 v101 hv101) 1 (by decide) rfl kC_499 5 dX9_conflicts_5 ?_
  refine lv_astore_n (lv' := [(3, .ref (g.2.1 (26 + 15 * v101))), (0, .ref (g.2.1 0)), (1, .int x1), (2, .int x2)]) hx hb dX9_conflicts_8 rfl hl (by decide) rfl (fun ls hl => ?_)
  refine lv_iload_n hx hb dX9_conflicts_9 rfl (lv_at hl 3 rfl) ?_
  refine b_if_lt hx hb 18 10 dX9_conflicts_10 (by decide) hpf (fun hpf => ?_) (fun hpf => ?_)
  · refine W.widen (k := 1) (n := 6) (Nat.le_of_ble_eq_true rfl) (Nat.le_of_ble_eq_true rfl) ?_
    exact hC_18 cca103 cda103 cea103 S102 _ hc X H locs I ls (lv_sub hl [1] rfl) hpf
  refine lv_iload_n hx hb dX9_conflicts_13 rfl (lv_at hl 3 rfl) ?_
  refine lv_iconst (v := (3 : Int32)) hx hb dX9_conflicts_14 (by decide) ?_
  refine b_icmp_lt hx hb 29 15 dX9_conflicts_15 (by decide) hpf (fun hpf => ?_) (fun hpf => ?_)
  · refine lv_iconst (v := (0 : Int32)) hx hb dX9_conflicts_29 (by decide) ?_
    refine lv_istore (lv' := [(4, .int (0 : Int32)), (3, .ref (g.2.1 (26 + 15 * v101))), (0, .ref (g.2.1 0)), (1, .int x1), (2, .int x2)]) hx hb dX9_conflicts_30 hl (by decide) rfl (fun ls hl => ?_)
    refine lv_iconst (v := (1 : Int32)) hx hb dX9_conflicts_32 (by decide) ?_
    refine lv_istore (lv' := [(5, .int (1 : Int32)), (4, .int (0 : Int32)), (3, .ref (g.2.1 (26 + 15 * v101))), (0, .ref (g.2.1 0)), (1, .int x1), (2, .int x2)]) hx hb dX9_conflicts_33 hl (by decide) rfl (fun ls hl => ?_)
    refine W.widen (k := 1) (n := 6) (Nat.le_of_ble_eq_true rfl) (Nat.le_of_ble_eq_true rfl) ?_
    exact hC_35 N x2 v101 (0 : Int32) (1 : Int32) (Nat.lt_succ_of_lt hv101) cca103 cda103 cea103 S102 _ hc X H locs I ls (lv_sub hl [3, 5, 2, 1, 0] rfl) hpf
  refine W.widen (k := 1) (n := 6) (Nat.le_of_ble_eq_true rfl) (Nat.le_of_ble_eq_true rfl) ?_
  exact hC_18 cca103 cda103 cea103 S102 _ hc X H locs I ls (lv_sub hl [1] rfl) hpf
-- ===== X9_knows =====
def pX9_knows (N : Nat) (x1 : Int32) (x2 : Int32) (S : kS) : Option ((Int32 ⊕ Nat) × kS) :=
    bx (pX9_masterAt N x1 S) fun v101 S102 =>
    gn v101 4 <|
    bx (pX9_masterAt N x2 S102) fun v104 S105 =>
    gn v104 4 <|
    bk (pX4_toldOf N v101 x1 (kI S105 (16 + 4 * v104)) S105) fun v107 S108 =>
    some (.inl v107, S108)
set_option maxRecDepth 100000 in
set_option maxHeartbeats 4000000 in
theorem c_X9_knows (l : Launch) (hlt : l.stackTraces = false) (N : Nat) (x1 : Int32) (x2 : Int32) : kMx l yX9_knows cX9_knows 4 (some .int) 7 2 12 (fun g => [.ref (g.2.1 0), .int x1, .int x2]) rI (pX9_knows N x1 x2) := by
  refine xStart hlt RX9 (by decide +kernel) rfl (fun g => [(0, .ref (g.2.1 0)), (1, .int x1), (2, .int x2)]) (fun _ => Nat.le_of_ble_eq_true rfl) (fun _ => rfl) ?_
  intro dC dI g sz Si o Sf hpf p e s m args below meth c X XX hr H locs I hc ls hl
  have hx := X.1
  have hb := X.2.1
  unfold pX9_knows at hpf
  refine lv_aload_n hx hb dX9_knows_0 rfl (lv_at hl 0 rfl) ?_
  refine lv_iload_n hx hb dX9_knows_1 rfl (lv_at hl 1 rfl) ?_
  refine x_cIm (rest := []) (As := [.int x1]) (d := 7) ⟨Nat.le_refl _, Nat.le_refl _⟩ X XX I hc fn_X9_X9_masterAt kCl_9 rfl (kO_X (g.1, g.2.1, g.2.2.1, g.2.2.2.1, g.2.2.2.2) Si) (c_X9_masterAt l hlt N x1) rfl (by decide) 2 dX9_knows_2 rfl hl.1 rfl (Nat.le_of_ble_eq_true rfl) ⟨Nat.le_of_ble_eq_true rfl, Nat.le_of_ble_eq_true rfl⟩ ⟨Nat.le_of_ble_eq_true rfl, Nat.le_of_ble_eq_true rfl⟩ hpf (fun v101 S102 cca103 cda103 cea103 H locs I hc hg hpf => ?_)
  have X := kX_to X cca103 cda103 cea103
  obtain ⟨hv101, hpf⟩ := gn_some hpf
  refine lv_astore_n (lv' := [(3, .ref (g.2.1 (18 + 2 * v101))), (0, .ref (g.2.1 0)), (1, .int x1), (2, .int x2)]) hx hb dX9_knows_5 rfl hl (by decide) rfl (fun ls hl => ?_)
  refine lv_aload_n hx hb dX9_knows_6 rfl (lv_at hl 0 rfl) ?_
  refine lv_iload_n hx hb dX9_knows_7 rfl (lv_at hl 2 rfl) ?_
  refine lv_aload_n hx hb dX9_knows_8 rfl (lv_at hl 1 rfl) ?_
  refine lv_iload_n hx hb dX9_knows_9 rfl (lv_at hl 3 rfl) ?_
  refine x_cIm (rest := [.int x1, .ref (g.2.1 (18 + 2 * v101))]) (As := [.int x2]) (d := 7) ⟨Nat.le_refl _, Nat.le_refl _⟩ X XX I hc fn_X9_X9_masterAt kCl_9 rfl (kO_X (g.1, g.2.1, cca103, cda103, cea103) S102) (c_X9_masterAt l hlt N x2) rfl (by decide) 10 dX9_knows_10 rfl hl.1 rfl (Nat.le_of_ble_eq_true rfl) ⟨Nat.le_of_ble_eq_true rfl, Nat.le_of_ble_eq_true rfl⟩ ⟨Nat.le_of_ble_eq_true rfl, Nat.le_of_ble_eq_true rfl⟩ hpf (fun v104 S105 cca106 cda106 cea106 H locs I hc hg hpf => ?_)
  have X := kX_to X cca106 cda106 cea106
  obtain ⟨hv104, hpf⟩ := gn_some hpf
  refine k_get (k := 0) X I kCl_4 (kO_M (g.1, g.2.1, cca106, cda106, cea106) S105 v104 hv104) 0 (by decide) rfl kC_755 13 dX9_knows_13 ?_
  refine k_cIi (rest := []) (As := [.int x1, .int (kI S105 (16 + 4 * v104))]) (d := 7) ⟨Nat.le_refl _, Nat.le_refl _⟩ X I fn_X9_X4_toldOf kCl_4 rfl (kO_M (g.1, g.2.1, cca106, cda106, cea106) S105 v101 hv101) (c_X4_toldOf l N v101 hv101 x1 (kI S105 (16 + 4 * v104))) rfl (by decide) 16 dX9_knows_16 rfl hl.1 rfl (Nat.le_of_ble_eq_true rfl) ⟨Nat.le_of_ble_eq_true rfl, Nat.le_of_ble_eq_true rfl⟩ hpf (fun v107 S108 H locs I hm hpf => ?_)
  exact x_reti X I hc hr ⟨Nat.le_of_ble_eq_true rfl, Nat.le_of_ble_eq_true rfl⟩ 19 dX9_knows_19 hpf
-- ===== X9_marks =====
def pX9_marks (N : Nat) (x1 : Int32) (S : kS) : Option ((Int32 ⊕ Nat) × kS) :=
    bx (pX9_masterAt N x1 S) fun v101 S102 =>
    gn v101 4 <|
    bk (pX4_marked N v101 S102) fun v104 S105 =>
    bk (pJ13_bitCount_95d88 N v104 S105) fun v106 S107 =>
    some (.inl v106, S107)
set_option maxRecDepth 100000 in
set_option maxHeartbeats 4000000 in
theorem c_X9_marks (l : Launch) (hlt : l.stackTraces = false) (N : Nat) (x1 : Int32) : kMx l yX9_marks cX9_marks 2 (some .int) 7 1 6 (fun g => [.ref (g.2.1 0), .int x1]) rI (pX9_marks N x1) := by
  refine xStart hlt RX9 (by decide +kernel) rfl (fun g => [(0, .ref (g.2.1 0)), (1, .int x1)]) (fun _ => Nat.le_of_ble_eq_true rfl) (fun _ => rfl) ?_
  intro dC dI g sz Si o Sf hpf p e s m args below meth c X XX hr H locs I hc ls hl
  have hx := X.1
  have hb := X.2.1
  unfold pX9_marks at hpf
  refine lv_aload_n hx hb dX9_marks_0 rfl (lv_at hl 0 rfl) ?_
  refine lv_iload_n hx hb dX9_marks_1 rfl (lv_at hl 1 rfl) ?_
  refine x_cIm (rest := []) (As := [.int x1]) (d := 7) ⟨Nat.le_refl _, Nat.le_refl _⟩ X XX I hc fn_X9_X9_masterAt kCl_9 rfl (kO_X (g.1, g.2.1, g.2.2.1, g.2.2.2.1, g.2.2.2.2) Si) (c_X9_masterAt l hlt N x1) rfl (by decide) 2 dX9_marks_2 rfl hl.1 rfl (Nat.le_of_ble_eq_true rfl) ⟨Nat.le_of_ble_eq_true rfl, Nat.le_of_ble_eq_true rfl⟩ ⟨Nat.le_of_ble_eq_true rfl, Nat.le_of_ble_eq_true rfl⟩ hpf (fun v101 S102 cca103 cda103 cea103 H locs I hc hg hpf => ?_)
  have X := kX_to X cca103 cda103 cea103
  obtain ⟨hv101, hpf⟩ := gn_some hpf
  refine k_cIl (rest := []) (As := []) (d := 7) ⟨Nat.le_refl _, Nat.le_refl _⟩ X I fn_X9_X4_marked kCl_4 rfl (kO_M (g.1, g.2.1, cca103, cda103, cea103) S102 v101 hv101) (c_X4_marked l N v101 hv101) rfl (by decide) 5 dX9_marks_5 rfl hl.1 rfl (Nat.le_of_ble_eq_true rfl) ⟨Nat.le_of_ble_eq_true rfl, Nat.le_of_ble_eq_true rfl⟩ hpf (fun v104 S105 H locs I hm hpf => ?_)
  refine k_cSi (rest := []) (As := [.long v104]) (d := 7) ⟨Nat.le_refl _, Nat.le_refl _⟩ X I fn_X9_J13_bitCount_95d88 (c_J13_bitCount_95d88 l N v104) rfl (by decide) 8 dX9_marks_8 rfl hl.1 rfl (Nat.le_of_ble_eq_true rfl) ⟨Nat.le_of_ble_eq_true rfl, Nat.le_of_ble_eq_true rfl⟩ hpf (fun v106 S107 H locs I hm hpf => ?_)
  exact x_reti X I hc hr ⟨Nat.le_of_ble_eq_true rfl, Nat.le_of_ble_eq_true rfl⟩ 11 dX9_marks_11 hpf
