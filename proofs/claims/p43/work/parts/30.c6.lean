theorem fn_X3_X8_placeOf : kFnI RX3 yX8_placeOf cX8_placeOf 2 (some .int) 1 64 := ⟨⟨kC_169, kC_121, kC_161, ⟨by decide +kernel, by decide +kernel, by decide +kernel⟩, by decide⟩, kC_166, kC_167⟩
theorem fn_X3_X8_isAtOrBeneath : kFnI RX3 yX8_isAtOrBeneath cX8_isAtOrBeneath 5 (some .boolean) 2 68 := ⟨⟨kC_170, kC_121, kC_164, ⟨by decide +kernel, by decide +kernel, by decide +kernel⟩, by decide⟩, kC_171, kC_172⟩
theorem fn_X3_X2_appliesTo : kFnI RX3 yX2_appliesTo cX2_appliesTo 6 (some .long) 1 44 := ⟨⟨kC_199, kC_98, kC_153, ⟨by decide +kernel, by decide +kernel, by decide +kernel⟩, by decide⟩, kC_200, kC_201⟩
theorem fn_X3_X3_isInScope : kFnS RX3 yX3_isInScope cX3_isInScope 4 (some .boolean) 4 50 := ⟨⟨kC_202, kC_204, kC_168, ⟨by decide +kernel, by decide +kernel, by decide +kernel⟩, by decide⟩, kC_203⟩
theorem fn_X3_X8_grants : kFnI RX3 yX8_grants cX8_grants 9 (some .boolean) 3 54 := ⟨⟨kC_205, kC_121, kC_193, ⟨by decide +kernel, by decide +kernel, by decide +kernel⟩, by decide⟩, kC_206, kC_207⟩
theorem fn_X3_X3_keep : kFnI RX3 yX3_keep cX3_keep 2 none 1 60 := ⟨⟨kC_208, kC_204, kC_194, ⟨by decide +kernel, by decide +kernel, by decide +kernel⟩, by decide⟩, kC_209, kC_210⟩
theorem fn_J13_J6_numberOfTrailingZeros_0f7a4 : kFnS RJ13 yJ6_numberOfTrailingZeros_0f7a4 cJ6_numberOfTrailingZeros_0f7a4 2 (some .int) 1 311 := ⟨⟨kC_220, kC_222, kC_223, ⟨by decide +kernel, by decide +kernel, by decide +kernel⟩, by decide⟩, kC_221⟩
theorem fn_X3_X8_childrenAt : kFnI RX3 yX8_childrenAt cX8_childrenAt 5 (some .long) 1 72 := ⟨⟨kC_213, kC_121, kC_212, ⟨by decide +kernel, by decide +kernel, by decide +kernel⟩, by decide⟩, kC_214, kC_215⟩
theorem fn_X3_J13_numberOfTrailingZeros_95d88 : kFnS RX3 yJ13_numberOfTrailingZeros_95d88 cJ13_numberOfTrailingZeros_95d88 3 (some .int) 1 76 := ⟨⟨kC_216, kC_218, kC_219, ⟨by decide +kernel, by decide +kernel, by decide +kernel⟩, by decide⟩, kC_217⟩
theorem fn_X3_X2_applies : kFnI RX3 yX2_applies cX2_applies 8 (some .boolean) 2 82 := ⟨⟨kC_225, kC_98, kC_125, ⟨by decide +kernel, by decide +kernel, by decide +kernel⟩, by decide⟩, kC_226, kC_227⟩
theorem fn_X3_X8_isLive : kFnI RX3 yX8_isLive cX8_isLive 2 (some .boolean) 1 104 := ⟨⟨kC_231, kC_121, kC_140, ⟨by decide +kernel, by decide +kernel, by decide +kernel⟩, by decide⟩, kC_145, kC_146⟩
theorem fn_X3_X8_rankedAt : kFnI RX3 yX8_rankedAt cX8_rankedAt 5 (some (.object "MasterTree$Numbers")) 1 111 := ⟨⟨kC_254, kC_121, kC_251, ⟨by decide +kernel, by decide +kernel, by decide +kernel⟩, by decide⟩, kC_255, kC_256⟩
theorem fn_X3_X5_at : kFnI RX3 yX5_at cX5_at 2 (some .int) 1 120 := ⟨⟨kC_257, kC_109, kC_126, ⟨by decide +kernel, by decide +kernel, by decide +kernel⟩, by decide⟩, kC_135, kC_136⟩
theorem fn_X3_J7_fill_d0a16 : kFnS RX3 yJ7_fill_d0a16 cJ7_fill_d0a16 5 none 2 89 := ⟨⟨kC_259, kC_22, kC_261, ⟨by decide +kernel, by decide +kernel, by decide +kernel⟩, by decide⟩, kC_260⟩
theorem fn_X3_X3_arriveFrom : kFnI RX3 yX3_arriveFrom cX3_arriveFrom 7 (some .int) 1 95 := ⟨⟨kC_262, kC_204, kC_229, ⟨by decide +kernel, by decide +kernel, by decide +kernel⟩, by decide⟩, kC_263, kC_264⟩
theorem fn_X3_X3_lookAt : kFnI RX3 yX3_lookAt cX3_lookAt 4 none 1 98 := ⟨⟨kC_265, kC_204, kC_232, ⟨by decide +kernel, by decide +kernel, by decide +kernel⟩, by decide⟩, kC_266, kC_267⟩
theorem fn_X3_X3_awaitChildrenOf : kFnI RX3 yX3_awaitChildrenOf cX3_awaitChildrenOf 4 none 1 101 := ⟨⟨kC_268, kC_204, kC_258, ⟨by decide +kernel, by decide +kernel, by decide +kernel⟩, by decide⟩, kC_269, kC_270⟩
-- ===== X3_isInScope =====
def pX3_isInScope (N : Nat) (n0 : Nat) (x1 : Int32) (x2 : Int32) (x3 : Int32) (S : kS) : Option (Int32 × kS) :=
    if x3 = (0 : Int32) then (
      if x1 = x2 then (
        some ((1 : Int32), S))
      else (
        some ((0 : Int32), S)))
    else (
      if x3 = (1 : Int32) then (
        bk (pX8_placeOf N n0 x1 S) fun v103 S104 =>
        if v103 = x2 then (
          some ((1 : Int32), S104))
        else (
          some ((0 : Int32), S104)))
      else (
        bk (pX8_isAtOrBeneath N n0 x1 x2 S) fun v101 S102 =>
        zk v101 S102))
set_option maxRecDepth 100000 in
set_option maxHeartbeats 4000000 in
theorem c_X3_isInScope (l : Launch) (N : Nat) (n0 : Nat) (hn0 : n0 < 5) (x1 : Int32) (x2 : Int32) (x3 : Int32) : kMet l yX3_isInScope cX3_isInScope 4 (some .boolean) 3 (fun g => [.ref (g.2.1 (26 + 15 * n0)), .int x1, .int x2, .int x3]) rI (pX3_isInScope N n0 x1 x2 x3) := by
  refine kStart RX3 (by decide +kernel) rfl (fun g => [(0, .ref (g.2.1 (26 + 15 * n0))), (1, .int x1), (2, .int x2), (3, .int x3)]) (fun _ => Nat.le_of_ble_eq_true rfl) (fun _ => rfl) ?_
  intro dC dI g sz Si r Sf hpf p e s m args below meth c X hr H locs I ls hl
  have hx := X.1
  have hb := X.2.1
  unfold pX3_isInScope at hpf
  refine lv_iload_n hx hb dX3_isInScope_0 rfl (lv_at hl 3 rfl) ?_
  refine b_if_ne hx hb 15 1 dX3_isInScope_1 (by decide) hpf (fun hpf => ?_) (fun hpf => ?_)
  · refine lv_iload_n hx hb dX3_isInScope_15 rfl (lv_at hl 3 rfl) ?_
    refine lv_iconst (v := (1 : Int32)) hx hb dX3_isInScope_16 (by decide) ?_
    refine b_icmp_ne hx hb 37 17 dX3_isInScope_17 (by decide) hpf (fun hpf => ?_) (fun hpf => ?_)
    · refine lv_aload_n hx hb dX3_isInScope_37 rfl (lv_at hl 0 rfl) ?_
      refine lv_iload_n hx hb dX3_isInScope_38 rfl (lv_at hl 1 rfl) ?_
      refine lv_iload_n hx hb dX3_isInScope_39 rfl (lv_at hl 2 rfl) ?_
      refine k_cIi (rest := []) (As := [.int x1, .int x2]) (d := 3) ⟨Nat.le_refl _, Nat.le_refl _⟩ X I fn_X3_X8_isAtOrBeneath kCl_8 rfl (kO_T g Si n0 hn0) (c_X8_isAtOrBeneath l N n0 hn0 x1 x2) rfl (by decide) 40 dX3_isInScope_40 rfl hl.1 rfl (Nat.le_of_ble_eq_true rfl) ⟨Nat.le_of_ble_eq_true rfl, Nat.le_of_ble_eq_true rfl⟩ hpf (fun v101 S102 H locs I hm hpf => ?_)
      exact k_retz X I hr 43 dX3_isInScope_43 hpf
    refine lv_aload_n hx hb dX3_isInScope_20 rfl (lv_at hl 0 rfl) ?_
    refine lv_iload_n hx hb dX3_isInScope_21 rfl (lv_at hl 1 rfl) ?_
    refine k_cIi (rest := []) (As := [.int x1]) (d := 3) ⟨Nat.le_refl _, Nat.le_refl _⟩ X I fn_X3_X8_placeOf kCl_8 rfl (kO_T g Si n0 hn0) (c_X8_placeOf l N n0 hn0 x1) rfl (by decide) 22 dX3_isInScope_22 rfl hl.1 rfl (Nat.le_of_ble_eq_true rfl) ⟨Nat.le_of_ble_eq_true rfl, Nat.le_of_ble_eq_true rfl⟩ hpf (fun v103 S104 H locs I hm hpf => ?_)
    refine lv_iload_n hx hb dX3_isInScope_25 rfl (lv_at hl 2 rfl) ?_
    refine b_icmp_ne hx hb 33 26 dX3_isInScope_26 (by decide) hpf (fun hpf => ?_) (fun hpf => ?_)
    · refine lv_iconst (v := (0 : Int32)) hx hb dX3_isInScope_33 (by decide) ?_
      refine lv_goto (tgt := 43) hx hb dX3_isInScope_34 (by decide) ?_
      exact k_retzc X I hr 43 dX3_isInScope_43 (by decide) hpf
    refine lv_iconst (v := (1 : Int32)) hx hb dX3_isInScope_29 (by decide) ?_
    refine lv_goto (tgt := 43) hx hb dX3_isInScope_30 (by decide) ?_
    exact k_retzc X I hr 43 dX3_isInScope_43 (by decide) hpf
  refine lv_iload_n hx hb dX3_isInScope_4 rfl (lv_at hl 1 rfl) ?_
  refine lv_iload_n hx hb dX3_isInScope_5 rfl (lv_at hl 2 rfl) ?_
  refine b_icmp_ne hx hb 13 6 dX3_isInScope_6 (by decide) hpf (fun hpf => ?_) (fun hpf => ?_)
  · refine lv_iconst (v := (0 : Int32)) hx hb dX3_isInScope_13 (by decide) ?_
    exact k_retzc X I hr 14 dX3_isInScope_14 (by decide) hpf
  refine lv_iconst (v := (1 : Int32)) hx hb dX3_isInScope_9 (by decide) ?_
  refine lv_goto (tgt := 14) hx hb dX3_isInScope_10 (by decide) ?_
  exact k_retzc X I hr 14 dX3_isInScope_14 (by decide) hpf
-- ===== X3_keep =====
def pX3_keep (N : Nat) (x1 : Int32) (S : kS) : Option (Unit × kS) :=
    if (192 : Int32) ≤ (kI S 8) then (
      some ((), S))
    else (
      gd (kI S 8) 192 <| svk (sA S 14 (kI S 8).toNatClampNeg x1) fun S101 =>
      svk (sI S101 8 ((kI S101 8) + (1 : Int32))) fun S102 =>
      some ((), S102))
set_option maxRecDepth 100000 in
set_option maxHeartbeats 4000000 in
theorem c_X3_keep (l : Launch) (N : Nat) (x1 : Int32) : kMet l yX3_keep cX3_keep 2 none 0 (fun g => [.ref (g.2.1 13), .int x1]) rU (pX3_keep N x1) := by
  refine kStart RX3 (by decide +kernel) rfl (fun g => [(0, .ref (g.2.1 13)), (1, .int x1)]) (fun _ => Nat.le_of_ble_eq_true rfl) (fun _ => rfl) ?_
  intro dC dI g sz Si r Sf hpf p e s m args below meth c X hr H locs I ls hl
  have hx := X.1
  have hb := X.2.1
  unfold pX3_keep at hpf
  refine lv_aload_n hx hb dX3_keep_0 rfl (lv_at hl 0 rfl) ?_
  refine k_get (k := 0) X I kCl_3 (kO_Q g Si) 3 (by decide) rfl kC_195 1 dX3_keep_1 ?_
  refine lv_aload_n hx hb dX3_keep_4 rfl (lv_at hl 0 rfl) ?_
  refine k_get (k := 0) X I kCl_3 (kO_Q g Si) 2 (by decide) rfl kC_156 5 dX3_keep_5 ?_
  refine k_lenI X I kR_14 8 dX3_keep_8 (192 : Int32) (by decide) ?_
  refine b_icmp_ge hx hb 32 9 dX3_keep_9 (by decide) hpf (fun hpf => ?_) (fun hpf => ?_)
  · exact k_retv X I hr 32 dX3_keep_32 hpf
  refine lv_aload_n hx hb dX3_keep_12 rfl (lv_at hl 0 rfl) ?_
  refine k_get (k := 0) X I kCl_3 (kO_Q g Si) 2 (by decide) rfl kC_156 13 dX3_keep_13 ?_
  refine lv_aload_n hx hb dX3_keep_16 rfl (lv_at hl 0 rfl) ?_
  refine k_get (k := 0) X I kCl_3 (kO_Q g Si) 3 (by decide) rfl kC_195 17 dX3_keep_17 ?_
  refine lv_iload_n hx hb dX3_keep_20 rfl (lv_at hl 1 rfl) ?_
  refine k_iast X I kR_14 21 dX3_keep_21 hpf (fun S101 H locs I hm hpf => ?_)
  refine lv_aload_n hx hb dX3_keep_22 rfl (lv_at hl 0 rfl) ?_
  refine lv_dup hx hb dX3_keep_23 rfl ?_
  refine k_get (k := 0) X I kCl_3 (kO_Q g S101) 3 (by decide) rfl kC_195 24 dX3_keep_24 ?_
  refine lv_iconst (v := (1 : Int32)) hx hb dX3_keep_27 (by decide) ?_
  refine lv_iadd hx hb dX3_keep_28 ?_
  refine k_put (ty := .int) X I kCl_3 tyX3_ok nmX3 (kO_Q g S101) 3 (by decide) (Nat.le_of_ble_eq_true rfl) (kP_Q3 g S101 _) ⟨rfl, rfl, rfl⟩ kC_195 rfl (by decide +kernel) rfl rfl 29 dX3_keep_29 hpf (fun S102 H locs I hm hpf => ?_)
  exact k_retv X I hr 32 dX3_keep_32 hpf
-- ===== X3_byIndex =====
def pX3_byIndex_118 (N : Nat) (S : kS) : Option (Int32 × kS) :=
    some (kI S 8, S)
def pX3_byIndex_112 (N : Nat) (k_43 : Int32 → Int32 → Int32 → Nat → Int64 → Int32 → kS → Option (Int32 × kS)) (x1 : Int32) (x2 : Int32) (x3 : Int32) (n4 : Nat) (w5 : Int64) (x7 : Int32) (S : kS) : Option (Int32 × kS) :=
    nm (x7 + (1 : Int32)) fun y101 =>
    k_43 x1 x2 x3 n4 w5 y101 S
def pX3_byIndex_79 (N : Nat) (k_43 : Int32 → Int32 → Int32 → Nat → Int64 → Int32 → kS → Option (Int32 × kS)) (t0 : Int32) (x1 : Int32) (x2 : Int32) (x3 : Int32) (n4 : Nat) (w5 : Int64) (x7 : Int32) (S : kS) : Option (Int32 × kS) :=
    if t0 = (0 : Int32) then (
      pX3_byIndex_112 N k_43 x1 x2 x3 n4 w5 x7 S)
    else (
      bk (pX8_grants N n4 (kI S 10) x7 (0 : Int32) S) fun v101 S102 =>
      if v101 = (0 : Int32) then (
        pX3_byIndex_112 N k_43 x1 x2 x3 n4 w5 x7 S102)
      else (
        bk (pX3_keep N ((x1 * (100 : Int32)) + x7) S102) fun v103 S104 =>
        pX3_byIndex_112 N k_43 x1 x2 x3 n4 w5 x7 S104))
def pX3_byIndex_43 (N : Nat) (k_118 : kS → Option (Int32 × kS)) : Nat → Int32 → Int32 → Int32 → Nat → Int64 → Int32 → kS → Option (Int32 × kS)
  | 0 => fun _ _ _ _ _ _ _ => none
  | n_43 + 1 => fun x1 x2 x3 n4 w5 x7 S =>
    if (48 : Int32) ≤ x7 then (
      k_118 S)
    else (
      if (lg_cmp ((w5 >>> (x7.toInt64 &&& 63)) &&& (1 : Int64)) (1 : Int64)) = (0 : Int32) then (
        bk (pX3_isInScope N n4 x7 x2 x3 S) fun v101 S102 =>
        if v101 = (0 : Int32) then (
          pX3_byIndex_79 N (pX3_byIndex_43 N k_118 n_43) (0 : Int32) x1 x2 x3 n4 w5 x7 S102)
        else (
          pX3_byIndex_79 N (pX3_byIndex_43 N k_118 n_43) (1 : Int32) x1 x2 x3 n4 w5 x7 S102))
      else (
        pX3_byIndex_79 N (pX3_byIndex_43 N k_118 n_43) (0 : Int32) x1 x2 x3 n4 w5 x7 S))
def pX3_byIndex (N : Nat) (x1 : Int32) (x2 : Int32) (x3 : Int32) (S : kS) : Option (Int32 × kS) :=
    gm x1 fun k101 =>
    gm x1 fun k102 =>
    svk (sI S 10 (kI S (17 + 4 * k102))) fun S103 =>
    svk (sI S103 8 (0 : Int32)) fun S104 =>
    bk (pX2_appliesTo N k101 S104) fun v105 S106 =>
    pX3_byIndex_43 N (pX3_byIndex_118 N) N x1 x2 x3 k101 v105 (0 : Int32) S106
set_option maxRecDepth 100000 in
set_option maxHeartbeats 4000000 in
theorem c_X3_byIndex (l : Launch) (N : Nat) (x1 : Int32) (x2 : Int32) (x3 : Int32) : kMet l yX3_byIndex cX3_byIndex 9 (some .int) 4 (fun g => [.ref (g.2.1 13), .int x1, .int x2, .int x3]) rI (pX3_byIndex N x1 x2 x3) := by
  refine kStart RX3 (by decide +kernel) rfl (fun g => [(0, .ref (g.2.1 13)), (1, .int x1), (2, .int x2), (3, .int x3)]) (fun _ => Nat.le_of_ble_eq_true rfl) (fun _ => rfl) ?_
  intro dC dI g sz Si r Sf hpf p e s m args below meth c X hr H locs I ls hl
  have hx := X.1
  have hb := X.2.1
  unfold pX3_byIndex at hpf
  have hC_118 : ∀ (S : kS) (H : Heap) (locs : List Loc), kV dC dI g (kAt g (kn Si) (km Si) (kp Si) sz) s Si S H locs → ∀ ls : Array Slot, lv_has ls 9 [(0, .ref (g.2.1 13))] → pX3_byIndex_118 N S = some (r, Sf) → W p l e (mRm 4) s m args below meth c H locs 0 0 (MQ below (kQ dC dI g sz Si (rI g r) Sf) args s 0 0 (kAt g (kn Si) (km Si) (kp Si) sz)) (F0 m 118 ls []) := by
    intro S H locs I ls hl hpf
    unfold pX3_byIndex_118 at hpf
    refine lv_aload_n hx hb dX3_byIndex_118 rfl (lv_at hl 0 rfl) ?_
    refine k_get (k := 0) X I kCl_3 (kO_Q g S) 3 (by decide) rfl kC_195 119 dX3_byIndex_119 ?_
    exact k_reti X I hr 122 dX3_byIndex_122 hpf
  have hC_43 : ∀ (n_43 : Nat), ∀ (x1 : Int32) (x2 : Int32) (x3 : Int32) (n4 : Nat) (w5 : Int64) (x7 : Int32) (hn4 : n4 < 5) (S : kS) (H : Heap) (locs : List Loc), kV dC dI g (kAt g (kn Si) (km Si) (kp Si) sz) s Si S H locs → ∀ ls : Array Slot, lv_has ls 9 [(0, .ref (g.2.1 13)), (1, .int x1), (2, .int x2), (3, .int x3), (4, .ref (g.2.1 (26 + 15 * n4))), (5, .long w5), (7, .int x7)] → pX3_byIndex_43 N (pX3_byIndex_118 N) n_43 x1 x2 x3 n4 w5 x7 S = some (r, Sf) → W p l e (mRm 4) s m args below meth c H locs 0 0 (MQ below (kQ dC dI g sz Si (rI g r) Sf) args s 0 0 (kAt g (kn Si) (km Si) (kp Si) sz)) (F0 m 43 ls []) := by
    intro n_43
    induction n_43 with
    | zero =>
      intro x1 x2 x3 n4 w5 x7 hn4 S H locs I ls hl hpf
      rw [pX3_byIndex_43] at hpf
      cases hpf
    | succ n_43 ih_43 =>
      have hC_112 : ∀ (x1 : Int32) (x2 : Int32) (x3 : Int32) (n4 : Nat) (w5 : Int64) (x7 : Int32) (hn4 : n4 < 5) (S : kS) (H : Heap) (locs : List Loc), kV dC dI g (kAt g (kn Si) (km Si) (kp Si) sz) s Si S H locs → ∀ ls : Array Slot, lv_has ls 9 [(0, .ref (g.2.1 13)), (1, .int x1), (2, .int x2), (3, .int x3), (4, .ref (g.2.1 (26 + 15 * n4))), (5, .long w5), (7, .int x7)] → pX3_byIndex_112 N (pX3_byIndex_43 N (pX3_byIndex_118 N) n_43) x1 x2 x3 n4 w5 x7 S = some (r, Sf) → W p l e (mRm 4) s m args below meth c H locs 0 0 (MQ below (kQ dC dI g sz Si (rI g r) Sf) args s 0 0 (kAt g (kn Si) (km Si) (kp Si) sz)) (F0 m 112 ls []) := by
        intro x1 x2 x3 n4 w5 x7 hn4 S H locs I ls hl hpf
        unfold pX3_byIndex_112 at hpf
        refine m_iinc (w := (1 : Int32)) hx hb (fun y101 => [(7, .int y101), (0, .ref (g.2.1 13)), (1, .int x1), (2, .int x2), (3, .int x3), (4, .ref (g.2.1 (26 + 15 * n4))), (5, .long w5)]) 112 dX3_byIndex_112 hl (k := 6) rfl (by decide) (by decide) (fun _ => rfl) hpf (fun y101 ls hl hpf => ?_)
        refine lv_goto (tgt := 43) hx hb dX3_byIndex_115 (by decide) ?_
        exact ih_43 x1 x2 x3 n4 w5 y101 hn4 S H locs I ls (lv_sub hl [1, 2, 3, 4, 5, 6, 0] rfl) hpf
      have hC_79 : ∀ (t0 : Int32) (x1 : Int32) (x2 : Int32) (x3 : Int32) (n4 : Nat) (w5 : Int64) (x7 : Int32) (hn4 : n4 < 5) (S : kS) (H : Heap) (locs : List Loc), kV dC dI g (kAt g (kn Si) (km Si) (kp Si) sz) s Si S H locs → ∀ ls : Array Slot, lv_has ls 9 [(0, .ref (g.2.1 13)), (1, .int x1), (2, .int x2), (3, .int x3), (4, .ref (g.2.1 (26 + 15 * n4))), (5, .long w5), (7, .int x7)] → pX3_byIndex_79 N (pX3_byIndex_43 N (pX3_byIndex_118 N) n_43) t0 x1 x2 x3 n4 w5 x7 S = some (r, Sf) → W p l e (mRm 4) s m args below meth c H locs 0 0 (MQ below (kQ dC dI g sz Si (rI g r) Sf) args s 0 0 (kAt g (kn Si) (km Si) (kp Si) sz)) (F0 m 79 ls [.int t0]) := by
        intro t0 x1 x2 x3 n4 w5 x7 hn4 S H locs I ls hl hpf
        unfold pX3_byIndex_79 at hpf
        refine lv_istore (lv' := [(8, .int t0), (0, .ref (g.2.1 13)), (1, .int x1), (2, .int x2), (3, .int x3), (4, .ref (g.2.1 (26 + 15 * n4))), (5, .long w5), (7, .int x7)]) hx hb dX3_byIndex_79 hl (by decide) rfl (fun ls hl => ?_)
        refine lv_iload hx hb dX3_byIndex_81 (lv_at hl 0 rfl) ?_
        refine b_if_eq hx hb 112 83 dX3_byIndex_83 (by decide) hpf (fun hpf => ?_) (fun hpf => ?_)
        · exact hC_112 x1 x2 x3 n4 w5 x7 hn4 S H locs I ls (lv_sub hl [1, 2, 3, 4, 5, 6, 7] rfl) hpf
        refine lv_aload hx hb dX3_byIndex_86 (lv_at hl 5 rfl) ?_
        refine lv_aload_n hx hb dX3_byIndex_88 rfl (lv_at hl 1 rfl) ?_
        refine k_get (k := 0) X I kCl_3 (kO_Q g S) 7 (by decide) rfl kC_198 89 dX3_byIndex_89 ?_
        refine lv_iload hx hb dX3_byIndex_92 (lv_at hl 7 rfl) ?_
        refine lv_iconst (v := (0 : Int32)) hx hb dX3_byIndex_94 (by decide) ?_
        refine k_cIi (rest := []) (As := [.int (kI S 10), .int x7, .int (0 : Int32)]) (d := 4) ⟨Nat.le_refl _, Nat.le_refl _⟩ X I fn_X3_X8_grants kCl_8 rfl (kO_T g S n4 hn4) (c_X8_grants l N n4 hn4 (kI S 10) x7 (0 : Int32)) rfl (by decide) 95 dX3_byIndex_95 rfl hl.1 rfl (Nat.le_of_ble_eq_true rfl) ⟨Nat.le_of_ble_eq_true rfl, Nat.le_of_ble_eq_true rfl⟩ hpf (fun v101 S102 H locs I hm hpf => ?_)
        refine b_if_eq hx hb 112 98 dX3_byIndex_98 (by decide) hpf (fun hpf => ?_) (fun hpf => ?_)
        · exact hC_112 x1 x2 x3 n4 w5 x7 hn4 S102 H locs I ls (lv_sub hl [1, 2, 3, 4, 5, 6, 7] rfl) hpf
        refine lv_aload_n hx hb dX3_byIndex_101 rfl (lv_at hl 1 rfl) ?_
        refine lv_iload_n hx hb dX3_byIndex_102 rfl (lv_at hl 2 rfl) ?_
        refine lv_bipush (v := (100 : Int32)) hx hb dX3_byIndex_103 (by decide) ?_
        refine lv_imul hx hb dX3_byIndex_105 ?_
        refine lv_iload hx hb dX3_byIndex_106 (lv_at hl 7 rfl) ?_
        refine lv_iadd hx hb dX3_byIndex_108 ?_
        refine k_cIv (rest := []) (As := [.int ((x1 * (100 : Int32)) + x7)]) (d := 4) ⟨Nat.le_refl _, Nat.le_refl _⟩ X I fn_X3_X3_keep kCl_3 rfl (kO_Q g S102) (c_X3_keep l N ((x1 * (100 : Int32)) + x7)) rfl (by decide) 109 dX3_byIndex_109 rfl hl.1 rfl (Nat.le_of_ble_eq_true rfl) ⟨Nat.le_of_ble_eq_true rfl, Nat.le_of_ble_eq_true rfl⟩ hpf (fun v103 S104 H locs I hm hpf => ?_)
        exact hC_112 x1 x2 x3 n4 w5 x7 hn4 S104 H locs I ls (lv_sub hl [1, 2, 3, 4, 5, 6, 7] rfl) hpf
      intro x1 x2 x3 n4 w5 x7 hn4 S H locs I ls hl hpf
      rw [pX3_byIndex_43] at hpf
      refine lv_iload hx hb dX3_byIndex_43 (lv_at hl 6 rfl) ?_
      refine lv_bipush (v := (48 : Int32)) hx hb dX3_byIndex_45 (by decide) ?_
      refine b_icmp_ge hx hb 118 47 dX3_byIndex_47 (by decide) hpf (fun hpf => ?_) (fun hpf => ?_)
      · exact hC_118 S H locs I ls (lv_sub hl [0] rfl) hpf
      refine lv_lload hx hb dX3_byIndex_50 (lv_at hl 5 rfl) ?_
      refine lv_iload hx hb dX3_byIndex_52 (lv_at hl 6 rfl) ?_
      refine lv_lshr hx hb dX3_byIndex_54 rfl ?_
      refine lv_lconst (v := (1 : Int64)) hx hb dX3_byIndex_55 (by decide) ?_
      refine lv_land hx hb dX3_byIndex_56 ?_
      refine lv_lconst (v := (1 : Int64)) hx hb dX3_byIndex_57 (by decide) ?_
      refine W.lcmp hx hb dX3_byIndex_58 ?_
      refine b_if_ne hx hb 78 59 dX3_byIndex_59 (by decide) hpf (fun hpf => ?_) (fun hpf => ?_)
      · refine lv_iconst (v := (0 : Int32)) hx hb dX3_byIndex_78 (by decide) ?_
        exact hC_79 (0 : Int32) x1 x2 x3 n4 w5 x7 hn4 S H locs I ls (lv_sub hl [0, 1, 2, 3, 4, 5, 6] rfl) hpf
      refine lv_aload hx hb dX3_byIndex_62 (lv_at hl 4 rfl) ?_
      refine lv_iload hx hb dX3_byIndex_64 (lv_at hl 6 rfl) ?_
      refine lv_iload_n hx hb dX3_byIndex_66 rfl (lv_at hl 2 rfl) ?_
      refine lv_iload_n hx hb dX3_byIndex_67 rfl (lv_at hl 3 rfl) ?_
      refine k_cSi (rest := []) (As := [.ref (g.2.1 (26 + 15 * n4)), .int x7, .int x2, .int x3]) (d := 4) ⟨Nat.le_refl _, Nat.le_refl _⟩ X I fn_X3_X3_isInScope (c_X3_isInScope l N n4 hn4 x7 x2 x3) rfl (by decide) 68 dX3_byIndex_68 rfl hl.1 rfl (Nat.le_of_ble_eq_true rfl) ⟨Nat.le_of_ble_eq_true rfl, Nat.le_of_ble_eq_true rfl⟩ hpf (fun v101 S102 H locs I hm hpf => ?_)
      refine b_if_eq hx hb 78 71 dX3_byIndex_71 (by decide) hpf (fun hpf => ?_) (fun hpf => ?_)
      · refine lv_iconst (v := (0 : Int32)) hx hb dX3_byIndex_78 (by decide) ?_
        exact hC_79 (0 : Int32) x1 x2 x3 n4 w5 x7 hn4 S102 H locs I ls (lv_sub hl [0, 1, 2, 3, 4, 5, 6] rfl) hpf
      refine lv_iconst (v := (1 : Int32)) hx hb dX3_byIndex_74 (by decide) ?_
      refine lv_goto (tgt := 79) hx hb dX3_byIndex_75 (by decide) ?_
      exact hC_79 (1 : Int32) x1 x2 x3 n4 w5 x7 hn4 S102 H locs I ls (lv_sub hl [0, 1, 2, 3, 4, 5, 6] rfl) hpf
  refine lv_aload_n hx hb dX3_byIndex_0 rfl (lv_at hl 0 rfl) ?_
  refine k_get (k := 0) X I kCl_3 (kO_Q g Si) 0 (by decide) rfl kC_159 1 dX3_byIndex_1 ?_
  refine lv_iload_n hx hb dX3_byIndex_4 rfl (lv_at hl 1 rfl) ?_
  refine k_mld X I 5 dX3_byIndex_5 hpf (fun k101 hk101 hpf => ?_)
  refine k_get (k := 0) X I kCl_4 (kO_M g Si k101 hk101) 1 (by decide) rfl kC_196 6 dX3_byIndex_6 ?_
  refine lv_astore (lv' := [(4, .ref (g.2.1 (26 + 15 * k101))), (0, .ref (g.2.1 13)), (1, .int x1), (2, .int x2), (3, .int x3)]) hx hb dX3_byIndex_9 hl (by decide) rfl (fun ls hl => ?_)
  refine lv_aload_n hx hb dX3_byIndex_11 rfl (lv_at hl 1 rfl) ?_
  refine lv_aload_n hx hb dX3_byIndex_12 rfl (lv_at hl 1 rfl) ?_
  refine k_get (k := 0) X I kCl_3 (kO_Q g Si) 0 (by decide) rfl kC_159 13 dX3_byIndex_13 ?_
  refine lv_iload_n hx hb dX3_byIndex_16 rfl (lv_at hl 2 rfl) ?_
  refine k_mld X I 17 dX3_byIndex_17 hpf (fun k102 hk102 hpf => ?_)
  refine k_get (k := 0) X I kCl_4 (kO_M g Si k102 hk102) 2 (by decide) rfl kC_197 18 dX3_byIndex_18 ?_
  refine k_put (ty := .int) X I kCl_3 tyX3_ok nmX3 (kO_Q g Si) 7 (by decide) (Nat.le_of_ble_eq_true rfl) (kP_Q7 g Si _) ⟨rfl, rfl, rfl⟩ kC_198 rfl (by decide +kernel) rfl rfl 21 dX3_byIndex_21 hpf (fun S103 H locs I hm hpf => ?_)
  refine lv_aload_n hx hb dX3_byIndex_24 rfl (lv_at hl 1 rfl) ?_
  refine lv_iconst (v := (0 : Int32)) hx hb dX3_byIndex_25 (by decide) ?_
  refine k_put (ty := .int) X I kCl_3 tyX3_ok nmX3 (kO_Q g S103) 3 (by decide) (Nat.le_of_ble_eq_true rfl) (kP_Q3 g S103 _) ⟨rfl, rfl, rfl⟩ kC_195 rfl (by decide +kernel) rfl rfl 26 dX3_byIndex_26 hpf (fun S104 H locs I hm hpf => ?_)
  refine lv_aload_n hx hb dX3_byIndex_29 rfl (lv_at hl 1 rfl) ?_
  refine k_get (k := 0) X I kCl_3 (kO_Q g S104) 1 (by decide) rfl kC_160 30 dX3_byIndex_30 ?_
  refine lv_aload hx hb dX3_byIndex_33 (lv_at hl 0 rfl) ?_
  refine k_cIl (rest := []) (As := [.ref (g.2.1 (26 + 15 * k101))]) (d := 4) ⟨Nat.le_refl _, Nat.le_refl _⟩ X I fn_X3_X2_appliesTo kCl_2 rfl (kO_P g S104) (c_X2_appliesTo l N k101 (Nat.lt_succ_of_lt hk101)) rfl (by decide) 35 dX3_byIndex_35 rfl hl.1 rfl (Nat.le_of_ble_eq_true rfl) ⟨Nat.le_of_ble_eq_true rfl, Nat.le_of_ble_eq_true rfl⟩ hpf (fun v105 S106 H locs I hm hpf => ?_)
  refine lv_lstore (lv' := [(5, .long v105), (4, .ref (g.2.1 (26 + 15 * k101))), (0, .ref (g.2.1 13)), (1, .int x1), (2, .int x2), (3, .int x3)]) hx hb dX3_byIndex_38 hl (by decide) rfl (fun ls hl => ?_)
  refine lv_iconst (v := (0 : Int32)) hx hb dX3_byIndex_40 (by decide) ?_
  refine lv_istore (lv' := [(7, .int (0 : Int32)), (5, .long v105), (4, .ref (g.2.1 (26 + 15 * k101))), (0, .ref (g.2.1 13)), (1, .int x1), (2, .int x2), (3, .int x3)]) hx hb dX3_byIndex_41 hl (by decide) rfl (fun ls hl => ?_)
  exact hC_43 N x1 x2 x3 k101 v105 (0 : Int32) (Nat.lt_succ_of_lt hk101) S106 H locs I ls (lv_sub hl [3, 4, 5, 6, 2, 1, 0] rfl) hpf
-- ===== J6_numberOfTrailingZeros_0f7a4 =====
def pJ6_numberOfTrailingZeros_0f7a4_74 (N : Nat) (x0 : Int32) (x1 : Int32) (S : kS) : Option (Int32 × kS) :=
    some (x1 + ((x0.toUInt32 >>> ((1 : Int32).toUInt32 &&& Int32.toUInt32 31)).toInt32), S)
def pJ6_numberOfTrailingZeros_0f7a4_62 (N : Nat) (x0 : Int32) (x1 : Int32) (S : kS) : Option (Int32 × kS) :=
    if x0 ≤ (4 : Int32) then (
      pJ6_numberOfTrailingZeros_0f7a4_74 N x0 x1 S)
    else (
      nm (x1 + (2 : Int32)) fun y101 =>
      nm ((x0.toUInt32 >>> ((2 : Int32).toUInt32 &&& Int32.toUInt32 31)).toInt32) fun y102 =>
      pJ6_numberOfTrailingZeros_0f7a4_74 N y102 y101 S)
def pJ6_numberOfTrailingZeros_0f7a4_49 (N : Nat) (x0 : Int32) (x1 : Int32) (S : kS) : Option (Int32 × kS) :=
    if x0 ≤ (16 : Int32) then (
      pJ6_numberOfTrailingZeros_0f7a4_62 N x0 x1 S)
    else (
      nm (x1 + (4 : Int32)) fun y101 =>
      nm ((x0.toUInt32 >>> ((4 : Int32).toUInt32 &&& Int32.toUInt32 31)).toInt32) fun y102 =>
      pJ6_numberOfTrailingZeros_0f7a4_62 N y102 y101 S)
def pJ6_numberOfTrailingZeros_0f7a4_34 (N : Nat) (x0 : Int32) (x1 : Int32) (S : kS) : Option (Int32 × kS) :=
    if x0 ≤ (256 : Int32) then (
      pJ6_numberOfTrailingZeros_0f7a4_49 N x0 x1 S)
    else (
      nm (x1 + (8 : Int32)) fun y101 =>
      nm ((x0.toUInt32 >>> ((8 : Int32).toUInt32 &&& Int32.toUInt32 31)).toInt32) fun y102 =>
      pJ6_numberOfTrailingZeros_0f7a4_49 N y102 y101 S)
def pJ6_numberOfTrailingZeros_0f7a4 (N : Nat) (x0 : Int32) (S : kS) : Option (Int32 × kS) :=
    nm ((x0 ^^^ (-1 : Int32)) &&& (x0 - (1 : Int32))) fun y101 =>
    if (0 : Int32) < y101 then (
      if y101 ≤ (65536 : Int32) then (
        pJ6_numberOfTrailingZeros_0f7a4_34 N y101 (1 : Int32) S)
      else (
        nm ((1 : Int32) + (16 : Int32)) fun y102 =>
        nm ((y101.toUInt32 >>> ((16 : Int32).toUInt32 &&& Int32.toUInt32 31)).toInt32) fun y103 =>
        pJ6_numberOfTrailingZeros_0f7a4_34 N y103 y102 S))
    else (
      some (y101 &&& (32 : Int32), S))
set_option maxRecDepth 100000 in
set_option maxHeartbeats 4000000 in
theorem c_J6_numberOfTrailingZeros_0f7a4 (l : Launch) (N : Nat) (x0 : Int32) : kMet l yJ6_numberOfTrailingZeros_0f7a4 cJ6_numberOfTrailingZeros_0f7a4 2 (some .int) 0 (fun g => [.int x0]) rI (pJ6_numberOfTrailingZeros_0f7a4 N x0) := by
  refine kStart RJ6 (by decide +kernel) rfl (fun g => [(0, .int x0)]) (fun _ => Nat.le_of_ble_eq_true rfl) (fun _ => rfl) ?_
  intro dC dI g sz Si r Sf hpf p e s m args below meth c X hr H locs I ls hl
  have hx := X.1
  have hb := X.2.1
  unfold pJ6_numberOfTrailingZeros_0f7a4 at hpf
  have hC_74 : ∀ (x0 : Int32) (x1 : Int32) (S : kS) (H : Heap) (locs : List Loc), kV dC dI g (kAt g (kn Si) (km Si) (kp Si) sz) s Si S H locs → ∀ ls : Array Slot, lv_has ls 2 [(0, .int x0), (1, .int x1)] → pJ6_numberOfTrailingZeros_0f7a4_74 N x0 x1 S = some (r, Sf) → W p l e (mRm 0) s m args below meth c H locs 0 0 (MQ below (kQ dC dI g sz Si (rI g r) Sf) args s 0 0 (kAt g (kn Si) (km Si) (kp Si) sz)) (F0 m 74 ls []) := by
    intro x0 x1 S H locs I ls hl hpf
    unfold pJ6_numberOfTrailingZeros_0f7a4_74 at hpf
    refine lv_iload_n hx hb dJ6_numberOfTrailingZeros_0f7a4_74 rfl (lv_at hl 1 rfl) ?_
    refine lv_iload_n hx hb dJ6_numberOfTrailingZeros_0f7a4_75 rfl (lv_at hl 0 rfl) ?_
    refine lv_iconst (v := (1 : Int32)) hx hb dJ6_numberOfTrailingZeros_0f7a4_76 (by decide) ?_
    refine lv_iushr hx hb dJ6_numberOfTrailingZeros_0f7a4_77 rfl ?_
    refine lv_iadd hx hb dJ6_numberOfTrailingZeros_0f7a4_78 ?_
    exact k_reti X I hr 79 dJ6_numberOfTrailingZeros_0f7a4_79 hpf
  have hC_62 : ∀ (x0 : Int32) (x1 : Int32) (S : kS) (H : Heap) (locs : List Loc), kV dC dI g (kAt g (kn Si) (km Si) (kp Si) sz) s Si S H locs → ∀ ls : Array Slot, lv_has ls 2 [(0, .int x0), (1, .int x1)] → pJ6_numberOfTrailingZeros_0f7a4_62 N x0 x1 S = some (r, Sf) → W p l e (mRm 0) s m args below meth c H locs 0 0 (MQ below (kQ dC dI g sz Si (rI g r) Sf) args s 0 0 (kAt g (kn Si) (km Si) (kp Si) sz)) (F0 m 62 ls []) := by
    intro x0 x1 S H locs I ls hl hpf
    unfold pJ6_numberOfTrailingZeros_0f7a4_62 at hpf
    refine lv_iload_n hx hb dJ6_numberOfTrailingZeros_0f7a4_62 rfl (lv_at hl 0 rfl) ?_
    refine lv_iconst (v := (4 : Int32)) hx hb dJ6_numberOfTrailingZeros_0f7a4_63 (by decide) ?_
    refine b_icmp_le hx hb 74 64 dJ6_numberOfTrailingZeros_0f7a4_64 (by decide) hpf (fun hpf => ?_) (fun hpf => ?_)
    · exact hC_74 x0 x1 S H locs I ls (lv_sub hl [0, 1] rfl) hpf
    refine m_iinc (w := (2 : Int32)) hx hb (fun y101 => [(1, .int y101), (0, .int x0)]) 67 dJ6_numberOfTrailingZeros_0f7a4_67 hl (k := 1) rfl (by decide) (by decide) (fun _ => rfl) hpf (fun y101 ls hl hpf => ?_)
    refine lv_iload_n hx hb dJ6_numberOfTrailingZeros_0f7a4_70 rfl (lv_at hl 1 rfl) ?_
    refine lv_iconst (v := (2 : Int32)) hx hb dJ6_numberOfTrailingZeros_0f7a4_71 (by decide) ?_
    refine lv_iushr hx hb dJ6_numberOfTrailingZeros_0f7a4_72 rfl ?_
    refine m_isto_n hx hb (fun y102 => [(0, .int y102), (1, .int y101)]) 73 dJ6_numberOfTrailingZeros_0f7a4_73 rfl hl (by decide) (fun _ => rfl) hpf (fun y102 ls hl hpf => ?_)
    exact hC_74 y102 y101 S H locs I ls (lv_sub hl [0, 1] rfl) hpf
  have hC_49 : ∀ (x0 : Int32) (x1 : Int32) (S : kS) (H : Heap) (locs : List Loc), kV dC dI g (kAt g (kn Si) (km Si) (kp Si) sz) s Si S H locs → ∀ ls : Array Slot, lv_has ls 2 [(0, .int x0), (1, .int x1)] → pJ6_numberOfTrailingZeros_0f7a4_49 N x0 x1 S = some (r, Sf) → W p l e (mRm 0) s m args below meth c H locs 0 0 (MQ below (kQ dC dI g sz Si (rI g r) Sf) args s 0 0 (kAt g (kn Si) (km Si) (kp Si) sz)) (F0 m 49 ls []) := by
    intro x0 x1 S H locs I ls hl hpf
    unfold pJ6_numberOfTrailingZeros_0f7a4_49 at hpf
    refine lv_iload_n hx hb dJ6_numberOfTrailingZeros_0f7a4_49 rfl (lv_at hl 0 rfl) ?_
    refine lv_bipush (v := (16 : Int32)) hx hb dJ6_numberOfTrailingZeros_0f7a4_50 (by decide) ?_
    refine b_icmp_le hx hb 62 52 dJ6_numberOfTrailingZeros_0f7a4_52 (by decide) hpf (fun hpf => ?_) (fun hpf => ?_)
    · exact hC_62 x0 x1 S H locs I ls (lv_sub hl [0, 1] rfl) hpf
    refine m_iinc (w := (4 : Int32)) hx hb (fun y101 => [(1, .int y101), (0, .int x0)]) 55 dJ6_numberOfTrailingZeros_0f7a4_55 hl (k := 1) rfl (by decide) (by decide) (fun _ => rfl) hpf (fun y101 ls hl hpf => ?_)
    refine lv_iload_n hx hb dJ6_numberOfTrailingZeros_0f7a4_58 rfl (lv_at hl 1 rfl) ?_
    refine lv_iconst (v := (4 : Int32)) hx hb dJ6_numberOfTrailingZeros_0f7a4_59 (by decide) ?_
    refine lv_iushr hx hb dJ6_numberOfTrailingZeros_0f7a4_60 rfl ?_
    refine m_isto_n hx hb (fun y102 => [(0, .int y102), (1, .int y101)]) 61 dJ6_numberOfTrailingZeros_0f7a4_61 rfl hl (by decide) (fun _ => rfl) hpf (fun y102 ls hl hpf => ?_)
    exact hC_62 y102 y101 S H locs I ls (lv_sub hl [0, 1] rfl) hpf
  have hC_34 : ∀ (x0 : Int32) (x1 : Int32) (S : kS) (H : Heap) (locs : List Loc), kV dC dI g (kAt g (kn Si) (km Si) (kp Si) sz) s Si S H locs → ∀ ls : Array Slot, lv_has ls 2 [(0, .int x0), (1, .int x1)] → pJ6_numberOfTrailingZeros_0f7a4_34 N x0 x1 S = some (r, Sf) → W p l e (mRm 0) s m args below meth c H locs 0 0 (MQ below (kQ dC dI g sz Si (rI g r) Sf) args s 0 0 (kAt g (kn Si) (km Si) (kp Si) sz)) (F0 m 34 ls []) := by
    intro x0 x1 S H locs I ls hl hpf
    unfold pJ6_numberOfTrailingZeros_0f7a4_34 at hpf
    refine lv_iload_n hx hb dJ6_numberOfTrailingZeros_0f7a4_34 rfl (lv_at hl 0 rfl) ?_
    refine lv_sipush (v := (256 : Int32)) hx hb dJ6_numberOfTrailingZeros_0f7a4_35 (by decide) ?_
    refine b_icmp_le hx hb 49 38 dJ6_numberOfTrailingZeros_0f7a4_38 (by decide) hpf (fun hpf => ?_) (fun hpf => ?_)
    · exact hC_49 x0 x1 S H locs I ls (lv_sub hl [0, 1] rfl) hpf
    refine m_iinc (w := (8 : Int32)) hx hb (fun y101 => [(1, .int y101), (0, .int x0)]) 41 dJ6_numberOfTrailingZeros_0f7a4_41 hl (k := 1) rfl (by decide) (by decide) (fun _ => rfl) hpf (fun y101 ls hl hpf => ?_)
    refine lv_iload_n hx hb dJ6_numberOfTrailingZeros_0f7a4_44 rfl (lv_at hl 1 rfl) ?_
    refine lv_bipush (v := (8 : Int32)) hx hb dJ6_numberOfTrailingZeros_0f7a4_45 (by decide) ?_
    refine lv_iushr hx hb dJ6_numberOfTrailingZeros_0f7a4_47 rfl ?_
    refine m_isto_n hx hb (fun y102 => [(0, .int y102), (1, .int y101)]) 48 dJ6_numberOfTrailingZeros_0f7a4_48 rfl hl (by decide) (fun _ => rfl) hpf (fun y102 ls hl hpf => ?_)
    exact hC_49 y102 y101 S H locs I ls (lv_sub hl [0, 1] rfl) hpf
  refine lv_iload_n hx hb dJ6_numberOfTrailingZeros_0f7a4_0 rfl (lv_at hl 0 rfl) ?_
  refine lv_iconst (v := (-1 : Int32)) hx hb dJ6_numberOfTrailingZeros_0f7a4_1 (by decide) ?_
  refine lv_ixor hx hb dJ6_numberOfTrailingZeros_0f7a4_2 ?_
  refine lv_iload_n hx hb dJ6_numberOfTrailingZeros_0f7a4_3 rfl (lv_at hl 0 rfl) ?_
  refine lv_iconst (v := (1 : Int32)) hx hb dJ6_numberOfTrailingZeros_0f7a4_4 (by decide) ?_
  refine lv_isub hx hb dJ6_numberOfTrailingZeros_0f7a4_5 ?_
  refine lv_iand hx hb dJ6_numberOfTrailingZeros_0f7a4_6 ?_
  refine m_isto_n hx hb (fun y101 => [(0, .int y101)]) 7 dJ6_numberOfTrailingZeros_0f7a4_7 rfl hl (by decide) (fun _ => rfl) hpf (fun y101 ls hl hpf => ?_)
  refine lv_iload_n hx hb dJ6_numberOfTrailingZeros_0f7a4_8 rfl (lv_at hl 0 rfl) ?_
  refine b_if_gt hx hb 17 9 dJ6_numberOfTrailingZeros_0f7a4_9 (by decide) hpf (fun hpf => ?_) (fun hpf => ?_)
  · refine lv_iconst (v := (1 : Int32)) hx hb dJ6_numberOfTrailingZeros_0f7a4_17 (by decide) ?_
    refine lv_istore_n (lv' := [(1, .int (1 : Int32)), (0, .int y101)]) hx hb dJ6_numberOfTrailingZeros_0f7a4_18 rfl hl (by decide) rfl (fun ls hl => ?_)
    refine lv_iload_n hx hb dJ6_numberOfTrailingZeros_0f7a4_19 rfl (lv_at hl 1 rfl) ?_
    refine lv_ldcw (v := (65536 : Int32)) hx hb X.2.2.2.1 (X.2.2.2.2.1 _ kC_224) dJ6_numberOfTrailingZeros_0f7a4_20 ?_
    refine b_icmp_le hx hb 34 23 dJ6_numberOfTrailingZeros_0f7a4_23 (by decide) hpf (fun hpf => ?_) (fun hpf => ?_)
    · exact hC_34 y101 (1 : Int32) Si H locs I ls (lv_sub hl [1, 0] rfl) hpf
    refine m_iinc (w := (16 : Int32)) hx hb (fun y102 => [(1, .int y102), (0, .int y101)]) 26 dJ6_numberOfTrailingZeros_0f7a4_26 hl (k := 0) rfl (by decide) (by decide) (fun _ => rfl) hpf (fun y102 ls hl hpf => ?_)
    refine lv_iload_n hx hb dJ6_numberOfTrailingZeros_0f7a4_29 rfl (lv_at hl 1 rfl) ?_
    refine lv_bipush (v := (16 : Int32)) hx hb dJ6_numberOfTrailingZeros_0f7a4_30 (by decide) ?_
    refine lv_iushr hx hb dJ6_numberOfTrailingZeros_0f7a4_32 rfl ?_
    refine m_isto_n hx hb (fun y103 => [(0, .int y103), (1, .int y102)]) 33 dJ6_numberOfTrailingZeros_0f7a4_33 rfl hl (by decide) (fun _ => rfl) hpf (fun y103 ls hl hpf => ?_)
    exact hC_34 y103 y102 Si H locs I ls (lv_sub hl [0, 1] rfl) hpf
  refine lv_iload_n hx hb dJ6_numberOfTrailingZeros_0f7a4_12 rfl (lv_at hl 0 rfl) ?_
  refine lv_bipush (v := (32 : Int32)) hx hb dJ6_numberOfTrailingZeros_0f7a4_13 (by decide) ?_
  refine lv_iand hx hb dJ6_numberOfTrailingZeros_0f7a4_15 ?_
  exact k_reti X I hr 16 dJ6_numberOfTrailingZeros_0f7a4_16 hpf
-- ===== J13_numberOfTrailingZeros_95d88 =====
def pJ13_numberOfTrailingZeros_95d88 (N : Nat) (w0 : Int64) (S : kS) : Option (Int32 × kS) :=
    nm (w0.toInt32) fun y101 =>
    if y101 = (0 : Int32) then (
      bk (pJ6_numberOfTrailingZeros_0f7a4 N (((w0.toUInt64 >>> ((32 : Int32).toInt64.toUInt64 &&& Int64.toUInt64 63)).toInt64).toInt32) S) fun v104 S105 =>
      some ((32 : Int32) + v104, S105))
    else (
      bk (pJ6_numberOfTrailingZeros_0f7a4 N y101 S) fun v102 S103 =>
      some (v102, S103))
set_option maxRecDepth 100000 in
set_option maxHeartbeats 4000000 in
theorem c_J13_numberOfTrailingZeros_95d88 (l : Launch) (N : Nat) (w0 : Int64) : kMet l yJ13_numberOfTrailingZeros_95d88 cJ13_numberOfTrailingZeros_95d88 3 (some .int) 1 (fun g => [.long w0]) rI (pJ13_numberOfTrailingZeros_95d88 N w0) := by
  refine kStart RJ13 (by decide +kernel) rfl (fun g => [(0, .long w0)]) (fun _ => Nat.le_of_ble_eq_true rfl) (fun _ => rfl) ?_
  intro dC dI g sz Si r Sf hpf p e s m args below meth c X hr H locs I ls hl
  have hx := X.1
  have hb := X.2.1
  unfold pJ13_numberOfTrailingZeros_95d88 at hpf
  refine lv_lload_n hx hb dJ13_numberOfTrailingZeros_95d88_0 rfl (lv_at hl 0 rfl) ?_
  refine lv_l2i hx hb dJ13_numberOfTrailingZeros_95d88_1 rfl ?_
  refine m_isto_n hx hb (fun y101 => [(2, .int y101), (0, .long w0)]) 2 dJ13_numberOfTrailingZeros_95d88_2 rfl hl (by decide) (fun _ => rfl) hpf (fun y101 ls hl hpf => ?_)
  refine lv_iload_n hx hb dJ13_numberOfTrailingZeros_95d88_3 rfl (lv_at hl 0 rfl) ?_
  refine b_if_ne hx hb 21 4 dJ13_numberOfTrailingZeros_95d88_4 (by decide) hpf (fun hpf => ?_) (fun hpf => ?_)
  · refine lv_iload_n hx hb dJ13_numberOfTrailingZeros_95d88_21 rfl (lv_at hl 0 rfl) ?_
    refine k_cSi (rest := []) (As := [.int y101]) (d := 1) ⟨Nat.le_refl _, Nat.le_refl _⟩ X I fn_J13_J6_numberOfTrailingZeros_0f7a4 (c_J6_numberOfTrailingZeros_0f7a4 l N y101) rfl (by decide) 22 dJ13_numberOfTrailingZeros_95d88_22 rfl hl.1 rfl (Nat.le_of_ble_eq_true rfl) ⟨Nat.le_of_ble_eq_true rfl, Nat.le_of_ble_eq_true rfl⟩ hpf (fun v102 S103 H locs I hm hpf => ?_)
    exact k_reti X I hr 25 dJ13_numberOfTrailingZeros_95d88_25 hpf
  refine lv_bipush (v := (32 : Int32)) hx hb dJ13_numberOfTrailingZeros_95d88_7 (by decide) ?_
  refine lv_lload_n hx hb dJ13_numberOfTrailingZeros_95d88_9 rfl (lv_at hl 1 rfl) ?_
  refine lv_bipush (v := (32 : Int32)) hx hb dJ13_numberOfTrailingZeros_95d88_10 (by decide) ?_
  refine lv_lushr hx hb dJ13_numberOfTrailingZeros_95d88_12 rfl ?_
  refine lv_l2i hx hb dJ13_numberOfTrailingZeros_95d88_13 rfl ?_
  refine k_cSi (rest := [.int (32 : Int32)]) (As := [.int (((w0.toUInt64 >>> ((32 : Int32).toInt64.toUInt64 &&& Int64.toUInt64 63)).toInt64).toInt32)]) (d := 1) ⟨Nat.le_refl _, Nat.le_refl _⟩ X I fn_J13_J6_numberOfTrailingZeros_0f7a4 (c_J6_numberOfTrailingZeros_0f7a4 l N (((w0.toUInt64 >>> ((32 : Int32).toInt64.toUInt64 &&& Int64.toUInt64 63)).toInt64).toInt32)) rfl (by decide) 14 dJ13_numberOfTrailingZeros_95d88_14 rfl hl.1 rfl (Nat.le_of_ble_eq_true rfl) ⟨Nat.le_of_ble_eq_true rfl, Nat.le_of_ble_eq_true rfl⟩ hpf (fun v104 S105 H locs I hm hpf => ?_)
  refine lv_iadd hx hb dJ13_numberOfTrailingZeros_95d88_17 ?_
  refine lv_goto (tgt := 25) hx hb dJ13_numberOfTrailingZeros_95d88_18 (by decide) ?_
  exact k_reti X I hr 25 dJ13_numberOfTrailingZeros_95d88_25 hpf
-- ===== J13_bitCount_95d88 =====
def pJ13_bitCount_95d88 (N : Nat) (w0 : Int64) (S : kS) : Option (Int32 × kS) :=
    nml (w0 - (((w0.toUInt64 >>> ((1 : Int32).toInt64.toUInt64 &&& Int64.toUInt64 63)).toInt64) &&& (6148914691236517205 : Int64))) fun y101 =>
    nml ((y101 &&& (3689348814741910323 : Int64)) + (((y101.toUInt64 >>> ((2 : Int32).toInt64.toUInt64 &&& Int64.toUInt64 63)).toInt64) &&& (3689348814741910323 : Int64))) fun y102 =>
    nml ((y102 + ((y102.toUInt64 >>> ((4 : Int32).toInt64.toUInt64 &&& Int64.toUInt64 63)).toInt64)) &&& (1085102592571150095 : Int64)) fun y103 =>
    nml (y103 + ((y103.toUInt64 >>> ((8 : Int32).toInt64.toUInt64 &&& Int64.toUInt64 63)).toInt64)) fun y104 =>
    nml (y104 + ((y104.toUInt64 >>> ((16 : Int32).toInt64.toUInt64 &&& Int64.toUInt64 63)).toInt64)) fun y105 =>
    nml (y105 + ((y105.toUInt64 >>> ((32 : Int32).toInt64.toUInt64 &&& Int64.toUInt64 63)).toInt64)) fun y106 =>
    some ((y106.toInt32) &&& (127 : Int32), S)
set_option maxRecDepth 100000 in
set_option maxHeartbeats 4000000 in
theorem c_J13_bitCount_95d88 (l : Launch) (N : Nat) (w0 : Int64) : kMet l yJ13_bitCount_95d88 cJ13_bitCount_95d88 2 (some .int) 0 (fun g => [.long w0]) rI (pJ13_bitCount_95d88 N w0) := by
  refine kStart RJ13 (by decide +kernel) rfl (fun g => [(0, .long w0)]) (fun _ => Nat.le_of_ble_eq_true rfl) (fun _ => rfl) ?_
  intro dC dI g sz Si r Sf hpf p e s m args below meth c X hr H locs I ls hl
  have hx := X.1
  have hb := X.2.1
  unfold pJ13_bitCount_95d88 at hpf
  refine lv_lload_n hx hb dJ13_bitCount_95d88_0 rfl (lv_at hl 0 rfl) ?_
  refine lv_lload_n hx hb dJ13_bitCount_95d88_1 rfl (lv_at hl 0 rfl) ?_
  refine lv_iconst (v := (1 : Int32)) hx hb dJ13_bitCount_95d88_2 (by decide) ?_
  refine lv_lushr hx hb dJ13_bitCount_95d88_3 rfl ?_
  refine lv_ldc2 (v := (6148914691236517205 : Int64)) hx hb X.2.2.2.1 (X.2.2.2.2.1 _ kC_640) dJ13_bitCount_95d88_4 ?_
  refine lv_land hx hb dJ13_bitCount_95d88_7 ?_
  refine lv_lsub hx hb dJ13_bitCount_95d88_8 ?_
  refine k_lsto_n hx hb (fun y101 => [(0, .long y101)]) 9 dJ13_bitCount_95d88_9 rfl hl (by decide) (fun _ => rfl) hpf (fun y101 ls hl hpf => ?_)
  refine lv_lload_n hx hb dJ13_bitCount_95d88_10 rfl (lv_at hl 0 rfl) ?_
  refine lv_ldc2 (v := (3689348814741910323 : Int64)) hx hb X.2.2.2.1 (X.2.2.2.2.1 _ kC_641) dJ13_bitCount_95d88_11 ?_
  refine lv_land hx hb dJ13_bitCount_95d88_14 ?_
  refine lv_lload_n hx hb dJ13_bitCount_95d88_15 rfl (lv_at hl 0 rfl) ?_
  refine lv_iconst (v := (2 : Int32)) hx hb dJ13_bitCount_95d88_16 (by decide) ?_
  refine lv_lushr hx hb dJ13_bitCount_95d88_17 rfl ?_
  refine lv_ldc2 (v := (3689348814741910323 : Int64)) hx hb X.2.2.2.1 (X.2.2.2.2.1 _ kC_641) dJ13_bitCount_95d88_18 ?_
  refine lv_land hx hb dJ13_bitCount_95d88_21 ?_
  refine lv_ladd hx hb dJ13_bitCount_95d88_22 ?_
  refine k_lsto_n hx hb (fun y102 => [(0, .long y102)]) 23 dJ13_bitCount_95d88_23 rfl hl (by decide) (fun _ => rfl) hpf (fun y102 ls hl hpf => ?_)
  refine lv_lload_n hx hb dJ13_bitCount_95d88_24 rfl (lv_at hl 0 rfl) ?_
  refine lv_lload_n hx hb dJ13_bitCount_95d88_25 rfl (lv_at hl 0 rfl) ?_
  refine lv_iconst (v := (4 : Int32)) hx hb dJ13_bitCount_95d88_26 (by decide) ?_
  refine lv_lushr hx hb dJ13_bitCount_95d88_27 rfl ?_
  refine lv_ladd hx hb dJ13_bitCount_95d88_28 ?_
  refine lv_ldc2 (v := (1085102592571150095 : Int64)) hx hb X.2.2.2.1 (X.2.2.2.2.1 _ kC_642) dJ13_bitCount_95d88_29 ?_
  refine lv_land hx hb dJ13_bitCount_95d88_32 ?_
  refine k_lsto_n hx hb (fun y103 => [(0, .long y103)]) 33 dJ13_bitCount_95d88_33 rfl hl (by decide) (fun _ => rfl) hpf (fun y103 ls hl hpf => ?_)
  refine lv_lload_n hx hb dJ13_bitCount_95d88_34 rfl (lv_at hl 0 rfl) ?_
  refine lv_lload_n hx hb dJ13_bitCount_95d88_35 rfl (lv_at hl 0 rfl) ?_
  refine lv_bipush (v := (8 : Int32)) hx hb dJ13_bitCount_95d88_36 (by decide) ?_
  refine lv_lushr hx hb dJ13_bitCount_95d88_38 rfl ?_
  refine lv_ladd hx hb dJ13_bitCount_95d88_39 ?_
  refine k_lsto_n hx hb (fun y104 => [(0, .long y104)]) 40 dJ13_bitCount_95d88_40 rfl hl (by decide) (fun _ => rfl) hpf (fun y104 ls hl hpf => ?_)
  refine lv_lload_n hx hb dJ13_bitCount_95d88_41 rfl (lv_at hl 0 rfl) ?_
  refine lv_lload_n hx hb dJ13_bitCount_95d88_42 rfl (lv_at hl 0 rfl) ?_
  refine lv_bipush (v := (16 : Int32)) hx hb dJ13_bitCount_95d88_43 (by decide) ?_
  refine lv_lushr hx hb dJ13_bitCount_95d88_45 rfl ?_
  refine lv_ladd hx hb dJ13_bitCount_95d88_46 ?_
  refine k_lsto_n hx hb (fun y105 => [(0, .long y105)]) 47 dJ13_bitCount_95d88_47 rfl hl (by decide) (fun _ => rfl) hpf (fun y105 ls hl hpf => ?_)
  refine lv_lload_n hx hb dJ13_bitCount_95d88_48 rfl (lv_at hl 0 rfl) ?_
  refine lv_lload_n hx hb dJ13_bitCount_95d88_49 rfl (lv_at hl 0 rfl) ?_
  refine lv_bipush (v := (32 : Int32)) hx hb dJ13_bitCount_95d88_50 (by decide) ?_
  refine lv_lushr hx hb dJ13_bitCount_95d88_52 rfl ?_
  refine lv_ladd hx hb dJ13_bitCount_95d88_53 ?_
  refine k_lsto_n hx hb (fun y106 => [(0, .long y106)]) 54 dJ13_bitCount_95d88_54 rfl hl (by decide) (fun _ => rfl) hpf (fun y106 ls hl hpf => ?_)
  refine lv_lload_n hx hb dJ13_bitCount_95d88_55 rfl (lv_at hl 0 rfl) ?_
  refine lv_l2i hx hb dJ13_bitCount_95d88_56 rfl ?_
  refine lv_bipush (v := (127 : Int32)) hx hb dJ13_bitCount_95d88_57 (by decide) ?_
  refine lv_iand hx hb dJ13_bitCount_95d88_59 ?_
  exact k_reti X I hr 60 dJ13_bitCount_95d88_60 hpf
-- ===== X3_byWalk =====
def pX3_byWalk_120 (N : Nat) (k_36 : Int32 → Int32 → Nat → Int64 → Int32 → Int32 → kS → Option (Int32 × kS)) (x1 : Int32) (x3 : Int32) (n4 : Nat) (w5 : Int64) (x7 : Int32) (x8 : Int32) (S : kS) : Option (Int32 × kS) :=
    nm (x8 + (1 : Int32)) fun y101 =>
    k_36 x1 x3 n4 w5 x7 y101 S
def pX3_byWalk_103 (N : Nat) (k_36 : Int32 → Int32 → Nat → Int64 → Int32 → Int32 → kS → Option (Int32 × kS)) (x1 : Int32) (x3 : Int32) (n4 : Nat) (w5 : Int64) (x7 : Int32) (x8 : Int32) (x9 : Int32) (S : kS) : Option (Int32 × kS) :=
    if x3 = (2 : Int32) then (
      bk (pX8_childrenAt N n4 x9 S) fun v101 S102 =>
      nml (w5 ||| v101) fun y103 =>
      pX3_byWalk_120 N k_36 x1 x3 n4 y103 x7 x8 S102)
    else (
      pX3_byWalk_120 N k_36 x1 x3 n4 w5 x7 x8 S)
def pX3_byWalk_36 (N : Nat) : Nat → Int32 → Int32 → Nat → Int64 → Int32 → Int32 → kS → Option (Int32 × kS)
  | 0 => fun _ _ _ _ _ _ _ => none
  | n_36 + 1 => fun x1 x3 n4 w5 x7 x8 S =>
    if (48 : Int32) ≤ x8 then (
      some (x7, S))
    else (
      if (lg_cmp w5 (0 : Int64)) = (0 : Int32) then (
        some (x7, S))
      else (
        bk (pJ13_numberOfTrailingZeros_95d88 N w5 S) fun v101 S102 =>
        nml (w5 &&& (w5 - (1 : Int64))) fun y103 =>
        bk (pX2_applies N n4 v101 S102) fun v104 S105 =>
        if v104 = (0 : Int32) then (
          pX3_byWalk_103 N (pX3_byWalk_36 N n_36) x1 x3 n4 y103 x7 x8 v101 S105)
        else (
          gm x1 fun k106 =>
          bk (pX8_grants N n4 (kI S105 (17 + 4 * k106)) v101 (0 : Int32) S105) fun v107 S108 =>
          if v107 = (0 : Int32) then (
            pX3_byWalk_103 N (pX3_byWalk_36 N n_36) x1 x3 n4 y103 x7 x8 v101 S108)
          else (
            nm (x7 + (1 : Int32)) fun y109 =>
            pX3_byWalk_103 N (pX3_byWalk_36 N n_36) x1 x3 n4 y103 y109 x8 v101 S108))))
def pX3_byWalk_28 (N : Nat) (wt0 : Int64) (x1 : Int32) (x3 : Int32) (n4 : Nat) (S : kS) : Option (Int32 × kS) :=
    pX3_byWalk_36 N N x1 x3 n4 wt0 (0 : Int32) (0 : Int32) S
def pX3_byWalk (N : Nat) (x1 : Int32) (x2 : Int32) (x3 : Int32) (S : kS) : Option (Int32 × kS) :=
    gm x1 fun k101 =>
    if x3 = (1 : Int32) then (
      bk (pX8_childrenAt N k101 x2 S) fun v102 S103 =>
      pX3_byWalk_28 N v102 x1 x3 k101 S103)
    else (
      pX3_byWalk_28 N ((1 : Int64) <<< (x2.toInt64 &&& 63)) x1 x3 k101 S)
set_option maxRecDepth 100000 in
set_option maxHeartbeats 4000000 in
theorem c_X3_byWalk (l : Launch) (N : Nat) (x1 : Int32) (x2 : Int32) (x3 : Int32) : kMet l yX3_byWalk cX3_byWalk 10 (some .int) 4 (fun g => [.ref (g.2.1 13), .int x1, .int x2, .int x3]) rI (pX3_byWalk N x1 x2 x3) := by
  refine kStart RX3 (by decide +kernel) rfl (fun g => [(0, .ref (g.2.1 13)), (1, .int x1), (2, .int x2), (3, .int x3)]) (fun _ => Nat.le_of_ble_eq_true rfl) (fun _ => rfl) ?_
  intro dC dI g sz Si r Sf hpf p e s m args below meth c X hr H locs I ls hl
  have hx := X.1
  have hb := X.2.1
  unfold pX3_byWalk at hpf
  have hC_36 : ∀ (n_36 : Nat), ∀ (x1 : Int32) (x3 : Int32) (n4 : Nat) (w5 : Int64) (x7 : Int32) (x8 : Int32) (hn4 : n4 < 5) (S : kS) (H : Heap) (locs : List Loc), kV dC dI g (kAt g (kn Si) (km Si) (kp Si) sz) s Si S H locs → ∀ ls : Array Slot, lv_has ls 10 [(0, .ref (g.2.1 13)), (1, .int x1), (3, .int x3), (4, .ref (g.2.1 (26 + 15 * n4))), (5, .long w5), (7, .int x7), (8, .int x8)] → pX3_byWalk_36 N n_36 x1 x3 n4 w5 x7 x8 S = some (r, Sf) → W p l e (mRm 4) s m args below meth c H locs 0 0 (MQ below (kQ dC dI g sz Si (rI g r) Sf) args s 0 0 (kAt g (kn Si) (km Si) (kp Si) sz)) (F0 m 36 ls []) := by
    intro n_36
    induction n_36 with
    | zero =>
      intro x1 x3 n4 w5 x7 x8 hn4 S H locs I ls hl hpf
      rw [pX3_byWalk_36] at hpf
      cases hpf
    | succ n_36 ih_36 =>
      have hC_120 : ∀ (x1 : Int32) (x3 : Int32) (n4 : Nat) (w5 : Int64) (x7 : Int32) (x8 : Int32) (hn4 : n4 < 5) (S : kS) (H : Heap) (locs : List Loc), kV dC dI g (kAt g (kn Si) (km Si) (kp Si) sz) s Si S H locs → ∀ ls : Array Slot, lv_has ls 10 [(0, .ref (g.2.1 13)), (1, .int x1), (3, .int x3), (4, .ref (g.2.1 (26 + 15 * n4))), (5, .long w5), (7, .int x7), (8, .int x8)] → pX3_byWalk_120 N (pX3_byWalk_36 N n_36) x1 x3 n4 w5 x7 x8 S = some (r, Sf) → W p l e (mRm 4) s m args below meth c H locs 0 0 (MQ below (kQ dC dI g sz Si (rI g r) Sf) args s 0 0 (kAt g (kn Si) (km Si) (kp Si) sz)) (F0 m 120 ls []) := by
        intro x1 x3 n4 w5 x7 x8 hn4 S H locs I ls hl hpf
        unfold pX3_byWalk_120 at hpf
        refine m_iinc (w := (1 : Int32)) hx hb (fun y101 => [(8, .int y101), (0, .ref (g.2.1 13)), (1, .int x1), (3, .int x3), (4, .ref (g.2.1 (26 + 15 * n4))), (5, .long w5), (7, .int x7)]) 120 dX3_byWalk_120 hl (k := 6) rfl (by decide) (by decide) (fun _ => rfl) hpf (fun y101 ls hl hpf => ?_)
        refine lv_goto (tgt := 36) hx hb dX3_byWalk_123 (by decide) ?_
        exact ih_36 x1 x3 n4 w5 x7 y101 hn4 S H locs I ls (lv_sub hl [1, 2, 3, 4, 5, 6, 0] rfl) hpf
      have hC_103 : ∀ (x1 : Int32) (x3 : Int32) (n4 : Nat) (w5 : Int64) (x7 : Int32) (x8 : Int32) (x9 : Int32) (hn4 : n4 < 5) (S : kS) (H : Heap) (locs : List Loc), kV dC dI g (kAt g (kn Si) (km Si) (kp Si) sz) s Si S H locs → ∀ ls : Array Slot, lv_has ls 10 [(0, .ref (g.2.1 13)), (1, .int x1), (3, .int x3), (4, .ref (g.2.1 (26 + 15 * n4))), (5, .long w5), (7, .int x7), (8, .int x8), (9, .int x9)] → pX3_byWalk_103 N (pX3_byWalk_36 N n_36) x1 x3 n4 w5 x7 x8 x9 S = some (r, Sf) → W p l e (mRm 4) s m args below meth c H locs 0 0 (MQ below (kQ dC dI g sz Si (rI g r) Sf) args s 0 0 (kAt g (kn Si) (km Si) (kp Si) sz)) (F0 m 103 ls []) := by
        intro x1 x3 n4 w5 x7 x8 x9 hn4 S H locs I ls hl hpf
        unfold pX3_byWalk_103 at hpf
        refine lv_iload_n hx hb dX3_byWalk_103 rfl (lv_at hl 2 rfl) ?_
        refine lv_iconst (v := (2 : Int32)) hx hb dX3_byWalk_104 (by decide) ?_
        refine b_icmp_ne hx hb 120 105 dX3_byWalk_105 (by decide) hpf (fun hpf => ?_) (fun hpf => ?_)
        · exact hC_120 x1 x3 n4 w5 x7 x8 hn4 S H locs I ls (lv_sub hl [0, 1, 2, 3, 4, 5, 6] rfl) hpf
        refine lv_lload hx hb dX3_byWalk_108 (lv_at hl 4 rfl) ?_
        refine lv_aload hx hb dX3_byWalk_110 (lv_at hl 3 rfl) ?_
        refine lv_iload hx hb dX3_byWalk_112 (lv_at hl 7 rfl) ?_
        refine k_cIl (rest := [.long w5]) (As := [.int x9]) (d := 4) ⟨Nat.le_refl _, Nat.le_refl _⟩ X I fn_X3_X8_childrenAt kCl_8 rfl (kO_T g S n4 hn4) (c_X8_childrenAt l N n4 hn4 x9) rfl (by decide) 114 dX3_byWalk_114 rfl hl.1 rfl (Nat.le_of_ble_eq_true rfl) ⟨Nat.le_of_ble_eq_true rfl, Nat.le_of_ble_eq_true rfl⟩ hpf (fun v101 S102 H locs I hm hpf => ?_)
        refine lv_lor hx hb dX3_byWalk_117 ?_
        refine k_lsto hx hb (fun y103 => [(5, .long y103), (0, .ref (g.2.1 13)), (1, .int x1), (3, .int x3), (4, .ref (g.2.1 (26 + 15 * n4))), (7, .int x7), (8, .int x8), (9, .int x9)]) 118 dX3_byWalk_118 hl (by decide) (fun _ => rfl) hpf (fun y103 ls hl hpf => ?_)
        exact hC_120 x1 x3 n4 y103 x7 x8 hn4 S102 H locs I ls (lv_sub hl [1, 2, 3, 4, 0, 5, 6] rfl) hpf
      intro x1 x3 n4 w5 x7 x8 hn4 S H locs I ls hl hpf
      rw [pX3_byWalk_36] at hpf
      refine lv_iload hx hb dX3_byWalk_36 (lv_at hl 6 rfl) ?_
      refine lv_bipush (v := (48 : Int32)) hx hb dX3_byWalk_38 (by decide) ?_
      refine b_icmp_ge hx hb 126 40 dX3_byWalk_40 (by decide) hpf (fun hpf => ?_) (fun hpf => ?_)
      · refine lv_iload hx hb dX3_byWalk_126 (lv_at hl 5 rfl) ?_
        exact k_reti X I hr 128 dX3_byWalk_128 hpf
      refine lv_lload hx hb dX3_byWalk_43 (lv_at hl 4 rfl) ?_
      refine lv_lconst (v := (0 : Int64)) hx hb dX3_byWalk_45 (by decide) ?_
      refine W.lcmp hx hb dX3_byWalk_46 ?_
      refine b_if_eq hx hb 126 47 dX3_byWalk_47 (by decide) hpf (fun hpf => ?_) (fun hpf => ?_)
      · refine lv_iload hx hb dX3_byWalk_126 (lv_at hl 5 rfl) ?_
        exact k_reti X I hr 128 dX3_byWalk_128 hpf
      refine lv_lload hx hb dX3_byWalk_50 (lv_at hl 4 rfl) ?_
      refine k_cSi (rest := []) (As := [.long w5]) (d := 4) ⟨Nat.le_refl _, Nat.le_refl _⟩ X I fn_X3_J13_numberOfTrailingZeros_95d88 (c_J13_numberOfTrailingZeros_95d88 l N w5) rfl (by decide) 52 dX3_byWalk_52 rfl hl.1 rfl (Nat.le_of_ble_eq_true rfl) ⟨Nat.le_of_ble_eq_true rfl, Nat.le_of_ble_eq_true rfl⟩ hpf (fun v101 S102 H locs I hm hpf => ?_)
      refine lv_istore (lv' := [(9, .int v101), (0, .ref (g.2.1 13)), (1, .int x1), (3, .int x3), (4, .ref (g.2.1 (26 + 15 * n4))), (5, .long w5), (7, .int x7), (8, .int x8)]) hx hb dX3_byWalk_55 hl (by decide) rfl (fun ls hl => ?_)
      refine lv_lload hx hb dX3_byWalk_57 (lv_at hl 5 rfl) ?_
      refine lv_lload hx hb dX3_byWalk_59 (lv_at hl 5 rfl) ?_
      refine lv_lconst (v := (1 : Int64)) hx hb dX3_byWalk_61 (by decide) ?_
      refine lv_lsub hx hb dX3_byWalk_62 ?_
      refine lv_land hx hb dX3_byWalk_63 ?_
      refine k_lsto hx hb (fun y103 => [(5, .long y103), (9, .int v101), (0, .ref (g.2.1 13)), (1, .int x1), (3, .int x3), (4, .ref (g.2.1 (26 + 15 * n4))), (7, .int x7), (8, .int x8)]) 64 dX3_byWalk_64 hl (by decide) (fun _ => rfl) hpf (fun y103 ls hl hpf => ?_)
      refine lv_aload_n hx hb dX3_byWalk_66 rfl (lv_at hl 2 rfl) ?_
      refine k_get (k := 0) X I kCl_3 (kO_Q g S102) 1 (by decide) rfl kC_160 67 dX3_byWalk_67 ?_
      refine lv_aload hx hb dX3_byWalk_70 (lv_at hl 5 rfl) ?_
      refine lv_iload hx hb dX3_byWalk_72 (lv_at hl 1 rfl) ?_
      refine k_cIi (rest := []) (As := [.ref (g.2.1 (26 + 15 * n4)), .int v101]) (d := 4) ⟨Nat.le_refl _, Nat.le_refl _⟩ X I fn_X3_X2_applies kCl_2 rfl (kO_P g S102) (c_X2_applies l N n4 hn4 v101) rfl (by decide) 74 dX3_byWalk_74 rfl hl.1 rfl (Nat.le_of_ble_eq_true rfl) ⟨Nat.le_of_ble_eq_true rfl, Nat.le_of_ble_eq_true rfl⟩ hpf (fun v104 S105 H locs I hm hpf => ?_)
      refine b_if_eq hx hb 103 77 dX3_byWalk_77 (by decide) hpf (fun hpf => ?_) (fun hpf => ?_)
      · exact hC_103 x1 x3 n4 y103 x7 x8 v101 hn4 S105 H locs I ls (lv_sub hl [2, 3, 4, 5, 0, 6, 7, 1] rfl) hpf
      refine lv_aload hx hb dX3_byWalk_80 (lv_at hl 5 rfl) ?_
      refine lv_aload_n hx hb dX3_byWalk_82 rfl (lv_at hl 2 rfl) ?_
      refine k_get (k := 0) X I kCl_3 (kO_Q g S105) 0 (by decide) rfl kC_159 83 dX3_byWalk_83 ?_
      refine lv_iload_n hx hb dX3_byWalk_86 rfl (lv_at hl 3 rfl) ?_
      refine k_mld X I 87 dX3_byWalk_87 hpf (fun k106 hk106 hpf => ?_)
      refine k_get (k := 0) X I kCl_4 (kO_M g S105 k106 hk106) 2 (by decide) rfl kC_197 88 dX3_byWalk_88 ?_
      refine lv_iload hx hb dX3_byWalk_91 (lv_at hl 1 rfl) ?_
      refine lv_iconst (v := (0 : Int32)) hx hb dX3_byWalk_93 (by decide) ?_
      refine k_cIi (rest := []) (As := [.int (kI S105 (17 + 4 * k106)), .int v101, .int (0 : Int32)]) (d := 4) ⟨Nat.le_refl _, Nat.le_refl _⟩ X I fn_X3_X8_grants kCl_8 rfl (kO_T g S105 n4 hn4) (c_X8_grants l N n4 hn4 (kI S105 (17 + 4 * k106)) v101 (0 : Int32)) rfl (by decide) 94 dX3_byWalk_94 rfl hl.1 rfl (Nat.le_of_ble_eq_true rfl) ⟨Nat.le_of_ble_eq_true rfl, Nat.le_of_ble_eq_true rfl⟩ hpf (fun v107 S108 H locs I hm hpf => ?_)
      refine b_if_eq hx hb 103 97 dX3_byWalk_97 (by decide) hpf (fun hpf => ?_) (fun hpf => ?_)
      · exact hC_103 x1 x3 n4 y103 x7 x8 v101 hn4 S108 H locs I ls (lv_sub hl [2, 3, 4, 5, 0, 6, 7, 1] rfl) hpf
      refine m_iinc (w := (1 : Int32)) hx hb (fun y109 => [(7, .int y109), (5, .long y103), (9, .int v101), (0, .ref (g.2.1 13)), (1, .int x1), (3, .int x3), (4, .ref (g.2.1 (26 + 15 * n4))), (8, .int x8)]) 100 dX3_byWalk_100 hl (k := 6) rfl (by decide) (by decide) (fun _ => rfl) hpf (fun y109 ls hl hpf => ?_)
      exact hC_103 x1 x3 n4 y103 y109 x8 v101 hn4 S108 H locs I ls (lv_sub hl [3, 4, 5, 6, 1, 0, 7, 2] rfl) hpf
  have hC_28 : ∀ (wt0 : Int64) (x1 : Int32) (x3 : Int32) (n4 : Nat) (hn4 : n4 < 5) (S : kS) (H : Heap) (locs : List Loc), kV dC dI g (kAt g (kn Si) (km Si) (kp Si) sz) s Si S H locs → ∀ ls : Array Slot, lv_has ls 10 [(0, .ref (g.2.1 13)), (1, .int x1), (3, .int x3), (4, .ref (g.2.1 (26 + 15 * n4)))] → pX3_byWalk_28 N wt0 x1 x3 n4 S = some (r, Sf) → W p l e (mRm 4) s m args below meth c H locs 0 0 (MQ below (kQ dC dI g sz Si (rI g r) Sf) args s 0 0 (kAt g (kn Si) (km Si) (kp Si) sz)) (F0 m 28 ls [.long wt0]) := by
    intro wt0 x1 x3 n4 hn4 S H locs I ls hl hpf
    unfold pX3_byWalk_28 at hpf
    refine lv_lstore (lv' := [(5, .long wt0), (0, .ref (g.2.1 13)), (1, .int x1), (3, .int x3), (4, .ref (g.2.1 (26 + 15 * n4)))]) hx hb dX3_byWalk_28 hl (by decide) rfl (fun ls hl => ?_)
    refine lv_iconst (v := (0 : Int32)) hx hb dX3_byWalk_30 (by decide) ?_
    refine lv_istore (lv' := [(7, .int (0 : Int32)), (5, .long wt0), (0, .ref (g.2.1 13)), (1, .int x1), (3, .int x3), (4, .ref (g.2.1 (26 + 15 * n4)))]) hx hb dX3_byWalk_31 hl (by decide) rfl (fun ls hl => ?_)
    refine lv_iconst (v := (0 : Int32)) hx hb dX3_byWalk_33 (by decide) ?_
    refine lv_istore (lv' := [(8, .int (0 : Int32)), (7, .int (0 : Int32)), (5, .long wt0), (0, .ref (g.2.1 13)), (1, .int x1), (3, .int x3), (4, .ref (g.2.1 (26 + 15 * n4)))]) hx hb dX3_byWalk_34 hl (by decide) rfl (fun ls hl => ?_)
    exact hC_36 N x1 x3 n4 wt0 (0 : Int32) (0 : Int32) hn4 S H locs I ls (lv_sub hl [3, 4, 5, 6, 2, 1, 0] rfl) hpf
  refine lv_aload_n hx hb dX3_byWalk_0 rfl (lv_at hl 0 rfl) ?_
  refine k_get (k := 0) X I kCl_3 (kO_Q g Si) 0 (by decide) rfl kC_159 1 dX3_byWalk_1 ?_
  refine lv_iload_n hx hb dX3_byWalk_4 rfl (lv_at hl 1 rfl) ?_
  refine k_mld X I 5 dX3_byWalk_5 hpf (fun k101 hk101 hpf => ?_)
  refine k_get (k := 0) X I kCl_4 (kO_M g Si k101 hk101) 1 (by decide) rfl kC_196 6 dX3_byWalk_6 ?_
  refine lv_astore (lv' := [(4, .ref (g.2.1 (26 + 15 * k101))), (0, .ref (g.2.1 13)), (1, .int x1), (2, .int x2), (3, .int x3)]) hx hb dX3_byWalk_9 hl (by decide) rfl (fun ls hl => ?_)
  refine lv_iload_n hx hb dX3_byWalk_11 rfl (lv_at hl 4 rfl) ?_
  refine lv_iconst (v := (1 : Int32)) hx hb dX3_byWalk_12 (by decide) ?_
  refine b_icmp_ne hx hb 25 13 dX3_byWalk_13 (by decide) hpf (fun hpf => ?_) (fun hpf => ?_)
  · refine lv_lconst (v := (1 : Int64)) hx hb dX3_byWalk_25 (by decide) ?_
    refine lv_iload_n hx hb dX3_byWalk_26 rfl (lv_at hl 3 rfl) ?_
    refine lv_lshl hx hb dX3_byWalk_27 rfl ?_
    exact hC_28 ((1 : Int64) <<< (x2.toInt64 &&& 63)) x1 x3 k101 (Nat.lt_succ_of_lt hk101) Si H locs I ls (lv_sub hl [1, 2, 4, 0] rfl) hpf
  refine lv_aload hx hb dX3_byWalk_16 (lv_at hl 0 rfl) ?_
  refine lv_iload_n hx hb dX3_byWalk_18 rfl (lv_at hl 3 rfl) ?_
  refine k_cIl (rest := []) (As := [.int x2]) (d := 4) ⟨Nat.le_refl _, Nat.le_refl _⟩ X I fn_X3_X8_childrenAt kCl_8 rfl (kO_T g Si k101 (Nat.lt_succ_of_lt hk101)) (c_X8_childrenAt l N k101 (Nat.lt_succ_of_lt hk101) x2) rfl (by decide) 19 dX3_byWalk_19 rfl hl.1 rfl (Nat.le_of_ble_eq_true rfl) ⟨Nat.le_of_ble_eq_true rfl, Nat.le_of_ble_eq_true rfl⟩ hpf (fun v102 S103 H locs I hm hpf => ?_)
  refine lv_goto (tgt := 28) hx hb dX3_byWalk_22 (by decide) ?_
  exact hC_28 v102 x1 x3 k101 (Nat.lt_succ_of_lt hk101) S103 H locs I ls (lv_sub hl [1, 2, 4, 0] rfl) hpf
-- ===== X3_lookAt =====
def pX3_lookAt (N : Nat) (x1 : Int32) (S : kS) : Option (Unit × kS) :=
    gm (x1 / (100 : Int32)) fun k101 =>
    nm (x1 - x1 / (100 : Int32) * (100 : Int32)) fun y102 =>
    bk (pX2_applies N k101 y102 S) fun v103 S104 =>
    if v103 = (0 : Int32) then (
      some ((), S104))
    else (
      bk (pX8_grants N k101 (kI S104 10) y102 (0 : Int32) S104) fun v105 S106 =>
      if v105 = (0 : Int32) then (
        some ((), S106))
      else (
        bk (pX3_keep N x1 S106) fun v107 S108 =>
        some ((), S108)))
set_option maxRecDepth 100000 in
set_option maxHeartbeats 4000000 in
theorem c_X3_lookAt (l : Launch) (N : Nat) (x1 : Int32) : kMet l yX3_lookAt cX3_lookAt 4 none 4 (fun g => [.ref (g.2.1 13), .int x1]) rU (pX3_lookAt N x1) := by
  refine kStart RX3 (by decide +kernel) rfl (fun g => [(0, .ref (g.2.1 13)), (1, .int x1)]) (fun _ => Nat.le_of_ble_eq_true rfl) (fun _ => rfl) ?_
  intro dC dI g sz Si r Sf hpf p e s m args below meth c X hr H locs I ls hl
  have hx := X.1
  have hb := X.2.1
  unfold pX3_lookAt at hpf
  refine lv_aload_n hx hb dX3_lookAt_0 rfl (lv_at hl 0 rfl) ?_
  refine k_get (k := 0) X I kCl_3 (kO_Q g Si) 0 (by decide) rfl kC_159 1 dX3_lookAt_1 ?_
  refine lv_iload_n hx hb dX3_lookAt_4 rfl (lv_at hl 1 rfl) ?_
  refine lv_bipush (v := (100 : Int32)) hx hb dX3_lookAt_5 (by decide) ?_
  refine lv_idiv hx hb dX3_lookAt_7 (by decide) ?_
  refine k_mld X I 8 dX3_lookAt_8 hpf (fun k101 hk101 hpf => ?_)
  refine k_get (k := 0) X I kCl_4 (kO_M g Si k101 hk101) 1 (by decide) rfl kC_196 9 dX3_lookAt_9 ?_
  refine lv_astore_n (lv' := [(2, .ref (g.2.1 (26 + 15 * k101))), (0, .ref (g.2.1 13)), (1, .int x1)]) hx hb dX3_lookAt_12 rfl hl (by decide) rfl (fun ls hl => ?_)
  refine lv_iload_n hx hb dX3_lookAt_13 rfl (lv_at hl 2 rfl) ?_
  refine lv_bipush (v := (100 : Int32)) hx hb dX3_lookAt_14 (by decide) ?_
  refine lv_irem hx hb dX3_lookAt_16 (by decide) ?_
  refine m_isto_n hx hb (fun y102 => [(3, .int y102), (2, .ref (g.2.1 (26 + 15 * k101))), (0, .ref (g.2.1 13)), (1, .int x1)]) 17 dX3_lookAt_17 rfl hl (by decide) (fun _ => rfl) hpf (fun y102 ls hl hpf => ?_)
  refine lv_aload_n hx hb dX3_lookAt_18 rfl (lv_at hl 2 rfl) ?_
  refine k_get (k := 0) X I kCl_3 (kO_Q g Si) 1 (by decide) rfl kC_160 19 dX3_lookAt_19 ?_
  refine lv_aload_n hx hb dX3_lookAt_22 rfl (lv_at hl 1 rfl) ?_
  refine lv_iload_n hx hb dX3_lookAt_23 rfl (lv_at hl 0 rfl) ?_
  refine k_cIi (rest := []) (As := [.ref (g.2.1 (26 + 15 * k101)), .int y102]) (d := 4) ⟨Nat.le_refl _, Nat.le_refl _⟩ X I fn_X3_X2_applies kCl_2 rfl (kO_P g Si) (c_X2_applies l N k101 (Nat.lt_succ_of_lt hk101) y102) rfl (by decide) 24 dX3_lookAt_24 rfl hl.1 rfl (Nat.le_of_ble_eq_true rfl) ⟨Nat.le_of_ble_eq_true rfl, Nat.le_of_ble_eq_true rfl⟩ hpf (fun v103 S104 H locs I hm hpf => ?_)
  refine b_if_eq hx hb 48 27 dX3_lookAt_27 (by decide) hpf (fun hpf => ?_) (fun hpf => ?_)
  · exact k_retv X I hr 48 dX3_lookAt_48 hpf
  refine lv_aload_n hx hb dX3_lookAt_30 rfl (lv_at hl 1 rfl) ?_
  refine lv_aload_n hx hb dX3_lookAt_31 rfl (lv_at hl 2 rfl) ?_
  refine k_get (k := 0) X I kCl_3 (kO_Q g S104) 7 (by decide) rfl kC_198 32 dX3_lookAt_32 ?_
  refine lv_iload_n hx hb dX3_lookAt_35 rfl (lv_at hl 0 rfl) ?_
  refine lv_iconst (v := (0 : Int32)) hx hb dX3_lookAt_36 (by decide) ?_
  refine k_cIi (rest := []) (As := [.int (kI S104 10), .int y102, .int (0 : Int32)]) (d := 4) ⟨Nat.le_refl _, Nat.le_refl _⟩ X I fn_X3_X8_grants kCl_8 rfl (kO_T g S104 k101 (Nat.lt_succ_of_lt hk101)) (c_X8_grants l N k101 (Nat.lt_succ_of_lt hk101) (kI S104 10) y102 (0 : Int32)) rfl (by decide) 37 dX3_lookAt_37 rfl hl.1 rfl (Nat.le_of_ble_eq_true rfl) ⟨Nat.le_of_ble_eq_true rfl, Nat.le_of_ble_eq_true rfl⟩ hpf (fun v105 S106 H locs I hm hpf => ?_)
  refine b_if_eq hx hb 48 40 dX3_lookAt_40 (by decide) hpf (fun hpf => ?_) (fun hpf => ?_)
  · exact k_retv X I hr 48 dX3_lookAt_48 hpf
  refine lv_aload_n hx hb dX3_lookAt_43 rfl (lv_at hl 2 rfl) ?_
  refine lv_iload_n hx hb dX3_lookAt_44 rfl (lv_at hl 3 rfl) ?_
  refine k_cIv (rest := []) (As := [.int x1]) (d := 4) ⟨Nat.le_refl _, Nat.le_refl _⟩ X I fn_X3_X3_keep kCl_3 rfl (kO_Q g S106) (c_X3_keep l N x1) rfl (by decide) 45 dX3_lookAt_45 rfl hl.1 rfl (Nat.le_of_ble_eq_true rfl) ⟨Nat.le_of_ble_eq_true rfl, Nat.le_of_ble_eq_true rfl⟩ hpf (fun v107 S108 H locs I hm hpf => ?_)
  exact k_retv X I hr 48 dX3_lookAt_48 hpf
-- ===== X3_arriveFrom =====
def pX3_arriveFrom_129 (N : Nat) (k_4 : Int32 → Int32 → kS → Option (Int32 × kS)) (t0 : Int32) (x3 : Int32) (S : kS) : Option (Int32 × kS) :=
    nm (x3 + (1 : Int32)) fun y101 =>
    k_4 t0 y101 S
def pX3_arriveFrom_4 (N : Nat) : Nat → Int32 → Int32 → kS → Option (Int32 × kS)
  | 0 => fun _ _ _ => none
  | n_4 + 1 => fun x2 x3 S =>
    if (192 : Int32) < x3 then (
      some ((-1 : Int32), S))
    else (
      nm (x2 / (100 : Int32)) fun y101 =>
      nm (x2 - x2 / (100 : Int32) * (100 : Int32)) fun y102 =>
      gm y101 fun k103 =>
      bk (pX8_isLive N k103 y102 S) fun v104 S105 =>
      if v104 = (0 : Int32) then (
        some ((-1 : Int32), S105))
      else (
        gd y101 4 <|
        if (lg_cmp (((kJ S105 15 y101.toNatClampNeg) >>> (y102.toInt64 &&& 63)) &&& (1 : Int64)) (1 : Int64)) = (0 : Int32) then (
          some ((-1 : Int32), S105))
        else (
          gd y101 4 <|
          gd y101 4 <| svk (sJ S105 15 y101.toNatClampNeg ((kJ S105 15 y101.toNatClampNeg) ||| ((1 : Int64) <<< (y102.toInt64 &&& 63)))) fun S106 =>
          gm y101 fun k107 =>
          gd y102 48 <|
          nm (kA S106 (26 + 15 * k107 + 3) y102.toNatClampNeg) fun y108 =>
          if y108 = (-1 : Int32) then (
            some (x2, S106))
          else (
            if y108 < (100 : Int32) then (
              pX3_arriveFrom_129 N (pX3_arriveFrom_4 N n_4) ((y101 * (100 : Int32)) + y108) x3 S106)
            else (
              pX3_arriveFrom_129 N (pX3_arriveFrom_4 N n_4) (((y108 - (100 : Int32)) * (100 : Int32)) + y102) x3 S106)))))
def pX3_arriveFrom (N : Nat) (x1 : Int32) (S : kS) : Option (Int32 × kS) :=
    pX3_arriveFrom_4 N N x1 (0 : Int32) S
set_option maxRecDepth 100000 in
set_option maxHeartbeats 4000000 in
theorem c_X3_arriveFrom (l : Launch) (N : Nat) (x1 : Int32) : kMet l yX3_arriveFrom cX3_arriveFrom 7 (some .int) 1 (fun g => [.ref (g.2.1 13), .int x1]) rI (pX3_arriveFrom N x1) := by
  refine kStart RX3 (by decide +kernel) rfl (fun g => [(0, .ref (g.2.1 13)), (1, .int x1)]) (fun _ => Nat.le_of_ble_eq_true rfl) (fun _ => rfl) ?_
  intro dC dI g sz Si r Sf hpf p e s m args below meth c X hr H locs I ls hl
  have hx := X.1
  have hb := X.2.1
  unfold pX3_arriveFrom at hpf
  have hC_4 : ∀ (n_4 : Nat), ∀ (x2 : Int32) (x3 : Int32) (S : kS) (H : Heap) (locs : List Loc), kV dC dI g (kAt g (kn Si) (km Si) (kp Si) sz) s Si S H locs → ∀ ls : Array Slot, lv_has ls 7 [(0, .ref (g.2.1 13)), (2, .int x2), (3, .int x3)] → pX3_arriveFrom_4 N n_4 x2 x3 S = some (r, Sf) → W p l e (mRm 1) s m args below meth c H locs 0 0 (MQ below (kQ dC dI g sz Si (rI g r) Sf) args s 0 0 (kAt g (kn Si) (km Si) (kp Si) sz)) (F0 m 4 ls []) := by
    intro n_4
    induction n_4 with
    | zero =>
      intro x2 x3 S H locs I ls hl hpf
      rw [pX3_arriveFrom_4] at hpf
      cases hpf
    | succ n_4 ih_4 =>
      have hC_129 : ∀ (t0 : Int32) (x3 : Int32) (S : kS) (H : Heap) (locs : List Loc), kV dC dI g (kAt g (kn Si) (km Si) (kp Si) sz) s Si S H locs → ∀ ls : Array Slot, lv_has ls 7 [(0, .ref (g.2.1 13)), (3, .int x3)] → pX3_arriveFrom_129 N (pX3_arriveFrom_4 N n_4) t0 x3 S = some (r, Sf) → W p l e (mRm 1) s m args below meth c H locs 0 0 (MQ below (kQ dC dI g sz Si (rI g r) Sf) args s 0 0 (kAt g (kn Si) (km Si) (kp Si) sz)) (F0 m 129 ls [.int t0]) := by
        intro t0 x3 S H locs I ls hl hpf
        unfold pX3_arriveFrom_129 at hpf
        refine lv_istore_n (lv' := [(2, .int t0), (0, .ref (g.2.1 13)), (3, .int x3)]) hx hb dX3_arriveFrom_129 rfl hl (by decide) rfl (fun ls hl => ?_)
        refine m_iinc (w := (1 : Int32)) hx hb (fun y101 => [(3, .int y101), (2, .int t0), (0, .ref (g.2.1 13))]) 130 dX3_arriveFrom_130 hl (k := 2) rfl (by decide) (by decide) (fun _ => rfl) hpf (fun y101 ls hl hpf => ?_)
        refine lv_goto (tgt := 4) hx hb dX3_arriveFrom_133 (by decide) ?_
        exact ih_4 t0 y101 S H locs I ls (lv_sub hl [2, 1, 0] rfl) hpf
      intro x2 x3 S H locs I ls hl hpf
      rw [pX3_arriveFrom_4] at hpf
      refine lv_iload_n hx hb dX3_arriveFrom_4 rfl (lv_at hl 2 rfl) ?_
      refine lv_sipush (v := (192 : Int32)) hx hb dX3_arriveFrom_5 (by decide) ?_
      refine b_icmp_gt hx hb 136 8 dX3_arriveFrom_8 (by decide) hpf (fun hpf => ?_) (fun hpf => ?_)
      · refine lv_iconst (v := (-1 : Int32)) hx hb dX3_arriveFrom_136 (by decide) ?_
        exact k_reti X I hr 137 dX3_arriveFrom_137 hpf
      refine lv_iload_n hx hb dX3_arriveFrom_11 rfl (lv_at hl 1 rfl) ?_
      refine lv_bipush (v := (100 : Int32)) hx hb dX3_arriveFrom_12 (by decide) ?_
      refine lv_idiv hx hb dX3_arriveFrom_14 (by decide) ?_
      refine m_isto hx hb (fun y101 => [(4, .int y101), (0, .ref (g.2.1 13)), (2, .int x2), (3, .int x3)]) 15 dX3_arriveFrom_15 hl (by decide) (fun _ => rfl) hpf (fun y101 ls hl hpf => ?_)
      refine lv_iload_n hx hb dX3_arriveFrom_17 rfl (lv_at hl 2 rfl) ?_
      refine lv_bipush (v := (100 : Int32)) hx hb dX3_arriveFrom_18 (by decide) ?_
      refine lv_irem hx hb dX3_arriveFrom_20 (by decide) ?_
      refine m_isto hx hb (fun y102 => [(5, .int y102), (4, .int y101), (0, .ref (g.2.1 13)), (2, .int x2), (3, .int x3)]) 21 dX3_arriveFrom_21 hl (by decide) (fun _ => rfl) hpf (fun y102 ls hl hpf => ?_)
      refine lv_aload_n hx hb dX3_arriveFrom_23 rfl (lv_at hl 2 rfl) ?_
      refine k_get (k := 0) X I kCl_3 (kO_Q g S) 0 (by decide) rfl kC_159 24 dX3_arriveFrom_24 ?_
      refine lv_iload hx hb dX3_arriveFrom_27 (lv_at hl 1 rfl) ?_
      refine k_mld X I 29 dX3_arriveFrom_29 hpf (fun k103 hk103 hpf => ?_)
      refine k_get (k := 0) X I kCl_4 (kO_M g S k103 hk103) 1 (by decide) rfl kC_196 30 dX3_arriveFrom_30 ?_
      refine lv_iload hx hb dX3_arriveFrom_33 (lv_at hl 0 rfl) ?_
      refine k_cIi (rest := []) (As := [.int y102]) (d := 1) ⟨Nat.le_refl _, Nat.le_refl _⟩ X I fn_X3_X8_isLive kCl_8 rfl (kO_T g S k103 (Nat.lt_succ_of_lt hk103)) (c_X8_isLive l N k103 (Nat.lt_succ_of_lt hk103) y102) rfl (by decide) 35 dX3_arriveFrom_35 rfl hl.1 rfl (Nat.le_of_ble_eq_true rfl) ⟨Nat.le_of_ble_eq_true rfl, Nat.le_of_ble_eq_true rfl⟩ hpf (fun v104 S105 H locs I hm hpf => ?_)
      refine b_if_eq hx hb 58 38 dX3_arriveFrom_38 (by decide) hpf (fun hpf => ?_) (fun hpf => ?_)
      · refine lv_iconst (v := (-1 : Int32)) hx hb dX3_arriveFrom_58 (by decide) ?_
        exact k_reti X I hr 59 dX3_arriveFrom_59 hpf
      refine lv_aload_n hx hb dX3_arriveFrom_41 rfl (lv_at hl 2 rfl) ?_
      refine k_get (k := 0) X I kCl_3 (kO_Q g S105) 4 (by decide) rfl kC_157 42 dX3_arriveFrom_42 ?_
      refine lv_iload hx hb dX3_arriveFrom_45 (lv_at hl 1 rfl) ?_
      refine k_lald X I kR_15 47 dX3_arriveFrom_47 hpf (fun hpf => ?_)
      refine lv_iload hx hb dX3_arriveFrom_48 (lv_at hl 0 rfl) ?_
      refine lv_lshr hx hb dX3_arriveFrom_50 rfl ?_
      refine lv_lconst (v := (1 : Int64)) hx hb dX3_arriveFrom_51 (by decide) ?_
      refine lv_land hx hb dX3_arriveFrom_52 ?_
      refine lv_lconst (v := (1 : Int64)) hx hb dX3_arriveFrom_53 (by decide) ?_
      refine W.lcmp hx hb dX3_arriveFrom_54 ?_
      refine b_if_ne hx hb 60 55 dX3_arriveFrom_55 (by decide) hpf (fun hpf => ?_) (fun hpf => ?_)
      · refine lv_aload_n hx hb dX3_arriveFrom_60 rfl (lv_at hl 2 rfl) ?_
        refine k_get (k := 0) X I kCl_3 (kO_Q g S105) 4 (by decide) rfl kC_157 61 dX3_arriveFrom_61 ?_
        refine lv_iload hx hb dX3_arriveFrom_64 (lv_at hl 1 rfl) ?_
        refine lv_dup2_11 hx hb dX3_arriveFrom_66 rfl rfl ?_
        refine k_lald X I kR_15 67 dX3_arriveFrom_67 hpf (fun hpf => ?_)
        refine lv_lconst (v := (1 : Int64)) hx hb dX3_arriveFrom_68 (by decide) ?_
        refine lv_iload hx hb dX3_arriveFrom_69 (lv_at hl 0 rfl) ?_
        refine lv_lshl hx hb dX3_arriveFrom_71 rfl ?_
        refine lv_lor hx hb dX3_arriveFrom_72 ?_
        refine k_last X I kR_15 73 dX3_arriveFrom_73 hpf (fun S106 H locs I hm hpf => ?_)
        refine lv_aload_n hx hb dX3_arriveFrom_74 rfl (lv_at hl 2 rfl) ?_
        refine k_get (k := 0) X I kCl_3 (kO_Q g S106) 0 (by decide) rfl kC_159 75 dX3_arriveFrom_75 ?_
        refine lv_iload hx hb dX3_arriveFrom_78 (lv_at hl 1 rfl) ?_
        refine k_mld X I 80 dX3_arriveFrom_80 hpf (fun k107 hk107 hpf => ?_)
        refine k_get (k := 0) X I kCl_4 (kO_M g S106 k107 hk107) 1 (by decide) rfl kC_196 81 dX3_arriveFrom_81 ?_
        refine k_get (k := 0) X I kCl_8 (kO_T g S106 k107 (Nat.lt_succ_of_lt hk107)) 2 (by decide) rfl kC_230 84 dX3_arriveFrom_84 ?_
        refine lv_iload hx hb dX3_arriveFrom_87 (lv_at hl 0 rfl) ?_
        refine k_iald X I (kR_T3 k107 (Nat.lt_succ_of_lt hk107)) 89 dX3_arriveFrom_89 hpf (fun hpf => ?_)
        refine m_isto hx hb (fun y108 => [(6, .int y108), (5, .int y102), (4, .int y101), (0, .ref (g.2.1 13)), (2, .int x2), (3, .int x3)]) 90 dX3_arriveFrom_90 hl (by decide) (fun _ => rfl) hpf (fun y108 ls hl hpf => ?_)
        refine lv_iload hx hb dX3_arriveFrom_92 (lv_at hl 0 rfl) ?_
        refine lv_iconst (v := (-1 : Int32)) hx hb dX3_arriveFrom_94 (by decide) ?_
        refine b_icmp_ne hx hb 100 95 dX3_arriveFrom_95 (by decide) hpf (fun hpf => ?_) (fun hpf => ?_)
        · refine lv_iload hx hb dX3_arriveFrom_100 (lv_at hl 0 rfl) ?_
          refine lv_bipush (v := (100 : Int32)) hx hb dX3_arriveFrom_102 (by decide) ?_
          refine b_icmp_lt hx hb 121 104 dX3_arriveFrom_104 (by decide) hpf (fun hpf => ?_) (fun hpf => ?_)
          · refine lv_iload hx hb dX3_arriveFrom_121 (lv_at hl 2 rfl) ?_
            refine lv_bipush (v := (100 : Int32)) hx hb dX3_arriveFrom_123 (by decide) ?_
            refine lv_imul hx hb dX3_arriveFrom_125 ?_
            refine lv_iload hx hb dX3_arriveFrom_126 (lv_at hl 0 rfl) ?_
            refine lv_iadd hx hb dX3_arriveFrom_128 ?_
            exact hC_129 ((y101 * (100 : Int32)) + y108) x3 S106 H locs I ls (lv_sub hl [3, 5] rfl) hpf
          refine lv_iload hx hb dX3_arriveFrom_107 (lv_at hl 0 rfl) ?_
          refine lv_bipush (v := (100 : Int32)) hx hb dX3_arriveFrom_109 (by decide) ?_
          refine lv_isub hx hb dX3_arriveFrom_111 ?_
          refine lv_bipush (v := (100 : Int32)) hx hb dX3_arriveFrom_112 (by decide) ?_
          refine lv_imul hx hb dX3_arriveFrom_114 ?_
          refine lv_iload hx hb dX3_arriveFrom_115 (lv_at hl 1 rfl) ?_
          refine lv_iadd hx hb dX3_arriveFrom_117 ?_
          refine lv_goto (tgt := 129) hx hb dX3_arriveFrom_118 (by decide) ?_
          exact hC_129 (((y108 - (100 : Int32)) * (100 : Int32)) + y102) x3 S106 H locs I ls (lv_sub hl [3, 5] rfl) hpf
        refine lv_iload_n hx hb dX3_arriveFrom_98 rfl (lv_at hl 4 rfl) ?_
        exact k_reti X I hr 99 dX3_arriveFrom_99 hpf
      refine lv_iconst (v := (-1 : Int32)) hx hb dX3_arriveFrom_58 (by decide) ?_
      exact k_reti X I hr 59 dX3_arriveFrom_59 hpf
  refine lv_iload_n hx hb dX3_arriveFrom_0 rfl (lv_at hl 1 rfl) ?_
  refine lv_istore_n (lv' := [(2, .int x1), (0, .ref (g.2.1 13)), (1, .int x1)]) hx hb dX3_arriveFrom_1 rfl hl (by decide) rfl (fun ls hl => ?_)
  refine lv_iconst (v := (0 : Int32)) hx hb dX3_arriveFrom_2 (by decide) ?_
  refine lv_istore_n (lv' := [(3, .int (0 : Int32)), (2, .int x1), (0, .ref (g.2.1 13)), (1, .int x1)]) hx hb dX3_arriveFrom_3 rfl hl (by decide) rfl (fun ls hl => ?_)
  exact hC_4 N x1 (0 : Int32) Si H locs I ls (lv_sub hl [2, 1, 0] rfl) hpf
-- ===== X3_awaitChildrenOf =====
def pX3_awaitChildrenOf_78 (N : Nat) (k_27 : Int32 → Nat → Int32 → kS → Option (Unit × kS)) (x1 : Int32) (n2 : Nat) (x3 : Int32) (S : kS) : Option (Unit × kS) :=
    nm (x3 + (-1 : Int32)) fun y101 =>
    k_27 x1 n2 y101 S
def pX3_awaitChildrenOf_27 (N : Nat) : Nat → Int32 → Nat → Int32 → kS → Option (Unit × kS)
  | 0 => fun _ _ _ _ => none
  | n_27 + 1 => fun x1 n2 x3 S =>
    if x3 < (0 : Int32) then (
      some ((), S))
    else (
      if (192 : Int32) ≤ (kI S 9) then (
        pX3_awaitChildrenOf_78 N (pX3_awaitChildrenOf_27 N n_27) x1 n2 x3 S)
      else (
        bk (pX5_at N n2 2 x3 S) fun v101 S102 =>
        gd (kI S 9) 192 <| svk (sA S102 16 (kI S 9).toNatClampNeg (((x1 / (100 : Int32)) * (100 : Int32)) + (v101 - v101 / (48 : Int32) * (48 : Int32)))) fun S103 =>
        svk (sI S103 9 ((kI S103 9) + (1 : Int32))) fun S104 =>
        pX3_awaitChildrenOf_78 N (pX3_awaitChildrenOf_27 N n_27) x1 n2 x3 S104))
def pX3_awaitChildrenOf (N : Nat) (x1 : Int32) (S : kS) : Option (Unit × kS) :=
    gm (x1 / (100 : Int32)) fun k101 =>
    bk (pX8_rankedAt N k101 (x1 - x1 / (100 : Int32) * (100 : Int32)) S) fun v102 S103 =>
    nm ((kI S103 (40 + 3 * k101 + 2)) - (1 : Int32)) fun y104 =>
    pX3_awaitChildrenOf_27 N N x1 k101 y104 S103
set_option maxRecDepth 100000 in
set_option maxHeartbeats 4000000 in
theorem c_X3_awaitChildrenOf (l : Launch) (N : Nat) (x1 : Int32) : kMet l yX3_awaitChildrenOf cX3_awaitChildrenOf 4 none 4 (fun g => [.ref (g.2.1 13), .int x1]) rU (pX3_awaitChildrenOf N x1) := by
  refine kStart RX3 (by decide +kernel) rfl (fun g => [(0, .ref (g.2.1 13)), (1, .int x1)]) (fun _ => Nat.le_of_ble_eq_true rfl) (fun _ => rfl) ?_
  intro dC dI g sz Si r Sf hpf p e s m args below meth c X hr H locs I ls hl
  have hx := X.1
  have hb := X.2.1
  unfold pX3_awaitChildrenOf at hpf
  have hC_27 : ∀ (n_27 : Nat), ∀ (x1 : Int32) (n2 : Nat) (x3 : Int32) (hn2 : n2 < 5) (S : kS) (H : Heap) (locs : List Loc), kV dC dI g (kAt g (kn Si) (km Si) (kp Si) sz) s Si S H locs → ∀ ls : Array Slot, lv_has ls 4 [(0, .ref (g.2.1 13)), (1, .int x1), (2, .ref (g.2.1 (26 + 15 * n2 + 9 + 2 * 2))), (3, .int x3)] → pX3_awaitChildrenOf_27 N n_27 x1 n2 x3 S = some (r, Sf) → W p l e (mRm 4) s m args below meth c H locs 0 0 (MQ below (kQ dC dI g sz Si (rU g r) Sf) args s 0 0 (kAt g (kn Si) (km Si) (kp Si) sz)) (F0 m 27 ls []) := by
    intro n_27
    induction n_27 with
    | zero =>
      intro x1 n2 x3 hn2 S H locs I ls hl hpf
      rw [pX3_awaitChildrenOf_27] at hpf
      cases hpf
    | succ n_27 ih_27 =>
      have hC_78 : ∀ (x1 : Int32) (n2 : Nat) (x3 : Int32) (hn2 : n2 < 5) (S : kS) (H : Heap) (locs : List Loc), kV dC dI g (kAt g (kn Si) (km Si) (kp Si) sz) s Si S H locs → ∀ ls : Array Slot, lv_has ls 4 [(0, .ref (g.2.1 13)), (1, .int x1), (2, .ref (g.2.1 (26 + 15 * n2 + 9 + 2 * 2))), (3, .int x3)] → pX3_awaitChildrenOf_78 N (pX3_awaitChildrenOf_27 N n_27) x1 n2 x3 S = some (r, Sf) → W p l e (mRm 4) s m args below meth c H locs 0 0 (MQ below (kQ dC dI g sz Si (rU g r) Sf) args s 0 0 (kAt g (kn Si) (km Si) (kp Si) sz)) (F0 m 78 ls []) := by
        intro x1 n2 x3 hn2 S H locs I ls hl hpf
        unfold pX3_awaitChildrenOf_78 at hpf
        refine m_iinc (w := (-1 : Int32)) hx hb (fun y101 => [(3, .int y101), (0, .ref (g.2.1 13)), (1, .int x1), (2, .ref (g.2.1 (26 + 15 * n2 + 9 + 2 * 2)))]) 78 dX3_awaitChildrenOf_78 hl (k := 3) rfl (by decide) (by decide) (fun _ => rfl) hpf (fun y101 ls hl hpf => ?_)
        refine lv_goto (tgt := 27) hx hb dX3_awaitChildrenOf_81 (by decide) ?_
        exact ih_27 x1 n2 y101 hn2 S H locs I ls (lv_sub hl [1, 2, 3, 0] rfl) hpf
      intro x1 n2 x3 hn2 S H locs I ls hl hpf
      rw [pX3_awaitChildrenOf_27] at hpf
      refine lv_iload_n hx hb dX3_awaitChildrenOf_27 rfl (lv_at hl 3 rfl) ?_
      refine b_if_lt hx hb 84 28 dX3_awaitChildrenOf_28 (by decide) hpf (fun hpf => ?_) (fun hpf => ?_)
      · exact k_retv X I hr 84 dX3_awaitChildrenOf_84 hpf
      refine lv_aload_n hx hb dX3_awaitChildrenOf_31 rfl (lv_at hl 0 rfl) ?_
      refine k_get (k := 0) X I kCl_3 (kO_Q g S) 6 (by decide) rfl kC_253 32 dX3_awaitChildrenOf_32 ?_
      refine lv_aload_n hx hb dX3_awaitChildrenOf_35 rfl (lv_at hl 0 rfl) ?_
      refine k_get (k := 0) X I kCl_3 (kO_Q g S) 5 (by decide) rfl kC_158 36 dX3_awaitChildrenOf_36 ?_
      refine k_lenI X I kR_16 39 dX3_awaitChildrenOf_39 (192 : Int32) (by decide) ?_
      refine b_icmp_ge hx hb 78 40 dX3_awaitChildrenOf_40 (by decide) hpf (fun hpf => ?_) (fun hpf => ?_)
      · exact hC_78 x1 n2 x3 hn2 S H locs I ls (lv_sub hl [0, 1, 2, 3] rfl) hpf
      refine lv_aload_n hx hb dX3_awaitChildrenOf_43 rfl (lv_at hl 0 rfl) ?_
      refine k_get (k := 0) X I kCl_3 (kO_Q g S) 5 (by decide) rfl kC_158 44 dX3_awaitChildrenOf_44 ?_
      refine lv_aload_n hx hb dX3_awaitChildrenOf_47 rfl (lv_at hl 0 rfl) ?_
      refine k_get (k := 0) X I kCl_3 (kO_Q g S) 6 (by decide) rfl kC_253 48 dX3_awaitChildrenOf_48 ?_
      refine lv_iload_n hx hb dX3_awaitChildrenOf_51 rfl (lv_at hl 1 rfl) ?_
      refine lv_bipush (v := (100 : Int32)) hx hb dX3_awaitChildrenOf_52 (by decide) ?_
      refine lv_idiv hx hb dX3_awaitChildrenOf_54 (by decide) ?_
      refine lv_bipush (v := (100 : Int32)) hx hb dX3_awaitChildrenOf_55 (by decide) ?_
      refine lv_imul hx hb dX3_awaitChildrenOf_57 ?_
      refine lv_aload_n hx hb dX3_awaitChildrenOf_58 rfl (lv_at hl 2 rfl) ?_
      refine lv_iload_n hx hb dX3_awaitChildrenOf_59 rfl (lv_at hl 3 rfl) ?_
      refine k_cIi (rest := [.int ((x1 / (100 : Int32)) * (100 : Int32)), .int (kI S 9), .ref (g.2.1 16)]) (As := [.int x3]) (d := 4) ⟨Nat.le_refl _, Nat.le_refl _⟩ X I fn_X3_X5_at kCl_5 rfl (kO_N g S n2 2 hn2 (by decide)) (c_X5_at l N n2 2 hn2 (by decide) x3) rfl (by decide) 60 dX3_awaitChildrenOf_60 rfl hl.1 rfl (Nat.le_of_ble_eq_true rfl) ⟨Nat.le_of_ble_eq_true rfl, Nat.le_of_ble_eq_true rfl⟩ hpf (fun v101 S102 H locs I hm hpf => ?_)
      refine lv_bipush (v := (48 : Int32)) hx hb dX3_awaitChildrenOf_63 (by decide) ?_
      refine lv_irem hx hb dX3_awaitChildrenOf_65 (by decide) ?_
      refine lv_iadd hx hb dX3_awaitChildrenOf_66 ?_
      refine k_iast X I kR_16 67 dX3_awaitChildrenOf_67 hpf (fun S103 H locs I hm hpf => ?_)
      refine lv_aload_n hx hb dX3_awaitChildrenOf_68 rfl (lv_at hl 0 rfl) ?_
      refine lv_dup hx hb dX3_awaitChildrenOf_69 rfl ?_
      refine k_get (k := 0) X I kCl_3 (kO_Q g S103) 6 (by decide) rfl kC_253 70 dX3_awaitChildrenOf_70 ?_
      refine lv_iconst (v := (1 : Int32)) hx hb dX3_awaitChildrenOf_73 (by decide) ?_
      refine lv_iadd hx hb dX3_awaitChildrenOf_74 ?_
      refine k_put (ty := .int) X I kCl_3 tyX3_ok nmX3 (kO_Q g S103) 6 (by decide) (Nat.le_of_ble_eq_true rfl) (kP_Q6 g S103 _) ⟨rfl, rfl, rfl⟩ kC_253 rfl (by decide +kernel) rfl rfl 75 dX3_awaitChildrenOf_75 hpf (fun S104 H locs I hm hpf => ?_)
      exact hC_78 x1 n2 x3 hn2 S104 H locs I ls (lv_sub hl [0, 1, 2, 3] rfl) hpf
  refine lv_aload_n hx hb dX3_awaitChildrenOf_0 rfl (lv_at hl 0 rfl) ?_
  refine k_get (k := 0) X I kCl_3 (kO_Q g Si) 0 (by decide) rfl kC_159 1 dX3_awaitChildrenOf_1 ?_
  refine lv_iload_n hx hb dX3_awaitChildrenOf_4 rfl (lv_at hl 1 rfl) ?_
  refine lv_bipush (v := (100 : Int32)) hx hb dX3_awaitChildrenOf_5 (by decide) ?_
  refine lv_idiv hx hb dX3_awaitChildrenOf_7 (by decide) ?_
  refine k_mld X I 8 dX3_awaitChildrenOf_8 hpf (fun k101 hk101 hpf => ?_)
  refine k_get (k := 0) X I kCl_4 (kO_M g Si k101 hk101) 1 (by decide) rfl kC_196 9 dX3_awaitChildrenOf_9 ?_
  refine lv_iload_n hx hb dX3_awaitChildrenOf_12 rfl (lv_at hl 1 rfl) ?_
  refine lv_bipush (v := (100 : Int32)) hx hb dX3_awaitChildrenOf_13 (by decide) ?_
  refine lv_irem hx hb dX3_awaitChildrenOf_15 (by decide) ?_
  refine k_cIr (rest := []) (As := [.int (x1 - x1 / (100 : Int32) * (100 : Int32))]) (d := 4) ⟨Nat.le_refl _, Nat.le_refl _⟩ X I fn_X3_X8_rankedAt kCl_8 rfl (kO_T g Si k101 (Nat.lt_succ_of_lt hk101)) (c_X8_rankedAt l N k101 (Nat.lt_succ_of_lt hk101) (x1 - x1 / (100 : Int32) * (100 : Int32))) rfl (by decide) 16 dX3_awaitChildrenOf_16 rfl hl.1 rfl (Nat.le_of_ble_eq_true rfl) ⟨Nat.le_of_ble_eq_true rfl, Nat.le_of_ble_eq_true rfl⟩ hpf (fun v102 S103 H locs I hm hpf => ?_)
  refine lv_astore_n (lv' := [(2, .ref (g.2.1 (26 + 15 * k101 + 9 + 2 * 2))), (0, .ref (g.2.1 13)), (1, .int x1)]) hx hb dX3_awaitChildrenOf_19 rfl hl (by decide) rfl (fun ls hl => ?_)
  refine lv_aload_n hx hb dX3_awaitChildrenOf_20 rfl (lv_at hl 0 rfl) ?_
  refine k_get (k := 0) X I kCl_5 (kO_N g S103 k101 2 (Nat.lt_succ_of_lt hk101) (by decide)) 1 (by decide) rfl kC_252 21 dX3_awaitChildrenOf_21 ?_
  refine lv_iconst (v := (1 : Int32)) hx hb dX3_awaitChildrenOf_24 (by decide) ?_
  refine lv_isub hx hb dX3_awaitChildrenOf_25 ?_
  refine m_isto_n hx hb (fun y104 => [(3, .int y104), (2, .ref (g.2.1 (26 + 15 * k101 + 9 + 2 * 2))), (0, .ref (g.2.1 13)), (1, .int x1)]) 26 dX3_awaitChildrenOf_26 rfl hl (by decide) (fun _ => rfl) hpf (fun y104 ls hl hpf => ?_)
  exact hC_27 N x1 k101 y104 (Nat.lt_succ_of_lt hk101) S103 H locs I ls (lv_sub hl [2, 3, 1, 0] rfl) hpf
-- ===== X3_byLinks =====
def pX3_byLinks_148 (N : Nat) (S : kS) : Option (Int32 × kS) :=
    some (kI S 8, S)
def pX3_byLinks_142 (N : Nat) (k_79 : Int32 → Int32 → kS → Option (Int32 × kS)) (x3 : Int32) (x5 : Int32) (S : kS) : Option (Int32 × kS) :=
    nm (x5 + (1 : Int32)) fun y101 =>
    k_79 x3 y101 S
def pX3_byLinks_79 (N : Nat) (k_148 : kS → Option (Int32 × kS)) : Nat → Int32 → Int32 → kS → Option (Int32 × kS)
  | 0 => fun _ _ _ => none
  | n_79 + 1 => fun x3 x5 S =>
    if (192 : Int32) ≤ x5 then (
      k_148 S)
    else (
      if (kI S 9) ≤ (0 : Int32) then (
        k_148 S)
      else (
        svk (sI S 9 ((kI S 9) - (1 : Int32))) fun S101 =>
        gd (kI S101 9) 192 <|
        bk (pX3_arriveFrom N (kA S101 16 (kI S101 9).toNatClampNeg) S101) fun v102 S103 =>
        if v102 = (-1 : Int32) then (
          pX3_byLinks_142 N (pX3_byLinks_79 N k_148 n_79) x3 x5 S103)
        else (
          bk (pX3_lookAt N v102 S103) fun v104 S105 =>
          if x3 = (2 : Int32) then (
            bk (pX3_awaitChildrenOf N v102 S105) fun v106 S107 =>
            pX3_byLinks_142 N (pX3_byLinks_79 N k_148 n_79) x3 x5 S107)
          else (
            pX3_byLinks_142 N (pX3_byLinks_79 N k_148 n_79) x3 x5 S105))))
def pX3_byLinks_76 (N : Nat) (x3 : Int32) (S : kS) : Option (Int32 × kS) :=
    pX3_byLinks_79 N (pX3_byLinks_148 N) N x3 (0 : Int32) S
def pX3_byLinks_60 (N : Nat) (x3 : Int32) (x4 : Int32) (S : kS) : Option (Int32 × kS) :=
    if x4 = (-1 : Int32) then (
      pX3_byLinks_76 N x3 S)
    else (
      if x3 = (0 : Int32) then (
        pX3_byLinks_76 N x3 S)
      else (
        bk (pX3_awaitChildrenOf N x4 S) fun v101 S102 =>
        pX3_byLinks_76 N x3 S102))
def pX3_byLinks (N : Nat) (x1 : Int32) (x2 : Int32) (x3 : Int32) (S : kS) : Option (Int32 × kS) :=
    gm x1 fun k101 =>
    svk (sI S 10 (kI S (17 + 4 * k101))) fun S102 =>
    svk (sI S102 8 (0 : Int32)) fun S103 =>
    svk (sI S103 9 (0 : Int32)) fun S104 =>
    bk (pJ7_fill_d0a16 N 15 4 (0 : Int64) S104) fun v105 S106 =>
    bk (pX3_arriveFrom N ((x1 * (100 : Int32)) + x2) S106) fun v107 S108 =>
    if v107 = (-1 : Int32) then (
      pX3_byLinks_60 N x3 v107 S108)
    else (
      if x3 = (1 : Int32) then (
        pX3_byLinks_60 N x3 v107 S108)
      else (
        bk (pX3_lookAt N v107 S108) fun v109 S110 =>
        pX3_byLinks_60 N x3 v107 S110))
set_option maxRecDepth 100000 in
set_option maxHeartbeats 4000000 in
theorem c_X3_byLinks (l : Launch) (N : Nat) (x1 : Int32) (x2 : Int32) (x3 : Int32) : kMet l yX3_byLinks cX3_byLinks 6 (some .int) 5 (fun g => [.ref (g.2.1 13), .int x1, .int x2, .int x3]) rI (pX3_byLinks N x1 x2 x3) := by
  refine kStart RX3 (by decide +kernel) rfl (fun g => [(0, .ref (g.2.1 13)), (1, .int x1), (2, .int x2), (3, .int x3)]) (fun _ => Nat.le_of_ble_eq_true rfl) (fun _ => rfl) ?_
  intro dC dI g sz Si r Sf hpf p e s m args below meth c X hr H locs I ls hl
  have hx := X.1
  have hb := X.2.1
  unfold pX3_byLinks at hpf
  have hC_148 : ∀ (S : kS) (H : Heap) (locs : List Loc), kV dC dI g (kAt g (kn Si) (km Si) (kp Si) sz) s Si S H locs → ∀ ls : Array Slot, lv_has ls 6 [(0, .ref (g.2.1 13))] → pX3_byLinks_148 N S = some (r, Sf) → W p l e (mRm 5) s m args below meth c H locs 0 0 (MQ below (kQ dC dI g sz Si (rI g r) Sf) args s 0 0 (kAt g (kn Si) (km Si) (kp Si) sz)) (F0 m 148 ls []) := by
    intro S H locs I ls hl hpf
    unfold pX3_byLinks_148 at hpf
    refine lv_aload_n hx hb dX3_byLinks_148 rfl (lv_at hl 0 rfl) ?_
    refine k_get (k := 0) X I kCl_3 (kO_Q g S) 3 (by decide) rfl kC_195 149 dX3_byLinks_149 ?_
    exact k_reti X I hr 152 dX3_byLinks_152 hpf
  have hC_79 : ∀ (n_79 : Nat), ∀ (x3 : Int32) (x5 : Int32) (S : kS) (H : Heap) (locs : List Loc), kV dC dI g (kAt g (kn Si) (km Si) (kp Si) sz) s Si S H locs → ∀ ls : Array Slot, lv_has ls 6 [(0, .ref (g.2.1 13)), (3, .int x3), (5, .int x5)] → pX3_byLinks_79 N (pX3_byLinks_148 N) n_79 x3 x5 S = some (r, Sf) → W p l e (mRm 5) s m args below meth c H locs 0 0 (MQ below (kQ dC dI g sz Si (rI g r) Sf) args s 0 0 (kAt g (kn Si) (km Si) (kp Si) sz)) (F0 m 79 ls []) := by
    intro n_79
    induction n_79 with
    | zero =>
      intro x3 x5 S H locs I ls hl hpf
      rw [pX3_byLinks_79] at hpf
      cases hpf
    | succ n_79 ih_79 =>
      have hC_142 : ∀ (x3 : Int32) (x5 : Int32) (S : kS) (H : Heap) (locs : List Loc), kV dC dI g (kAt g (kn Si) (km Si) (kp Si) sz) s Si S H locs → ∀ ls : Array Slot, lv_has ls 6 [(0, .ref (g.2.1 13)), (3, .int x3), (5, .int x5)] → pX3_byLinks_142 N (pX3_byLinks_79 N (pX3_byLinks_148 N) n_79) x3 x5 S = some (r, Sf) → W p l e (mRm 5) s m args below meth c H locs 0 0 (MQ below (kQ dC dI g sz Si (rI g r) Sf) args s 0 0 (kAt g (kn Si) (km Si) (kp Si) sz)) (F0 m 142 ls []) := by
        intro x3 x5 S H locs I ls hl hpf
        unfold pX3_byLinks_142 at hpf
        refine m_iinc (w := (1 : Int32)) hx hb (fun y101 => [(5, .int y101), (0, .ref (g.2.1 13)), (3, .int x3)]) 142 dX3_byLinks_142 hl (k := 2) rfl (by decide) (by decide) (fun _ => rfl) hpf (fun y101 ls hl hpf => ?_)
        refine lv_goto (tgt := 79) hx hb dX3_byLinks_145 (by decide) ?_
        exact ih_79 x3 y101 S H locs I ls (lv_sub hl [1, 2, 0] rfl) hpf
      intro x3 x5 S H locs I ls hl hpf
      rw [pX3_byLinks_79] at hpf
      refine lv_iload hx hb dX3_byLinks_79 (lv_at hl 2 rfl) ?_
      refine lv_sipush (v := (192 : Int32)) hx hb dX3_byLinks_81 (by decide) ?_
      refine b_icmp_ge hx hb 148 84 dX3_byLinks_84 (by decide) hpf (fun hpf => ?_) (fun hpf => ?_)
      · exact hC_148 S H locs I ls (lv_sub hl [0] rfl) hpf
      refine lv_aload_n hx hb dX3_byLinks_87 rfl (lv_at hl 0 rfl) ?_
      refine k_get (k := 0) X I kCl_3 (kO_Q g S) 6 (by decide) rfl kC_253 88 dX3_byLinks_88 ?_
      refine b_if_le hx hb 148 91 dX3_byLinks_91 (by decide) hpf (fun hpf => ?_) (fun hpf => ?_)
      · exact hC_148 S H locs I ls (lv_sub hl [0] rfl) hpf
      refine lv_aload_n hx hb dX3_byLinks_94 rfl (lv_at hl 0 rfl) ?_
      refine lv_dup hx hb dX3_byLinks_95 rfl ?_
      refine k_get (k := 0) X I kCl_3 (kO_Q g S) 6 (by decide) rfl kC_253 96 dX3_byLinks_96 ?_
      refine lv_iconst (v := (1 : Int32)) hx hb dX3_byLinks_99 (by decide) ?_
      refine lv_isub hx hb dX3_byLinks_100 ?_
      refine k_put (ty := .int) X I kCl_3 tyX3_ok nmX3 (kO_Q g S) 6 (by decide) (Nat.le_of_ble_eq_true rfl) (kP_Q6 g S _) ⟨rfl, rfl, rfl⟩ kC_253 rfl (by decide +kernel) rfl rfl 101 dX3_byLinks_101 hpf (fun S101 H locs I hm hpf => ?_)
      refine lv_aload_n hx hb dX3_byLinks_104 rfl (lv_at hl 0 rfl) ?_
      refine lv_aload_n hx hb dX3_byLinks_105 rfl (lv_at hl 0 rfl) ?_
      refine k_get (k := 0) X I kCl_3 (kO_Q g S101) 5 (by decide) rfl kC_158 106 dX3_byLinks_106 ?_
      refine lv_aload_n hx hb dX3_byLinks_109 rfl (lv_at hl 0 rfl) ?_
      refine k_get (k := 0) X I kCl_3 (kO_Q g S101) 6 (by decide) rfl kC_253 110 dX3_byLinks_110 ?_
      refine k_iald X I kR_16 113 dX3_byLinks_113 hpf (fun hpf => ?_)
      refine k_cIi (rest := []) (As := [.int (kA S101 16 (kI S101 9).toNatClampNeg)]) (d := 5) ⟨Nat.le_refl _, Nat.le_refl _⟩ X I fn_X3_X3_arriveFrom kCl_3 rfl (kO_Q g S101) (c_X3_arriveFrom l N (kA S101 16 (kI S101 9).toNatClampNeg)) rfl (by decide) 114 dX3_byLinks_114 rfl hl.1 rfl (Nat.le_of_ble_eq_true rfl) ⟨Nat.le_of_ble_eq_true rfl, Nat.le_of_ble_eq_true rfl⟩ hpf (fun v102 S103 H locs I hm hpf => ?_)
      refine lv_istore (lv' := [(4, .int v102), (0, .ref (g.2.1 13)), (3, .int x3), (5, .int x5)]) hx hb dX3_byLinks_117 hl (by decide) rfl (fun ls hl => ?_)
      refine lv_iload hx hb dX3_byLinks_119 (lv_at hl 0 rfl) ?_
      refine lv_iconst (v := (-1 : Int32)) hx hb dX3_byLinks_121 (by decide) ?_
      refine b_icmp_eq hx hb 142 122 dX3_byLinks_122 (by decide) hpf (fun hpf => ?_) (fun hpf => ?_)
      · exact hC_142 x3 x5 S103 H locs I ls (lv_sub hl [1, 2, 3] rfl) hpf
      refine lv_aload_n hx hb dX3_byLinks_125 rfl (lv_at hl 1 rfl) ?_
      refine lv_iload hx hb dX3_byLinks_126 (lv_at hl 0 rfl) ?_
      refine k_cIv (rest := []) (As := [.int v102]) (d := 5) ⟨Nat.le_refl _, Nat.le_refl _⟩ X I fn_X3_X3_lookAt kCl_3 rfl (kO_Q g S103) (c_X3_lookAt l N v102) rfl (by decide) 128 dX3_byLinks_128 rfl hl.1 rfl (Nat.le_of_ble_eq_true rfl) ⟨Nat.le_of_ble_eq_true rfl, Nat.le_of_ble_eq_true rfl⟩ hpf (fun v104 S105 H locs I hm hpf => ?_)
      refine lv_iload_n hx hb dX3_byLinks_131 rfl (lv_at hl 2 rfl) ?_
      refine lv_iconst (v := (2 : Int32)) hx hb dX3_byLinks_132 (by decide) ?_
      refine b_icmp_ne hx hb 142 133 dX3_byLinks_133 (by decide) hpf (fun hpf => ?_) (fun hpf => ?_)
      · exact hC_142 x3 x5 S105 H locs I ls (lv_sub hl [1, 2, 3] rfl) hpf
      refine lv_aload_n hx hb dX3_byLinks_136 rfl (lv_at hl 1 rfl) ?_
      refine lv_iload hx hb dX3_byLinks_137 (lv_at hl 0 rfl) ?_
      refine k_cIv (rest := []) (As := [.int v102]) (d := 5) ⟨Nat.le_refl _, Nat.le_refl _⟩ X I fn_X3_X3_awaitChildrenOf kCl_3 rfl (kO_Q g S105) (c_X3_awaitChildrenOf l N v102) rfl (by decide) 139 dX3_byLinks_139 rfl hl.1 rfl (Nat.le_of_ble_eq_true rfl) ⟨Nat.le_of_ble_eq_true rfl, Nat.le_of_ble_eq_true rfl⟩ hpf (fun v106 S107 H locs I hm hpf => ?_)
      exact hC_142 x3 x5 S107 H locs I ls (lv_sub hl [1, 2, 3] rfl) hpf
  have hC_76 : ∀ (x3 : Int32) (S : kS) (H : Heap) (locs : List Loc), kV dC dI g (kAt g (kn Si) (km Si) (kp Si) sz) s Si S H locs → ∀ ls : Array Slot, lv_has ls 6 [(0, .ref (g.2.1 13)), (3, .int x3)] → pX3_byLinks_76 N x3 S = some (r, Sf) → W p l e (mRm 5) s m args below meth c H locs 0 0 (MQ below (kQ dC dI g sz Si (rI g r) Sf) args s 0 0 (kAt g (kn Si) (km Si) (kp Si) sz)) (F0 m 76 ls []) := by
    intro x3 S H locs I ls hl hpf
    unfold pX3_byLinks_76 at hpf
    refine lv_iconst (v := (0 : Int32)) hx hb dX3_byLinks_76 (by decide) ?_
    refine lv_istore (lv' := [(5, .int (0 : Int32)), (0, .ref (g.2.1 13)), (3, .int x3)]) hx hb dX3_byLinks_77 hl (by decide) rfl (fun ls hl => ?_)
    exact hC_79 N x3 (0 : Int32) S H locs I ls (lv_sub hl [1, 2, 0] rfl) hpf
  have hC_60 : ∀ (x3 : Int32) (x4 : Int32) (S : kS) (H : Heap) (locs : List Loc), kV dC dI g (kAt g (kn Si) (km Si) (kp Si) sz) s Si S H locs → ∀ ls : Array Slot, lv_has ls 6 [(0, .ref (g.2.1 13)), (3, .int x3), (4, .int x4)] → pX3_byLinks_60 N x3 x4 S = some (r, Sf) → W p l e (mRm 5) s m args below meth c H locs 0 0 (MQ below (kQ dC dI g sz Si (rI g r) Sf) args s 0 0 (kAt g (kn Si) (km Si) (kp Si) sz)) (F0 m 60 ls []) := by
    intro x3 x4 S H locs I ls hl hpf
    unfold pX3_byLinks_60 at hpf
    refine lv_iload hx hb dX3_byLinks_60 (lv_at hl 2 rfl) ?_
    refine lv_iconst (v := (-1 : Int32)) hx hb dX3_byLinks_62 (by decide) ?_
    refine b_icmp_eq hx hb 76 63 dX3_byLinks_63 (by decide) hpf (fun hpf => ?_) (fun hpf => ?_)
    · exact hC_76 x3 S H locs I ls (lv_sub hl [0, 1] rfl) hpf
    refine lv_iload_n hx hb dX3_byLinks_66 rfl (lv_at hl 1 rfl) ?_
    refine b_if_eq hx hb 76 67 dX3_byLinks_67 (by decide) hpf (fun hpf => ?_) (fun hpf => ?_)
    · exact hC_76 x3 S H locs I ls (lv_sub hl [0, 1] rfl) hpf
    refine lv_aload_n hx hb dX3_byLinks_70 rfl (lv_at hl 0 rfl) ?_
    refine lv_iload hx hb dX3_byLinks_71 (lv_at hl 2 rfl) ?_
    refine k_cIv (rest := []) (As := [.int x4]) (d := 5) ⟨Nat.le_refl _, Nat.le_refl _⟩ X I fn_X3_X3_awaitChildrenOf kCl_3 rfl (kO_Q g S) (c_X3_awaitChildrenOf l N x4) rfl (by decide) 73 dX3_byLinks_73 rfl hl.1 rfl (Nat.le_of_ble_eq_true rfl) ⟨Nat.le_of_ble_eq_true rfl, Nat.le_of_ble_eq_true rfl⟩ hpf (fun v101 S102 H locs I hm hpf => ?_)
    exact hC_76 x3 S102 H locs I ls (lv_sub hl [0, 1] rfl) hpf
  refine lv_aload_n hx hb dX3_byLinks_0 rfl (lv_at hl 0 rfl) ?_
  refine lv_aload_n hx hb dX3_byLinks_1 rfl (lv_at hl 0 rfl) ?_
  refine k_get (k := 0) X I kCl_3 (kO_Q g Si) 0 (by decide) rfl kC_159 2 dX3_byLinks_2 ?_
  refine lv_iload_n hx hb dX3_byLinks_5 rfl (lv_at hl 1 rfl) ?_
  refine k_mld X I 6 dX3_byLinks_6 hpf (fun k101 hk101 hpf => ?_)
  refine k_get (k := 0) X I kCl_4 (kO_M g Si k101 hk101) 2 (by decide) rfl kC_197 7 dX3_byLinks_7 ?_
  refine k_put (ty := .int) X I kCl_3 tyX3_ok nmX3 (kO_Q g Si) 7 (by decide) (Nat.le_of_ble_eq_true rfl) (kP_Q7 g Si _) ⟨rfl, rfl, rfl⟩ kC_198 rfl (by decide +kernel) rfl rfl 10 dX3_byLinks_10 hpf (fun S102 H locs I hm hpf => ?_)
  refine lv_aload_n hx hb dX3_byLinks_13 rfl (lv_at hl 0 rfl) ?_
  refine lv_iconst (v := (0 : Int32)) hx hb dX3_byLinks_14 (by decide) ?_
  refine k_put (ty := .int) X I kCl_3 tyX3_ok nmX3 (kO_Q g S102) 3 (by decide) (Nat.le_of_ble_eq_true rfl) (kP_Q3 g S102 _) ⟨rfl, rfl, rfl⟩ kC_195 rfl (by decide +kernel) rfl rfl 15 dX3_byLinks_15 hpf (fun S103 H locs I hm hpf => ?_)
  refine lv_aload_n hx hb dX3_byLinks_18 rfl (lv_at hl 0 rfl) ?_
  refine lv_iconst (v := (0 : Int32)) hx hb dX3_byLinks_19 (by decide) ?_
  refine k_put (ty := .int) X I kCl_3 tyX3_ok nmX3 (kO_Q g S103) 6 (by decide) (Nat.le_of_ble_eq_true rfl) (kP_Q6 g S103 _) ⟨rfl, rfl, rfl⟩ kC_253 rfl (by decide +kernel) rfl rfl 20 dX3_byLinks_20 hpf (fun S104 H locs I hm hpf => ?_)
  refine lv_aload_n hx hb dX3_byLinks_23 rfl (lv_at hl 0 rfl) ?_
  refine k_get (k := 0) X I kCl_3 (kO_Q g S104) 4 (by decide) rfl kC_157 24 dX3_byLinks_24 ?_
  refine lv_lconst (v := (0 : Int64)) hx hb dX3_byLinks_27 (by decide) ?_
  refine k_cSv (rest := []) (As := [.ref (g.2.1 15), .long (0 : Int64)]) (d := 5) ⟨Nat.le_refl _, Nat.le_refl _⟩ X I fn_X3_J7_fill_d0a16 (c_J7_fill_d0a16 l N 15 4 kR_15 (0 : Int64)) rfl (by decide) 28 dX3_byLinks_28 rfl hl.1 rfl (Nat.le_of_ble_eq_true rfl) ⟨Nat.le_of_ble_eq_true rfl, Nat.le_of_ble_eq_true rfl⟩ hpf (fun v105 S106 H locs I hm hpf => ?_)
  refine lv_aload_n hx hb dX3_byLinks_31 rfl (lv_at hl 0 rfl) ?_
  refine lv_iload_n hx hb dX3_byLinks_32 rfl (lv_at hl 1 rfl) ?_
  refine lv_bipush (v := (100 : Int32)) hx hb dX3_byLinks_33 (by decide) ?_
  refine lv_imul hx hb dX3_byLinks_35 ?_
  refine lv_iload_n hx hb dX3_byLinks_36 rfl (lv_at hl 2 rfl) ?_
  refine lv_iadd hx hb dX3_byLinks_37 ?_
  refine k_cIi (rest := []) (As := [.int ((x1 * (100 : Int32)) + x2)]) (d := 5) ⟨Nat.le_refl _, Nat.le_refl _⟩ X I fn_X3_X3_arriveFrom kCl_3 rfl (kO_Q g S106) (c_X3_arriveFrom l N ((x1 * (100 : Int32)) + x2)) rfl (by decide) 38 dX3_byLinks_38 rfl hl.1 rfl (Nat.le_of_ble_eq_true rfl) ⟨Nat.le_of_ble_eq_true rfl, Nat.le_of_ble_eq_true rfl⟩ hpf (fun v107 S108 H locs I hm hpf => ?_)
  refine lv_istore (lv' := [(4, .int v107), (0, .ref (g.2.1 13)), (1, .int x1), (2, .int x2), (3, .int x3)]) hx hb dX3_byLinks_41 hl (by decide) rfl (fun ls hl => ?_)
  refine lv_iload hx hb dX3_byLinks_43 (lv_at hl 0 rfl) ?_
  refine lv_iconst (v := (-1 : Int32)) hx hb dX3_byLinks_45 (by decide) ?_
  refine b_icmp_eq hx hb 60 46 dX3_byLinks_46 (by decide) hpf (fun hpf => ?_) (fun hpf => ?_)
  · exact hC_60 x3 v107 S108 H locs I ls (lv_sub hl [1, 4, 0] rfl) hpf
  refine lv_iload_n hx hb dX3_byLinks_49 rfl (lv_at hl 4 rfl) ?_
  refine lv_iconst (v := (1 : Int32)) hx hb dX3_byLinks_50 (by decide) ?_
  refine b_icmp_eq hx hb 60 51 dX3_byLinks_51 (by decide) hpf (fun hpf => ?_) (fun hpf => ?_)
  · exact hC_60 x3 v107 S108 H locs I ls (lv_sub hl [1, 4, 0] rfl) hpf
  refine lv_aload_n hx hb dX3_byLinks_54 rfl (lv_at hl 1 rfl) ?_
  refine lv_iload hx hb dX3_byLinks_55 (lv_at hl 0 rfl) ?_
  refine k_cIv (rest := []) (As := [.int v107]) (d := 5) ⟨Nat.le_refl _, Nat.le_refl _⟩ X I fn_X3_X3_lookAt kCl_3 rfl (kO_Q g S108) (c_X3_lookAt l N v107) rfl (by decide) 57 dX3_byLinks_57 rfl hl.1 rfl (Nat.le_of_ble_eq_true rfl) ⟨Nat.le_of_ble_eq_true rfl, Nat.le_of_ble_eq_true rfl⟩ hpf (fun v109 S110 H locs I hm hpf => ?_)
  exact hC_60 x3 v107 S110 H locs I ls (lv_sub hl [1, 4, 0] rfl) hpf
