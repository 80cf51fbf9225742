theorem fn_X4_X4_toldOf : kFnI RX4 yX4_toldOf cX4_toldOf 3 (some .int) 2 28 := ⟨⟨kC_281, kC_284, kC_277, ⟨by decide +kernel, by decide +kernel, by decide +kernel⟩, by decide⟩, kC_282, kC_283⟩
theorem fn_X4_X4_isToldThatKnows : kFnI RX4 yX4_isToldThatKnows cX4_isToldThatKnows 3 (some .boolean) 2 33 := ⟨⟨kC_286, kC_284, kC_278, ⟨by decide +kernel, by decide +kernel, by decide +kernel⟩, by decide⟩, kC_287, kC_288⟩
theorem fn_X4_X4_learn : kFnI RX4 yX4_learn cX4_learn 2 none 1 43 := ⟨⟨kC_296, kC_284, kC_289, ⟨by decide +kernel, by decide +kernel, by decide +kernel⟩, by decide⟩, kC_297, kC_298⟩
theorem fn_X4_X8_deletedOnes : kFnI RX4 yX8_deletedOnes cX8_deletedOnes 1 (some .long) 0 52 := ⟨⟨kC_304, kC_121, kC_300, ⟨by decide +kernel, by decide +kernel, by decide +kernel⟩, by decide⟩, kC_305, kC_306⟩
theorem fn_X2_X2_put : kFnI RX2 yX2_put cX2_put 5 (some .int) 4 36 := ⟨⟨kC_95, kC_98, kC_93, ⟨by decide +kernel, by decide +kernel, by decide +kernel⟩, by decide⟩, kC_96, kC_97⟩
theorem fn_X2_X8_valuesBetween : kFnI RX2 yX8_valuesBetween cX8_valuesBetween 4 (some .int) 3 40 := ⟨⟨kC_118, kC_121, kC_110, ⟨by decide +kernel, by decide +kernel, by decide +kernel⟩, by decide⟩, kC_119, kC_120⟩
theorem fn_X2_X7_isOrBeneath : kFnI RX2 yX7_isOrBeneath cX7_isOrBeneath 5 (some .boolean) 2 49 := ⟨⟨kC_122, kC_45, kC_115, ⟨by decide +kernel, by decide +kernel, by decide +kernel⟩, by decide⟩, kC_123, kC_124⟩
theorem fn_X2_X8_holdersBetween : kFnI RX2 yX8_holdersBetween cX8_holdersBetween 7 (some .long) 2 65 := ⟨⟨kC_141, kC_121, kC_131, ⟨by decide +kernel, by decide +kernel, by decide +kernel⟩, by decide⟩, kC_142, kC_143⟩
theorem fn_X2_X8_isLive : kFnI RX2 yX8_isLive cX8_isLive 2 (some .boolean) 1 69 := ⟨⟨kC_144, kC_121, kC_140, ⟨by decide +kernel, by decide +kernel, by decide +kernel⟩, by decide⟩, kC_145, kC_146⟩
theorem fn_X2_X2_setOf : kFnI RX2 yX2_setOf cX2_setOf 6 (some .long) 2 55 := ⟨⟨kC_149, kC_98, kC_147, ⟨by decide +kernel, by decide +kernel, by decide +kernel⟩, by decide⟩, kC_150, kC_151⟩
theorem fn_X2_X8_living : kFnI RX2 yX8_living cX8_living 1 (some .long) 0 59 := ⟨⟨kC_152, kC_121, kC_127, ⟨by decide +kernel, by decide +kernel, by decide +kernel⟩, by decide⟩, kC_138, kC_139⟩
-- ===== X4_toldOf =====
def pX4_toldOf (N : Nat) (n0 : Nat) (x1 : Int32) (x2 : Int32) (S : kS) : Option (Int32 × kS) :=
    gd ((x1 * (4 : Int32)) + x2) 16 <|
    some (kA S (19 + 2 * n0) ((x1 * (4 : Int32)) + x2).toNatClampNeg, S)
set_option maxRecDepth 100000 in
set_option maxHeartbeats 4000000 in
theorem c_X4_toldOf (l : Launch) (N : Nat) (n0 : Nat) (hn0 : n0 < 4) (x1 : Int32) (x2 : Int32) : kMet l yX4_toldOf cX4_toldOf 3 (some .int) 0 (fun g => [.ref (g.2.1 (18 + 2 * n0)), .int x1, .int x2]) rI (pX4_toldOf N n0 x1 x2) := by
  refine kStart RX4 (by decide +kernel) rfl (fun g => [(0, .ref (g.2.1 (18 + 2 * n0))), (1, .int x1), (2, .int x2)]) (fun _ => Nat.le_of_ble_eq_true rfl) (fun _ => rfl) ?_
  intro dC dI g sz Si r Sf hpf p e s m args below meth c X hr H locs I ls hl
  have hx := X.1
  have hb := X.2.1
  unfold pX4_toldOf at hpf
  refine lv_aload_n hx hb dX4_toldOf_0 rfl (lv_at hl 0 rfl) ?_
  refine k_get (k := 0) X I kCl_4 (kO_M g Si n0 hn0) 5 (by decide) rfl kC_274 1 dX4_toldOf_1 ?_
  refine lv_iload_n hx hb dX4_toldOf_4 rfl (lv_at hl 1 rfl) ?_
  refine lv_iconst (v := (4 : Int32)) hx hb dX4_toldOf_5 (by decide) ?_
  refine lv_imul hx hb dX4_toldOf_6 ?_
  refine lv_iload_n hx hb dX4_toldOf_7 rfl (lv_at hl 2 rfl) ?_
  refine lv_iadd hx hb dX4_toldOf_8 ?_
  refine k_iald X I (kR_told n0 hn0) 9 dX4_toldOf_9 hpf (fun hpf => ?_)
  exact k_reti X I hr 10 dX4_toldOf_10 hpf
-- ===== X4_isToldThatKnows =====
def pX4_isToldThatKnows (N : Nat) (n0 : Nat) (x1 : Int32) (n2 : Nat) (S : kS) : Option (Int32 × kS) :=
    gn n2 (kn S) <|
    bk (pX4_toldOf N n0 x1 (kF S n2 6) S) fun v101 S102 =>
    gn n2 (kn S102) <|
    if v101 ≤ (kF S102 n2 7) then (
      some ((0 : Int32), S102))
    else (
      some ((1 : Int32), S102))
set_option maxRecDepth 100000 in
set_option maxHeartbeats 4000000 in
theorem c_X4_isToldThatKnows (l : Launch) (N : Nat) (n0 : Nat) (hn0 : n0 < 4) (x1 : Int32) (n2 : Nat) : kMet l yX4_isToldThatKnows cX4_isToldThatKnows 3 (some .boolean) 1 (fun g => [.ref (g.2.1 (18 + 2 * n0)), .int x1, .ref (g.2.2.1 n2)]) rI (pX4_isToldThatKnows N n0 x1 n2) := by
  refine kStart RX4 (by decide +kernel) rfl (fun g => [(0, .ref (g.2.1 (18 + 2 * n0))), (1, .int x1), (2, .ref (g.2.2.1 n2))]) (fun _ => Nat.le_of_ble_eq_true rfl) (fun _ => rfl) ?_
  intro dC dI g sz Si r Sf hpf p e s m args below meth c X hr H locs I ls hl
  have hx := X.1
  have hb := X.2.1
  unfold pX4_isToldThatKnows at hpf
  refine lv_aload_n hx hb dX4_isToldThatKnows_0 rfl (lv_at hl 0 rfl) ?_
  refine lv_iload_n hx hb dX4_isToldThatKnows_1 rfl (lv_at hl 1 rfl) ?_
  refine lv_aload_n hx hb dX4_isToldThatKnows_2 rfl (lv_at hl 2 rfl) ?_
  refine k_getU X I 6 (by decide) rfl kC_279 3 dX4_isToldThatKnows_3 hpf (fun hpf => ?_)
  refine k_cIi (rest := []) (As := [.int x1, .int (kF Si n2 6)]) (d := 1) ⟨Nat.le_refl _, Nat.le_refl _⟩ X I fn_X4_X4_toldOf kCl_4 rfl (kO_M g Si n0 hn0) (c_X4_toldOf l N n0 hn0 x1 (kF Si n2 6)) rfl (by decide) 6 dX4_isToldThatKnows_6 rfl hl.1 rfl (Nat.le_of_ble_eq_true rfl) ⟨Nat.le_of_ble_eq_true rfl, Nat.le_of_ble_eq_true rfl⟩ hpf (fun v101 S102 H locs I hm hpf => ?_)
  refine lv_aload_n hx hb dX4_isToldThatKnows_9 rfl (lv_at hl 2 rfl) ?_
  refine k_getU X I 7 (by decide) rfl kC_280 10 dX4_isToldThatKnows_10 hpf (fun hpf => ?_)
  refine b_icmp_le hx hb 20 13 dX4_isToldThatKnows_13 (by decide) hpf (fun hpf => ?_) (fun hpf => ?_)
  · refine lv_iconst (v := (0 : Int32)) hx hb dX4_isToldThatKnows_20 (by decide) ?_
    exact k_retzc X I hr 21 dX4_isToldThatKnows_21 (by decide) hpf
  refine lv_iconst (v := (1 : Int32)) hx hb dX4_isToldThatKnows_16 (by decide) ?_
  refine lv_goto (tgt := 21) hx hb dX4_isToldThatKnows_17 (by decide) ?_
  exact k_retzc X I hr 21 dX4_isToldThatKnows_21 (by decide) hpf
-- ===== X4_hasGot =====
def pX4_hasGot (N : Nat) (n0 : Nat) (n1 : Nat) (S : kS) : Option (Int32 × kS) :=
    bk (pX4_isToldThatKnows N n0 (kI S (16 + 4 * n0)) n1 S) fun v101 S102 =>
    zk v101 S102
set_option maxRecDepth 100000 in
set_option maxHeartbeats 4000000 in
theorem c_X4_hasGot (l : Launch) (N : Nat) (n0 : Nat) (hn0 : n0 < 4) (n1 : Nat) : kMet l yX4_hasGot cX4_hasGot 2 (some .boolean) 2 (fun g => [.ref (g.2.1 (18 + 2 * n0)), .ref (g.2.2.1 n1)]) rI (pX4_hasGot N n0 n1) := by
  refine kStart RX4 (by decide +kernel) rfl (fun g => [(0, .ref (g.2.1 (18 + 2 * n0))), (1, .ref (g.2.2.1 n1))]) (fun _ => Nat.le_of_ble_eq_true rfl) (fun _ => rfl) ?_
  intro dC dI g sz Si r Sf hpf p e s m args below meth c X hr H locs I ls hl
  have hx := X.1
  have hb := X.2.1
  unfold pX4_hasGot at hpf
  refine lv_aload_n hx hb dX4_hasGot_0 rfl (lv_at hl 0 rfl) ?_
  refine lv_aload_n hx hb dX4_hasGot_1 rfl (lv_at hl 0 rfl) ?_
  refine k_get (k := 0) X I kCl_4 (kO_M g Si n0 hn0) 0 (by decide) rfl kC_275 2 dX4_hasGot_2 ?_
  refine lv_aload_n hx hb dX4_hasGot_5 rfl (lv_at hl 1 rfl) ?_
  refine k_cIi (rest := []) (As := [.int (kI Si (16 + 4 * n0)), .ref (g.2.2.1 n1)]) (d := 2) ⟨Nat.le_refl _, Nat.le_refl _⟩ X I fn_X4_X4_isToldThatKnows kCl_4 rfl (kO_M g Si n0 hn0) (c_X4_isToldThatKnows l N n0 hn0 (kI Si (16 + 4 * n0)) n1) rfl (by decide) 6 dX4_hasGot_6 rfl hl.1 rfl (Nat.le_of_ble_eq_true rfl) ⟨Nat.le_of_ble_eq_true rfl, Nat.le_of_ble_eq_true rfl⟩ hpf (fun v101 S102 H locs I hm hpf => ?_)
  exact k_retz X I hr 9 dX4_hasGot_9 hpf
-- ===== X4_learn =====
def pX4_learn (N : Nat) (n0 : Nat) (n1 : Nat) (S : kS) : Option (Unit × kS) :=
    gn n1 (kn S) <|
    gn n1 (kn S) <|
    gd (((kI S (16 + 4 * n0)) * (4 : Int32)) + (kF S n1 6)) 16 <| svk (sA S (19 + 2 * n0) (((kI S (16 + 4 * n0)) * (4 : Int32)) + (kF S n1 6)).toNatClampNeg ((kF S n1 7) + (1 : Int32))) fun S101 =>
    gn n1 (kn S101) <|
    svk (sI S101 (18 + 4 * n0) (if (kI S101 (18 + 4 * n0)) < (kF S101 n1 8) then (kF S101 n1 8) else (kI S101 (18 + 4 * n0)))) fun S102 =>
    some ((), S102)
set_option maxRecDepth 100000 in
set_option maxHeartbeats 4000000 in
theorem c_X4_learn (l : Launch) (N : Nat) (n0 : Nat) (hn0 : n0 < 4) (n1 : Nat) : kMet l yX4_learn cX4_learn 2 none 1 (fun g => [.ref (g.2.1 (18 + 2 * n0)), .ref (g.2.2.1 n1)]) rU (pX4_learn N n0 n1) := by
  refine kStart RX4 (by decide +kernel) rfl (fun g => [(0, .ref (g.2.1 (18 + 2 * n0))), (1, .ref (g.2.2.1 n1))]) (fun _ => Nat.le_of_ble_eq_true rfl) (fun _ => rfl) ?_
  intro dC dI g sz Si r Sf hpf p e s m args below meth c X hr H locs I ls hl
  have hx := X.1
  have hb := X.2.1
  unfold pX4_learn at hpf
  refine lv_aload_n hx hb dX4_learn_0 rfl (lv_at hl 0 rfl) ?_
  refine k_get (k := 0) X I kCl_4 (kO_M g Si n0 hn0) 5 (by decide) rfl kC_274 1 dX4_learn_1 ?_
  refine lv_aload_n hx hb dX4_learn_4 rfl (lv_at hl 0 rfl) ?_
  refine k_get (k := 0) X I kCl_4 (kO_M g Si n0 hn0) 0 (by decide) rfl kC_275 5 dX4_learn_5 ?_
  refine lv_iconst (v := (4 : Int32)) hx hb dX4_learn_8 (by decide) ?_
  refine lv_imul hx hb dX4_learn_9 ?_
  refine lv_aload_n hx hb dX4_learn_10 rfl (lv_at hl 1 rfl) ?_
  refine k_getU X I 6 (by decide) rfl kC_279 11 dX4_learn_11 hpf (fun hpf => ?_)
  refine lv_iadd hx hb dX4_learn_14 ?_
  refine lv_aload_n hx hb dX4_learn_15 rfl (lv_at hl 1 rfl) ?_
  refine k_getU X I 7 (by decide) rfl kC_280 16 dX4_learn_16 hpf (fun hpf => ?_)
  refine lv_iconst (v := (1 : Int32)) hx hb dX4_learn_19 (by decide) ?_
  refine lv_iadd hx hb dX4_learn_20 ?_
  refine k_iast X I (kR_told n0 hn0) 21 dX4_learn_21 hpf (fun S101 H locs I hm hpf => ?_)
  refine lv_aload_n hx hb dX4_learn_22 rfl (lv_at hl 0 rfl) ?_
  refine lv_aload_n hx hb dX4_learn_23 rfl (lv_at hl 0 rfl) ?_
  refine k_get (k := 0) X I kCl_4 (kO_M g S101 n0 hn0) 4 (by decide) rfl kC_290 24 dX4_learn_24 ?_
  refine lv_aload_n hx hb dX4_learn_27 rfl (lv_at hl 1 rfl) ?_
  refine k_getU X I 8 (by decide) rfl kC_291 28 dX4_learn_28 hpf (fun hpf => ?_)
  refine k_max (d := 1) ⟨Nat.le_refl _, Nat.le_refl _⟩ (by decide) X hl.1 kC_292 kC_293 kC_32 kC_294 31 dX4_learn_31 (Nat.le_of_ble_eq_true rfl) ⟨Nat.le_of_ble_eq_true rfl, Nat.le_of_ble_eq_true rfl⟩ ?_
  refine k_put (ty := .int) X I kCl_4 tyX4_ok nmX4 (kO_M g S101 n0 hn0) 4 (by decide) (Nat.le_of_ble_eq_true rfl) (kP_M4 n0 hn0 g S101 _) ⟨rfl, rfl, rfl⟩ kC_290 rfl (by decide +kernel) rfl rfl 34 dX4_learn_34 hpf (fun S102 H locs I hm hpf => ?_)
  exact k_retv X I hr 37 dX4_learn_37 hpf
-- ===== X4_sign =====
def pX4_sign (N : Nat) (n0 : Nat) (n1 : Nat) (S : kS) : Option (Unit × kS) :=
    gn n1 (kn S) <| svk (sF S n1 6 (kI S (16 + 4 * n0))) fun S101 =>
    bk (pX4_toldOf N n0 (kI S101 (16 + 4 * n0)) (kI S101 (16 + 4 * n0)) S101) fun v102 S103 =>
    gn n1 (kn S103) <| svk (sF S103 n1 7 v102) fun S104 =>
    gn n1 (kn S104) <| svk (sF S104 n1 8 ((kI S104 (18 + 4 * n0)) + (1 : Int32))) fun S105 =>
    bk (pX4_learn N n0 n1 S105) fun v106 S107 =>
    some ((), S107)
set_option maxRecDepth 100000 in
set_option maxHeartbeats 4000000 in
theorem c_X4_sign (l : Launch) (N : Nat) (n0 : Nat) (hn0 : n0 < 4) (n1 : Nat) : kMet l yX4_sign cX4_sign 2 none 2 (fun g => [.ref (g.2.1 (18 + 2 * n0)), .ref (g.2.2.1 n1)]) rU (pX4_sign N n0 n1) := by
  refine kStart RX4 (by decide +kernel) rfl (fun g => [(0, .ref (g.2.1 (18 + 2 * n0))), (1, .ref (g.2.2.1 n1))]) (fun _ => Nat.le_of_ble_eq_true rfl) (fun _ => rfl) ?_
  intro dC dI g sz Si r Sf hpf p e s m args below meth c X hr H locs I ls hl
  have hx := X.1
  have hb := X.2.1
  unfold pX4_sign at hpf
  refine lv_aload_n hx hb dX4_sign_0 rfl (lv_at hl 1 rfl) ?_
  refine lv_aload_n hx hb dX4_sign_1 rfl (lv_at hl 0 rfl) ?_
  refine k_get (k := 0) X I kCl_4 (kO_M g Si n0 hn0) 0 (by decide) rfl kC_275 2 dX4_sign_2 ?_
  refine k_putU X I 6 (by decide) (by decide) kC_279 rfl (by decide +kernel) 5 dX4_sign_5 hpf (fun S101 H locs I hm hpf => ?_)
  refine lv_aload_n hx hb dX4_sign_8 rfl (lv_at hl 1 rfl) ?_
  refine lv_aload_n hx hb dX4_sign_9 rfl (lv_at hl 0 rfl) ?_
  refine lv_aload_n hx hb dX4_sign_10 rfl (lv_at hl 0 rfl) ?_
  refine k_get (k := 0) X I kCl_4 (kO_M g S101 n0 hn0) 0 (by decide) rfl kC_275 11 dX4_sign_11 ?_
  refine lv_aload_n hx hb dX4_sign_14 rfl (lv_at hl 0 rfl) ?_
  refine k_get (k := 0) X I kCl_4 (kO_M g S101 n0 hn0) 0 (by decide) rfl kC_275 15 dX4_sign_15 ?_
  refine k_cIi (rest := [.ref (g.2.2.1 n1)]) (As := [.int (kI S101 (16 + 4 * n0)), .int (kI S101 (16 + 4 * n0))]) (d := 2) ⟨Nat.le_refl _, Nat.le_refl _⟩ X I fn_X4_X4_toldOf kCl_4 rfl (kO_M g S101 n0 hn0) (c_X4_toldOf l N n0 hn0 (kI S101 (16 + 4 * n0)) (kI S101 (16 + 4 * n0))) rfl (by decide) 18 dX4_sign_18 rfl hl.1 rfl (Nat.le_of_ble_eq_true rfl) ⟨Nat.le_of_ble_eq_true rfl, Nat.le_of_ble_eq_true rfl⟩ hpf (fun v102 S103 H locs I hm hpf => ?_)
  refine k_putU X I 7 (by decide) (by decide) kC_280 rfl (by decide +kernel) 21 dX4_sign_21 hpf (fun S104 H locs I hm hpf => ?_)
  refine lv_aload_n hx hb dX4_sign_24 rfl (lv_at hl 1 rfl) ?_
  refine lv_aload_n hx hb dX4_sign_25 rfl (lv_at hl 0 rfl) ?_
  refine k_get (k := 0) X I kCl_4 (kO_M g S104 n0 hn0) 4 (by decide) rfl kC_290 26 dX4_sign_26 ?_
  refine lv_iconst (v := (1 : Int32)) hx hb dX4_sign_29 (by decide) ?_
  refine lv_iadd hx hb dX4_sign_30 ?_
  refine k_putU X I 8 (by decide) (by decide) kC_291 rfl (by decide +kernel) 31 dX4_sign_31 hpf (fun S105 H locs I hm hpf => ?_)
  refine lv_aload_n hx hb dX4_sign_34 rfl (lv_at hl 0 rfl) ?_
  refine lv_aload_n hx hb dX4_sign_35 rfl (lv_at hl 1 rfl) ?_
  refine k_cIv (rest := []) (As := [.ref (g.2.2.1 n1)]) (d := 2) ⟨Nat.le_refl _, Nat.le_refl _⟩ X I fn_X4_X4_learn kCl_4 rfl (kO_M g S105 n0 hn0) (c_X4_learn l N n0 hn0 n1) rfl (by decide) 36 dX4_sign_36 rfl hl.1 rfl (Nat.le_of_ble_eq_true rfl) ⟨Nat.le_of_ble_eq_true rfl, Nat.le_of_ble_eq_true rfl⟩ hpf (fun v106 S107 H locs I hm hpf => ?_)
  exact k_retv X I hr 39 dX4_sign_39 hpf
-- ===== X4_talkTo =====
def pX4_talkTo_2 (N : Nat) (n0 : Nat) (n1 : Nat) : Nat → Int32 → kS → Option (Unit × kS)
  | 0 => fun _ _ => none
  | n_2 + 1 => fun x2 S =>
    if (16 : Int32) ≤ x2 then (
      some ((), S))
    else (
      gd x2 16 <|
      gd x2 16 <|
      nm (if (kA S (19 + 2 * n0) x2.toNatClampNeg) < (kA S (19 + 2 * n1) x2.toNatClampNeg) then (kA S (19 + 2 * n1) x2.toNatClampNeg) else (kA S (19 + 2 * n0) x2.toNatClampNeg)) fun y101 =>
      gd x2 16 <| svk (sA S (19 + 2 * n0) x2.toNatClampNeg y101) fun S102 =>
      gd x2 16 <| svk (sA S102 (19 + 2 * n1) x2.toNatClampNeg y101) fun S103 =>
      nm (x2 + (1 : Int32)) fun y104 =>
      pX4_talkTo_2 N n0 n1 n_2 y104 S103)
def pX4_talkTo (N : Nat) (n0 : Nat) (n1 : Nat) (S : kS) : Option (Unit × kS) :=
    pX4_talkTo_2 N n0 n1 N (0 : Int32) S
set_option maxRecDepth 100000 in
set_option maxHeartbeats 4000000 in
theorem c_X4_talkTo (l : Launch) (N : Nat) (n0 : Nat) (hn0 : n0 < 4) (n1 : Nat) (hn1 : n1 < 4) : kMet l yX4_talkTo cX4_talkTo 4 none 1 (fun g => [.ref (g.2.1 (18 + 2 * n0)), .ref (g.2.1 (18 + 2 * n1))]) rU (pX4_talkTo N n0 n1) := by
  refine kStart RX4 (by decide +kernel) rfl (fun g => [(0, .ref (g.2.1 (18 + 2 * n0))), (1, .ref (g.2.1 (18 + 2 * n1)))]) (fun _ => Nat.le_of_ble_eq_true rfl) (fun _ => rfl) ?_
  intro dC dI g sz Si r Sf hpf p e s m args below meth c X hr H locs I ls hl
  have hx := X.1
  have hb := X.2.1
  unfold pX4_talkTo at hpf
  have hC_2 : ∀ (n_2 : Nat), ∀ (x2 : Int32) (S : kS) (H : Heap) (locs : List Loc), kV dC dI g (kAt g (kn Si) (km Si) (kp Si) sz) s Si S H locs → ∀ ls : Array Slot, lv_has ls 4 [(0, .ref (g.2.1 (18 + 2 * n0))), (1, .ref (g.2.1 (18 + 2 * n1))), (2, .int x2)] → pX4_talkTo_2 N n0 n1 n_2 x2 S = some (r, Sf) → W p l e (mRm 1) s m args below meth c H locs 0 0 (MQ below (kQ dC dI g sz Si (rU g r) Sf) args s 0 0 (kAt g (kn Si) (km Si) (kp Si) sz)) (F0 m 2 ls []) := by
    intro n_2
    induction n_2 with
    | zero =>
      intro x2 S H locs I ls hl hpf
      rw [pX4_talkTo_2] at hpf
      cases hpf
    | succ n_2 ih_2 =>
      intro x2 S H locs I ls hl hpf
      rw [pX4_talkTo_2] at hpf
      refine lv_iload_n hx hb dX4_talkTo_2 rfl (lv_at hl 2 rfl) ?_
      refine lv_aload_n hx hb dX4_talkTo_3 rfl (lv_at hl 0 rfl) ?_
      refine k_get (k := 0) X I kCl_4 (kO_M g S n0 hn0) 5 (by decide) rfl kC_274 4 dX4_talkTo_4 ?_
      refine k_lenI X I (kR_told n0 hn0) 7 dX4_talkTo_7 (16 : Int32) (by decide) ?_
      refine b_icmp_ge hx hb 47 8 dX4_talkTo_8 (by decide) hpf (fun hpf => ?_) (fun hpf => ?_)
      · exact k_retv X I hr 47 dX4_talkTo_47 hpf
      refine lv_aload_n hx hb dX4_talkTo_11 rfl (lv_at hl 0 rfl) ?_
      refine k_get (k := 0) X I kCl_4 (kO_M g S n0 hn0) 5 (by decide) rfl kC_274 12 dX4_talkTo_12 ?_
      refine lv_iload_n hx hb dX4_talkTo_15 rfl (lv_at hl 2 rfl) ?_
      refine k_iald X I (kR_told n0 hn0) 16 dX4_talkTo_16 hpf (fun hpf => ?_)
      refine lv_aload_n hx hb dX4_talkTo_17 rfl (lv_at hl 1 rfl) ?_
      refine k_get (k := 0) X I kCl_4 (kO_M g S n1 hn1) 5 (by decide) rfl kC_274 18 dX4_talkTo_18 ?_
      refine lv_iload_n hx hb dX4_talkTo_21 rfl (lv_at hl 2 rfl) ?_
      refine k_iald X I (kR_told n1 hn1) 22 dX4_talkTo_22 hpf (fun hpf => ?_)
      refine k_max (d := 1) ⟨Nat.le_refl _, Nat.le_refl _⟩ (by decide) X hl.1 kC_292 kC_293 kC_32 kC_294 23 dX4_talkTo_23 (Nat.le_of_ble_eq_true rfl) ⟨Nat.le_of_ble_eq_true rfl, Nat.le_of_ble_eq_true rfl⟩ ?_
      refine m_isto_n hx hb (fun y101 => [(3, .int y101), (0, .ref (g.2.1 (18 + 2 * n0))), (1, .ref (g.2.1 (18 + 2 * n1))), (2, .int x2)]) 26 dX4_talkTo_26 rfl hl (by decide) (fun _ => rfl) hpf (fun y101 ls hl hpf => ?_)
      refine lv_aload_n hx hb dX4_talkTo_27 rfl (lv_at hl 1 rfl) ?_
      refine k_get (k := 0) X I kCl_4 (kO_M g S n0 hn0) 5 (by decide) rfl kC_274 28 dX4_talkTo_28 ?_
      refine lv_iload_n hx hb dX4_talkTo_31 rfl (lv_at hl 3 rfl) ?_
      refine lv_iload_n hx hb dX4_talkTo_32 rfl (lv_at hl 0 rfl) ?_
      refine k_iast X I (kR_told n0 hn0) 33 dX4_talkTo_33 hpf (fun S102 H locs I hm hpf => ?_)
      refine lv_aload_n hx hb dX4_talkTo_34 rfl (lv_at hl 2 rfl) ?_
      refine k_get (k := 0) X I kCl_4 (kO_M g S102 n1 hn1) 5 (by decide) rfl kC_274 35 dX4_talkTo_35 ?_
      refine lv_iload_n hx hb dX4_talkTo_38 rfl (lv_at hl 3 rfl) ?_
      refine lv_iload_n hx hb dX4_talkTo_39 rfl (lv_at hl 0 rfl) ?_
      refine k_iast X I (kR_told n1 hn1) 40 dX4_talkTo_40 hpf (fun S103 H locs I hm hpf => ?_)
      refine m_iinc (w := (1 : Int32)) hx hb (fun y104 => [(2, .int y104), (3, .int y101), (0, .ref (g.2.1 (18 + 2 * n0))), (1, .ref (g.2.1 (18 + 2 * n1)))]) 41 dX4_talkTo_41 hl (k := 3) rfl (by decide) (by decide) (fun _ => rfl) hpf (fun y104 ls hl hpf => ?_)
      refine lv_goto (tgt := 2) hx hb dX4_talkTo_44 (by decide) ?_
      exact ih_2 y104 S103 H locs I ls (lv_sub hl [2, 3, 0] rfl) hpf
  refine lv_iconst (v := (0 : Int32)) hx hb dX4_talkTo_0 (by decide) ?_
  refine lv_istore_n (lv' := [(2, .int (0 : Int32)), (0, .ref (g.2.1 (18 + 2 * n0))), (1, .ref (g.2.1 (18 + 2 * n1)))]) hx hb dX4_talkTo_1 rfl hl (by decide) rfl (fun ls hl => ?_)
  exact hC_2 N (0 : Int32) Si H locs I ls (lv_sub hl [1, 2, 0] rfl) hpf
-- ===== X4_marked =====
def pX4_marked (N : Nat) (n0 : Nat) (S : kS) : Option (Int64 × kS) :=
    bk (pX8_deletedOnes N n0 S) fun v101 S102 =>
    some (v101 &&& ((kL S102 n0) ^^^ (-1 : Int64)), S102)
set_option maxRecDepth 100000 in
set_option maxHeartbeats 4000000 in
theorem c_X4_marked (l : Launch) (N : Nat) (n0 : Nat) (hn0 : n0 < 4) : kMet l yX4_marked cX4_marked 1 (some .long) 1 (fun g => [.ref (g.2.1 (18 + 2 * n0))]) rJ (pX4_marked N n0) := by
  refine kStart RX4 (by decide +kernel) rfl (fun g => [(0, .ref (g.2.1 (18 + 2 * n0)))]) (fun _ => Nat.le_of_ble_eq_true rfl) (fun _ => rfl) ?_
  intro dC dI g sz Si r Sf hpf p e s m args below meth c X hr H locs I ls hl
  have hx := X.1
  have hb := X.2.1
  unfold pX4_marked at hpf
  refine lv_aload_n hx hb dX4_marked_0 rfl (lv_at hl 0 rfl) ?_
  refine k_get (k := 0) X I kCl_4 (kO_M g Si n0 hn0) 1 (by decide) rfl kC_276 1 dX4_marked_1 ?_
  refine k_cIl (rest := []) (As := []) (d := 1) ⟨Nat.le_refl _, Nat.le_refl _⟩ X I fn_X4_X8_deletedOnes kCl_8 rfl (kO_T g Si n0 (Nat.lt_succ_of_lt hn0)) (c_X8_deletedOnes l N n0 (Nat.lt_succ_of_lt hn0)) rfl (by decide) 4 dX4_marked_4 rfl hl.1 rfl (Nat.le_of_ble_eq_true rfl) ⟨Nat.le_of_ble_eq_true rfl, Nat.le_of_ble_eq_true rfl⟩ hpf (fun v101 S102 H locs I hm hpf => ?_)
  refine lv_aload_n hx hb dX4_marked_7 rfl (lv_at hl 0 rfl) ?_
  refine k_get (k := 0) X I kCl_4 (kO_M g S102 n0 hn0) 3 (by decide) rfl kC_302 8 dX4_marked_8 ?_
  refine lv_ldc2 (v := (-1 : Int64)) hx hb X.2.2.2.1 (X.2.2.2.2.1 _ kC_303) dX4_marked_11 ?_
  refine lv_lxor hx hb dX4_marked_14 ?_
  refine lv_land hx hb dX4_marked_15 ?_
  exact k_retl X I hr 16 dX4_marked_16 hpf
-- ===== X2_clear =====
def pX2_clear (N : Nat) (S : kS) : Option (Unit × kS) :=
    svk (sI S 6 (0 : Int32)) fun S101 =>
    svk (sI S101 7 (0 : Int32)) fun S102 =>
    some ((), S102)
set_option maxRecDepth 100000 in
set_option maxHeartbeats 4000000 in
theorem c_X2_clear (l : Launch) (N : Nat) : kMet l yX2_clear cX2_clear 1 none 0 (fun g => [.ref (g.2.1 7)]) rU (pX2_clear N) := by
  refine kStart RX2 (by decide +kernel) rfl (fun g => [(0, .ref (g.2.1 7))]) (fun _ => Nat.le_of_ble_eq_true rfl) (fun _ => rfl) ?_
  intro dC dI g sz Si r Sf hpf p e s m args below meth c X hr H locs I ls hl
  have hx := X.1
  have hb := X.2.1
  unfold pX2_clear at hpf
  refine lv_aload_n hx hb dX2_clear_0 rfl (lv_at hl 0 rfl) ?_
  refine lv_iconst (v := (0 : Int32)) hx hb dX2_clear_1 (by decide) ?_
  refine k_put (ty := .int) X I kCl_2 tyX2_ok nmX2 (kO_P g Si) 5 (by decide) (Nat.le_of_ble_eq_true rfl) (kP_P5 g Si _) ⟨rfl, rfl, rfl⟩ kC_91 rfl (by decide +kernel) rfl rfl 2 dX2_clear_2 hpf (fun S101 H locs I hm hpf => ?_)
  refine lv_aload_n hx hb dX2_clear_5 rfl (lv_at hl 0 rfl) ?_
  refine lv_iconst (v := (0 : Int32)) hx hb dX2_clear_6 (by decide) ?_
  refine k_put (ty := .int) X I kCl_2 tyX2_ok nmX2 (kO_P g S101) 6 (by decide) (Nat.le_of_ble_eq_true rfl) (kP_P6 g S101 _) ⟨rfl, rfl, rfl⟩ kC_92 rfl (by decide +kernel) rfl rfl 7 dX2_clear_7 hpf (fun S102 H locs I hm hpf => ?_)
  exact k_retv X I hr 10 dX2_clear_10 hpf
-- ===== X2_put =====
def pX2_put_60 (N : Nat) (S : kS) : Option (Int32 × kS) :=
    some (kI S 7, S)
def pX2_put (N : Nat) (x1 : Int32) (x2 : Int32) (x3 : Int32) (x4 : Int32) (S : kS) : Option (Int32 × kS) :=
    if (15 : Int32) ≤ (kI S 6) then (
      pX2_put_60 N S)
    else (
      gd (kI S 6) 15 <| svk (sA S 8 (kI S 6).toNatClampNeg x1) fun S101 =>
      gd (kI S101 6) 15 <| svk (sA S101 9 (kI S101 6).toNatClampNeg x2) fun S102 =>
      gd (kI S102 6) 15 <| svk (sA S102 10 (kI S102 6).toNatClampNeg x3) fun S103 =>
      svk (sI S103 6 ((kI S103 6) + (1 : Int32))) fun S104 =>
      svk (sI S104 7 ((kI S104 7) + x4)) fun S105 =>
      pX2_put_60 N S105)
set_option maxRecDepth 100000 in
set_option maxHeartbeats 4000000 in
theorem c_X2_put (l : Launch) (N : Nat) (x1 : Int32) (x2 : Int32) (x3 : Int32) (x4 : Int32) : kMet l yX2_put cX2_put 5 (some .int) 0 (fun g => [.ref (g.2.1 7), .int x1, .int x2, .int x3, .int x4]) rI (pX2_put N x1 x2 x3 x4) := by
  refine kStart RX2 (by decide +kernel) rfl (fun g => [(0, .ref (g.2.1 7)), (1, .int x1), (2, .int x2), (3, .int x3), (4, .int x4)]) (fun _ => Nat.le_of_ble_eq_true rfl) (fun _ => rfl) ?_
  intro dC dI g sz Si r Sf hpf p e s m args below meth c X hr H locs I ls hl
  have hx := X.1
  have hb := X.2.1
  unfold pX2_put at hpf
  have hC_60 : ∀ (S : kS) (H : Heap) (locs : List Loc), kV dC dI g (kAt g (kn Si) (km Si) (kp Si) sz) s Si S H locs → ∀ ls : Array Slot, lv_has ls 5 [(0, .ref (g.2.1 7))] → pX2_put_60 N S = some (r, Sf) → W p l e (mRm 0) s m args below meth c H locs 0 0 (MQ below (kQ dC dI g sz Si (rI g r) Sf) args s 0 0 (kAt g (kn Si) (km Si) (kp Si) sz)) (F0 m 60 ls []) := by
    intro S H locs I ls hl hpf
    unfold pX2_put_60 at hpf
    refine lv_aload_n hx hb dX2_put_60 rfl (lv_at hl 0 rfl) ?_
    refine k_get (k := 0) X I kCl_2 (kO_P g S) 6 (by decide) rfl kC_92 61 dX2_put_61 ?_
    exact k_reti X I hr 64 dX2_put_64 hpf
  refine lv_aload_n hx hb dX2_put_0 rfl (lv_at hl 0 rfl) ?_
  refine k_get (k := 0) X I kCl_2 (kO_P g Si) 5 (by decide) rfl kC_91 1 dX2_put_1 ?_
  refine lv_bipush (v := (15 : Int32)) hx hb dX2_put_4 (by decide) ?_
  refine b_icmp_ge hx hb 60 6 dX2_put_6 (by decide) hpf (fun hpf => ?_) (fun hpf => ?_)
  · exact hC_60 Si H locs I ls (lv_sub hl [0] rfl) hpf
  refine lv_aload_n hx hb dX2_put_9 rfl (lv_at hl 0 rfl) ?_
  refine k_get (k := 0) X I kCl_2 (kO_P g Si) 1 (by decide) rfl kC_84 10 dX2_put_10 ?_
  refine lv_aload_n hx hb dX2_put_13 rfl (lv_at hl 0 rfl) ?_
  refine k_get (k := 0) X I kCl_2 (kO_P g Si) 5 (by decide) rfl kC_91 14 dX2_put_14 ?_
  refine lv_iload_n hx hb dX2_put_17 rfl (lv_at hl 1 rfl) ?_
  refine k_iast X I kR_8 18 dX2_put_18 hpf (fun S101 H locs I hm hpf => ?_)
  refine lv_aload_n hx hb dX2_put_19 rfl (lv_at hl 0 rfl) ?_
  refine k_get (k := 0) X I kCl_2 (kO_P g S101) 2 (by decide) rfl kC_85 20 dX2_put_20 ?_
  refine lv_aload_n hx hb dX2_put_23 rfl (lv_at hl 0 rfl) ?_
  refine k_get (k := 0) X I kCl_2 (kO_P g S101) 5 (by decide) rfl kC_91 24 dX2_put_24 ?_
  refine lv_iload_n hx hb dX2_put_27 rfl (lv_at hl 2 rfl) ?_
  refine k_iast X I kR_9 28 dX2_put_28 hpf (fun S102 H locs I hm hpf => ?_)
  refine lv_aload_n hx hb dX2_put_29 rfl (lv_at hl 0 rfl) ?_
  refine k_get (k := 0) X I kCl_2 (kO_P g S102) 3 (by decide) rfl kC_86 30 dX2_put_30 ?_
  refine lv_aload_n hx hb dX2_put_33 rfl (lv_at hl 0 rfl) ?_
  refine k_get (k := 0) X I kCl_2 (kO_P g S102) 5 (by decide) rfl kC_91 34 dX2_put_34 ?_
  refine lv_iload_n hx hb dX2_put_37 rfl (lv_at hl 3 rfl) ?_
  refine k_iast X I kR_10 38 dX2_put_38 hpf (fun S103 H locs I hm hpf => ?_)
  refine lv_aload_n hx hb dX2_put_39 rfl (lv_at hl 0 rfl) ?_
  refine lv_dup hx hb dX2_put_40 rfl ?_
  refine k_get (k := 0) X I kCl_2 (kO_P g S103) 5 (by decide) rfl kC_91 41 dX2_put_41 ?_
  refine lv_iconst (v := (1 : Int32)) hx hb dX2_put_44 (by decide) ?_
  refine lv_iadd hx hb dX2_put_45 ?_
  refine k_put (ty := .int) X I kCl_2 tyX2_ok nmX2 (kO_P g S103) 5 (by decide) (Nat.le_of_ble_eq_true rfl) (kP_P5 g S103 _) ⟨rfl, rfl, rfl⟩ kC_91 rfl (by decide +kernel) rfl rfl 46 dX2_put_46 hpf (fun S104 H locs I hm hpf => ?_)
  refine lv_aload_n hx hb dX2_put_49 rfl (lv_at hl 0 rfl) ?_
  refine lv_dup hx hb dX2_put_50 rfl ?_
  refine k_get (k := 0) X I kCl_2 (kO_P g S104) 6 (by decide) rfl kC_92 51 dX2_put_51 ?_
  refine lv_iload hx hb dX2_put_54 (lv_at hl 4 rfl) ?_
  refine lv_iadd hx hb dX2_put_56 ?_
  refine k_put (ty := .int) X I kCl_2 tyX2_ok nmX2 (kO_P g S104) 6 (by decide) (Nat.le_of_ble_eq_true rfl) (kP_P6 g S104 _) ⟨rfl, rfl, rfl⟩ kC_92 rfl (by decide +kernel) rfl rfl 57 dX2_put_57 hpf (fun S105 H locs I hm hpf => ?_)
  exact hC_60 S105 H locs I ls (lv_sub hl [0] rfl) hpf
-- ===== X2_putRange =====
def pX2_putRange (N : Nat) (x1 : Int32) (x2 : Int32) (x3 : Int32) (S : kS) : Option (Int32 × kS) :=
    bk (pX2_put N (0 : Int32) ((x1 * (1000 : Int32)) + x2) ((x1 * (1000 : Int32)) + x3) (1 : Int32) S) fun v101 S102 =>
    some (v101, S102)
set_option maxRecDepth 100000 in
set_option maxHeartbeats 4000000 in
theorem c_X2_putRange (l : Launch) (N : Nat) (x1 : Int32) (x2 : Int32) (x3 : Int32) : kMet l yX2_putRange cX2_putRange 4 (some .int) 1 (fun g => [.ref (g.2.1 7), .int x1, .int x2, .int x3]) rI (pX2_putRange N x1 x2 x3) := by
  refine kStart RX2 (by decide +kernel) rfl (fun g => [(0, .ref (g.2.1 7)), (1, .int x1), (2, .int x2), (3, .int x3)]) (fun _ => Nat.le_of_ble_eq_true rfl) (fun _ => rfl) ?_
  intro dC dI g sz Si r Sf hpf p e s m args below meth c X hr H locs I ls hl
  have hx := X.1
  have hb := X.2.1
  unfold pX2_putRange at hpf
  refine lv_aload_n hx hb dX2_putRange_0 rfl (lv_at hl 0 rfl) ?_
  refine lv_iconst (v := (0 : Int32)) hx hb dX2_putRange_1 (by decide) ?_
  refine lv_iload_n hx hb dX2_putRange_2 rfl (lv_at hl 1 rfl) ?_
  refine lv_sipush (v := (1000 : Int32)) hx hb dX2_putRange_3 (by decide) ?_
  refine lv_imul hx hb dX2_putRange_6 ?_
  refine lv_iload_n hx hb dX2_putRange_7 rfl (lv_at hl 2 rfl) ?_
  refine lv_iadd hx hb dX2_putRange_8 ?_
  refine lv_iload_n hx hb dX2_putRange_9 rfl (lv_at hl 1 rfl) ?_
  refine lv_sipush (v := (1000 : Int32)) hx hb dX2_putRange_10 (by decide) ?_
  refine lv_imul hx hb dX2_putRange_13 ?_
  refine lv_iload_n hx hb dX2_putRange_14 rfl (lv_at hl 3 rfl) ?_
  refine lv_iadd hx hb dX2_putRange_15 ?_
  refine lv_iconst (v := (1 : Int32)) hx hb dX2_putRange_16 (by decide) ?_
  refine k_cIi (rest := []) (As := [.int (0 : Int32), .int ((x1 * (1000 : Int32)) + x2), .int ((x1 * (1000 : Int32)) + x3), .int (1 : Int32)]) (d := 1) ⟨Nat.le_refl _, Nat.le_refl _⟩ X I fn_X2_X2_put kCl_2 rfl (kO_P g Si) (c_X2_put l N (0 : Int32) ((x1 * (1000 : Int32)) + x2) ((x1 * (1000 : Int32)) + x3) (1 : Int32)) rfl (by decide) 17 dX2_putRange_17 rfl hl.1 rfl (Nat.le_of_ble_eq_true rfl) ⟨Nat.le_of_ble_eq_true rfl, Nat.le_of_ble_eq_true rfl⟩ hpf (fun v101 S102 H locs I hm hpf => ?_)
  exact k_reti X I hr 20 dX2_putRange_20 hpf
-- ===== X2_putClass =====
def pX2_putClass (N : Nat) (x1 : Int32) (S : kS) : Option (Int32 × kS) :=
    bk (pX2_put N (1 : Int32) x1 x1 (1 : Int32) S) fun v101 S102 =>
    some (v101, S102)
set_option maxRecDepth 100000 in
set_option maxHeartbeats 4000000 in
theorem c_X2_putClass (l : Launch) (N : Nat) (x1 : Int32) : kMet l yX2_putClass cX2_putClass 2 (some .int) 1 (fun g => [.ref (g.2.1 7), .int x1]) rI (pX2_putClass N x1) := by
  refine kStart RX2 (by decide +kernel) rfl (fun g => [(0, .ref (g.2.1 7)), (1, .int x1)]) (fun _ => Nat.le_of_ble_eq_true rfl) (fun _ => rfl) ?_
  intro dC dI g sz Si r Sf hpf p e s m args below meth c X hr H locs I ls hl
  have hx := X.1
  have hb := X.2.1
  unfold pX2_putClass at hpf
  refine lv_aload_n hx hb dX2_putClass_0 rfl (lv_at hl 0 rfl) ?_
  refine lv_iconst (v := (1 : Int32)) hx hb dX2_putClass_1 (by decide) ?_
  refine lv_iload_n hx hb dX2_putClass_2 rfl (lv_at hl 1 rfl) ?_
  refine lv_iload_n hx hb dX2_putClass_3 rfl (lv_at hl 1 rfl) ?_
  refine lv_iconst (v := (1 : Int32)) hx hb dX2_putClass_4 (by decide) ?_
  refine k_cIi (rest := []) (As := [.int (1 : Int32), .int x1, .int x1, .int (1 : Int32)]) (d := 1) ⟨Nat.le_refl _, Nat.le_refl _⟩ X I fn_X2_X2_put kCl_2 rfl (kO_P g Si) (c_X2_put l N (1 : Int32) x1 x1 (1 : Int32)) rfl (by decide) 5 dX2_putClass_5 rfl hl.1 rfl (Nat.le_of_ble_eq_true rfl) ⟨Nat.le_of_ble_eq_true rfl, Nat.le_of_ble_eq_true rfl⟩ hpf (fun v101 S102 H locs I hm hpf => ?_)
  exact k_reti X I hr 8 dX2_putClass_8 hpf
-- ===== X2_putCombined =====
def pX2_putCombined_10 (N : Nat) (t0 : Int32) (S : kS) : Option (Int32 × kS) :=
    bk (pX2_put N t0 (0 : Int32) (0 : Int32) (-1 : Int32) S) fun v101 S102 =>
    some (v101, S102)
def pX2_putCombined (N : Nat) (x1 : Int32) (S : kS) : Option (Int32 × kS) :=
    if x1 = (0 : Int32) then (
      pX2_putCombined_10 N (3 : Int32) S)
    else (
      pX2_putCombined_10 N (2 : Int32) S)
set_option maxRecDepth 100000 in
set_option maxHeartbeats 4000000 in
theorem c_X2_putCombined (l : Launch) (N : Nat) (x1 : Int32) : kMet l yX2_putCombined cX2_putCombined 2 (some .int) 1 (fun g => [.ref (g.2.1 7), .int x1]) rI (pX2_putCombined N x1) := by
  refine kStart RX2 (by decide +kernel) rfl (fun g => [(0, .ref (g.2.1 7)), (1, .int x1)]) (fun _ => Nat.le_of_ble_eq_true rfl) (fun _ => rfl) ?_
  intro dC dI g sz Si r Sf hpf p e s m args below meth c X hr H locs I ls hl
  have hx := X.1
  have hb := X.2.1
  unfold pX2_putCombined at hpf
  have hC_10 : ∀ (t0 : Int32) (S : kS) (H : Heap) (locs : List Loc), kV dC dI g (kAt g (kn Si) (km Si) (kp Si) sz) s Si S H locs → ∀ ls : Array Slot, lv_has ls 2 [(0, .ref (g.2.1 7))] → pX2_putCombined_10 N t0 S = some (r, Sf) → W p l e (mRm 1) s m args below meth c H locs 0 0 (MQ below (kQ dC dI g sz Si (rI g r) Sf) args s 0 0 (kAt g (kn Si) (km Si) (kp Si) sz)) (F0 m 10 ls [.int t0, .ref (g.2.1 7)]) := by
    intro t0 S H locs I ls hl hpf
    unfold pX2_putCombined_10 at hpf
    refine lv_iconst (v := (0 : Int32)) hx hb dX2_putCombined_10 (by decide) ?_
    refine lv_iconst (v := (0 : Int32)) hx hb dX2_putCombined_11 (by decide) ?_
    refine lv_iconst (v := (-1 : Int32)) hx hb dX2_putCombined_12 (by decide) ?_
    refine k_cIi (rest := []) (As := [.int t0, .int (0 : Int32), .int (0 : Int32), .int (-1 : Int32)]) (d := 1) ⟨Nat.le_refl _, Nat.le_refl _⟩ X I fn_X2_X2_put kCl_2 rfl (kO_P g S) (c_X2_put l N t0 (0 : Int32) (0 : Int32) (-1 : Int32)) rfl (by decide) 13 dX2_putCombined_13 rfl hl.1 rfl (Nat.le_of_ble_eq_true rfl) ⟨Nat.le_of_ble_eq_true rfl, Nat.le_of_ble_eq_true rfl⟩ hpf (fun v101 S102 H locs I hm hpf => ?_)
    exact k_reti X I hr 16 dX2_putCombined_16 hpf
  refine lv_aload_n hx hb dX2_putCombined_0 rfl (lv_at hl 0 rfl) ?_
  refine lv_iload_n hx hb dX2_putCombined_1 rfl (lv_at hl 1 rfl) ?_
  refine b_if_eq hx hb 9 2 dX2_putCombined_2 (by decide) hpf (fun hpf => ?_) (fun hpf => ?_)
  · refine lv_iconst (v := (3 : Int32)) hx hb dX2_putCombined_9 (by decide) ?_
    exact hC_10 (3 : Int32) Si H locs I ls (lv_sub hl [0] rfl) hpf
  refine lv_iconst (v := (2 : Int32)) hx hb dX2_putCombined_5 (by decide) ?_
  refine lv_goto (tgt := 10) hx hb dX2_putCombined_6 (by decide) ?_
  exact hC_10 (2 : Int32) Si H locs I ls (lv_sub hl [0] rfl) hpf
-- ===== X2_putNot =====
def pX2_putNot (N : Nat) (S : kS) : Option (Int32 × kS) :=
    bk (pX2_put N (4 : Int32) (0 : Int32) (0 : Int32) (0 : Int32) S) fun v101 S102 =>
    some (v101, S102)
set_option maxRecDepth 100000 in
set_option maxHeartbeats 4000000 in
theorem c_X2_putNot (l : Launch) (N : Nat) : kMet l yX2_putNot cX2_putNot 1 (some .int) 1 (fun g => [.ref (g.2.1 7)]) rI (pX2_putNot N) := by
  refine kStart RX2 (by decide +kernel) rfl (fun g => [(0, .ref (g.2.1 7))]) (fun _ => Nat.le_of_ble_eq_true rfl) (fun _ => rfl) ?_
  intro dC dI g sz Si r Sf hpf p e s m args below meth c X hr H locs I ls hl
  have hx := X.1
  have hb := X.2.1
  unfold pX2_putNot at hpf
  refine lv_aload_n hx hb dX2_putNot_0 rfl (lv_at hl 0 rfl) ?_
  refine lv_iconst (v := (4 : Int32)) hx hb dX2_putNot_1 (by decide) ?_
  refine lv_iconst (v := (0 : Int32)) hx hb dX2_putNot_2 (by decide) ?_
  refine lv_iconst (v := (0 : Int32)) hx hb dX2_putNot_3 (by decide) ?_
  refine lv_iconst (v := (0 : Int32)) hx hb dX2_putNot_4 (by decide) ?_
  refine k_cIi (rest := []) (As := [.int (4 : Int32), .int (0 : Int32), .int (0 : Int32), .int (0 : Int32)]) (d := 1) ⟨Nat.le_refl _, Nat.le_refl _⟩ X I fn_X2_X2_put kCl_2 rfl (kO_P g Si) (c_X2_put l N (4 : Int32) (0 : Int32) (0 : Int32) (0 : Int32)) rfl (by decide) 5 dX2_putNot_5 rfl hl.1 rfl (Nat.le_of_ble_eq_true rfl) ⟨Nat.le_of_ble_eq_true rfl, Nat.le_of_ble_eq_true rfl⟩ hpf (fun v101 S102 H locs I hm hpf => ?_)
  exact k_reti X I hr 8 dX2_putNot_8 hpf
-- ===== X2_applies =====
def pX2_applies_176 (N : Nat) (n1 : Nat) (x3 : Int32) (S : kS) : Option (Int32 × kS) :=
    if (x3 &&& (1 : Int32)) = (1 : Int32) then (
      some ((1 : Int32), S))
    else (
      some ((0 : Int32), S))
def pX2_applies_170 (N : Nat) (n1 : Nat) (k_5 : Int32 → Int32 → Int32 → kS → Option (Int32 × kS)) (x2 : Int32) (x3 : Int32) (x4 : Int32) (S : kS) : Option (Int32 × kS) :=
    nm (x4 + (1 : Int32)) fun y101 =>
    k_5 x2 x3 y101 S
def pX2_applies_98 (N : Nat) (n1 : Nat) (k_5 : Int32 → Int32 → Int32 → kS → Option (Int32 × kS)) (t0 : Int32) (t1 : Int32) (x2 : Int32) (x4 : Int32) (S : kS) : Option (Int32 × kS) :=
    nm (t1 ||| t0) fun y101 =>
    pX2_applies_170 N n1 k_5 x2 y101 x4 S
def pX2_applies_83 (N : Nat) (n1 : Nat) (k_5 : Int32 → Int32 → Int32 → kS → Option (Int32 × kS)) (t0 : Int32) (x2 : Int32) (x3 : Int32) (x4 : Int32) (S : kS) : Option (Int32 × kS) :=
    if t0 = (0 : Int32) then (
      pX2_applies_98 N n1 k_5 (0 : Int32) (x3 <<< ((1 : Int32) &&& 31)) x2 x4 S)
    else (
      pX2_applies_98 N n1 k_5 (1 : Int32) (x3 <<< ((1 : Int32) &&& 31)) x2 x4 S)
def pX2_applies_138 (N : Nat) (n1 : Nat) (k_5 : Int32 → Int32 → Int32 → kS → Option (Int32 × kS)) (t0 : Int32) (t1 : Int32) (x2 : Int32) (x4 : Int32) (S : kS) : Option (Int32 × kS) :=
    nm (t1 ||| t0) fun y101 =>
    pX2_applies_170 N n1 k_5 x2 y101 x4 S
def pX2_applies_5 (N : Nat) (n1 : Nat) (k_176 : Int32 → kS → Option (Int32 × kS)) : Nat → Int32 → Int32 → Int32 → kS → Option (Int32 × kS)
  | 0 => fun _ _ _ _ => none
  | n_5 + 1 => fun x2 x3 x4 S =>
    if (kI S 6) ≤ x4 then (
      k_176 x3 S)
    else (
      nm (x3 &&& (1 : Int32)) fun y101 =>
      gd x4 15 <|
      if (kA S 8 x4.toNatClampNeg) = (0 : Int32) then (
        gd x4 15 <|
        gd x4 15 <|
        bk (pX8_valuesBetween N n1 x2 (kA S 9 x4.toNatClampNeg) (kA S 10 x4.toNatClampNeg) S) fun v102 S103 =>
        if v102 ≤ (0 : Int32) then (
          pX2_applies_83 N n1 (pX2_applies_5 N n1 k_176 n_5) (0 : Int32) x2 x3 x4 S103)
        else (
          pX2_applies_83 N n1 (pX2_applies_5 N n1 k_176 n_5) (1 : Int32) x2 x3 x4 S103))
      else if (kA S 8 x4.toNatClampNeg) = (1 : Int32) then (
        gd x2 48 <|
        gd x4 15 <|
        bk (pX7_isOrBeneath N (kA S (26 + 15 * n1 + 2) x2.toNatClampNeg) (kA S 9 x4.toNatClampNeg) S) fun v104 S105 =>
        if v104 = (0 : Int32) then (
          pX2_applies_138 N n1 (pX2_applies_5 N n1 k_176 n_5) (0 : Int32) (x3 <<< ((1 : Int32) &&& 31)) x2 x4 S105)
        else (
          pX2_applies_138 N n1 (pX2_applies_5 N n1 k_176 n_5) (1 : Int32) (x3 <<< ((1 : Int32) &&& 31)) x2 x4 S105))
      else if (kA S 8 x4.toNatClampNeg) = (2 : Int32) then (
        nm ((x3 >>> ((1 : Int32) &&& 31)) &&& ((-2 : Int32) ||| y101)) fun y106 =>
        pX2_applies_170 N n1 (pX2_applies_5 N n1 k_176 n_5) x2 y106 x4 S)
      else if (kA S 8 x4.toNatClampNeg) = (3 : Int32) then (
        nm ((x3 >>> ((1 : Int32) &&& 31)) ||| y101) fun y107 =>
        pX2_applies_170 N n1 (pX2_applies_5 N n1 k_176 n_5) x2 y107 x4 S)
      else (
        nm (x3 ^^^ (1 : Int32)) fun y108 =>
        pX2_applies_170 N n1 (pX2_applies_5 N n1 k_176 n_5) x2 y108 x4 S))
def pX2_applies (N : Nat) (n1 : Nat) (x2 : Int32) (S : kS) : Option (Int32 × kS) :=
    pX2_applies_5 N n1 (pX2_applies_176 N n1) N x2 (0 : Int32) (0 : Int32) S
set_option maxRecDepth 100000 in
set_option maxHeartbeats 4000000 in
theorem c_X2_applies (l : Launch) (N : Nat) (n1 : Nat) (hn1 : n1 < 5) (x2 : Int32) : kMet l yX2_applies cX2_applies 8 (some .boolean) 3 (fun g => [.ref (g.2.1 7), .ref (g.2.1 (26 + 15 * n1)), .int x2]) rI (pX2_applies N n1 x2) := by
  refine kStart RX2 (by decide +kernel) rfl (fun g => [(0, .ref (g.2.1 7)), (1, .ref (g.2.1 (26 + 15 * n1))), (2, .int x2)]) (fun _ => Nat.le_of_ble_eq_true rfl) (fun _ => rfl) ?_
  intro dC dI g sz Si r Sf hpf p e s m args below meth c X hr H locs I ls hl
  have hx := X.1
  have hb := X.2.1
  unfold pX2_applies at hpf
  have hC_176 : ∀ (x3 : Int32) (S : kS) (H : Heap) (locs : List Loc), kV dC dI g (kAt g (kn Si) (km Si) (kp Si) sz) s Si S H locs → ∀ ls : Array Slot, lv_has ls 8 [(0, .ref (g.2.1 7)), (3, .int x3)] → pX2_applies_176 N n1 x3 S = some (r, Sf) → W p l e (mRm 3) s m args below meth c H locs 0 0 (MQ below (kQ dC dI g sz Si (rI g r) Sf) args s 0 0 (kAt g (kn Si) (km Si) (kp Si) sz)) (F0 m 176 ls []) := by
    intro x3 S H locs I ls hl hpf
    unfold pX2_applies_176 at hpf
    refine lv_iload_n hx hb dX2_applies_176 rfl (lv_at hl 1 rfl) ?_
    refine lv_iconst (v := (1 : Int32)) hx hb dX2_applies_177 (by decide) ?_
    refine lv_iand hx hb dX2_applies_178 ?_
    refine lv_iconst (v := (1 : Int32)) hx hb dX2_applies_179 (by decide) ?_
    refine b_icmp_ne hx hb 187 180 dX2_applies_180 (by decide) hpf (fun hpf => ?_) (fun hpf => ?_)
    · refine lv_iconst (v := (0 : Int32)) hx hb dX2_applies_187 (by decide) ?_
      exact k_retzc X I hr 188 dX2_applies_188 (by decide) hpf
    refine lv_iconst (v := (1 : Int32)) hx hb dX2_applies_183 (by decide) ?_
    refine lv_goto (tgt := 188) hx hb dX2_applies_184 (by decide) ?_
    exact k_retzc X I hr 188 dX2_applies_188 (by decide) hpf
  have hC_5 : ∀ (n_5 : Nat), ∀ (x2 : Int32) (x3 : Int32) (x4 : Int32) (S : kS) (H : Heap) (locs : List Loc), kV dC dI g (kAt g (kn Si) (km Si) (kp Si) sz) s Si S H locs → ∀ ls : Array Slot, lv_has ls 8 [(0, .ref (g.2.1 7)), (1, .ref (g.2.1 (26 + 15 * n1))), (2, .int x2), (3, .int x3), (4, .int x4)] → pX2_applies_5 N n1 (pX2_applies_176 N n1) n_5 x2 x3 x4 S = some (r, Sf) → W p l e (mRm 3) s m args below meth c H locs 0 0 (MQ below (kQ dC dI g sz Si (rI g r) Sf) args s 0 0 (kAt g (kn Si) (km Si) (kp Si) sz)) (F0 m 5 ls []) := by
    intro n_5
    induction n_5 with
    | zero =>
      intro x2 x3 x4 S H locs I ls hl hpf
      rw [pX2_applies_5] at hpf
      cases hpf
    | succ n_5 ih_5 =>
      have hC_170 : ∀ (x2 : Int32) (x3 : Int32) (x4 : Int32) (S : kS) (H : Heap) (locs : List Loc), kV dC dI g (kAt g (kn Si) (km Si) (kp Si) sz) s Si S H locs → ∀ ls : Array Slot, lv_has ls 8 [(0, .ref (g.2.1 7)), (1, .ref (g.2.1 (26 + 15 * n1))), (2, .int x2), (3, .int x3), (4, .int x4)] → pX2_applies_170 N n1 (pX2_applies_5 N n1 (pX2_applies_176 N n1) n_5) x2 x3 x4 S = some (r, Sf) → W p l e (mRm 3) s m args below meth c H locs 0 0 (MQ below (kQ dC dI g sz Si (rI g r) Sf) args s 0 0 (kAt g (kn Si) (km Si) (kp Si) sz)) (F0 m 170 ls []) := by
        intro x2 x3 x4 S H locs I ls hl hpf
        unfold pX2_applies_170 at hpf
        refine m_iinc (w := (1 : Int32)) hx hb (fun y101 => [(4, .int y101), (0, .ref (g.2.1 7)), (1, .ref (g.2.1 (26 + 15 * n1))), (2, .int x2), (3, .int x3)]) 170 dX2_applies_170 hl (k := 4) rfl (by decide) (by decide) (fun _ => rfl) hpf (fun y101 ls hl hpf => ?_)
        refine lv_goto (tgt := 5) hx hb dX2_applies_173 (by decide) ?_
        exact ih_5 x2 x3 y101 S H locs I ls (lv_sub hl [1, 2, 3, 4, 0] rfl) hpf
      have hC_98 : ∀ (t0 : Int32) (t1 : Int32) (x2 : Int32) (x4 : Int32) (S : kS) (H : Heap) (locs : List Loc), kV dC dI g (kAt g (kn Si) (km Si) (kp Si) sz) s Si S H locs → ∀ ls : Array Slot, lv_has ls 8 [(0, .ref (g.2.1 7)), (1, .ref (g.2.1 (26 + 15 * n1))), (2, .int x2), (4, .int x4)] → pX2_applies_98 N n1 (pX2_applies_5 N n1 (pX2_applies_176 N n1) n_5) t0 t1 x2 x4 S = some (r, Sf) → W p l e (mRm 3) s m args below meth c H locs 0 0 (MQ below (kQ dC dI g sz Si (rI g r) Sf) args s 0 0 (kAt g (kn Si) (km Si) (kp Si) sz)) (F0 m 98 ls [.int t0, .int t1]) := by
        intro t0 t1 x2 x4 S H locs I ls hl hpf
        unfold pX2_applies_98 at hpf
        refine lv_ior hx hb dX2_applies_98 ?_
        refine m_isto_n hx hb (fun y101 => [(3, .int y101), (0, .ref (g.2.1 7)), (1, .ref (g.2.1 (26 + 15 * n1))), (2, .int x2), (4, .int x4)]) 99 dX2_applies_99 rfl hl (by decide) (fun _ => rfl) hpf (fun y101 ls hl hpf => ?_)
        refine lv_goto (tgt := 170) hx hb dX2_applies_100 (by decide) ?_
        exact hC_170 x2 y101 x4 S H locs I ls (lv_sub hl [1, 2, 3, 0, 4] rfl) hpf
      have hC_83 : ∀ (t0 : Int32) (x2 : Int32) (x3 : Int32) (x4 : Int32) (S : kS) (H : Heap) (locs : List Loc), kV dC dI g (kAt g (kn Si) (km Si) (kp Si) sz) s Si S H locs → ∀ ls : Array Slot, lv_has ls 8 [(0, .ref (g.2.1 7)), (1, .ref (g.2.1 (26 + 15 * n1))), (2, .int x2), (3, .int x3), (4, .int x4)] → pX2_applies_83 N n1 (pX2_applies_5 N n1 (pX2_applies_176 N n1) n_5) t0 x2 x3 x4 S = some (r, Sf) → W p l e (mRm 3) s m args below meth c H locs 0 0 (MQ below (kQ dC dI g sz Si (rI g r) Sf) args s 0 0 (kAt g (kn Si) (km Si) (kp Si) sz)) (F0 m 83 ls [.int t0]) := by
        intro t0 x2 x3 x4 S H locs I ls hl hpf
        unfold pX2_applies_83 at hpf
        refine lv_istore (lv' := [(6, .int t0), (0, .ref (g.2.1 7)), (1, .ref (g.2.1 (26 + 15 * n1))), (2, .int x2), (3, .int x3), (4, .int x4)]) hx hb dX2_applies_83 hl (by decide) rfl (fun ls hl => ?_)
        refine lv_iload_n hx hb dX2_applies_85 rfl (lv_at hl 4 rfl) ?_
        refine lv_iconst (v := (1 : Int32)) hx hb dX2_applies_86 (by decide) ?_
        refine lv_ishl hx hb dX2_applies_87 ?_
        refine lv_iload hx hb dX2_applies_88 (lv_at hl 0 rfl) ?_
        refine b_if_eq hx hb 97 90 dX2_applies_90 (by decide) hpf (fun hpf => ?_) (fun hpf => ?_)
        · refine lv_iconst (v := (0 : Int32)) hx hb dX2_applies_97 (by decide) ?_
          exact hC_98 (0 : Int32) (x3 <<< ((1 : Int32) &&& 31)) x2 x4 S H locs I ls (lv_sub hl [1, 2, 3, 5] rfl) hpf
        refine lv_iconst (v := (1 : Int32)) hx hb dX2_applies_93 (by decide) ?_
        refine lv_goto (tgt := 98) hx hb dX2_applies_94 (by decide) ?_
        exact hC_98 (1 : Int32) (x3 <<< ((1 : Int32) &&& 31)) x2 x4 S H locs I ls (lv_sub hl [1, 2, 3, 5] rfl) hpf
      have hC_138 : ∀ (t0 : Int32) (t1 : Int32) (x2 : Int32) (x4 : Int32) (S : kS) (H : Heap) (locs : List Loc), kV dC dI g (kAt g (kn Si) (km Si) (kp Si) sz) s Si S H locs → ∀ ls : Array Slot, lv_has ls 8 [(0, .ref (g.2.1 7)), (1, .ref (g.2.1 (26 + 15 * n1))), (2, .int x2), (4, .int x4)] → pX2_applies_138 N n1 (pX2_applies_5 N n1 (pX2_applies_176 N n1) n_5) t0 t1 x2 x4 S = some (r, Sf) → W p l e (mRm 3) s m args below meth c H locs 0 0 (MQ below (kQ dC dI g sz Si (rI g r) Sf) args s 0 0 (kAt g (kn Si) (km Si) (kp Si) sz)) (F0 m 138 ls [.int t0, .int t1]) := by
        intro t0 t1 x2 x4 S H locs I ls hl hpf
        unfold pX2_applies_138 at hpf
        refine lv_ior hx hb dX2_applies_138 ?_
        refine m_isto_n hx hb (fun y101 => [(3, .int y101), (0, .ref (g.2.1 7)), (1, .ref (g.2.1 (26 + 15 * n1))), (2, .int x2), (4, .int x4)]) 139 dX2_applies_139 rfl hl (by decide) (fun _ => rfl) hpf (fun y101 ls hl hpf => ?_)
        refine lv_goto (tgt := 170) hx hb dX2_applies_140 (by decide) ?_
        exact hC_170 x2 y101 x4 S H locs I ls (lv_sub hl [1, 2, 3, 0, 4] rfl) hpf
      intro x2 x3 x4 S H locs I ls hl hpf
      rw [pX2_applies_5] at hpf
      refine lv_iload hx hb dX2_applies_5 (lv_at hl 4 rfl) ?_
      refine lv_aload_n hx hb dX2_applies_7 rfl (lv_at hl 0 rfl) ?_
      refine k_get (k := 0) X I kCl_2 (kO_P g S) 5 (by decide) rfl kC_91 8 dX2_applies_8 ?_
      refine b_icmp_ge hx hb 176 11 dX2_applies_11 (by decide) hpf (fun hpf => ?_) (fun hpf => ?_)
      · exact hC_176 x3 S H locs I ls (lv_sub hl [0, 3] rfl) hpf
      refine lv_iload_n hx hb dX2_applies_14 rfl (lv_at hl 3 rfl) ?_
      refine lv_iconst (v := (1 : Int32)) hx hb dX2_applies_15 (by decide) ?_
      refine lv_iand hx hb dX2_applies_16 ?_
      refine m_isto hx hb (fun y101 => [(5, .int y101), (0, .ref (g.2.1 7)), (1, .ref (g.2.1 (26 + 15 * n1))), (2, .int x2), (3, .int x3), (4, .int x4)]) 17 dX2_applies_17 hl (by decide) (fun _ => rfl) hpf (fun y101 ls hl hpf => ?_)
      refine lv_aload_n hx hb dX2_applies_19 rfl (lv_at hl 1 rfl) ?_
      refine k_get (k := 0) X I kCl_2 (kO_P g S) 1 (by decide) rfl kC_84 20 dX2_applies_20 ?_
      refine lv_iload hx hb dX2_applies_23 (lv_at hl 5 rfl) ?_
      refine k_iald X I kR_8 25 dX2_applies_25 hpf (fun hpf => ?_)
      by_cases q0_ : (kA S 8 x4.toNatClampNeg) = (0 : Int32)
      · rw [if_pos q0_] at hpf
        refine lv_tableIn (tgt := 56) (off := 30) hx hb dX2_applies_26 (by rw [q0_]; decide) (by rw [q0_]; decide) (by rw [q0_]; rfl) (by decide) ?_
        refine lv_aload_n hx hb dX2_applies_56 rfl (lv_at hl 2 rfl) ?_
        refine lv_iload_n hx hb dX2_applies_57 rfl (lv_at hl 3 rfl) ?_
        refine lv_aload_n hx hb dX2_applies_58 rfl (lv_at hl 1 rfl) ?_
        refine k_get (k := 0) X I kCl_2 (kO_P g S) 2 (by decide) rfl kC_85 59 dX2_applies_59 ?_
        refine lv_iload hx hb dX2_applies_62 (lv_at hl 5 rfl) ?_
        refine k_iald X I kR_9 64 dX2_applies_64 hpf (fun hpf => ?_)
        refine lv_aload_n hx hb dX2_applies_65 rfl (lv_at hl 1 rfl) ?_
        refine k_get (k := 0) X I kCl_2 (kO_P g S) 3 (by decide) rfl kC_86 66 dX2_applies_66 ?_
        refine lv_iload hx hb dX2_applies_69 (lv_at hl 5 rfl) ?_
        refine k_iald X I kR_10 71 dX2_applies_71 hpf (fun hpf => ?_)
        refine k_cIi (rest := []) (As := [.int x2, .int (kA S 9 x4.toNatClampNeg), .int (kA S 10 x4.toNatClampNeg)]) (d := 3) ⟨Nat.le_refl _, Nat.le_refl _⟩ X I fn_X2_X8_valuesBetween kCl_8 rfl (kO_T g S n1 hn1) (c_X8_valuesBetween l N n1 hn1 x2 (kA S 9 x4.toNatClampNeg) (kA S 10 x4.toNatClampNeg)) rfl (by decide) 72 dX2_applies_72 rfl hl.1 rfl (Nat.le_of_ble_eq_true rfl) ⟨Nat.le_of_ble_eq_true rfl, Nat.le_of_ble_eq_true rfl⟩ hpf (fun v102 S103 H locs I hm hpf => ?_)
        refine b_if_le hx hb 82 75 dX2_applies_75 (by decide) hpf (fun hpf => ?_) (fun hpf => ?_)
        · refine lv_iconst (v := (0 : Int32)) hx hb dX2_applies_82 (by decide) ?_
          exact hC_83 (0 : Int32) x2 x3 x4 S103 H locs I ls (lv_sub hl [1, 2, 3, 4, 5] rfl) hpf
        refine lv_iconst (v := (1 : Int32)) hx hb dX2_applies_78 (by decide) ?_
        refine lv_goto (tgt := 83) hx hb dX2_applies_79 (by decide) ?_
        exact hC_83 (1 : Int32) x2 x3 x4 S103 H locs I ls (lv_sub hl [1, 2, 3, 4, 5] rfl) hpf
      rw [if_neg q0_] at hpf
      by_cases q1_ : (kA S 8 x4.toNatClampNeg) = (1 : Int32)
      · rw [if_pos q1_] at hpf
        refine lv_tableIn (tgt := 103) (off := 77) hx hb dX2_applies_26 (by rw [q1_]; decide) (by rw [q1_]; decide) (by rw [q1_]; rfl) (by decide) ?_
        refine lv_aload_n hx hb dX2_applies_103 rfl (lv_at hl 1 rfl) ?_
        refine k_get (k := 0) X I kCl_2 (kO_P g S) 0 (by decide) rfl kC_89 104 dX2_applies_104 ?_
        refine lv_aload_n hx hb dX2_applies_107 rfl (lv_at hl 2 rfl) ?_
        refine k_get (k := 0) X I kCl_8 (kO_T g S n1 hn1) 1 (by decide) rfl kC_117 108 dX2_applies_108 ?_
        refine lv_iload_n hx hb dX2_applies_111 rfl (lv_at hl 3 rfl) ?_
        refine k_iald X I (kR_T2 n1 hn1) 112 dX2_applies_112 hpf (fun hpf => ?_)
        refine lv_aload_n hx hb dX2_applies_113 rfl (lv_at hl 1 rfl) ?_
        refine k_get (k := 0) X I kCl_2 (kO_P g S) 2 (by decide) rfl kC_85 114 dX2_applies_114 ?_
        refine lv_iload hx hb dX2_applies_117 (lv_at hl 5 rfl) ?_
        refine k_iald X I kR_9 119 dX2_applies_119 hpf (fun hpf => ?_)
        refine k_cIi (rest := []) (As := [.int (kA S (26 + 15 * n1 + 2) x2.toNatClampNeg), .int (kA S 9 x4.toNatClampNeg)]) (d := 3) ⟨Nat.le_refl _, Nat.le_refl _⟩ X I fn_X2_X7_isOrBeneath kCl_7 rfl (kO_H g S) (c_X7_isOrBeneath l N (kA S (26 + 15 * n1 + 2) x2.toNatClampNeg) (kA S 9 x4.toNatClampNeg)) rfl (by decide) 120 dX2_applies_120 rfl hl.1 rfl (Nat.le_of_ble_eq_true rfl) ⟨Nat.le_of_ble_eq_true rfl, Nat.le_of_ble_eq_true rfl⟩ hpf (fun v104 S105 H locs I hm hpf => ?_)
        refine lv_istore (lv' := [(7, .int v104), (5, .int y101), (0, .ref (g.2.1 7)), (1, .ref (g.2.1 (26 + 15 * n1))), (2, .int x2), (3, .int x3), (4, .int x4)]) hx hb dX2_applies_123 hl (by decide) rfl (fun ls hl => ?_)
        refine lv_iload_n hx hb dX2_applies_125 rfl (lv_at hl 5 rfl) ?_
        refine lv_iconst (v := (1 : Int32)) hx hb dX2_applies_126 (by decide) ?_
        refine lv_ishl hx hb dX2_applies_127 ?_
        refine lv_iload hx hb dX2_applies_128 (lv_at hl 0 rfl) ?_
        refine b_if_eq hx hb 137 130 dX2_applies_130 (by decide) hpf (fun hpf => ?_) (fun hpf => ?_)
        · refine lv_iconst (v := (0 : Int32)) hx hb dX2_applies_137 (by decide) ?_
          exact hC_138 (0 : Int32) (x3 <<< ((1 : Int32) &&& 31)) x2 x4 S105 H locs I ls (lv_sub hl [2, 3, 4, 6] rfl) hpf
        refine lv_iconst (v := (1 : Int32)) hx hb dX2_applies_133 (by decide) ?_
        refine lv_goto (tgt := 138) hx hb dX2_applies_134 (by decide) ?_
        exact hC_138 (1 : Int32) (x3 <<< ((1 : Int32) &&& 31)) x2 x4 S105 H locs I ls (lv_sub hl [2, 3, 4, 6] rfl) hpf
      rw [if_neg q1_] at hpf
      by_cases q2_ : (kA S 8 x4.toNatClampNeg) = (2 : Int32)
      · rw [if_pos q2_] at hpf
        refine lv_tableIn (tgt := 143) (off := 117) hx hb dX2_applies_26 (by rw [q2_]; decide) (by rw [q2_]; decide) (by rw [q2_]; rfl) (by decide) ?_
        refine lv_iload_n hx hb dX2_applies_143 rfl (lv_at hl 4 rfl) ?_
        refine lv_iconst (v := (1 : Int32)) hx hb dX2_applies_144 (by decide) ?_
        refine lv_ishr hx hb dX2_applies_145 ?_
        refine lv_bipush (v := (-2 : Int32)) hx hb dX2_applies_146 (by decide) ?_
        refine lv_iload hx hb dX2_applies_148 (lv_at hl 0 rfl) ?_
        refine lv_ior hx hb dX2_applies_150 ?_
        refine lv_iand hx hb dX2_applies_151 ?_
        refine m_isto_n hx hb (fun y106 => [(3, .int y106), (5, .int y101), (0, .ref (g.2.1 7)), (1, .ref (g.2.1 (26 + 15 * n1))), (2, .int x2), (4, .int x4)]) 152 dX2_applies_152 rfl hl (by decide) (fun _ => rfl) hpf (fun y106 ls hl hpf => ?_)
        refine lv_goto (tgt := 170) hx hb dX2_applies_153 (by decide) ?_
        exact hC_170 x2 y106 x4 S H locs I ls (lv_sub hl [2, 3, 4, 0, 5] rfl) hpf
      rw [if_neg q2_] at hpf
      by_cases q3_ : (kA S 8 x4.toNatClampNeg) = (3 : Int32)
      · rw [if_pos q3_] at hpf
        refine lv_tableIn (tgt := 156) (off := 130) hx hb dX2_applies_26 (by rw [q3_]; decide) (by rw [q3_]; decide) (by rw [q3_]; rfl) (by decide) ?_
        refine lv_iload_n hx hb dX2_applies_156 rfl (lv_at hl 4 rfl) ?_
        refine lv_iconst (v := (1 : Int32)) hx hb dX2_applies_157 (by decide) ?_
        refine lv_ishr hx hb dX2_applies_158 ?_
        refine lv_iload hx hb dX2_applies_159 (lv_at hl 0 rfl) ?_
        refine lv_ior hx hb dX2_applies_161 ?_
        refine m_isto_n hx hb (fun y107 => [(3, .int y107), (5, .int y101), (0, .ref (g.2.1 7)), (1, .ref (g.2.1 (26 + 15 * n1))), (2, .int x2), (4, .int x4)]) 162 dX2_applies_162 rfl hl (by decide) (fun _ => rfl) hpf (fun y107 ls hl hpf => ?_)
        refine lv_goto (tgt := 170) hx hb dX2_applies_163 (by decide) ?_
        exact hC_170 x2 y107 x4 S H locs I ls (lv_sub hl [2, 3, 4, 0, 5] rfl) hpf
      rw [if_neg q3_] at hpf
      have hsw : ¬ (kA S 8 x4.toNatClampNeg).toInt = 0 ∧ ¬ (kA S 8 x4.toNatClampNeg).toInt = 1 ∧ ¬ (kA S 8 x4.toNatClampNeg).toInt = 2 ∧ ¬ (kA S 8 x4.toNatClampNeg).toInt = 3 := ⟨lv_neT q0_ (a := 0) rfl, lv_neT q1_ (a := 1) rfl, lv_neT q2_ (a := 2) rfl, lv_neT q3_ (a := 3) rfl⟩
      refine lv_tableOut (tgt := 166) hx hb dX2_applies_26 (by omega) (by decide) ?_
      refine lv_iload_n hx hb dX2_applies_166 rfl (lv_at hl 4 rfl) ?_
      refine lv_iconst (v := (1 : Int32)) hx hb dX2_applies_167 (by decide) ?_
      refine lv_ixor hx hb dX2_applies_168 ?_
      refine m_isto_n hx hb (fun y108 => [(3, .int y108), (5, .int y101), (0, .ref (g.2.1 7)), (1, .ref (g.2.1 (26 + 15 * n1))), (2, .int x2), (4, .int x4)]) 169 dX2_applies_169 rfl hl (by decide) (fun _ => rfl) hpf (fun y108 ls hl hpf => ?_)
      exact hC_170 x2 y108 x4 S H locs I ls (lv_sub hl [2, 3, 4, 0, 5] rfl) hpf
  refine lv_iconst (v := (0 : Int32)) hx hb dX2_applies_0 (by decide) ?_
  refine lv_istore_n (lv' := [(3, .int (0 : Int32)), (0, .ref (g.2.1 7)), (1, .ref (g.2.1 (26 + 15 * n1))), (2, .int x2)]) hx hb dX2_applies_1 rfl hl (by decide) rfl (fun ls hl => ?_)
  refine lv_iconst (v := (0 : Int32)) hx hb dX2_applies_2 (by decide) ?_
  refine lv_istore (lv' := [(4, .int (0 : Int32)), (3, .int (0 : Int32)), (0, .ref (g.2.1 7)), (1, .ref (g.2.1 (26 + 15 * n1))), (2, .int x2)]) hx hb dX2_applies_3 hl (by decide) rfl (fun ls hl => ?_)
  exact hC_5 N x2 (0 : Int32) (0 : Int32) Si H locs I ls (lv_sub hl [2, 3, 4, 1, 0] rfl) hpf
-- ===== X2_setOf =====
def pX2_setOf_77 (N : Nat) (n1 : Nat) (k_31 : Int32 → Int64 → Int32 → kS → Option (Int64 × kS)) (x2 : Int32) (w3 : Int64) (x5 : Int32) (S : kS) : Option (Int64 × kS) :=
    nm (x5 + (1 : Int32)) fun y101 =>
    k_31 x2 w3 y101 S
def pX2_setOf_31 (N : Nat) (n1 : Nat) : Nat → Int32 → Int64 → Int32 → kS → Option (Int64 × kS)
  | 0 => fun _ _ _ _ => none
  | n_31 + 1 => fun x2 w3 x5 S =>
    if (48 : Int32) ≤ x5 then (
      some (w3, S))
    else (
      bk (pX8_isLive N n1 x5 S) fun v101 S102 =>
      if v101 = (0 : Int32) then (
        pX2_setOf_77 N n1 (pX2_setOf_31 N n1 n_31) x2 w3 x5 S102)
      else (
        gd x5 48 <|
        gd x2 15 <|
        bk (pX7_isOrBeneath N (kA S102 (26 + 15 * n1 + 2) x5.toNatClampNeg) (kA S102 9 x2.toNatClampNeg) S102) fun v103 S104 =>
        if v103 = (0 : Int32) then (
          pX2_setOf_77 N n1 (pX2_setOf_31 N n1 n_31) x2 w3 x5 S104)
        else (
          nml (w3 ||| ((1 : Int64) <<< (x5.toInt64 &&& 63))) fun y105 =>
          pX2_setOf_77 N n1 (pX2_setOf_31 N n1 n_31) x2 y105 x5 S104)))
def pX2_setOf (N : Nat) (n1 : Nat) (x2 : Int32) (S : kS) : Option (Int64 × kS) :=
    gd x2 15 <|
    if (kA S 8 x2.toNatClampNeg) = (0 : Int32) then (
      gd x2 15 <|
      gd x2 15 <|
      bk (pX8_holdersBetween N n1 (kA S 9 x2.toNatClampNeg) (kA S 10 x2.toNatClampNeg) S) fun v101 S102 =>
      some (v101, S102))
    else (
      pX2_setOf_31 N n1 N x2 (0 : Int64) (0 : Int32) S)
set_option maxRecDepth 100000 in
set_option maxHeartbeats 4000000 in
theorem c_X2_setOf (l : Launch) (N : Nat) (n1 : Nat) (hn1 : n1 < 5) (x2 : Int32) : kMet l yX2_setOf cX2_setOf 6 (some .long) 2 (fun g => [.ref (g.2.1 7), .ref (g.2.1 (26 + 15 * n1)), .int x2]) rJ (pX2_setOf N n1 x2) := by
  refine kStart RX2 (by decide +kernel) rfl (fun g => [(0, .ref (g.2.1 7)), (1, .ref (g.2.1 (26 + 15 * n1))), (2, .int x2)]) (fun _ => Nat.le_of_ble_eq_true rfl) (fun _ => rfl) ?_
  intro dC dI g sz Si r Sf hpf p e s m args below meth c X hr H locs I ls hl
  have hx := X.1
  have hb := X.2.1
  unfold pX2_setOf at hpf
  have hC_31 : ∀ (n_31 : Nat), ∀ (x2 : Int32) (w3 : Int64) (x5 : Int32) (S : kS) (H : Heap) (locs : List Loc), kV dC dI g (kAt g (kn Si) (km Si) (kp Si) sz) s Si S H locs → ∀ ls : Array Slot, lv_has ls 6 [(0, .ref (g.2.1 7)), (1, .ref (g.2.1 (26 + 15 * n1))), (2, .int x2), (3, .long w3), (5, .int x5)] → pX2_setOf_31 N n1 n_31 x2 w3 x5 S = some (r, Sf) → W p l e (mRm 2) s m args below meth c H locs 0 0 (MQ below (kQ dC dI g sz Si (rJ g r) Sf) args s 0 0 (kAt g (kn Si) (km Si) (kp Si) sz)) (F0 m 31 ls []) := by
    intro n_31
    induction n_31 with
    | zero =>
      intro x2 w3 x5 S H locs I ls hl hpf
      rw [pX2_setOf_31] at hpf
      cases hpf
    | succ n_31 ih_31 =>
      have hC_77 : ∀ (x2 : Int32) (w3 : Int64) (x5 : Int32) (S : kS) (H : Heap) (locs : List Loc), kV dC dI g (kAt g (kn Si) (km Si) (kp Si) sz) s Si S H locs → ∀ ls : Array Slot, lv_has ls 6 [(0, .ref (g.2.1 7)), (1, .ref (g.2.1 (26 + 15 * n1))), (2, .int x2), (3, .long w3), (5, .int x5)] → pX2_setOf_77 N n1 (pX2_setOf_31 N n1 n_31) x2 w3 x5 S = some (r, Sf) → W p l e (mRm 2) s m args below meth c H locs 0 0 (MQ below (kQ dC dI g sz Si (rJ g r) Sf) args s 0 0 (kAt g (kn Si) (km Si) (kp Si) sz)) (F0 m 77 ls []) := by
        intro x2 w3 x5 S H locs I ls hl hpf
        unfold pX2_setOf_77 at hpf
        refine m_iinc (w := (1 : Int32)) hx hb (fun y101 => [(5, .int y101), (0, .ref (g.2.1 7)), (1, .ref (g.2.1 (26 + 15 * n1))), (2, .int x2), (3, .long w3)]) 77 dX2_setOf_77 hl (k := 4) rfl (by decide) (by decide) (fun _ => rfl) hpf (fun y101 ls hl hpf => ?_)
        refine lv_goto (tgt := 31) hx hb dX2_setOf_80 (by decide) ?_
        exact ih_31 x2 w3 y101 S H locs I ls (lv_sub hl [1, 2, 3, 4, 0] rfl) hpf
      intro x2 w3 x5 S H locs I ls hl hpf
      rw [pX2_setOf_31] at hpf
      refine lv_iload hx hb dX2_setOf_31 (lv_at hl 4 rfl) ?_
      refine lv_bipush (v := (48 : Int32)) hx hb dX2_setOf_33 (by decide) ?_
      refine b_icmp_ge hx hb 83 35 dX2_setOf_35 (by decide) hpf (fun hpf => ?_) (fun hpf => ?_)
      · refine lv_lload_n hx hb dX2_setOf_83 rfl (lv_at hl 3 rfl) ?_
        exact k_retl X I hr 84 dX2_setOf_84 hpf
      refine lv_aload_n hx hb dX2_setOf_38 rfl (lv_at hl 1 rfl) ?_
      refine lv_iload hx hb dX2_setOf_39 (lv_at hl 4 rfl) ?_
      refine k_cIi (rest := []) (As := [.int x5]) (d := 2) ⟨Nat.le_refl _, Nat.le_refl _⟩ X I fn_X2_X8_isLive kCl_8 rfl (kO_T g S n1 hn1) (c_X8_isLive l N n1 hn1 x5) rfl (by decide) 41 dX2_setOf_41 rfl hl.1 rfl (Nat.le_of_ble_eq_true rfl) ⟨Nat.le_of_ble_eq_true rfl, Nat.le_of_ble_eq_true rfl⟩ hpf (fun v101 S102 H locs I hm hpf => ?_)
      refine b_if_eq hx hb 77 44 dX2_setOf_44 (by decide) hpf (fun hpf => ?_) (fun hpf => ?_)
      · exact hC_77 x2 w3 x5 S102 H locs I ls (lv_sub hl [0, 1, 2, 3, 4] rfl) hpf
      refine lv_aload_n hx hb dX2_setOf_47 rfl (lv_at hl 0 rfl) ?_
      refine k_get (k := 0) X I kCl_2 (kO_P g S102) 0 (by decide) rfl kC_89 48 dX2_setOf_48 ?_
      refine lv_aload_n hx hb dX2_setOf_51 rfl (lv_at hl 1 rfl) ?_
      refine k_get (k := 0) X I kCl_8 (kO_T g S102 n1 hn1) 1 (by decide) rfl kC_117 52 dX2_setOf_52 ?_
      refine lv_iload hx hb dX2_setOf_55 (lv_at hl 4 rfl) ?_
      refine k_iald X I (kR_T2 n1 hn1) 57 dX2_setOf_57 hpf (fun hpf => ?_)
      refine lv_aload_n hx hb dX2_setOf_58 rfl (lv_at hl 0 rfl) ?_
      refine k_get (k := 0) X I kCl_2 (kO_P g S102) 2 (by decide) rfl kC_85 59 dX2_setOf_59 ?_
      refine lv_iload_n hx hb dX2_setOf_62 rfl (lv_at hl 2 rfl) ?_
      refine k_iald X I kR_9 63 dX2_setOf_63 hpf (fun hpf => ?_)
      refine k_cIi (rest := []) (As := [.int (kA S102 (26 + 15 * n1 + 2) x5.toNatClampNeg), .int (kA S102 9 x2.toNatClampNeg)]) (d := 2) ⟨Nat.le_refl _, Nat.le_refl _⟩ X I fn_X2_X7_isOrBeneath kCl_7 rfl (kO_H g S102) (c_X7_isOrBeneath l N (kA S102 (26 + 15 * n1 + 2) x5.toNatClampNeg) (kA S102 9 x2.toNatClampNeg)) rfl (by decide) 64 dX2_setOf_64 rfl hl.1 rfl (Nat.le_of_ble_eq_true rfl) ⟨Nat.le_of_ble_eq_true rfl, Nat.le_of_ble_eq_true rfl⟩ hpf (fun v103 S104 H locs I hm hpf => ?_)
      refine b_if_eq hx hb 77 67 dX2_setOf_67 (by decide) hpf (fun hpf => ?_) (fun hpf => ?_)
      · exact hC_77 x2 w3 x5 S104 H locs I ls (lv_sub hl [0, 1, 2, 3, 4] rfl) hpf
      refine lv_lload_n hx hb dX2_setOf_70 rfl (lv_at hl 3 rfl) ?_
      refine lv_lconst (v := (1 : Int64)) hx hb dX2_setOf_71 (by decide) ?_
      refine lv_iload hx hb dX2_setOf_72 (lv_at hl 4 rfl) ?_
      refine lv_lshl hx hb dX2_setOf_74 rfl ?_
      refine lv_lor hx hb dX2_setOf_75 ?_
      refine k_lsto_n hx hb (fun y105 => [(3, .long y105), (0, .ref (g.2.1 7)), (1, .ref (g.2.1 (26 + 15 * n1))), (2, .int x2), (5, .int x5)]) 76 dX2_setOf_76 rfl hl (by decide) (fun _ => rfl) hpf (fun y105 ls hl hpf => ?_)
      exact hC_77 x2 y105 x5 S104 H locs I ls (lv_sub hl [1, 2, 3, 0, 4] rfl) hpf
  refine lv_aload_n hx hb dX2_setOf_0 rfl (lv_at hl 0 rfl) ?_
  refine k_get (k := 0) X I kCl_2 (kO_P g Si) 1 (by decide) rfl kC_84 1 dX2_setOf_1 ?_
  refine lv_iload_n hx hb dX2_setOf_4 rfl (lv_at hl 2 rfl) ?_
  refine k_iald X I kR_8 5 dX2_setOf_5 hpf (fun hpf => ?_)
  refine b_if_ne hx hb 26 6 dX2_setOf_6 (by decide) hpf (fun hpf => ?_) (fun hpf => ?_)
  · refine lv_lconst (v := (0 : Int64)) hx hb dX2_setOf_26 (by decide) ?_
    refine lv_lstore_n (lv' := [(3, .long (0 : Int64)), (0, .ref (g.2.1 7)), (1, .ref (g.2.1 (26 + 15 * n1))), (2, .int x2)]) hx hb dX2_setOf_27 rfl hl (by decide) rfl (fun ls hl => ?_)
    refine lv_iconst (v := (0 : Int32)) hx hb dX2_setOf_28 (by decide) ?_
    refine lv_istore (lv' := [(5, .int (0 : Int32)), (3, .long (0 : Int64)), (0, .ref (g.2.1 7)), (1, .ref (g.2.1 (26 + 15 * n1))), (2, .int x2)]) hx hb dX2_setOf_29 hl (by decide) rfl (fun ls hl => ?_)
    exact hC_31 N x2 (0 : Int64) (0 : Int32) Si H locs I ls (lv_sub hl [2, 3, 4, 1, 0] rfl) hpf
  refine lv_aload_n hx hb dX2_setOf_9 rfl (lv_at hl 1 rfl) ?_
  refine lv_aload_n hx hb dX2_setOf_10 rfl (lv_at hl 0 rfl) ?_
  refine k_get (k := 0) X I kCl_2 (kO_P g Si) 2 (by decide) rfl kC_85 11 dX2_setOf_11 ?_
  refine lv_iload_n hx hb dX2_setOf_14 rfl (lv_at hl 2 rfl) ?_
  refine k_iald X I kR_9 15 dX2_setOf_15 hpf (fun hpf => ?_)
  refine lv_aload_n hx hb dX2_setOf_16 rfl (lv_at hl 0 rfl) ?_
  refine k_get (k := 0) X I kCl_2 (kO_P g Si) 3 (by decide) rfl kC_86 17 dX2_setOf_17 ?_
  refine lv_iload_n hx hb dX2_setOf_20 rfl (lv_at hl 2 rfl) ?_
  refine k_iald X I kR_10 21 dX2_setOf_21 hpf (fun hpf => ?_)
  refine k_cIl (rest := []) (As := [.int (kA Si 9 x2.toNatClampNeg), .int (kA Si 10 x2.toNatClampNeg)]) (d := 2) ⟨Nat.le_refl _, Nat.le_refl _⟩ X I fn_X2_X8_holdersBetween kCl_8 rfl (kO_T g Si n1 hn1) (c_X8_holdersBetween l N n1 hn1 (kA Si 9 x2.toNatClampNeg) (kA Si 10 x2.toNatClampNeg)) rfl (by decide) 22 dX2_setOf_22 rfl hl.1 rfl (Nat.le_of_ble_eq_true rfl) ⟨Nat.le_of_ble_eq_true rfl, Nat.le_of_ble_eq_true rfl⟩ hpf (fun v101 S102 H locs I hm hpf => ?_)
  exact k_retl X I hr 25 dX2_setOf_25 hpf
-- ===== X2_appliesTo =====
def pX2_appliesTo_186 (N : Nat) (n1 : Nat) (x2 : Int32) (S : kS) : Option (Int64 × kS) :=
    if x2 ≤ (0 : Int32) then (
      some ((0 : Int64), S))
    else (
      gd (x2 - (1 : Int32)) 8 <|
      some (kJ S 11 (x2 - (1 : Int32)).toNatClampNeg, S))
def pX2_appliesTo_180 (N : Nat) (n1 : Nat) (k_4 : Int32 → Int32 → kS → Option (Int64 × kS)) (x2 : Int32) (x3 : Int32) (S : kS) : Option (Int64 × kS) :=
    nm (x3 + (1 : Int32)) fun y101 =>
    k_4 x2 y101 S
def pX2_appliesTo_179 (N : Nat) (n1 : Nat) (k_4 : Int32 → Int32 → kS → Option (Int64 × kS)) (wt0 : Int64) (t1 : Int32) (x2 : Int32) (x3 : Int32) (S : kS) : Option (Int64 × kS) :=
    gd t1 8 <| svk (sJ S 11 t1.toNatClampNeg wt0) fun S101 =>
    pX2_appliesTo_180 N n1 k_4 x2 x3 S101
def pX2_appliesTo_132 (N : Nat) (n1 : Nat) (k_4 : Int32 → Int32 → kS → Option (Int64 × kS)) (t0 : Int32) (x2 : Int32) (x3 : Int32) (S : kS) : Option (Int64 × kS) :=
    if t0 = (0 : Int32) then (
      gd (x2 - (1 : Int32)) 8 <|
      gd x2 8 <|
      pX2_appliesTo_179 N n1 k_4 ((kJ S 11 (x2 - (1 : Int32)).toNatClampNeg) ||| (kJ S 11 x2.toNatClampNeg)) (x2 - (1 : Int32)) x2 x3 S)
    else (
      gd (x2 - (1 : Int32)) 8 <|
      gd x2 8 <|
      pX2_appliesTo_179 N n1 k_4 ((kJ S 11 (x2 - (1 : Int32)).toNatClampNeg) &&& (kJ S 11 x2.toNatClampNeg)) (x2 - (1 : Int32)) x2 x3 S)
def pX2_appliesTo_109 (N : Nat) (n1 : Nat) (k_4 : Int32 → Int32 → kS → Option (Int64 × kS)) (x2 : Int32) (x3 : Int32) (S : kS) : Option (Int64 × kS) :=
    if x2 ≤ (1 : Int32) then (
      pX2_appliesTo_180 N n1 k_4 x2 x3 S)
    else (
      nm (x2 + (-1 : Int32)) fun y101 =>
      gd x3 15 <|
      if (kA S 8 x3.toNatClampNeg) = (2 : Int32) then (
        pX2_appliesTo_132 N n1 k_4 (1 : Int32) y101 x3 S)
      else (
        pX2_appliesTo_132 N n1 k_4 (0 : Int32) y101 x3 S))
def pX2_appliesTo_67 (N : Nat) (n1 : Nat) (k_4 : Int32 → Int32 → kS → Option (Int64 × kS)) (x2 : Int32) (x3 : Int32) (S : kS) : Option (Int64 × kS) :=
    gd x3 15 <|
    if (kA S 8 x3.toNatClampNeg) = (4 : Int32) then (
      if x2 ≤ (0 : Int32) then (
        pX2_appliesTo_109 N n1 k_4 x2 x3 S)
      else (
        bk (pX8_living N n1 S) fun v101 S102 =>
        gd (x2 - (1 : Int32)) 8 <|
        gd (x2 - (1 : Int32)) 8 <| svk (sJ S102 11 (x2 - (1 : Int32)).toNatClampNeg (v101 &&& ((kJ S102 11 (x2 - (1 : Int32)).toNatClampNeg) ^^^ (-1 : Int64)))) fun S103 =>
        pX2_appliesTo_180 N n1 k_4 x2 x3 S103))
    else (
      pX2_appliesTo_109 N n1 k_4 x2 x3 S)
def pX2_appliesTo_36 (N : Nat) (n1 : Nat) (k_4 : Int32 → Int32 → kS → Option (Int64 × kS)) (t0 : Int32) (x2 : Int32) (x3 : Int32) (S : kS) : Option (Int64 × kS) :=
    if t0 = (0 : Int32) then (
      pX2_appliesTo_67 N n1 k_4 x2 x3 S)
    else (
      if (8 : Int32) ≤ x2 then (
        pX2_appliesTo_67 N n1 k_4 x2 x3 S)
      else (
        bk (pX2_setOf N n1 x3 S) fun v101 S102 =>
        gd x2 8 <| svk (sJ S102 11 x2.toNatClampNeg v101) fun S103 =>
        nm (x2 + (1 : Int32)) fun y104 =>
        pX2_appliesTo_180 N n1 k_4 y104 x3 S103))
def pX2_appliesTo_4 (N : Nat) (n1 : Nat) (k_186 : Int32 → kS → Option (Int64 × kS)) : Nat → Int32 → Int32 → kS → Option (Int64 × kS)
  | 0 => fun _ _ _ => none
  | n_4 + 1 => fun x2 x3 S =>
    if (kI S 6) ≤ x3 then (
      k_186 x2 S)
    else (
      gd x3 15 <|
      if (kA S 8 x3.toNatClampNeg) = (0 : Int32) then (
        pX2_appliesTo_36 N n1 (pX2_appliesTo_4 N n1 k_186 n_4) (1 : Int32) x2 x3 S)
      else (
        gd x3 15 <|
        if (kA S 8 x3.toNatClampNeg) = (1 : Int32) then (
          pX2_appliesTo_36 N n1 (pX2_appliesTo_4 N n1 k_186 n_4) (1 : Int32) x2 x3 S)
        else (
          pX2_appliesTo_36 N n1 (pX2_appliesTo_4 N n1 k_186 n_4) (0 : Int32) x2 x3 S)))
def pX2_appliesTo (N : Nat) (n1 : Nat) (S : kS) : Option (Int64 × kS) :=
    pX2_appliesTo_4 N n1 (pX2_appliesTo_186 N n1) N (0 : Int32) (0 : Int32) S
set_option maxRecDepth 100000 in
set_option maxHeartbeats 4000000 in
theorem c_X2_appliesTo (l : Launch) (N : Nat) (n1 : Nat) (hn1 : n1 < 5) : kMet l yX2_appliesTo cX2_appliesTo 6 (some .long) 3 (fun g => [.ref (g.2.1 7), .ref (g.2.1 (26 + 15 * n1))]) rJ (pX2_appliesTo N n1) := by
  refine kStart RX2 (by decide +kernel) rfl (fun g => [(0, .ref (g.2.1 7)), (1, .ref (g.2.1 (26 + 15 * n1)))]) (fun _ => Nat.le_of_ble_eq_true rfl) (fun _ => rfl) ?_
  intro dC dI g sz Si r Sf hpf p e s m args below meth c X hr H locs I ls hl
  have hx := X.1
  have hb := X.2.1
  unfold pX2_appliesTo at hpf
  have hC_186 : ∀ (x2 : Int32) (S : kS) (H : Heap) (locs : List Loc), kV dC dI g (kAt g (kn Si) (km Si) (kp Si) sz) s Si S H locs → ∀ ls : Array Slot, lv_has ls 6 [(0, .ref (g.2.1 7)), (2, .int x2)] → pX2_appliesTo_186 N n1 x2 S = some (r, Sf) → W p l e (mRm 3) s m args below meth c H locs 0 0 (MQ below (kQ dC dI g sz Si (rJ g r) Sf) args s 0 0 (kAt g (kn Si) (km Si) (kp Si) sz)) (F0 m 186 ls []) := by
    intro x2 S H locs I ls hl hpf
    unfold pX2_appliesTo_186 at hpf
    refine lv_iload_n hx hb dX2_appliesTo_186 rfl (lv_at hl 1 rfl) ?_
    refine b_if_le hx hb 201 187 dX2_appliesTo_187 (by decide) hpf (fun hpf => ?_) (fun hpf => ?_)
    · refine lv_lconst (v := (0 : Int64)) hx hb dX2_appliesTo_201 (by decide) ?_
      exact k_retl X I hr 202 dX2_appliesTo_202 hpf
    refine lv_aload_n hx hb dX2_appliesTo_190 rfl (lv_at hl 0 rfl) ?_
    refine k_get (k := 0) X I kCl_2 (kO_P g S) 4 (by decide) rfl kC_88 191 dX2_appliesTo_191 ?_
    refine lv_iload_n hx hb dX2_appliesTo_194 rfl (lv_at hl 1 rfl) ?_
    refine lv_iconst (v := (1 : Int32)) hx hb dX2_appliesTo_195 (by decide) ?_
    refine lv_isub hx hb dX2_appliesTo_196 ?_
    refine k_lald X I kR_11 197 dX2_appliesTo_197 hpf (fun hpf => ?_)
    refine lv_goto (tgt := 202) hx hb dX2_appliesTo_198 (by decide) ?_
    exact k_retl X I hr 202 dX2_appliesTo_202 hpf
  have hC_4 : ∀ (n_4 : Nat), ∀ (x2 : Int32) (x3 : Int32) (S : kS) (H : Heap) (locs : List Loc), kV dC dI g (kAt g (kn Si) (km Si) (kp Si) sz) s Si S H locs → ∀ ls : Array Slot, lv_has ls 6 [(0, .ref (g.2.1 7)), (1, .ref (g.2.1 (26 + 15 * n1))), (2, .int x2), (3, .int x3)] → pX2_appliesTo_4 N n1 (pX2_appliesTo_186 N n1) n_4 x2 x3 S = some (r, Sf) → W p l e (mRm 3) s m args below meth c H locs 0 0 (MQ below (kQ dC dI g sz Si (rJ g r) Sf) args s 0 0 (kAt g (kn Si) (km Si) (kp Si) sz)) (F0 m 4 ls []) := by
    intro n_4
    induction n_4 with
    | zero =>
      intro x2 x3 S H locs I ls hl hpf
      rw [pX2_appliesTo_4] at hpf
      cases hpf
    | succ n_4 ih_4 =>
      have hC_180 : ∀ (x2 : Int32) (x3 : Int32) (S : kS) (H : Heap) (locs : List Loc), kV dC dI g (kAt g (kn Si) (km Si) (kp Si) sz) s Si S H locs → ∀ ls : Array Slot, lv_has ls 6 [(0, .ref (g.2.1 7)), (1, .ref (g.2.1 (26 + 15 * n1))), (2, .int x2), (3, .int x3)] → pX2_appliesTo_180 N n1 (pX2_appliesTo_4 N n1 (pX2_appliesTo_186 N n1) n_4) x2 x3 S = some (r, Sf) → W p l e (mRm 3) s m args below meth c H locs 0 0 (MQ below (kQ dC dI g sz Si (rJ g r) Sf) args s 0 0 (kAt g (kn Si) (km Si) (kp Si) sz)) (F0 m 180 ls []) := by
        intro x2 x3 S H locs I ls hl hpf
        unfold pX2_appliesTo_180 at hpf
        refine m_iinc (w := (1 : Int32)) hx hb (fun y101 => [(3, .int y101), (0, .ref (g.2.1 7)), (1, .ref (g.2.1 (26 + 15 * n1))), (2, .int x2)]) 180 dX2_appliesTo_180 hl (k := 3) rfl (by decide) (by decide) (fun _ => rfl) hpf (fun y101 ls hl hpf => ?_)
        refine lv_goto (tgt := 4) hx hb dX2_appliesTo_183 (by decide) ?_
        exact ih_4 x2 y101 S H locs I ls (lv_sub hl [1, 2, 3, 0] rfl) hpf
      have hC_179 : ∀ (wt0 : Int64) (t1 : Int32) (x2 : Int32) (x3 : Int32) (S : kS) (H : Heap) (locs : List Loc), kV dC dI g (kAt g (kn Si) (km Si) (kp Si) sz) s Si S H locs → ∀ ls : Array Slot, lv_has ls 6 [(0, .ref (g.2.1 7)), (1, .ref (g.2.1 (26 + 15 * n1))), (2, .int x2), (3, .int x3)] → pX2_appliesTo_179 N n1 (pX2_appliesTo_4 N n1 (pX2_appliesTo_186 N n1) n_4) wt0 t1 x2 x3 S = some (r, Sf) → W p l e (mRm 3) s m args below meth c H locs 0 0 (MQ below (kQ dC dI g sz Si (rJ g r) Sf) args s 0 0 (kAt g (kn Si) (km Si) (kp Si) sz)) (F0 m 179 ls [.long wt0, .int t1, .ref (g.2.1 11)]) := by
        intro wt0 t1 x2 x3 S H locs I ls hl hpf
        unfold pX2_appliesTo_179 at hpf
        refine k_last X I kR_11 179 dX2_appliesTo_179 hpf (fun S101 H locs I hm hpf => ?_)
        exact hC_180 x2 x3 S101 H locs I ls (lv_sub hl [0, 1, 2, 3] rfl) hpf
      have hC_132 : ∀ (t0 : Int32) (x2 : Int32) (x3 : Int32) (S : kS) (H : Heap) (locs : List Loc), kV dC dI g (kAt g (kn Si) (km Si) (kp Si) sz) s Si S H locs → ∀ ls : Array Slot, lv_has ls 6 [(0, .ref (g.2.1 7)), (1, .ref (g.2.1 (26 + 15 * n1))), (2, .int x2), (3, .int x3)] → pX2_appliesTo_132 N n1 (pX2_appliesTo_4 N n1 (pX2_appliesTo_186 N n1) n_4) t0 x2 x3 S = some (r, Sf) → W p l e (mRm 3) s m args below meth c H locs 0 0 (MQ below (kQ dC dI g sz Si (rJ g r) Sf) args s 0 0 (kAt g (kn Si) (km Si) (kp Si) sz)) (F0 m 132 ls [.int t0]) := by
        intro t0 x2 x3 S H locs I ls hl hpf
        unfold pX2_appliesTo_132 at hpf
        refine lv_istore (lv' := [(5, .int t0), (0, .ref (g.2.1 7)), (1, .ref (g.2.1 (26 + 15 * n1))), (2, .int x2), (3, .int x3)]) hx hb dX2_appliesTo_132 hl (by decide) rfl (fun ls hl => ?_)
        refine lv_aload_n hx hb dX2_appliesTo_134 rfl (lv_at hl 1 rfl) ?_
        refine k_get (k := 0) X I kCl_2 (kO_P g S) 4 (by decide) rfl kC_88 135 dX2_appliesTo_135 ?_
        refine lv_iload_n hx hb dX2_appliesTo_138 rfl (lv_at hl 3 rfl) ?_
        refine lv_iconst (v := (1 : Int32)) hx hb dX2_appliesTo_139 (by decide) ?_
        refine lv_isub hx hb dX2_appliesTo_140 ?_
        refine lv_iload hx hb dX2_appliesTo_141 (lv_at hl 0 rfl) ?_
        refine b_if_eq hx hb 164 143 dX2_appliesTo_143 (by decide) hpf (fun hpf => ?_) (fun hpf => ?_)
        · refine lv_aload_n hx hb dX2_appliesTo_164 rfl (lv_at hl 1 rfl) ?_
          refine k_get (k := 0) X I kCl_2 (kO_P g S) 4 (by decide) rfl kC_88 165 dX2_appliesTo_165 ?_
          refine lv_iload_n hx hb dX2_appliesTo_168 rfl (lv_at hl 3 rfl) ?_
          refine lv_iconst (v := (1 : Int32)) hx hb dX2_appliesTo_169 (by decide) ?_
          refine lv_isub hx hb dX2_appliesTo_170 ?_
          refine k_lald X I kR_11 171 dX2_appliesTo_171 hpf (fun hpf => ?_)
          refine lv_aload_n hx hb dX2_appliesTo_172 rfl (lv_at hl 1 rfl) ?_
          refine k_get (k := 0) X I kCl_2 (kO_P g S) 4 (by decide) rfl kC_88 173 dX2_appliesTo_173 ?_
          refine lv_iload_n hx hb dX2_appliesTo_176 rfl (lv_at hl 3 rfl) ?_
          refine k_lald X I kR_11 177 dX2_appliesTo_177 hpf (fun hpf => ?_)
          refine lv_lor hx hb dX2_appliesTo_178 ?_
          exact hC_179 ((kJ S 11 (x2 - (1 : Int32)).toNatClampNeg) ||| (kJ S 11 x2.toNatClampNeg)) (x2 - (1 : Int32)) x2 x3 S H locs I ls (lv_sub hl [1, 2, 3, 4] rfl) hpf
        refine lv_aload_n hx hb dX2_appliesTo_146 rfl (lv_at hl 1 rfl) ?_
        refine k_get (k := 0) X I kCl_2 (kO_P g S) 4 (by decide) rfl kC_88 147 dX2_appliesTo_147 ?_
        refine lv_iload_n hx hb dX2_appliesTo_150 rfl (lv_at hl 3 rfl) ?_
        refine lv_iconst (v := (1 : Int32)) hx hb dX2_appliesTo_151 (by decide) ?_
        refine lv_isub hx hb dX2_appliesTo_152 ?_
        refine k_lald X I kR_11 153 dX2_appliesTo_153 hpf (fun hpf => ?_)
        refine lv_aload_n hx hb dX2_appliesTo_154 rfl (lv_at hl 1 rfl) ?_
        refine k_get (k := 0) X I kCl_2 (kO_P g S) 4 (by decide) rfl kC_88 155 dX2_appliesTo_155 ?_
        refine lv_iload_n hx hb dX2_appliesTo_158 rfl (lv_at hl 3 rfl) ?_
        refine k_lald X I kR_11 159 dX2_appliesTo_159 hpf (fun hpf => ?_)
        refine lv_land hx hb dX2_appliesTo_160 ?_
        refine lv_goto (tgt := 179) hx hb dX2_appliesTo_161 (by decide) ?_
        exact hC_179 ((kJ S 11 (x2 - (1 : Int32)).toNatClampNeg) &&& (kJ S 11 x2.toNatClampNeg)) (x2 - (1 : Int32)) x2 x3 S H locs I ls (lv_sub hl [1, 2, 3, 4] rfl) hpf
      have hC_109 : ∀ (x2 : Int32) (x3 : Int32) (S : kS) (H : Heap) (locs : List Loc), kV dC dI g (kAt g (kn Si) (km Si) (kp Si) sz) s Si S H locs → ∀ ls : Array Slot, lv_has ls 6 [(0, .ref (g.2.1 7)), (1, .ref (g.2.1 (26 + 15 * n1))), (2, .int x2), (3, .int x3)] → pX2_appliesTo_109 N n1 (pX2_appliesTo_4 N n1 (pX2_appliesTo_186 N n1) n_4) x2 x3 S = some (r, Sf) → W p l e (mRm 3) s m args below meth c H locs 0 0 (MQ below (kQ dC dI g sz Si (rJ g r) Sf) args s 0 0 (kAt g (kn Si) (km Si) (kp Si) sz)) (F0 m 109 ls []) := by
        intro x2 x3 S H locs I ls hl hpf
        unfold pX2_appliesTo_109 at hpf
        refine lv_iload_n hx hb dX2_appliesTo_109 rfl (lv_at hl 2 rfl) ?_
        refine lv_iconst (v := (1 : Int32)) hx hb dX2_appliesTo_110 (by decide) ?_
        refine b_icmp_le hx hb 180 111 dX2_appliesTo_111 (by decide) hpf (fun hpf => ?_) (fun hpf => ?_)
        · exact hC_180 x2 x3 S H locs I ls (lv_sub hl [0, 1, 2, 3] rfl) hpf
        refine m_iinc (w := (-1 : Int32)) hx hb (fun y101 => [(2, .int y101), (0, .ref (g.2.1 7)), (1, .ref (g.2.1 (26 + 15 * n1))), (3, .int x3)]) 114 dX2_appliesTo_114 hl (k := 2) rfl (by decide) (by decide) (fun _ => rfl) hpf (fun y101 ls hl hpf => ?_)
        refine lv_aload_n hx hb dX2_appliesTo_117 rfl (lv_at hl 1 rfl) ?_
        refine k_get (k := 0) X I kCl_2 (kO_P g S) 1 (by decide) rfl kC_84 118 dX2_appliesTo_118 ?_
        refine lv_iload_n hx hb dX2_appliesTo_121 rfl (lv_at hl 3 rfl) ?_
        refine k_iald X I kR_8 122 dX2_appliesTo_122 hpf (fun hpf => ?_)
        refine lv_iconst (v := (2 : Int32)) hx hb dX2_appliesTo_123 (by decide) ?_
        refine b_icmp_ne hx hb 131 124 dX2_appliesTo_124 (by decide) hpf (fun hpf => ?_) (fun hpf => ?_)
        · refine lv_iconst (v := (0 : Int32)) hx hb dX2_appliesTo_131 (by decide) ?_
          exact hC_132 (0 : Int32) y101 x3 S H locs I ls (lv_sub hl [1, 2, 0, 3] rfl) hpf
        refine lv_iconst (v := (1 : Int32)) hx hb dX2_appliesTo_127 (by decide) ?_
        refine lv_goto (tgt := 132) hx hb dX2_appliesTo_128 (by decide) ?_
        exact hC_132 (1 : Int32) y101 x3 S H locs I ls (lv_sub hl [1, 2, 0, 3] rfl) hpf
      have hC_67 : ∀ (x2 : Int32) (x3 : Int32) (S : kS) (H : Heap) (locs : List Loc), kV dC dI g (kAt g (kn Si) (km Si) (kp Si) sz) s Si S H locs → ∀ ls : Array Slot, lv_has ls 6 [(0, .ref (g.2.1 7)), (1, .ref (g.2.1 (26 + 15 * n1))), (2, .int x2), (3, .int x3)] → pX2_appliesTo_67 N n1 (pX2_appliesTo_4 N n1 (pX2_appliesTo_186 N n1) n_4) x2 x3 S = some (r, Sf) → W p l e (mRm 3) s m args below meth c H locs 0 0 (MQ below (kQ dC dI g sz Si (rJ g r) Sf) args s 0 0 (kAt g (kn Si) (km Si) (kp Si) sz)) (F0 m 67 ls []) := by
        intro x2 x3 S H locs I ls hl hpf
        unfold pX2_appliesTo_67 at hpf
        refine lv_aload_n hx hb dX2_appliesTo_67 rfl (lv_at hl 0 rfl) ?_
        refine k_get (k := 0) X I kCl_2 (kO_P g S) 1 (by decide) rfl kC_84 68 dX2_appliesTo_68 ?_
        refine lv_iload_n hx hb dX2_appliesTo_71 rfl (lv_at hl 3 rfl) ?_
        refine k_iald X I kR_8 72 dX2_appliesTo_72 hpf (fun hpf => ?_)
        refine lv_iconst (v := (4 : Int32)) hx hb dX2_appliesTo_73 (by decide) ?_
        refine b_icmp_ne hx hb 109 74 dX2_appliesTo_74 (by decide) hpf (fun hpf => ?_) (fun hpf => ?_)
        · exact hC_109 x2 x3 S H locs I ls (lv_sub hl [0, 1, 2, 3] rfl) hpf
        refine lv_iload_n hx hb dX2_appliesTo_77 rfl (lv_at hl 2 rfl) ?_
        refine b_if_le hx hb 109 78 dX2_appliesTo_78 (by decide) hpf (fun hpf => ?_) (fun hpf => ?_)
        · exact hC_109 x2 x3 S H locs I ls (lv_sub hl [0, 1, 2, 3] rfl) hpf
        refine lv_aload_n hx hb dX2_appliesTo_81 rfl (lv_at hl 0 rfl) ?_
        refine k_get (k := 0) X I kCl_2 (kO_P g S) 4 (by decide) rfl kC_88 82 dX2_appliesTo_82 ?_
        refine lv_iload_n hx hb dX2_appliesTo_85 rfl (lv_at hl 2 rfl) ?_
        refine lv_iconst (v := (1 : Int32)) hx hb dX2_appliesTo_86 (by decide) ?_
        refine lv_isub hx hb dX2_appliesTo_87 ?_
        refine lv_aload_n hx hb dX2_appliesTo_88 rfl (lv_at hl 1 rfl) ?_
        refine k_cIl (rest := [.int (x2 - (1 : Int32)), .ref (g.2.1 11)]) (As := []) (d := 3) ⟨Nat.le_refl _, Nat.le_refl _⟩ X I fn_X2_X8_living kCl_8 rfl (kO_T g S n1 hn1) (c_X8_living l N n1 hn1) rfl (by decide) 89 dX2_appliesTo_89 rfl hl.1 rfl (Nat.le_of_ble_eq_true rfl) ⟨Nat.le_of_ble_eq_true rfl, Nat.le_of_ble_eq_true rfl⟩ hpf (fun v101 S102 H locs I hm hpf => ?_)
        refine lv_aload_n hx hb dX2_appliesTo_92 rfl (lv_at hl 0 rfl) ?_
        refine k_get (k := 0) X I kCl_2 (kO_P g S102) 4 (by decide) rfl kC_88 93 dX2_appliesTo_93 ?_
        refine lv_iload_n hx hb dX2_appliesTo_96 rfl (lv_at hl 2 rfl) ?_
        refine lv_iconst (v := (1 : Int32)) hx hb dX2_appliesTo_97 (by decide) ?_
        refine lv_isub hx hb dX2_appliesTo_98 ?_
        refine k_lald X I kR_11 99 dX2_appliesTo_99 hpf (fun hpf => ?_)
        refine lv_ldc2 (v := (-1 : Int64)) hx hb X.2.2.2.1 (X.2.2.2.2.1 _ kC_148) dX2_appliesTo_100 ?_
        refine lv_lxor hx hb dX2_appliesTo_103 ?_
        refine lv_land hx hb dX2_appliesTo_104 ?_
        refine k_last X I kR_11 105 dX2_appliesTo_105 hpf (fun S103 H locs I hm hpf => ?_)
        refine lv_goto (tgt := 180) hx hb dX2_appliesTo_106 (by decide) ?_
        exact hC_180 x2 x3 S103 H locs I ls (lv_sub hl [0, 1, 2, 3] rfl) hpf
      have hC_36 : ∀ (t0 : Int32) (x2 : Int32) (x3 : Int32) (S : kS) (H : Heap) (locs : List Loc), kV dC dI g (kAt g (kn Si) (km Si) (kp Si) sz) s Si S H locs → ∀ ls : Array Slot, lv_has ls 6 [(0, .ref (g.2.1 7)), (1, .ref (g.2.1 (26 + 15 * n1))), (2, .int x2), (3, .int x3)] → pX2_appliesTo_36 N n1 (pX2_appliesTo_4 N n1 (pX2_appliesTo_186 N n1) n_4) t0 x2 x3 S = some (r, Sf) → W p l e (mRm 3) s m args below meth c H locs 0 0 (MQ below (kQ dC dI g sz Si (rJ g r) Sf) args s 0 0 (kAt g (kn Si) (km Si) (kp Si) sz)) (F0 m 36 ls [.int t0]) := by
        intro t0 x2 x3 S H locs I ls hl hpf
        unfold pX2_appliesTo_36 at hpf
        refine lv_istore (lv' := [(4, .int t0), (0, .ref (g.2.1 7)), (1, .ref (g.2.1 (26 + 15 * n1))), (2, .int x2), (3, .int x3)]) hx hb dX2_appliesTo_36 hl (by decide) rfl (fun ls hl => ?_)
        refine lv_iload hx hb dX2_appliesTo_38 (lv_at hl 0 rfl) ?_
        refine b_if_eq hx hb 67 40 dX2_appliesTo_40 (by decide) hpf (fun hpf => ?_) (fun hpf => ?_)
        · exact hC_67 x2 x3 S H locs I ls (lv_sub hl [1, 2, 3, 4] rfl) hpf
        refine lv_iload_n hx hb dX2_appliesTo_43 rfl (lv_at hl 3 rfl) ?_
        refine lv_bipush (v := (8 : Int32)) hx hb dX2_appliesTo_44 (by decide) ?_
        refine b_icmp_ge hx hb 67 46 dX2_appliesTo_46 (by decide) hpf (fun hpf => ?_) (fun hpf => ?_)
        · exact hC_67 x2 x3 S H locs I ls (lv_sub hl [1, 2, 3, 4] rfl) hpf
        refine lv_aload_n hx hb dX2_appliesTo_49 rfl (lv_at hl 1 rfl) ?_
        refine k_get (k := 0) X I kCl_2 (kO_P g S) 4 (by decide) rfl kC_88 50 dX2_appliesTo_50 ?_
        refine lv_iload_n hx hb dX2_appliesTo_53 rfl (lv_at hl 3 rfl) ?_
        refine lv_aload_n hx hb dX2_appliesTo_54 rfl (lv_at hl 1 rfl) ?_
        refine lv_aload_n hx hb dX2_appliesTo_55 rfl (lv_at hl 2 rfl) ?_
        refine lv_iload_n hx hb dX2_appliesTo_56 rfl (lv_at hl 4 rfl) ?_
        refine k_cIl (rest := [.int x2, .ref (g.2.1 11)]) (As := [.ref (g.2.1 (26 + 15 * n1)), .int x3]) (d := 3) ⟨Nat.le_refl _, Nat.le_refl _⟩ X I fn_X2_X2_setOf kCl_2 rfl (kO_P g S) (c_X2_setOf l N n1 hn1 x3) rfl (by decide) 57 dX2_appliesTo_57 rfl hl.1 rfl (Nat.le_of_ble_eq_true rfl) ⟨Nat.le_of_ble_eq_true rfl, Nat.le_of_ble_eq_true rfl⟩ hpf (fun v101 S102 H locs I hm hpf => ?_)
        refine k_last X I kR_11 60 dX2_appliesTo_60 hpf (fun S103 H locs I hm hpf => ?_)
        refine m_iinc (w := (1 : Int32)) hx hb (fun y104 => [(2, .int y104), (4, .int t0), (0, .ref (g.2.1 7)), (1, .ref (g.2.1 (26 + 15 * n1))), (3, .int x3)]) 61 dX2_appliesTo_61 hl (k := 3) rfl (by decide) (by decide) (fun _ => rfl) hpf (fun y104 ls hl hpf => ?_)
        refine lv_goto (tgt := 180) hx hb dX2_appliesTo_64 (by decide) ?_
        exact hC_180 y104 x3 S103 H locs I ls (lv_sub hl [2, 3, 0, 4] rfl) hpf
      intro x2 x3 S H locs I ls hl hpf
      rw [pX2_appliesTo_4] at hpf
      refine lv_iload_n hx hb dX2_appliesTo_4 rfl (lv_at hl 3 rfl) ?_
      refine lv_aload_n hx hb dX2_appliesTo_5 rfl (lv_at hl 0 rfl) ?_
      refine k_get (k := 0) X I kCl_2 (kO_P g S) 5 (by decide) rfl kC_91 6 dX2_appliesTo_6 ?_
      refine b_icmp_ge hx hb 186 9 dX2_appliesTo_9 (by decide) hpf (fun hpf => ?_) (fun hpf => ?_)
      · exact hC_186 x2 S H locs I ls (lv_sub hl [0, 2] rfl) hpf
      refine lv_aload_n hx hb dX2_appliesTo_12 rfl (lv_at hl 0 rfl) ?_
      refine k_get (k := 0) X I kCl_2 (kO_P g S) 1 (by decide) rfl kC_84 13 dX2_appliesTo_13 ?_
      refine lv_iload_n hx hb dX2_appliesTo_16 rfl (lv_at hl 3 rfl) ?_
      refine k_iald X I kR_8 17 dX2_appliesTo_17 hpf (fun hpf => ?_)
      refine b_if_eq hx hb 31 18 dX2_appliesTo_18 (by decide) hpf (fun hpf => ?_) (fun hpf => ?_)
      · refine lv_iconst (v := (1 : Int32)) hx hb dX2_appliesTo_31 (by decide) ?_
        refine lv_goto (tgt := 36) hx hb dX2_appliesTo_32 (by decide) ?_
        exact hC_36 (1 : Int32) x2 x3 S H locs I ls (lv_sub hl [0, 1, 2, 3] rfl) hpf
      refine lv_aload_n hx hb dX2_appliesTo_21 rfl (lv_at hl 0 rfl) ?_
      refine k_get (k := 0) X I kCl_2 (kO_P g S) 1 (by decide) rfl kC_84 22 dX2_appliesTo_22 ?_
      refine lv_iload_n hx hb dX2_appliesTo_25 rfl (lv_at hl 3 rfl) ?_
      refine k_iald X I kR_8 26 dX2_appliesTo_26 hpf (fun hpf => ?_)
      refine lv_iconst (v := (1 : Int32)) hx hb dX2_appliesTo_27 (by decide) ?_
      refine b_icmp_ne hx hb 35 28 dX2_appliesTo_28 (by decide) hpf (fun hpf => ?_) (fun hpf => ?_)
      · refine lv_iconst (v := (0 : Int32)) hx hb dX2_appliesTo_35 (by decide) ?_
        exact hC_36 (0 : Int32) x2 x3 S H locs I ls (lv_sub hl [0, 1, 2, 3] rfl) hpf
      refine lv_iconst (v := (1 : Int32)) hx hb dX2_appliesTo_31 (by decide) ?_
      refine lv_goto (tgt := 36) hx hb dX2_appliesTo_32 (by decide) ?_
      exact hC_36 (1 : Int32) x2 x3 S H locs I ls (lv_sub hl [0, 1, 2, 3] rfl) hpf
  refine lv_iconst (v := (0 : Int32)) hx hb dX2_appliesTo_0 (by decide) ?_
  refine lv_istore_n (lv' := [(2, .int (0 : Int32)), (0, .ref (g.2.1 7)), (1, .ref (g.2.1 (26 + 15 * n1)))]) hx hb dX2_appliesTo_1 rfl hl (by decide) rfl (fun ls hl => ?_)
  refine lv_iconst (v := (0 : Int32)) hx hb dX2_appliesTo_2 (by decide) ?_
  refine lv_istore_n (lv' := [(3, .int (0 : Int32)), (2, .int (0 : Int32)), (0, .ref (g.2.1 7)), (1, .ref (g.2.1 (26 + 15 * n1)))]) hx hb dX2_appliesTo_3 rfl hl (by decide) rfl (fun ls hl => ?_)
  exact hC_4 N (0 : Int32) (0 : Int32) Si H locs I ls (lv_sub hl [2, 3, 1, 0] rfl) hpf
