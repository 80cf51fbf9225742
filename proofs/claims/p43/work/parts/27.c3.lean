theorem fn_X8_J7_fill_53178 : kFnS RX8 yJ7_fill_53178 cJ7_fill_53178 4 none 2 56 := ⟨⟨kC_331, kC_22, kC_333, ⟨by decide +kernel, by decide +kernel, by decide +kernel⟩, by decide⟩, kC_332⟩
theorem fn_X8_X6_clear : kFnI RX8 yX6_clear cX6_clear 1 none 0 62 := ⟨⟨kC_334, kC_181, kC_313, ⟨by decide +kernel, by decide +kernel, by decide +kernel⟩, by decide⟩, kC_335, kC_336⟩
theorem fn_X8_X5_clear : kFnI RX8 yX5_clear cX5_clear 1 none 0 63 := ⟨⟨kC_242, kC_109, kC_233, ⟨by decide +kernel, by decide +kernel, by decide +kernel⟩, by decide⟩, kC_243, kC_244⟩
theorem fn_X8_X5_indexOf : kFnI RX8 yX5_indexOf cX5_indexOf 4 (some .int) 1 134 := ⟨⟨kC_133, kC_109, kC_102, ⟨by decide +kernel, by decide +kernel, by decide +kernel⟩, by decide⟩, kC_107, kC_108⟩
theorem fn_X8_X5_at : kFnI RX8 yX5_at cX5_at 2 (some .int) 1 138 := ⟨⟨kC_134, kC_109, kC_126, ⟨by decide +kernel, by decide +kernel, by decide +kernel⟩, by decide⟩, kC_135, kC_136⟩
theorem fn_X8_X5_dropAt : kFnI RX8 yX5_dropAt cX5_dropAt 2 none 1 141 := ⟨⟨kC_352, kC_109, kC_310, ⟨by decide +kernel, by decide +kernel, by decide +kernel⟩, by decide⟩, kC_353, kC_354⟩
theorem fn_X8_X7_isSingle : kFnI RX8 yX7_isSingle cX7_isSingle 2 (some .boolean) 1 118 := ⟨⟨kC_355, kC_45, kC_50, ⟨by decide +kernel, by decide +kernel, by decide +kernel⟩, by decide⟩, kC_72, kC_73⟩
theorem fn_X8_X7_lowest : kFnI RX8 yX7_lowest cX7_lowest 3 (some .int) 2 124 := ⟨⟨kC_187, kC_45, kC_54, ⟨by decide +kernel, by decide +kernel, by decide +kernel⟩, by decide⟩, kC_61, kC_62⟩
theorem fn_X8_X7_highest : kFnI RX8 yX7_highest cX7_highest 3 (some .int) 2 128 := ⟨⟨kC_188, kC_45, kC_58, ⟨by decide +kernel, by decide +kernel, by decide +kernel⟩, by decide⟩, kC_64, kC_65⟩
theorem fn_X8_X8_dropValues : kFnI RX8 yX8_dropValues cX8_dropValues 10 none 4 97 := ⟨⟨kC_356, kC_121, kC_351, ⟨by decide +kernel, by decide +kernel, by decide +kernel⟩, by decide⟩, kC_357, kC_358⟩
theorem fn_X8_X5_put : kFnI RX8 yX5_put cX5_put 3 none 1 131 := ⟨⟨kC_248, kC_109, kC_237, ⟨by decide +kernel, by decide +kernel, by decide +kernel⟩, by decide⟩, kC_249, kC_250⟩
theorem fn_X8_X0_rank : kFnI RX8 yX0_rank cX0_rank 1 (some .int) 0 111 := ⟨⟨kC_365, kC_368, kC_9, ⟨by decide +kernel, by decide +kernel, by decide +kernel⟩, by decide⟩, kC_366, kC_367⟩
theorem fn_X8_X8_takeValue : kFnI RX8 yX8_takeValue cX8_takeValue 8 none 3 90 := ⟨⟨kC_369, kC_121, kC_359, ⟨by decide +kernel, by decide +kernel, by decide +kernel⟩, by decide⟩, kC_370, kC_371⟩
theorem fn_X8_X8_takeAdd : kFnI RX8 yX8_takeAdd cX8_takeAdd 7 none 1 80 := ⟨⟨kC_376, kC_121, kC_372, ⟨by decide +kernel, by decide +kernel, by decide +kernel⟩, by decide⟩, kC_377, kC_378⟩
theorem fn_X8_X8_takeRemoval : kFnI RX8 yX8_takeRemoval cX8_takeRemoval 4 none 3 94 := ⟨⟨kC_379, kC_121, kC_373, ⟨by decide +kernel, by decide +kernel, by decide +kernel⟩, by decide⟩, kC_380, kC_381⟩
theorem fn_X8_X6_say : kFnI RX8 yX6_say cX6_say 6 none 3 104 := ⟨⟨kC_382, kC_181, kC_319, ⟨by decide +kernel, by decide +kernel, by decide +kernel⟩, by decide⟩, kC_383, kC_384⟩
theorem fn_X8_X8_comesTo : kFnI RX8 yX8_comesTo cX8_comesTo 5 (some .boolean) 2 107 := ⟨⟨kC_385, kC_121, kC_374, ⟨by decide +kernel, by decide +kernel, by decide +kernel⟩, by decide⟩, kC_386, kC_387⟩
theorem fn_X8_X8_isLive : kFnI RX8 yX8_isLive cX8_isLive 2 (some .boolean) 1 146 := ⟨⟨kC_163, kC_121, kC_140, ⟨by decide +kernel, by decide +kernel, by decide +kernel⟩, by decide⟩, kC_145, kC_146⟩
theorem fn_X8_X8_placeOf : kFnI RX8 yX8_placeOf cX8_placeOf 2 (some .int) 1 149 := ⟨⟨kC_165, kC_121, kC_161, ⟨by decide +kernel, by decide +kernel, by decide +kernel⟩, by decide⟩, kC_166, kC_167⟩
theorem fn_X8_X8_shownName : kFnI RX8 yX8_shownName cX8_shownName 5 (some .int) 1 152 := ⟨⟨kC_245, kC_121, kC_234, ⟨by decide +kernel, by decide +kernel, by decide +kernel⟩, by decide⟩, kC_246, kC_247⟩
theorem fn_X8_X8_childrenAt : kFnI RX8 yX8_childrenAt cX8_childrenAt 5 (some .long) 1 155 := ⟨⟨kC_241, kC_121, kC_212, ⟨by decide +kernel, by decide +kernel, by decide +kernel⟩, by decide⟩, kC_214, kC_215⟩
-- ===== X8_clear =====
def pX8_clear (N : Nat) (n0 : Nat) (S : kS) : Option (Unit × kS) :=
    bk (pJ7_fill_53178 N (26 + 15 * n0 + 1) 48 (0 : Int32) S) fun v101 S102 =>
    bk (pJ7_fill_53178 N (26 + 15 * n0 + 2) 48 (-1 : Int32) S102) fun v103 S104 =>
    bk (pJ7_fill_53178 N (26 + 15 * n0 + 3) 48 (-1 : Int32) S104) fun v105 S106 =>
    bk (pJ7_fill_53178 N (26 + 15 * n0 + 4) 48 (-1 : Int32) S106) fun v107 S108 =>
    bk (pX6_clear N n0 S108) fun v109 S110 =>
    bk (pX5_clear N n0 0 S110) fun v111 S112 =>
    bk (pX5_clear N n0 1 S112) fun v113 S114 =>
    svk (sL S114 (8 + 2 * n0) (1 : Int64)) fun S115 =>
    svk (sL S115 (9 + 2 * n0) (0 : Int64)) fun S116 =>
    some ((), S116)
set_option maxRecDepth 100000 in
set_option maxHeartbeats 4000000 in
theorem c_X8_clear (l : Launch) (N : Nat) (n0 : Nat) (hn0 : n0 < 5) : kMet l yX8_clear cX8_clear 1 none 2 (fun g => [.ref (g.2.1 (26 + 15 * n0))]) rU (pX8_clear N n0) := by
  refine kStart RX8 (by decide +kernel) rfl (fun g => [(0, .ref (g.2.1 (26 + 15 * n0)))]) (fun _ => Nat.le_of_ble_eq_true rfl) (fun _ => rfl) ?_
  intro dC dI g sz Si r Sf hpf p e s m args below meth c X hr H locs I ls hl
  have hx := X.1
  have hb := X.2.1
  unfold pX8_clear at hpf
  refine lv_aload_n hx hb dX8_clear_0 rfl (lv_at hl 0 rfl) ?_
  refine k_get (k := 0) X I kCl_8 (kO_T g Si n0 hn0) 0 (by decide) rfl kC_235 1 dX8_clear_1 ?_
  refine lv_iconst (v := (0 : Int32)) hx hb dX8_clear_4 (by decide) ?_
  refine k_cSv (rest := []) (As := [.ref (g.2.1 (26 + 15 * n0 + 1)), .int (0 : Int32)]) (d := 2) ⟨Nat.le_refl _, Nat.le_refl _⟩ X I fn_X8_J7_fill_53178 (c_J7_fill_53178 l N (26 + 15 * n0 + 1) 48 (kR_T1 n0 hn0) (0 : Int32)) rfl (by decide) 5 dX8_clear_5 rfl hl.1 rfl (Nat.le_of_ble_eq_true rfl) ⟨Nat.le_of_ble_eq_true rfl, Nat.le_of_ble_eq_true rfl⟩ hpf (fun v101 S102 H locs I hm hpf => ?_)
  refine lv_aload_n hx hb dX8_clear_8 rfl (lv_at hl 0 rfl) ?_
  refine k_get (k := 0) X I kCl_8 (kO_T g S102 n0 hn0) 1 (by decide) rfl kC_329 9 dX8_clear_9 ?_
  refine lv_iconst (v := (-1 : Int32)) hx hb dX8_clear_12 (by decide) ?_
  refine k_cSv (rest := []) (As := [.ref (g.2.1 (26 + 15 * n0 + 2)), .int (-1 : Int32)]) (d := 2) ⟨Nat.le_refl _, Nat.le_refl _⟩ X I fn_X8_J7_fill_53178 (c_J7_fill_53178 l N (26 + 15 * n0 + 2) 48 (kR_T2 n0 hn0) (-1 : Int32)) rfl (by decide) 13 dX8_clear_13 rfl hl.1 rfl (Nat.le_of_ble_eq_true rfl) ⟨Nat.le_of_ble_eq_true rfl, Nat.le_of_ble_eq_true rfl⟩ hpf (fun v103 S104 H locs I hm hpf => ?_)
  refine lv_aload_n hx hb dX8_clear_16 rfl (lv_at hl 0 rfl) ?_
  refine k_get (k := 0) X I kCl_8 (kO_T g S104 n0 hn0) 2 (by decide) rfl kC_330 17 dX8_clear_17 ?_
  refine lv_iconst (v := (-1 : Int32)) hx hb dX8_clear_20 (by decide) ?_
  refine k_cSv (rest := []) (As := [.ref (g.2.1 (26 + 15 * n0 + 3)), .int (-1 : Int32)]) (d := 2) ⟨Nat.le_refl _, Nat.le_refl _⟩ X I fn_X8_J7_fill_53178 (c_J7_fill_53178 l N (26 + 15 * n0 + 3) 48 (kR_T3 n0 hn0) (-1 : Int32)) rfl (by decide) 21 dX8_clear_21 rfl hl.1 rfl (Nat.le_of_ble_eq_true rfl) ⟨Nat.le_of_ble_eq_true rfl, Nat.le_of_ble_eq_true rfl⟩ hpf (fun v105 S106 H locs I hm hpf => ?_)
  refine lv_aload_n hx hb dX8_clear_24 rfl (lv_at hl 0 rfl) ?_
  refine k_get (k := 0) X I kCl_8 (kO_T g S106 n0 hn0) 5 (by decide) rfl kC_162 25 dX8_clear_25 ?_
  refine lv_iconst (v := (-1 : Int32)) hx hb dX8_clear_28 (by decide) ?_
  refine k_cSv (rest := []) (As := [.ref (g.2.1 (26 + 15 * n0 + 4)), .int (-1 : Int32)]) (d := 2) ⟨Nat.le_refl _, Nat.le_refl _⟩ X I fn_X8_J7_fill_53178 (c_J7_fill_53178 l N (26 + 15 * n0 + 4) 48 (kR_T4 n0 hn0) (-1 : Int32)) rfl (by decide) 29 dX8_clear_29 rfl hl.1 rfl (Nat.le_of_ble_eq_true rfl) ⟨Nat.le_of_ble_eq_true rfl, Nat.le_of_ble_eq_true rfl⟩ hpf (fun v107 S108 H locs I hm hpf => ?_)
  refine lv_aload_n hx hb dX8_clear_32 rfl (lv_at hl 0 rfl) ?_
  refine k_get (k := 0) X I kCl_8 (kO_T g S108 n0 hn0) 3 (by decide) rfl kC_185 33 dX8_clear_33 ?_
  refine k_cIv (rest := []) (As := []) (d := 2) ⟨Nat.le_refl _, Nat.le_refl _⟩ X I fn_X8_X6_clear kCl_6 rfl (kO_R g S108 n0 hn0) (c_X6_clear l N n0 hn0) rfl (by decide) 36 dX8_clear_36 rfl hl.1 rfl (Nat.le_of_ble_eq_true rfl) ⟨Nat.le_of_ble_eq_true rfl, Nat.le_of_ble_eq_true rfl⟩ hpf (fun v109 S110 H locs I hm hpf => ?_)
  refine lv_aload_n hx hb dX8_clear_39 rfl (lv_at hl 0 rfl) ?_
  refine k_get (k := 0) X I kCl_8 (kO_T g S110 n0 hn0) 7 (by decide) rfl kC_111 40 dX8_clear_40 ?_
  refine k_cIv (rest := []) (As := []) (d := 2) ⟨Nat.le_refl _, Nat.le_refl _⟩ X I fn_X8_X5_clear kCl_5 rfl (kO_N g S110 n0 0 hn0 (by decide)) (c_X5_clear l N n0 0 hn0 (by decide)) rfl (by decide) 43 dX8_clear_43 rfl hl.1 rfl (Nat.le_of_ble_eq_true rfl) ⟨Nat.le_of_ble_eq_true rfl, Nat.le_of_ble_eq_true rfl⟩ hpf (fun v111 S112 H locs I hm hpf => ?_)
  refine lv_aload_n hx hb dX8_clear_46 rfl (lv_at hl 0 rfl) ?_
  refine k_get (k := 0) X I kCl_8 (kO_T g S112 n0 hn0) 8 (by decide) rfl kC_132 47 dX8_clear_47 ?_
  refine k_cIv (rest := []) (As := []) (d := 2) ⟨Nat.le_refl _, Nat.le_refl _⟩ X I fn_X8_X5_clear kCl_5 rfl (kO_N g S112 n0 1 hn0 (by decide)) (c_X5_clear l N n0 1 hn0 (by decide)) rfl (by decide) 50 dX8_clear_50 rfl hl.1 rfl (Nat.le_of_ble_eq_true rfl) ⟨Nat.le_of_ble_eq_true rfl, Nat.le_of_ble_eq_true rfl⟩ hpf (fun v113 S114 H locs I hm hpf => ?_)
  refine lv_aload_n hx hb dX8_clear_53 rfl (lv_at hl 0 rfl) ?_
  refine lv_lconst (v := (1 : Int64)) hx hb dX8_clear_54 (by decide) ?_
  refine k_put (ty := .long) X I kCl_8 tyX8_ok nmX8 (kO_T g S114 n0 hn0) 10 (by decide) (Nat.le_of_ble_eq_true rfl) (kP_T10 n0 hn0 g S114 _) ⟨rfl, rfl, rfl⟩ kC_128 rfl (by decide +kernel) rfl rfl 55 dX8_clear_55 hpf (fun S115 H locs I hm hpf => ?_)
  refine lv_aload_n hx hb dX8_clear_58 rfl (lv_at hl 0 rfl) ?_
  refine lv_lconst (v := (0 : Int64)) hx hb dX8_clear_59 (by decide) ?_
  refine k_put (ty := .long) X I kCl_8 tyX8_ok nmX8 (kO_T g S115 n0 hn0) 11 (by decide) (Nat.le_of_ble_eq_true rfl) (kP_T11 n0 hn0 g S115 _) ⟨rfl, rfl, rfl⟩ kC_129 rfl (by decide +kernel) rfl rfl 60 dX8_clear_60 hpf (fun S116 H locs I hm hpf => ?_)
  exact k_retv X I hr 63 dX8_clear_63 hpf
-- ===== X8_comesTo =====
def pX8_comesTo_5 (N : Nat) (n0 : Nat) : Nat → Int32 → Int32 → Int32 → kS → Option (Int32 × kS)
  | 0 => fun _ _ _ _ => none
  | n_5 + 1 => fun x2 x3 x4 S =>
    if (48 : Int32) ≤ x4 then (
      some ((0 : Int32), S))
    else (
      if x3 < (0 : Int32) then (
        some ((0 : Int32), S))
      else (
        if (48 : Int32) ≤ x3 then (
          some ((0 : Int32), S))
        else (
          if x3 = x2 then (
            some ((1 : Int32), S))
          else (
            gd x3 48 <|
            nm (kA S (26 + 15 * n0 + 4) x3.toNatClampNeg) fun y101 =>
            nm (x4 + (1 : Int32)) fun y102 =>
            pX8_comesTo_5 N n0 n_5 x2 y101 y102 S))))
def pX8_comesTo (N : Nat) (n0 : Nat) (x1 : Int32) (x2 : Int32) (S : kS) : Option (Int32 × kS) :=
    pX8_comesTo_5 N n0 N x2 x1 (0 : Int32) S
set_option maxRecDepth 100000 in
set_option maxHeartbeats 4000000 in
theorem c_X8_comesTo (l : Launch) (N : Nat) (n0 : Nat) (hn0 : n0 < 5) (x1 : Int32) (x2 : Int32) : kMet l yX8_comesTo cX8_comesTo 5 (some .boolean) 0 (fun g => [.ref (g.2.1 (26 + 15 * n0)), .int x1, .int x2]) rI (pX8_comesTo N n0 x1 x2) := by
  refine kStart RX8 (by decide +kernel) rfl (fun g => [(0, .ref (g.2.1 (26 + 15 * n0))), (1, .int x1), (2, .int x2)]) (fun _ => Nat.le_of_ble_eq_true rfl) (fun _ => rfl) ?_
  intro dC dI g sz Si r Sf hpf p e s m args below meth c X hr H locs I ls hl
  have hx := X.1
  have hb := X.2.1
  unfold pX8_comesTo at hpf
  have hC_5 : ∀ (n_5 : Nat), ∀ (x2 : Int32) (x3 : Int32) (x4 : Int32) (S : kS) (H : Heap) (locs : List Loc), kV dC dI g (kAt g (kn Si) (km Si) (kp Si) sz) s Si S H locs → ∀ ls : Array Slot, lv_has ls 5 [(0, .ref (g.2.1 (26 + 15 * n0))), (2, .int x2), (3, .int x3), (4, .int x4)] → pX8_comesTo_5 N n0 n_5 x2 x3 x4 S = some (r, Sf) → W p l e (mRm 0) s m args below meth c H locs 0 0 (MQ below (kQ dC dI g sz Si (rI g r) Sf) args s 0 0 (kAt g (kn Si) (km Si) (kp Si) sz)) (F0 m 5 ls []) := by
    intro n_5
    induction n_5 with
    | zero =>
      intro x2 x3 x4 S H locs I ls hl hpf
      rw [pX8_comesTo_5] at hpf
      cases hpf
    | succ n_5 ih_5 =>
      intro x2 x3 x4 S H locs I ls hl hpf
      rw [pX8_comesTo_5] at hpf
      refine lv_iload hx hb dX8_comesTo_5 (lv_at hl 3 rfl) ?_
      refine lv_bipush (v := (48 : Int32)) hx hb dX8_comesTo_7 (by decide) ?_
      refine b_icmp_ge hx hb 42 9 dX8_comesTo_9 (by decide) hpf (fun hpf => ?_) (fun hpf => ?_)
      · refine lv_iconst (v := (0 : Int32)) hx hb dX8_comesTo_42 (by decide) ?_
        exact k_retzc X I hr 43 dX8_comesTo_43 (by decide) hpf
      refine lv_iload_n hx hb dX8_comesTo_12 rfl (lv_at hl 2 rfl) ?_
      refine b_if_lt hx hb 42 13 dX8_comesTo_13 (by decide) hpf (fun hpf => ?_) (fun hpf => ?_)
      · refine lv_iconst (v := (0 : Int32)) hx hb dX8_comesTo_42 (by decide) ?_
        exact k_retzc X I hr 43 dX8_comesTo_43 (by decide) hpf
      refine lv_iload_n hx hb dX8_comesTo_16 rfl (lv_at hl 2 rfl) ?_
      refine lv_bipush (v := (48 : Int32)) hx hb dX8_comesTo_17 (by decide) ?_
      refine b_icmp_ge hx hb 42 19 dX8_comesTo_19 (by decide) hpf (fun hpf => ?_) (fun hpf => ?_)
      · refine lv_iconst (v := (0 : Int32)) hx hb dX8_comesTo_42 (by decide) ?_
        exact k_retzc X I hr 43 dX8_comesTo_43 (by decide) hpf
      refine lv_iload_n hx hb dX8_comesTo_22 rfl (lv_at hl 2 rfl) ?_
      refine lv_iload_n hx hb dX8_comesTo_23 rfl (lv_at hl 1 rfl) ?_
      refine b_icmp_ne hx hb 29 24 dX8_comesTo_24 (by decide) hpf (fun hpf => ?_) (fun hpf => ?_)
      · refine lv_aload_n hx hb dX8_comesTo_29 rfl (lv_at hl 0 rfl) ?_
        refine k_get (k := 0) X I kCl_8 (kO_T g S n0 hn0) 5 (by decide) rfl kC_162 30 dX8_comesTo_30 ?_
        refine lv_iload_n hx hb dX8_comesTo_33 rfl (lv_at hl 2 rfl) ?_
        refine k_iald X I (kR_T4 n0 hn0) 34 dX8_comesTo_34 hpf (fun hpf => ?_)
        refine m_isto_n hx hb (fun y101 => [(3, .int y101), (0, .ref (g.2.1 (26 + 15 * n0))), (2, .int x2), (4, .int x4)]) 35 dX8_comesTo_35 rfl hl (by decide) (fun _ => rfl) hpf (fun y101 ls hl hpf => ?_)
        refine m_iinc (w := (1 : Int32)) hx hb (fun y102 => [(4, .int y102), (3, .int y101), (0, .ref (g.2.1 (26 + 15 * n0))), (2, .int x2)]) 36 dX8_comesTo_36 hl (k := 3) rfl (by decide) (by decide) (fun _ => rfl) hpf (fun y102 ls hl hpf => ?_)
        refine lv_goto (tgt := 5) hx hb dX8_comesTo_39 (by decide) ?_
        exact ih_5 x2 y101 y102 S H locs I ls (lv_sub hl [2, 3, 1, 0] rfl) hpf
      refine lv_iconst (v := (1 : Int32)) hx hb dX8_comesTo_27 (by decide) ?_
      exact k_retzc X I hr 28 dX8_comesTo_28 (by decide) hpf
  refine lv_iload_n hx hb dX8_comesTo_0 rfl (lv_at hl 1 rfl) ?_
  refine lv_istore_n (lv' := [(3, .int x1), (0, .ref (g.2.1 (26 + 15 * n0))), (1, .int x1), (2, .int x2)]) hx hb dX8_comesTo_1 rfl hl (by decide) rfl (fun ls hl => ?_)
  refine lv_iconst (v := (0 : Int32)) hx hb dX8_comesTo_2 (by decide) ?_
  refine lv_istore (lv' := [(4, .int (0 : Int32)), (3, .int x1), (0, .ref (g.2.1 (26 + 15 * n0))), (1, .int x1), (2, .int x2)]) hx hb dX8_comesTo_3 hl (by decide) rfl (fun ls hl => ?_)
  exact hC_5 N x2 x1 (0 : Int32) Si H locs I ls (lv_sub hl [2, 4, 1, 0] rfl) hpf
-- ===== X8_dropValues =====
def pX8_dropValues_57 (N : Nat) (n0 : Nat) : Nat → Int32 → Int32 → Int32 → kS → Option (Unit × kS)
  | 0 => fun _ _ _ _ => none
  | n_57 + 1 => fun x1 x7 x8 S =>
    if x8 < x7 then (
      some ((), S))
    else (
      bk (pX5_at N n0 0 x8 S) fun v101 S102 =>
      nm (v101 - v101 / (10000 : Int32) * (10000 : Int32)) fun y103 =>
      bk (pX5_dropAt N n0 0 x8 S102) fun v104 S105 =>
      bk (pX5_indexOf N n0 1 ((y103 * (48 : Int32)) + x1) S105) fun v106 S107 =>
      bk (pX5_dropAt N n0 1 v106 S107) fun v108 S109 =>
      nm (x8 + (-1 : Int32)) fun y110 =>
      pX8_dropValues_57 N n0 n_57 x1 x7 y110 S109)
def pX8_dropValues (N : Nat) (n0 : Nat) (x1 : Int32) (x2 : Int32) (x3 : Int32) (x4 : Int32) (S : kS) : Option (Unit × kS) :=
    nm (((x1 * (10000 : Int32)) + (x2 * (1000 : Int32))) + x3) fun y101 =>
    nm (((x1 * (10000 : Int32)) + (x2 * (1000 : Int32))) + x4) fun y102 =>
    bk (pX5_indexOf N n0 0 y101 S) fun v103 S104 =>
    bk (pX5_indexOf N n0 0 (y102 + (1 : Int32)) S104) fun v105 S106 =>
    nm (v105 - (1 : Int32)) fun y107 =>
    pX8_dropValues_57 N n0 N x1 v103 y107 S106
set_option maxRecDepth 100000 in
set_option maxHeartbeats 4000000 in
theorem c_X8_dropValues (l : Launch) (N : Nat) (n0 : Nat) (hn0 : n0 < 5) (x1 : Int32) (x2 : Int32) (x3 : Int32) (x4 : Int32) : kMet l yX8_dropValues cX8_dropValues 10 none 2 (fun g => [.ref (g.2.1 (26 + 15 * n0)), .int x1, .int x2, .int x3, .int x4]) rU (pX8_dropValues N n0 x1 x2 x3 x4) := by
  refine kStart RX8 (by decide +kernel) rfl (fun g => [(0, .ref (g.2.1 (26 + 15 * n0))), (1, .int x1), (2, .int x2), (3, .int x3), (4, .int x4)]) (fun _ => Nat.le_of_ble_eq_true rfl) (fun _ => rfl) ?_
  intro dC dI g sz Si r Sf hpf p e s m args below meth c X hr H locs I ls hl
  have hx := X.1
  have hb := X.2.1
  unfold pX8_dropValues at hpf
  have hC_57 : ∀ (n_57 : Nat), ∀ (x1 : Int32) (x7 : Int32) (x8 : Int32) (S : kS) (H : Heap) (locs : List Loc), kV dC dI g (kAt g (kn Si) (km Si) (kp Si) sz) s Si S H locs → ∀ ls : Array Slot, lv_has ls 10 [(0, .ref (g.2.1 (26 + 15 * n0))), (1, .int x1), (7, .int x7), (8, .int x8)] → pX8_dropValues_57 N n0 n_57 x1 x7 x8 S = some (r, Sf) → W p l e (mRm 2) s m args below meth c H locs 0 0 (MQ below (kQ dC dI g sz Si (rU g r) Sf) args s 0 0 (kAt g (kn Si) (km Si) (kp Si) sz)) (F0 m 57 ls []) := by
    intro n_57
    induction n_57 with
    | zero =>
      intro x1 x7 x8 S H locs I ls hl hpf
      rw [pX8_dropValues_57] at hpf
      cases hpf
    | succ n_57 ih_57 =>
      intro x1 x7 x8 S H locs I ls hl hpf
      rw [pX8_dropValues_57] at hpf
      refine lv_iload hx hb dX8_dropValues_57 (lv_at hl 3 rfl) ?_
      refine lv_iload hx hb dX8_dropValues_59 (lv_at hl 2 rfl) ?_
      refine b_icmp_lt hx hb 115 61 dX8_dropValues_61 (by decide) hpf (fun hpf => ?_) (fun hpf => ?_)
      · exact k_retv X I hr 115 dX8_dropValues_115 hpf
      refine lv_aload_n hx hb dX8_dropValues_64 rfl (lv_at hl 0 rfl) ?_
      refine k_get (k := 0) X I kCl_8 (kO_T g S n0 hn0) 7 (by decide) rfl kC_111 65 dX8_dropValues_65 ?_
      refine lv_iload hx hb dX8_dropValues_68 (lv_at hl 3 rfl) ?_
      refine k_cIi (rest := []) (As := [.int x8]) (d := 2) ⟨Nat.le_refl _, Nat.le_refl _⟩ X I fn_X8_X5_at kCl_5 rfl (kO_N g S n0 0 hn0 (by decide)) (c_X5_at l N n0 0 hn0 (by decide) x8) rfl (by decide) 70 dX8_dropValues_70 rfl hl.1 rfl (Nat.le_of_ble_eq_true rfl) ⟨Nat.le_of_ble_eq_true rfl, Nat.le_of_ble_eq_true rfl⟩ hpf (fun v101 S102 H locs I hm hpf => ?_)
      refine lv_sipush (v := (10000 : Int32)) hx hb dX8_dropValues_73 (by decide) ?_
      refine lv_irem hx hb dX8_dropValues_76 (by decide) ?_
      refine m_isto hx hb (fun y103 => [(9, .int y103), (0, .ref (g.2.1 (26 + 15 * n0))), (1, .int x1), (7, .int x7), (8, .int x8)]) 77 dX8_dropValues_77 hl (by decide) (fun _ => rfl) hpf (fun y103 ls hl hpf => ?_)
      refine lv_aload_n hx hb dX8_dropValues_79 rfl (lv_at hl 1 rfl) ?_
      refine k_get (k := 0) X I kCl_8 (kO_T g S102 n0 hn0) 7 (by decide) rfl kC_111 80 dX8_dropValues_80 ?_
      refine lv_iload hx hb dX8_dropValues_83 (lv_at hl 4 rfl) ?_
      refine k_cIv (rest := []) (As := [.int x8]) (d := 2) ⟨Nat.le_refl _, Nat.le_refl _⟩ X I fn_X8_X5_dropAt kCl_5 rfl (kO_N g S102 n0 0 hn0 (by decide)) (c_X5_dropAt l N n0 0 hn0 (by decide) x8) rfl (by decide) 85 dX8_dropValues_85 rfl hl.1 rfl (Nat.le_of_ble_eq_true rfl) ⟨Nat.le_of_ble_eq_true rfl, Nat.le_of_ble_eq_true rfl⟩ hpf (fun v104 S105 H locs I hm hpf => ?_)
      refine lv_aload_n hx hb dX8_dropValues_88 rfl (lv_at hl 1 rfl) ?_
      refine k_get (k := 0) X I kCl_8 (kO_T g S105 n0 hn0) 8 (by decide) rfl kC_132 89 dX8_dropValues_89 ?_
      refine lv_aload_n hx hb dX8_dropValues_92 rfl (lv_at hl 1 rfl) ?_
      refine k_get (k := 0) X I kCl_8 (kO_T g S105 n0 hn0) 8 (by decide) rfl kC_132 93 dX8_dropValues_93 ?_
      refine lv_iload hx hb dX8_dropValues_96 (lv_at hl 0 rfl) ?_
      refine lv_bipush (v := (48 : Int32)) hx hb dX8_dropValues_98 (by decide) ?_
      refine lv_imul hx hb dX8_dropValues_100 ?_
      refine lv_iload_n hx hb dX8_dropValues_101 rfl (lv_at hl 2 rfl) ?_
      refine lv_iadd hx hb dX8_dropValues_102 ?_
      refine k_cIi (rest := [.ref (g.2.1 (26 + 15 * n0 + 9 + 2 * 1))]) (As := [.int ((y103 * (48 : Int32)) + x1)]) (d := 2) ⟨Nat.le_refl _, Nat.le_refl _⟩ X I fn_X8_X5_indexOf kCl_5 rfl (kO_N g S105 n0 1 hn0 (by decide)) (c_X5_indexOf l N n0 1 hn0 (by decide) ((y103 * (48 : Int32)) + x1)) rfl (by decide) 103 dX8_dropValues_103 rfl hl.1 rfl (Nat.le_of_ble_eq_true rfl) ⟨Nat.le_of_ble_eq_true rfl, Nat.le_of_ble_eq_true rfl⟩ hpf (fun v106 S107 H locs I hm hpf => ?_)
      refine k_cIv (rest := []) (As := [.int v106]) (d := 2) ⟨Nat.le_refl _, Nat.le_refl _⟩ X I fn_X8_X5_dropAt kCl_5 rfl (kO_N g S107 n0 1 hn0 (by decide)) (c_X5_dropAt l N n0 1 hn0 (by decide) v106) rfl (by decide) 106 dX8_dropValues_106 rfl hl.1 rfl (Nat.le_of_ble_eq_true rfl) ⟨Nat.le_of_ble_eq_true rfl, Nat.le_of_ble_eq_true rfl⟩ hpf (fun v108 S109 H locs I hm hpf => ?_)
      refine m_iinc (w := (-1 : Int32)) hx hb (fun y110 => [(8, .int y110), (9, .int y103), (0, .ref (g.2.1 (26 + 15 * n0))), (1, .int x1), (7, .int x7)]) 109 dX8_dropValues_109 hl (k := 4) rfl (by decide) (by decide) (fun _ => rfl) hpf (fun y110 ls hl hpf => ?_)
      refine lv_goto (tgt := 57) hx hb dX8_dropValues_112 (by decide) ?_
      exact ih_57 x1 x7 y110 S109 H locs I ls (lv_sub hl [2, 3, 4, 0] rfl) hpf
  refine lv_iload_n hx hb dX8_dropValues_0 rfl (lv_at hl 1 rfl) ?_
  refine lv_sipush (v := (10000 : Int32)) hx hb dX8_dropValues_1 (by decide) ?_
  refine lv_imul hx hb dX8_dropValues_4 ?_
  refine lv_iload_n hx hb dX8_dropValues_5 rfl (lv_at hl 2 rfl) ?_
  refine lv_sipush (v := (1000 : Int32)) hx hb dX8_dropValues_6 (by decide) ?_
  refine lv_imul hx hb dX8_dropValues_9 ?_
  refine lv_iadd hx hb dX8_dropValues_10 ?_
  refine lv_iload_n hx hb dX8_dropValues_11 rfl (lv_at hl 3 rfl) ?_
  refine lv_iadd hx hb dX8_dropValues_12 ?_
  refine m_isto hx hb (fun y101 => [(5, .int y101), (0, .ref (g.2.1 (26 + 15 * n0))), (1, .int x1), (2, .int x2), (3, .int x3), (4, .int x4)]) 13 dX8_dropValues_13 hl (by decide) (fun _ => rfl) hpf (fun y101 ls hl hpf => ?_)
  refine lv_iload_n hx hb dX8_dropValues_15 rfl (lv_at hl 2 rfl) ?_
  refine lv_sipush (v := (10000 : Int32)) hx hb dX8_dropValues_16 (by decide) ?_
  refine lv_imul hx hb dX8_dropValues_19 ?_
  refine lv_iload_n hx hb dX8_dropValues_20 rfl (lv_at hl 3 rfl) ?_
  refine lv_sipush (v := (1000 : Int32)) hx hb dX8_dropValues_21 (by decide) ?_
  refine lv_imul hx hb dX8_dropValues_24 ?_
  refine lv_iadd hx hb dX8_dropValues_25 ?_
  refine lv_iload hx hb dX8_dropValues_26 (lv_at hl 5 rfl) ?_
  refine lv_iadd hx hb dX8_dropValues_28 ?_
  refine m_isto hx hb (fun y102 => [(6, .int y102), (5, .int y101), (0, .ref (g.2.1 (26 + 15 * n0))), (1, .int x1), (2, .int x2), (3, .int x3), (4, .int x4)]) 29 dX8_dropValues_29 hl (by decide) (fun _ => rfl) hpf (fun y102 ls hl hpf => ?_)
  refine lv_aload_n hx hb dX8_dropValues_31 rfl (lv_at hl 2 rfl) ?_
  refine k_get (k := 0) X I kCl_8 (kO_T g Si n0 hn0) 7 (by decide) rfl kC_111 32 dX8_dropValues_32 ?_
  refine lv_iload hx hb dX8_dropValues_35 (lv_at hl 1 rfl) ?_
  refine k_cIi (rest := []) (As := [.int y101]) (d := 2) ⟨Nat.le_refl _, Nat.le_refl _⟩ X I fn_X8_X5_indexOf kCl_5 rfl (kO_N g Si n0 0 hn0 (by decide)) (c_X5_indexOf l N n0 0 hn0 (by decide) y101) rfl (by decide) 37 dX8_dropValues_37 rfl hl.1 rfl (Nat.le_of_ble_eq_true rfl) ⟨Nat.le_of_ble_eq_true rfl, Nat.le_of_ble_eq_true rfl⟩ hpf (fun v103 S104 H locs I hm hpf => ?_)
  refine lv_istore (lv' := [(7, .int v103), (6, .int y102), (5, .int y101), (0, .ref (g.2.1 (26 + 15 * n0))), (1, .int x1), (2, .int x2), (3, .int x3), (4, .int x4)]) hx hb dX8_dropValues_40 hl (by decide) rfl (fun ls hl => ?_)
  refine lv_aload_n hx hb dX8_dropValues_42 rfl (lv_at hl 3 rfl) ?_
  refine k_get (k := 0) X I kCl_8 (kO_T g S104 n0 hn0) 7 (by decide) rfl kC_111 43 dX8_dropValues_43 ?_
  refine lv_iload hx hb dX8_dropValues_46 (lv_at hl 1 rfl) ?_
  refine lv_iconst (v := (1 : Int32)) hx hb dX8_dropValues_48 (by decide) ?_
  refine lv_iadd hx hb dX8_dropValues_49 ?_
  refine k_cIi (rest := []) (As := [.int (y102 + (1 : Int32))]) (d := 2) ⟨Nat.le_refl _, Nat.le_refl _⟩ X I fn_X8_X5_indexOf kCl_5 rfl (kO_N g S104 n0 0 hn0 (by decide)) (c_X5_indexOf l N n0 0 hn0 (by decide) (y102 + (1 : Int32))) rfl (by decide) 50 dX8_dropValues_50 rfl hl.1 rfl (Nat.le_of_ble_eq_true rfl) ⟨Nat.le_of_ble_eq_true rfl, Nat.le_of_ble_eq_true rfl⟩ hpf (fun v105 S106 H locs I hm hpf => ?_)
  refine lv_iconst (v := (1 : Int32)) hx hb dX8_dropValues_53 (by decide) ?_
  refine lv_isub hx hb dX8_dropValues_54 ?_
  refine m_isto hx hb (fun y107 => [(8, .int y107), (7, .int v103), (6, .int y102), (5, .int y101), (0, .ref (g.2.1 (26 + 15 * n0))), (1, .int x1), (2, .int x2), (3, .int x3), (4, .int x4)]) 55 dX8_dropValues_55 hl (by decide) (fun _ => rfl) hpf (fun y107 ls hl hpf => ?_)
  exact hC_57 N x1 v103 y107 S106 H locs I ls (lv_sub hl [4, 5, 1, 0] rfl) hpf
-- ===== X8_takeValue =====
def pX8_takeValue_50 (N : Nat) (n0 : Nat) (t0 : Int32) (x1 : Int32) (x2 : Int32) (x3 : Int32) (x5 : Int32) (S : kS) : Option (Unit × kS) :=
    bk (pX8_dropValues N n0 x1 x2 x5 t0 S) fun v101 S102 =>
    nm ((x2 * (1000 : Int32)) + x3) fun y103 =>
    bk (pX5_put N n0 0 ((x1 * (10000 : Int32)) + y103) S102) fun v104 S105 =>
    bk (pX5_put N n0 1 ((y103 * (48 : Int32)) + x1) S105) fun v106 S107 =>
    some ((), S107)
def pX8_takeValue_28 (N : Nat) (n0 : Nat) (t0 : Int32) (x1 : Int32) (x2 : Int32) (x3 : Int32) (x4 : Int32) (S : kS) : Option (Unit × kS) :=
    if x4 = (0 : Int32) then (
      bk (pX7_highest N x2 x3 S) fun v101 S102 =>
      pX8_takeValue_50 N n0 v101 x1 x2 x3 t0 S102)
    else (
      pX8_takeValue_50 N n0 (999 : Int32) x1 x2 x3 t0 S)
def pX8_takeValue (N : Nat) (n0 : Nat) (x1 : Int32) (x2 : Int32) (x3 : Int32) (S : kS) : Option (Unit × kS) :=
    bk (pX7_isSingle N x2 S) fun v101 S102 =>
    if v101 = (0 : Int32) then (
      bk (pX7_lowest N x2 x3 S102) fun v103 S104 =>
      pX8_takeValue_28 N n0 v103 x1 x2 x3 v101 S104)
    else (
      pX8_takeValue_28 N n0 (0 : Int32) x1 x2 x3 v101 S102)
set_option maxRecDepth 100000 in
set_option maxHeartbeats 4000000 in
theorem c_X8_takeValue (l : Launch) (N : Nat) (n0 : Nat) (hn0 : n0 < 5) (x1 : Int32) (x2 : Int32) (x3 : Int32) : kMet l yX8_takeValue cX8_takeValue 8 none 3 (fun g => [.ref (g.2.1 (26 + 15 * n0)), .int x1, .int x2, .int x3]) rU (pX8_takeValue N n0 x1 x2 x3) := by
  refine kStart RX8 (by decide +kernel) rfl (fun g => [(0, .ref (g.2.1 (26 + 15 * n0))), (1, .int x1), (2, .int x2), (3, .int x3)]) (fun _ => Nat.le_of_ble_eq_true rfl) (fun _ => rfl) ?_
  intro dC dI g sz Si r Sf hpf p e s m args below meth c X hr H locs I ls hl
  have hx := X.1
  have hb := X.2.1
  unfold pX8_takeValue at hpf
  have hC_50 : ∀ (t0 : Int32) (x1 : Int32) (x2 : Int32) (x3 : Int32) (x5 : Int32) (S : kS) (H : Heap) (locs : List Loc), kV dC dI g (kAt g (kn Si) (km Si) (kp Si) sz) s Si S H locs → ∀ ls : Array Slot, lv_has ls 8 [(0, .ref (g.2.1 (26 + 15 * n0))), (1, .int x1), (2, .int x2), (3, .int x3), (5, .int x5)] → pX8_takeValue_50 N n0 t0 x1 x2 x3 x5 S = some (r, Sf) → W p l e (mRm 3) s m args below meth c H locs 0 0 (MQ below (kQ dC dI g sz Si (rU g r) Sf) args s 0 0 (kAt g (kn Si) (km Si) (kp Si) sz)) (F0 m 50 ls [.int t0]) := by
    intro t0 x1 x2 x3 x5 S H locs I ls hl hpf
    unfold pX8_takeValue_50 at hpf
    refine lv_istore (lv' := [(6, .int t0), (0, .ref (g.2.1 (26 + 15 * n0))), (1, .int x1), (2, .int x2), (3, .int x3), (5, .int x5)]) hx hb dX8_takeValue_50 hl (by decide) rfl (fun ls hl => ?_)
    refine lv_aload_n hx hb dX8_takeValue_52 rfl (lv_at hl 1 rfl) ?_
    refine lv_iload_n hx hb dX8_takeValue_53 rfl (lv_at hl 2 rfl) ?_
    refine lv_iload_n hx hb dX8_takeValue_54 rfl (lv_at hl 3 rfl) ?_
    refine lv_iload hx hb dX8_takeValue_55 (lv_at hl 5 rfl) ?_
    refine lv_iload hx hb dX8_takeValue_57 (lv_at hl 0 rfl) ?_
    refine k_cIv (rest := []) (As := [.int x1, .int x2, .int x5, .int t0]) (d := 3) ⟨Nat.le_refl _, Nat.le_refl _⟩ X I fn_X8_X8_dropValues kCl_8 rfl (kO_T g S n0 hn0) (c_X8_dropValues l N n0 hn0 x1 x2 x5 t0) rfl (by decide) 59 dX8_takeValue_59 rfl hl.1 rfl (Nat.le_of_ble_eq_true rfl) ⟨Nat.le_of_ble_eq_true rfl, Nat.le_of_ble_eq_true rfl⟩ hpf (fun v101 S102 H locs I hm hpf => ?_)
    refine lv_iload_n hx hb dX8_takeValue_62 rfl (lv_at hl 3 rfl) ?_
    refine lv_sipush (v := (1000 : Int32)) hx hb dX8_takeValue_63 (by decide) ?_
    refine lv_imul hx hb dX8_takeValue_66 ?_
    refine lv_iload_n hx hb dX8_takeValue_67 rfl (lv_at hl 4 rfl) ?_
    refine lv_iadd hx hb dX8_takeValue_68 ?_
    refine m_isto hx hb (fun y103 => [(7, .int y103), (6, .int t0), (0, .ref (g.2.1 (26 + 15 * n0))), (1, .int x1), (2, .int x2), (3, .int x3), (5, .int x5)]) 69 dX8_takeValue_69 hl (by decide) (fun _ => rfl) hpf (fun y103 ls hl hpf => ?_)
    refine lv_aload_n hx hb dX8_takeValue_71 rfl (lv_at hl 2 rfl) ?_
    refine k_get (k := 0) X I kCl_8 (kO_T g S102 n0 hn0) 7 (by decide) rfl kC_111 72 dX8_takeValue_72 ?_
    refine lv_iload_n hx hb dX8_takeValue_75 rfl (lv_at hl 3 rfl) ?_
    refine lv_sipush (v := (10000 : Int32)) hx hb dX8_takeValue_76 (by decide) ?_
    refine lv_imul hx hb dX8_takeValue_79 ?_
    refine lv_iload hx hb dX8_takeValue_80 (lv_at hl 0 rfl) ?_
    refine lv_iadd hx hb dX8_takeValue_82 ?_
    refine k_cIv (rest := []) (As := [.int ((x1 * (10000 : Int32)) + y103)]) (d := 3) ⟨Nat.le_refl _, Nat.le_refl _⟩ X I fn_X8_X5_put kCl_5 rfl (kO_N g S102 n0 0 hn0 (by decide)) (c_X5_put l N n0 0 hn0 (by decide) ((x1 * (10000 : Int32)) + y103)) rfl (by decide) 83 dX8_takeValue_83 rfl hl.1 rfl (Nat.le_of_ble_eq_true rfl) ⟨Nat.le_of_ble_eq_true rfl, Nat.le_of_ble_eq_true rfl⟩ hpf (fun v104 S105 H locs I hm hpf => ?_)
    refine lv_aload_n hx hb dX8_takeValue_86 rfl (lv_at hl 2 rfl) ?_
    refine k_get (k := 0) X I kCl_8 (kO_T g S105 n0 hn0) 8 (by decide) rfl kC_132 87 dX8_takeValue_87 ?_
    refine lv_iload hx hb dX8_takeValue_90 (lv_at hl 0 rfl) ?_
    refine lv_bipush (v := (48 : Int32)) hx hb dX8_takeValue_92 (by decide) ?_
    refine lv_imul hx hb dX8_takeValue_94 ?_
    refine lv_iload_n hx hb dX8_takeValue_95 rfl (lv_at hl 3 rfl) ?_
    refine lv_iadd hx hb dX8_takeValue_96 ?_
    refine k_cIv (rest := []) (As := [.int ((y103 * (48 : Int32)) + x1)]) (d := 3) ⟨Nat.le_refl _, Nat.le_refl _⟩ X I fn_X8_X5_put kCl_5 rfl (kO_N g S105 n0 1 hn0 (by decide)) (c_X5_put l N n0 1 hn0 (by decide) ((y103 * (48 : Int32)) + x1)) rfl (by decide) 97 dX8_takeValue_97 rfl hl.1 rfl (Nat.le_of_ble_eq_true rfl) ⟨Nat.le_of_ble_eq_true rfl, Nat.le_of_ble_eq_true rfl⟩ hpf (fun v106 S107 H locs I hm hpf => ?_)
    exact k_retv X I hr 100 dX8_takeValue_100 hpf
  have hC_28 : ∀ (t0 : Int32) (x1 : Int32) (x2 : Int32) (x3 : Int32) (x4 : Int32) (S : kS) (H : Heap) (locs : List Loc), kV dC dI g (kAt g (kn Si) (km Si) (kp Si) sz) s Si S H locs → ∀ ls : Array Slot, lv_has ls 8 [(0, .ref (g.2.1 (26 + 15 * n0))), (1, .int x1), (2, .int x2), (3, .int x3), (4, .int x4)] → pX8_takeValue_28 N n0 t0 x1 x2 x3 x4 S = some (r, Sf) → W p l e (mRm 3) s m args below meth c H locs 0 0 (MQ below (kQ dC dI g sz Si (rU g r) Sf) args s 0 0 (kAt g (kn Si) (km Si) (kp Si) sz)) (F0 m 28 ls [.int t0]) := by
    intro t0 x1 x2 x3 x4 S H locs I ls hl hpf
    unfold pX8_takeValue_28 at hpf
    refine lv_istore (lv' := [(5, .int t0), (0, .ref (g.2.1 (26 + 15 * n0))), (1, .int x1), (2, .int x2), (3, .int x3), (4, .int x4)]) hx hb dX8_takeValue_28 hl (by decide) rfl (fun ls hl => ?_)
    refine lv_iload hx hb dX8_takeValue_30 (lv_at hl 5 rfl) ?_
    refine b_if_eq hx hb 41 32 dX8_takeValue_32 (by decide) hpf (fun hpf => ?_) (fun hpf => ?_)
    · refine lv_aload_n hx hb dX8_takeValue_41 rfl (lv_at hl 1 rfl) ?_
      refine k_get (k := 0) X I kCl_8 (kO_T g S n0 hn0) 4 (by decide) rfl kC_184 42 dX8_takeValue_42 ?_
      refine lv_iload_n hx hb dX8_takeValue_45 rfl (lv_at hl 3 rfl) ?_
      refine lv_iload_n hx hb dX8_takeValue_46 rfl (lv_at hl 4 rfl) ?_
      refine k_cIi (rest := []) (As := [.int x2, .int x3]) (d := 3) ⟨Nat.le_refl _, Nat.le_refl _⟩ X I fn_X8_X7_highest kCl_7 rfl (kO_H g S) (c_X7_highest l N x2 x3) rfl (by decide) 47 dX8_takeValue_47 rfl hl.1 rfl (Nat.le_of_ble_eq_true rfl) ⟨Nat.le_of_ble_eq_true rfl, Nat.le_of_ble_eq_true rfl⟩ hpf (fun v101 S102 H locs I hm hpf => ?_)
      exact hC_50 v101 x1 x2 x3 t0 S102 H locs I ls (lv_sub hl [1, 2, 3, 4, 0] rfl) hpf
    refine lv_sipush (v := (999 : Int32)) hx hb dX8_takeValue_35 (by decide) ?_
    refine lv_goto (tgt := 50) hx hb dX8_takeValue_38 (by decide) ?_
    exact hC_50 (999 : Int32) x1 x2 x3 t0 S H locs I ls (lv_sub hl [1, 2, 3, 4, 0] rfl) hpf
  refine lv_aload_n hx hb dX8_takeValue_0 rfl (lv_at hl 0 rfl) ?_
  refine k_get (k := 0) X I kCl_8 (kO_T g Si n0 hn0) 4 (by decide) rfl kC_184 1 dX8_takeValue_1 ?_
  refine lv_iload_n hx hb dX8_takeValue_4 rfl (lv_at hl 2 rfl) ?_
  refine k_cIi (rest := []) (As := [.int x2]) (d := 3) ⟨Nat.le_refl _, Nat.le_refl _⟩ X I fn_X8_X7_isSingle kCl_7 rfl (kO_H g Si) (c_X7_isSingle l N x2) rfl (by decide) 5 dX8_takeValue_5 rfl hl.1 rfl (Nat.le_of_ble_eq_true rfl) ⟨Nat.le_of_ble_eq_true rfl, Nat.le_of_ble_eq_true rfl⟩ hpf (fun v101 S102 H locs I hm hpf => ?_)
  refine lv_istore (lv' := [(4, .int v101), (0, .ref (g.2.1 (26 + 15 * n0))), (1, .int x1), (2, .int x2), (3, .int x3)]) hx hb dX8_takeValue_8 hl (by decide) rfl (fun ls hl => ?_)
  refine lv_iload hx hb dX8_takeValue_10 (lv_at hl 0 rfl) ?_
  refine b_if_eq hx hb 19 12 dX8_takeValue_12 (by decide) hpf (fun hpf => ?_) (fun hpf => ?_)
  · refine lv_aload_n hx hb dX8_takeValue_19 rfl (lv_at hl 1 rfl) ?_
    refine k_get (k := 0) X I kCl_8 (kO_T g S102 n0 hn0) 4 (by decide) rfl kC_184 20 dX8_takeValue_20 ?_
    refine lv_iload_n hx hb dX8_takeValue_23 rfl (lv_at hl 3 rfl) ?_
    refine lv_iload_n hx hb dX8_takeValue_24 rfl (lv_at hl 4 rfl) ?_
    refine k_cIi (rest := []) (As := [.int x2, .int x3]) (d := 3) ⟨Nat.le_refl _, Nat.le_refl _⟩ X I fn_X8_X7_lowest kCl_7 rfl (kO_H g S102) (c_X7_lowest l N x2 x3) rfl (by decide) 25 dX8_takeValue_25 rfl hl.1 rfl (Nat.le_of_ble_eq_true rfl) ⟨Nat.le_of_ble_eq_true rfl, Nat.le_of_ble_eq_true rfl⟩ hpf (fun v103 S104 H locs I hm hpf => ?_)
    exact hC_28 v103 x1 x2 x3 v101 S104 H locs I ls (lv_sub hl [1, 2, 3, 4, 0] rfl) hpf
  refine lv_iconst (v := (0 : Int32)) hx hb dX8_takeValue_15 (by decide) ?_
  refine lv_goto (tgt := 28) hx hb dX8_takeValue_16 (by decide) ?_
  exact hC_28 (0 : Int32) x1 x2 x3 v101 S102 H locs I ls (lv_sub hl [1, 2, 3, 4, 0] rfl) hpf
-- ===== X8_takeRemoval =====
def pX8_takeRemoval (N : Nat) (n0 : Nat) (x1 : Int32) (x2 : Int32) (x3 : Int32) (S : kS) : Option (Unit × kS) :=
    bk (pX7_lowest N x2 x3 S) fun v101 S102 =>
    bk (pX7_highest N x2 x3 S102) fun v103 S104 =>
    bk (pX8_dropValues N n0 x1 x2 v101 v103 S104) fun v105 S106 =>
    some ((), S106)
set_option maxRecDepth 100000 in
set_option maxHeartbeats 4000000 in
theorem c_X8_takeRemoval (l : Launch) (N : Nat) (n0 : Nat) (hn0 : n0 < 5) (x1 : Int32) (x2 : Int32) (x3 : Int32) : kMet l yX8_takeRemoval cX8_takeRemoval 4 none 3 (fun g => [.ref (g.2.1 (26 + 15 * n0)), .int x1, .int x2, .int x3]) rU (pX8_takeRemoval N n0 x1 x2 x3) := by
  refine kStart RX8 (by decide +kernel) rfl (fun g => [(0, .ref (g.2.1 (26 + 15 * n0))), (1, .int x1), (2, .int x2), (3, .int x3)]) (fun _ => Nat.le_of_ble_eq_true rfl) (fun _ => rfl) ?_
  intro dC dI g sz Si r Sf hpf p e s m args below meth c X hr H locs I ls hl
  have hx := X.1
  have hb := X.2.1
  unfold pX8_takeRemoval at hpf
  refine lv_aload_n hx hb dX8_takeRemoval_0 rfl (lv_at hl 0 rfl) ?_
  refine lv_iload_n hx hb dX8_takeRemoval_1 rfl (lv_at hl 1 rfl) ?_
  refine lv_iload_n hx hb dX8_takeRemoval_2 rfl (lv_at hl 2 rfl) ?_
  refine lv_aload_n hx hb dX8_takeRemoval_3 rfl (lv_at hl 0 rfl) ?_
  refine k_get (k := 0) X I kCl_8 (kO_T g Si n0 hn0) 4 (by decide) rfl kC_184 4 dX8_takeRemoval_4 ?_
  refine lv_iload_n hx hb dX8_takeRemoval_7 rfl (lv_at hl 2 rfl) ?_
  refine lv_iload_n hx hb dX8_takeRemoval_8 rfl (lv_at hl 3 rfl) ?_
  refine k_cIi (rest := [.int x2, .int x1, .ref (g.2.1 (26 + 15 * n0))]) (As := [.int x2, .int x3]) (d := 3) ⟨Nat.le_refl _, Nat.le_refl _⟩ X I fn_X8_X7_lowest kCl_7 rfl (kO_H g Si) (c_X7_lowest l N x2 x3) rfl (by decide) 9 dX8_takeRemoval_9 rfl hl.1 rfl (Nat.le_of_ble_eq_true rfl) ⟨Nat.le_of_ble_eq_true rfl, Nat.le_of_ble_eq_true rfl⟩ hpf (fun v101 S102 H locs I hm hpf => ?_)
  refine lv_aload_n hx hb dX8_takeRemoval_12 rfl (lv_at hl 0 rfl) ?_
  refine k_get (k := 0) X I kCl_8 (kO_T g S102 n0 hn0) 4 (by decide) rfl kC_184 13 dX8_takeRemoval_13 ?_
  refine lv_iload_n hx hb dX8_takeRemoval_16 rfl (lv_at hl 2 rfl) ?_
  refine lv_iload_n hx hb dX8_takeRemoval_17 rfl (lv_at hl 3 rfl) ?_
  refine k_cIi (rest := [.int v101, .int x2, .int x1, .ref (g.2.1 (26 + 15 * n0))]) (As := [.int x2, .int x3]) (d := 3) ⟨Nat.le_refl _, Nat.le_refl _⟩ X I fn_X8_X7_highest kCl_7 rfl (kO_H g S102) (c_X7_highest l N x2 x3) rfl (by decide) 18 dX8_takeRemoval_18 rfl hl.1 rfl (Nat.le_of_ble_eq_true rfl) ⟨Nat.le_of_ble_eq_true rfl, Nat.le_of_ble_eq_true rfl⟩ hpf (fun v103 S104 H locs I hm hpf => ?_)
  refine k_cIv (rest := []) (As := [.int x1, .int x2, .int v101, .int v103]) (d := 3) ⟨Nat.le_refl _, Nat.le_refl _⟩ X I fn_X8_X8_dropValues kCl_8 rfl (kO_T g S104 n0 hn0) (c_X8_dropValues l N n0 hn0 x1 x2 v101 v103) rfl (by decide) 21 dX8_takeRemoval_21 rfl hl.1 rfl (Nat.le_of_ble_eq_true rfl) ⟨Nat.le_of_ble_eq_true rfl, Nat.le_of_ble_eq_true rfl⟩ hpf (fun v105 S106 H locs I hm hpf => ?_)
  exact k_retv X I hr 24 dX8_takeRemoval_24 hpf
-- ===== X8_takeAdd =====
def pX8_takeAdd_76 (N : Nat) (n0 : Nat) (n1 : Nat) : Nat → Int32 → Nat → Int32 → Int32 → kS → Option (Unit × kS)
  | 0 => fun _ _ _ _ _ => none
  | n_76 + 1 => fun x2 e3 x4 x5 S =>
    if x4 ≤ x5 then (
      some ((), S))
    else (
      gn e3 (km S) <| gd x5 (kl S e3) <|
      nm (kx S e3 x5.toNatClampNeg) fun y101 =>
      bk (pX8_takeValue N n0 x2 (y101 / (1000 : Int32)) (y101 - y101 / (1000 : Int32) * (1000 : Int32)) S) fun v102 S103 =>
      nm (x5 + (1 : Int32)) fun y104 =>
      pX8_takeAdd_76 N n0 n1 n_76 x2 e3 x4 y104 S103)
def pX8_takeAdd (N : Nat) (n0 : Nat) (n1 : Nat) (S : kS) : Option (Unit × kS) :=
    gn n1 (kn S) <|
    nm (kF S n1 1) fun y101 =>
    svk (sL S (8 + 2 * n0) ((kL S (8 + 2 * n0)) ||| ((1 : Int64) <<< (y101.toInt64 &&& 63)))) fun S102 =>
    gn n1 (kn S102) <|
    bk (pX0_rank N n1 S102) fun v103 S104 =>
    gd y101 48 <| svk (sA S104 (26 + 15 * n0 + 5) y101.toNatClampNeg v103) fun S105 =>
    gn n1 (kn S105) <|
    gd y101 48 <| svk (sA S105 (26 + 15 * n0 + 4) y101.toNatClampNeg (kF S105 n1 2)) fun S106 =>
    gn n1 (kn S106) <|
    gd y101 48 <| svk (sA S106 (26 + 15 * n0 + 2) y101.toNatClampNeg (kF S106 n1 3)) fun S107 =>
    gn n1 (kn S107) <|
    gd y101 48 <| svk (sA S107 (26 + 15 * n0 + 1) y101.toNatClampNeg (kF S107 n1 4)) fun S108 =>
    gn n1 (kn S108) <|
    oc (kC S108 n1) (
      some ((), S108))
    (fun e109 =>
      gn n1 (kn S108) <|
      gn e109 (km S108) <|
      nm (Int32.ofNat (kl S108 e109)) fun y110 =>
      pX8_takeAdd_76 N n0 n1 N y101 e109 y110 (0 : Int32) S108)
set_option maxRecDepth 100000 in
set_option maxHeartbeats 4000000 in
theorem c_X8_takeAdd (l : Launch) (N : Nat) (n0 : Nat) (hn0 : n0 < 5) (n1 : Nat) : kMet l yX8_takeAdd cX8_takeAdd 7 none 4 (fun g => [.ref (g.2.1 (26 + 15 * n0)), .ref (g.2.2.1 n1)]) rU (pX8_takeAdd N n0 n1) := by
  refine kStart RX8 (by decide +kernel) rfl (fun g => [(0, .ref (g.2.1 (26 + 15 * n0))), (1, .ref (g.2.2.1 n1))]) (fun _ => Nat.le_of_ble_eq_true rfl) (fun _ => rfl) ?_
  intro dC dI g sz Si r Sf hpf p e s m args below meth c X hr H locs I ls hl
  have hx := X.1
  have hb := X.2.1
  unfold pX8_takeAdd at hpf
  have hC_76 : ∀ (n_76 : Nat), ∀ (x2 : Int32) (e3 : Nat) (x4 : Int32) (x5 : Int32) (S : kS) (H : Heap) (locs : List Loc), kV dC dI g (kAt g (kn Si) (km Si) (kp Si) sz) s Si S H locs → ∀ ls : Array Slot, lv_has ls 7 [(0, .ref (g.2.1 (26 + 15 * n0))), (2, .int x2), (3, .ref (g.2.2.2.1 e3)), (4, .int x4), (5, .int x5)] → pX8_takeAdd_76 N n0 n1 n_76 x2 e3 x4 x5 S = some (r, Sf) → W p l e (mRm 4) s m args below meth c H locs 0 0 (MQ below (kQ dC dI g sz Si (rU g r) Sf) args s 0 0 (kAt g (kn Si) (km Si) (kp Si) sz)) (F0 m 76 ls []) := by
    intro n_76
    induction n_76 with
    | zero =>
      intro x2 e3 x4 x5 S H locs I ls hl hpf
      rw [pX8_takeAdd_76] at hpf
      cases hpf
    | succ n_76 ih_76 =>
      intro x2 e3 x4 x5 S H locs I ls hl hpf
      rw [pX8_takeAdd_76] at hpf
      refine lv_iload hx hb dX8_takeAdd_76 (lv_at hl 4 rfl) ?_
      refine lv_iload hx hb dX8_takeAdd_78 (lv_at hl 3 rfl) ?_
      refine b_icmp_ge hx hb 112 80 dX8_takeAdd_80 (by decide) hpf (fun hpf => ?_) (fun hpf => ?_)
      · exact k_retv X I hr 112 dX8_takeAdd_112 hpf
      refine lv_aload_n hx hb dX8_takeAdd_83 rfl (lv_at hl 2 rfl) ?_
      refine lv_iload hx hb dX8_takeAdd_84 (lv_at hl 4 rfl) ?_
      refine k_ialdV X I 86 dX8_takeAdd_86 hpf (fun hpf => ?_)
      refine m_isto hx hb (fun y101 => [(6, .int y101), (0, .ref (g.2.1 (26 + 15 * n0))), (2, .int x2), (3, .ref (g.2.2.2.1 e3)), (4, .int x4), (5, .int x5)]) 87 dX8_takeAdd_87 hl (by decide) (fun _ => rfl) hpf (fun y101 ls hl hpf => ?_)
      refine lv_aload_n hx hb dX8_takeAdd_89 rfl (lv_at hl 1 rfl) ?_
      refine lv_iload_n hx hb dX8_takeAdd_90 rfl (lv_at hl 2 rfl) ?_
      refine lv_iload hx hb dX8_takeAdd_91 (lv_at hl 0 rfl) ?_
      refine lv_sipush (v := (1000 : Int32)) hx hb dX8_takeAdd_93 (by decide) ?_
      refine lv_idiv hx hb dX8_takeAdd_96 (by decide) ?_
      refine lv_iload hx hb dX8_takeAdd_97 (lv_at hl 0 rfl) ?_
      refine lv_sipush (v := (1000 : Int32)) hx hb dX8_takeAdd_99 (by decide) ?_
      refine lv_irem hx hb dX8_takeAdd_102 (by decide) ?_
      refine k_cIv (rest := []) (As := [.int x2, .int (y101 / (1000 : Int32)), .int (y101 - y101 / (1000 : Int32) * (1000 : Int32))]) (d := 4) ⟨Nat.le_refl _, Nat.le_refl _⟩ X I fn_X8_X8_takeValue kCl_8 rfl (kO_T g S n0 hn0) (c_X8_takeValue l N n0 hn0 x2 (y101 / (1000 : Int32)) (y101 - y101 / (1000 : Int32) * (1000 : Int32))) rfl (by decide) 103 dX8_takeAdd_103 rfl hl.1 rfl (Nat.le_of_ble_eq_true rfl) ⟨Nat.le_of_ble_eq_true rfl, Nat.le_of_ble_eq_true rfl⟩ hpf (fun v102 S103 H locs I hm hpf => ?_)
      refine m_iinc (w := (1 : Int32)) hx hb (fun y104 => [(5, .int y104), (6, .int y101), (0, .ref (g.2.1 (26 + 15 * n0))), (2, .int x2), (3, .ref (g.2.2.2.1 e3)), (4, .int x4)]) 106 dX8_takeAdd_106 hl (k := 5) rfl (by decide) (by decide) (fun _ => rfl) hpf (fun y104 ls hl hpf => ?_)
      refine lv_goto (tgt := 76) hx hb dX8_takeAdd_109 (by decide) ?_
      exact ih_76 x2 e3 x4 y104 S103 H locs I ls (lv_sub hl [2, 3, 4, 5, 0] rfl) hpf
  refine lv_aload_n hx hb dX8_takeAdd_0 rfl (lv_at hl 1 rfl) ?_
  refine k_getU X I 1 (by decide) rfl kC_360 1 dX8_takeAdd_1 hpf (fun hpf => ?_)
  refine m_isto_n hx hb (fun y101 => [(2, .int y101), (0, .ref (g.2.1 (26 + 15 * n0))), (1, .ref (g.2.2.1 n1))]) 4 dX8_takeAdd_4 rfl hl (by decide) (fun _ => rfl) hpf (fun y101 ls hl hpf => ?_)
  refine lv_aload_n hx hb dX8_takeAdd_5 rfl (lv_at hl 1 rfl) ?_
  refine lv_dup hx hb dX8_takeAdd_6 rfl ?_
  refine k_get (k := 0) X I kCl_8 (kO_T g Si n0 hn0) 10 (by decide) rfl kC_128 7 dX8_takeAdd_7 ?_
  refine lv_lconst (v := (1 : Int64)) hx hb dX8_takeAdd_10 (by decide) ?_
  refine lv_iload_n hx hb dX8_takeAdd_11 rfl (lv_at hl 0 rfl) ?_
  refine lv_lshl hx hb dX8_takeAdd_12 rfl ?_
  refine lv_lor hx hb dX8_takeAdd_13 ?_
  refine k_put (ty := .long) X I kCl_8 tyX8_ok nmX8 (kO_T g Si n0 hn0) 10 (by decide) (Nat.le_of_ble_eq_true rfl) (kP_T10 n0 hn0 g Si _) ⟨rfl, rfl, rfl⟩ kC_128 rfl (by decide +kernel) rfl rfl 14 dX8_takeAdd_14 hpf (fun S102 H locs I hm hpf => ?_)
  refine lv_aload_n hx hb dX8_takeAdd_17 rfl (lv_at hl 1 rfl) ?_
  refine k_get (k := 0) X I kCl_8 (kO_T g S102 n0 hn0) 6 (by decide) rfl kC_236 18 dX8_takeAdd_18 ?_
  refine lv_iload_n hx hb dX8_takeAdd_21 rfl (lv_at hl 0 rfl) ?_
  refine lv_aload_n hx hb dX8_takeAdd_22 rfl (lv_at hl 2 rfl) ?_
  obtain ⟨hgn, hpf⟩ := gn_some hpf
  refine k_cIi (rest := [.int y101, .ref (g.2.1 (26 + 15 * n0 + 5))]) (As := []) (d := 4) ⟨Nat.le_refl _, Nat.le_refl _⟩ X I fn_X8_X0_rank kCl_0 rfl (kO_U n1 g S102 hgn) (c_X0_rank l N n1) rfl (by decide) 23 dX8_takeAdd_23 rfl hl.1 rfl (Nat.le_of_ble_eq_true rfl) ⟨Nat.le_of_ble_eq_true rfl, Nat.le_of_ble_eq_true rfl⟩ hpf (fun v103 S104 H locs I hm hpf => ?_)
  refine k_iast X I (kR_T5 n0 hn0) 26 dX8_takeAdd_26 hpf (fun S105 H locs I hm hpf => ?_)
  refine lv_aload_n hx hb dX8_takeAdd_27 rfl (lv_at hl 1 rfl) ?_
  refine k_get (k := 0) X I kCl_8 (kO_T g S105 n0 hn0) 5 (by decide) rfl kC_162 28 dX8_takeAdd_28 ?_
  refine lv_iload_n hx hb dX8_takeAdd_31 rfl (lv_at hl 0 rfl) ?_
  refine lv_aload_n hx hb dX8_takeAdd_32 rfl (lv_at hl 2 rfl) ?_
  refine k_getU X I 2 (by decide) rfl kC_361 33 dX8_takeAdd_33 hpf (fun hpf => ?_)
  refine k_iast X I (kR_T4 n0 hn0) 36 dX8_takeAdd_36 hpf (fun S106 H locs I hm hpf => ?_)
  refine lv_aload_n hx hb dX8_takeAdd_37 rfl (lv_at hl 1 rfl) ?_
  refine k_get (k := 0) X I kCl_8 (kO_T g S106 n0 hn0) 1 (by decide) rfl kC_329 38 dX8_takeAdd_38 ?_
  refine lv_iload_n hx hb dX8_takeAdd_41 rfl (lv_at hl 0 rfl) ?_
  refine lv_aload_n hx hb dX8_takeAdd_42 rfl (lv_at hl 2 rfl) ?_
  refine k_getU X I 3 (by decide) rfl kC_362 43 dX8_takeAdd_43 hpf (fun hpf => ?_)
  refine k_iast X I (kR_T2 n0 hn0) 46 dX8_takeAdd_46 hpf (fun S107 H locs I hm hpf => ?_)
  refine lv_aload_n hx hb dX8_takeAdd_47 rfl (lv_at hl 1 rfl) ?_
  refine k_get (k := 0) X I kCl_8 (kO_T g S107 n0 hn0) 0 (by decide) rfl kC_235 48 dX8_takeAdd_48 ?_
  refine lv_iload_n hx hb dX8_takeAdd_51 rfl (lv_at hl 0 rfl) ?_
  refine lv_aload_n hx hb dX8_takeAdd_52 rfl (lv_at hl 2 rfl) ?_
  refine k_getU X I 4 (by decide) rfl kC_363 53 dX8_takeAdd_53 hpf (fun hpf => ?_)
  refine k_iast X I (kR_T1 n0 hn0) 56 dX8_takeAdd_56 hpf (fun S108 H locs I hm hpf => ?_)
  refine lv_aload_n hx hb dX8_takeAdd_57 rfl (lv_at hl 2 rfl) ?_
  refine k_getU X I 5 (by decide) rfl kC_364 58 dX8_takeAdd_58 hpf (fun hpf => ?_)
  refine k_ifnull hx hb 112 61 dX8_takeAdd_61 (by decide) hpf (fun hpf => ?_) (fun e109 he109 hpf => ?_)
  · exact k_retv X I hr 112 dX8_takeAdd_112 hpf
  refine lv_aload_n hx hb dX8_takeAdd_64 rfl (lv_at hl 2 rfl) ?_
  refine k_getc X I he109 kC_364 65 dX8_takeAdd_65 hpf (fun hpf => ?_)
  refine lv_astore_n (lv' := [(3, .ref (g.2.2.2.1 e109)), (2, .int y101), (0, .ref (g.2.1 (26 + 15 * n0))), (1, .ref (g.2.2.1 n1))]) hx hb dX8_takeAdd_68 rfl hl (by decide) rfl (fun ls hl => ?_)
  refine lv_aload_n hx hb dX8_takeAdd_69 rfl (lv_at hl 0 rfl) ?_
  refine k_lenV X I 70 dX8_takeAdd_70 hpf (fun hpf => ?_)
  refine m_isto hx hb (fun y110 => [(4, .int y110), (3, .ref (g.2.2.2.1 e109)), (2, .int y101), (0, .ref (g.2.1 (26 + 15 * n0))), (1, .ref (g.2.2.1 n1))]) 71 dX8_takeAdd_71 hl (by decide) (fun _ => rfl) hpf (fun y110 ls hl hpf => ?_)
  refine lv_iconst (v := (0 : Int32)) hx hb dX8_takeAdd_73 (by decide) ?_
  refine lv_istore (lv' := [(5, .int (0 : Int32)), (4, .int y110), (3, .ref (g.2.2.2.1 e109)), (2, .int y101), (0, .ref (g.2.1 (26 + 15 * n0))), (1, .ref (g.2.2.1 n1))]) hx hb dX8_takeAdd_74 hl (by decide) rfl (fun ls hl => ?_)
  exact hC_76 N y101 e109 y110 (0 : Int32) S108 H locs I ls (lv_sub hl [4, 3, 2, 1, 0] rfl) hpf
-- ===== X8_take =====
def pX8_take (N : Nat) (n0 : Nat) (n1 : Nat) (S : kS) : Option (Unit × kS) :=
    gn n1 (kn S) <|
    nm (kF S n1 1) fun y101 =>
    gn n1 (kn S) <|
    if (kF S n1 0) = (0 : Int32) then (
      bk (pX8_takeAdd N n0 n1 S) fun v102 S103 =>
      some ((), S103))
    else if (kF S n1 0) = (1 : Int32) then (
      gn n1 (kn S) <|
      gn n1 (kn S) <|
      bk (pX8_takeValue N n0 y101 (kF S n1 2) (kF S n1 3) S) fun v104 S105 =>
      some ((), S105))
    else if (kF S n1 0) = (2 : Int32) then (
      gn n1 (kn S) <|
      gn n1 (kn S) <|
      bk (pX8_takeRemoval N n0 y101 (kF S n1 2) (kF S n1 3) S) fun v106 S107 =>
      some ((), S107))
    else if (kF S n1 0) = (3 : Int32) then (
      gn n1 (kn S) <|
      bk (pX8_dropValues N n0 y101 (kF S n1 2) (0 : Int32) (999 : Int32) S) fun v108 S109 =>
      gn n1 (kn S109) <|
      gn n1 (kn S109) <|
      bk (pX8_takeValue N n0 y101 (kF S109 n1 2) (kF S109 n1 3) S109) fun v110 S111 =>
      some ((), S111))
    else if (kF S n1 0) = (4 : Int32) then (
      gn n1 (kn S) <|
      gd y101 48 <| svk (sA S (26 + 15 * n0 + 1) y101.toNatClampNeg (kF S n1 2)) fun S112 =>
      some ((), S112))
    else if (kF S n1 0) = (5 : Int32) then (
      gn n1 (kn S) <|
      gd y101 48 <| svk (sA S (26 + 15 * n0 + 3) y101.toNatClampNeg (kF S n1 2)) fun S113 =>
      some ((), S113))
    else if (kF S n1 0) = (6 : Int32) then (
      gn n1 (kn S) <|
      gn n1 (kn S) <|
      gn n1 (kn S) <|
      bk (pX6_say N n0 (kF S n1 2) (kF S n1 3) (kF S n1 4) S) fun v114 S115 =>
      some ((), S115))
    else if (kF S n1 0) = (7 : Int32) then (
      gn n1 (kn S) <|
      bk (pX8_comesTo N n0 (kF S n1 2) y101 S) fun v116 S117 =>
      if v116 = (0 : Int32) then (
        gn n1 (kn S117) <|
        gd y101 48 <| svk (sA S117 (26 + 15 * n0 + 4) y101.toNatClampNeg (kF S117 n1 2)) fun S118 =>
        some ((), S118))
      else (
        some ((), S117)))
    else (
      svk (sL S (9 + 2 * n0) ((kL S (9 + 2 * n0)) ||| ((1 : Int64) <<< (y101.toInt64 &&& 63)))) fun S119 =>
      some ((), S119))
set_option maxRecDepth 100000 in
set_option maxHeartbeats 4000000 in
theorem c_X8_take (l : Launch) (N : Nat) (n0 : Nat) (hn0 : n0 < 5) (n1 : Nat) : kMet l yX8_take cX8_take 3 none 5 (fun g => [.ref (g.2.1 (26 + 15 * n0)), .ref (g.2.2.1 n1)]) rU (pX8_take N n0 n1) := by
  refine kStart RX8 (by decide +kernel) rfl (fun g => [(0, .ref (g.2.1 (26 + 15 * n0))), (1, .ref (g.2.2.1 n1))]) (fun _ => Nat.le_of_ble_eq_true rfl) (fun _ => rfl) ?_
  intro dC dI g sz Si r Sf hpf p e s m args below meth c X hr H locs I ls hl
  have hx := X.1
  have hb := X.2.1
  unfold pX8_take at hpf
  refine lv_aload_n hx hb dX8_take_0 rfl (lv_at hl 1 rfl) ?_
  refine k_getU X I 1 (by decide) rfl kC_360 1 dX8_take_1 hpf (fun hpf => ?_)
  refine m_isto_n hx hb (fun y101 => [(2, .int y101), (0, .ref (g.2.1 (26 + 15 * n0))), (1, .ref (g.2.2.1 n1))]) 4 dX8_take_4 rfl hl (by decide) (fun _ => rfl) hpf (fun y101 ls hl hpf => ?_)
  refine lv_aload_n hx hb dX8_take_5 rfl (lv_at hl 2 rfl) ?_
  refine k_getU X I 0 (by decide) rfl kC_375 6 dX8_take_6 hpf (fun hpf => ?_)
  by_cases q0_ : (kF Si n1 0) = (0 : Int32)
  · rw [if_pos q0_] at hpf
    refine lv_tableIn (tgt := 56) (off := 47) hx hb dX8_take_9 (by rw [q0_]; decide) (by rw [q0_]; decide) (by rw [q0_]; rfl) (by decide) ?_
    refine lv_aload_n hx hb dX8_take_56 rfl (lv_at hl 1 rfl) ?_
    refine lv_aload_n hx hb dX8_take_57 rfl (lv_at hl 2 rfl) ?_
    refine k_cIv (rest := []) (As := [.ref (g.2.2.1 n1)]) (d := 5) ⟨Nat.le_refl _, Nat.le_refl _⟩ X I fn_X8_X8_takeAdd kCl_8 rfl (kO_T g Si n0 hn0) (c_X8_takeAdd l N n0 hn0 n1) rfl (by decide) 58 dX8_take_58 rfl hl.1 rfl (Nat.le_of_ble_eq_true rfl) ⟨Nat.le_of_ble_eq_true rfl, Nat.le_of_ble_eq_true rfl⟩ hpf (fun v102 S103 H locs I hm hpf => ?_)
    refine lv_goto (tgt := 210) hx hb dX8_take_61 (by decide) ?_
    exact k_retv X I hr 210 dX8_take_210 hpf
  rw [if_neg q0_] at hpf
  by_cases q1_ : (kF Si n1 0) = (1 : Int32)
  · rw [if_pos q1_] at hpf
    refine lv_tableIn (tgt := 64) (off := 55) hx hb dX8_take_9 (by rw [q1_]; decide) (by rw [q1_]; decide) (by rw [q1_]; rfl) (by decide) ?_
    refine lv_aload_n hx hb dX8_take_64 rfl (lv_at hl 1 rfl) ?_
    refine lv_iload_n hx hb dX8_take_65 rfl (lv_at hl 0 rfl) ?_
    refine lv_aload_n hx hb dX8_take_66 rfl (lv_at hl 2 rfl) ?_
    refine k_getU X I 2 (by decide) rfl kC_361 67 dX8_take_67 hpf (fun hpf => ?_)
    refine lv_aload_n hx hb dX8_take_70 rfl (lv_at hl 2 rfl) ?_
    refine k_getU X I 3 (by decide) rfl kC_362 71 dX8_take_71 hpf (fun hpf => ?_)
    refine k_cIv (rest := []) (As := [.int y101, .int (kF Si n1 2), .int (kF Si n1 3)]) (d := 5) ⟨Nat.le_refl _, Nat.le_refl _⟩ X I fn_X8_X8_takeValue kCl_8 rfl (kO_T g Si n0 hn0) (c_X8_takeValue l N n0 hn0 y101 (kF Si n1 2) (kF Si n1 3)) rfl (by decide) 74 dX8_take_74 rfl hl.1 rfl (Nat.le_of_ble_eq_true rfl) ⟨Nat.le_of_ble_eq_true rfl, Nat.le_of_ble_eq_true rfl⟩ hpf (fun v104 S105 H locs I hm hpf => ?_)
    refine lv_goto (tgt := 210) hx hb dX8_take_77 (by decide) ?_
    exact k_retv X I hr 210 dX8_take_210 hpf
  rw [if_neg q1_] at hpf
  by_cases q2_ : (kF Si n1 0) = (2 : Int32)
  · rw [if_pos q2_] at hpf
    refine lv_tableIn (tgt := 80) (off := 71) hx hb dX8_take_9 (by rw [q2_]; decide) (by rw [q2_]; decide) (by rw [q2_]; rfl) (by decide) ?_
    refine lv_aload_n hx hb dX8_take_80 rfl (lv_at hl 1 rfl) ?_
    refine lv_iload_n hx hb dX8_take_81 rfl (lv_at hl 0 rfl) ?_
    refine lv_aload_n hx hb dX8_take_82 rfl (lv_at hl 2 rfl) ?_
    refine k_getU X I 2 (by decide) rfl kC_361 83 dX8_take_83 hpf (fun hpf => ?_)
    refine lv_aload_n hx hb dX8_take_86 rfl (lv_at hl 2 rfl) ?_
    refine k_getU X I 3 (by decide) rfl kC_362 87 dX8_take_87 hpf (fun hpf => ?_)
    refine k_cIv (rest := []) (As := [.int y101, .int (kF Si n1 2), .int (kF Si n1 3)]) (d := 5) ⟨Nat.le_refl _, Nat.le_refl _⟩ X I fn_X8_X8_takeRemoval kCl_8 rfl (kO_T g Si n0 hn0) (c_X8_takeRemoval l N n0 hn0 y101 (kF Si n1 2) (kF Si n1 3)) rfl (by decide) 90 dX8_take_90 rfl hl.1 rfl (Nat.le_of_ble_eq_true rfl) ⟨Nat.le_of_ble_eq_true rfl, Nat.le_of_ble_eq_true rfl⟩ hpf (fun v106 S107 H locs I hm hpf => ?_)
    refine lv_goto (tgt := 210) hx hb dX8_take_93 (by decide) ?_
    exact k_retv X I hr 210 dX8_take_210 hpf
  rw [if_neg q2_] at hpf
  by_cases q3_ : (kF Si n1 0) = (3 : Int32)
  · rw [if_pos q3_] at hpf
    refine lv_tableIn (tgt := 96) (off := 87) hx hb dX8_take_9 (by rw [q3_]; decide) (by rw [q3_]; decide) (by rw [q3_]; rfl) (by decide) ?_
    refine lv_aload_n hx hb dX8_take_96 rfl (lv_at hl 1 rfl) ?_
    refine lv_iload_n hx hb dX8_take_97 rfl (lv_at hl 0 rfl) ?_
    refine lv_aload_n hx hb dX8_take_98 rfl (lv_at hl 2 rfl) ?_
    refine k_getU X I 2 (by decide) rfl kC_361 99 dX8_take_99 hpf (fun hpf => ?_)
    refine lv_iconst (v := (0 : Int32)) hx hb dX8_take_102 (by decide) ?_
    refine lv_sipush (v := (999 : Int32)) hx hb dX8_take_103 (by decide) ?_
    refine k_cIv (rest := []) (As := [.int y101, .int (kF Si n1 2), .int (0 : Int32), .int (999 : Int32)]) (d := 5) ⟨Nat.le_refl _, Nat.le_refl _⟩ X I fn_X8_X8_dropValues kCl_8 rfl (kO_T g Si n0 hn0) (c_X8_dropValues l N n0 hn0 y101 (kF Si n1 2) (0 : Int32) (999 : Int32)) rfl (by decide) 106 dX8_take_106 rfl hl.1 rfl (Nat.le_of_ble_eq_true rfl) ⟨Nat.le_of_ble_eq_true rfl, Nat.le_of_ble_eq_true rfl⟩ hpf (fun v108 S109 H locs I hm hpf => ?_)
    refine lv_aload_n hx hb dX8_take_109 rfl (lv_at hl 1 rfl) ?_
    refine lv_iload_n hx hb dX8_take_110 rfl (lv_at hl 0 rfl) ?_
    refine lv_aload_n hx hb dX8_take_111 rfl (lv_at hl 2 rfl) ?_
    refine k_getU X I 2 (by decide) rfl kC_361 112 dX8_take_112 hpf (fun hpf => ?_)
    refine lv_aload_n hx hb dX8_take_115 rfl (lv_at hl 2 rfl) ?_
    refine k_getU X I 3 (by decide) rfl kC_362 116 dX8_take_116 hpf (fun hpf => ?_)
    refine k_cIv (rest := []) (As := [.int y101, .int (kF S109 n1 2), .int (kF S109 n1 3)]) (d := 5) ⟨Nat.le_refl _, Nat.le_refl _⟩ X I fn_X8_X8_takeValue kCl_8 rfl (kO_T g S109 n0 hn0) (c_X8_takeValue l N n0 hn0 y101 (kF S109 n1 2) (kF S109 n1 3)) rfl (by decide) 119 dX8_take_119 rfl hl.1 rfl (Nat.le_of_ble_eq_true rfl) ⟨Nat.le_of_ble_eq_true rfl, Nat.le_of_ble_eq_true rfl⟩ hpf (fun v110 S111 H locs I hm hpf => ?_)
    refine lv_goto (tgt := 210) hx hb dX8_take_122 (by decide) ?_
    exact k_retv X I hr 210 dX8_take_210 hpf
  rw [if_neg q3_] at hpf
  by_cases q4_ : (kF Si n1 0) = (4 : Int32)
  · rw [if_pos q4_] at hpf
    refine lv_tableIn (tgt := 125) (off := 116) hx hb dX8_take_9 (by rw [q4_]; decide) (by rw [q4_]; decide) (by rw [q4_]; rfl) (by decide) ?_
    refine lv_aload_n hx hb dX8_take_125 rfl (lv_at hl 1 rfl) ?_
    refine k_get (k := 0) X I kCl_8 (kO_T g Si n0 hn0) 0 (by decide) rfl kC_235 126 dX8_take_126 ?_
    refine lv_iload_n hx hb dX8_take_129 rfl (lv_at hl 0 rfl) ?_
    refine lv_aload_n hx hb dX8_take_130 rfl (lv_at hl 2 rfl) ?_
    refine k_getU X I 2 (by decide) rfl kC_361 131 dX8_take_131 hpf (fun hpf => ?_)
    refine k_iast X I (kR_T1 n0 hn0) 134 dX8_take_134 hpf (fun S112 H locs I hm hpf => ?_)
    refine lv_goto (tgt := 210) hx hb dX8_take_135 (by decide) ?_
    exact k_retv X I hr 210 dX8_take_210 hpf
  rw [if_neg q4_] at hpf
  by_cases q5_ : (kF Si n1 0) = (5 : Int32)
  · rw [if_pos q5_] at hpf
    refine lv_tableIn (tgt := 138) (off := 129) hx hb dX8_take_9 (by rw [q5_]; decide) (by rw [q5_]; decide) (by rw [q5_]; rfl) (by decide) ?_
    refine lv_aload_n hx hb dX8_take_138 rfl (lv_at hl 1 rfl) ?_
    refine k_get (k := 0) X I kCl_8 (kO_T g Si n0 hn0) 2 (by decide) rfl kC_330 139 dX8_take_139 ?_
    refine lv_iload_n hx hb dX8_take_142 rfl (lv_at hl 0 rfl) ?_
    refine lv_aload_n hx hb dX8_take_143 rfl (lv_at hl 2 rfl) ?_
    refine k_getU X I 2 (by decide) rfl kC_361 144 dX8_take_144 hpf (fun hpf => ?_)
    refine k_iast X I (kR_T3 n0 hn0) 147 dX8_take_147 hpf (fun S113 H locs I hm hpf => ?_)
    refine lv_goto (tgt := 210) hx hb dX8_take_148 (by decide) ?_
    exact k_retv X I hr 210 dX8_take_210 hpf
  rw [if_neg q5_] at hpf
  by_cases q6_ : (kF Si n1 0) = (6 : Int32)
  · rw [if_pos q6_] at hpf
    refine lv_tableIn (tgt := 151) (off := 142) hx hb dX8_take_9 (by rw [q6_]; decide) (by rw [q6_]; decide) (by rw [q6_]; rfl) (by decide) ?_
    refine lv_aload_n hx hb dX8_take_151 rfl (lv_at hl 1 rfl) ?_
    refine k_get (k := 0) X I kCl_8 (kO_T g Si n0 hn0) 3 (by decide) rfl kC_185 152 dX8_take_152 ?_
    refine lv_aload_n hx hb dX8_take_155 rfl (lv_at hl 2 rfl) ?_
    refine k_getU X I 2 (by decide) rfl kC_361 156 dX8_take_156 hpf (fun hpf => ?_)
    refine lv_aload_n hx hb dX8_take_159 rfl (lv_at hl 2 rfl) ?_
    refine k_getU X I 3 (by decide) rfl kC_362 160 dX8_take_160 hpf (fun hpf => ?_)
    refine lv_aload_n hx hb dX8_take_163 rfl (lv_at hl 2 rfl) ?_
    refine k_getU X I 4 (by decide) rfl kC_363 164 dX8_take_164 hpf (fun hpf => ?_)
    refine k_cIv (rest := []) (As := [.int (kF Si n1 2), .int (kF Si n1 3), .int (kF Si n1 4)]) (d := 5) ⟨Nat.le_refl _, Nat.le_refl _⟩ X I fn_X8_X6_say kCl_6 rfl (kO_R g Si n0 hn0) (c_X6_say l N n0 hn0 (kF Si n1 2) (kF Si n1 3) (kF Si n1 4)) rfl (by decide) 167 dX8_take_167 rfl hl.1 rfl (Nat.le_of_ble_eq_true rfl) ⟨Nat.le_of_ble_eq_true rfl, Nat.le_of_ble_eq_true rfl⟩ hpf (fun v114 S115 H locs I hm hpf => ?_)
    refine lv_goto (tgt := 210) hx hb dX8_take_170 (by decide) ?_
    exact k_retv X I hr 210 dX8_take_210 hpf
  rw [if_neg q6_] at hpf
  by_cases q7_ : (kF Si n1 0) = (7 : Int32)
  · rw [if_pos q7_] at hpf
    refine lv_tableIn (tgt := 173) (off := 164) hx hb dX8_take_9 (by rw [q7_]; decide) (by rw [q7_]; decide) (by rw [q7_]; rfl) (by decide) ?_
    refine lv_aload_n hx hb dX8_take_173 rfl (lv_at hl 1 rfl) ?_
    refine lv_aload_n hx hb dX8_take_174 rfl (lv_at hl 2 rfl) ?_
    refine k_getU X I 2 (by decide) rfl kC_361 175 dX8_take_175 hpf (fun hpf => ?_)
    refine lv_iload_n hx hb dX8_take_178 rfl (lv_at hl 0 rfl) ?_
    refine k_cIi (rest := []) (As := [.int (kF Si n1 2), .int y101]) (d := 5) ⟨Nat.le_refl _, Nat.le_refl _⟩ X I fn_X8_X8_comesTo kCl_8 rfl (kO_T g Si n0 hn0) (c_X8_comesTo l N n0 hn0 (kF Si n1 2) y101) rfl (by decide) 179 dX8_take_179 rfl hl.1 rfl (Nat.le_of_ble_eq_true rfl) ⟨Nat.le_of_ble_eq_true rfl, Nat.le_of_ble_eq_true rfl⟩ hpf (fun v116 S117 H locs I hm hpf => ?_)
    refine b_if_ne hx hb 210 182 dX8_take_182 (by decide) hpf (fun hpf => ?_) (fun hpf => ?_)
    · exact k_retv X I hr 210 dX8_take_210 hpf
    refine lv_aload_n hx hb dX8_take_185 rfl (lv_at hl 1 rfl) ?_
    refine k_get (k := 0) X I kCl_8 (kO_T g S117 n0 hn0) 5 (by decide) rfl kC_162 186 dX8_take_186 ?_
    refine lv_iload_n hx hb dX8_take_189 rfl (lv_at hl 0 rfl) ?_
    refine lv_aload_n hx hb dX8_take_190 rfl (lv_at hl 2 rfl) ?_
    refine k_getU X I 2 (by decide) rfl kC_361 191 dX8_take_191 hpf (fun hpf => ?_)
    refine k_iast X I (kR_T4 n0 hn0) 194 dX8_take_194 hpf (fun S118 H locs I hm hpf => ?_)
    refine lv_goto (tgt := 210) hx hb dX8_take_195 (by decide) ?_
    exact k_retv X I hr 210 dX8_take_210 hpf
  rw [if_neg q7_] at hpf
  have hsw : ¬ (kF Si n1 0).toInt = 0 ∧ ¬ (kF Si n1 0).toInt = 1 ∧ ¬ (kF Si n1 0).toInt = 2 ∧ ¬ (kF Si n1 0).toInt = 3 ∧ ¬ (kF Si n1 0).toInt = 4 ∧ ¬ (kF Si n1 0).toInt = 5 ∧ ¬ (kF Si n1 0).toInt = 6 ∧ ¬ (kF Si n1 0).toInt = 7 := ⟨lv_neT q0_ (a := 0) rfl, lv_neT q1_ (a := 1) rfl, lv_neT q2_ (a := 2) rfl, lv_neT q3_ (a := 3) rfl, lv_neT q4_ (a := 4) rfl, lv_neT q5_ (a := 5) rfl, lv_neT q6_ (a := 6) rfl, lv_neT q7_ (a := 7) rfl⟩
  refine lv_tableOut (tgt := 198) hx hb dX8_take_9 (by omega) (by decide) ?_
  refine lv_aload_n hx hb dX8_take_198 rfl (lv_at hl 1 rfl) ?_
  refine lv_dup hx hb dX8_take_199 rfl ?_
  refine k_get (k := 0) X I kCl_8 (kO_T g Si n0 hn0) 11 (by decide) rfl kC_129 200 dX8_take_200 ?_
  refine lv_lconst (v := (1 : Int64)) hx hb dX8_take_203 (by decide) ?_
  refine lv_iload_n hx hb dX8_take_204 rfl (lv_at hl 0 rfl) ?_
  refine lv_lshl hx hb dX8_take_205 rfl ?_
  refine lv_lor hx hb dX8_take_206 ?_
  refine k_put (ty := .long) X I kCl_8 tyX8_ok nmX8 (kO_T g Si n0 hn0) 11 (by decide) (Nat.le_of_ble_eq_true rfl) (kP_T11 n0 hn0 g Si _) ⟨rfl, rfl, rfl⟩ kC_129 rfl (by decide +kernel) rfl rfl 207 dX8_take_207 hpf (fun S119 H locs I hm hpf => ?_)
  exact k_retv X I hr 210 dX8_take_210 hpf
-- ===== X8_living =====
def pX8_living (N : Nat) (n0 : Nat) (S : kS) : Option (Int64 × kS) :=
    some ((kL S (8 + 2 * n0)) &&& ((kL S (9 + 2 * n0)) ^^^ (-1 : Int64)), S)
set_option maxRecDepth 100000 in
set_option maxHeartbeats 4000000 in
theorem c_X8_living (l : Launch) (N : Nat) (n0 : Nat) (hn0 : n0 < 5) : kMet l yX8_living cX8_living 1 (some .long) 0 (fun g => [.ref (g.2.1 (26 + 15 * n0))]) rJ (pX8_living N n0) := by
  refine kStart RX8 (by decide +kernel) rfl (fun g => [(0, .ref (g.2.1 (26 + 15 * n0)))]) (fun _ => Nat.le_of_ble_eq_true rfl) (fun _ => rfl) ?_
  intro dC dI g sz Si r Sf hpf p e s m args below meth c X hr H locs I ls hl
  have hx := X.1
  have hb := X.2.1
  unfold pX8_living at hpf
  refine lv_aload_n hx hb dX8_living_0 rfl (lv_at hl 0 rfl) ?_
  refine k_get (k := 0) X I kCl_8 (kO_T g Si n0 hn0) 10 (by decide) rfl kC_128 1 dX8_living_1 ?_
  refine lv_aload_n hx hb dX8_living_4 rfl (lv_at hl 0 rfl) ?_
  refine k_get (k := 0) X I kCl_8 (kO_T g Si n0 hn0) 11 (by decide) rfl kC_129 5 dX8_living_5 ?_
  refine lv_ldc2 (v := (-1 : Int64)) hx hb X.2.2.2.1 (X.2.2.2.2.1 _ kC_130) dX8_living_8 ?_
  refine lv_lxor hx hb dX8_living_11 ?_
  refine lv_land hx hb dX8_living_12 ?_
  exact k_retl X I hr 13 dX8_living_13 hpf
-- ===== X8_deletedOnes =====
def pX8_deletedOnes (N : Nat) (n0 : Nat) (S : kS) : Option (Int64 × kS) :=
    some (kL S (9 + 2 * n0), S)
set_option maxRecDepth 100000 in
set_option maxHeartbeats 4000000 in
theorem c_X8_deletedOnes (l : Launch) (N : Nat) (n0 : Nat) (hn0 : n0 < 5) : kMet l yX8_deletedOnes cX8_deletedOnes 1 (some .long) 0 (fun g => [.ref (g.2.1 (26 + 15 * n0))]) rJ (pX8_deletedOnes N n0) := by
  refine kStart RX8 (by decide +kernel) rfl (fun g => [(0, .ref (g.2.1 (26 + 15 * n0)))]) (fun _ => Nat.le_of_ble_eq_true rfl) (fun _ => rfl) ?_
  intro dC dI g sz Si r Sf hpf p e s m args below meth c X hr H locs I ls hl
  have hx := X.1
  have hb := X.2.1
  unfold pX8_deletedOnes at hpf
  refine lv_aload_n hx hb dX8_deletedOnes_0 rfl (lv_at hl 0 rfl) ?_
  refine k_get (k := 0) X I kCl_8 (kO_T g Si n0 hn0) 11 (by decide) rfl kC_129 1 dX8_deletedOnes_1 ?_
  exact k_retl X I hr 4 dX8_deletedOnes_4 hpf
-- ===== X8_isLive =====
def pX8_isLive (N : Nat) (n0 : Nat) (x1 : Int32) (S : kS) : Option (Int32 × kS) :=
    if x1 < (0 : Int32) then (
      some ((0 : Int32), S))
    else (
      if (48 : Int32) ≤ x1 then (
        some ((0 : Int32), S))
      else (
        if (lg_cmp ((((kL S (8 + 2 * n0)) &&& ((kL S (9 + 2 * n0)) ^^^ (-1 : Int64))) >>> (x1.toInt64 &&& 63)) &&& (1 : Int64)) (1 : Int64)) = (0 : Int32) then (
          some ((1 : Int32), S))
        else (
          some ((0 : Int32), S))))
set_option maxRecDepth 100000 in
set_option maxHeartbeats 4000000 in
theorem c_X8_isLive (l : Launch) (N : Nat) (n0 : Nat) (hn0 : n0 < 5) (x1 : Int32) : kMet l yX8_isLive cX8_isLive 2 (some .boolean) 0 (fun g => [.ref (g.2.1 (26 + 15 * n0)), .int x1]) rI (pX8_isLive N n0 x1) := by
  refine kStart RX8 (by decide +kernel) rfl (fun g => [(0, .ref (g.2.1 (26 + 15 * n0))), (1, .int x1)]) (fun _ => Nat.le_of_ble_eq_true rfl) (fun _ => rfl) ?_
  intro dC dI g sz Si r Sf hpf p e s m args below meth c X hr H locs I ls hl
  have hx := X.1
  have hb := X.2.1
  unfold pX8_isLive at hpf
  refine lv_iload_n hx hb dX8_isLive_0 rfl (lv_at hl 1 rfl) ?_
  refine b_if_lt hx hb 36 1 dX8_isLive_1 (by decide) hpf (fun hpf => ?_) (fun hpf => ?_)
  · refine lv_iconst (v := (0 : Int32)) hx hb dX8_isLive_36 (by decide) ?_
    exact k_retzc X I hr 37 dX8_isLive_37 (by decide) hpf
  refine lv_iload_n hx hb dX8_isLive_4 rfl (lv_at hl 1 rfl) ?_
  refine lv_bipush (v := (48 : Int32)) hx hb dX8_isLive_5 (by decide) ?_
  refine b_icmp_ge hx hb 36 7 dX8_isLive_7 (by decide) hpf (fun hpf => ?_) (fun hpf => ?_)
  · refine lv_iconst (v := (0 : Int32)) hx hb dX8_isLive_36 (by decide) ?_
    exact k_retzc X I hr 37 dX8_isLive_37 (by decide) hpf
  refine lv_aload_n hx hb dX8_isLive_10 rfl (lv_at hl 0 rfl) ?_
  refine k_get (k := 0) X I kCl_8 (kO_T g Si n0 hn0) 10 (by decide) rfl kC_128 11 dX8_isLive_11 ?_
  refine lv_aload_n hx hb dX8_isLive_14 rfl (lv_at hl 0 rfl) ?_
  refine k_get (k := 0) X I kCl_8 (kO_T g Si n0 hn0) 11 (by decide) rfl kC_129 15 dX8_isLive_15 ?_
  refine lv_ldc2 (v := (-1 : Int64)) hx hb X.2.2.2.1 (X.2.2.2.2.1 _ kC_130) dX8_isLive_18 ?_
  refine lv_lxor hx hb dX8_isLive_21 ?_
  refine lv_land hx hb dX8_isLive_22 ?_
  refine lv_iload_n hx hb dX8_isLive_23 rfl (lv_at hl 1 rfl) ?_
  refine lv_lshr hx hb dX8_isLive_24 rfl ?_
  refine lv_lconst (v := (1 : Int64)) hx hb dX8_isLive_25 (by decide) ?_
  refine lv_land hx hb dX8_isLive_26 ?_
  refine lv_lconst (v := (1 : Int64)) hx hb dX8_isLive_27 (by decide) ?_
  refine W.lcmp hx hb dX8_isLive_28 ?_
  refine b_if_ne hx hb 36 29 dX8_isLive_29 (by decide) hpf (fun hpf => ?_) (fun hpf => ?_)
  · refine lv_iconst (v := (0 : Int32)) hx hb dX8_isLive_36 (by decide) ?_
    exact k_retzc X I hr 37 dX8_isLive_37 (by decide) hpf
  refine lv_iconst (v := (1 : Int32)) hx hb dX8_isLive_32 (by decide) ?_
  refine lv_goto (tgt := 37) hx hb dX8_isLive_33 (by decide) ?_
  exact k_retzc X I hr 37 dX8_isLive_37 (by decide) hpf
-- ===== X8_placeOf =====
def pX8_placeOf (N : Nat) (n0 : Nat) (x1 : Int32) (S : kS) : Option (Int32 × kS) :=
    if x1 = (0 : Int32) then (
      some ((-1 : Int32), S))
    else (
      gd x1 48 <|
      bk (pX8_isLive N n0 (kA S (26 + 15 * n0 + 4) x1.toNatClampNeg) S) fun v101 S102 =>
      if v101 = (0 : Int32) then (
        some ((-2 : Int32), S102))
      else (
        gd x1 48 <|
        some (kA S102 (26 + 15 * n0 + 4) x1.toNatClampNeg, S102)))
set_option maxRecDepth 100000 in
set_option maxHeartbeats 4000000 in
theorem c_X8_placeOf (l : Launch) (N : Nat) (n0 : Nat) (hn0 : n0 < 5) (x1 : Int32) : kMet l yX8_placeOf cX8_placeOf 2 (some .int) 1 (fun g => [.ref (g.2.1 (26 + 15 * n0)), .int x1]) rI (pX8_placeOf N n0 x1) := by
  refine kStart RX8 (by decide +kernel) rfl (fun g => [(0, .ref (g.2.1 (26 + 15 * n0))), (1, .int x1)]) (fun _ => Nat.le_of_ble_eq_true rfl) (fun _ => rfl) ?_
  intro dC dI g sz Si r Sf hpf p e s m args below meth c X hr H locs I ls hl
  have hx := X.1
  have hb := X.2.1
  unfold pX8_placeOf at hpf
  refine lv_iload_n hx hb dX8_placeOf_0 rfl (lv_at hl 1 rfl) ?_
  refine b_if_ne hx hb 6 1 dX8_placeOf_1 (by decide) hpf (fun hpf => ?_) (fun hpf => ?_)
  · refine lv_aload_n hx hb dX8_placeOf_6 rfl (lv_at hl 0 rfl) ?_
    refine lv_aload_n hx hb dX8_placeOf_7 rfl (lv_at hl 0 rfl) ?_
    refine k_get (k := 0) X I kCl_8 (kO_T g Si n0 hn0) 5 (by decide) rfl kC_162 8 dX8_placeOf_8 ?_
    refine lv_iload_n hx hb dX8_placeOf_11 rfl (lv_at hl 1 rfl) ?_
    refine k_iald X I (kR_T4 n0 hn0) 12 dX8_placeOf_12 hpf (fun hpf => ?_)
    refine k_cIi (rest := []) (As := [.int (kA Si (26 + 15 * n0 + 4) x1.toNatClampNeg)]) (d := 1) ⟨Nat.le_refl _, Nat.le_refl _⟩ X I fn_X8_X8_isLive kCl_8 rfl (kO_T g Si n0 hn0) (c_X8_isLive l N n0 hn0 (kA Si (26 + 15 * n0 + 4) x1.toNatClampNeg)) rfl (by decide) 13 dX8_placeOf_13 rfl hl.1 rfl (Nat.le_of_ble_eq_true rfl) ⟨Nat.le_of_ble_eq_true rfl, Nat.le_of_ble_eq_true rfl⟩ hpf (fun v101 S102 H locs I hm hpf => ?_)
    refine b_if_eq hx hb 28 16 dX8_placeOf_16 (by decide) hpf (fun hpf => ?_) (fun hpf => ?_)
    · refine lv_bipush (v := (-2 : Int32)) hx hb dX8_placeOf_28 (by decide) ?_
      exact k_reti X I hr 30 dX8_placeOf_30 hpf
    refine lv_aload_n hx hb dX8_placeOf_19 rfl (lv_at hl 0 rfl) ?_
    refine k_get (k := 0) X I kCl_8 (kO_T g S102 n0 hn0) 5 (by decide) rfl kC_162 20 dX8_placeOf_20 ?_
    refine lv_iload_n hx hb dX8_placeOf_23 rfl (lv_at hl 1 rfl) ?_
    refine k_iald X I (kR_T4 n0 hn0) 24 dX8_placeOf_24 hpf (fun hpf => ?_)
    refine lv_goto (tgt := 30) hx hb dX8_placeOf_25 (by decide) ?_
    exact k_reti X I hr 30 dX8_placeOf_30 hpf
  refine lv_iconst (v := (-1 : Int32)) hx hb dX8_placeOf_4 (by decide) ?_
  exact k_reti X I hr 5 dX8_placeOf_5 hpf
-- ===== X8_isAtOrBeneath =====
def pX8_isAtOrBeneath_5 (N : Nat) (n0 : Nat) : Nat → Int32 → Int32 → Int32 → kS → Option (Int32 × kS)
  | 0 => fun _ _ _ _ => none
  | n_5 + 1 => fun x2 x3 x4 S =>
    if (48 : Int32) ≤ x4 then (
      some ((0 : Int32), S))
    else (
      if x3 < (0 : Int32) then (
        some ((0 : Int32), S))
      else (
        if x3 = x2 then (
          some ((1 : Int32), S))
        else (
          bk (pX8_placeOf N n0 x3 S) fun v101 S102 =>
          nm (x4 + (1 : Int32)) fun y103 =>
          pX8_isAtOrBeneath_5 N n0 n_5 x2 v101 y103 S102)))
def pX8_isAtOrBeneath (N : Nat) (n0 : Nat) (x1 : Int32) (x2 : Int32) (S : kS) : Option (Int32 × kS) :=
    pX8_isAtOrBeneath_5 N n0 N x2 x1 (0 : Int32) S
set_option maxRecDepth 100000 in
set_option maxHeartbeats 4000000 in
theorem c_X8_isAtOrBeneath (l : Launch) (N : Nat) (n0 : Nat) (hn0 : n0 < 5) (x1 : Int32) (x2 : Int32) : kMet l yX8_isAtOrBeneath cX8_isAtOrBeneath 5 (some .boolean) 2 (fun g => [.ref (g.2.1 (26 + 15 * n0)), .int x1, .int x2]) rI (pX8_isAtOrBeneath N n0 x1 x2) := by
  refine kStart RX8 (by decide +kernel) rfl (fun g => [(0, .ref (g.2.1 (26 + 15 * n0))), (1, .int x1), (2, .int x2)]) (fun _ => Nat.le_of_ble_eq_true rfl) (fun _ => rfl) ?_
  intro dC dI g sz Si r Sf hpf p e s m args below meth c X hr H locs I ls hl
  have hx := X.1
  have hb := X.2.1
  unfold pX8_isAtOrBeneath at hpf
  have hC_5 : ∀ (n_5 : Nat), ∀ (x2 : Int32) (x3 : Int32) (x4 : Int32) (S : kS) (H : Heap) (locs : List Loc), kV dC dI g (kAt g (kn Si) (km Si) (kp Si) sz) s Si S H locs → ∀ ls : Array Slot, lv_has ls 5 [(0, .ref (g.2.1 (26 + 15 * n0))), (2, .int x2), (3, .int x3), (4, .int x4)] → pX8_isAtOrBeneath_5 N n0 n_5 x2 x3 x4 S = some (r, Sf) → W p l e (mRm 2) s m args below meth c H locs 0 0 (MQ below (kQ dC dI g sz Si (rI g r) Sf) args s 0 0 (kAt g (kn Si) (km Si) (kp Si) sz)) (F0 m 5 ls []) := by
    intro n_5
    induction n_5 with
    | zero =>
      intro x2 x3 x4 S H locs I ls hl hpf
      rw [pX8_isAtOrBeneath_5] at hpf
      cases hpf
    | succ n_5 ih_5 =>
      intro x2 x3 x4 S H locs I ls hl hpf
      rw [pX8_isAtOrBeneath_5] at hpf
      refine lv_iload hx hb dX8_isAtOrBeneath_5 (lv_at hl 3 rfl) ?_
      refine lv_bipush (v := (48 : Int32)) hx hb dX8_isAtOrBeneath_7 (by decide) ?_
      refine b_icmp_ge hx hb 35 9 dX8_isAtOrBeneath_9 (by decide) hpf (fun hpf => ?_) (fun hpf => ?_)
      · refine lv_iconst (v := (0 : Int32)) hx hb dX8_isAtOrBeneath_35 (by decide) ?_
        exact k_retzc X I hr 36 dX8_isAtOrBeneath_36 (by decide) hpf
      refine lv_iload_n hx hb dX8_isAtOrBeneath_12 rfl (lv_at hl 2 rfl) ?_
      refine b_if_lt hx hb 35 13 dX8_isAtOrBeneath_13 (by decide) hpf (fun hpf => ?_) (fun hpf => ?_)
      · refine lv_iconst (v := (0 : Int32)) hx hb dX8_isAtOrBeneath_35 (by decide) ?_
        exact k_retzc X I hr 36 dX8_isAtOrBeneath_36 (by decide) hpf
      refine lv_iload_n hx hb dX8_isAtOrBeneath_16 rfl (lv_at hl 2 rfl) ?_
      refine lv_iload_n hx hb dX8_isAtOrBeneath_17 rfl (lv_at hl 1 rfl) ?_
      refine b_icmp_ne hx hb 23 18 dX8_isAtOrBeneath_18 (by decide) hpf (fun hpf => ?_) (fun hpf => ?_)
      · refine lv_aload_n hx hb dX8_isAtOrBeneath_23 rfl (lv_at hl 0 rfl) ?_
        refine lv_iload_n hx hb dX8_isAtOrBeneath_24 rfl (lv_at hl 2 rfl) ?_
        refine k_cIi (rest := []) (As := [.int x3]) (d := 2) ⟨Nat.le_refl _, Nat.le_refl _⟩ X I fn_X8_X8_placeOf kCl_8 rfl (kO_T g S n0 hn0) (c_X8_placeOf l N n0 hn0 x3) rfl (by decide) 25 dX8_isAtOrBeneath_25 rfl hl.1 rfl (Nat.le_of_ble_eq_true rfl) ⟨Nat.le_of_ble_eq_true rfl, Nat.le_of_ble_eq_true rfl⟩ hpf (fun v101 S102 H locs I hm hpf => ?_)
        refine lv_istore_n (lv' := [(3, .int v101), (0, .ref (g.2.1 (26 + 15 * n0))), (2, .int x2), (4, .int x4)]) hx hb dX8_isAtOrBeneath_28 rfl hl (by decide) rfl (fun ls hl => ?_)
        refine m_iinc (w := (1 : Int32)) hx hb (fun y103 => [(4, .int y103), (3, .int v101), (0, .ref (g.2.1 (26 + 15 * n0))), (2, .int x2)]) 29 dX8_isAtOrBeneath_29 hl (k := 3) rfl (by decide) (by decide) (fun _ => rfl) hpf (fun y103 ls hl hpf => ?_)
        refine lv_goto (tgt := 5) hx hb dX8_isAtOrBeneath_32 (by decide) ?_
        exact ih_5 x2 v101 y103 S102 H locs I ls (lv_sub hl [2, 3, 1, 0] rfl) hpf
      refine lv_iconst (v := (1 : Int32)) hx hb dX8_isAtOrBeneath_21 (by decide) ?_
      exact k_retzc X I hr 22 dX8_isAtOrBeneath_22 (by decide) hpf
  refine lv_iload_n hx hb dX8_isAtOrBeneath_0 rfl (lv_at hl 1 rfl) ?_
  refine lv_istore_n (lv' := [(3, .int x1), (0, .ref (g.2.1 (26 + 15 * n0))), (1, .int x1), (2, .int x2)]) hx hb dX8_isAtOrBeneath_1 rfl hl (by decide) rfl (fun ls hl => ?_)
  refine lv_iconst (v := (0 : Int32)) hx hb dX8_isAtOrBeneath_2 (by decide) ?_
  refine lv_istore (lv' := [(4, .int (0 : Int32)), (3, .int x1), (0, .ref (g.2.1 (26 + 15 * n0))), (1, .int x1), (2, .int x2)]) hx hb dX8_isAtOrBeneath_3 hl (by decide) rfl (fun ls hl => ?_)
  exact hC_5 N x2 x1 (0 : Int32) Si H locs I ls (lv_sub hl [2, 4, 1, 0] rfl) hpf
-- ===== X8_shownName =====
def pX8_shownName_73 (N : Nat) (n0 : Nat) (x1 : Int32) (S : kS) : Option (Int32 × kS) :=
    some ((100 : Int32) + x1, S)
def pX8_shownName_84 (N : Nat) (n0 : Nat) (x1 : Int32) (S : kS) : Option (Int32 × kS) :=
    gd x1 48 <|
    some (kA S (26 + 15 * n0 + 1) x1.toNatClampNeg, S)
def pX8_shownName_78 (N : Nat) (n0 : Nat) (k_8 : Int32 → Int32 → Int32 → kS → Option (Int32 × kS)) (x1 : Int32) (x2 : Int32) (x3 : Int32) (S : kS) : Option (Int32 × kS) :=
    nm (x3 + (1 : Int32)) fun y101 =>
    k_8 x1 x2 y101 S
def pX8_shownName_49 (N : Nat) (n0 : Nat) (k_8 : Int32 → Int32 → Int32 → kS → Option (Int32 × kS)) (k_73 : Int32 → kS → Option (Int32 × kS)) (t0 : Int32) (x1 : Int32) (x2 : Int32) (x3 : Int32) (S : kS) : Option (Int32 × kS) :=
    if t0 = (0 : Int32) then (
      pX8_shownName_78 N n0 k_8 x1 x2 x3 S)
    else (
      bk (pX8_isLive N n0 x3 S) fun v101 S102 =>
      if v101 = (0 : Int32) then (
        pX8_shownName_78 N n0 k_8 x1 x2 x3 S102)
      else (
        bk (pX8_placeOf N n0 x3 S102) fun v103 S104 =>
        if v103 = x2 then (
          k_73 x1 S104)
        else (
          pX8_shownName_78 N n0 k_8 x1 x2 x3 S104)))
def pX8_shownName_8 (N : Nat) (n0 : Nat) (k_73 : Int32 → kS → Option (Int32 × kS)) (k_84 : Int32 → kS → Option (Int32 × kS)) : Nat → Int32 → Int32 → Int32 → kS → Option (Int32 × kS)
  | 0 => fun _ _ _ _ => none
  | n_8 + 1 => fun x1 x2 x3 S =>
    if (48 : Int32) ≤ x3 then (
      k_84 x1 S)
    else (
      gd x3 48 <|
      gd x1 48 <|
      if (kA S (26 + 15 * n0 + 1) x3.toNatClampNeg) = (kA S (26 + 15 * n0 + 1) x1.toNatClampNeg) then (
        gd x3 48 <|
        gd x1 48 <|
        if (kA S (26 + 15 * n0 + 5) x1.toNatClampNeg) ≤ (kA S (26 + 15 * n0 + 5) x3.toNatClampNeg) then (
          pX8_shownName_49 N n0 (pX8_shownName_8 N n0 k_73 k_84 n_8) k_73 (0 : Int32) x1 x2 x3 S)
        else (
          pX8_shownName_49 N n0 (pX8_shownName_8 N n0 k_73 k_84 n_8) k_73 (1 : Int32) x1 x2 x3 S))
      else (
        pX8_shownName_49 N n0 (pX8_shownName_8 N n0 k_73 k_84 n_8) k_73 (0 : Int32) x1 x2 x3 S))
def pX8_shownName (N : Nat) (n0 : Nat) (x1 : Int32) (S : kS) : Option (Int32 × kS) :=
    bk (pX8_placeOf N n0 x1 S) fun v101 S102 =>
    pX8_shownName_8 N n0 (pX8_shownName_73 N n0) (pX8_shownName_84 N n0) N x1 v101 (1 : Int32) S102
set_option maxRecDepth 100000 in
set_option maxHeartbeats 4000000 in
theorem c_X8_shownName (l : Launch) (N : Nat) (n0 : Nat) (hn0 : n0 < 5) (x1 : Int32) : kMet l yX8_shownName cX8_shownName 5 (some .int) 2 (fun g => [.ref (g.2.1 (26 + 15 * n0)), .int x1]) rI (pX8_shownName N n0 x1) := by
  refine kStart RX8 (by decide +kernel) rfl (fun g => [(0, .ref (g.2.1 (26 + 15 * n0))), (1, .int x1)]) (fun _ => Nat.le_of_ble_eq_true rfl) (fun _ => rfl) ?_
  intro dC dI g sz Si r Sf hpf p e s m args below meth c X hr H locs I ls hl
  have hx := X.1
  have hb := X.2.1
  unfold pX8_shownName at hpf
  have hC_73 : ∀ (x1 : Int32) (S : kS) (H : Heap) (locs : List Loc), kV dC dI g (kAt g (kn Si) (km Si) (kp Si) sz) s Si S H locs → ∀ ls : Array Slot, lv_has ls 5 [(0, .ref (g.2.1 (26 + 15 * n0))), (1, .int x1)] → pX8_shownName_73 N n0 x1 S = some (r, Sf) → W p l e (mRm 2) s m args below meth c H locs 0 0 (MQ below (kQ dC dI g sz Si (rI g r) Sf) args s 0 0 (kAt g (kn Si) (km Si) (kp Si) sz)) (F0 m 73 ls []) := by
    intro x1 S H locs I ls hl hpf
    unfold pX8_shownName_73 at hpf
    refine lv_bipush (v := (100 : Int32)) hx hb dX8_shownName_73 (by decide) ?_
    refine lv_iload_n hx hb dX8_shownName_75 rfl (lv_at hl 1 rfl) ?_
    refine lv_iadd hx hb dX8_shownName_76 ?_
    exact k_reti X I hr 77 dX8_shownName_77 hpf
  have hC_84 : ∀ (x1 : Int32) (S : kS) (H : Heap) (locs : List Loc), kV dC dI g (kAt g (kn Si) (km Si) (kp Si) sz) s Si S H locs → ∀ ls : Array Slot, lv_has ls 5 [(0, .ref (g.2.1 (26 + 15 * n0))), (1, .int x1)] → pX8_shownName_84 N n0 x1 S = some (r, Sf) → W p l e (mRm 2) s m args below meth c H locs 0 0 (MQ below (kQ dC dI g sz Si (rI g r) Sf) args s 0 0 (kAt g (kn Si) (km Si) (kp Si) sz)) (F0 m 84 ls []) := by
    intro x1 S H locs I ls hl hpf
    unfold pX8_shownName_84 at hpf
    refine lv_aload_n hx hb dX8_shownName_84 rfl (lv_at hl 0 rfl) ?_
    refine k_get (k := 0) X I kCl_8 (kO_T g S n0 hn0) 0 (by decide) rfl kC_235 85 dX8_shownName_85 ?_
    refine lv_iload_n hx hb dX8_shownName_88 rfl (lv_at hl 1 rfl) ?_
    refine k_iald X I (kR_T1 n0 hn0) 89 dX8_shownName_89 hpf (fun hpf => ?_)
    exact k_reti X I hr 90 dX8_shownName_90 hpf
  have hC_8 : ∀ (n_8 : Nat), ∀ (x1 : Int32) (x2 : Int32) (x3 : Int32) (S : kS) (H : Heap) (locs : List Loc), kV dC dI g (kAt g (kn Si) (km Si) (kp Si) sz) s Si S H locs → ∀ ls : Array Slot, lv_has ls 5 [(0, .ref (g.2.1 (26 + 15 * n0))), (1, .int x1), (2, .int x2), (3, .int x3)] → pX8_shownName_8 N n0 (pX8_shownName_73 N n0) (pX8_shownName_84 N n0) n_8 x1 x2 x3 S = some (r, Sf) → W p l e (mRm 2) s m args below meth c H locs 0 0 (MQ below (kQ dC dI g sz Si (rI g r) Sf) args s 0 0 (kAt g (kn Si) (km Si) (kp Si) sz)) (F0 m 8 ls []) := by
    intro n_8
    induction n_8 with
    | zero =>
      intro x1 x2 x3 S H locs I ls hl hpf
      rw [pX8_shownName_8] at hpf
      cases hpf
    | succ n_8 ih_8 =>
      have hC_78 : ∀ (x1 : Int32) (x2 : Int32) (x3 : Int32) (S : kS) (H : Heap) (locs : List Loc), kV dC dI g (kAt g (kn Si) (km Si) (kp Si) sz) s Si S H locs → ∀ ls : Array Slot, lv_has ls 5 [(0, .ref (g.2.1 (26 + 15 * n0))), (1, .int x1), (2, .int x2), (3, .int x3)] → pX8_shownName_78 N n0 (pX8_shownName_8 N n0 (pX8_shownName_73 N n0) (pX8_shownName_84 N n0) n_8) x1 x2 x3 S = some (r, Sf) → W p l e (mRm 2) s m args below meth c H locs 0 0 (MQ below (kQ dC dI g sz Si (rI g r) Sf) args s 0 0 (kAt g (kn Si) (km Si) (kp Si) sz)) (F0 m 78 ls []) := by
        intro x1 x2 x3 S H locs I ls hl hpf
        unfold pX8_shownName_78 at hpf
        refine m_iinc (w := (1 : Int32)) hx hb (fun y101 => [(3, .int y101), (0, .ref (g.2.1 (26 + 15 * n0))), (1, .int x1), (2, .int x2)]) 78 dX8_shownName_78 hl (k := 3) rfl (by decide) (by decide) (fun _ => rfl) hpf (fun y101 ls hl hpf => ?_)
        refine lv_goto (tgt := 8) hx hb dX8_shownName_81 (by decide) ?_
        exact ih_8 x1 x2 y101 S H locs I ls (lv_sub hl [1, 2, 3, 0] rfl) hpf
      have hC_49 : ∀ (t0 : Int32) (x1 : Int32) (x2 : Int32) (x3 : Int32) (S : kS) (H : Heap) (locs : List Loc), kV dC dI g (kAt g (kn Si) (km Si) (kp Si) sz) s Si S H locs → ∀ ls : Array Slot, lv_has ls 5 [(0, .ref (g.2.1 (26 + 15 * n0))), (1, .int x1), (2, .int x2), (3, .int x3)] → pX8_shownName_49 N n0 (pX8_shownName_8 N n0 (pX8_shownName_73 N n0) (pX8_shownName_84 N n0) n_8) (pX8_shownName_73 N n0) t0 x1 x2 x3 S = some (r, Sf) → W p l e (mRm 2) s m args below meth c H locs 0 0 (MQ below (kQ dC dI g sz Si (rI g r) Sf) args s 0 0 (kAt g (kn Si) (km Si) (kp Si) sz)) (F0 m 49 ls [.int t0]) := by
        intro t0 x1 x2 x3 S H locs I ls hl hpf
        unfold pX8_shownName_49 at hpf
        refine lv_istore (lv' := [(4, .int t0), (0, .ref (g.2.1 (26 + 15 * n0))), (1, .int x1), (2, .int x2), (3, .int x3)]) hx hb dX8_shownName_49 hl (by decide) rfl (fun ls hl => ?_)
        refine lv_iload hx hb dX8_shownName_51 (lv_at hl 0 rfl) ?_
        refine b_if_eq hx hb 78 53 dX8_shownName_53 (by decide) hpf (fun hpf => ?_) (fun hpf => ?_)
        · exact hC_78 x1 x2 x3 S H locs I ls (lv_sub hl [1, 2, 3, 4] rfl) hpf
        refine lv_aload_n hx hb dX8_shownName_56 rfl (lv_at hl 1 rfl) ?_
        refine lv_iload_n hx hb dX8_shownName_57 rfl (lv_at hl 4 rfl) ?_
        refine k_cIi (rest := []) (As := [.int x3]) (d := 2) ⟨Nat.le_refl _, Nat.le_refl _⟩ X I fn_X8_X8_isLive kCl_8 rfl (kO_T g S n0 hn0) (c_X8_isLive l N n0 hn0 x3) rfl (by decide) 58 dX8_shownName_58 rfl hl.1 rfl (Nat.le_of_ble_eq_true rfl) ⟨Nat.le_of_ble_eq_true rfl, Nat.le_of_ble_eq_true rfl⟩ hpf (fun v101 S102 H locs I hm hpf => ?_)
        refine b_if_eq hx hb 78 61 dX8_shownName_61 (by decide) hpf (fun hpf => ?_) (fun hpf => ?_)
        · exact hC_78 x1 x2 x3 S102 H locs I ls (lv_sub hl [1, 2, 3, 4] rfl) hpf
        refine lv_aload_n hx hb dX8_shownName_64 rfl (lv_at hl 1 rfl) ?_
        refine lv_iload_n hx hb dX8_shownName_65 rfl (lv_at hl 4 rfl) ?_
        refine k_cIi (rest := []) (As := [.int x3]) (d := 2) ⟨Nat.le_refl _, Nat.le_refl _⟩ X I fn_X8_X8_placeOf kCl_8 rfl (kO_T g S102 n0 hn0) (c_X8_placeOf l N n0 hn0 x3) rfl (by decide) 66 dX8_shownName_66 rfl hl.1 rfl (Nat.le_of_ble_eq_true rfl) ⟨Nat.le_of_ble_eq_true rfl, Nat.le_of_ble_eq_true rfl⟩ hpf (fun v103 S104 H locs I hm hpf => ?_)
        refine lv_iload_n hx hb dX8_shownName_69 rfl (lv_at hl 3 rfl) ?_
        refine b_icmp_ne hx hb 78 70 dX8_shownName_70 (by decide) hpf (fun hpf => ?_) (fun hpf => ?_)
        · exact hC_78 x1 x2 x3 S104 H locs I ls (lv_sub hl [1, 2, 3, 4] rfl) hpf
        exact hC_73 x1 S104 H locs I ls (lv_sub hl [1, 2] rfl) hpf
      intro x1 x2 x3 S H locs I ls hl hpf
      rw [pX8_shownName_8] at hpf
      refine lv_iload_n hx hb dX8_shownName_8 rfl (lv_at hl 3 rfl) ?_
      refine lv_bipush (v := (48 : Int32)) hx hb dX8_shownName_9 (by decide) ?_
      refine b_icmp_ge hx hb 84 11 dX8_shownName_11 (by decide) hpf (fun hpf => ?_) (fun hpf => ?_)
      · exact hC_84 x1 S H locs I ls (lv_sub hl [0, 1] rfl) hpf
      refine lv_aload_n hx hb dX8_shownName_14 rfl (lv_at hl 0 rfl) ?_
      refine k_get (k := 0) X I kCl_8 (kO_T g S n0 hn0) 0 (by decide) rfl kC_235 15 dX8_shownName_15 ?_
      refine lv_iload_n hx hb dX8_shownName_18 rfl (lv_at hl 3 rfl) ?_
      refine k_iald X I (kR_T1 n0 hn0) 19 dX8_shownName_19 hpf (fun hpf => ?_)
      refine lv_aload_n hx hb dX8_shownName_20 rfl (lv_at hl 0 rfl) ?_
      refine k_get (k := 0) X I kCl_8 (kO_T g S n0 hn0) 0 (by decide) rfl kC_235 21 dX8_shownName_21 ?_
      refine lv_iload_n hx hb dX8_shownName_24 rfl (lv_at hl 1 rfl) ?_
      refine k_iald X I (kR_T1 n0 hn0) 25 dX8_shownName_25 hpf (fun hpf => ?_)
      refine b_icmp_ne hx hb 48 26 dX8_shownName_26 (by decide) hpf (fun hpf => ?_) (fun hpf => ?_)
      · refine lv_iconst (v := (0 : Int32)) hx hb dX8_shownName_48 (by decide) ?_
        exact hC_49 (0 : Int32) x1 x2 x3 S H locs I ls (lv_sub hl [0, 1, 2, 3] rfl) hpf
      refine lv_aload_n hx hb dX8_shownName_29 rfl (lv_at hl 0 rfl) ?_
      refine k_get (k := 0) X I kCl_8 (kO_T g S n0 hn0) 6 (by decide) rfl kC_236 30 dX8_shownName_30 ?_
      refine lv_iload_n hx hb dX8_shownName_33 rfl (lv_at hl 3 rfl) ?_
      refine k_iald X I (kR_T5 n0 hn0) 34 dX8_shownName_34 hpf (fun hpf => ?_)
      refine lv_aload_n hx hb dX8_shownName_35 rfl (lv_at hl 0 rfl) ?_
      refine k_get (k := 0) X I kCl_8 (kO_T g S n0 hn0) 6 (by decide) rfl kC_236 36 dX8_shownName_36 ?_
      refine lv_iload_n hx hb dX8_shownName_39 rfl (lv_at hl 1 rfl) ?_
      refine k_iald X I (kR_T5 n0 hn0) 40 dX8_shownName_40 hpf (fun hpf => ?_)
      refine b_icmp_ge hx hb 48 41 dX8_shownName_41 (by decide) hpf (fun hpf => ?_) (fun hpf => ?_)
      · refine lv_iconst (v := (0 : Int32)) hx hb dX8_shownName_48 (by decide) ?_
        exact hC_49 (0 : Int32) x1 x2 x3 S H locs I ls (lv_sub hl [0, 1, 2, 3] rfl) hpf
      refine lv_iconst (v := (1 : Int32)) hx hb dX8_shownName_44 (by decide) ?_
      refine lv_goto (tgt := 49) hx hb dX8_shownName_45 (by decide) ?_
      exact hC_49 (1 : Int32) x1 x2 x3 S H locs I ls (lv_sub hl [0, 1, 2, 3] rfl) hpf
  refine lv_aload_n hx hb dX8_shownName_0 rfl (lv_at hl 0 rfl) ?_
  refine lv_iload_n hx hb dX8_shownName_1 rfl (lv_at hl 1 rfl) ?_
  refine k_cIi (rest := []) (As := [.int x1]) (d := 2) ⟨Nat.le_refl _, Nat.le_refl _⟩ X I fn_X8_X8_placeOf kCl_8 rfl (kO_T g Si n0 hn0) (c_X8_placeOf l N n0 hn0 x1) rfl (by decide) 2 dX8_shownName_2 rfl hl.1 rfl (Nat.le_of_ble_eq_true rfl) ⟨Nat.le_of_ble_eq_true rfl, Nat.le_of_ble_eq_true rfl⟩ hpf (fun v101 S102 H locs I hm hpf => ?_)
  refine lv_istore_n (lv' := [(2, .int v101), (0, .ref (g.2.1 (26 + 15 * n0))), (1, .int x1)]) hx hb dX8_shownName_5 rfl hl (by decide) rfl (fun ls hl => ?_)
  refine lv_iconst (v := (1 : Int32)) hx hb dX8_shownName_6 (by decide) ?_
  refine lv_istore_n (lv' := [(3, .int (1 : Int32)), (2, .int v101), (0, .ref (g.2.1 (26 + 15 * n0))), (1, .int x1)]) hx hb dX8_shownName_7 rfl hl (by decide) rfl (fun ls hl => ?_)
  exact hC_8 N x1 v101 (1 : Int32) S102 H locs I ls (lv_sub hl [2, 3, 1, 0] rfl) hpf
-- ===== X8_isShown =====
def pX8_isShown_59 (N : Nat) (n0 : Nat) (k_3 : Int32 → Int32 → Int32 → Int32 → kS → Option (Int32 × kS)) (x1 : Int32) (x2 : Int32) (x3 : Int32) (x4 : Int32) (S : kS) : Option (Int32 × kS) :=
    nm (x4 + (1 : Int32)) fun y101 =>
    k_3 x1 x2 x3 y101 S
def pX8_isShown_40 (N : Nat) (n0 : Nat) (k_3 : Int32 → Int32 → Int32 → Int32 → kS → Option (Int32 × kS)) (t0 : Int32) (x1 : Int32) (x2 : Int32) (x3 : Int32) (x4 : Int32) (S : kS) : Option (Int32 × kS) :=
    if t0 = (0 : Int32) then (
      pX8_isShown_59 N n0 k_3 x1 x2 x3 x4 S)
    else (
      bk (pX8_shownName N n0 x4 S) fun v101 S102 =>
      if v101 = x2 then (
        some ((1 : Int32), S102))
      else (
        pX8_isShown_59 N n0 k_3 x1 x2 x3 x4 S102))
def pX8_isShown_3 (N : Nat) (n0 : Nat) : Nat → Int32 → Int32 → Int32 → Int32 → kS → Option (Int32 × kS)
  | 0 => fun _ _ _ _ _ => none
  | n_3 + 1 => fun x1 x2 x3 x4 S =>
    if (48 : Int32) ≤ x4 then (
      some ((0 : Int32), S))
    else (
      if x4 = x3 then (
        pX8_isShown_40 N n0 (pX8_isShown_3 N n0 n_3) (0 : Int32) x1 x2 x3 x4 S)
      else (
        bk (pX8_isLive N n0 x4 S) fun v101 S102 =>
        if v101 = (0 : Int32) then (
          pX8_isShown_40 N n0 (pX8_isShown_3 N n0 n_3) (0 : Int32) x1 x2 x3 x4 S102)
        else (
          bk (pX8_placeOf N n0 x4 S102) fun v103 S104 =>
          if v103 = x1 then (
            pX8_isShown_40 N n0 (pX8_isShown_3 N n0 n_3) (1 : Int32) x1 x2 x3 x4 S104)
          else (
            pX8_isShown_40 N n0 (pX8_isShown_3 N n0 n_3) (0 : Int32) x1 x2 x3 x4 S104))))
def pX8_isShown (N : Nat) (n0 : Nat) (x1 : Int32) (x2 : Int32) (x3 : Int32) (S : kS) : Option (Int32 × kS) :=
    pX8_isShown_3 N n0 N x1 x2 x3 (1 : Int32) S
set_option maxRecDepth 100000 in
set_option maxHeartbeats 4000000 in
theorem c_X8_isShown (l : Launch) (N : Nat) (n0 : Nat) (hn0 : n0 < 5) (x1 : Int32) (x2 : Int32) (x3 : Int32) : kMet l yX8_isShown cX8_isShown 6 (some .boolean) 3 (fun g => [.ref (g.2.1 (26 + 15 * n0)), .int x1, .int x2, .int x3]) rI (pX8_isShown N n0 x1 x2 x3) := by
  refine kStart RX8 (by decide +kernel) rfl (fun g => [(0, .ref (g.2.1 (26 + 15 * n0))), (1, .int x1), (2, .int x2), (3, .int x3)]) (fun _ => Nat.le_of_ble_eq_true rfl) (fun _ => rfl) ?_
  intro dC dI g sz Si r Sf hpf p e s m args below meth c X hr H locs I ls hl
  have hx := X.1
  have hb := X.2.1
  unfold pX8_isShown at hpf
  have hC_3 : ∀ (n_3 : Nat), ∀ (x1 : Int32) (x2 : Int32) (x3 : Int32) (x4 : Int32) (S : kS) (H : Heap) (locs : List Loc), kV dC dI g (kAt g (kn Si) (km Si) (kp Si) sz) s Si S H locs → ∀ ls : Array Slot, lv_has ls 6 [(0, .ref (g.2.1 (26 + 15 * n0))), (1, .int x1), (2, .int x2), (3, .int x3), (4, .int x4)] → pX8_isShown_3 N n0 n_3 x1 x2 x3 x4 S = some (r, Sf) → W p l e (mRm 3) s m args below meth c H locs 0 0 (MQ below (kQ dC dI g sz Si (rI g r) Sf) args s 0 0 (kAt g (kn Si) (km Si) (kp Si) sz)) (F0 m 3 ls []) := by
    intro n_3
    induction n_3 with
    | zero =>
      intro x1 x2 x3 x4 S H locs I ls hl hpf
      rw [pX8_isShown_3] at hpf
      cases hpf
    | succ n_3 ih_3 =>
      have hC_59 : ∀ (x1 : Int32) (x2 : Int32) (x3 : Int32) (x4 : Int32) (S : kS) (H : Heap) (locs : List Loc), kV dC dI g (kAt g (kn Si) (km Si) (kp Si) sz) s Si S H locs → ∀ ls : Array Slot, lv_has ls 6 [(0, .ref (g.2.1 (26 + 15 * n0))), (1, .int x1), (2, .int x2), (3, .int x3), (4, .int x4)] → pX8_isShown_59 N n0 (pX8_isShown_3 N n0 n_3) x1 x2 x3 x4 S = some (r, Sf) → W p l e (mRm 3) s m args below meth c H locs 0 0 (MQ below (kQ dC dI g sz Si (rI g r) Sf) args s 0 0 (kAt g (kn Si) (km Si) (kp Si) sz)) (F0 m 59 ls []) := by
        intro x1 x2 x3 x4 S H locs I ls hl hpf
        unfold pX8_isShown_59 at hpf
        refine m_iinc (w := (1 : Int32)) hx hb (fun y101 => [(4, .int y101), (0, .ref (g.2.1 (26 + 15 * n0))), (1, .int x1), (2, .int x2), (3, .int x3)]) 59 dX8_isShown_59 hl (k := 4) rfl (by decide) (by decide) (fun _ => rfl) hpf (fun y101 ls hl hpf => ?_)
        refine lv_goto (tgt := 3) hx hb dX8_isShown_62 (by decide) ?_
        exact ih_3 x1 x2 x3 y101 S H locs I ls (lv_sub hl [1, 2, 3, 4, 0] rfl) hpf
      have hC_40 : ∀ (t0 : Int32) (x1 : Int32) (x2 : Int32) (x3 : Int32) (x4 : Int32) (S : kS) (H : Heap) (locs : List Loc), kV dC dI g (kAt g (kn Si) (km Si) (kp Si) sz) s Si S H locs → ∀ ls : Array Slot, lv_has ls 6 [(0, .ref (g.2.1 (26 + 15 * n0))), (1, .int x1), (2, .int x2), (3, .int x3), (4, .int x4)] → pX8_isShown_40 N n0 (pX8_isShown_3 N n0 n_3) t0 x1 x2 x3 x4 S = some (r, Sf) → W p l e (mRm 3) s m args below meth c H locs 0 0 (MQ below (kQ dC dI g sz Si (rI g r) Sf) args s 0 0 (kAt g (kn Si) (km Si) (kp Si) sz)) (F0 m 40 ls [.int t0]) := by
        intro t0 x1 x2 x3 x4 S H locs I ls hl hpf
        unfold pX8_isShown_40 at hpf
        refine lv_istore (lv' := [(5, .int t0), (0, .ref (g.2.1 (26 + 15 * n0))), (1, .int x1), (2, .int x2), (3, .int x3), (4, .int x4)]) hx hb dX8_isShown_40 hl (by decide) rfl (fun ls hl => ?_)
        refine lv_iload hx hb dX8_isShown_42 (lv_at hl 0 rfl) ?_
        refine b_if_eq hx hb 59 44 dX8_isShown_44 (by decide) hpf (fun hpf => ?_) (fun hpf => ?_)
        · exact hC_59 x1 x2 x3 x4 S H locs I ls (lv_sub hl [1, 2, 3, 4, 5] rfl) hpf
        refine lv_aload_n hx hb dX8_isShown_47 rfl (lv_at hl 1 rfl) ?_
        refine lv_iload hx hb dX8_isShown_48 (lv_at hl 5 rfl) ?_
        refine k_cIi (rest := []) (As := [.int x4]) (d := 3) ⟨Nat.le_refl _, Nat.le_refl _⟩ X I fn_X8_X8_shownName kCl_8 rfl (kO_T g S n0 hn0) (c_X8_shownName l N n0 hn0 x4) rfl (by decide) 50 dX8_isShown_50 rfl hl.1 rfl (Nat.le_of_ble_eq_true rfl) ⟨Nat.le_of_ble_eq_true rfl, Nat.le_of_ble_eq_true rfl⟩ hpf (fun v101 S102 H locs I hm hpf => ?_)
        refine lv_iload_n hx hb dX8_isShown_53 rfl (lv_at hl 3 rfl) ?_
        refine b_icmp_ne hx hb 59 54 dX8_isShown_54 (by decide) hpf (fun hpf => ?_) (fun hpf => ?_)
        · exact hC_59 x1 x2 x3 x4 S102 H locs I ls (lv_sub hl [1, 2, 3, 4, 5] rfl) hpf
        refine lv_iconst (v := (1 : Int32)) hx hb dX8_isShown_57 (by decide) ?_
        exact k_retzc X I hr 58 dX8_isShown_58 (by decide) hpf
      intro x1 x2 x3 x4 S H locs I ls hl hpf
      rw [pX8_isShown_3] at hpf
      refine lv_iload hx hb dX8_isShown_3 (lv_at hl 4 rfl) ?_
      refine lv_bipush (v := (48 : Int32)) hx hb dX8_isShown_5 (by decide) ?_
      refine b_icmp_ge hx hb 65 7 dX8_isShown_7 (by decide) hpf (fun hpf => ?_) (fun hpf => ?_)
      · refine lv_iconst (v := (0 : Int32)) hx hb dX8_isShown_65 (by decide) ?_
        exact k_retzc X I hr 66 dX8_isShown_66 (by decide) hpf
      refine lv_iload hx hb dX8_isShown_10 (lv_at hl 4 rfl) ?_
      refine lv_iload_n hx hb dX8_isShown_12 rfl (lv_at hl 3 rfl) ?_
      refine b_icmp_eq hx hb 39 13 dX8_isShown_13 (by decide) hpf (fun hpf => ?_) (fun hpf => ?_)
      · refine lv_iconst (v := (0 : Int32)) hx hb dX8_isShown_39 (by decide) ?_
        exact hC_40 (0 : Int32) x1 x2 x3 x4 S H locs I ls (lv_sub hl [0, 1, 2, 3, 4] rfl) hpf
      refine lv_aload_n hx hb dX8_isShown_16 rfl (lv_at hl 0 rfl) ?_
      refine lv_iload hx hb dX8_isShown_17 (lv_at hl 4 rfl) ?_
      refine k_cIi (rest := []) (As := [.int x4]) (d := 3) ⟨Nat.le_refl _, Nat.le_refl _⟩ X I fn_X8_X8_isLive kCl_8 rfl (kO_T g S n0 hn0) (c_X8_isLive l N n0 hn0 x4) rfl (by decide) 19 dX8_isShown_19 rfl hl.1 rfl (Nat.le_of_ble_eq_true rfl) ⟨Nat.le_of_ble_eq_true rfl, Nat.le_of_ble_eq_true rfl⟩ hpf (fun v101 S102 H locs I hm hpf => ?_)
      refine b_if_eq hx hb 39 22 dX8_isShown_22 (by decide) hpf (fun hpf => ?_) (fun hpf => ?_)
      · refine lv_iconst (v := (0 : Int32)) hx hb dX8_isShown_39 (by decide) ?_
        exact hC_40 (0 : Int32) x1 x2 x3 x4 S102 H locs I ls (lv_sub hl [0, 1, 2, 3, 4] rfl) hpf
      refine lv_aload_n hx hb dX8_isShown_25 rfl (lv_at hl 0 rfl) ?_
      refine lv_iload hx hb dX8_isShown_26 (lv_at hl 4 rfl) ?_
      refine k_cIi (rest := []) (As := [.int x4]) (d := 3) ⟨Nat.le_refl _, Nat.le_refl _⟩ X I fn_X8_X8_placeOf kCl_8 rfl (kO_T g S102 n0 hn0) (c_X8_placeOf l N n0 hn0 x4) rfl (by decide) 28 dX8_isShown_28 rfl hl.1 rfl (Nat.le_of_ble_eq_true rfl) ⟨Nat.le_of_ble_eq_true rfl, Nat.le_of_ble_eq_true rfl⟩ hpf (fun v103 S104 H locs I hm hpf => ?_)
      refine lv_iload_n hx hb dX8_isShown_31 rfl (lv_at hl 1 rfl) ?_
      refine b_icmp_ne hx hb 39 32 dX8_isShown_32 (by decide) hpf (fun hpf => ?_) (fun hpf => ?_)
      · refine lv_iconst (v := (0 : Int32)) hx hb dX8_isShown_39 (by decide) ?_
        exact hC_40 (0 : Int32) x1 x2 x3 x4 S104 H locs I ls (lv_sub hl [0, 1, 2, 3, 4] rfl) hpf
      refine lv_iconst (v := (1 : Int32)) hx hb dX8_isShown_35 (by decide) ?_
      refine lv_goto (tgt := 40) hx hb dX8_isShown_36 (by decide) ?_
      exact hC_40 (1 : Int32) x1 x2 x3 x4 S104 H locs I ls (lv_sub hl [0, 1, 2, 3, 4] rfl) hpf
  refine lv_iconst (v := (1 : Int32)) hx hb dX8_isShown_0 (by decide) ?_
  refine lv_istore (lv' := [(4, .int (1 : Int32)), (0, .ref (g.2.1 (26 + 15 * n0))), (1, .int x1), (2, .int x2), (3, .int x3)]) hx hb dX8_isShown_1 hl (by decide) rfl (fun ls hl => ?_)
  exact hC_3 N x1 x2 x3 (1 : Int32) Si H locs I ls (lv_sub hl [1, 2, 3, 4, 0] rfl) hpf
-- ===== X8_childrenAt =====
def pX8_childrenAt_38 (N : Nat) (n0 : Nat) (k_5 : Int32 → Int64 → Int32 → kS → Option (Int64 × kS)) (x1 : Int32) (w2 : Int64) (x4 : Int32) (S : kS) : Option (Int64 × kS) :=
    nm (x4 + (1 : Int32)) fun y101 =>
    k_5 x1 w2 y101 S
def pX8_childrenAt_5 (N : Nat) (n0 : Nat) : Nat → Int32 → Int64 → Int32 → kS → Option (Int64 × kS)
  | 0 => fun _ _ _ _ => none
  | n_5 + 1 => fun x1 w2 x4 S =>
    if (48 : Int32) ≤ x4 then (
      some (w2, S))
    else (
      bk (pX8_isLive N n0 x4 S) fun v101 S102 =>
      if v101 = (0 : Int32) then (
        pX8_childrenAt_38 N n0 (pX8_childrenAt_5 N n0 n_5) x1 w2 x4 S102)
      else (
        bk (pX8_placeOf N n0 x4 S102) fun v103 S104 =>
        if v103 = x1 then (
          nml (w2 ||| ((1 : Int64) <<< (x4.toInt64 &&& 63))) fun y105 =>
          pX8_childrenAt_38 N n0 (pX8_childrenAt_5 N n0 n_5) x1 y105 x4 S104)
        else (
          pX8_childrenAt_38 N n0 (pX8_childrenAt_5 N n0 n_5) x1 w2 x4 S104)))
def pX8_childrenAt (N : Nat) (n0 : Nat) (x1 : Int32) (S : kS) : Option (Int64 × kS) :=
    pX8_childrenAt_5 N n0 N x1 (0 : Int64) (1 : Int32) S
set_option maxRecDepth 100000 in
set_option maxHeartbeats 4000000 in
theorem c_X8_childrenAt (l : Launch) (N : Nat) (n0 : Nat) (hn0 : n0 < 5) (x1 : Int32) : kMet l yX8_childrenAt cX8_childrenAt 5 (some .long) 2 (fun g => [.ref (g.2.1 (26 + 15 * n0)), .int x1]) rJ (pX8_childrenAt N n0 x1) := by
  refine kStart RX8 (by decide +kernel) rfl (fun g => [(0, .ref (g.2.1 (26 + 15 * n0))), (1, .int x1)]) (fun _ => Nat.le_of_ble_eq_true rfl) (fun _ => rfl) ?_
  intro dC dI g sz Si r Sf hpf p e s m args below meth c X hr H locs I ls hl
  have hx := X.1
  have hb := X.2.1
  unfold pX8_childrenAt at hpf
  have hC_5 : ∀ (n_5 : Nat), ∀ (x1 : Int32) (w2 : Int64) (x4 : Int32) (S : kS) (H : Heap) (locs : List Loc), kV dC dI g (kAt g (kn Si) (km Si) (kp Si) sz) s Si S H locs → ∀ ls : Array Slot, lv_has ls 5 [(0, .ref (g.2.1 (26 + 15 * n0))), (1, .int x1), (2, .long w2), (4, .int x4)] → pX8_childrenAt_5 N n0 n_5 x1 w2 x4 S = some (r, Sf) → W p l e (mRm 2) s m args below meth c H locs 0 0 (MQ below (kQ dC dI g sz Si (rJ g r) Sf) args s 0 0 (kAt g (kn Si) (km Si) (kp Si) sz)) (F0 m 5 ls []) := by
    intro n_5
    induction n_5 with
    | zero =>
      intro x1 w2 x4 S H locs I ls hl hpf
      rw [pX8_childrenAt_5] at hpf
      cases hpf
    | succ n_5 ih_5 =>
      have hC_38 : ∀ (x1 : Int32) (w2 : Int64) (x4 : Int32) (S : kS) (H : Heap) (locs : List Loc), kV dC dI g (kAt g (kn Si) (km Si) (kp Si) sz) s Si S H locs → ∀ ls : Array Slot, lv_has ls 5 [(0, .ref (g.2.1 (26 + 15 * n0))), (1, .int x1), (2, .long w2), (4, .int x4)] → pX8_childrenAt_38 N n0 (pX8_childrenAt_5 N n0 n_5) x1 w2 x4 S = some (r, Sf) → W p l e (mRm 2) s m args below meth c H locs 0 0 (MQ below (kQ dC dI g sz Si (rJ g r) Sf) args s 0 0 (kAt g (kn Si) (km Si) (kp Si) sz)) (F0 m 38 ls []) := by
        intro x1 w2 x4 S H locs I ls hl hpf
        unfold pX8_childrenAt_38 at hpf
        refine m_iinc (w := (1 : Int32)) hx hb (fun y101 => [(4, .int y101), (0, .ref (g.2.1 (26 + 15 * n0))), (1, .int x1), (2, .long w2)]) 38 dX8_childrenAt_38 hl (k := 3) rfl (by decide) (by decide) (fun _ => rfl) hpf (fun y101 ls hl hpf => ?_)
        refine lv_goto (tgt := 5) hx hb dX8_childrenAt_41 (by decide) ?_
        exact ih_5 x1 w2 y101 S H locs I ls (lv_sub hl [1, 2, 3, 0] rfl) hpf
      intro x1 w2 x4 S H locs I ls hl hpf
      rw [pX8_childrenAt_5] at hpf
      refine lv_iload hx hb dX8_childrenAt_5 (lv_at hl 3 rfl) ?_
      refine lv_bipush (v := (48 : Int32)) hx hb dX8_childrenAt_7 (by decide) ?_
      refine b_icmp_ge hx hb 44 9 dX8_childrenAt_9 (by decide) hpf (fun hpf => ?_) (fun hpf => ?_)
      · refine lv_lload_n hx hb dX8_childrenAt_44 rfl (lv_at hl 2 rfl) ?_
        exact k_retl X I hr 45 dX8_childrenAt_45 hpf
      refine lv_aload_n hx hb dX8_childrenAt_12 rfl (lv_at hl 0 rfl) ?_
      refine lv_iload hx hb dX8_childrenAt_13 (lv_at hl 3 rfl) ?_
      refine k_cIi (rest := []) (As := [.int x4]) (d := 2) ⟨Nat.le_refl _, Nat.le_refl _⟩ X I fn_X8_X8_isLive kCl_8 rfl (kO_T g S n0 hn0) (c_X8_isLive l N n0 hn0 x4) rfl (by decide) 15 dX8_childrenAt_15 rfl hl.1 rfl (Nat.le_of_ble_eq_true rfl) ⟨Nat.le_of_ble_eq_true rfl, Nat.le_of_ble_eq_true rfl⟩ hpf (fun v101 S102 H locs I hm hpf => ?_)
      refine b_if_eq hx hb 38 18 dX8_childrenAt_18 (by decide) hpf (fun hpf => ?_) (fun hpf => ?_)
      · exact hC_38 x1 w2 x4 S102 H locs I ls (lv_sub hl [0, 1, 2, 3] rfl) hpf
      refine lv_aload_n hx hb dX8_childrenAt_21 rfl (lv_at hl 0 rfl) ?_
      refine lv_iload hx hb dX8_childrenAt_22 (lv_at hl 3 rfl) ?_
      refine k_cIi (rest := []) (As := [.int x4]) (d := 2) ⟨Nat.le_refl _, Nat.le_refl _⟩ X I fn_X8_X8_placeOf kCl_8 rfl (kO_T g S102 n0 hn0) (c_X8_placeOf l N n0 hn0 x4) rfl (by decide) 24 dX8_childrenAt_24 rfl hl.1 rfl (Nat.le_of_ble_eq_true rfl) ⟨Nat.le_of_ble_eq_true rfl, Nat.le_of_ble_eq_true rfl⟩ hpf (fun v103 S104 H locs I hm hpf => ?_)
      refine lv_iload_n hx hb dX8_childrenAt_27 rfl (lv_at hl 1 rfl) ?_
      refine b_icmp_ne hx hb 38 28 dX8_childrenAt_28 (by decide) hpf (fun hpf => ?_) (fun hpf => ?_)
      · exact hC_38 x1 w2 x4 S104 H locs I ls (lv_sub hl [0, 1, 2, 3] rfl) hpf
      refine lv_lload_n hx hb dX8_childrenAt_31 rfl (lv_at hl 2 rfl) ?_
      refine lv_lconst (v := (1 : Int64)) hx hb dX8_childrenAt_32 (by decide) ?_
      refine lv_iload hx hb dX8_childrenAt_33 (lv_at hl 3 rfl) ?_
      refine lv_lshl hx hb dX8_childrenAt_35 rfl ?_
      refine lv_lor hx hb dX8_childrenAt_36 ?_
      refine k_lsto_n hx hb (fun y105 => [(2, .long y105), (0, .ref (g.2.1 (26 + 15 * n0))), (1, .int x1), (4, .int x4)]) 37 dX8_childrenAt_37 rfl hl (by decide) (fun _ => rfl) hpf (fun y105 ls hl hpf => ?_)
      exact hC_38 x1 y105 x4 S104 H locs I ls (lv_sub hl [1, 2, 0, 3] rfl) hpf
  refine lv_lconst (v := (0 : Int64)) hx hb dX8_childrenAt_0 (by decide) ?_
  refine lv_lstore_n (lv' := [(2, .long (0 : Int64)), (0, .ref (g.2.1 (26 + 15 * n0))), (1, .int x1)]) hx hb dX8_childrenAt_1 rfl hl (by decide) rfl (fun ls hl => ?_)
  refine lv_iconst (v := (1 : Int32)) hx hb dX8_childrenAt_2 (by decide) ?_
  refine lv_istore (lv' := [(4, .int (1 : Int32)), (2, .long (0 : Int64)), (0, .ref (g.2.1 (26 + 15 * n0))), (1, .int x1)]) hx hb dX8_childrenAt_3 hl (by decide) rfl (fun ls hl => ?_)
  exact hC_5 N x1 (0 : Int64) (1 : Int32) Si H locs I ls (lv_sub hl [2, 3, 1, 0] rfl) hpf
-- ===== X8_rankedAt =====
def pX8_rankedAt_59 (N : Nat) (n0 : Nat) (S : kS) : Option (Unit × kS) :=
    some ((), S)
def pX8_rankedAt_53 (N : Nat) (n0 : Nat) (k_16 : Int64 → Int32 → kS → Option (Unit × kS)) (w2 : Int64) (x4 : Int32) (S : kS) : Option (Unit × kS) :=
    nm (x4 + (1 : Int32)) fun y101 =>
    k_16 w2 y101 S
def pX8_rankedAt_16 (N : Nat) (n0 : Nat) (k_59 : kS → Option (Unit × kS)) : Nat → Int64 → Int32 → kS → Option (Unit × kS)
  | 0 => fun _ _ _ => none
  | n_16 + 1 => fun w2 x4 S =>
    if (48 : Int32) ≤ x4 then (
      k_59 S)
    else (
      if (lg_cmp ((w2 >>> (x4.toInt64 &&& 63)) &&& (1 : Int64)) (1 : Int64)) = (0 : Int32) then (
        bk (pX8_shownName N n0 x4 S) fun v101 S102 =>
        bk (pX5_put N n0 2 ((v101 * (48 : Int32)) + x4) S102) fun v103 S104 =>
        pX8_rankedAt_53 N n0 (pX8_rankedAt_16 N n0 k_59 n_16) w2 x4 S104)
      else (
        pX8_rankedAt_53 N n0 (pX8_rankedAt_16 N n0 k_59 n_16) w2 x4 S))
def pX8_rankedAt (N : Nat) (n0 : Nat) (x1 : Int32) (S : kS) : Option (Unit × kS) :=
    bk (pX8_childrenAt N n0 x1 S) fun v101 S102 =>
    bk (pX5_clear N n0 2 S102) fun v103 S104 =>
    pX8_rankedAt_16 N n0 (pX8_rankedAt_59 N n0) N v101 (1 : Int32) S104
set_option maxRecDepth 100000 in
set_option maxHeartbeats 4000000 in
theorem c_X8_rankedAt (l : Launch) (N : Nat) (n0 : Nat) (hn0 : n0 < 5) (x1 : Int32) : kMet l yX8_rankedAt cX8_rankedAt 5 (some (.object "MasterTree$Numbers")) 3 (fun g => [.ref (g.2.1 (26 + 15 * n0)), .int x1]) (rR (26 + 15 * n0 + 9 + 2 * 2)) (pX8_rankedAt N n0 x1) := by
  refine kStart RX8 (by decide +kernel) rfl (fun g => [(0, .ref (g.2.1 (26 + 15 * n0))), (1, .int x1)]) (fun _ => Nat.le_of_ble_eq_true rfl) (fun _ => rfl) ?_
  intro dC dI g sz Si r Sf hpf p e s m args below meth c X hr H locs I ls hl
  have hx := X.1
  have hb := X.2.1
  unfold pX8_rankedAt at hpf
  have hC_59 : ∀ (S : kS) (H : Heap) (locs : List Loc), kV dC dI g (kAt g (kn Si) (km Si) (kp Si) sz) s Si S H locs → ∀ ls : Array Slot, lv_has ls 5 [(0, .ref (g.2.1 (26 + 15 * n0)))] → pX8_rankedAt_59 N n0 S = some (r, Sf) → W p l e (mRm 3) s m args below meth c H locs 0 0 (MQ below (kQ dC dI g sz Si ((rR (26 + 15 * n0 + 9 + 2 * 2)) g r) Sf) args s 0 0 (kAt g (kn Si) (km Si) (kp Si) sz)) (F0 m 59 ls []) := by
    intro S H locs I ls hl hpf
    unfold pX8_rankedAt_59 at hpf
    refine lv_aload_n hx hb dX8_rankedAt_59 rfl (lv_at hl 0 rfl) ?_
    refine k_get (k := 0) X I kCl_8 (kO_T g S n0 hn0) 9 (by decide) rfl kC_240 60 dX8_rankedAt_60 ?_
    exact k_reta (Rv := (rR (26 + 15 * n0 + 9 + 2 * 2))) X I hr 63 dX8_rankedAt_63 rfl hpf
  have hC_16 : ∀ (n_16 : Nat), ∀ (w2 : Int64) (x4 : Int32) (S : kS) (H : Heap) (locs : List Loc), kV dC dI g (kAt g (kn Si) (km Si) (kp Si) sz) s Si S H locs → ∀ ls : Array Slot, lv_has ls 5 [(0, .ref (g.2.1 (26 + 15 * n0))), (2, .long w2), (4, .int x4)] → pX8_rankedAt_16 N n0 (pX8_rankedAt_59 N n0) n_16 w2 x4 S = some (r, Sf) → W p l e (mRm 3) s m args below meth c H locs 0 0 (MQ below (kQ dC dI g sz Si ((rR (26 + 15 * n0 + 9 + 2 * 2)) g r) Sf) args s 0 0 (kAt g (kn Si) (km Si) (kp Si) sz)) (F0 m 16 ls []) := by
    intro n_16
    induction n_16 with
    | zero =>
      intro w2 x4 S H locs I ls hl hpf
      rw [pX8_rankedAt_16] at hpf
      cases hpf
    | succ n_16 ih_16 =>
      have hC_53 : ∀ (w2 : Int64) (x4 : Int32) (S : kS) (H : Heap) (locs : List Loc), kV dC dI g (kAt g (kn Si) (km Si) (kp Si) sz) s Si S H locs → ∀ ls : Array Slot, lv_has ls 5 [(0, .ref (g.2.1 (26 + 15 * n0))), (2, .long w2), (4, .int x4)] → pX8_rankedAt_53 N n0 (pX8_rankedAt_16 N n0 (pX8_rankedAt_59 N n0) n_16) w2 x4 S = some (r, Sf) → W p l e (mRm 3) s m args below meth c H locs 0 0 (MQ below (kQ dC dI g sz Si ((rR (26 + 15 * n0 + 9 + 2 * 2)) g r) Sf) args s 0 0 (kAt g (kn Si) (km Si) (kp Si) sz)) (F0 m 53 ls []) := by
        intro w2 x4 S H locs I ls hl hpf
        unfold pX8_rankedAt_53 at hpf
        refine m_iinc (w := (1 : Int32)) hx hb (fun y101 => [(4, .int y101), (0, .ref (g.2.1 (26 + 15 * n0))), (2, .long w2)]) 53 dX8_rankedAt_53 hl (k := 2) rfl (by decide) (by decide) (fun _ => rfl) hpf (fun y101 ls hl hpf => ?_)
        refine lv_goto (tgt := 16) hx hb dX8_rankedAt_56 (by decide) ?_
        exact ih_16 w2 y101 S H locs I ls (lv_sub hl [1, 2, 0] rfl) hpf
      intro w2 x4 S H locs I ls hl hpf
      rw [pX8_rankedAt_16] at hpf
      refine lv_iload hx hb dX8_rankedAt_16 (lv_at hl 2 rfl) ?_
      refine lv_bipush (v := (48 : Int32)) hx hb dX8_rankedAt_18 (by decide) ?_
      refine b_icmp_ge hx hb 59 20 dX8_rankedAt_20 (by decide) hpf (fun hpf => ?_) (fun hpf => ?_)
      · exact hC_59 S H locs I ls (lv_sub hl [0] rfl) hpf
      refine lv_lload_n hx hb dX8_rankedAt_23 rfl (lv_at hl 1 rfl) ?_
      refine lv_iload hx hb dX8_rankedAt_24 (lv_at hl 2 rfl) ?_
      refine lv_lshr hx hb dX8_rankedAt_26 rfl ?_
      refine lv_lconst (v := (1 : Int64)) hx hb dX8_rankedAt_27 (by decide) ?_
      refine lv_land hx hb dX8_rankedAt_28 ?_
      refine lv_lconst (v := (1 : Int64)) hx hb dX8_rankedAt_29 (by decide) ?_
      refine W.lcmp hx hb dX8_rankedAt_30 ?_
      refine b_if_ne hx hb 53 31 dX8_rankedAt_31 (by decide) hpf (fun hpf => ?_) (fun hpf => ?_)
      · exact hC_53 w2 x4 S H locs I ls (lv_sub hl [0, 1, 2] rfl) hpf
      refine lv_aload_n hx hb dX8_rankedAt_34 rfl (lv_at hl 0 rfl) ?_
      refine k_get (k := 0) X I kCl_8 (kO_T g S n0 hn0) 9 (by decide) rfl kC_240 35 dX8_rankedAt_35 ?_
      refine lv_aload_n hx hb dX8_rankedAt_38 rfl (lv_at hl 0 rfl) ?_
      refine lv_iload hx hb dX8_rankedAt_39 (lv_at hl 2 rfl) ?_
      refine k_cIi (rest := [.ref (g.2.1 (26 + 15 * n0 + 9 + 2 * 2))]) (As := [.int x4]) (d := 3) ⟨Nat.le_refl _, Nat.le_refl _⟩ X I fn_X8_X8_shownName kCl_8 rfl (kO_T g S n0 hn0) (c_X8_shownName l N n0 hn0 x4) rfl (by decide) 41 dX8_rankedAt_41 rfl hl.1 rfl (Nat.le_of_ble_eq_true rfl) ⟨Nat.le_of_ble_eq_true rfl, Nat.le_of_ble_eq_true rfl⟩ hpf (fun v101 S102 H locs I hm hpf => ?_)
      refine lv_bipush (v := (48 : Int32)) hx hb dX8_rankedAt_44 (by decide) ?_
      refine lv_imul hx hb dX8_rankedAt_46 ?_
      refine lv_iload hx hb dX8_rankedAt_47 (lv_at hl 2 rfl) ?_
      refine lv_iadd hx hb dX8_rankedAt_49 ?_
      refine k_cIv (rest := []) (As := [.int ((v101 * (48 : Int32)) + x4)]) (d := 3) ⟨Nat.le_refl _, Nat.le_refl _⟩ X I fn_X8_X5_put kCl_5 rfl (kO_N g S102 n0 2 hn0 (by decide)) (c_X5_put l N n0 2 hn0 (by decide) ((v101 * (48 : Int32)) + x4)) rfl (by decide) 50 dX8_rankedAt_50 rfl hl.1 rfl (Nat.le_of_ble_eq_true rfl) ⟨Nat.le_of_ble_eq_true rfl, Nat.le_of_ble_eq_true rfl⟩ hpf (fun v103 S104 H locs I hm hpf => ?_)
      exact hC_53 w2 x4 S104 H locs I ls (lv_sub hl [0, 1, 2] rfl) hpf
  refine lv_aload_n hx hb dX8_rankedAt_0 rfl (lv_at hl 0 rfl) ?_
  refine lv_iload_n hx hb dX8_rankedAt_1 rfl (lv_at hl 1 rfl) ?_
  refine k_cIl (rest := []) (As := [.int x1]) (d := 3) ⟨Nat.le_refl _, Nat.le_refl _⟩ X I fn_X8_X8_childrenAt kCl_8 rfl (kO_T g Si n0 hn0) (c_X8_childrenAt l N n0 hn0 x1) rfl (by decide) 2 dX8_rankedAt_2 rfl hl.1 rfl (Nat.le_of_ble_eq_true rfl) ⟨Nat.le_of_ble_eq_true rfl, Nat.le_of_ble_eq_true rfl⟩ hpf (fun v101 S102 H locs I hm hpf => ?_)
  refine lv_lstore_n (lv' := [(2, .long v101), (0, .ref (g.2.1 (26 + 15 * n0))), (1, .int x1)]) hx hb dX8_rankedAt_5 rfl hl (by decide) rfl (fun ls hl => ?_)
  refine lv_aload_n hx hb dX8_rankedAt_6 rfl (lv_at hl 1 rfl) ?_
  refine k_get (k := 0) X I kCl_8 (kO_T g S102 n0 hn0) 9 (by decide) rfl kC_240 7 dX8_rankedAt_7 ?_
  refine k_cIv (rest := []) (As := []) (d := 3) ⟨Nat.le_refl _, Nat.le_refl _⟩ X I fn_X8_X5_clear kCl_5 rfl (kO_N g S102 n0 2 hn0 (by decide)) (c_X5_clear l N n0 2 hn0 (by decide)) rfl (by decide) 10 dX8_rankedAt_10 rfl hl.1 rfl (Nat.le_of_ble_eq_true rfl) ⟨Nat.le_of_ble_eq_true rfl, Nat.le_of_ble_eq_true rfl⟩ hpf (fun v103 S104 H locs I hm hpf => ?_)
  refine lv_iconst (v := (1 : Int32)) hx hb dX8_rankedAt_13 (by decide) ?_
  refine lv_istore (lv' := [(4, .int (1 : Int32)), (2, .long v101), (0, .ref (g.2.1 (26 + 15 * n0))), (1, .int x1)]) hx hb dX8_rankedAt_14 hl (by decide) rfl (fun ls hl => ?_)
  exact hC_16 N v101 (1 : Int32) S104 H locs I ls (lv_sub hl [2, 1, 0] rfl) hpf
