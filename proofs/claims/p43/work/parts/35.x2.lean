theorem fn_X9_X7_newAttribute : kFnI RX9 yX7_newAttribute cX7_newAttribute 4 (some .int) 2 78 := ⟨⟨kC_455, kC_45, kC_323, ⟨by decide +kernel, by decide +kernel, by decide +kernel⟩, by decide⟩, kC_456, kC_457⟩
theorem fn_X9_X9_needClass : kFnI RX9 yX9_needClass cX9_needClass 2 none 1 82 := ⟨⟨kC_463, kC_466, kC_458, ⟨by decide +kernel, by decide +kernel, by decide +kernel⟩, by decide⟩, kC_464, kC_465⟩
theorem fn_X9_X7_isSetOfAttributes : kFnI RX9 yX7_isSetOfAttributes cX7_isSetOfAttributes 2 (some .boolean) 1 86 := ⟨⟨kC_467, kC_45, kC_327, ⟨by decide +kernel, by decide +kernel, by decide +kernel⟩, by decide⟩, kC_468, kC_469⟩
theorem fn_X9_X7_newClass : kFnI RX9 yX7_newClass cX7_newClass 4 (some .int) 3 100 := ⟨⟨kC_470, kC_45, kC_325, ⟨by decide +kernel, by decide +kernel, by decide +kernel⟩, by decide⟩, kC_471, kC_472⟩
theorem fn_X9_X9_needUser : kFnS RX9 yX9_needUser cX9_needUser 1 none 1 108 := ⟨⟨kC_481, kC_466, kC_475, ⟨by decide +kernel, by decide +kernel, by decide +kernel⟩, by decide⟩, kC_482⟩
theorem fn_X9_X9_needAttribute : kFnI RX9 yX9_needAttribute cX9_needAttribute 2 none 1 114 := ⟨⟨kC_488, kC_466, kC_483, ⟨by decide +kernel, by decide +kernel, by decide +kernel⟩, by decide⟩, kC_489, kC_490⟩
theorem fn_X9_X9_needValue : kFnS RX9 yX9_needValue cX9_needValue 1 none 1 117 := ⟨⟨kC_491, kC_466, kC_484, ⟨by decide +kernel, by decide +kernel, by decide +kernel⟩, by decide⟩, kC_492⟩
theorem fn_X9_X1_put : kFnI RX9 yX1_put cX1_put 2 (some .int) 1 125 := ⟨⟨kC_493, kC_77, kC_17, ⟨by decide +kernel, by decide +kernel, by decide +kernel⟩, by decide⟩, kC_494, kC_495⟩
theorem fn_X9_X4_learn : kFnI RX9 yX4_learn cX4_learn 2 none 1 264 := ⟨⟨kC_663, kC_284, kC_289, ⟨by decide +kernel, by decide +kernel, by decide +kernel⟩, by decide⟩, kC_297, kC_298⟩
theorem fn_X9_X9_redo : kFnI RX9 yX9_redo cX9_redo 5 none 2 268 := ⟨⟨kC_664, kC_466, kC_662, ⟨by decide +kernel, by decide +kernel, by decide +kernel⟩, by decide⟩, kC_665, kC_666⟩
theorem fn_X9_X4_talkTo : kFnI RX9 yX4_talkTo cX4_talkTo 4 none 1 272 := ⟨⟨kC_667, kC_284, kC_299, ⟨by decide +kernel, by decide +kernel, by decide +kernel⟩, by decide⟩, kC_668, kC_669⟩
theorem fn_X9_X4_marked : kFnI RX9 yX4_marked cX4_marked 1 (some .long) 0 214 := ⟨⟨kC_634, kC_284, kC_301, ⟨by decide +kernel, by decide +kernel, by decide +kernel⟩, by decide⟩, kC_635, kC_636⟩
theorem fn_X9_X9_deletionsKnownBy : kFnI RX9 yX9_deletionsKnownBy cX9_deletionsKnownBy 7 (some .long) 2 276 := ⟨⟨kC_675, kC_466, kC_673, ⟨by decide +kernel, by decide +kernel, by decide +kernel⟩, by decide⟩, kC_676, kC_677⟩
theorem fn_X9_J13_bitCount_95d88 : kFnS RX9 yJ13_bitCount_95d88 cJ13_bitCount_95d88 2 (some .int) 1 218 := ⟨⟨kC_637, kC_218, kC_639, ⟨by decide +kernel, by decide +kernel, by decide +kernel⟩, by decide⟩, kC_638⟩
theorem fn_X9_X9_needRoomForFilter : kFnI RX9 yX9_needRoomForFilter cX9_needRoomForFilter 1 none 0 284 := ⟨⟨kC_682, kC_466, kC_679, ⟨by decide +kernel, by decide +kernel, by decide +kernel⟩, by decide⟩, kC_683, kC_684⟩
theorem fn_X9_X7_lowest : kFnI RX9 yX7_lowest cX7_lowest 3 (some .int) 2 287 := ⟨⟨kC_685, kC_45, kC_54, ⟨by decide +kernel, by decide +kernel, by decide +kernel⟩, by decide⟩, kC_61, kC_62⟩
theorem fn_X9_X7_highest : kFnI RX9 yX7_highest cX7_highest 3 (some .int) 2 290 := ⟨⟨kC_686, kC_45, kC_58, ⟨by decide +kernel, by decide +kernel, by decide +kernel⟩, by decide⟩, kC_64, kC_65⟩
theorem fn_X9_X2_putRange : kFnI RX9 yX2_putRange cX2_putRange 4 (some .int) 3 293 := ⟨⟨kC_687, kC_98, kC_94, ⟨by decide +kernel, by decide +kernel, by decide +kernel⟩, by decide⟩, kC_688, kC_689⟩
theorem fn_X9_X2_putClass : kFnI RX9 yX2_putClass cX2_putClass 2 (some .int) 1 296 := ⟨⟨kC_693, kC_98, kC_99, ⟨by decide +kernel, by decide +kernel, by decide +kernel⟩, by decide⟩, kC_694, kC_695⟩
theorem fn_X9_X2_putCombined : kFnI RX9 yX2_putCombined cX2_putCombined 2 (some .int) 1 307 := ⟨⟨kC_698, kC_98, kC_100, ⟨by decide +kernel, by decide +kernel, by decide +kernel⟩, by decide⟩, kC_699, kC_700⟩
theorem fn_X9_X2_putNot : kFnI RX9 yX2_putNot cX2_putNot 1 (some .int) 0 313 := ⟨⟨kC_702, kC_98, kC_101, ⟨by decide +kernel, by decide +kernel, by decide +kernel⟩, by decide⟩, kC_703, kC_704⟩
theorem fn_X9_X9_needSearch : kFnI RX9 yX9_needSearch cX9_needSearch 4 none 3 319 := ⟨⟨kC_710, kC_466, kC_709, ⟨by decide +kernel, by decide +kernel, by decide +kernel⟩, by decide⟩, kC_711, kC_712⟩
theorem fn_X9_X3_byIndex : kFnI RX9 yX3_byIndex cX3_byIndex 9 (some .int) 3 323 := ⟨⟨kC_713, kC_204, kC_211, ⟨by decide +kernel, by decide +kernel, by decide +kernel⟩, by decide⟩, kC_714, kC_715⟩
theorem fn_X9_X3_byWalk : kFnI RX9 yX3_byWalk cX3_byWalk 10 (some .int) 3 326 := ⟨⟨kC_717, kC_204, kC_228, ⟨by decide +kernel, by decide +kernel, by decide +kernel⟩, by decide⟩, kC_718, kC_719⟩
theorem fn_X9_X3_byLinks : kFnI RX9 yX3_byLinks cX3_byLinks 6 (some .int) 3 329 := ⟨⟨kC_721, kC_204, kC_271, ⟨by decide +kernel, by decide +kernel, by decide +kernel⟩, by decide⟩, kC_722, kC_723⟩
-- ===== X9_attribute =====
def pX9_attribute (N : Nat) (x1 : Int32) (x2 : Int32) (S : kS) : Option ((Int32 ⊕ Nat) × kS) :=
    if (kI S 1) < (10 : Int32) then (
      bk (pX7_newAttribute N x1 x2 S) fun v101 S102 =>
      some (.inl v101, S102))
    else (
      some (.inr 3, S))
set_option maxRecDepth 100000 in
set_option maxHeartbeats 4000000 in
theorem c_X9_attribute (l : Launch) (hlt : l.stackTraces = false) (N : Nat) (x1 : Int32) (x2 : Int32) : kMx l yX9_attribute cX9_attribute 3 (some .int) 6 1 6 (fun g => [.ref (g.2.1 0), .int x1, .int x2]) rI (pX9_attribute N x1 x2) := by
  refine xStart hlt RX9 (by decide +kernel) rfl (fun g => [(0, .ref (g.2.1 0)), (1, .int x1), (2, .int x2)]) (fun _ => Nat.le_of_ble_eq_true rfl) (fun _ => rfl) ?_
  intro dC dI g sz Si o Sf hpf p e s m args below meth c X XX hr H locs I hc ls hl
  have hx := X.1
  have hb := X.2.1
  unfold pX9_attribute at hpf
  refine lv_aload_n hx hb dX9_attribute_0 rfl (lv_at hl 0 rfl) ?_
  refine k_get (k := 0) X I kCl_9 (kO_X (g.1, g.2.1, g.2.2.1, g.2.2.2.1, g.2.2.2.2) Si) 0 (by decide) rfl kC_402 1 dX9_attribute_1 ?_
  refine k_get (k := 0) X I kCl_7 (kO_H (g.1, g.2.1, g.2.2.1, g.2.2.2.1, g.2.2.2.2) Si) 0 (by decide) rfl kC_454 4 dX9_attribute_4 ?_
  refine lv_bipush (v := (10 : Int32)) hx hb dX9_attribute_7 (by decide) ?_
  refine b_icmp_lt hx hb 22 9 dX9_attribute_9 (by decide) hpf (fun hpf => ?_) (fun hpf => ?_)
  · refine lv_aload_n hx hb dX9_attribute_22 rfl (lv_at hl 0 rfl) ?_
    refine k_get (k := 0) X I kCl_9 (kO_X (g.1, g.2.1, g.2.2.1, g.2.2.2.1, g.2.2.2.2) Si) 0 (by decide) rfl kC_402 23 dX9_attribute_23 ?_
    refine lv_iload_n hx hb dX9_attribute_26 rfl (lv_at hl 1 rfl) ?_
    refine lv_iload_n hx hb dX9_attribute_27 rfl (lv_at hl 2 rfl) ?_
    refine k_cIi (rest := []) (As := [.int x1, .int x2]) (d := 6) ⟨Nat.le_refl _, Nat.le_refl _⟩ X I fn_X9_X7_newAttribute kCl_7 rfl (kO_H (g.1, g.2.1, g.2.2.1, g.2.2.2.1, g.2.2.2.2) Si) (c_X7_newAttribute l N x1 x2) rfl (by decide) 28 dX9_attribute_28 rfl hl.1 rfl (Nat.le_of_ble_eq_true rfl) ⟨Nat.le_of_ble_eq_true rfl, Nat.le_of_ble_eq_true rfl⟩ hpf (fun v101 S102 H locs I hm hpf => ?_)
    exact x_reti X I hc hr ⟨Nat.le_of_ble_eq_true rfl, Nat.le_of_ble_eq_true rfl⟩ 31 dX9_attribute_31 hpf
  exact x_throw 3 (Or.inr (Or.inr rfl)) X XX I hc (is := 73) (tx := "there are 10 attributes") (List.mem_of_getElem? (i := 0) rfl) hl.1 ⟨Nat.le_of_ble_eq_true rfl, Nat.le_of_ble_eq_true rfl⟩ ⟨Nat.le_of_ble_eq_true rfl, Nat.le_of_ble_eq_true rfl⟩ ⟨Nat.le_of_ble_eq_true rfl, Nat.le_of_ble_eq_true rfl⟩ (Nat.le_of_ble_eq_true rfl) 12 dX9_attribute_12 dX9_attribute_15 dX9_attribute_16 dX9_attribute_18 dX9_attribute_21 hpf
-- ===== X9_objectClass =====
def pX9_objectClass_32 (N : Nat) (S : kS) : Option ((Int32 ⊕ Nat) × kS) :=
    some (.inr 1, S)
def pX9_objectClass_10 (N : Nat) (x1 : Int32) (x2 : Int32) (x3 : Int32) (S : kS) : Option ((Int32 ⊕ Nat) × kS) :=
    bk (pX7_isSetOfAttributes N x2 S) fun v101 S102 =>
    if v101 = (0 : Int32) then (
      pX9_objectClass_32 N S102)
    else (
      bk (pX7_isSetOfAttributes N x3 S102) fun v103 S104 =>
      if v103 = (0 : Int32) then (
        pX9_objectClass_32 N S104)
      else (
        if (kI S104 2) < (8 : Int32) then (
          bk (pX7_newClass N x1 x2 x3 S104) fun v105 S106 =>
          some (.inl v105, S106))
        else (
          some (.inr 3, S104))))
def pX9_objectClass (N : Nat) (x1 : Int32) (x2 : Int32) (x3 : Int32) (S : kS) : Option ((Int32 ⊕ Nat) × kS) :=
    if x1 = (-1 : Int32) then (
      pX9_objectClass_10 N x1 x2 x3 S)
    else (
      bx (pX9_needClass N x1 S) fun v101 S102 =>
      pX9_objectClass_10 N x1 x2 x3 S102)
set_option maxRecDepth 100000 in
set_option maxHeartbeats 4000000 in
theorem c_X9_objectClass (l : Launch) (hlt : l.stackTraces = false) (N : Nat) (x1 : Int32) (x2 : Int32) (x3 : Int32) : kMx l yX9_objectClass cX9_objectClass 4 (some .int) 7 2 12 (fun g => [.ref (g.2.1 0), .int x1, .int x2, .int x3]) rI (pX9_objectClass N x1 x2 x3) := by
  refine xStart hlt RX9 (by decide +kernel) rfl (fun g => [(0, .ref (g.2.1 0)), (1, .int x1), (2, .int x2), (3, .int x3)]) (fun _ => Nat.le_of_ble_eq_true rfl) (fun _ => rfl) ?_
  intro dC dI g sz Si o Sf hpf p e s m args below meth c X XX hr H locs I hc ls hl
  have hx := X.1
  have hb := X.2.1
  unfold pX9_objectClass at hpf
  have hC_32 : ∀ (cC cD : Nat → Nat) (cE : Nat) (S S0 : kS), kGc g cC cE Si S0 → kX p s m meth c cX9_objectClass 4 args RX9 dC dI (g.1, g.2.1, cC, cD, cE) (kAt g (kn Si) (km Si) (kp Si) sz) → ∀ (H : Heap) (locs : List Loc), kV dC dI (g.1, g.2.1, cC, cD, cE) (kAt g (kn Si) (km Si) (kp Si) sz) s S0 S H locs → ∀ ls : Array Slot, lv_has ls 4 [(0, .ref (g.2.1 0))] → pX9_objectClass_32 N S = some (o, Sf) → W p l e (xRm 7 2 12) s m args below meth c H locs 1 6 (vx_MQ below (kQx dC dI g sz Si rI o Sf) (kXx dC dI g sz Si o Sf) args s 2 12 (kAt g (kn Si) (km Si) (kp Si) sz)) (F0 m 32 ls []) := by
    intro cC cD cE S S0 hc X H locs I ls hl hpf
    unfold pX9_objectClass_32 at hpf
    exact x_throw 1 (Or.inl rfl) X XX I hc (is := 92) (tx := "no such attribute") (List.mem_of_getElem? (i := 1) rfl) hl.1 ⟨Nat.le_of_ble_eq_true rfl, Nat.le_of_ble_eq_true rfl⟩ ⟨Nat.le_of_ble_eq_true rfl, Nat.le_of_ble_eq_true rfl⟩ ⟨Nat.le_of_ble_eq_true rfl, Nat.le_of_ble_eq_true rfl⟩ (Nat.le_of_ble_eq_true rfl) 32 dX9_objectClass_32 dX9_objectClass_35 dX9_objectClass_36 dX9_objectClass_38 dX9_objectClass_41 hpf
  have hC_10 : ∀ (x1 : Int32) (x2 : Int32) (x3 : Int32) (cC cD : Nat → Nat) (cE : Nat) (S S0 : kS), kGc g cC cE Si S0 → kX p s m meth c cX9_objectClass 4 args RX9 dC dI (g.1, g.2.1, cC, cD, cE) (kAt g (kn Si) (km Si) (kp Si) sz) → ∀ (H : Heap) (locs : List Loc), kV dC dI (g.1, g.2.1, cC, cD, cE) (kAt g (kn Si) (km Si) (kp Si) sz) s S0 S H locs → ∀ ls : Array Slot, lv_has ls 4 [(0, .ref (g.2.1 0)), (1, .int x1), (2, .int x2), (3, .int x3)] → pX9_objectClass_10 N x1 x2 x3 S = some (o, Sf) → W p l e (xRm 7 2 12) s m args below meth c H locs 1 6 (vx_MQ below (kQx dC dI g sz Si rI o Sf) (kXx dC dI g sz Si o Sf) args s 2 12 (kAt g (kn Si) (km Si) (kp Si) sz)) (F0 m 10 ls []) := by
    intro x1 x2 x3 cC cD cE S S0 hc X H locs I ls hl hpf
    unfold pX9_objectClass_10 at hpf
    refine lv_aload_n hx hb dX9_objectClass_10 rfl (lv_at hl 0 rfl) ?_
    refine k_get (k := 0) X I kCl_9 (kO_X (g.1, g.2.1, cC, cD, cE) S) 0 (by decide) rfl kC_402 11 dX9_objectClass_11 ?_
    refine lv_iload_n hx hb dX9_objectClass_14 rfl (lv_at hl 2 rfl) ?_
    refine k_cIi (rest := []) (As := [.int x2]) (d := 7) ⟨Nat.le_refl _, Nat.le_refl _⟩ X I fn_X9_X7_isSetOfAttributes kCl_7 rfl (kO_H (g.1, g.2.1, cC, cD, cE) S) (c_X7_isSetOfAttributes l N x2) rfl (by decide) 15 dX9_objectClass_15 rfl hl.1 rfl (Nat.le_of_ble_eq_true rfl) ⟨Nat.le_of_ble_eq_true rfl, Nat.le_of_ble_eq_true rfl⟩ hpf (fun v101 S102 H locs I hm hpf => ?_)
    refine b_if_eq hx hb 32 18 dX9_objectClass_18 (by decide) hpf (fun hpf => ?_) (fun hpf => ?_)
    · refine W.widen (k := 1) (n := 6) (Nat.le_of_ble_eq_true rfl) (Nat.le_of_ble_eq_true rfl) ?_
      exact hC_32 cC cD cE S102 _ hc X H locs I ls (lv_sub hl [0] rfl) hpf
    refine lv_aload_n hx hb dX9_objectClass_21 rfl (lv_at hl 0 rfl) ?_
    refine k_get (k := 0) X I kCl_9 (kO_X (g.1, g.2.1, cC, cD, cE) S102) 0 (by decide) rfl kC_402 22 dX9_objectClass_22 ?_
    refine lv_iload_n hx hb dX9_objectClass_25 rfl (lv_at hl 3 rfl) ?_
    refine k_cIi (rest := []) (As := [.int x3]) (d := 7) ⟨Nat.le_refl _, Nat.le_refl _⟩ X I fn_X9_X7_isSetOfAttributes kCl_7 rfl (kO_H (g.1, g.2.1, cC, cD, cE) S102) (c_X7_isSetOfAttributes l N x3) rfl (by decide) 26 dX9_objectClass_26 rfl hl.1 rfl (Nat.le_of_ble_eq_true rfl) ⟨Nat.le_of_ble_eq_true rfl, Nat.le_of_ble_eq_true rfl⟩ hpf (fun v103 S104 H locs I hm hpf => ?_)
    refine b_if_ne hx hb 42 29 dX9_objectClass_29 (by decide) hpf (fun hpf => ?_) (fun hpf => ?_)
    · refine lv_aload_n hx hb dX9_objectClass_42 rfl (lv_at hl 0 rfl) ?_
      refine k_get (k := 0) X I kCl_9 (kO_X (g.1, g.2.1, cC, cD, cE) S104) 0 (by decide) rfl kC_402 43 dX9_objectClass_43 ?_
      refine k_get (k := 0) X I kCl_7 (kO_H (g.1, g.2.1, cC, cD, cE) S104) 1 (by decide) rfl kC_462 46 dX9_objectClass_46 ?_
      refine lv_bipush (v := (8 : Int32)) hx hb dX9_objectClass_49 (by decide) ?_
      refine b_icmp_lt hx hb 64 51 dX9_objectClass_51 (by decide) hpf (fun hpf => ?_) (fun hpf => ?_)
      · refine lv_aload_n hx hb dX9_objectClass_64 rfl (lv_at hl 0 rfl) ?_
        refine k_get (k := 0) X I kCl_9 (kO_X (g.1, g.2.1, cC, cD, cE) S104) 0 (by decide) rfl kC_402 65 dX9_objectClass_65 ?_
        refine lv_iload_n hx hb dX9_objectClass_68 rfl (lv_at hl 1 rfl) ?_
        refine lv_iload_n hx hb dX9_objectClass_69 rfl (lv_at hl 2 rfl) ?_
        refine lv_iload_n hx hb dX9_objectClass_70 rfl (lv_at hl 3 rfl) ?_
        refine k_cIi (rest := []) (As := [.int x1, .int x2, .int x3]) (d := 7) ⟨Nat.le_refl _, Nat.le_refl _⟩ X I fn_X9_X7_newClass kCl_7 rfl (kO_H (g.1, g.2.1, cC, cD, cE) S104) (c_X7_newClass l N x1 x2 x3) rfl (by decide) 71 dX9_objectClass_71 rfl hl.1 rfl (Nat.le_of_ble_eq_true rfl) ⟨Nat.le_of_ble_eq_true rfl, Nat.le_of_ble_eq_true rfl⟩ hpf (fun v105 S106 H locs I hm hpf => ?_)
        exact x_reti X I hc hr ⟨Nat.le_of_ble_eq_true rfl, Nat.le_of_ble_eq_true rfl⟩ 74 dX9_objectClass_74 hpf
      exact x_throw 3 (Or.inr (Or.inr rfl)) X XX I hc (is := 98) (tx := "there are 8 classes") (List.mem_of_getElem? (i := 2) rfl) hl.1 ⟨Nat.le_of_ble_eq_true rfl, Nat.le_of_ble_eq_true rfl⟩ ⟨Nat.le_of_ble_eq_true rfl, Nat.le_of_ble_eq_true rfl⟩ ⟨Nat.le_of_ble_eq_true rfl, Nat.le_of_ble_eq_true rfl⟩ (Nat.le_of_ble_eq_true rfl) 54 dX9_objectClass_54 dX9_objectClass_57 dX9_objectClass_58 dX9_objectClass_60 dX9_objectClass_63 hpf
    refine W.widen (k := 1) (n := 6) (Nat.le_of_ble_eq_true rfl) (Nat.le_of_ble_eq_true rfl) ?_
    exact hC_32 cC cD cE S104 _ hc X H locs I ls (lv_sub hl [0] rfl) hpf
  refine lv_iload_n hx hb dX9_objectClass_0 rfl (lv_at hl 1 rfl) ?_
  refine lv_iconst (v := (-1 : Int32)) hx hb dX9_objectClass_1 (by decide) ?_
  refine b_icmp_eq hx hb 10 2 dX9_objectClass_2 (by decide) hpf (fun hpf => ?_) (fun hpf => ?_)
  · refine W.widen (k := 1) (n := 6) (Nat.le_of_ble_eq_true rfl) (Nat.le_of_ble_eq_true rfl) ?_
    exact hC_10 x1 x2 x3 g.2.2.1 g.2.2.2.1 g.2.2.2.2 Si _ hc X H locs I ls (lv_sub hl [0, 1, 2, 3] rfl) hpf
  refine lv_aload_n hx hb dX9_objectClass_5 rfl (lv_at hl 0 rfl) ?_
  refine lv_iload_n hx hb dX9_objectClass_6 rfl (lv_at hl 1 rfl) ?_
  refine x_cIv (rest := []) (As := [.int x1]) (d := 7) ⟨Nat.le_refl _, Nat.le_refl _⟩ X XX I hc fn_X9_X9_needClass kCl_9 rfl (kO_X (g.1, g.2.1, g.2.2.1, g.2.2.2.1, g.2.2.2.2) Si) (c_X9_needClass l hlt N x1) rfl (by decide) 7 dX9_objectClass_7 rfl hl.1 rfl (Nat.le_of_ble_eq_true rfl) ⟨Nat.le_of_ble_eq_true rfl, Nat.le_of_ble_eq_true rfl⟩ ⟨Nat.le_of_ble_eq_true rfl, Nat.le_of_ble_eq_true rfl⟩ hpf (fun v101 S102 cca103 cda103 cea103 H locs I hc hg hpf => ?_)
  have X := kX_to X cca103 cda103 cea103
  refine W.widen (k := 1) (n := 6) (Nat.le_of_ble_eq_true rfl) (Nat.le_of_ble_eq_true rfl) ?_
  exact hC_10 x1 x2 x3 cca103 cda103 cea103 S102 _ hc X H locs I ls (lv_sub hl [0, 1, 2, 3] rfl) hpf
-- ===== X9_serve =====
def pX9_serve (N : Nat) (x1 : Int32) (x2 : Int32) (S : kS) : Option ((Int32 ⊕ Nat) × kS) :=
    bx (pX9_masterAt N x1 S) fun v101 S102 =>
    gn v101 4 <|
    bx (pX9_needUser N x2 S102) fun v104 S105 =>
    nm (kI S105 (17 + 4 * v101)) fun y107 =>
    svk (sI S105 (17 + 4 * v101) x2) fun S108 =>
    some (.inl y107, S108)
set_option maxRecDepth 100000 in
set_option maxHeartbeats 4000000 in
theorem c_X9_serve (l : Launch) (hlt : l.stackTraces = false) (N : Nat) (x1 : Int32) (x2 : Int32) : kMx l yX9_serve cX9_serve 5 (some .int) 7 2 12 (fun g => [.ref (g.2.1 0), .int x1, .int x2]) rI (pX9_serve N x1 x2) := by
  refine xStart hlt RX9 (by decide +kernel) rfl (fun g => [(0, .ref (g.2.1 0)), (1, .int x1), (2, .int x2)]) (fun _ => Nat.le_of_ble_eq_true rfl) (fun _ => rfl) ?_
  intro dC dI g sz Si o Sf hpf p e s m args below meth c X XX hr H locs I hc ls hl
  have hx := X.1
  have hb := X.2.1
  unfold pX9_serve at hpf
  refine lv_aload_n hx hb dX9_serve_0 rfl (lv_at hl 0 rfl) ?_
  refine lv_iload_n hx hb dX9_serve_1 rfl (lv_at hl 1 rfl) ?_
  refine x_cIm (rest := []) (As := [.int x1]) (d := 7) ⟨Nat.le_refl _, Nat.le_refl _⟩ X XX I hc fn_X9_X9_masterAt kCl_9 rfl (kO_X (g.1, g.2.1, g.2.2.1, g.2.2.2.1, g.2.2.2.2) Si) (c_X9_masterAt l hlt N x1) rfl (by decide) 2 dX9_serve_2 rfl hl.1 rfl (Nat.le_of_ble_eq_true rfl) ⟨Nat.le_of_ble_eq_true rfl, Nat.le_of_ble_eq_true rfl⟩ ⟨Nat.le_of_ble_eq_true rfl, Nat.le_of_ble_eq_true rfl⟩ hpf (fun v101 S102 cca103 cda103 cea103 H locs I hc hg hpf => ?_)
  have X := kX_to X cca103 cda103 cea103
  obtain ⟨hv101, hpf⟩ := gn_some hpf
  refine lv_astore_n (lv' := [(3, .ref (g.2.1 (18 + 2 * v101))), (0, .ref (g.2.1 0)), (1, .int x1), (2, .int x2)]) hx hb dX9_serve_5 rfl hl (by decide) rfl (fun ls hl => ?_)
  refine lv_iload_n hx hb dX9_serve_6 rfl (lv_at hl 3 rfl) ?_
  refine x_cSv (rest := []) (As := [.int x2]) (d := 7) ⟨Nat.le_refl _, Nat.le_refl _⟩ X XX I hc fn_X9_X9_needUser (c_X9_needUser l hlt N x2) rfl (by decide) 7 dX9_serve_7 rfl hl.1 rfl (Nat.le_of_ble_eq_true rfl) ⟨Nat.le_of_ble_eq_true rfl, Nat.le_of_ble_eq_true rfl⟩ ⟨Nat.le_of_ble_eq_true rfl, Nat.le_of_ble_eq_true rfl⟩ hpf (fun v104 S105 cca106 cda106 cea106 H locs I hc hg hpf => ?_)
  have X := kX_to X cca106 cda106 cea106
  refine lv_aload_n hx hb dX9_serve_10 rfl (lv_at hl 0 rfl) ?_
  refine k_get (k := 0) X I kCl_4 (kO_M (g.1, g.2.1, cca106, cda106, cea106) S105 v101 hv101) 2 (by decide) rfl kC_477 11 dX9_serve_11 ?_
  refine m_isto hx hb (fun y107 => [(4, .int y107), (3, .ref (g.2.1 (18 + 2 * v101))), (0, .ref (g.2.1 0)), (1, .int x1), (2, .int x2)]) 14 dX9_serve_14 hl (by decide) (fun _ => rfl) hpf (fun y107 ls hl hpf => ?_)
  refine lv_aload_n hx hb dX9_serve_16 rfl (lv_at hl 1 rfl) ?_
  refine lv_iload_n hx hb dX9_serve_17 rfl (lv_at hl 4 rfl) ?_
  refine k_put (ty := .int) X I kCl_4 tyX4_ok nmX4 (kO_M (g.1, g.2.1, cca106, cda106, cea106) S105 v101 hv101) 2 (by decide) (Nat.le_of_ble_eq_true rfl) (kP_M2 v101 hv101 (g.1, g.2.1, cca106, cda106, cea106) S105 _) ⟨rfl, rfl, rfl⟩ kC_477 rfl (by decide +kernel) rfl rfl 18 dX9_serve_18 hpf (fun S108 H locs I hm hpf => ?_)
  refine lv_iload hx hb dX9_serve_21 (lv_at hl 0 rfl) ?_
  exact x_reti X I hc hr ⟨Nat.le_of_ble_eq_true rfl, Nat.le_of_ble_eq_true rfl⟩ 23 dX9_serve_23 hpf
-- ===== X9_draft =====
def pX9_draft (N : Nat) (x1 : Int32) (x2 : Int32) (S : kS) : Option ((Int32 ⊕ Nat) × kS) :=
    bx (pX9_needAttribute N x1 S) fun v101 S102 =>
    bx (pX9_needValue N x2 S102) fun v104 S105 =>
    if (kI S105 5) < (12 : Int32) then (
      bk (pX1_put N ((x1 * (1000 : Int32)) + x2) S105) fun v107 S108 =>
      some (.inl v107, S108))
    else (
      some (.inr 3, S105))
set_option maxRecDepth 100000 in
set_option maxHeartbeats 4000000 in
theorem c_X9_draft (l : Launch) (hlt : l.stackTraces = false) (N : Nat) (x1 : Int32) (x2 : Int32) : kMx l yX9_draft cX9_draft 3 (some .int) 7 3 18 (fun g => [.ref (g.2.1 0), .int x1, .int x2]) rI (pX9_draft N x1 x2) := by
  refine xStart hlt RX9 (by decide +kernel) rfl (fun g => [(0, .ref (g.2.1 0)), (1, .int x1), (2, .int x2)]) (fun _ => Nat.le_of_ble_eq_true rfl) (fun _ => rfl) ?_
  intro dC dI g sz Si o Sf hpf p e s m args below meth c X XX hr H locs I hc ls hl
  have hx := X.1
  have hb := X.2.1
  unfold pX9_draft at hpf
  refine lv_aload_n hx hb dX9_draft_0 rfl (lv_at hl 0 rfl) ?_
  refine lv_iload_n hx hb dX9_draft_1 rfl (lv_at hl 1 rfl) ?_
  refine x_cIv (rest := []) (As := [.int x1]) (d := 7) ⟨Nat.le_refl _, Nat.le_refl _⟩ X XX I hc fn_X9_X9_needAttribute kCl_9 rfl (kO_X (g.1, g.2.1, g.2.2.1, g.2.2.2.1, g.2.2.2.2) Si) (c_X9_needAttribute l hlt N x1) rfl (by decide) 2 dX9_draft_2 rfl hl.1 rfl (Nat.le_of_ble_eq_true rfl) ⟨Nat.le_of_ble_eq_true rfl, Nat.le_of_ble_eq_true rfl⟩ ⟨Nat.le_of_ble_eq_true rfl, Nat.le_of_ble_eq_true rfl⟩ hpf (fun v101 S102 cca103 cda103 cea103 H locs I hc hg hpf => ?_)
  have X := kX_to X cca103 cda103 cea103
  refine lv_iload_n hx hb dX9_draft_5 rfl (lv_at hl 2 rfl) ?_
  refine x_cSv (rest := []) (As := [.int x2]) (d := 7) ⟨Nat.le_refl _, Nat.le_refl _⟩ X XX I hc fn_X9_X9_needValue (c_X9_needValue l hlt N x2) rfl (by decide) 6 dX9_draft_6 rfl hl.1 rfl (Nat.le_of_ble_eq_true rfl) ⟨Nat.le_of_ble_eq_true rfl, Nat.le_of_ble_eq_true rfl⟩ ⟨Nat.le_of_ble_eq_true rfl, Nat.le_of_ble_eq_true rfl⟩ hpf (fun v104 S105 cca106 cda106 cea106 H locs I hc hg hpf => ?_)
  have X := kX_to X cca106 cda106 cea106
  refine lv_aload_n hx hb dX9_draft_9 rfl (lv_at hl 0 rfl) ?_
  refine k_get (k := 0) X I kCl_9 (kO_X (g.1, g.2.1, cca106, cda106, cea106) S105) 1 (by decide) rfl kC_405 10 dX9_draft_10 ?_
  refine k_get (k := 0) X I kCl_1 (kO_G (g.1, g.2.1, cca106, cda106, cea106) S105) 2 (by decide) rfl kC_487 13 dX9_draft_13 ?_
  refine lv_bipush (v := (12 : Int32)) hx hb dX9_draft_16 (by decide) ?_
  refine b_icmp_lt hx hb 31 18 dX9_draft_18 (by decide) hpf (fun hpf => ?_) (fun hpf => ?_)
  · refine lv_aload_n hx hb dX9_draft_31 rfl (lv_at hl 0 rfl) ?_
    refine k_get (k := 0) X I kCl_9 (kO_X (g.1, g.2.1, cca106, cda106, cea106) S105) 1 (by decide) rfl kC_405 32 dX9_draft_32 ?_
    refine lv_iload_n hx hb dX9_draft_35 rfl (lv_at hl 1 rfl) ?_
    refine lv_sipush (v := (1000 : Int32)) hx hb dX9_draft_36 (by decide) ?_
    refine lv_imul hx hb dX9_draft_39 ?_
    refine lv_iload_n hx hb dX9_draft_40 rfl (lv_at hl 2 rfl) ?_
    refine lv_iadd hx hb dX9_draft_41 ?_
    refine k_cIi (rest := []) (As := [.int ((x1 * (1000 : Int32)) + x2)]) (d := 7) ⟨Nat.le_refl _, Nat.le_refl _⟩ X I fn_X9_X1_put kCl_1 rfl (kO_G (g.1, g.2.1, cca106, cda106, cea106) S105) (c_X1_put l N ((x1 * (1000 : Int32)) + x2)) rfl (by decide) 42 dX9_draft_42 rfl hl.1 rfl (Nat.le_of_ble_eq_true rfl) ⟨Nat.le_of_ble_eq_true rfl, Nat.le_of_ble_eq_true rfl⟩ hpf (fun v107 S108 H locs I hm hpf => ?_)
    exact x_reti X I hc hr ⟨Nat.le_of_ble_eq_true rfl, Nat.le_of_ble_eq_true rfl⟩ 45 dX9_draft_45 hpf
  exact x_throw 3 (Or.inr (Or.inr rfl)) X XX I hc (is := 123) (tx := "there are 12 drafted values") (List.mem_of_getElem? (i := 3) rfl) hl.1 ⟨Nat.le_of_ble_eq_true rfl, Nat.le_of_ble_eq_true rfl⟩ ⟨Nat.le_of_ble_eq_true rfl, Nat.le_of_ble_eq_true rfl⟩ ⟨Nat.le_of_ble_eq_true rfl, Nat.le_of_ble_eq_true rfl⟩ (Nat.le_of_ble_eq_true rfl) 21 dX9_draft_21 dX9_draft_24 dX9_draft_25 dX9_draft_27 dX9_draft_30 hpf
-- ===== X9_exchange =====
def pX9_exchange_30 (N : Nat) (S : kS) : Option ((Int32 ⊕ Nat) × kS) :=
    some (.inr 2, S)
def pX9_exchange_130 (N : Nat) (n4 : Nat) (n5 : Nat) (x6 : Int32) (S : kS) : Option ((Int32 ⊕ Nat) × kS) :=
    bk (pX4_talkTo N n4 n5 S) fun v101 S102 =>
    some (.inl x6, S102)
def pX9_exchange_114 (N : Nat) (n4 : Nat) (n5 : Nat) (x6 : Int32) (S : kS) : Option ((Int32 ⊕ Nat) × kS) :=
    if x6 ≤ (0 : Int32) then (
      pX9_exchange_130 N n4 n5 x6 S)
    else (
      bk (pX9_redo N n5 n5 S) fun v101 S102 =>
      pX9_exchange_130 N n4 n5 x6 S102)
def pX9_exchange_108 (N : Nat) (k_46 : Int32 → Nat → Nat → Int32 → Int32 → kS → Option ((Int32 ⊕ Nat) × kS)) (x3 : Int32) (n4 : Nat) (n5 : Nat) (x6 : Int32) (x7 : Int32) (S : kS) : Option ((Int32 ⊕ Nat) × kS) :=
    nm (x7 + (1 : Int32)) fun y101 =>
    k_46 x3 n4 n5 x6 y101 S
def pX9_exchange_46 (N : Nat) (k_114 : Nat → Nat → Int32 → kS → Option ((Int32 ⊕ Nat) × kS)) : Nat → Int32 → Nat → Nat → Int32 → Int32 → kS → Option ((Int32 ⊕ Nat) × kS)
  | 0 => fun _ _ _ _ _ _ => none
  | n_46 + 1 => fun x3 n4 n5 x6 x7 S =>
    bk (pLog_size N S) fun v102 S101 =>
    if v102 ≤ x7 then (
      k_114 n4 n5 x6 S101)
    else (
      if x3 ≤ x6 then (
        k_114 n4 n5 x6 S101)
      else (
        bk (pLog_get N x7 S101) fun v104 S103 =>
        gn v104 (kn S103) <|
        bk (pX4_hasGot N n4 v104 S103) fun v105 S106 =>
        if v105 = (0 : Int32) then (
          pX9_exchange_108 N (pX9_exchange_46 N k_114 n_46) x3 n4 n5 x6 x7 S106)
        else (
          bk (pX4_hasGot N n5 v104 S106) fun v107 S108 =>
          if v107 = (0 : Int32) then (
            bk (pX4_learn N n5 v104 S108) fun v109 S110 =>
            nm (x6 + (1 : Int32)) fun y111 =>
            pX9_exchange_108 N (pX9_exchange_46 N k_114 n_46) x3 n4 n5 y111 x7 S110)
          else (
            pX9_exchange_108 N (pX9_exchange_46 N k_114 n_46) x3 n4 n5 x6 x7 S108))))
def pX9_exchange (N : Nat) (x1 : Int32) (x2 : Int32) (x3 : Int32) (S : kS) : Option ((Int32 ⊕ Nat) × kS) :=
    bx (pX9_masterAt N x1 S) fun v101 S102 =>
    gn v101 4 <|
    bx (pX9_masterAt N x2 S102) fun v104 S105 =>
    gn v104 4 <|
    if x1 = x2 then (
      pX9_exchange_30 N S105)
    else (
      if x3 < (0 : Int32) then (
        pX9_exchange_30 N S105)
      else (
        if x3 ≤ (250 : Int32) then (
          pX9_exchange_46 N (pX9_exchange_114 N) N x3 v101 v104 (0 : Int32) (0 : Int32) S105)
        else (
          pX9_exchange_30 N S105)))
set_option maxRecDepth 100000 in
set_option maxHeartbeats 4000000 in
theorem c_X9_exchange (l : Launch) (hlt : l.stackTraces = false) (N : Nat) (x1 : Int32) (x2 : Int32) (x3 : Int32) : kMx l yX9_exchange cX9_exchange 9 (some .int) 7 3 18 (fun g => [.ref (g.2.1 0), .int x1, .int x2, .int x3]) rI (pX9_exchange N x1 x2 x3) := by
  refine xStart hlt RX9 (by decide +kernel) rfl (fun g => [(0, .ref (g.2.1 0)), (1, .int x1), (2, .int x2), (3, .int x3)]) (fun _ => Nat.le_of_ble_eq_true rfl) (fun _ => rfl) ?_
  intro dC dI g sz Si o Sf hpf p e s m args below meth c X XX hr H locs I hc ls hl
  have hx := X.1
  have hb := X.2.1
  unfold pX9_exchange at hpf
  have hC_30 : ∀ (cC cD : Nat → Nat) (cE : Nat) (S S0 : kS), kGc g cC cE Si S0 → kX p s m meth c cX9_exchange 9 args RX9 dC dI (g.1, g.2.1, cC, cD, cE) (kAt g (kn Si) (km Si) (kp Si) sz) → ∀ (H : Heap) (locs : List Loc), kV dC dI (g.1, g.2.1, cC, cD, cE) (kAt g (kn Si) (km Si) (kp Si) sz) s S0 S H locs → ∀ ls : Array Slot, lv_has ls 9 [(0, .ref (g.2.1 0))] → pX9_exchange_30 N S = some (o, Sf) → W p l e (xRm 7 3 18) s m args below meth c H locs 2 12 (vx_MQ below (kQx dC dI g sz Si rI o Sf) (kXx dC dI g sz Si o Sf) args s 3 18 (kAt g (kn Si) (km Si) (kp Si) sz)) (F0 m 30 ls []) := by
    intro cC cD cE S S0 hc X H locs I ls hl hpf
    unfold pX9_exchange_30 at hpf
    exact x_throw 2 (Or.inr (Or.inl rfl)) X XX I hc (is := 250) (tx := "both are the same, or most is out of range") (List.mem_of_getElem? (i := 5) rfl) hl.1 ⟨Nat.le_of_ble_eq_true rfl, Nat.le_of_ble_eq_true rfl⟩ ⟨Nat.le_of_ble_eq_true rfl, Nat.le_of_ble_eq_true rfl⟩ ⟨Nat.le_of_ble_eq_true rfl, Nat.le_of_ble_eq_true rfl⟩ (Nat.le_of_ble_eq_true rfl) 30 dX9_exchange_30 dX9_exchange_33 dX9_exchange_34 dX9_exchange_36 dX9_exchange_39 hpf
  have hC_130 : ∀ (n4 : Nat) (n5 : Nat) (x6 : Int32) (hn4 : n4 < 4) (hn5 : n5 < 4) (cC cD : Nat → Nat) (cE : Nat) (S S0 : kS), kGc g cC cE Si S0 → kX p s m meth c cX9_exchange 9 args RX9 dC dI (g.1, g.2.1, cC, cD, cE) (kAt g (kn Si) (km Si) (kp Si) sz) → ∀ (H : Heap) (locs : List Loc), kV dC dI (g.1, g.2.1, cC, cD, cE) (kAt g (kn Si) (km Si) (kp Si) sz) s S0 S H locs → ∀ ls : Array Slot, lv_has ls 9 [(0, .ref (g.2.1 0)), (4, .ref (g.2.1 (18 + 2 * n4))), (5, .ref (g.2.1 (18 + 2 * n5))), (6, .int x6)] → pX9_exchange_130 N n4 n5 x6 S = some (o, Sf) → W p l e (xRm 7 3 18) s m args below meth c H locs 2 12 (vx_MQ below (kQx dC dI g sz Si rI o Sf) (kXx dC dI g sz Si o Sf) args s 3 18 (kAt g (kn Si) (km Si) (kp Si) sz)) (F0 m 130 ls []) := by
    intro n4 n5 x6 hn4 hn5 cC cD cE S S0 hc X H locs I ls hl hpf
    unfold pX9_exchange_130 at hpf
    refine lv_aload hx hb dX9_exchange_130 (lv_at hl 1 rfl) ?_
    refine lv_aload hx hb dX9_exchange_132 (lv_at hl 2 rfl) ?_
    refine k_cIv (rest := []) (As := [.ref (g.2.1 (18 + 2 * n5))]) (d := 7) ⟨Nat.le_refl _, Nat.le_refl _⟩ X I fn_X9_X4_talkTo kCl_4 rfl (kO_M (g.1, g.2.1, cC, cD, cE) S n4 hn4) (c_X4_talkTo l N n4 hn4 n5 hn5) rfl (by decide) 134 dX9_exchange_134 rfl hl.1 rfl (Nat.le_of_ble_eq_true rfl) ⟨Nat.le_of_ble_eq_true rfl, Nat.le_of_ble_eq_true rfl⟩ hpf (fun v101 S102 H locs I hm hpf => ?_)
    refine lv_iload hx hb dX9_exchange_137 (lv_at hl 3 rfl) ?_
    exact x_reti X I hc hr ⟨Nat.le_of_ble_eq_true rfl, Nat.le_of_ble_eq_true rfl⟩ 139 dX9_exchange_139 hpf
  have hC_114 : ∀ (n4 : Nat) (n5 : Nat) (x6 : Int32) (hn4 : n4 < 4) (hn5 : n5 < 4) (cC cD : Nat → Nat) (cE : Nat) (S S0 : kS), kGc g cC cE Si S0 → kX p s m meth c cX9_exchange 9 args RX9 dC dI (g.1, g.2.1, cC, cD, cE) (kAt g (kn Si) (km Si) (kp Si) sz) → ∀ (H : Heap) (locs : List Loc), kV dC dI (g.1, g.2.1, cC, cD, cE) (kAt g (kn Si) (km Si) (kp Si) sz) s S0 S H locs → ∀ ls : Array Slot, lv_has ls 9 [(0, .ref (g.2.1 0)), (4, .ref (g.2.1 (18 + 2 * n4))), (5, .ref (g.2.1 (18 + 2 * n5))), (6, .int x6)] → pX9_exchange_114 N n4 n5 x6 S = some (o, Sf) → W p l e (xRm 7 3 18) s m args below meth c H locs 2 12 (vx_MQ below (kQx dC dI g sz Si rI o Sf) (kXx dC dI g sz Si o Sf) args s 3 18 (kAt g (kn Si) (km Si) (kp Si) sz)) (F0 m 114 ls []) := by
    intro n4 n5 x6 hn4 hn5 cC cD cE S S0 hc X H locs I ls hl hpf
    unfold pX9_exchange_114 at hpf
    refine lv_iload hx hb dX9_exchange_114 (lv_at hl 3 rfl) ?_
    refine b_if_le hx hb 130 116 dX9_exchange_116 (by decide) hpf (fun hpf => ?_) (fun hpf => ?_)
    · refine W.widen (k := 2) (n := 12) (Nat.le_of_ble_eq_true rfl) (Nat.le_of_ble_eq_true rfl) ?_
      exact hC_130 n4 n5 x6 hn4 hn5 cC cD cE S _ hc X H locs I ls (lv_sub hl [0, 1, 2, 3] rfl) hpf
    refine lv_aload_n hx hb dX9_exchange_119 rfl (lv_at hl 0 rfl) ?_
    refine lv_aload hx hb dX9_exchange_120 (lv_at hl 2 rfl) ?_
    refine k_get (k := 0) X I kCl_4 (kO_M (g.1, g.2.1, cC, cD, cE) S n5 hn5) 1 (by decide) rfl kC_499 122 dX9_exchange_122 ?_
    refine lv_aload hx hb dX9_exchange_125 (lv_at hl 2 rfl) ?_
    refine k_cIv (rest := []) (As := [.ref (g.2.1 (26 + 15 * n5)), .ref (g.2.1 (18 + 2 * n5))]) (d := 7) ⟨Nat.le_refl _, Nat.le_refl _⟩ X I fn_X9_X9_redo kCl_9 rfl (kO_X (g.1, g.2.1, cC, cD, cE) S) (c_X9_redo l N n5 (Nat.lt_succ_of_lt hn5) n5 hn5) rfl (by decide) 127 dX9_exchange_127 rfl hl.1 rfl (Nat.le_of_ble_eq_true rfl) ⟨Nat.le_of_ble_eq_true rfl, Nat.le_of_ble_eq_true rfl⟩ hpf (fun v101 S102 H locs I hm hpf => ?_)
    refine W.widen (k := 2) (n := 12) (Nat.le_of_ble_eq_true rfl) (Nat.le_of_ble_eq_true rfl) ?_
    exact hC_130 n4 n5 x6 hn4 hn5 cC cD cE S102 _ hc X H locs I ls (lv_sub hl [0, 1, 2, 3] rfl) hpf
  have hC_46 : ∀ (n_46 : Nat), ∀ (x3 : Int32) (n4 : Nat) (n5 : Nat) (x6 : Int32) (x7 : Int32) (hn4 : n4 < 4) (hn5 : n5 < 4) (cC cD : Nat → Nat) (cE : Nat) (S S0 : kS), kGc g cC cE Si S0 → kX p s m meth c cX9_exchange 9 args RX9 dC dI (g.1, g.2.1, cC, cD, cE) (kAt g (kn Si) (km Si) (kp Si) sz) → ∀ (H : Heap) (locs : List Loc), kV dC dI (g.1, g.2.1, cC, cD, cE) (kAt g (kn Si) (km Si) (kp Si) sz) s S0 S H locs → ∀ ls : Array Slot, lv_has ls 9 [(0, .ref (g.2.1 0)), (3, .int x3), (4, .ref (g.2.1 (18 + 2 * n4))), (5, .ref (g.2.1 (18 + 2 * n5))), (6, .int x6), (7, .int x7)] → pX9_exchange_46 N (pX9_exchange_114 N) n_46 x3 n4 n5 x6 x7 S = some (o, Sf) → W p l e (xRm 7 3 18) s m args below meth c H locs 2 12 (vx_MQ below (kQx dC dI g sz Si rI o Sf) (kXx dC dI g sz Si o Sf) args s 3 18 (kAt g (kn Si) (km Si) (kp Si) sz)) (F0 m 46 ls []) := by
    intro n_46
    induction n_46 with
    | zero =>
      intro x3 n4 n5 x6 x7 hn4 hn5 cC cD cE S S0 hc X H locs I ls hl hpf
      rw [pX9_exchange_46] at hpf
      cases hpf
    | succ n_46 ih_46 =>
      have hC_108 : ∀ (x3 : Int32) (n4 : Nat) (n5 : Nat) (x6 : Int32) (x7 : Int32) (hn4 : n4 < 4) (hn5 : n5 < 4) (cC cD : Nat → Nat) (cE : Nat) (S S0 : kS), kGc g cC cE Si S0 → kX p s m meth c cX9_exchange 9 args RX9 dC dI (g.1, g.2.1, cC, cD, cE) (kAt g (kn Si) (km Si) (kp Si) sz) → ∀ (H : Heap) (locs : List Loc), kV dC dI (g.1, g.2.1, cC, cD, cE) (kAt g (kn Si) (km Si) (kp Si) sz) s S0 S H locs → ∀ ls : Array Slot, lv_has ls 9 [(0, .ref (g.2.1 0)), (3, .int x3), (4, .ref (g.2.1 (18 + 2 * n4))), (5, .ref (g.2.1 (18 + 2 * n5))), (6, .int x6), (7, .int x7)] → pX9_exchange_108 N (pX9_exchange_46 N (pX9_exchange_114 N) n_46) x3 n4 n5 x6 x7 S = some (o, Sf) → W p l e (xRm 7 3 18) s m args below meth c H locs 2 12 (vx_MQ below (kQx dC dI g sz Si rI o Sf) (kXx dC dI g sz Si o Sf) args s 3 18 (kAt g (kn Si) (km Si) (kp Si) sz)) (F0 m 108 ls []) := by
        intro x3 n4 n5 x6 x7 hn4 hn5 cC cD cE S S0 hc X H locs I ls hl hpf
        unfold pX9_exchange_108 at hpf
        refine m_iinc (w := (1 : Int32)) hx hb (fun y101 => [(7, .int y101), (0, .ref (g.2.1 0)), (3, .int x3), (4, .ref (g.2.1 (18 + 2 * n4))), (5, .ref (g.2.1 (18 + 2 * n5))), (6, .int x6)]) 108 dX9_exchange_108 hl (k := 5) rfl (by decide) (by decide) (fun _ => rfl) hpf (fun y101 ls hl hpf => ?_)
        refine lv_goto (tgt := 46) hx hb dX9_exchange_111 (by decide) ?_
        refine W.widen (k := 2) (n := 12) (Nat.le_of_ble_eq_true rfl) (Nat.le_of_ble_eq_true rfl) ?_
        exact ih_46 x3 n4 n5 x6 y101 hn4 hn5 cC cD cE S _ hc X H locs I ls (lv_sub hl [1, 2, 3, 4, 5, 0] rfl) hpf
      intro x3 n4 n5 x6 x7 hn4 hn5 cC cD cE S S0 hc X H locs I ls hl hpf
      rw [pX9_exchange_46] at hpf
      refine lv_iload hx hb dX9_exchange_46 (lv_at hl 5 rfl) ?_
      refine lv_aload_n hx hb dX9_exchange_48 rfl (lv_at hl 0 rfl) ?_
      refine k_get (k := 0) X I kCl_9 (kO_X (g.1, g.2.1, cC, cD, cE) S) 5 (by decide) rfl kC_417 49 dX9_exchange_49 ?_
      refine k_callL (Rv := rI) (rest := [.int x7]) (As := []) (d := 7) ⟨Nat.le_refl _, Nat.le_refl _⟩ X I fn_X9_Log_size rfl (c_Log_size l N) rfl (by decide) 52 dX9_exchange_52 rfl hl.1 rfl (Nat.le_of_ble_eq_true rfl) ⟨Nat.le_of_ble_eq_true rfl, Nat.le_of_ble_eq_true rfl⟩ hpf (fun v102 S101 H locs I hm hpf => ?_)
      refine b_icmp_ge hx hb 114 55 dX9_exchange_55 (by decide) hpf (fun hpf => ?_) (fun hpf => ?_)
      · refine W.widen (k := 2) (n := 12) (Nat.le_of_ble_eq_true rfl) (Nat.le_of_ble_eq_true rfl) ?_
        exact hC_114 n4 n5 x6 hn4 hn5 cC cD cE S101 _ hc X H locs I ls (lv_sub hl [0, 2, 3, 4] rfl) hpf
      refine lv_iload hx hb dX9_exchange_58 (lv_at hl 4 rfl) ?_
      refine lv_iload_n hx hb dX9_exchange_60 rfl (lv_at hl 1 rfl) ?_
      refine b_icmp_ge hx hb 114 61 dX9_exchange_61 (by decide) hpf (fun hpf => ?_) (fun hpf => ?_)
      · refine W.widen (k := 2) (n := 12) (Nat.le_of_ble_eq_true rfl) (Nat.le_of_ble_eq_true rfl) ?_
        exact hC_114 n4 n5 x6 hn4 hn5 cC cD cE S101 _ hc X H locs I ls (lv_sub hl [0, 2, 3, 4] rfl) hpf
      refine lv_aload_n hx hb dX9_exchange_64 rfl (lv_at hl 0 rfl) ?_
      refine k_get (k := 0) X I kCl_9 (kO_X (g.1, g.2.1, cC, cD, cE) S101) 5 (by decide) rfl kC_417 65 dX9_exchange_65 ?_
      refine lv_iload hx hb dX9_exchange_68 (lv_at hl 5 rfl) ?_
      refine k_callL (Rv := rC) (rest := []) (As := [.int x7]) (d := 7) ⟨Nat.le_refl _, Nat.le_refl _⟩ X I fn_X9_Log_get rfl (c_Log_get l N x7) rfl (by decide) 70 dX9_exchange_70 rfl hl.1 rfl (Nat.le_of_ble_eq_true rfl) ⟨Nat.le_of_ble_eq_true rfl, Nat.le_of_ble_eq_true rfl⟩ hpf (fun v104 S103 H locs I hm hpf => ?_)
      refine k_castU X I kC_582 73 dX9_exchange_73 hpf (fun hpf => ?_)
      refine lv_astore (lv' := [(8, .ref (cC v104)), (0, .ref (g.2.1 0)), (3, .int x3), (4, .ref (g.2.1 (18 + 2 * n4))), (5, .ref (g.2.1 (18 + 2 * n5))), (6, .int x6), (7, .int x7)]) hx hb dX9_exchange_76 hl (by decide) rfl (fun ls hl => ?_)
      refine lv_aload hx hb dX9_exchange_78 (lv_at hl 3 rfl) ?_
      refine lv_aload hx hb dX9_exchange_80 (lv_at hl 0 rfl) ?_
      refine k_cIi (rest := []) (As := [.ref (cC v104)]) (d := 7) ⟨Nat.le_refl _, Nat.le_refl _⟩ X I fn_X9_X4_hasGot kCl_4 rfl (kO_M (g.1, g.2.1, cC, cD, cE) S103 n4 hn4) (c_X4_hasGot l N n4 hn4 v104) rfl (by decide) 82 dX9_exchange_82 rfl hl.1 rfl (Nat.le_of_ble_eq_true rfl) ⟨Nat.le_of_ble_eq_true rfl, Nat.le_of_ble_eq_true rfl⟩ hpf (fun v105 S106 H locs I hm hpf => ?_)
      refine b_if_eq hx hb 108 85 dX9_exchange_85 (by decide) hpf (fun hpf => ?_) (fun hpf => ?_)
      · refine W.widen (k := 2) (n := 12) (Nat.le_of_ble_eq_true rfl) (Nat.le_of_ble_eq_true rfl) ?_
        exact hC_108 x3 n4 n5 x6 x7 hn4 hn5 cC cD cE S106 _ hc X H locs I ls (lv_sub hl [1, 2, 3, 4, 5, 6] rfl) hpf
      refine lv_aload hx hb dX9_exchange_88 (lv_at hl 4 rfl) ?_
      refine lv_aload hx hb dX9_exchange_90 (lv_at hl 0 rfl) ?_
      refine k_cIi (rest := []) (As := [.ref (cC v104)]) (d := 7) ⟨Nat.le_refl _, Nat.le_refl _⟩ X I fn_X9_X4_hasGot kCl_4 rfl (kO_M (g.1, g.2.1, cC, cD, cE) S106 n5 hn5) (c_X4_hasGot l N n5 hn5 v104) rfl (by decide) 92 dX9_exchange_92 rfl hl.1 rfl (Nat.le_of_ble_eq_true rfl) ⟨Nat.le_of_ble_eq_true rfl, Nat.le_of_ble_eq_true rfl⟩ hpf (fun v107 S108 H locs I hm hpf => ?_)
      refine b_if_ne hx hb 108 95 dX9_exchange_95 (by decide) hpf (fun hpf => ?_) (fun hpf => ?_)
      · refine W.widen (k := 2) (n := 12) (Nat.le_of_ble_eq_true rfl) (Nat.le_of_ble_eq_true rfl) ?_
        exact hC_108 x3 n4 n5 x6 x7 hn4 hn5 cC cD cE S108 _ hc X H locs I ls (lv_sub hl [1, 2, 3, 4, 5, 6] rfl) hpf
      refine lv_aload hx hb dX9_exchange_98 (lv_at hl 4 rfl) ?_
      refine lv_aload hx hb dX9_exchange_100 (lv_at hl 0 rfl) ?_
      refine k_cIv (rest := []) (As := [.ref (cC v104)]) (d := 7) ⟨Nat.le_refl _, Nat.le_refl _⟩ X I fn_X9_X4_learn kCl_4 rfl (kO_M (g.1, g.2.1, cC, cD, cE) S108 n5 hn5) (c_X4_learn l N n5 hn5 v104) rfl (by decide) 102 dX9_exchange_102 rfl hl.1 rfl (Nat.le_of_ble_eq_true rfl) ⟨Nat.le_of_ble_eq_true rfl, Nat.le_of_ble_eq_true rfl⟩ hpf (fun v109 S110 H locs I hm hpf => ?_)
      refine m_iinc (w := (1 : Int32)) hx hb (fun y111 => [(6, .int y111), (8, .ref (cC v104)), (0, .ref (g.2.1 0)), (3, .int x3), (4, .ref (g.2.1 (18 + 2 * n4))), (5, .ref (g.2.1 (18 + 2 * n5))), (7, .int x7)]) 105 dX9_exchange_105 hl (k := 5) rfl (by decide) (by decide) (fun _ => rfl) hpf (fun y111 ls hl hpf => ?_)
      refine W.widen (k := 2) (n := 12) (Nat.le_of_ble_eq_true rfl) (Nat.le_of_ble_eq_true rfl) ?_
      exact hC_108 x3 n4 n5 y111 x7 hn4 hn5 cC cD cE S110 _ hc X H locs I ls (lv_sub hl [2, 3, 4, 5, 0, 6] rfl) hpf
  refine lv_aload_n hx hb dX9_exchange_0 rfl (lv_at hl 0 rfl) ?_
  refine lv_iload_n hx hb dX9_exchange_1 rfl (lv_at hl 1 rfl) ?_
  refine x_cIm (rest := []) (As := [.int x1]) (d := 7) ⟨Nat.le_refl _, Nat.le_refl _⟩ X XX I hc fn_X9_X9_masterAt kCl_9 rfl (kO_X (g.1, g.2.1, g.2.2.1, g.2.2.2.1, g.2.2.2.2) Si) (c_X9_masterAt l hlt N x1) rfl (by decide) 2 dX9_exchange_2 rfl hl.1 rfl (Nat.le_of_ble_eq_true rfl) ⟨Nat.le_of_ble_eq_true rfl, Nat.le_of_ble_eq_true rfl⟩ ⟨Nat.le_of_ble_eq_true rfl, Nat.le_of_ble_eq_true rfl⟩ hpf (fun v101 S102 cca103 cda103 cea103 H locs I hc hg hpf => ?_)
  have X := kX_to X cca103 cda103 cea103
  obtain ⟨hv101, hpf⟩ := gn_some hpf
  refine lv_astore (lv' := [(4, .ref (g.2.1 (18 + 2 * v101))), (0, .ref (g.2.1 0)), (1, .int x1), (2, .int x2), (3, .int x3)]) hx hb dX9_exchange_5 hl (by decide) rfl (fun ls hl => ?_)
  refine lv_aload_n hx hb dX9_exchange_7 rfl (lv_at hl 1 rfl) ?_
  refine lv_iload_n hx hb dX9_exchange_8 rfl (lv_at hl 3 rfl) ?_
  refine x_cIm (rest := []) (As := [.int x2]) (d := 7) ⟨Nat.le_refl _, Nat.le_refl _⟩ X XX I hc fn_X9_X9_masterAt kCl_9 rfl (kO_X (g.1, g.2.1, cca103, cda103, cea103) S102) (c_X9_masterAt l hlt N x2) rfl (by decide) 9 dX9_exchange_9 rfl hl.1 rfl (Nat.le_of_ble_eq_true rfl) ⟨Nat.le_of_ble_eq_true rfl, Nat.le_of_ble_eq_true rfl⟩ ⟨Nat.le_of_ble_eq_true rfl, Nat.le_of_ble_eq_true rfl⟩ hpf (fun v104 S105 cca106 cda106 cea106 H locs I hc hg hpf => ?_)
  have X := kX_to X cca106 cda106 cea106
  obtain ⟨hv104, hpf⟩ := gn_some hpf
  refine lv_astore (lv' := [(5, .ref (g.2.1 (18 + 2 * v104))), (4, .ref (g.2.1 (18 + 2 * v101))), (0, .ref (g.2.1 0)), (1, .int x1), (2, .int x2), (3, .int x3)]) hx hb dX9_exchange_12 hl (by decide) rfl (fun ls hl => ?_)
  refine lv_iload_n hx hb dX9_exchange_14 rfl (lv_at hl 3 rfl) ?_
  refine lv_iload_n hx hb dX9_exchange_15 rfl (lv_at hl 4 rfl) ?_
  refine b_icmp_eq hx hb 30 16 dX9_exchange_16 (by decide) hpf (fun hpf => ?_) (fun hpf => ?_)
  · refine W.widen (k := 2) (n := 12) (Nat.le_of_ble_eq_true rfl) (Nat.le_of_ble_eq_true rfl) ?_
    exact hC_30 cca106 cda106 cea106 S105 _ hc X H locs I ls (lv_sub hl [2] rfl) hpf
  refine lv_iload_n hx hb dX9_exchange_19 rfl (lv_at hl 5 rfl) ?_
  refine b_if_lt hx hb 30 20 dX9_exchange_20 (by decide) hpf (fun hpf => ?_) (fun hpf => ?_)
  · refine W.widen (k := 2) (n := 12) (Nat.le_of_ble_eq_true rfl) (Nat.le_of_ble_eq_true rfl) ?_
    exact hC_30 cca106 cda106 cea106 S105 _ hc X H locs I ls (lv_sub hl [2] rfl) hpf
  refine lv_iload_n hx hb dX9_exchange_23 rfl (lv_at hl 5 rfl) ?_
  refine lv_sipush (v := (250 : Int32)) hx hb dX9_exchange_24 (by decide) ?_
  refine b_icmp_le hx hb 40 27 dX9_exchange_27 (by decide) hpf (fun hpf => ?_) (fun hpf => ?_)
  · refine lv_iconst (v := (0 : Int32)) hx hb dX9_exchange_40 (by decide) ?_
    refine lv_istore (lv' := [(6, .int (0 : Int32)), (5, .ref (g.2.1 (18 + 2 * v104))), (4, .ref (g.2.1 (18 + 2 * v101))), (0, .ref (g.2.1 0)), (1, .int x1), (2, .int x2), (3, .int x3)]) hx hb dX9_exchange_41 hl (by decide) rfl (fun ls hl => ?_)
    refine lv_iconst (v := (0 : Int32)) hx hb dX9_exchange_43 (by decide) ?_
    refine lv_istore (lv' := [(7, .int (0 : Int32)), (6, .int (0 : Int32)), (5, .ref (g.2.1 (18 + 2 * v104))), (4, .ref (g.2.1 (18 + 2 * v101))), (0, .ref (g.2.1 0)), (1, .int x1), (2, .int x2), (3, .int x3)]) hx hb dX9_exchange_44 hl (by decide) rfl (fun ls hl => ?_)
    refine W.widen (k := 2) (n := 12) (Nat.le_of_ble_eq_true rfl) (Nat.le_of_ble_eq_true rfl) ?_
    exact hC_46 N x3 v101 v104 (0 : Int32) (0 : Int32) hv101 hv104 cca106 cda106 cea106 S105 _ hc X H locs I ls (lv_sub hl [4, 7, 3, 2, 1, 0] rfl) hpf
  refine W.widen (k := 2) (n := 12) (Nat.le_of_ble_eq_true rfl) (Nat.le_of_ble_eq_true rfl) ?_
  exact hC_30 cca106 cda106 cea106 S105 _ hc X H locs I ls (lv_sub hl [2] rfl) hpf
-- ===== X9_sweep =====
def pX9_sweep_36 (N : Nat) (n2 : Nat) (w3 : Int64) (S : kS) : Option ((Int32 ⊕ Nat) × kS) :=
    svk (sL S n2 ((kL S n2) ||| w3)) fun S101 =>
    bk (pJ13_bitCount_95d88 N w3 S101) fun v102 S103 =>
    some (.inl v102, S103)
def pX9_sweep_14 (N : Nat) (k_36 : Nat → Int64 → kS → Option ((Int32 ⊕ Nat) × kS)) : Nat → Nat → Int64 → Int32 → kS → Option ((Int32 ⊕ Nat) × kS)
  | 0 => fun _ _ _ _ => none
  | n_14 + 1 => fun n2 w3 x5 S =>
    if (4 : Int32) ≤ x5 then (
      k_36 n2 w3 S)
    else (
      bk (pX9_deletionsKnownBy N n2 x5 S) fun v101 S102 =>
      nml (w3 &&& v101) fun y103 =>
      nm (x5 + (1 : Int32)) fun y104 =>
      pX9_sweep_14 N k_36 n_14 n2 y103 y104 S102)
def pX9_sweep (N : Nat) (x1 : Int32) (S : kS) : Option ((Int32 ⊕ Nat) × kS) :=
    bx (pX9_masterAt N x1 S) fun v101 S102 =>
    gn v101 4 <|
    bk (pX4_marked N v101 S102) fun v104 S105 =>
    pX9_sweep_14 N (pX9_sweep_36 N) N v101 v104 (0 : Int32) S105
set_option maxRecDepth 100000 in
set_option maxHeartbeats 4000000 in
theorem c_X9_sweep (l : Launch) (hlt : l.stackTraces = false) (N : Nat) (x1 : Int32) : kMx l yX9_sweep cX9_sweep 6 (some .int) 7 1 6 (fun g => [.ref (g.2.1 0), .int x1]) rI (pX9_sweep N x1) := by
  refine xStart hlt RX9 (by decide +kernel) rfl (fun g => [(0, .ref (g.2.1 0)), (1, .int x1)]) (fun _ => Nat.le_of_ble_eq_true rfl) (fun _ => rfl) ?_
  intro dC dI g sz Si o Sf hpf p e s m args below meth c X XX hr H locs I hc ls hl
  have hx := X.1
  have hb := X.2.1
  unfold pX9_sweep at hpf
  have hC_36 : ∀ (n2 : Nat) (w3 : Int64) (hn2 : n2 < 4) (cC cD : Nat → Nat) (cE : Nat) (S S0 : kS), kGc g cC cE Si S0 → kX p s m meth c cX9_sweep 6 args RX9 dC dI (g.1, g.2.1, cC, cD, cE) (kAt g (kn Si) (km Si) (kp Si) sz) → ∀ (H : Heap) (locs : List Loc), kV dC dI (g.1, g.2.1, cC, cD, cE) (kAt g (kn Si) (km Si) (kp Si) sz) s S0 S H locs → ∀ ls : Array Slot, lv_has ls 6 [(0, .ref (g.2.1 0)), (2, .ref (g.2.1 (18 + 2 * n2))), (3, .long w3)] → pX9_sweep_36 N n2 w3 S = some (o, Sf) → W p l e (xRm 7 1 6) s m args below meth c H locs 1 6 (vx_MQ below (kQx dC dI g sz Si rI o Sf) (kXx dC dI g sz Si o Sf) args s 1 6 (kAt g (kn Si) (km Si) (kp Si) sz)) (F0 m 36 ls []) := by
    intro n2 w3 hn2 cC cD cE S S0 hc X H locs I ls hl hpf
    unfold pX9_sweep_36 at hpf
    refine lv_aload_n hx hb dX9_sweep_36 rfl (lv_at hl 1 rfl) ?_
    refine lv_dup hx hb dX9_sweep_37 rfl ?_
    refine k_get (k := 0) X I kCl_4 (kO_M (g.1, g.2.1, cC, cD, cE) S n2 hn2) 3 (by decide) rfl kC_674 38 dX9_sweep_38 ?_
    refine lv_lload_n hx hb dX9_sweep_41 rfl (lv_at hl 2 rfl) ?_
    refine lv_lor hx hb dX9_sweep_42 ?_
    refine k_put (ty := .long) X I kCl_4 tyX4_ok nmX4 (kO_M (g.1, g.2.1, cC, cD, cE) S n2 hn2) 3 (by decide) (Nat.le_of_ble_eq_true rfl) (kP_M3 n2 hn2 (g.1, g.2.1, cC, cD, cE) S _) ⟨rfl, rfl, rfl⟩ kC_674 rfl (by decide +kernel) rfl rfl 43 dX9_sweep_43 hpf (fun S101 H locs I hm hpf => ?_)
    refine lv_lload_n hx hb dX9_sweep_46 rfl (lv_at hl 2 rfl) ?_
    refine k_cSi (rest := []) (As := [.long w3]) (d := 7) ⟨Nat.le_refl _, Nat.le_refl _⟩ X I fn_X9_J13_bitCount_95d88 (c_J13_bitCount_95d88 l N w3) rfl (by decide) 47 dX9_sweep_47 rfl hl.1 rfl (Nat.le_of_ble_eq_true rfl) ⟨Nat.le_of_ble_eq_true rfl, Nat.le_of_ble_eq_true rfl⟩ hpf (fun v102 S103 H locs I hm hpf => ?_)
    exact x_reti X I hc hr ⟨Nat.le_of_ble_eq_true rfl, Nat.le_of_ble_eq_true rfl⟩ 50 dX9_sweep_50 hpf
  have hC_14 : ∀ (n_14 : Nat), ∀ (n2 : Nat) (w3 : Int64) (x5 : Int32) (hn2 : n2 < 4) (cC cD : Nat → Nat) (cE : Nat) (S S0 : kS), kGc g cC cE Si S0 → kX p s m meth c cX9_sweep 6 args RX9 dC dI (g.1, g.2.1, cC, cD, cE) (kAt g (kn Si) (km Si) (kp Si) sz) → ∀ (H : Heap) (locs : List Loc), kV dC dI (g.1, g.2.1, cC, cD, cE) (kAt g (kn Si) (km Si) (kp Si) sz) s S0 S H locs → ∀ ls : Array Slot, lv_has ls 6 [(0, .ref (g.2.1 0)), (2, .ref (g.2.1 (18 + 2 * n2))), (3, .long w3), (5, .int x5)] → pX9_sweep_14 N (pX9_sweep_36 N) n_14 n2 w3 x5 S = some (o, Sf) → W p l e (xRm 7 1 6) s m args below meth c H locs 1 6 (vx_MQ below (kQx dC dI g sz Si rI o Sf) (kXx dC dI g sz Si o Sf) args s 1 6 (kAt g (kn Si) (km Si) (kp Si) sz)) (F0 m 14 ls []) := by
    intro n_14
    induction n_14 with
    | zero =>
      intro n2 w3 x5 hn2 cC cD cE S S0 hc X H locs I ls hl hpf
      rw [pX9_sweep_14] at hpf
      cases hpf
    | succ n_14 ih_14 =>
      intro n2 w3 x5 hn2 cC cD cE S S0 hc X H locs I ls hl hpf
      rw [pX9_sweep_14] at hpf
      refine lv_iload hx hb dX9_sweep_14 (lv_at hl 3 rfl) ?_
      refine lv_iconst (v := (4 : Int32)) hx hb dX9_sweep_16 (by decide) ?_
      refine b_icmp_ge hx hb 36 17 dX9_sweep_17 (by decide) hpf (fun hpf => ?_) (fun hpf => ?_)
      · refine W.widen (k := 1) (n := 6) (Nat.le_of_ble_eq_true rfl) (Nat.le_of_ble_eq_true rfl) ?_
        exact hC_36 n2 w3 hn2 cC cD cE S _ hc X H locs I ls (lv_sub hl [0, 1, 2] rfl) hpf
      refine lv_lload_n hx hb dX9_sweep_20 rfl (lv_at hl 2 rfl) ?_
      refine lv_aload_n hx hb dX9_sweep_21 rfl (lv_at hl 0 rfl) ?_
      refine lv_aload_n hx hb dX9_sweep_22 rfl (lv_at hl 1 rfl) ?_
      refine lv_iload hx hb dX9_sweep_23 (lv_at hl 3 rfl) ?_
      refine k_cIl (rest := [.long w3]) (As := [.ref (g.2.1 (18 + 2 * n2)), .int x5]) (d := 7) ⟨Nat.le_refl _, Nat.le_refl _⟩ X I fn_X9_X9_deletionsKnownBy kCl_9 rfl (kO_X (g.1, g.2.1, cC, cD, cE) S) (c_X9_deletionsKnownBy l N n2 hn2 x5) rfl (by decide) 25 dX9_sweep_25 rfl hl.1 rfl (Nat.le_of_ble_eq_true rfl) ⟨Nat.le_of_ble_eq_true rfl, Nat.le_of_ble_eq_true rfl⟩ hpf (fun v101 S102 H locs I hm hpf => ?_)
      refine lv_land hx hb dX9_sweep_28 ?_
      refine k_lsto_n hx hb (fun y103 => [(3, .long y103), (0, .ref (g.2.1 0)), (2, .ref (g.2.1 (18 + 2 * n2))), (5, .int x5)]) 29 dX9_sweep_29 rfl hl (by decide) (fun _ => rfl) hpf (fun y103 ls hl hpf => ?_)
      refine m_iinc (w := (1 : Int32)) hx hb (fun y104 => [(5, .int y104), (3, .long y103), (0, .ref (g.2.1 0)), (2, .ref (g.2.1 (18 + 2 * n2)))]) 30 dX9_sweep_30 hl (k := 3) rfl (by decide) (by decide) (fun _ => rfl) hpf (fun y104 ls hl hpf => ?_)
      refine lv_goto (tgt := 14) hx hb dX9_sweep_33 (by decide) ?_
      refine W.widen (k := 1) (n := 6) (Nat.le_of_ble_eq_true rfl) (Nat.le_of_ble_eq_true rfl) ?_
      exact ih_14 n2 y103 y104 hn2 cC cD cE S102 _ hc X H locs I ls (lv_sub hl [2, 3, 1, 0] rfl) hpf
  refine lv_aload_n hx hb dX9_sweep_0 rfl (lv_at hl 0 rfl) ?_
  refine lv_iload_n hx hb dX9_sweep_1 rfl (lv_at hl 1 rfl) ?_
  refine x_cIm (rest := []) (As := [.int x1]) (d := 7) ⟨Nat.le_refl _, Nat.le_refl _⟩ X XX I hc fn_X9_X9_masterAt kCl_9 rfl (kO_X (g.1, g.2.1, g.2.2.1, g.2.2.2.1, g.2.2.2.2) Si) (c_X9_masterAt l hlt N x1) rfl (by decide) 2 dX9_sweep_2 rfl hl.1 rfl (Nat.le_of_ble_eq_true rfl) ⟨Nat.le_of_ble_eq_true rfl, Nat.le_of_ble_eq_true rfl⟩ ⟨Nat.le_of_ble_eq_true rfl, Nat.le_of_ble_eq_true rfl⟩ hpf (fun v101 S102 cca103 cda103 cea103 H locs I hc hg hpf => ?_)
  have X := kX_to X cca103 cda103 cea103
  obtain ⟨hv101, hpf⟩ := gn_some hpf
  refine lv_astore_n (lv' := [(2, .ref (g.2.1 (18 + 2 * v101))), (0, .ref (g.2.1 0)), (1, .int x1)]) hx hb dX9_sweep_5 rfl hl (by decide) rfl (fun ls hl => ?_)
  refine lv_aload_n hx hb dX9_sweep_6 rfl (lv_at hl 0 rfl) ?_
  refine k_cIl (rest := []) (As := []) (d := 7) ⟨Nat.le_refl _, Nat.le_refl _⟩ X I fn_X9_X4_marked kCl_4 rfl (kO_M (g.1, g.2.1, cca103, cda103, cea103) S102 v101 hv101) (c_X4_marked l N v101 hv101) rfl (by decide) 7 dX9_sweep_7 rfl hl.1 rfl (Nat.le_of_ble_eq_true rfl) ⟨Nat.le_of_ble_eq_true rfl, Nat.le_of_ble_eq_true rfl⟩ hpf (fun v104 S105 H locs I hm hpf => ?_)
  refine lv_lstore_n (lv' := [(3, .long v104), (2, .ref (g.2.1 (18 + 2 * v101))), (0, .ref (g.2.1 0)), (1, .int x1)]) hx hb dX9_sweep_10 rfl hl (by decide) rfl (fun ls hl => ?_)
  refine lv_iconst (v := (0 : Int32)) hx hb dX9_sweep_11 (by decide) ?_
  refine lv_istore (lv' := [(5, .int (0 : Int32)), (3, .long v104), (2, .ref (g.2.1 (18 + 2 * v101))), (0, .ref (g.2.1 0)), (1, .int x1)]) hx hb dX9_sweep_12 hl (by decide) rfl (fun ls hl => ?_)
  refine W.widen (k := 1) (n := 6) (Nat.le_of_ble_eq_true rfl) (Nat.le_of_ble_eq_true rfl) ?_
  exact hC_14 N v101 v104 (0 : Int32) hv101 cca103 cda103 cea103 S105 _ hc X H locs I ls (lv_sub hl [3, 2, 1, 0] rfl) hpf
-- ===== X9_equal =====
def pX9_equal (N : Nat) (x1 : Int32) (x2 : Int32) (S : kS) : Option ((Int32 ⊕ Nat) × kS) :=
    bx (pX9_needAttribute N x1 S) fun v101 S102 =>
    bx (pX9_needValue N x2 S102) fun v104 S105 =>
    bx (pX9_needRoomForFilter N S105) fun v107 S108 =>
    bk (pX7_lowest N x1 x2 S108) fun v110 S111 =>
    bk (pX7_highest N x1 x2 S111) fun v112 S113 =>
    bk (pX2_putRange N x1 v110 v112 S113) fun v114 S115 =>
    some (.inl v114, S115)
set_option maxRecDepth 100000 in
set_option maxHeartbeats 4000000 in
theorem c_X9_equal (l : Launch) (hlt : l.stackTraces = false) (N : Nat) (x1 : Int32) (x2 : Int32) : kMx l yX9_equal cX9_equal 3 (some .int) 7 3 18 (fun g => [.ref (g.2.1 0), .int x1, .int x2]) rI (pX9_equal N x1 x2) := by
  refine xStart hlt RX9 (by decide +kernel) rfl (fun g => [(0, .ref (g.2.1 0)), (1, .int x1), (2, .int x2)]) (fun _ => Nat.le_of_ble_eq_true rfl) (fun _ => rfl) ?_
  intro dC dI g sz Si o Sf hpf p e s m args below meth c X XX hr H locs I hc ls hl
  have hx := X.1
  have hb := X.2.1
  unfold pX9_equal at hpf
  refine lv_aload_n hx hb dX9_equal_0 rfl (lv_at hl 0 rfl) ?_
  refine lv_iload_n hx hb dX9_equal_1 rfl (lv_at hl 1 rfl) ?_
  refine x_cIv (rest := []) (As := [.int x1]) (d := 7) ⟨Nat.le_refl _, Nat.le_refl _⟩ X XX I hc fn_X9_X9_needAttribute kCl_9 rfl (kO_X (g.1, g.2.1, g.2.2.1, g.2.2.2.1, g.2.2.2.2) Si) (c_X9_needAttribute l hlt N x1) rfl (by decide) 2 dX9_equal_2 rfl hl.1 rfl (Nat.le_of_ble_eq_true rfl) ⟨Nat.le_of_ble_eq_true rfl, Nat.le_of_ble_eq_true rfl⟩ ⟨Nat.le_of_ble_eq_true rfl, Nat.le_of_ble_eq_true rfl⟩ hpf (fun v101 S102 cca103 cda103 cea103 H locs I hc hg hpf => ?_)
  have X := kX_to X cca103 cda103 cea103
  refine lv_iload_n hx hb dX9_equal_5 rfl (lv_at hl 2 rfl) ?_
  refine x_cSv (rest := []) (As := [.int x2]) (d := 7) ⟨Nat.le_refl _, Nat.le_refl _⟩ X XX I hc fn_X9_X9_needValue (c_X9_needValue l hlt N x2) rfl (by decide) 6 dX9_equal_6 rfl hl.1 rfl (Nat.le_of_ble_eq_true rfl) ⟨Nat.le_of_ble_eq_true rfl, Nat.le_of_ble_eq_true rfl⟩ ⟨Nat.le_of_ble_eq_true rfl, Nat.le_of_ble_eq_true rfl⟩ hpf (fun v104 S105 cca106 cda106 cea106 H locs I hc hg hpf => ?_)
  have X := kX_to X cca106 cda106 cea106
  refine lv_aload_n hx hb dX9_equal_9 rfl (lv_at hl 0 rfl) ?_
  refine x_cIv (rest := []) (As := []) (d := 7) ⟨Nat.le_refl _, Nat.le_refl _⟩ X XX I hc fn_X9_X9_needRoomForFilter kCl_9 rfl (kO_X (g.1, g.2.1, cca106, cda106, cea106) S105) (c_X9_needRoomForFilter l hlt N) rfl (by decide) 10 dX9_equal_10 rfl hl.1 rfl (Nat.le_of_ble_eq_true rfl) ⟨Nat.le_of_ble_eq_true rfl, Nat.le_of_ble_eq_true rfl⟩ ⟨Nat.le_of_ble_eq_true rfl, Nat.le_of_ble_eq_true rfl⟩ hpf (fun v107 S108 cca109 cda109 cea109 H locs I hc hg hpf => ?_)
  have X := kX_to X cca109 cda109 cea109
  refine lv_aload_n hx hb dX9_equal_13 rfl (lv_at hl 0 rfl) ?_
  refine k_get (k := 0) X I kCl_9 (kO_X (g.1, g.2.1, cca109, cda109, cea109) S108) 2 (by decide) rfl kC_408 14 dX9_equal_14 ?_
  refine lv_iload_n hx hb dX9_equal_17 rfl (lv_at hl 1 rfl) ?_
  refine lv_aload_n hx hb dX9_equal_18 rfl (lv_at hl 0 rfl) ?_
  refine k_get (k := 0) X I kCl_9 (kO_X (g.1, g.2.1, cca109, cda109, cea109) S108) 0 (by decide) rfl kC_402 19 dX9_equal_19 ?_
  refine lv_iload_n hx hb dX9_equal_22 rfl (lv_at hl 1 rfl) ?_
  refine lv_iload_n hx hb dX9_equal_23 rfl (lv_at hl 2 rfl) ?_
  refine k_cIi (rest := [.int x1, .ref (g.2.1 7)]) (As := [.int x1, .int x2]) (d := 7) ⟨Nat.le_refl _, Nat.le_refl _⟩ X I fn_X9_X7_lowest kCl_7 rfl (kO_H (g.1, g.2.1, cca109, cda109, cea109) S108) (c_X7_lowest l N x1 x2) rfl (by decide) 24 dX9_equal_24 rfl hl.1 rfl (Nat.le_of_ble_eq_true rfl) ⟨Nat.le_of_ble_eq_true rfl, Nat.le_of_ble_eq_true rfl⟩ hpf (fun v110 S111 H locs I hm hpf => ?_)
  refine lv_aload_n hx hb dX9_equal_27 rfl (lv_at hl 0 rfl) ?_
  refine k_get (k := 0) X I kCl_9 (kO_X (g.1, g.2.1, cca109, cda109, cea109) S111) 0 (by decide) rfl kC_402 28 dX9_equal_28 ?_
  refine lv_iload_n hx hb dX9_equal_31 rfl (lv_at hl 1 rfl) ?_
  refine lv_iload_n hx hb dX9_equal_32 rfl (lv_at hl 2 rfl) ?_
  refine k_cIi (rest := [.int v110, .int x1, .ref (g.2.1 7)]) (As := [.int x1, .int x2]) (d := 7) ⟨Nat.le_refl _, Nat.le_refl _⟩ X I fn_X9_X7_highest kCl_7 rfl (kO_H (g.1, g.2.1, cca109, cda109, cea109) S111) (c_X7_highest l N x1 x2) rfl (by decide) 33 dX9_equal_33 rfl hl.1 rfl (Nat.le_of_ble_eq_true rfl) ⟨Nat.le_of_ble_eq_true rfl, Nat.le_of_ble_eq_true rfl⟩ hpf (fun v112 S113 H locs I hm hpf => ?_)
  refine k_cIi (rest := []) (As := [.int x1, .int v110, .int v112]) (d := 7) ⟨Nat.le_refl _, Nat.le_refl _⟩ X I fn_X9_X2_putRange kCl_2 rfl (kO_P (g.1, g.2.1, cca109, cda109, cea109) S113) (c_X2_putRange l N x1 v110 v112) rfl (by decide) 36 dX9_equal_36 rfl hl.1 rfl (Nat.le_of_ble_eq_true rfl) ⟨Nat.le_of_ble_eq_true rfl, Nat.le_of_ble_eq_true rfl⟩ hpf (fun v114 S115 H locs I hm hpf => ?_)
  exact x_reti X I hc hr ⟨Nat.le_of_ble_eq_true rfl, Nat.le_of_ble_eq_true rfl⟩ 39 dX9_equal_39 hpf
-- ===== X9_atLeast =====
def pX9_atLeast (N : Nat) (x1 : Int32) (x2 : Int32) (S : kS) : Option ((Int32 ⊕ Nat) × kS) :=
    bx (pX9_needAttribute N x1 S) fun v101 S102 =>
    bx (pX9_needValue N x2 S102) fun v104 S105 =>
    bx (pX9_needRoomForFilter N S105) fun v107 S108 =>
    bk (pX7_lowest N x1 x2 S108) fun v110 S111 =>
    bk (pX2_putRange N x1 v110 (999 : Int32) S111) fun v112 S113 =>
    some (.inl v112, S113)
set_option maxRecDepth 100000 in
set_option maxHeartbeats 4000000 in
theorem c_X9_atLeast (l : Launch) (hlt : l.stackTraces = false) (N : Nat) (x1 : Int32) (x2 : Int32) : kMx l yX9_atLeast cX9_atLeast 3 (some .int) 7 3 18 (fun g => [.ref (g.2.1 0), .int x1, .int x2]) rI (pX9_atLeast N x1 x2) := by
  refine xStart hlt RX9 (by decide +kernel) rfl (fun g => [(0, .ref (g.2.1 0)), (1, .int x1), (2, .int x2)]) (fun _ => Nat.le_of_ble_eq_true rfl) (fun _ => rfl) ?_
  intro dC dI g sz Si o Sf hpf p e s m args below meth c X XX hr H locs I hc ls hl
  have hx := X.1
  have hb := X.2.1
  unfold pX9_atLeast at hpf
  refine lv_aload_n hx hb dX9_atLeast_0 rfl (lv_at hl 0 rfl) ?_
  refine lv_iload_n hx hb dX9_atLeast_1 rfl (lv_at hl 1 rfl) ?_
  refine x_cIv (rest := []) (As := [.int x1]) (d := 7) ⟨Nat.le_refl _, Nat.le_refl _⟩ X XX I hc fn_X9_X9_needAttribute kCl_9 rfl (kO_X (g.1, g.2.1, g.2.2.1, g.2.2.2.1, g.2.2.2.2) Si) (c_X9_needAttribute l hlt N x1) rfl (by decide) 2 dX9_atLeast_2 rfl hl.1 rfl (Nat.le_of_ble_eq_true rfl) ⟨Nat.le_of_ble_eq_true rfl, Nat.le_of_ble_eq_true rfl⟩ ⟨Nat.le_of_ble_eq_true rfl, Nat.le_of_ble_eq_true rfl⟩ hpf (fun v101 S102 cca103 cda103 cea103 H locs I hc hg hpf => ?_)
  have X := kX_to X cca103 cda103 cea103
  refine lv_iload_n hx hb dX9_atLeast_5 rfl (lv_at hl 2 rfl) ?_
  refine x_cSv (rest := []) (As := [.int x2]) (d := 7) ⟨Nat.le_refl _, Nat.le_refl _⟩ X XX I hc fn_X9_X9_needValue (c_X9_needValue l hlt N x2) rfl (by decide) 6 dX9_atLeast_6 rfl hl.1 rfl (Nat.le_of_ble_eq_true rfl) ⟨Nat.le_of_ble_eq_true rfl, Nat.le_of_ble_eq_true rfl⟩ ⟨Nat.le_of_ble_eq_true rfl, Nat.le_of_ble_eq_true rfl⟩ hpf (fun v104 S105 cca106 cda106 cea106 H locs I hc hg hpf => ?_)
  have X := kX_to X cca106 cda106 cea106
  refine lv_aload_n hx hb dX9_atLeast_9 rfl (lv_at hl 0 rfl) ?_
  refine x_cIv (rest := []) (As := []) (d := 7) ⟨Nat.le_refl _, Nat.le_refl _⟩ X XX I hc fn_X9_X9_needRoomForFilter kCl_9 rfl (kO_X (g.1, g.2.1, cca106, cda106, cea106) S105) (c_X9_needRoomForFilter l hlt N) rfl (by decide) 10 dX9_atLeast_10 rfl hl.1 rfl (Nat.le_of_ble_eq_true rfl) ⟨Nat.le_of_ble_eq_true rfl, Nat.le_of_ble_eq_true rfl⟩ ⟨Nat.le_of_ble_eq_true rfl, Nat.le_of_ble_eq_true rfl⟩ hpf (fun v107 S108 cca109 cda109 cea109 H locs I hc hg hpf => ?_)
  have X := kX_to X cca109 cda109 cea109
  refine lv_aload_n hx hb dX9_atLeast_13 rfl (lv_at hl 0 rfl) ?_
  refine k_get (k := 0) X I kCl_9 (kO_X (g.1, g.2.1, cca109, cda109, cea109) S108) 2 (by decide) rfl kC_408 14 dX9_atLeast_14 ?_
  refine lv_iload_n hx hb dX9_atLeast_17 rfl (lv_at hl 1 rfl) ?_
  refine lv_aload_n hx hb dX9_atLeast_18 rfl (lv_at hl 0 rfl) ?_
  refine k_get (k := 0) X I kCl_9 (kO_X (g.1, g.2.1, cca109, cda109, cea109) S108) 0 (by decide) rfl kC_402 19 dX9_atLeast_19 ?_
  refine lv_iload_n hx hb dX9_atLeast_22 rfl (lv_at hl 1 rfl) ?_
  refine lv_iload_n hx hb dX9_atLeast_23 rfl (lv_at hl 2 rfl) ?_
  refine k_cIi (rest := [.int x1, .ref (g.2.1 7)]) (As := [.int x1, .int x2]) (d := 7) ⟨Nat.le_refl _, Nat.le_refl _⟩ X I fn_X9_X7_lowest kCl_7 rfl (kO_H (g.1, g.2.1, cca109, cda109, cea109) S108) (c_X7_lowest l N x1 x2) rfl (by decide) 24 dX9_atLeast_24 rfl hl.1 rfl (Nat.le_of_ble_eq_true rfl) ⟨Nat.le_of_ble_eq_true rfl, Nat.le_of_ble_eq_true rfl⟩ hpf (fun v110 S111 H locs I hm hpf => ?_)
  refine lv_sipush (v := (999 : Int32)) hx hb dX9_atLeast_27 (by decide) ?_
  refine k_cIi (rest := []) (As := [.int x1, .int v110, .int (999 : Int32)]) (d := 7) ⟨Nat.le_refl _, Nat.le_refl _⟩ X I fn_X9_X2_putRange kCl_2 rfl (kO_P (g.1, g.2.1, cca109, cda109, cea109) S111) (c_X2_putRange l N x1 v110 (999 : Int32)) rfl (by decide) 30 dX9_atLeast_30 rfl hl.1 rfl (Nat.le_of_ble_eq_true rfl) ⟨Nat.le_of_ble_eq_true rfl, Nat.le_of_ble_eq_true rfl⟩ hpf (fun v112 S113 H locs I hm hpf => ?_)
  exact x_reti X I hc hr ⟨Nat.le_of_ble_eq_true rfl, Nat.le_of_ble_eq_true rfl⟩ 33 dX9_atLeast_33 hpf
-- ===== X9_has =====
def pX9_has (N : Nat) (x1 : Int32) (S : kS) : Option ((Int32 ⊕ Nat) × kS) :=
    bx (pX9_needAttribute N x1 S) fun v101 S102 =>
    bx (pX9_needRoomForFilter N S102) fun v104 S105 =>
    bk (pX2_putRange N x1 (0 : Int32) (999 : Int32) S105) fun v107 S108 =>
    some (.inl v107, S108)
set_option maxRecDepth 100000 in
set_option maxHeartbeats 4000000 in
theorem c_X9_has (l : Launch) (hlt : l.stackTraces = false) (N : Nat) (x1 : Int32) : kMx l yX9_has cX9_has 2 (some .int) 7 2 12 (fun g => [.ref (g.2.1 0), .int x1]) rI (pX9_has N x1) := by
  refine xStart hlt RX9 (by decide +kernel) rfl (fun g => [(0, .ref (g.2.1 0)), (1, .int x1)]) (fun _ => Nat.le_of_ble_eq_true rfl) (fun _ => rfl) ?_
  intro dC dI g sz Si o Sf hpf p e s m args below meth c X XX hr H locs I hc ls hl
  have hx := X.1
  have hb := X.2.1
  unfold pX9_has at hpf
  refine lv_aload_n hx hb dX9_has_0 rfl (lv_at hl 0 rfl) ?_
  refine lv_iload_n hx hb dX9_has_1 rfl (lv_at hl 1 rfl) ?_
  refine x_cIv (rest := []) (As := [.int x1]) (d := 7) ⟨Nat.le_refl _, Nat.le_refl _⟩ X XX I hc fn_X9_X9_needAttribute kCl_9 rfl (kO_X (g.1, g.2.1, g.2.2.1, g.2.2.2.1, g.2.2.2.2) Si) (c_X9_needAttribute l hlt N x1) rfl (by decide) 2 dX9_has_2 rfl hl.1 rfl (Nat.le_of_ble_eq_true rfl) ⟨Nat.le_of_ble_eq_true rfl, Nat.le_of_ble_eq_true rfl⟩ ⟨Nat.le_of_ble_eq_true rfl, Nat.le_of_ble_eq_true rfl⟩ hpf (fun v101 S102 cca103 cda103 cea103 H locs I hc hg hpf => ?_)
  have X := kX_to X cca103 cda103 cea103
  refine lv_aload_n hx hb dX9_has_5 rfl (lv_at hl 0 rfl) ?_
  refine x_cIv (rest := []) (As := []) (d := 7) ⟨Nat.le_refl _, Nat.le_refl _⟩ X XX I hc fn_X9_X9_needRoomForFilter kCl_9 rfl (kO_X (g.1, g.2.1, cca103, cda103, cea103) S102) (c_X9_needRoomForFilter l hlt N) rfl (by decide) 6 dX9_has_6 rfl hl.1 rfl (Nat.le_of_ble_eq_true rfl) ⟨Nat.le_of_ble_eq_true rfl, Nat.le_of_ble_eq_true rfl⟩ ⟨Nat.le_of_ble_eq_true rfl, Nat.le_of_ble_eq_true rfl⟩ hpf (fun v104 S105 cca106 cda106 cea106 H locs I hc hg hpf => ?_)
  have X := kX_to X cca106 cda106 cea106
  refine lv_aload_n hx hb dX9_has_9 rfl (lv_at hl 0 rfl) ?_
  refine k_get (k := 0) X I kCl_9 (kO_X (g.1, g.2.1, cca106, cda106, cea106) S105) 2 (by decide) rfl kC_408 10 dX9_has_10 ?_
  refine lv_iload_n hx hb dX9_has_13 rfl (lv_at hl 1 rfl) ?_
  refine lv_iconst (v := (0 : Int32)) hx hb dX9_has_14 (by decide) ?_
  refine lv_sipush (v := (999 : Int32)) hx hb dX9_has_15 (by decide) ?_
  refine k_cIi (rest := []) (As := [.int x1, .int (0 : Int32), .int (999 : Int32)]) (d := 7) ⟨Nat.le_refl _, Nat.le_refl _⟩ X I fn_X9_X2_putRange kCl_2 rfl (kO_P (g.1, g.2.1, cca106, cda106, cea106) S105) (c_X2_putRange l N x1 (0 : Int32) (999 : Int32)) rfl (by decide) 18 dX9_has_18 rfl hl.1 rfl (Nat.le_of_ble_eq_true rfl) ⟨Nat.le_of_ble_eq_true rfl, Nat.le_of_ble_eq_true rfl⟩ hpf (fun v107 S108 H locs I hm hpf => ?_)
  exact x_reti X I hc hr ⟨Nat.le_of_ble_eq_true rfl, Nat.le_of_ble_eq_true rfl⟩ 21 dX9_has_21 hpf
-- ===== X9_ofClass =====
def pX9_ofClass (N : Nat) (x1 : Int32) (S : kS) : Option ((Int32 ⊕ Nat) × kS) :=
    bx (pX9_needClass N x1 S) fun v101 S102 =>
    bx (pX9_needRoomForFilter N S102) fun v104 S105 =>
    bk (pX2_putClass N x1 S105) fun v107 S108 =>
    some (.inl v107, S108)
set_option maxRecDepth 100000 in
set_option maxHeartbeats 4000000 in
theorem c_X9_ofClass (l : Launch) (hlt : l.stackTraces = false) (N : Nat) (x1 : Int32) : kMx l yX9_ofClass cX9_ofClass 2 (some .int) 7 2 12 (fun g => [.ref (g.2.1 0), .int x1]) rI (pX9_ofClass N x1) := by
  refine xStart hlt RX9 (by decide +kernel) rfl (fun g => [(0, .ref (g.2.1 0)), (1, .int x1)]) (fun _ => Nat.le_of_ble_eq_true rfl) (fun _ => rfl) ?_
  intro dC dI g sz Si o Sf hpf p e s m args below meth c X XX hr H locs I hc ls hl
  have hx := X.1
  have hb := X.2.1
  unfold pX9_ofClass at hpf
  refine lv_aload_n hx hb dX9_ofClass_0 rfl (lv_at hl 0 rfl) ?_
  refine lv_iload_n hx hb dX9_ofClass_1 rfl (lv_at hl 1 rfl) ?_
  refine x_cIv (rest := []) (As := [.int x1]) (d := 7) ⟨Nat.le_refl _, Nat.le_refl _⟩ X XX I hc fn_X9_X9_needClass kCl_9 rfl (kO_X (g.1, g.2.1, g.2.2.1, g.2.2.2.1, g.2.2.2.2) Si) (c_X9_needClass l hlt N x1) rfl (by decide) 2 dX9_ofClass_2 rfl hl.1 rfl (Nat.le_of_ble_eq_true rfl) ⟨Nat.le_of_ble_eq_true rfl, Nat.le_of_ble_eq_true rfl⟩ ⟨Nat.le_of_ble_eq_true rfl, Nat.le_of_ble_eq_true rfl⟩ hpf (fun v101 S102 cca103 cda103 cea103 H locs I hc hg hpf => ?_)
  have X := kX_to X cca103 cda103 cea103
  refine lv_aload_n hx hb dX9_ofClass_5 rfl (lv_at hl 0 rfl) ?_
  refine x_cIv (rest := []) (As := []) (d := 7) ⟨Nat.le_refl _, Nat.le_refl _⟩ X XX I hc fn_X9_X9_needRoomForFilter kCl_9 rfl (kO_X (g.1, g.2.1, cca103, cda103, cea103) S102) (c_X9_needRoomForFilter l hlt N) rfl (by decide) 6 dX9_ofClass_6 rfl hl.1 rfl (Nat.le_of_ble_eq_true rfl) ⟨Nat.le_of_ble_eq_true rfl, Nat.le_of_ble_eq_true rfl⟩ ⟨Nat.le_of_ble_eq_true rfl, Nat.le_of_ble_eq_true rfl⟩ hpf (fun v104 S105 cca106 cda106 cea106 H locs I hc hg hpf => ?_)
  have X := kX_to X cca106 cda106 cea106
  refine lv_aload_n hx hb dX9_ofClass_9 rfl (lv_at hl 0 rfl) ?_
  refine k_get (k := 0) X I kCl_9 (kO_X (g.1, g.2.1, cca106, cda106, cea106) S105) 2 (by decide) rfl kC_408 10 dX9_ofClass_10 ?_
  refine lv_iload_n hx hb dX9_ofClass_13 rfl (lv_at hl 1 rfl) ?_
  refine k_cIi (rest := []) (As := [.int x1]) (d := 7) ⟨Nat.le_refl _, Nat.le_refl _⟩ X I fn_X9_X2_putClass kCl_2 rfl (kO_P (g.1, g.2.1, cca106, cda106, cea106) S105) (c_X2_putClass l N x1) rfl (by decide) 14 dX9_ofClass_14 rfl hl.1 rfl (Nat.le_of_ble_eq_true rfl) ⟨Nat.le_of_ble_eq_true rfl, Nat.le_of_ble_eq_true rfl⟩ hpf (fun v107 S108 H locs I hm hpf => ?_)
  exact x_reti X I hc hr ⟨Nat.le_of_ble_eq_true rfl, Nat.le_of_ble_eq_true rfl⟩ 17 dX9_ofClass_17 hpf
-- ===== X9_combine =====
def pX9_combine_23 (N : Nat) (S : kS) : Option ((Int32 ⊕ Nat) × kS) :=
    some (.inr 3, S)
def pX9_combine (N : Nat) (x1 : Int32) (S : kS) : Option ((Int32 ⊕ Nat) × kS) :=
    if (kI S 7) < (2 : Int32) then (
      pX9_combine_23 N S)
    else (
      if (kI S 6) < (15 : Int32) then (
        bk (pX2_putCombined N x1 S) fun v101 S102 =>
        some (.inl v101, S102))
      else (
        pX9_combine_23 N S))
set_option maxRecDepth 100000 in
set_option maxHeartbeats 4000000 in
theorem c_X9_combine (l : Launch) (hlt : l.stackTraces = false) (N : Nat) (x1 : Int32) : kMx l yX9_combine cX9_combine 2 (some .int) 6 1 6 (fun g => [.ref (g.2.1 0), .int x1]) rI (pX9_combine N x1) := by
  refine xStart hlt RX9 (by decide +kernel) rfl (fun g => [(0, .ref (g.2.1 0)), (1, .int x1)]) (fun _ => Nat.le_of_ble_eq_true rfl) (fun _ => rfl) ?_
  intro dC dI g sz Si o Sf hpf p e s m args below meth c X XX hr H locs I hc ls hl
  have hx := X.1
  have hb := X.2.1
  unfold pX9_combine at hpf
  have hC_23 : ∀ (cC cD : Nat → Nat) (cE : Nat) (S S0 : kS), kGc g cC cE Si S0 → kX p s m meth c cX9_combine 2 args RX9 dC dI (g.1, g.2.1, cC, cD, cE) (kAt g (kn Si) (km Si) (kp Si) sz) → ∀ (H : Heap) (locs : List Loc), kV dC dI (g.1, g.2.1, cC, cD, cE) (kAt g (kn Si) (km Si) (kp Si) sz) s S0 S H locs → ∀ ls : Array Slot, lv_has ls 2 [(0, .ref (g.2.1 0))] → pX9_combine_23 N S = some (o, Sf) → W p l e (xRm 6 1 6) s m args below meth c H locs 0 0 (vx_MQ below (kQx dC dI g sz Si rI o Sf) (kXx dC dI g sz Si o Sf) args s 1 6 (kAt g (kn Si) (km Si) (kp Si) sz)) (F0 m 23 ls []) := by
    intro cC cD cE S S0 hc X H locs I ls hl hpf
    unfold pX9_combine_23 at hpf
    exact x_throwW 3 (Or.inr (Or.inr rfl)) X XX I hc (is := 305) (tx := "fewer than two filters, or 15 parts") (List.mem_of_getElem? (i := 6) rfl) hl.1 ⟨Nat.le_of_ble_eq_true rfl, Nat.le_of_ble_eq_true rfl⟩ ⟨Nat.le_of_ble_eq_true rfl, Nat.le_of_ble_eq_true rfl⟩ ⟨Nat.le_of_ble_eq_true rfl, Nat.le_of_ble_eq_true rfl⟩ (Nat.le_of_ble_eq_true rfl) 23 dX9_combine_23 dX9_combine_26 dX9_combine_27 dX9_combine_30 dX9_combine_33 hpf
  refine lv_aload_n hx hb dX9_combine_0 rfl (lv_at hl 0 rfl) ?_
  refine k_get (k := 0) X I kCl_9 (kO_X (g.1, g.2.1, g.2.2.1, g.2.2.2.1, g.2.2.2.2) Si) 2 (by decide) rfl kC_408 1 dX9_combine_1 ?_
  refine k_get (k := 0) X I kCl_2 (kO_P (g.1, g.2.1, g.2.2.1, g.2.2.2.1, g.2.2.2.2) Si) 6 (by decide) rfl kC_680 4 dX9_combine_4 ?_
  refine lv_iconst (v := (2 : Int32)) hx hb dX9_combine_7 (by decide) ?_
  refine b_icmp_lt hx hb 23 8 dX9_combine_8 (by decide) hpf (fun hpf => ?_) (fun hpf => ?_)
  · refine W.widen (k := 0) (n := 0) (Nat.le_of_ble_eq_true rfl) (Nat.le_of_ble_eq_true rfl) ?_
    exact hC_23 g.2.2.1 g.2.2.2.1 g.2.2.2.2 Si _ hc X H locs I ls (lv_sub hl [0] rfl) hpf
  refine lv_aload_n hx hb dX9_combine_11 rfl (lv_at hl 0 rfl) ?_
  refine k_get (k := 0) X I kCl_9 (kO_X (g.1, g.2.1, g.2.2.1, g.2.2.2.1, g.2.2.2.2) Si) 2 (by decide) rfl kC_408 12 dX9_combine_12 ?_
  refine k_get (k := 0) X I kCl_2 (kO_P (g.1, g.2.1, g.2.2.1, g.2.2.2.1, g.2.2.2.2) Si) 5 (by decide) rfl kC_681 15 dX9_combine_15 ?_
  refine lv_bipush (v := (15 : Int32)) hx hb dX9_combine_18 (by decide) ?_
  refine b_icmp_lt hx hb 34 20 dX9_combine_20 (by decide) hpf (fun hpf => ?_) (fun hpf => ?_)
  · refine lv_aload_n hx hb dX9_combine_34 rfl (lv_at hl 0 rfl) ?_
    refine k_get (k := 0) X I kCl_9 (kO_X (g.1, g.2.1, g.2.2.1, g.2.2.2.1, g.2.2.2.2) Si) 2 (by decide) rfl kC_408 35 dX9_combine_35 ?_
    refine lv_iload_n hx hb dX9_combine_38 rfl (lv_at hl 1 rfl) ?_
    refine k_cIi (rest := []) (As := [.int x1]) (d := 6) ⟨Nat.le_refl _, Nat.le_refl _⟩ X I fn_X9_X2_putCombined kCl_2 rfl (kO_P (g.1, g.2.1, g.2.2.1, g.2.2.2.1, g.2.2.2.2) Si) (c_X2_putCombined l N x1) rfl (by decide) 39 dX9_combine_39 rfl hl.1 rfl (Nat.le_of_ble_eq_true rfl) ⟨Nat.le_of_ble_eq_true rfl, Nat.le_of_ble_eq_true rfl⟩ hpf (fun v101 S102 H locs I hm hpf => ?_)
    exact x_reti X I hc hr ⟨Nat.le_of_ble_eq_true rfl, Nat.le_of_ble_eq_true rfl⟩ 42 dX9_combine_42 hpf
  refine W.widen (k := 0) (n := 0) (Nat.le_of_ble_eq_true rfl) (Nat.le_of_ble_eq_true rfl) ?_
  exact hC_23 g.2.2.1 g.2.2.2.1 g.2.2.2.2 Si _ hc X H locs I ls (lv_sub hl [0] rfl) hpf
-- ===== X9_not =====
def pX9_not_23 (N : Nat) (S : kS) : Option ((Int32 ⊕ Nat) × kS) :=
    some (.inr 3, S)
def pX9_not (N : Nat) (S : kS) : Option ((Int32 ⊕ Nat) × kS) :=
    if (kI S 7) < (1 : Int32) then (
      pX9_not_23 N S)
    else (
      if (kI S 6) < (15 : Int32) then (
        bk (pX2_putNot N S) fun v101 S102 =>
        some (.inl v101, S102))
      else (
        pX9_not_23 N S))
set_option maxRecDepth 100000 in
set_option maxHeartbeats 4000000 in
theorem c_X9_not (l : Launch) (hlt : l.stackTraces = false) (N : Nat) : kMx l yX9_not cX9_not 1 (some .int) 6 1 6 (fun g => [.ref (g.2.1 0)]) rI (pX9_not N) := by
  refine xStart hlt RX9 (by decide +kernel) rfl (fun g => [(0, .ref (g.2.1 0))]) (fun _ => Nat.le_of_ble_eq_true rfl) (fun _ => rfl) ?_
  intro dC dI g sz Si o Sf hpf p e s m args below meth c X XX hr H locs I hc ls hl
  have hx := X.1
  have hb := X.2.1
  unfold pX9_not at hpf
  have hC_23 : ∀ (cC cD : Nat → Nat) (cE : Nat) (S S0 : kS), kGc g cC cE Si S0 → kX p s m meth c cX9_not 1 args RX9 dC dI (g.1, g.2.1, cC, cD, cE) (kAt g (kn Si) (km Si) (kp Si) sz) → ∀ (H : Heap) (locs : List Loc), kV dC dI (g.1, g.2.1, cC, cD, cE) (kAt g (kn Si) (km Si) (kp Si) sz) s S0 S H locs → ∀ ls : Array Slot, lv_has ls 1 [(0, .ref (g.2.1 0))] → pX9_not_23 N S = some (o, Sf) → W p l e (xRm 6 1 6) s m args below meth c H locs 0 0 (vx_MQ below (kQx dC dI g sz Si rI o Sf) (kXx dC dI g sz Si o Sf) args s 1 6 (kAt g (kn Si) (km Si) (kp Si) sz)) (F0 m 23 ls []) := by
    intro cC cD cE S S0 hc X H locs I ls hl hpf
    unfold pX9_not_23 at hpf
    exact x_throwW 3 (Or.inr (Or.inr rfl)) X XX I hc (is := 311) (tx := "no filter, or 15 parts") (List.mem_of_getElem? (i := 7) rfl) hl.1 ⟨Nat.le_of_ble_eq_true rfl, Nat.le_of_ble_eq_true rfl⟩ ⟨Nat.le_of_ble_eq_true rfl, Nat.le_of_ble_eq_true rfl⟩ ⟨Nat.le_of_ble_eq_true rfl, Nat.le_of_ble_eq_true rfl⟩ (Nat.le_of_ble_eq_true rfl) 23 dX9_not_23 dX9_not_26 dX9_not_27 dX9_not_30 dX9_not_33 hpf
  refine lv_aload_n hx hb dX9_not_0 rfl (lv_at hl 0 rfl) ?_
  refine k_get (k := 0) X I kCl_9 (kO_X (g.1, g.2.1, g.2.2.1, g.2.2.2.1, g.2.2.2.2) Si) 2 (by decide) rfl kC_408 1 dX9_not_1 ?_
  refine k_get (k := 0) X I kCl_2 (kO_P (g.1, g.2.1, g.2.2.1, g.2.2.2.1, g.2.2.2.2) Si) 6 (by decide) rfl kC_680 4 dX9_not_4 ?_
  refine lv_iconst (v := (1 : Int32)) hx hb dX9_not_7 (by decide) ?_
  refine b_icmp_lt hx hb 23 8 dX9_not_8 (by decide) hpf (fun hpf => ?_) (fun hpf => ?_)
  · refine W.widen (k := 0) (n := 0) (Nat.le_of_ble_eq_true rfl) (Nat.le_of_ble_eq_true rfl) ?_
    exact hC_23 g.2.2.1 g.2.2.2.1 g.2.2.2.2 Si _ hc X H locs I ls (lv_sub hl [0] rfl) hpf
  refine lv_aload_n hx hb dX9_not_11 rfl (lv_at hl 0 rfl) ?_
  refine k_get (k := 0) X I kCl_9 (kO_X (g.1, g.2.1, g.2.2.1, g.2.2.2.1, g.2.2.2.2) Si) 2 (by decide) rfl kC_408 12 dX9_not_12 ?_
  refine k_get (k := 0) X I kCl_2 (kO_P (g.1, g.2.1, g.2.2.1, g.2.2.2.1, g.2.2.2.2) Si) 5 (by decide) rfl kC_681 15 dX9_not_15 ?_
  refine lv_bipush (v := (15 : Int32)) hx hb dX9_not_18 (by decide) ?_
  refine b_icmp_lt hx hb 34 20 dX9_not_20 (by decide) hpf (fun hpf => ?_) (fun hpf => ?_)
  · refine lv_aload_n hx hb dX9_not_34 rfl (lv_at hl 0 rfl) ?_
    refine k_get (k := 0) X I kCl_9 (kO_X (g.1, g.2.1, g.2.2.1, g.2.2.2.1, g.2.2.2.2) Si) 2 (by decide) rfl kC_408 35 dX9_not_35 ?_
    refine k_cIi (rest := []) (As := []) (d := 6) ⟨Nat.le_refl _, Nat.le_refl _⟩ X I fn_X9_X2_putNot kCl_2 rfl (kO_P (g.1, g.2.1, g.2.2.1, g.2.2.2.1, g.2.2.2.2) Si) (c_X2_putNot l N) rfl (by decide) 38 dX9_not_38 rfl hl.1 rfl (Nat.le_of_ble_eq_true rfl) ⟨Nat.le_of_ble_eq_true rfl, Nat.le_of_ble_eq_true rfl⟩ hpf (fun v101 S102 H locs I hm hpf => ?_)
    exact x_reti X I hc hr ⟨Nat.le_of_ble_eq_true rfl, Nat.le_of_ble_eq_true rfl⟩ 41 dX9_not_41 hpf
  refine W.widen (k := 0) (n := 0) (Nat.le_of_ble_eq_true rfl) (Nat.le_of_ble_eq_true rfl) ?_
  exact hC_23 g.2.2.1 g.2.2.2.1 g.2.2.2.2 Si _ hc X H locs I ls (lv_sub hl [0] rfl) hpf
-- ===== X9_search =====
def pX9_search (N : Nat) (x1 : Int32) (x2 : Int32) (x3 : Int32) (S : kS) : Option ((Int32 ⊕ Nat) × kS) :=
    bx (pX9_needSearch N x1 x2 x3 S) fun v101 S102 =>
    bk (pX3_byIndex N x1 x2 x3 S102) fun v104 S105 =>
    some (.inl v104, S105)
set_option maxRecDepth 100000 in
set_option maxHeartbeats 4000000 in
theorem c_X9_search (l : Launch) (hlt : l.stackTraces = false) (N : Nat) (x1 : Int32) (x2 : Int32) (x3 : Int32) : kMx l yX9_search cX9_search 4 (some .int) 8 4 24 (fun g => [.ref (g.2.1 0), .int x1, .int x2, .int x3]) rI (pX9_search N x1 x2 x3) := by
  refine xStart hlt RX9 (by decide +kernel) rfl (fun g => [(0, .ref (g.2.1 0)), (1, .int x1), (2, .int x2), (3, .int x3)]) (fun _ => Nat.le_of_ble_eq_true rfl) (fun _ => rfl) ?_
  intro dC dI g sz Si o Sf hpf p e s m args below meth c X XX hr H locs I hc ls hl
  have hx := X.1
  have hb := X.2.1
  unfold pX9_search at hpf
  refine lv_aload_n hx hb dX9_search_0 rfl (lv_at hl 0 rfl) ?_
  refine lv_iload_n hx hb dX9_search_1 rfl (lv_at hl 1 rfl) ?_
  refine lv_iload_n hx hb dX9_search_2 rfl (lv_at hl 2 rfl) ?_
  refine lv_iload_n hx hb dX9_search_3 rfl (lv_at hl 3 rfl) ?_
  refine x_cIv (rest := []) (As := [.int x1, .int x2, .int x3]) (d := 8) ⟨Nat.le_refl _, Nat.le_refl _⟩ X XX I hc fn_X9_X9_needSearch kCl_9 rfl (kO_X (g.1, g.2.1, g.2.2.1, g.2.2.2.1, g.2.2.2.2) Si) (c_X9_needSearch l hlt N x1 x2 x3) rfl (by decide) 4 dX9_search_4 rfl hl.1 rfl (Nat.le_of_ble_eq_true rfl) ⟨Nat.le_of_ble_eq_true rfl, Nat.le_of_ble_eq_true rfl⟩ ⟨Nat.le_of_ble_eq_true rfl, Nat.le_of_ble_eq_true rfl⟩ hpf (fun v101 S102 cca103 cda103 cea103 H locs I hc hg hpf => ?_)
  have X := kX_to X cca103 cda103 cea103
  refine lv_aload_n hx hb dX9_search_7 rfl (lv_at hl 0 rfl) ?_
  refine k_get (k := 0) X I kCl_9 (kO_X (g.1, g.2.1, cca103, cda103, cea103) S102) 4 (by decide) rfl kC_413 8 dX9_search_8 ?_
  refine lv_iload_n hx hb dX9_search_11 rfl (lv_at hl 1 rfl) ?_
  refine lv_iload_n hx hb dX9_search_12 rfl (lv_at hl 2 rfl) ?_
  refine lv_iload_n hx hb dX9_search_13 rfl (lv_at hl 3 rfl) ?_
  refine k_cIi (rest := []) (As := [.int x1, .int x2, .int x3]) (d := 8) ⟨Nat.le_refl _, Nat.le_refl _⟩ X I fn_X9_X3_byIndex kCl_3 rfl (kO_Q (g.1, g.2.1, cca103, cda103, cea103) S102) (c_X3_byIndex l N x1 x2 x3) rfl (by decide) 14 dX9_search_14 rfl hl.1 rfl (Nat.le_of_ble_eq_true rfl) ⟨Nat.le_of_ble_eq_true rfl, Nat.le_of_ble_eq_true rfl⟩ hpf (fun v104 S105 H locs I hm hpf => ?_)
  exact x_reti X I hc hr ⟨Nat.le_of_ble_eq_true rfl, Nat.le_of_ble_eq_true rfl⟩ 17 dX9_search_17 hpf
-- ===== X9_searchByWalk =====
def pX9_searchByWalk (N : Nat) (x1 : Int32) (x2 : Int32) (x3 : Int32) (S : kS) : Option ((Int32 ⊕ Nat) × kS) :=
    bx (pX9_needSearch N x1 x2 x3 S) fun v101 S102 =>
    bk (pX3_byWalk N x1 x2 x3 S102) fun v104 S105 =>
    some (.inl v104, S105)
set_option maxRecDepth 100000 in
set_option maxHeartbeats 4000000 in
theorem c_X9_searchByWalk (l : Launch) (hlt : l.stackTraces = false) (N : Nat) (x1 : Int32) (x2 : Int32) (x3 : Int32) : kMx l yX9_searchByWalk cX9_searchByWalk 4 (some .int) 8 4 24 (fun g => [.ref (g.2.1 0), .int x1, .int x2, .int x3]) rI (pX9_searchByWalk N x1 x2 x3) := by
  refine xStart hlt RX9 (by decide +kernel) rfl (fun g => [(0, .ref (g.2.1 0)), (1, .int x1), (2, .int x2), (3, .int x3)]) (fun _ => Nat.le_of_ble_eq_true rfl) (fun _ => rfl) ?_
  intro dC dI g sz Si o Sf hpf p e s m args below meth c X XX hr H locs I hc ls hl
  have hx := X.1
  have hb := X.2.1
  unfold pX9_searchByWalk at hpf
  refine lv_aload_n hx hb dX9_searchByWalk_0 rfl (lv_at hl 0 rfl) ?_
  refine lv_iload_n hx hb dX9_searchByWalk_1 rfl (lv_at hl 1 rfl) ?_
  refine lv_iload_n hx hb dX9_searchByWalk_2 rfl (lv_at hl 2 rfl) ?_
  refine lv_iload_n hx hb dX9_searchByWalk_3 rfl (lv_at hl 3 rfl) ?_
  refine x_cIv (rest := []) (As := [.int x1, .int x2, .int x3]) (d := 8) ⟨Nat.le_refl _, Nat.le_refl _⟩ X XX I hc fn_X9_X9_needSearch kCl_9 rfl (kO_X (g.1, g.2.1, g.2.2.1, g.2.2.2.1, g.2.2.2.2) Si) (c_X9_needSearch l hlt N x1 x2 x3) rfl (by decide) 4 dX9_searchByWalk_4 rfl hl.1 rfl (Nat.le_of_ble_eq_true rfl) ⟨Nat.le_of_ble_eq_true rfl, Nat.le_of_ble_eq_true rfl⟩ ⟨Nat.le_of_ble_eq_true rfl, Nat.le_of_ble_eq_true rfl⟩ hpf (fun v101 S102 cca103 cda103 cea103 H locs I hc hg hpf => ?_)
  have X := kX_to X cca103 cda103 cea103
  refine lv_aload_n hx hb dX9_searchByWalk_7 rfl (lv_at hl 0 rfl) ?_
  refine k_get (k := 0) X I kCl_9 (kO_X (g.1, g.2.1, cca103, cda103, cea103) S102) 4 (by decide) rfl kC_413 8 dX9_searchByWalk_8 ?_
  refine lv_iload_n hx hb dX9_searchByWalk_11 rfl (lv_at hl 1 rfl) ?_
  refine lv_iload_n hx hb dX9_searchByWalk_12 rfl (lv_at hl 2 rfl) ?_
  refine lv_iload_n hx hb dX9_searchByWalk_13 rfl (lv_at hl 3 rfl) ?_
  refine k_cIi (rest := []) (As := [.int x1, .int x2, .int x3]) (d := 8) ⟨Nat.le_refl _, Nat.le_refl _⟩ X I fn_X9_X3_byWalk kCl_3 rfl (kO_Q (g.1, g.2.1, cca103, cda103, cea103) S102) (c_X3_byWalk l N x1 x2 x3) rfl (by decide) 14 dX9_searchByWalk_14 rfl hl.1 rfl (Nat.le_of_ble_eq_true rfl) ⟨Nat.le_of_ble_eq_true rfl, Nat.le_of_ble_eq_true rfl⟩ hpf (fun v104 S105 H locs I hm hpf => ?_)
  exact x_reti X I hc hr ⟨Nat.le_of_ble_eq_true rfl, Nat.le_of_ble_eq_true rfl⟩ 17 dX9_searchByWalk_17 hpf
-- ===== X9_follow =====
def pX9_follow (N : Nat) (x1 : Int32) (x2 : Int32) (x3 : Int32) (S : kS) : Option ((Int32 ⊕ Nat) × kS) :=
    bx (pX9_needSearch N x1 x2 x3 S) fun v101 S102 =>
    bk (pX3_byLinks N x1 x2 x3 S102) fun v104 S105 =>
    some (.inl v104, S105)
set_option maxRecDepth 100000 in
set_option maxHeartbeats 4000000 in
theorem c_X9_follow (l : Launch) (hlt : l.stackTraces = false) (N : Nat) (x1 : Int32) (x2 : Int32) (x3 : Int32) : kMx l yX9_follow cX9_follow 4 (some .int) 8 4 24 (fun g => [.ref (g.2.1 0), .int x1, .int x2, .int x3]) rI (pX9_follow N x1 x2 x3) := by
  refine xStart hlt RX9 (by decide +kernel) rfl (fun g => [(0, .ref (g.2.1 0)), (1, .int x1), (2, .int x2), (3, .int x3)]) (fun _ => Nat.le_of_ble_eq_true rfl) (fun _ => rfl) ?_
  intro dC dI g sz Si o Sf hpf p e s m args below meth c X XX hr H locs I hc ls hl
  have hx := X.1
  have hb := X.2.1
  unfold pX9_follow at hpf
  refine lv_aload_n hx hb dX9_follow_0 rfl (lv_at hl 0 rfl) ?_
  refine lv_iload_n hx hb dX9_follow_1 rfl (lv_at hl 1 rfl) ?_
  refine lv_iload_n hx hb dX9_follow_2 rfl (lv_at hl 2 rfl) ?_
  refine lv_iload_n hx hb dX9_follow_3 rfl (lv_at hl 3 rfl) ?_
  refine x_cIv (rest := []) (As := [.int x1, .int x2, .int x3]) (d := 8) ⟨Nat.le_refl _, Nat.le_refl _⟩ X XX I hc fn_X9_X9_needSearch kCl_9 rfl (kO_X (g.1, g.2.1, g.2.2.1, g.2.2.2.1, g.2.2.2.2) Si) (c_X9_needSearch l hlt N x1 x2 x3) rfl (by decide) 4 dX9_follow_4 rfl hl.1 rfl (Nat.le_of_ble_eq_true rfl) ⟨Nat.le_of_ble_eq_true rfl, Nat.le_of_ble_eq_true rfl⟩ ⟨Nat.le_of_ble_eq_true rfl, Nat.le_of_ble_eq_true rfl⟩ hpf (fun v101 S102 cca103 cda103 cea103 H locs I hc hg hpf => ?_)
  have X := kX_to X cca103 cda103 cea103
  refine lv_aload_n hx hb dX9_follow_7 rfl (lv_at hl 0 rfl) ?_
  refine k_get (k := 0) X I kCl_9 (kO_X (g.1, g.2.1, cca103, cda103, cea103) S102) 4 (by decide) rfl kC_413 8 dX9_follow_8 ?_
  refine lv_iload_n hx hb dX9_follow_11 rfl (lv_at hl 1 rfl) ?_
  refine lv_iload_n hx hb dX9_follow_12 rfl (lv_at hl 2 rfl) ?_
  refine lv_iload_n hx hb dX9_follow_13 rfl (lv_at hl 3 rfl) ?_
  refine k_cIi (rest := []) (As := [.int x1, .int x2, .int x3]) (d := 8) ⟨Nat.le_refl _, Nat.le_refl _⟩ X I fn_X9_X3_byLinks kCl_3 rfl (kO_Q (g.1, g.2.1, cca103, cda103, cea103) S102) (c_X3_byLinks l N x1 x2 x3) rfl (by decide) 14 dX9_follow_14 rfl hl.1 rfl (Nat.le_of_ble_eq_true rfl) ⟨Nat.le_of_ble_eq_true rfl, Nat.le_of_ble_eq_true rfl⟩ hpf (fun v104 S105 H locs I hm hpf => ?_)
  exact x_reti X I hc hr ⟨Nat.le_of_ble_eq_true rfl, Nat.le_of_ble_eq_true rfl⟩ 17 dX9_follow_17 hpf
-- ===== X9_found =====
def pX9_found_15 (N : Nat) (S : kS) : Option ((Int32 ⊕ Nat) × kS) :=
    some (.inr 1, S)
def pX9_found (N : Nat) (x1 : Int32) (S : kS) : Option ((Int32 ⊕ Nat) × kS) :=
    if x1 < (0 : Int32) then (
      pX9_found_15 N S)
    else (
      if x1 < (kI S 8) then (
        gd x1 192 <|
        some (.inl (kA S 14 x1.toNatClampNeg), S))
      else (
        pX9_found_15 N S))
set_option maxRecDepth 100000 in
set_option maxHeartbeats 4000000 in
theorem c_X9_found (l : Launch) (hlt : l.stackTraces = false) (N : Nat) (x1 : Int32) : kMx l yX9_found cX9_found 2 (some .int) 6 1 6 (fun g => [.ref (g.2.1 0), .int x1]) rI (pX9_found N x1) := by
  refine xStart hlt RX9 (by decide +kernel) rfl (fun g => [(0, .ref (g.2.1 0)), (1, .int x1)]) (fun _ => Nat.le_of_ble_eq_true rfl) (fun _ => rfl) ?_
  intro dC dI g sz Si o Sf hpf p e s m args below meth c X XX hr H locs I hc ls hl
  have hx := X.1
  have hb := X.2.1
  unfold pX9_found at hpf
  have hC_15 : ∀ (cC cD : Nat → Nat) (cE : Nat) (S S0 : kS), kGc g cC cE Si S0 → kX p s m meth c cX9_found 2 args RX9 dC dI (g.1, g.2.1, cC, cD, cE) (kAt g (kn Si) (km Si) (kp Si) sz) → ∀ (H : Heap) (locs : List Loc), kV dC dI (g.1, g.2.1, cC, cD, cE) (kAt g (kn Si) (km Si) (kp Si) sz) s S0 S H locs → ∀ ls : Array Slot, lv_has ls 2 [(0, .ref (g.2.1 0))] → pX9_found_15 N S = some (o, Sf) → W p l e (xRm 6 1 6) s m args below meth c H locs 0 0 (vx_MQ below (kQx dC dI g sz Si rI o Sf) (kXx dC dI g sz Si o Sf) args s 1 6 (kAt g (kn Si) (km Si) (kp Si) sz)) (F0 m 15 ls []) := by
    intro cC cD cE S S0 hc X H locs I ls hl hpf
    unfold pX9_found_15 at hpf
    exact x_throwW 1 (Or.inl rfl) X XX I hc (is := 333) (tx := "not found so many") (List.mem_of_getElem? (i := 8) rfl) hl.1 ⟨Nat.le_of_ble_eq_true rfl, Nat.le_of_ble_eq_true rfl⟩ ⟨Nat.le_of_ble_eq_true rfl, Nat.le_of_ble_eq_true rfl⟩ ⟨Nat.le_of_ble_eq_true rfl, Nat.le_of_ble_eq_true rfl⟩ (Nat.le_of_ble_eq_true rfl) 15 dX9_found_15 dX9_found_18 dX9_found_19 dX9_found_22 dX9_found_25 hpf
  refine lv_iload_n hx hb dX9_found_0 rfl (lv_at hl 1 rfl) ?_
  refine b_if_lt hx hb 15 1 dX9_found_1 (by decide) hpf (fun hpf => ?_) (fun hpf => ?_)
  · refine W.widen (k := 0) (n := 0) (Nat.le_of_ble_eq_true rfl) (Nat.le_of_ble_eq_true rfl) ?_
    exact hC_15 g.2.2.1 g.2.2.2.1 g.2.2.2.2 Si _ hc X H locs I ls (lv_sub hl [0] rfl) hpf
  refine lv_iload_n hx hb dX9_found_4 rfl (lv_at hl 1 rfl) ?_
  refine lv_aload_n hx hb dX9_found_5 rfl (lv_at hl 0 rfl) ?_
  refine k_get (k := 0) X I kCl_9 (kO_X (g.1, g.2.1, g.2.2.1, g.2.2.2.1, g.2.2.2.2) Si) 4 (by decide) rfl kC_413 6 dX9_found_6 ?_
  refine k_get (k := 0) X I kCl_3 (kO_Q (g.1, g.2.1, g.2.2.1, g.2.2.2.1, g.2.2.2.2) Si) 3 (by decide) rfl kC_726 9 dX9_found_9 ?_
  refine b_icmp_lt hx hb 26 12 dX9_found_12 (by decide) hpf (fun hpf => ?_) (fun hpf => ?_)
  · refine lv_aload_n hx hb dX9_found_26 rfl (lv_at hl 0 rfl) ?_
    refine k_get (k := 0) X I kCl_9 (kO_X (g.1, g.2.1, g.2.2.1, g.2.2.2.1, g.2.2.2.2) Si) 4 (by decide) rfl kC_413 27 dX9_found_27 ?_
    refine k_get (k := 0) X I kCl_3 (kO_Q (g.1, g.2.1, g.2.2.1, g.2.2.2.1, g.2.2.2.2) Si) 2 (by decide) rfl kC_727 30 dX9_found_30 ?_
    refine lv_iload_n hx hb dX9_found_33 rfl (lv_at hl 1 rfl) ?_
    refine k_iald X I kR_14 34 dX9_found_34 hpf (fun hpf => ?_)
    exact x_reti X I hc hr ⟨Nat.le_of_ble_eq_true rfl, Nat.le_of_ble_eq_true rfl⟩ 35 dX9_found_35 hpf
  refine W.widen (k := 0) (n := 0) (Nat.le_of_ble_eq_true rfl) (Nat.le_of_ble_eq_true rfl) ?_
  exact hC_15 g.2.2.1 g.2.2.2.1 g.2.2.2.2 Si _ hc X H locs I ls (lv_sub hl [0] rfl) hpf
