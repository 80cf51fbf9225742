theorem fn_X7_X7_isClass : kFnI RX7 yX7_isClass cX7_isClass 2 (some .boolean) 1 41 := ⟨⟨kC_42, kC_45, kC_38, ⟨by decide +kernel, by decide +kernel, by decide +kernel⟩, by decide⟩, kC_43, kC_44⟩
theorem fn_X7_X7_requiredBy : kFnI RX7 yX7_requiredBy cX7_requiredBy 2 (some .int) 1 34 := ⟨⟨kC_326, kC_45, kC_66, ⟨by decide +kernel, by decide +kernel, by decide +kernel⟩, by decide⟩, kC_79, kC_80⟩
theorem fn_X7_X7_allowedBy : kFnI RX7 yX7_allowedBy cX7_allowedBy 2 (some .int) 1 38 := ⟨⟨kC_47, kC_45, kC_40, ⟨by decide +kernel, by decide +kernel, by decide +kernel⟩, by decide⟩, kC_48, kC_49⟩
theorem fn_X7_X7_isByTens : kFnI RX7 yX7_isByTens cX7_isByTens 2 (some .boolean) 1 45 := ⟨⟨kC_55, kC_45, kC_52, ⟨by decide +kernel, by decide +kernel, by decide +kernel⟩, by decide⟩, kC_56, kC_57⟩
theorem fn_X1_X7_lowest : kFnI RX1 yX7_lowest cX7_lowest 3 (some .int) 2 46 := ⟨⟨kC_60, kC_45, kC_54, ⟨by decide +kernel, by decide +kernel, by decide +kernel⟩, by decide⟩, kC_61, kC_62⟩
theorem fn_X1_X7_highest : kFnI RX1 yX7_highest cX7_highest 3 (some .int) 2 50 := ⟨⟨kC_63, kC_45, kC_58, ⟨by decide +kernel, by decide +kernel, by decide +kernel⟩, by decide⟩, kC_64, kC_65⟩
theorem fn_X1_X7_isAllowed : kFnI RX1 yX7_isAllowed cX7_isAllowed 3 (some .boolean) 2 29 := ⟨⟨kC_68, kC_45, kC_46, ⟨by decide +kernel, by decide +kernel, by decide +kernel⟩, by decide⟩, kC_69, kC_70⟩
theorem fn_X1_X7_isSingle : kFnI RX1 yX7_isSingle cX7_isSingle 2 (some .boolean) 1 35 := ⟨⟨kC_71, kC_45, kC_50, ⟨by decide +kernel, by decide +kernel, by decide +kernel⟩, by decide⟩, kC_72, kC_73⟩
theorem fn_X1_X1_isMatchedBefore : kFnI RX1 yX1_isMatchedBefore cX1_isMatchedBefore 6 (some .boolean) 1 39 := ⟨⟨kC_74, kC_77, kC_59, ⟨by decide +kernel, by decide +kernel, by decide +kernel⟩, by decide⟩, kC_75, kC_76⟩
theorem fn_X1_X7_requiredBy : kFnI RX1 yX7_requiredBy cX7_requiredBy 2 (some .int) 1 42 := ⟨⟨kC_78, kC_45, kC_66, ⟨by decide +kernel, by decide +kernel, by decide +kernel⟩, by decide⟩, kC_79, kC_80⟩
-- ===== X0_rank =====
def pX0_rank (N : Nat) (n0 : Nat) (S : kS) : Option (Int32 × kS) :=
    gn n0 (kn S) <|
    gn n0 (kn S) <|
    some (((kF S n0 8) * (4 : Int32)) + (kF S n0 6), S)
set_option maxRecDepth 100000 in
set_option maxHeartbeats 4000000 in
theorem c_X0_rank (l : Launch) (N : Nat) (n0 : Nat) : kMet l yX0_rank cX0_rank 1 (some .int) 0 (fun g => [.ref (g.2.2.1 n0)]) rI (pX0_rank N n0) := by
  refine kStart RX0 (by decide +kernel) rfl (fun g => [(0, .ref (g.2.2.1 n0))]) (fun _ => Nat.le_of_ble_eq_true rfl) (fun _ => rfl) ?_
  intro dC dI g sz Si r Sf hpf p e s m args below meth c X hr H locs I ls hl
  have hx := X.1
  have hb := X.2.1
  unfold pX0_rank at hpf
  refine lv_aload_n hx hb dX0_rank_0 rfl (lv_at hl 0 rfl) ?_
  refine k_getU X I 8 (by decide) rfl kC_10 1 dX0_rank_1 hpf (fun hpf => ?_)
  refine lv_iconst (v := (4 : Int32)) hx hb dX0_rank_4 (by decide) ?_
  refine lv_imul hx hb dX0_rank_5 ?_
  refine lv_aload_n hx hb dX0_rank_6 rfl (lv_at hl 0 rfl) ?_
  refine k_getU X I 6 (by decide) rfl kC_11 7 dX0_rank_7 hpf (fun hpf => ?_)
  refine lv_iadd hx hb dX0_rank_10 ?_
  exact k_reti X I hr 11 dX0_rank_11 hpf
-- ===== X7_isByTens =====
def pX7_isByTens (N : Nat) (x1 : Int32) (S : kS) : Option (Int32 × kS) :=
    if (((kI S 4) >>> (x1 &&& 31)) &&& (1 : Int32)) = (1 : Int32) then (
      some ((1 : Int32), S))
    else (
      some ((0 : Int32), S))
set_option maxRecDepth 100000 in
set_option maxHeartbeats 4000000 in
theorem c_X7_isByTens (l : Launch) (N : Nat) (x1 : Int32) : kMet l yX7_isByTens cX7_isByTens 2 (some .boolean) 0 (fun g => [.ref (g.2.1 1), .int x1]) rI (pX7_isByTens N x1) := by
  refine kStart RX7 (by decide +kernel) rfl (fun g => [(0, .ref (g.2.1 1)), (1, .int x1)]) (fun _ => Nat.le_of_ble_eq_true rfl) (fun _ => rfl) ?_
  intro dC dI g sz Si r Sf hpf p e s m args below meth c X hr H locs I ls hl
  have hx := X.1
  have hb := X.2.1
  unfold pX7_isByTens at hpf
  refine lv_aload_n hx hb dX7_isByTens_0 rfl (lv_at hl 0 rfl) ?_
  refine k_get (k := 0) X I kCl_7 (kO_H g Si) 3 (by decide) rfl kC_53 1 dX7_isByTens_1 ?_
  refine lv_iload_n hx hb dX7_isByTens_4 rfl (lv_at hl 1 rfl) ?_
  refine lv_ishr hx hb dX7_isByTens_5 ?_
  refine lv_iconst (v := (1 : Int32)) hx hb dX7_isByTens_6 (by decide) ?_
  refine lv_iand hx hb dX7_isByTens_7 ?_
  refine lv_iconst (v := (1 : Int32)) hx hb dX7_isByTens_8 (by decide) ?_
  refine b_icmp_ne hx hb 16 9 dX7_isByTens_9 (by decide) hpf (fun hpf => ?_) (fun hpf => ?_)
  · refine lv_iconst (v := (0 : Int32)) hx hb dX7_isByTens_16 (by decide) ?_
    exact k_retzc X I hr 17 dX7_isByTens_17 (by decide) hpf
  refine lv_iconst (v := (1 : Int32)) hx hb dX7_isByTens_12 (by decide) ?_
  refine lv_goto (tgt := 17) hx hb dX7_isByTens_13 (by decide) ?_
  exact k_retzc X I hr 17 dX7_isByTens_17 (by decide) hpf
-- ===== X7_isClass =====
def pX7_isClass (N : Nat) (x1 : Int32) (S : kS) : Option (Int32 × kS) :=
    if x1 < (0 : Int32) then (
      some ((0 : Int32), S))
    else (
      if (kI S 2) ≤ x1 then (
        some ((0 : Int32), S))
      else (
        some ((1 : Int32), S)))
set_option maxRecDepth 100000 in
set_option maxHeartbeats 4000000 in
theorem c_X7_isClass (l : Launch) (N : Nat) (x1 : Int32) : kMet l yX7_isClass cX7_isClass 2 (some .boolean) 0 (fun g => [.ref (g.2.1 1), .int x1]) rI (pX7_isClass N x1) := by
  refine kStart RX7 (by decide +kernel) rfl (fun g => [(0, .ref (g.2.1 1)), (1, .int x1)]) (fun _ => Nat.le_of_ble_eq_true rfl) (fun _ => rfl) ?_
  intro dC dI g sz Si r Sf hpf p e s m args below meth c X hr H locs I ls hl
  have hx := X.1
  have hb := X.2.1
  unfold pX7_isClass at hpf
  refine lv_iload_n hx hb dX7_isClass_0 rfl (lv_at hl 1 rfl) ?_
  refine b_if_lt hx hb 16 1 dX7_isClass_1 (by decide) hpf (fun hpf => ?_) (fun hpf => ?_)
  · refine lv_iconst (v := (0 : Int32)) hx hb dX7_isClass_16 (by decide) ?_
    exact k_retzc X I hr 17 dX7_isClass_17 (by decide) hpf
  refine lv_iload_n hx hb dX7_isClass_4 rfl (lv_at hl 1 rfl) ?_
  refine lv_aload_n hx hb dX7_isClass_5 rfl (lv_at hl 0 rfl) ?_
  refine k_get (k := 0) X I kCl_7 (kO_H g Si) 1 (by decide) rfl kC_39 6 dX7_isClass_6 ?_
  refine b_icmp_ge hx hb 16 9 dX7_isClass_9 (by decide) hpf (fun hpf => ?_) (fun hpf => ?_)
  · refine lv_iconst (v := (0 : Int32)) hx hb dX7_isClass_16 (by decide) ?_
    exact k_retzc X I hr 17 dX7_isClass_17 (by decide) hpf
  refine lv_iconst (v := (1 : Int32)) hx hb dX7_isClass_12 (by decide) ?_
  refine lv_goto (tgt := 17) hx hb dX7_isClass_13 (by decide) ?_
  exact k_retzc X I hr 17 dX7_isClass_17 (by decide) hpf
-- ===== X7_isSetOfAttributes =====
def pX7_isSetOfAttributes (N : Nat) (x1 : Int32) (S : kS) : Option (Int32 × kS) :=
    if ((x1.toUInt32 >>> ((kI S 1).toUInt32 &&& Int32.toUInt32 31)).toInt32) = (0 : Int32) then (
      some ((1 : Int32), S))
    else (
      some ((0 : Int32), S))
set_option maxRecDepth 100000 in
set_option maxHeartbeats 4000000 in
theorem c_X7_isSetOfAttributes (l : Launch) (N : Nat) (x1 : Int32) : kMet l yX7_isSetOfAttributes cX7_isSetOfAttributes 2 (some .boolean) 0 (fun g => [.ref (g.2.1 1), .int x1]) rI (pX7_isSetOfAttributes N x1) := by
  refine kStart RX7 (by decide +kernel) rfl (fun g => [(0, .ref (g.2.1 1)), (1, .int x1)]) (fun _ => Nat.le_of_ble_eq_true rfl) (fun _ => rfl) ?_
  intro dC dI g sz Si r Sf hpf p e s m args below meth c X hr H locs I ls hl
  have hx := X.1
  have hb := X.2.1
  unfold pX7_isSetOfAttributes at hpf
  refine lv_iload_n hx hb dX7_isSetOfAttributes_0 rfl (lv_at hl 1 rfl) ?_
  refine lv_aload_n hx hb dX7_isSetOfAttributes_1 rfl (lv_at hl 0 rfl) ?_
  refine k_get (k := 0) X I kCl_7 (kO_H g Si) 0 (by decide) rfl kC_324 2 dX7_isSetOfAttributes_2 ?_
  refine lv_iushr hx hb dX7_isSetOfAttributes_5 rfl ?_
  refine b_if_ne hx hb 13 6 dX7_isSetOfAttributes_6 (by decide) hpf (fun hpf => ?_) (fun hpf => ?_)
  · refine lv_iconst (v := (0 : Int32)) hx hb dX7_isSetOfAttributes_13 (by decide) ?_
    exact k_retzc X I hr 14 dX7_isSetOfAttributes_14 (by decide) hpf
  refine lv_iconst (v := (1 : Int32)) hx hb dX7_isSetOfAttributes_9 (by decide) ?_
  refine lv_goto (tgt := 14) hx hb dX7_isSetOfAttributes_10 (by decide) ?_
  exact k_retzc X I hr 14 dX7_isSetOfAttributes_14 (by decide) hpf
-- ===== X7_requiredBy =====
def pX7_requiredBy (N : Nat) (x1 : Int32) (S : kS) : Option (Int32 × kS) :=
    bk (pX7_isClass N x1 S) fun v101 S102 =>
    if v101 = (0 : Int32) then (
      some ((0 : Int32), S102))
    else (
      gd x1 8 <|
      some (kA S102 3 x1.toNatClampNeg, S102))
set_option maxRecDepth 100000 in
set_option maxHeartbeats 4000000 in
theorem c_X7_requiredBy (l : Launch) (N : Nat) (x1 : Int32) : kMet l yX7_requiredBy cX7_requiredBy 2 (some .int) 1 (fun g => [.ref (g.2.1 1), .int x1]) rI (pX7_requiredBy N x1) := by
  refine kStart RX7 (by decide +kernel) rfl (fun g => [(0, .ref (g.2.1 1)), (1, .int x1)]) (fun _ => Nat.le_of_ble_eq_true rfl) (fun _ => rfl) ?_
  intro dC dI g sz Si r Sf hpf p e s m args below meth c X hr H locs I ls hl
  have hx := X.1
  have hb := X.2.1
  unfold pX7_requiredBy at hpf
  refine lv_aload_n hx hb dX7_requiredBy_0 rfl (lv_at hl 0 rfl) ?_
  refine lv_iload_n hx hb dX7_requiredBy_1 rfl (lv_at hl 1 rfl) ?_
  refine k_cIi (rest := []) (As := [.int x1]) (d := 1) ⟨Nat.le_refl _, Nat.le_refl _⟩ X I fn_X7_X7_isClass kCl_7 rfl (kO_H g Si) (c_X7_isClass l N x1) rfl (by decide) 2 dX7_requiredBy_2 rfl hl.1 rfl (Nat.le_of_ble_eq_true rfl) ⟨Nat.le_of_ble_eq_true rfl, Nat.le_of_ble_eq_true rfl⟩ hpf (fun v101 S102 H locs I hm hpf => ?_)
  refine b_if_eq hx hb 17 5 dX7_requiredBy_5 (by decide) hpf (fun hpf => ?_) (fun hpf => ?_)
  · refine lv_iconst (v := (0 : Int32)) hx hb dX7_requiredBy_17 (by decide) ?_
    exact k_reti X I hr 18 dX7_requiredBy_18 hpf
  refine lv_aload_n hx hb dX7_requiredBy_8 rfl (lv_at hl 0 rfl) ?_
  refine k_get (k := 0) X I kCl_7 (kO_H g S102) 5 (by decide) rfl kC_67 9 dX7_requiredBy_9 ?_
  refine lv_iload_n hx hb dX7_requiredBy_12 rfl (lv_at hl 1 rfl) ?_
  refine k_iald X I kR_3 13 dX7_requiredBy_13 hpf (fun hpf => ?_)
  refine lv_goto (tgt := 18) hx hb dX7_requiredBy_14 (by decide) ?_
  exact k_reti X I hr 18 dX7_requiredBy_18 hpf
-- ===== X7_allowedBy =====
def pX7_allowedBy (N : Nat) (x1 : Int32) (S : kS) : Option (Int32 × kS) :=
    bk (pX7_isClass N x1 S) fun v101 S102 =>
    if v101 = (0 : Int32) then (
      some ((0 : Int32), S102))
    else (
      gd x1 8 <|
      some (kA S102 4 x1.toNatClampNeg, S102))
set_option maxRecDepth 100000 in
set_option maxHeartbeats 4000000 in
theorem c_X7_allowedBy (l : Launch) (N : Nat) (x1 : Int32) : kMet l yX7_allowedBy cX7_allowedBy 2 (some .int) 1 (fun g => [.ref (g.2.1 1), .int x1]) rI (pX7_allowedBy N x1) := by
  refine kStart RX7 (by decide +kernel) rfl (fun g => [(0, .ref (g.2.1 1)), (1, .int x1)]) (fun _ => Nat.le_of_ble_eq_true rfl) (fun _ => rfl) ?_
  intro dC dI g sz Si r Sf hpf p e s m args below meth c X hr H locs I ls hl
  have hx := X.1
  have hb := X.2.1
  unfold pX7_allowedBy at hpf
  refine lv_aload_n hx hb dX7_allowedBy_0 rfl (lv_at hl 0 rfl) ?_
  refine lv_iload_n hx hb dX7_allowedBy_1 rfl (lv_at hl 1 rfl) ?_
  refine k_cIi (rest := []) (As := [.int x1]) (d := 1) ⟨Nat.le_refl _, Nat.le_refl _⟩ X I fn_X7_X7_isClass kCl_7 rfl (kO_H g Si) (c_X7_isClass l N x1) rfl (by decide) 2 dX7_allowedBy_2 rfl hl.1 rfl (Nat.le_of_ble_eq_true rfl) ⟨Nat.le_of_ble_eq_true rfl, Nat.le_of_ble_eq_true rfl⟩ hpf (fun v101 S102 H locs I hm hpf => ?_)
  refine b_if_eq hx hb 17 5 dX7_allowedBy_5 (by decide) hpf (fun hpf => ?_) (fun hpf => ?_)
  · refine lv_iconst (v := (0 : Int32)) hx hb dX7_allowedBy_17 (by decide) ?_
    exact k_reti X I hr 18 dX7_allowedBy_18 hpf
  refine lv_aload_n hx hb dX7_allowedBy_8 rfl (lv_at hl 0 rfl) ?_
  refine k_get (k := 0) X I kCl_7 (kO_H g S102) 6 (by decide) rfl kC_41 9 dX7_allowedBy_9 ?_
  refine lv_iload_n hx hb dX7_allowedBy_12 rfl (lv_at hl 1 rfl) ?_
  refine k_iald X I kR_4 13 dX7_allowedBy_13 hpf (fun hpf => ?_)
  refine lv_goto (tgt := 18) hx hb dX7_allowedBy_14 (by decide) ?_
  exact k_reti X I hr 18 dX7_allowedBy_18 hpf
-- ===== X7_isRequired =====
def pX7_isRequired (N : Nat) (x1 : Int32) (x2 : Int32) (S : kS) : Option (Int32 × kS) :=
    bk (pX7_requiredBy N x1 S) fun v101 S102 =>
    if ((v101 >>> (x2 &&& 31)) &&& (1 : Int32)) = (1 : Int32) then (
      some ((1 : Int32), S102))
    else (
      some ((0 : Int32), S102))
set_option maxRecDepth 100000 in
set_option maxHeartbeats 4000000 in
theorem c_X7_isRequired (l : Launch) (N : Nat) (x1 : Int32) (x2 : Int32) : kMet l yX7_isRequired cX7_isRequired 3 (some .boolean) 2 (fun g => [.ref (g.2.1 1), .int x1, .int x2]) rI (pX7_isRequired N x1 x2) := by
  refine kStart RX7 (by decide +kernel) rfl (fun g => [(0, .ref (g.2.1 1)), (1, .int x1), (2, .int x2)]) (fun _ => Nat.le_of_ble_eq_true rfl) (fun _ => rfl) ?_
  intro dC dI g sz Si r Sf hpf p e s m args below meth c X hr H locs I ls hl
  have hx := X.1
  have hb := X.2.1
  unfold pX7_isRequired at hpf
  refine lv_aload_n hx hb dX7_isRequired_0 rfl (lv_at hl 0 rfl) ?_
  refine lv_iload_n hx hb dX7_isRequired_1 rfl (lv_at hl 1 rfl) ?_
  refine k_cIi (rest := []) (As := [.int x1]) (d := 2) ⟨Nat.le_refl _, Nat.le_refl _⟩ X I fn_X7_X7_requiredBy kCl_7 rfl (kO_H g Si) (c_X7_requiredBy l N x1) rfl (by decide) 2 dX7_isRequired_2 rfl hl.1 rfl (Nat.le_of_ble_eq_true rfl) ⟨Nat.le_of_ble_eq_true rfl, Nat.le_of_ble_eq_true rfl⟩ hpf (fun v101 S102 H locs I hm hpf => ?_)
  refine lv_iload_n hx hb dX7_isRequired_5 rfl (lv_at hl 2 rfl) ?_
  refine lv_ishr hx hb dX7_isRequired_6 ?_
  refine lv_iconst (v := (1 : Int32)) hx hb dX7_isRequired_7 (by decide) ?_
  refine lv_iand hx hb dX7_isRequired_8 ?_
  refine lv_iconst (v := (1 : Int32)) hx hb dX7_isRequired_9 (by decide) ?_
  refine b_icmp_ne hx hb 17 10 dX7_isRequired_10 (by decide) hpf (fun hpf => ?_) (fun hpf => ?_)
  · refine lv_iconst (v := (0 : Int32)) hx hb dX7_isRequired_17 (by decide) ?_
    exact k_retzc X I hr 18 dX7_isRequired_18 (by decide) hpf
  refine lv_iconst (v := (1 : Int32)) hx hb dX7_isRequired_13 (by decide) ?_
  refine lv_goto (tgt := 18) hx hb dX7_isRequired_14 (by decide) ?_
  exact k_retzc X I hr 18 dX7_isRequired_18 (by decide) hpf
-- ===== X7_isAllowed =====
def pX7_isAllowed (N : Nat) (x1 : Int32) (x2 : Int32) (S : kS) : Option (Int32 × kS) :=
    bk (pX7_allowedBy N x1 S) fun v101 S102 =>
    if ((v101 >>> (x2 &&& 31)) &&& (1 : Int32)) = (1 : Int32) then (
      some ((1 : Int32), S102))
    else (
      some ((0 : Int32), S102))
set_option maxRecDepth 100000 in
set_option maxHeartbeats 4000000 in
theorem c_X7_isAllowed (l : Launch) (N : Nat) (x1 : Int32) (x2 : Int32) : kMet l yX7_isAllowed cX7_isAllowed 3 (some .boolean) 2 (fun g => [.ref (g.2.1 1), .int x1, .int x2]) rI (pX7_isAllowed N x1 x2) := by
  refine kStart RX7 (by decide +kernel) rfl (fun g => [(0, .ref (g.2.1 1)), (1, .int x1), (2, .int x2)]) (fun _ => Nat.le_of_ble_eq_true rfl) (fun _ => rfl) ?_
  intro dC dI g sz Si r Sf hpf p e s m args below meth c X hr H locs I ls hl
  have hx := X.1
  have hb := X.2.1
  unfold pX7_isAllowed at hpf
  refine lv_aload_n hx hb dX7_isAllowed_0 rfl (lv_at hl 0 rfl) ?_
  refine lv_iload_n hx hb dX7_isAllowed_1 rfl (lv_at hl 1 rfl) ?_
  refine k_cIi (rest := []) (As := [.int x1]) (d := 2) ⟨Nat.le_refl _, Nat.le_refl _⟩ X I fn_X7_X7_allowedBy kCl_7 rfl (kO_H g Si) (c_X7_allowedBy l N x1) rfl (by decide) 2 dX7_isAllowed_2 rfl hl.1 rfl (Nat.le_of_ble_eq_true rfl) ⟨Nat.le_of_ble_eq_true rfl, Nat.le_of_ble_eq_true rfl⟩ hpf (fun v101 S102 H locs I hm hpf => ?_)
  refine lv_iload_n hx hb dX7_isAllowed_5 rfl (lv_at hl 2 rfl) ?_
  refine lv_ishr hx hb dX7_isAllowed_6 ?_
  refine lv_iconst (v := (1 : Int32)) hx hb dX7_isAllowed_7 (by decide) ?_
  refine lv_iand hx hb dX7_isAllowed_8 ?_
  refine lv_iconst (v := (1 : Int32)) hx hb dX7_isAllowed_9 (by decide) ?_
  refine b_icmp_ne hx hb 17 10 dX7_isAllowed_10 (by decide) hpf (fun hpf => ?_) (fun hpf => ?_)
  · refine lv_iconst (v := (0 : Int32)) hx hb dX7_isAllowed_17 (by decide) ?_
    exact k_retzc X I hr 18 dX7_isAllowed_18 (by decide) hpf
  refine lv_iconst (v := (1 : Int32)) hx hb dX7_isAllowed_13 (by decide) ?_
  refine lv_goto (tgt := 18) hx hb dX7_isAllowed_14 (by decide) ?_
  exact k_retzc X I hr 18 dX7_isAllowed_18 (by decide) hpf
-- ===== X7_isSingle =====
def pX7_isSingle (N : Nat) (x1 : Int32) (S : kS) : Option (Int32 × kS) :=
    if (((kI S 3) >>> (x1 &&& 31)) &&& (1 : Int32)) = (1 : Int32) then (
      some ((1 : Int32), S))
    else (
      some ((0 : Int32), S))
set_option maxRecDepth 100000 in
set_option maxHeartbeats 4000000 in
theorem c_X7_isSingle (l : Launch) (N : Nat) (x1 : Int32) : kMet l yX7_isSingle cX7_isSingle 2 (some .boolean) 0 (fun g => [.ref (g.2.1 1), .int x1]) rI (pX7_isSingle N x1) := by
  refine kStart RX7 (by decide +kernel) rfl (fun g => [(0, .ref (g.2.1 1)), (1, .int x1)]) (fun _ => Nat.le_of_ble_eq_true rfl) (fun _ => rfl) ?_
  intro dC dI g sz Si r Sf hpf p e s m args below meth c X hr H locs I ls hl
  have hx := X.1
  have hb := X.2.1
  unfold pX7_isSingle at hpf
  refine lv_aload_n hx hb dX7_isSingle_0 rfl (lv_at hl 0 rfl) ?_
  refine k_get (k := 0) X I kCl_7 (kO_H g Si) 2 (by decide) rfl kC_51 1 dX7_isSingle_1 ?_
  refine lv_iload_n hx hb dX7_isSingle_4 rfl (lv_at hl 1 rfl) ?_
  refine lv_ishr hx hb dX7_isSingle_5 ?_
  refine lv_iconst (v := (1 : Int32)) hx hb dX7_isSingle_6 (by decide) ?_
  refine lv_iand hx hb dX7_isSingle_7 ?_
  refine lv_iconst (v := (1 : Int32)) hx hb dX7_isSingle_8 (by decide) ?_
  refine b_icmp_ne hx hb 16 9 dX7_isSingle_9 (by decide) hpf (fun hpf => ?_) (fun hpf => ?_)
  · refine lv_iconst (v := (0 : Int32)) hx hb dX7_isSingle_16 (by decide) ?_
    exact k_retzc X I hr 17 dX7_isSingle_17 (by decide) hpf
  refine lv_iconst (v := (1 : Int32)) hx hb dX7_isSingle_12 (by decide) ?_
  refine lv_goto (tgt := 17) hx hb dX7_isSingle_13 (by decide) ?_
  exact k_retzc X I hr 17 dX7_isSingle_17 (by decide) hpf
-- ===== X7_isOrBeneath =====
def pX7_isOrBeneath_5 (N : Nat) : Nat → Int32 → Int32 → Int32 → kS → Option (Int32 × kS)
  | 0 => fun _ _ _ _ => none
  | n_5 + 1 => fun x2 x3 x4 S =>
    if (8 : Int32) ≤ x4 then (
      some ((0 : Int32), S))
    else (
      bk (pX7_isClass N x3 S) fun v101 S102 =>
      if v101 = (0 : Int32) then (
        some ((0 : Int32), S102))
      else (
        if x3 = x2 then (
          some ((1 : Int32), S102))
        else (
          gd x3 8 <|
          nm (kA S102 2 x3.toNatClampNeg) fun y103 =>
          nm (x4 + (1 : Int32)) fun y104 =>
          pX7_isOrBeneath_5 N n_5 x2 y103 y104 S102)))
def pX7_isOrBeneath (N : Nat) (x1 : Int32) (x2 : Int32) (S : kS) : Option (Int32 × kS) :=
    pX7_isOrBeneath_5 N N x2 x1 (0 : Int32) S
set_option maxRecDepth 100000 in
set_option maxHeartbeats 4000000 in
theorem c_X7_isOrBeneath (l : Launch) (N : Nat) (x1 : Int32) (x2 : Int32) : kMet l yX7_isOrBeneath cX7_isOrBeneath 5 (some .boolean) 1 (fun g => [.ref (g.2.1 1), .int x1, .int x2]) rI (pX7_isOrBeneath N x1 x2) := by
  refine kStart RX7 (by decide +kernel) rfl (fun g => [(0, .ref (g.2.1 1)), (1, .int x1), (2, .int x2)]) (fun _ => Nat.le_of_ble_eq_true rfl) (fun _ => rfl) ?_
  intro dC dI g sz Si r Sf hpf p e s m args below meth c X hr H locs I ls hl
  have hx := X.1
  have hb := X.2.1
  unfold pX7_isOrBeneath at hpf
  have hC_5 : ∀ (n_5 : Nat), ∀ (x2 : Int32) (x3 : Int32) (x4 : Int32) (S : kS) (H : Heap) (locs : List Loc), kV dC dI g (kAt g (kn Si) (km Si) (kp Si) sz) s Si S H locs → ∀ ls : Array Slot, lv_has ls 5 [(0, .ref (g.2.1 1)), (2, .int x2), (3, .int x3), (4, .int x4)] → pX7_isOrBeneath_5 N n_5 x2 x3 x4 S = some (r, Sf) → W p l e (mRm 1) s m args below meth c H locs 0 0 (MQ below (kQ dC dI g sz Si (rI g r) Sf) args s 0 0 (kAt g (kn Si) (km Si) (kp Si) sz)) (F0 m 5 ls []) := by
    intro n_5
    induction n_5 with
    | zero =>
      intro x2 x3 x4 S H locs I ls hl hpf
      rw [pX7_isOrBeneath_5] at hpf
      cases hpf
    | succ n_5 ih_5 =>
      intro x2 x3 x4 S H locs I ls hl hpf
      rw [pX7_isOrBeneath_5] at hpf
      refine lv_iload hx hb dX7_isOrBeneath_5 (lv_at hl 3 rfl) ?_
      refine lv_bipush (v := (8 : Int32)) hx hb dX7_isOrBeneath_7 (by decide) ?_
      refine b_icmp_ge hx hb 40 9 dX7_isOrBeneath_9 (by decide) hpf (fun hpf => ?_) (fun hpf => ?_)
      · refine lv_iconst (v := (0 : Int32)) hx hb dX7_isOrBeneath_40 (by decide) ?_
        exact k_retzc X I hr 41 dX7_isOrBeneath_41 (by decide) hpf
      refine lv_aload_n hx hb dX7_isOrBeneath_12 rfl (lv_at hl 0 rfl) ?_
      refine lv_iload_n hx hb dX7_isOrBeneath_13 rfl (lv_at hl 2 rfl) ?_
      refine k_cIi (rest := []) (As := [.int x3]) (d := 1) ⟨Nat.le_refl _, Nat.le_refl _⟩ X I fn_X7_X7_isClass kCl_7 rfl (kO_H g S) (c_X7_isClass l N x3) rfl (by decide) 14 dX7_isOrBeneath_14 rfl hl.1 rfl (Nat.le_of_ble_eq_true rfl) ⟨Nat.le_of_ble_eq_true rfl, Nat.le_of_ble_eq_true rfl⟩ hpf (fun v101 S102 H locs I hm hpf => ?_)
      refine b_if_eq hx hb 40 17 dX7_isOrBeneath_17 (by decide) hpf (fun hpf => ?_) (fun hpf => ?_)
      · refine lv_iconst (v := (0 : Int32)) hx hb dX7_isOrBeneath_40 (by decide) ?_
        exact k_retzc X I hr 41 dX7_isOrBeneath_41 (by decide) hpf
      refine lv_iload_n hx hb dX7_isOrBeneath_20 rfl (lv_at hl 2 rfl) ?_
      refine lv_iload_n hx hb dX7_isOrBeneath_21 rfl (lv_at hl 1 rfl) ?_
      refine b_icmp_ne hx hb 27 22 dX7_isOrBeneath_22 (by decide) hpf (fun hpf => ?_) (fun hpf => ?_)
      · refine lv_aload_n hx hb dX7_isOrBeneath_27 rfl (lv_at hl 0 rfl) ?_
        refine k_get (k := 0) X I kCl_7 (kO_H g S102) 4 (by decide) rfl kC_116 28 dX7_isOrBeneath_28 ?_
        refine lv_iload_n hx hb dX7_isOrBeneath_31 rfl (lv_at hl 2 rfl) ?_
        refine k_iald X I kR_2 32 dX7_isOrBeneath_32 hpf (fun hpf => ?_)
        refine m_isto_n hx hb (fun y103 => [(3, .int y103), (0, .ref (g.2.1 1)), (2, .int x2), (4, .int x4)]) 33 dX7_isOrBeneath_33 rfl hl (by decide) (fun _ => rfl) hpf (fun y103 ls hl hpf => ?_)
        refine m_iinc (w := (1 : Int32)) hx hb (fun y104 => [(4, .int y104), (3, .int y103), (0, .ref (g.2.1 1)), (2, .int x2)]) 34 dX7_isOrBeneath_34 hl (k := 3) rfl (by decide) (by decide) (fun _ => rfl) hpf (fun y104 ls hl hpf => ?_)
        refine lv_goto (tgt := 5) hx hb dX7_isOrBeneath_37 (by decide) ?_
        exact ih_5 x2 y103 y104 S102 H locs I ls (lv_sub hl [2, 3, 1, 0] rfl) hpf
      refine lv_iconst (v := (1 : Int32)) hx hb dX7_isOrBeneath_25 (by decide) ?_
      exact k_retzc X I hr 26 dX7_isOrBeneath_26 (by decide) hpf
  refine lv_iload_n hx hb dX7_isOrBeneath_0 rfl (lv_at hl 1 rfl) ?_
  refine lv_istore_n (lv' := [(3, .int x1), (0, .ref (g.2.1 1)), (1, .int x1), (2, .int x2)]) hx hb dX7_isOrBeneath_1 rfl hl (by decide) rfl (fun ls hl => ?_)
  refine lv_iconst (v := (0 : Int32)) hx hb dX7_isOrBeneath_2 (by decide) ?_
  refine lv_istore (lv' := [(4, .int (0 : Int32)), (3, .int x1), (0, .ref (g.2.1 1)), (1, .int x1), (2, .int x2)]) hx hb dX7_isOrBeneath_3 hl (by decide) rfl (fun ls hl => ?_)
  exact hC_5 N x2 x1 (0 : Int32) Si H locs I ls (lv_sub hl [2, 4, 1, 0] rfl) hpf
-- ===== X7_lowest =====
def pX7_lowest (N : Nat) (x1 : Int32) (x2 : Int32) (S : kS) : Option (Int32 × kS) :=
    bk (pX7_isByTens N x1 S) fun v101 S102 =>
    if v101 = (0 : Int32) then (
      some (x2, S102))
    else (
      some (x2 - (x2 - x2 / (10 : Int32) * (10 : Int32)), S102))
set_option maxRecDepth 100000 in
set_option maxHeartbeats 4000000 in
theorem c_X7_lowest (l : Launch) (N : Nat) (x1 : Int32) (x2 : Int32) : kMet l yX7_lowest cX7_lowest 3 (some .int) 1 (fun g => [.ref (g.2.1 1), .int x1, .int x2]) rI (pX7_lowest N x1 x2) := by
  refine kStart RX7 (by decide +kernel) rfl (fun g => [(0, .ref (g.2.1 1)), (1, .int x1), (2, .int x2)]) (fun _ => Nat.le_of_ble_eq_true rfl) (fun _ => rfl) ?_
  intro dC dI g sz Si r Sf hpf p e s m args below meth c X hr H locs I ls hl
  have hx := X.1
  have hb := X.2.1
  unfold pX7_lowest at hpf
  refine lv_aload_n hx hb dX7_lowest_0 rfl (lv_at hl 0 rfl) ?_
  refine lv_iload_n hx hb dX7_lowest_1 rfl (lv_at hl 1 rfl) ?_
  refine k_cIi (rest := []) (As := [.int x1]) (d := 1) ⟨Nat.le_refl _, Nat.le_refl _⟩ X I fn_X7_X7_isByTens kCl_7 rfl (kO_H g Si) (c_X7_isByTens l N x1) rfl (by decide) 2 dX7_lowest_2 rfl hl.1 rfl (Nat.le_of_ble_eq_true rfl) ⟨Nat.le_of_ble_eq_true rfl, Nat.le_of_ble_eq_true rfl⟩ hpf (fun v101 S102 H locs I hm hpf => ?_)
  refine b_if_eq hx hb 17 5 dX7_lowest_5 (by decide) hpf (fun hpf => ?_) (fun hpf => ?_)
  · refine lv_iload_n hx hb dX7_lowest_17 rfl (lv_at hl 2 rfl) ?_
    exact k_reti X I hr 18 dX7_lowest_18 hpf
  refine lv_iload_n hx hb dX7_lowest_8 rfl (lv_at hl 2 rfl) ?_
  refine lv_iload_n hx hb dX7_lowest_9 rfl (lv_at hl 2 rfl) ?_
  refine lv_bipush (v := (10 : Int32)) hx hb dX7_lowest_10 (by decide) ?_
  refine lv_irem hx hb dX7_lowest_12 (by decide) ?_
  refine lv_isub hx hb dX7_lowest_13 ?_
  refine lv_goto (tgt := 18) hx hb dX7_lowest_14 (by decide) ?_
  exact k_reti X I hr 18 dX7_lowest_18 hpf
-- ===== X7_highest =====
def pX7_highest (N : Nat) (x1 : Int32) (x2 : Int32) (S : kS) : Option (Int32 × kS) :=
    bk (pX7_isByTens N x1 S) fun v101 S102 =>
    if v101 = (0 : Int32) then (
      some (x2, S102))
    else (
      some ((x2 - (x2 - x2 / (10 : Int32) * (10 : Int32))) + (9 : Int32), S102))
set_option maxRecDepth 100000 in
set_option maxHeartbeats 4000000 in
theorem c_X7_highest (l : Launch) (N : Nat) (x1 : Int32) (x2 : Int32) : kMet l yX7_highest cX7_highest 3 (some .int) 1 (fun g => [.ref (g.2.1 1), .int x1, .int x2]) rI (pX7_highest N x1 x2) := by
  refine kStart RX7 (by decide +kernel) rfl (fun g => [(0, .ref (g.2.1 1)), (1, .int x1), (2, .int x2)]) (fun _ => Nat.le_of_ble_eq_true rfl) (fun _ => rfl) ?_
  intro dC dI g sz Si r Sf hpf p e s m args below meth c X hr H locs I ls hl
  have hx := X.1
  have hb := X.2.1
  unfold pX7_highest at hpf
  refine lv_aload_n hx hb dX7_highest_0 rfl (lv_at hl 0 rfl) ?_
  refine lv_iload_n hx hb dX7_highest_1 rfl (lv_at hl 1 rfl) ?_
  refine k_cIi (rest := []) (As := [.int x1]) (d := 1) ⟨Nat.le_refl _, Nat.le_refl _⟩ X I fn_X7_X7_isByTens kCl_7 rfl (kO_H g Si) (c_X7_isByTens l N x1) rfl (by decide) 2 dX7_highest_2 rfl hl.1 rfl (Nat.le_of_ble_eq_true rfl) ⟨Nat.le_of_ble_eq_true rfl, Nat.le_of_ble_eq_true rfl⟩ hpf (fun v101 S102 H locs I hm hpf => ?_)
  refine b_if_eq hx hb 20 5 dX7_highest_5 (by decide) hpf (fun hpf => ?_) (fun hpf => ?_)
  · refine lv_iload_n hx hb dX7_highest_20 rfl (lv_at hl 2 rfl) ?_
    exact k_reti X I hr 21 dX7_highest_21 hpf
  refine lv_iload_n hx hb dX7_highest_8 rfl (lv_at hl 2 rfl) ?_
  refine lv_iload_n hx hb dX7_highest_9 rfl (lv_at hl 2 rfl) ?_
  refine lv_bipush (v := (10 : Int32)) hx hb dX7_highest_10 (by decide) ?_
  refine lv_irem hx hb dX7_highest_12 (by decide) ?_
  refine lv_isub hx hb dX7_highest_13 ?_
  refine lv_bipush (v := (9 : Int32)) hx hb dX7_highest_14 (by decide) ?_
  refine lv_iadd hx hb dX7_highest_16 ?_
  refine lv_goto (tgt := 21) hx hb dX7_highest_17 (by decide) ?_
  exact k_reti X I hr 21 dX7_highest_21 hpf
-- ===== X7_newAttribute =====
def pX7_newAttribute_39 (N : Nat) (t0 : Int32) (t1 : Int32) (S : kS) : Option (Int32 × kS) :=
    svk (sI S 4 (t1 ||| t0)) fun S101 =>
    svk (sI S101 1 ((kI S101 1) + (1 : Int32))) fun S102 =>
    some (kI S101 1, S102)
def pX7_newAttribute_21 (N : Nat) (t0 : Int32) (t1 : Int32) (x2 : Int32) (x3 : Int32) (S : kS) : Option (Int32 × kS) :=
    svk (sI S 3 (t1 ||| t0)) fun S101 =>
    if x2 = (0 : Int32) then (
      pX7_newAttribute_39 N (0 : Int32) (kI S101 4) S101)
    else (
      pX7_newAttribute_39 N x3 (kI S101 4) S101)
def pX7_newAttribute (N : Nat) (x1 : Int32) (x2 : Int32) (S : kS) : Option (Int32 × kS) :=
    nm ((1 : Int32) <<< ((kI S 1) &&& 31)) fun y101 =>
    if x1 = (0 : Int32) then (
      pX7_newAttribute_21 N (0 : Int32) (kI S 3) x2 y101 S)
    else (
      pX7_newAttribute_21 N y101 (kI S 3) x2 y101 S)
set_option maxRecDepth 100000 in
set_option maxHeartbeats 4000000 in
theorem c_X7_newAttribute (l : Launch) (N : Nat) (x1 : Int32) (x2 : Int32) : kMet l yX7_newAttribute cX7_newAttribute 4 (some .int) 0 (fun g => [.ref (g.2.1 1), .int x1, .int x2]) rI (pX7_newAttribute N x1 x2) := by
  refine kStart RX7 (by decide +kernel) rfl (fun g => [(0, .ref (g.2.1 1)), (1, .int x1), (2, .int x2)]) (fun _ => Nat.le_of_ble_eq_true rfl) (fun _ => rfl) ?_
  intro dC dI g sz Si r Sf hpf p e s m args below meth c X hr H locs I ls hl
  have hx := X.1
  have hb := X.2.1
  unfold pX7_newAttribute at hpf
  have hC_39 : ∀ (t0 : Int32) (t1 : Int32) (S : kS) (H : Heap) (locs : List Loc), kV dC dI g (kAt g (kn Si) (km Si) (kp Si) sz) s Si S H locs → ∀ ls : Array Slot, lv_has ls 4 [(0, .ref (g.2.1 1))] → pX7_newAttribute_39 N t0 t1 S = some (r, Sf) → W p l e (mRm 0) s m args below meth c H locs 0 0 (MQ below (kQ dC dI g sz Si (rI g r) Sf) args s 0 0 (kAt g (kn Si) (km Si) (kp Si) sz)) (F0 m 39 ls [.int t0, .int t1, .ref (g.2.1 1)]) := by
    intro t0 t1 S H locs I ls hl hpf
    unfold pX7_newAttribute_39 at hpf
    refine lv_ior hx hb dX7_newAttribute_39 ?_
    refine k_put (ty := .int) X I kCl_7 tyX7_ok nmX7 (kO_H g S) 3 (by decide) (Nat.le_of_ble_eq_true rfl) (kP_H3 g S _) ⟨rfl, rfl, rfl⟩ kC_53 rfl (by decide +kernel) rfl rfl 40 dX7_newAttribute_40 hpf (fun S101 H locs I hm hpf => ?_)
    refine lv_aload_n hx hb dX7_newAttribute_43 rfl (lv_at hl 0 rfl) ?_
    refine lv_dup hx hb dX7_newAttribute_44 rfl ?_
    refine k_get (k := 0) X I kCl_7 (kO_H g S101) 0 (by decide) rfl kC_324 45 dX7_newAttribute_45 ?_
    refine lv_dup_x1 hx hb dX7_newAttribute_48 rfl rfl ?_
    refine lv_iconst (v := (1 : Int32)) hx hb dX7_newAttribute_49 (by decide) ?_
    refine lv_iadd hx hb dX7_newAttribute_50 ?_
    refine k_put (ty := .int) X I kCl_7 tyX7_ok nmX7 (kO_H g S101) 0 (by decide) (Nat.le_of_ble_eq_true rfl) (kP_H0 g S101 _) ⟨rfl, rfl, rfl⟩ kC_324 rfl (by decide +kernel) rfl rfl 51 dX7_newAttribute_51 hpf (fun S102 H locs I hm hpf => ?_)
    exact k_reti X I hr 54 dX7_newAttribute_54 hpf
  have hC_21 : ∀ (t0 : Int32) (t1 : Int32) (x2 : Int32) (x3 : Int32) (S : kS) (H : Heap) (locs : List Loc), kV dC dI g (kAt g (kn Si) (km Si) (kp Si) sz) s Si S H locs → ∀ ls : Array Slot, lv_has ls 4 [(0, .ref (g.2.1 1)), (2, .int x2), (3, .int x3)] → pX7_newAttribute_21 N t0 t1 x2 x3 S = some (r, Sf) → W p l e (mRm 0) s m args below meth c H locs 0 0 (MQ below (kQ dC dI g sz Si (rI g r) Sf) args s 0 0 (kAt g (kn Si) (km Si) (kp Si) sz)) (F0 m 21 ls [.int t0, .int t1, .ref (g.2.1 1)]) := by
    intro t0 t1 x2 x3 S H locs I ls hl hpf
    unfold pX7_newAttribute_21 at hpf
    refine lv_ior hx hb dX7_newAttribute_21 ?_
    refine k_put (ty := .int) X I kCl_7 tyX7_ok nmX7 (kO_H g S) 2 (by decide) (Nat.le_of_ble_eq_true rfl) (kP_H2 g S _) ⟨rfl, rfl, rfl⟩ kC_51 rfl (by decide +kernel) rfl rfl 22 dX7_newAttribute_22 hpf (fun S101 H locs I hm hpf => ?_)
    refine lv_aload_n hx hb dX7_newAttribute_25 rfl (lv_at hl 0 rfl) ?_
    refine lv_dup hx hb dX7_newAttribute_26 rfl ?_
    refine k_get (k := 0) X I kCl_7 (kO_H g S101) 3 (by decide) rfl kC_53 27 dX7_newAttribute_27 ?_
    refine lv_iload_n hx hb dX7_newAttribute_30 rfl (lv_at hl 1 rfl) ?_
    refine b_if_eq hx hb 38 31 dX7_newAttribute_31 (by decide) hpf (fun hpf => ?_) (fun hpf => ?_)
    · refine lv_iconst (v := (0 : Int32)) hx hb dX7_newAttribute_38 (by decide) ?_
      exact hC_39 (0 : Int32) (kI S101 4) S101 H locs I ls (lv_sub hl [0] rfl) hpf
    refine lv_iload_n hx hb dX7_newAttribute_34 rfl (lv_at hl 2 rfl) ?_
    refine lv_goto (tgt := 39) hx hb dX7_newAttribute_35 (by decide) ?_
    exact hC_39 x3 (kI S101 4) S101 H locs I ls (lv_sub hl [0] rfl) hpf
  refine lv_iconst (v := (1 : Int32)) hx hb dX7_newAttribute_0 (by decide) ?_
  refine lv_aload_n hx hb dX7_newAttribute_1 rfl (lv_at hl 0 rfl) ?_
  refine k_get (k := 0) X I kCl_7 (kO_H g Si) 0 (by decide) rfl kC_324 2 dX7_newAttribute_2 ?_
  refine lv_ishl hx hb dX7_newAttribute_5 ?_
  refine m_isto_n hx hb (fun y101 => [(3, .int y101), (0, .ref (g.2.1 1)), (1, .int x1), (2, .int x2)]) 6 dX7_newAttribute_6 rfl hl (by decide) (fun _ => rfl) hpf (fun y101 ls hl hpf => ?_)
  refine lv_aload_n hx hb dX7_newAttribute_7 rfl (lv_at hl 1 rfl) ?_
  refine lv_dup hx hb dX7_newAttribute_8 rfl ?_
  refine k_get (k := 0) X I kCl_7 (kO_H g Si) 2 (by decide) rfl kC_51 9 dX7_newAttribute_9 ?_
  refine lv_iload_n hx hb dX7_newAttribute_12 rfl (lv_at hl 2 rfl) ?_
  refine b_if_eq hx hb 20 13 dX7_newAttribute_13 (by decide) hpf (fun hpf => ?_) (fun hpf => ?_)
  · refine lv_iconst (v := (0 : Int32)) hx hb dX7_newAttribute_20 (by decide) ?_
    exact hC_21 (0 : Int32) (kI Si 3) x2 y101 Si H locs I ls (lv_sub hl [1, 3, 0] rfl) hpf
  refine lv_iload_n hx hb dX7_newAttribute_16 rfl (lv_at hl 0 rfl) ?_
  refine lv_goto (tgt := 21) hx hb dX7_newAttribute_17 (by decide) ?_
  exact hC_21 y101 (kI Si 3) x2 y101 Si H locs I ls (lv_sub hl [1, 3, 0] rfl) hpf
-- ===== X7_newClass =====
def pX7_newClass (N : Nat) (x1 : Int32) (x2 : Int32) (x3 : Int32) (S : kS) : Option (Int32 × kS) :=
    if (kI S 2) < (8 : Int32) then (
      gd (kI S 2) 8 <| svk (sA S 2 (kI S 2).toNatClampNeg x1) fun S101 =>
      bk (pX7_requiredBy N x1 S101) fun v102 S103 =>
      gd (kI S101 2) 8 <| svk (sA S103 3 (kI S101 2).toNatClampNeg (x2 ||| v102)) fun S104 =>
      bk (pX7_allowedBy N x1 S104) fun v105 S106 =>
      gd (kI S104 2) 8 <| svk (sA S106 4 (kI S104 2).toNatClampNeg ((x2 ||| x3) ||| v105)) fun S107 =>
      svk (sI S107 2 ((kI S107 2) + (1 : Int32))) fun S108 =>
      some (kI S107 2, S108))
    else (
      some ((-1 : Int32), S))
set_option maxRecDepth 100000 in
set_option maxHeartbeats 4000000 in
theorem c_X7_newClass (l : Launch) (N : Nat) (x1 : Int32) (x2 : Int32) (x3 : Int32) : kMet l yX7_newClass cX7_newClass 4 (some .int) 2 (fun g => [.ref (g.2.1 1), .int x1, .int x2, .int x3]) rI (pX7_newClass N x1 x2 x3) := by
  refine kStart RX7 (by decide +kernel) rfl (fun g => [(0, .ref (g.2.1 1)), (1, .int x1), (2, .int x2), (3, .int x3)]) (fun _ => Nat.le_of_ble_eq_true rfl) (fun _ => rfl) ?_
  intro dC dI g sz Si r Sf hpf p e s m args below meth c X hr H locs I ls hl
  have hx := X.1
  have hb := X.2.1
  unfold pX7_newClass at hpf
  refine lv_aload_n hx hb dX7_newClass_0 rfl (lv_at hl 0 rfl) ?_
  refine k_get (k := 0) X I kCl_7 (kO_H g Si) 1 (by decide) rfl kC_39 1 dX7_newClass_1 ?_
  refine lv_bipush (v := (8 : Int32)) hx hb dX7_newClass_4 (by decide) ?_
  refine b_icmp_lt hx hb 11 6 dX7_newClass_6 (by decide) hpf (fun hpf => ?_) (fun hpf => ?_)
  · refine lv_aload_n hx hb dX7_newClass_11 rfl (lv_at hl 0 rfl) ?_
    refine k_get (k := 0) X I kCl_7 (kO_H g Si) 4 (by decide) rfl kC_116 12 dX7_newClass_12 ?_
    refine lv_aload_n hx hb dX7_newClass_15 rfl (lv_at hl 0 rfl) ?_
    refine k_get (k := 0) X I kCl_7 (kO_H g Si) 1 (by decide) rfl kC_39 16 dX7_newClass_16 ?_
    refine lv_iload_n hx hb dX7_newClass_19 rfl (lv_at hl 1 rfl) ?_
    refine k_iast X I kR_2 20 dX7_newClass_20 hpf (fun S101 H locs I hm hpf => ?_)
    refine lv_aload_n hx hb dX7_newClass_21 rfl (lv_at hl 0 rfl) ?_
    refine k_get (k := 0) X I kCl_7 (kO_H g S101) 5 (by decide) rfl kC_67 22 dX7_newClass_22 ?_
    refine lv_aload_n hx hb dX7_newClass_25 rfl (lv_at hl 0 rfl) ?_
    refine k_get (k := 0) X I kCl_7 (kO_H g S101) 1 (by decide) rfl kC_39 26 dX7_newClass_26 ?_
    refine lv_iload_n hx hb dX7_newClass_29 rfl (lv_at hl 2 rfl) ?_
    refine lv_aload_n hx hb dX7_newClass_30 rfl (lv_at hl 0 rfl) ?_
    refine lv_iload_n hx hb dX7_newClass_31 rfl (lv_at hl 1 rfl) ?_
    refine k_cIi (rest := [.int x2, .int (kI S101 2), .ref (g.2.1 3)]) (As := [.int x1]) (d := 2) ⟨Nat.le_refl _, Nat.le_refl _⟩ X I fn_X7_X7_requiredBy kCl_7 rfl (kO_H g S101) (c_X7_requiredBy l N x1) rfl (by decide) 32 dX7_newClass_32 rfl hl.1 rfl (Nat.le_of_ble_eq_true rfl) ⟨Nat.le_of_ble_eq_true rfl, Nat.le_of_ble_eq_true rfl⟩ hpf (fun v102 S103 H locs I hm hpf => ?_)
    refine lv_ior hx hb dX7_newClass_35 ?_
    refine k_iast X I kR_3 36 dX7_newClass_36 hpf (fun S104 H locs I hm hpf => ?_)
    refine lv_aload_n hx hb dX7_newClass_37 rfl (lv_at hl 0 rfl) ?_
    refine k_get (k := 0) X I kCl_7 (kO_H g S104) 6 (by decide) rfl kC_41 38 dX7_newClass_38 ?_
    refine lv_aload_n hx hb dX7_newClass_41 rfl (lv_at hl 0 rfl) ?_
    refine k_get (k := 0) X I kCl_7 (kO_H g S104) 1 (by decide) rfl kC_39 42 dX7_newClass_42 ?_
    refine lv_iload_n hx hb dX7_newClass_45 rfl (lv_at hl 2 rfl) ?_
    refine lv_iload_n hx hb dX7_newClass_46 rfl (lv_at hl 3 rfl) ?_
    refine lv_ior hx hb dX7_newClass_47 ?_
    refine lv_aload_n hx hb dX7_newClass_48 rfl (lv_at hl 0 rfl) ?_
    refine lv_iload_n hx hb dX7_newClass_49 rfl (lv_at hl 1 rfl) ?_
    refine k_cIi (rest := [.int (x2 ||| x3), .int (kI S104 2), .ref (g.2.1 4)]) (As := [.int x1]) (d := 2) ⟨Nat.le_refl _, Nat.le_refl _⟩ X I fn_X7_X7_allowedBy kCl_7 rfl (kO_H g S104) (c_X7_allowedBy l N x1) rfl (by decide) 50 dX7_newClass_50 rfl hl.1 rfl (Nat.le_of_ble_eq_true rfl) ⟨Nat.le_of_ble_eq_true rfl, Nat.le_of_ble_eq_true rfl⟩ hpf (fun v105 S106 H locs I hm hpf => ?_)
    refine lv_ior hx hb dX7_newClass_53 ?_
    refine k_iast X I kR_4 54 dX7_newClass_54 hpf (fun S107 H locs I hm hpf => ?_)
    refine lv_aload_n hx hb dX7_newClass_55 rfl (lv_at hl 0 rfl) ?_
    refine lv_dup hx hb dX7_newClass_56 rfl ?_
    refine k_get (k := 0) X I kCl_7 (kO_H g S107) 1 (by decide) rfl kC_39 57 dX7_newClass_57 ?_
    refine lv_dup_x1 hx hb dX7_newClass_60 rfl rfl ?_
    refine lv_iconst (v := (1 : Int32)) hx hb dX7_newClass_61 (by decide) ?_
    refine lv_iadd hx hb dX7_newClass_62 ?_
    refine k_put (ty := .int) X I kCl_7 tyX7_ok nmX7 (kO_H g S107) 1 (by decide) (Nat.le_of_ble_eq_true rfl) (kP_H1 g S107 _) ⟨rfl, rfl, rfl⟩ kC_39 rfl (by decide +kernel) rfl rfl 63 dX7_newClass_63 hpf (fun S108 H locs I hm hpf => ?_)
    exact k_reti X I hr 66 dX7_newClass_66 hpf
  refine lv_iconst (v := (-1 : Int32)) hx hb dX7_newClass_9 (by decide) ?_
  exact k_reti X I hr 10 dX7_newClass_10 hpf
-- ===== X1_put =====
def pX1_put_32 (N : Nat) (S : kS) : Option (Int32 × kS) :=
    some (kI S 5, S)
def pX1_put (N : Nat) (x1 : Int32) (S : kS) : Option (Int32 × kS) :=
    if (12 : Int32) ≤ (kI S 5) then (
      pX1_put_32 N S)
    else (
      gd (kI S 5) 12 <| svk (sA S 6 (kI S 5).toNatClampNeg x1) fun S101 =>
      svk (sI S101 5 ((kI S101 5) + (1 : Int32))) fun S102 =>
      pX1_put_32 N S102)
set_option maxRecDepth 100000 in
set_option maxHeartbeats 4000000 in
theorem c_X1_put (l : Launch) (N : Nat) (x1 : Int32) : kMet l yX1_put cX1_put 2 (some .int) 0 (fun g => [.ref (g.2.1 5), .int x1]) rI (pX1_put N x1) := by
  refine kStart RX1 (by decide +kernel) rfl (fun g => [(0, .ref (g.2.1 5)), (1, .int x1)]) (fun _ => Nat.le_of_ble_eq_true rfl) (fun _ => rfl) ?_
  intro dC dI g sz Si r Sf hpf p e s m args below meth c X hr H locs I ls hl
  have hx := X.1
  have hb := X.2.1
  unfold pX1_put at hpf
  have hC_32 : ∀ (S : kS) (H : Heap) (locs : List Loc), kV dC dI g (kAt g (kn Si) (km Si) (kp Si) sz) s Si S H locs → ∀ ls : Array Slot, lv_has ls 2 [(0, .ref (g.2.1 5))] → pX1_put_32 N S = some (r, Sf) → W p l e (mRm 0) s m args below meth c H locs 0 0 (MQ below (kQ dC dI g sz Si (rI g r) Sf) args s 0 0 (kAt g (kn Si) (km Si) (kp Si) sz)) (F0 m 32 ls []) := by
    intro S H locs I ls hl hpf
    unfold pX1_put_32 at hpf
    refine lv_aload_n hx hb dX1_put_32 rfl (lv_at hl 0 rfl) ?_
    refine k_get (k := 0) X I kCl_1 (kO_G g S) 2 (by decide) rfl kC_18 33 dX1_put_33 ?_
    exact k_reti X I hr 36 dX1_put_36 hpf
  refine lv_aload_n hx hb dX1_put_0 rfl (lv_at hl 0 rfl) ?_
  refine k_get (k := 0) X I kCl_1 (kO_G g Si) 2 (by decide) rfl kC_18 1 dX1_put_1 ?_
  refine lv_aload_n hx hb dX1_put_4 rfl (lv_at hl 0 rfl) ?_
  refine k_get (k := 0) X I kCl_1 (kO_G g Si) 1 (by decide) rfl kC_15 5 dX1_put_5 ?_
  refine k_lenI X I kR_6 8 dX1_put_8 (12 : Int32) (by decide) ?_
  refine b_icmp_ge hx hb 32 9 dX1_put_9 (by decide) hpf (fun hpf => ?_) (fun hpf => ?_)
  · exact hC_32 Si H locs I ls (lv_sub hl [0] rfl) hpf
  refine lv_aload_n hx hb dX1_put_12 rfl (lv_at hl 0 rfl) ?_
  refine k_get (k := 0) X I kCl_1 (kO_G g Si) 1 (by decide) rfl kC_15 13 dX1_put_13 ?_
  refine lv_aload_n hx hb dX1_put_16 rfl (lv_at hl 0 rfl) ?_
  refine k_get (k := 0) X I kCl_1 (kO_G g Si) 2 (by decide) rfl kC_18 17 dX1_put_17 ?_
  refine lv_iload_n hx hb dX1_put_20 rfl (lv_at hl 1 rfl) ?_
  refine k_iast X I kR_6 21 dX1_put_21 hpf (fun S101 H locs I hm hpf => ?_)
  refine lv_aload_n hx hb dX1_put_22 rfl (lv_at hl 0 rfl) ?_
  refine lv_dup hx hb dX1_put_23 rfl ?_
  refine k_get (k := 0) X I kCl_1 (kO_G g S101) 2 (by decide) rfl kC_18 24 dX1_put_24 ?_
  refine lv_iconst (v := (1 : Int32)) hx hb dX1_put_27 (by decide) ?_
  refine lv_iadd hx hb dX1_put_28 ?_
  refine k_put (ty := .int) X I kCl_1 tyX1_ok nmX1 (kO_G g S101) 2 (by decide) (Nat.le_of_ble_eq_true rfl) (kP_G2 g S101 _) ⟨rfl, rfl, rfl⟩ kC_18 rfl (by decide +kernel) rfl rfl 29 dX1_put_29 hpf (fun S102 H locs I hm hpf => ?_)
  exact hC_32 S102 H locs I ls (lv_sub hl [0] rfl) hpf
-- ===== X1_isMatchedBefore =====
def pX1_isMatchedBefore_96 (N : Nat) (k_65 : Int32 → Int32 → Int32 → Int32 → kS → Option (Int32 × kS)) (x1 : Int32) (x3 : Int32) (x4 : Int32) (x5 : Int32) (S : kS) : Option (Int32 × kS) :=
    nm (x5 + (1 : Int32)) fun y101 =>
    k_65 x1 x3 x4 y101 S
def pX1_isMatchedBefore_65 (N : Nat) : Nat → Int32 → Int32 → Int32 → Int32 → kS → Option (Int32 × kS)
  | 0 => fun _ _ _ _ _ => none
  | n_65 + 1 => fun x1 x3 x4 x5 S =>
    if x1 ≤ x5 then (
      some ((0 : Int32), S))
    else (
      gd x5 12 <|
      if (kA S 6 x5.toNatClampNeg) < x3 then (
        pX1_isMatchedBefore_96 N (pX1_isMatchedBefore_65 N n_65) x1 x3 x4 x5 S)
      else (
        gd x5 12 <|
        if x4 < (kA S 6 x5.toNatClampNeg) then (
          pX1_isMatchedBefore_96 N (pX1_isMatchedBefore_65 N n_65) x1 x3 x4 x5 S)
        else (
          some ((1 : Int32), S))))
def pX1_isMatchedBefore (N : Nat) (x1 : Int32) (S : kS) : Option (Int32 × kS) :=
    gd x1 12 <|
    nm ((kA S 6 x1.toNatClampNeg) / (1000 : Int32)) fun y101 =>
    gd x1 12 <|
    bk (pX7_lowest N y101 ((kA S 6 x1.toNatClampNeg) - (kA S 6 x1.toNatClampNeg) / (1000 : Int32) * (1000 : Int32)) S) fun v102 S103 =>
    nm ((y101 * (1000 : Int32)) + v102) fun y104 =>
    gd x1 12 <|
    bk (pX7_highest N y101 ((kA S103 6 x1.toNatClampNeg) - (kA S103 6 x1.toNatClampNeg) / (1000 : Int32) * (1000 : Int32)) S103) fun v105 S106 =>
    nm ((y101 * (1000 : Int32)) + v105) fun y107 =>
    pX1_isMatchedBefore_65 N N x1 y104 y107 (0 : Int32) S106
set_option maxRecDepth 100000 in
set_option maxHeartbeats 4000000 in
theorem c_X1_isMatchedBefore (l : Launch) (N : Nat) (x1 : Int32) : kMet l yX1_isMatchedBefore cX1_isMatchedBefore 6 (some .boolean) 2 (fun g => [.ref (g.2.1 5), .int x1]) rI (pX1_isMatchedBefore N x1) := by
  refine kStart RX1 (by decide +kernel) rfl (fun g => [(0, .ref (g.2.1 5)), (1, .int x1)]) (fun _ => Nat.le_of_ble_eq_true rfl) (fun _ => rfl) ?_
  intro dC dI g sz Si r Sf hpf p e s m args below meth c X hr H locs I ls hl
  have hx := X.1
  have hb := X.2.1
  unfold pX1_isMatchedBefore at hpf
  have hC_65 : ∀ (n_65 : Nat), ∀ (x1 : Int32) (x3 : Int32) (x4 : Int32) (x5 : Int32) (S : kS) (H : Heap) (locs : List Loc), kV dC dI g (kAt g (kn Si) (km Si) (kp Si) sz) s Si S H locs → ∀ ls : Array Slot, lv_has ls 6 [(0, .ref (g.2.1 5)), (1, .int x1), (3, .int x3), (4, .int x4), (5, .int x5)] → pX1_isMatchedBefore_65 N n_65 x1 x3 x4 x5 S = some (r, Sf) → W p l e (mRm 2) s m args below meth c H locs 0 0 (MQ below (kQ dC dI g sz Si (rI g r) Sf) args s 0 0 (kAt g (kn Si) (km Si) (kp Si) sz)) (F0 m 65 ls []) := by
    intro n_65
    induction n_65 with
    | zero =>
      intro x1 x3 x4 x5 S H locs I ls hl hpf
      rw [pX1_isMatchedBefore_65] at hpf
      cases hpf
    | succ n_65 ih_65 =>
      have hC_96 : ∀ (x1 : Int32) (x3 : Int32) (x4 : Int32) (x5 : Int32) (S : kS) (H : Heap) (locs : List Loc), kV dC dI g (kAt g (kn Si) (km Si) (kp Si) sz) s Si S H locs → ∀ ls : Array Slot, lv_has ls 6 [(0, .ref (g.2.1 5)), (1, .int x1), (3, .int x3), (4, .int x4), (5, .int x5)] → pX1_isMatchedBefore_96 N (pX1_isMatchedBefore_65 N n_65) x1 x3 x4 x5 S = some (r, Sf) → W p l e (mRm 2) s m args below meth c H locs 0 0 (MQ below (kQ dC dI g sz Si (rI g r) Sf) args s 0 0 (kAt g (kn Si) (km Si) (kp Si) sz)) (F0 m 96 ls []) := by
        intro x1 x3 x4 x5 S H locs I ls hl hpf
        unfold pX1_isMatchedBefore_96 at hpf
        refine m_iinc (w := (1 : Int32)) hx hb (fun y101 => [(5, .int y101), (0, .ref (g.2.1 5)), (1, .int x1), (3, .int x3), (4, .int x4)]) 96 dX1_isMatchedBefore_96 hl (k := 4) rfl (by decide) (by decide) (fun _ => rfl) hpf (fun y101 ls hl hpf => ?_)
        refine lv_goto (tgt := 65) hx hb dX1_isMatchedBefore_99 (by decide) ?_
        exact ih_65 x1 x3 x4 y101 S H locs I ls (lv_sub hl [1, 2, 3, 4, 0] rfl) hpf
      intro x1 x3 x4 x5 S H locs I ls hl hpf
      rw [pX1_isMatchedBefore_65] at hpf
      refine lv_iload hx hb dX1_isMatchedBefore_65 (lv_at hl 4 rfl) ?_
      refine lv_iload_n hx hb dX1_isMatchedBefore_67 rfl (lv_at hl 1 rfl) ?_
      refine b_icmp_ge hx hb 102 68 dX1_isMatchedBefore_68 (by decide) hpf (fun hpf => ?_) (fun hpf => ?_)
      · refine lv_iconst (v := (0 : Int32)) hx hb dX1_isMatchedBefore_102 (by decide) ?_
        exact k_retzc X I hr 103 dX1_isMatchedBefore_103 (by decide) hpf
      refine lv_aload_n hx hb dX1_isMatchedBefore_71 rfl (lv_at hl 0 rfl) ?_
      refine k_get (k := 0) X I kCl_1 (kO_G g S) 1 (by decide) rfl kC_15 72 dX1_isMatchedBefore_72 ?_
      refine lv_iload hx hb dX1_isMatchedBefore_75 (lv_at hl 4 rfl) ?_
      refine k_iald X I kR_6 77 dX1_isMatchedBefore_77 hpf (fun hpf => ?_)
      refine lv_iload_n hx hb dX1_isMatchedBefore_78 rfl (lv_at hl 2 rfl) ?_
      refine b_icmp_lt hx hb 96 79 dX1_isMatchedBefore_79 (by decide) hpf (fun hpf => ?_) (fun hpf => ?_)
      · exact hC_96 x1 x3 x4 x5 S H locs I ls (lv_sub hl [0, 1, 2, 3, 4] rfl) hpf
      refine lv_aload_n hx hb dX1_isMatchedBefore_82 rfl (lv_at hl 0 rfl) ?_
      refine k_get (k := 0) X I kCl_1 (kO_G g S) 1 (by decide) rfl kC_15 83 dX1_isMatchedBefore_83 ?_
      refine lv_iload hx hb dX1_isMatchedBefore_86 (lv_at hl 4 rfl) ?_
      refine k_iald X I kR_6 88 dX1_isMatchedBefore_88 hpf (fun hpf => ?_)
      refine lv_iload hx hb dX1_isMatchedBefore_89 (lv_at hl 3 rfl) ?_
      refine b_icmp_gt hx hb 96 91 dX1_isMatchedBefore_91 (by decide) hpf (fun hpf => ?_) (fun hpf => ?_)
      · exact hC_96 x1 x3 x4 x5 S H locs I ls (lv_sub hl [0, 1, 2, 3, 4] rfl) hpf
      refine lv_iconst (v := (1 : Int32)) hx hb dX1_isMatchedBefore_94 (by decide) ?_
      exact k_retzc X I hr 95 dX1_isMatchedBefore_95 (by decide) hpf
  refine lv_aload_n hx hb dX1_isMatchedBefore_0 rfl (lv_at hl 0 rfl) ?_
  refine k_get (k := 0) X I kCl_1 (kO_G g Si) 1 (by decide) rfl kC_15 1 dX1_isMatchedBefore_1 ?_
  refine lv_iload_n hx hb dX1_isMatchedBefore_4 rfl (lv_at hl 1 rfl) ?_
  refine k_iald X I kR_6 5 dX1_isMatchedBefore_5 hpf (fun hpf => ?_)
  refine lv_sipush (v := (1000 : Int32)) hx hb dX1_isMatchedBefore_6 (by decide) ?_
  refine lv_idiv hx hb dX1_isMatchedBefore_9 (by decide) ?_
  refine m_isto_n hx hb (fun y101 => [(2, .int y101), (0, .ref (g.2.1 5)), (1, .int x1)]) 10 dX1_isMatchedBefore_10 rfl hl (by decide) (fun _ => rfl) hpf (fun y101 ls hl hpf => ?_)
  refine lv_iload_n hx hb dX1_isMatchedBefore_11 rfl (lv_at hl 0 rfl) ?_
  refine lv_sipush (v := (1000 : Int32)) hx hb dX1_isMatchedBefore_12 (by decide) ?_
  refine lv_imul hx hb dX1_isMatchedBefore_15 ?_
  refine lv_aload_n hx hb dX1_isMatchedBefore_16 rfl (lv_at hl 1 rfl) ?_
  refine k_get (k := 0) X I kCl_1 (kO_G g Si) 0 (by decide) rfl kC_16 17 dX1_isMatchedBefore_17 ?_
  refine lv_iload_n hx hb dX1_isMatchedBefore_20 rfl (lv_at hl 0 rfl) ?_
  refine lv_aload_n hx hb dX1_isMatchedBefore_21 rfl (lv_at hl 1 rfl) ?_
  refine k_get (k := 0) X I kCl_1 (kO_G g Si) 1 (by decide) rfl kC_15 22 dX1_isMatchedBefore_22 ?_
  refine lv_iload_n hx hb dX1_isMatchedBefore_25 rfl (lv_at hl 2 rfl) ?_
  refine k_iald X I kR_6 26 dX1_isMatchedBefore_26 hpf (fun hpf => ?_)
  refine lv_sipush (v := (1000 : Int32)) hx hb dX1_isMatchedBefore_27 (by decide) ?_
  refine lv_irem hx hb dX1_isMatchedBefore_30 (by decide) ?_
  refine k_cIi (rest := [.int (y101 * (1000 : Int32))]) (As := [.int y101, .int ((kA Si 6 x1.toNatClampNeg) - (kA Si 6 x1.toNatClampNeg) / (1000 : Int32) * (1000 : Int32))]) (d := 2) ⟨Nat.le_refl _, Nat.le_refl _⟩ X I fn_X1_X7_lowest kCl_7 rfl (kO_H g Si) (c_X7_lowest l N y101 ((kA Si 6 x1.toNatClampNeg) - (kA Si 6 x1.toNatClampNeg) / (1000 : Int32) * (1000 : Int32))) rfl (by decide) 31 dX1_isMatchedBefore_31 rfl hl.1 rfl (Nat.le_of_ble_eq_true rfl) ⟨Nat.le_of_ble_eq_true rfl, Nat.le_of_ble_eq_true rfl⟩ hpf (fun v102 S103 H locs I hm hpf => ?_)
  refine lv_iadd hx hb dX1_isMatchedBefore_34 ?_
  refine m_isto_n hx hb (fun y104 => [(3, .int y104), (2, .int y101), (0, .ref (g.2.1 5)), (1, .int x1)]) 35 dX1_isMatchedBefore_35 rfl hl (by decide) (fun _ => rfl) hpf (fun y104 ls hl hpf => ?_)
  refine lv_iload_n hx hb dX1_isMatchedBefore_36 rfl (lv_at hl 1 rfl) ?_
  refine lv_sipush (v := (1000 : Int32)) hx hb dX1_isMatchedBefore_37 (by decide) ?_
  refine lv_imul hx hb dX1_isMatchedBefore_40 ?_
  refine lv_aload_n hx hb dX1_isMatchedBefore_41 rfl (lv_at hl 2 rfl) ?_
  refine k_get (k := 0) X I kCl_1 (kO_G g S103) 0 (by decide) rfl kC_16 42 dX1_isMatchedBefore_42 ?_
  refine lv_iload_n hx hb dX1_isMatchedBefore_45 rfl (lv_at hl 1 rfl) ?_
  refine lv_aload_n hx hb dX1_isMatchedBefore_46 rfl (lv_at hl 2 rfl) ?_
  refine k_get (k := 0) X I kCl_1 (kO_G g S103) 1 (by decide) rfl kC_15 47 dX1_isMatchedBefore_47 ?_
  refine lv_iload_n hx hb dX1_isMatchedBefore_50 rfl (lv_at hl 3 rfl) ?_
  refine k_iald X I kR_6 51 dX1_isMatchedBefore_51 hpf (fun hpf => ?_)
  refine lv_sipush (v := (1000 : Int32)) hx hb dX1_isMatchedBefore_52 (by decide) ?_
  refine lv_irem hx hb dX1_isMatchedBefore_55 (by decide) ?_
  refine k_cIi (rest := [.int (y101 * (1000 : Int32))]) (As := [.int y101, .int ((kA S103 6 x1.toNatClampNeg) - (kA S103 6 x1.toNatClampNeg) / (1000 : Int32) * (1000 : Int32))]) (d := 2) ⟨Nat.le_refl _, Nat.le_refl _⟩ X I fn_X1_X7_highest kCl_7 rfl (kO_H g S103) (c_X7_highest l N y101 ((kA S103 6 x1.toNatClampNeg) - (kA S103 6 x1.toNatClampNeg) / (1000 : Int32) * (1000 : Int32))) rfl (by decide) 56 dX1_isMatchedBefore_56 rfl hl.1 rfl (Nat.le_of_ble_eq_true rfl) ⟨Nat.le_of_ble_eq_true rfl, Nat.le_of_ble_eq_true rfl⟩ hpf (fun v105 S106 H locs I hm hpf => ?_)
  refine lv_iadd hx hb dX1_isMatchedBefore_59 ?_
  refine m_isto hx hb (fun y107 => [(4, .int y107), (3, .int y104), (2, .int y101), (0, .ref (g.2.1 5)), (1, .int x1)]) 60 dX1_isMatchedBefore_60 hl (by decide) (fun _ => rfl) hpf (fun y107 ls hl hpf => ?_)
  refine lv_iconst (v := (0 : Int32)) hx hb dX1_isMatchedBefore_62 (by decide) ?_
  refine lv_istore (lv' := [(5, .int (0 : Int32)), (4, .int y107), (3, .int y104), (2, .int y101), (0, .ref (g.2.1 5)), (1, .int x1)]) hx hb dX1_isMatchedBefore_63 hl (by decide) rfl (fun ls hl => ?_)
  exact hC_65 N x1 y104 y107 (0 : Int32) S106 H locs I ls (lv_sub hl [4, 5, 2, 1, 0] rfl) hpf
-- ===== X1_fits =====
def pX1_fits_96 (N : Nat) (x1 : Int32) (x2 : Int32) (S : kS) : Option (Int32 × kS) :=
    bk (pX7_requiredBy N x1 S) fun v101 S102 =>
    if (v101 &&& (x2 ^^^ (-1 : Int32))) = (0 : Int32) then (
      some ((1 : Int32), S102))
    else (
      some ((0 : Int32), S102))
def pX1_fits_73 (N : Nat) (k_4 : Int32 → Int32 → Int32 → kS → Option (Int32 × kS)) (x1 : Int32) (x2 : Int32) (x3 : Int32) (x4 : Int32) (S : kS) : Option (Int32 × kS) :=
    bk (pX1_isMatchedBefore N x3 S) fun v101 S102 =>
    if v101 = (0 : Int32) then (
      nm (x2 ||| ((1 : Int32) <<< (x4 &&& 31))) fun y103 =>
      nm (x3 + (1 : Int32)) fun y104 =>
      k_4 x1 y103 y104 S102)
    else (
      some ((0 : Int32), S102))
def pX1_fits_39 (N : Nat) (k_4 : Int32 → Int32 → Int32 → kS → Option (Int32 × kS)) (t0 : Int32) (x1 : Int32) (x2 : Int32) (x3 : Int32) (x4 : Int32) (S : kS) : Option (Int32 × kS) :=
    bk (pX7_isAllowed N x1 x4 S) fun v101 S102 =>
    if v101 = (0 : Int32) then (
      some ((0 : Int32), S102))
    else (
      if t0 = (0 : Int32) then (
        pX1_fits_73 N k_4 x1 x2 x3 x4 S102)
      else (
        bk (pX7_isSingle N x4 S102) fun v103 S104 =>
        if v103 = (0 : Int32) then (
          pX1_fits_73 N k_4 x1 x2 x3 x4 S104)
        else (
          some ((0 : Int32), S104))))
def pX1_fits_4 (N : Nat) (k_96 : Int32 → Int32 → kS → Option (Int32 × kS)) : Nat → Int32 → Int32 → Int32 → kS → Option (Int32 × kS)
  | 0 => fun _ _ _ _ => none
  | n_4 + 1 => fun x1 x2 x3 S =>
    if (kI S 5) ≤ x3 then (
      k_96 x1 x2 S)
    else (
      gd x3 12 <|
      nm ((kA S 6 x3.toNatClampNeg) / (1000 : Int32)) fun y101 =>
      if ((x2 >>> (y101 &&& 31)) &&& (1 : Int32)) = (1 : Int32) then (
        pX1_fits_39 N (pX1_fits_4 N k_96 n_4) (1 : Int32) x1 x2 x3 y101 S)
      else (
        pX1_fits_39 N (pX1_fits_4 N k_96 n_4) (0 : Int32) x1 x2 x3 y101 S))
def pX1_fits (N : Nat) (x1 : Int32) (S : kS) : Option (Int32 × kS) :=
    pX1_fits_4 N (pX1_fits_96 N) N x1 (0 : Int32) (0 : Int32) S
set_option maxRecDepth 100000 in
set_option maxHeartbeats 4000000 in
theorem c_X1_fits (l : Launch) (N : Nat) (x1 : Int32) : kMet l yX1_fits cX1_fits 6 (some .boolean) 3 (fun g => [.ref (g.2.1 5), .int x1]) rI (pX1_fits N x1) := by
  refine kStart RX1 (by decide +kernel) rfl (fun g => [(0, .ref (g.2.1 5)), (1, .int x1)]) (fun _ => Nat.le_of_ble_eq_true rfl) (fun _ => rfl) ?_
  intro dC dI g sz Si r Sf hpf p e s m args below meth c X hr H locs I ls hl
  have hx := X.1
  have hb := X.2.1
  unfold pX1_fits at hpf
  have hC_96 : ∀ (x1 : Int32) (x2 : Int32) (S : kS) (H : Heap) (locs : List Loc), kV dC dI g (kAt g (kn Si) (km Si) (kp Si) sz) s Si S H locs → ∀ ls : Array Slot, lv_has ls 6 [(0, .ref (g.2.1 5)), (1, .int x1), (2, .int x2)] → pX1_fits_96 N x1 x2 S = some (r, Sf) → W p l e (mRm 3) s m args below meth c H locs 0 0 (MQ below (kQ dC dI g sz Si (rI g r) Sf) args s 0 0 (kAt g (kn Si) (km Si) (kp Si) sz)) (F0 m 96 ls []) := by
    intro x1 x2 S H locs I ls hl hpf
    unfold pX1_fits_96 at hpf
    refine lv_aload_n hx hb dX1_fits_96 rfl (lv_at hl 0 rfl) ?_
    refine k_get (k := 0) X I kCl_1 (kO_G g S) 0 (by decide) rfl kC_16 97 dX1_fits_97 ?_
    refine lv_iload_n hx hb dX1_fits_100 rfl (lv_at hl 1 rfl) ?_
    refine k_cIi (rest := []) (As := [.int x1]) (d := 3) ⟨Nat.le_refl _, Nat.le_refl _⟩ X I fn_X1_X7_requiredBy kCl_7 rfl (kO_H g S) (c_X7_requiredBy l N x1) rfl (by decide) 101 dX1_fits_101 rfl hl.1 rfl (Nat.le_of_ble_eq_true rfl) ⟨Nat.le_of_ble_eq_true rfl, Nat.le_of_ble_eq_true rfl⟩ hpf (fun v101 S102 H locs I hm hpf => ?_)
    refine lv_iload_n hx hb dX1_fits_104 rfl (lv_at hl 2 rfl) ?_
    refine lv_iconst (v := (-1 : Int32)) hx hb dX1_fits_105 (by decide) ?_
    refine lv_ixor hx hb dX1_fits_106 ?_
    refine lv_iand hx hb dX1_fits_107 ?_
    refine b_if_ne hx hb 115 108 dX1_fits_108 (by decide) hpf (fun hpf => ?_) (fun hpf => ?_)
    · refine lv_iconst (v := (0 : Int32)) hx hb dX1_fits_115 (by decide) ?_
      exact k_retzc X I hr 116 dX1_fits_116 (by decide) hpf
    refine lv_iconst (v := (1 : Int32)) hx hb dX1_fits_111 (by decide) ?_
    refine lv_goto (tgt := 116) hx hb dX1_fits_112 (by decide) ?_
    exact k_retzc X I hr 116 dX1_fits_116 (by decide) hpf
  have hC_4 : ∀ (n_4 : Nat), ∀ (x1 : Int32) (x2 : Int32) (x3 : Int32) (S : kS) (H : Heap) (locs : List Loc), kV dC dI g (kAt g (kn Si) (km Si) (kp Si) sz) s Si S H locs → ∀ ls : Array Slot, lv_has ls 6 [(0, .ref (g.2.1 5)), (1, .int x1), (2, .int x2), (3, .int x3)] → pX1_fits_4 N (pX1_fits_96 N) n_4 x1 x2 x3 S = some (r, Sf) → W p l e (mRm 3) s m args below meth c H locs 0 0 (MQ below (kQ dC dI g sz Si (rI g r) Sf) args s 0 0 (kAt g (kn Si) (km Si) (kp Si) sz)) (F0 m 4 ls []) := by
    intro n_4
    induction n_4 with
    | zero =>
      intro x1 x2 x3 S H locs I ls hl hpf
      rw [pX1_fits_4] at hpf
      cases hpf
    | succ n_4 ih_4 =>
      have hC_73 : ∀ (x1 : Int32) (x2 : Int32) (x3 : Int32) (x4 : Int32) (S : kS) (H : Heap) (locs : List Loc), kV dC dI g (kAt g (kn Si) (km Si) (kp Si) sz) s Si S H locs → ∀ ls : Array Slot, lv_has ls 6 [(0, .ref (g.2.1 5)), (1, .int x1), (2, .int x2), (3, .int x3), (4, .int x4)] → pX1_fits_73 N (pX1_fits_4 N (pX1_fits_96 N) n_4) x1 x2 x3 x4 S = some (r, Sf) → W p l e (mRm 3) s m args below meth c H locs 0 0 (MQ below (kQ dC dI g sz Si (rI g r) Sf) args s 0 0 (kAt g (kn Si) (km Si) (kp Si) sz)) (F0 m 73 ls []) := by
        intro x1 x2 x3 x4 S H locs I ls hl hpf
        unfold pX1_fits_73 at hpf
        refine lv_aload_n hx hb dX1_fits_73 rfl (lv_at hl 0 rfl) ?_
        refine lv_iload_n hx hb dX1_fits_74 rfl (lv_at hl 3 rfl) ?_
        refine k_cIi (rest := []) (As := [.int x3]) (d := 3) ⟨Nat.le_refl _, Nat.le_refl _⟩ X I fn_X1_X1_isMatchedBefore kCl_1 rfl (kO_G g S) (c_X1_isMatchedBefore l N x3) rfl (by decide) 75 dX1_fits_75 rfl hl.1 rfl (Nat.le_of_ble_eq_true rfl) ⟨Nat.le_of_ble_eq_true rfl, Nat.le_of_ble_eq_true rfl⟩ hpf (fun v101 S102 H locs I hm hpf => ?_)
        refine b_if_eq hx hb 83 78 dX1_fits_78 (by decide) hpf (fun hpf => ?_) (fun hpf => ?_)
        · refine lv_iload_n hx hb dX1_fits_83 rfl (lv_at hl 2 rfl) ?_
          refine lv_iconst (v := (1 : Int32)) hx hb dX1_fits_84 (by decide) ?_
          refine lv_iload hx hb dX1_fits_85 (lv_at hl 4 rfl) ?_
          refine lv_ishl hx hb dX1_fits_87 ?_
          refine lv_ior hx hb dX1_fits_88 ?_
          refine m_isto_n hx hb (fun y103 => [(2, .int y103), (0, .ref (g.2.1 5)), (1, .int x1), (3, .int x3), (4, .int x4)]) 89 dX1_fits_89 rfl hl (by decide) (fun _ => rfl) hpf (fun y103 ls hl hpf => ?_)
          refine m_iinc (w := (1 : Int32)) hx hb (fun y104 => [(3, .int y104), (2, .int y103), (0, .ref (g.2.1 5)), (1, .int x1), (4, .int x4)]) 90 dX1_fits_90 hl (k := 3) rfl (by decide) (by decide) (fun _ => rfl) hpf (fun y104 ls hl hpf => ?_)
          refine lv_goto (tgt := 4) hx hb dX1_fits_93 (by decide) ?_
          exact ih_4 x1 y103 y104 S102 H locs I ls (lv_sub hl [2, 3, 1, 0] rfl) hpf
        refine lv_iconst (v := (0 : Int32)) hx hb dX1_fits_81 (by decide) ?_
        exact k_retzc X I hr 82 dX1_fits_82 (by decide) hpf
      have hC_39 : ∀ (t0 : Int32) (x1 : Int32) (x2 : Int32) (x3 : Int32) (x4 : Int32) (S : kS) (H : Heap) (locs : List Loc), kV dC dI g (kAt g (kn Si) (km Si) (kp Si) sz) s Si S H locs → ∀ ls : Array Slot, lv_has ls 6 [(0, .ref (g.2.1 5)), (1, .int x1), (2, .int x2), (3, .int x3), (4, .int x4)] → pX1_fits_39 N (pX1_fits_4 N (pX1_fits_96 N) n_4) t0 x1 x2 x3 x4 S = some (r, Sf) → W p l e (mRm 3) s m args below meth c H locs 0 0 (MQ below (kQ dC dI g sz Si (rI g r) Sf) args s 0 0 (kAt g (kn Si) (km Si) (kp Si) sz)) (F0 m 39 ls [.int t0]) := by
        intro t0 x1 x2 x3 x4 S H locs I ls hl hpf
        unfold pX1_fits_39 at hpf
        refine lv_istore (lv' := [(5, .int t0), (0, .ref (g.2.1 5)), (1, .int x1), (2, .int x2), (3, .int x3), (4, .int x4)]) hx hb dX1_fits_39 hl (by decide) rfl (fun ls hl => ?_)
        refine lv_aload_n hx hb dX1_fits_41 rfl (lv_at hl 1 rfl) ?_
        refine k_get (k := 0) X I kCl_1 (kO_G g S) 0 (by decide) rfl kC_16 42 dX1_fits_42 ?_
        refine lv_iload_n hx hb dX1_fits_45 rfl (lv_at hl 2 rfl) ?_
        refine lv_iload hx hb dX1_fits_46 (lv_at hl 5 rfl) ?_
        refine k_cIi (rest := []) (As := [.int x1, .int x4]) (d := 3) ⟨Nat.le_refl _, Nat.le_refl _⟩ X I fn_X1_X7_isAllowed kCl_7 rfl (kO_H g S) (c_X7_isAllowed l N x1 x4) rfl (by decide) 48 dX1_fits_48 rfl hl.1 rfl (Nat.le_of_ble_eq_true rfl) ⟨Nat.le_of_ble_eq_true rfl, Nat.le_of_ble_eq_true rfl⟩ hpf (fun v101 S102 H locs I hm hpf => ?_)
        refine b_if_eq hx hb 71 51 dX1_fits_51 (by decide) hpf (fun hpf => ?_) (fun hpf => ?_)
        · refine lv_iconst (v := (0 : Int32)) hx hb dX1_fits_71 (by decide) ?_
          exact k_retzc X I hr 72 dX1_fits_72 (by decide) hpf
        refine lv_iload hx hb dX1_fits_54 (lv_at hl 0 rfl) ?_
        refine b_if_eq hx hb 73 56 dX1_fits_56 (by decide) hpf (fun hpf => ?_) (fun hpf => ?_)
        · exact hC_73 x1 x2 x3 x4 S102 H locs I ls (lv_sub hl [1, 2, 3, 4, 5] rfl) hpf
        refine lv_aload_n hx hb dX1_fits_59 rfl (lv_at hl 1 rfl) ?_
        refine k_get (k := 0) X I kCl_1 (kO_G g S102) 0 (by decide) rfl kC_16 60 dX1_fits_60 ?_
        refine lv_iload hx hb dX1_fits_63 (lv_at hl 5 rfl) ?_
        refine k_cIi (rest := []) (As := [.int x4]) (d := 3) ⟨Nat.le_refl _, Nat.le_refl _⟩ X I fn_X1_X7_isSingle kCl_7 rfl (kO_H g S102) (c_X7_isSingle l N x4) rfl (by decide) 65 dX1_fits_65 rfl hl.1 rfl (Nat.le_of_ble_eq_true rfl) ⟨Nat.le_of_ble_eq_true rfl, Nat.le_of_ble_eq_true rfl⟩ hpf (fun v103 S104 H locs I hm hpf => ?_)
        refine b_if_eq hx hb 73 68 dX1_fits_68 (by decide) hpf (fun hpf => ?_) (fun hpf => ?_)
        · exact hC_73 x1 x2 x3 x4 S104 H locs I ls (lv_sub hl [1, 2, 3, 4, 5] rfl) hpf
        refine lv_iconst (v := (0 : Int32)) hx hb dX1_fits_71 (by decide) ?_
        exact k_retzc X I hr 72 dX1_fits_72 (by decide) hpf
      intro x1 x2 x3 S H locs I ls hl hpf
      rw [pX1_fits_4] at hpf
      refine lv_iload_n hx hb dX1_fits_4 rfl (lv_at hl 3 rfl) ?_
      refine lv_aload_n hx hb dX1_fits_5 rfl (lv_at hl 0 rfl) ?_
      refine k_get (k := 0) X I kCl_1 (kO_G g S) 2 (by decide) rfl kC_18 6 dX1_fits_6 ?_
      refine b_icmp_ge hx hb 96 9 dX1_fits_9 (by decide) hpf (fun hpf => ?_) (fun hpf => ?_)
      · exact hC_96 x1 x2 S H locs I ls (lv_sub hl [0, 1, 2] rfl) hpf
      refine lv_aload_n hx hb dX1_fits_12 rfl (lv_at hl 0 rfl) ?_
      refine k_get (k := 0) X I kCl_1 (kO_G g S) 1 (by decide) rfl kC_15 13 dX1_fits_13 ?_
      refine lv_iload_n hx hb dX1_fits_16 rfl (lv_at hl 3 rfl) ?_
      refine k_iald X I kR_6 17 dX1_fits_17 hpf (fun hpf => ?_)
      refine lv_sipush (v := (1000 : Int32)) hx hb dX1_fits_18 (by decide) ?_
      refine lv_idiv hx hb dX1_fits_21 (by decide) ?_
      refine m_isto hx hb (fun y101 => [(4, .int y101), (0, .ref (g.2.1 5)), (1, .int x1), (2, .int x2), (3, .int x3)]) 22 dX1_fits_22 hl (by decide) (fun _ => rfl) hpf (fun y101 ls hl hpf => ?_)
      refine lv_iload_n hx hb dX1_fits_24 rfl (lv_at hl 3 rfl) ?_
      refine lv_iload hx hb dX1_fits_25 (lv_at hl 0 rfl) ?_
      refine lv_ishr hx hb dX1_fits_27 ?_
      refine lv_iconst (v := (1 : Int32)) hx hb dX1_fits_28 (by decide) ?_
      refine lv_iand hx hb dX1_fits_29 ?_
      refine lv_iconst (v := (1 : Int32)) hx hb dX1_fits_30 (by decide) ?_
      refine b_icmp_ne hx hb 38 31 dX1_fits_31 (by decide) hpf (fun hpf => ?_) (fun hpf => ?_)
      · refine lv_iconst (v := (0 : Int32)) hx hb dX1_fits_38 (by decide) ?_
        exact hC_39 (0 : Int32) x1 x2 x3 y101 S H locs I ls (lv_sub hl [1, 2, 3, 4, 0] rfl) hpf
      refine lv_iconst (v := (1 : Int32)) hx hb dX1_fits_34 (by decide) ?_
      refine lv_goto (tgt := 39) hx hb dX1_fits_35 (by decide) ?_
      exact hC_39 (1 : Int32) x1 x2 x3 y101 S H locs I ls (lv_sub hl [1, 2, 3, 4, 0] rfl) hpf
  refine lv_iconst (v := (0 : Int32)) hx hb dX1_fits_0 (by decide) ?_
  refine lv_istore_n (lv' := [(2, .int (0 : Int32)), (0, .ref (g.2.1 5)), (1, .int x1)]) hx hb dX1_fits_1 rfl hl (by decide) rfl (fun ls hl => ?_)
  refine lv_iconst (v := (0 : Int32)) hx hb dX1_fits_2 (by decide) ?_
  refine lv_istore_n (lv' := [(3, .int (0 : Int32)), (2, .int (0 : Int32)), (0, .ref (g.2.1 5)), (1, .int x1)]) hx hb dX1_fits_3 rfl hl (by decide) rfl (fun ls hl => ?_)
  exact hC_4 N x1 (0 : Int32) (0 : Int32) Si H locs I ls (lv_sub hl [2, 3, 1, 0] rfl) hpf
