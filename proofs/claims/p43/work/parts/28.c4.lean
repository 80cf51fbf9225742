theorem fn_X8_X5_countBetween : kFnI RX8 yX5_countBetween cX5_countBetween 3 (some .int) 2 163 := ⟨⟨kC_112, kC_109, kC_105, ⟨by decide +kernel, by decide +kernel, by decide +kernel⟩, by decide⟩, kC_113, kC_114⟩
theorem fn_X8_X8_valuesBetween : kFnI RX8 yX8_valuesBetween cX8_valuesBetween 4 (some .int) 3 159 := ⟨⟨kC_391, kC_121, kC_110, ⟨by decide +kernel, by decide +kernel, by decide +kernel⟩, by decide⟩, kC_119, kC_120⟩
theorem fn_X8_X8_valuesOf : kFnI RX8 yX8_valuesOf cX8_valuesOf 3 (some .int) 2 166 := ⟨⟨kC_393, kC_121, kC_390, ⟨by decide +kernel, by decide +kernel, by decide +kernel⟩, by decide⟩, kC_394, kC_395⟩
theorem fn_X8_X8_living : kFnI RX8 yX8_living cX8_living 1 (some .long) 0 169 := ⟨⟨kC_137, kC_121, kC_127, ⟨by decide +kernel, by decide +kernel, by decide +kernel⟩, by decide⟩, kC_138, kC_139⟩
theorem fn_X8_X7_requiredBy : kFnI RX8 yX7_requiredBy cX7_requiredBy 2 (some .int) 1 173 := ⟨⟨kC_397, kC_45, kC_66, ⟨by decide +kernel, by decide +kernel, by decide +kernel⟩, by decide⟩, kC_79, kC_80⟩
theorem fn_X8_X8_holdersBetween : kFnI RX8 yX8_holdersBetween cX8_holdersBetween 7 (some .long) 2 176 := ⟨⟨kC_189, kC_121, kC_131, ⟨by decide +kernel, by decide +kernel, by decide +kernel⟩, by decide⟩, kC_142, kC_143⟩
theorem fn_X8_X6_decide : kFnI RX8 yX6_decide cX6_decide 14 (some .int) 5 185 := ⟨⟨kC_190, kC_181, kC_175, ⟨by decide +kernel, by decide +kernel, by decide +kernel⟩, by decide⟩, kC_191, kC_192⟩
-- ===== X8_valuesBetween =====
def pX8_valuesBetween (N : Nat) (n0 : Nat) (x1 : Int32) (x2 : Int32) (x3 : Int32) (S : kS) : Option (Int32 × kS) :=
    bk (pX5_countBetween N n0 0 ((x1 * (10000 : Int32)) + x2) ((x1 * (10000 : Int32)) + x3) S) fun v101 S102 =>
    some (v101, S102)
set_option maxRecDepth 100000 in
set_option maxHeartbeats 4000000 in
theorem c_X8_valuesBetween (l : Launch) (N : Nat) (n0 : Nat) (hn0 : n0 < 5) (x1 : Int32) (x2 : Int32) (x3 : Int32) : kMet l yX8_valuesBetween cX8_valuesBetween 4 (some .int) 2 (fun g => [.ref (g.2.1 (26 + 15 * n0)), .int x1, .int x2, .int x3]) rI (pX8_valuesBetween N n0 x1 x2 x3) := by
  refine kStart RX8 (by decide +kernel) rfl (fun g => [(0, .ref (g.2.1 (26 + 15 * n0))), (1, .int x1), (2, .int x2), (3, .int x3)]) (fun _ => Nat.le_of_ble_eq_true rfl) (fun _ => rfl) ?_
  intro dC dI g sz Si r Sf hpf p e s m args below meth c X hr H locs I ls hl
  have hx := X.1
  have hb := X.2.1
  unfold pX8_valuesBetween at hpf
  refine lv_aload_n hx hb dX8_valuesBetween_0 rfl (lv_at hl 0 rfl) ?_
  refine k_get (k := 0) X I kCl_8 (kO_T g Si n0 hn0) 7 (by decide) rfl kC_111 1 dX8_valuesBetween_1 ?_
  refine lv_iload_n hx hb dX8_valuesBetween_4 rfl (lv_at hl 1 rfl) ?_
  refine lv_sipush (v := (10000 : Int32)) hx hb dX8_valuesBetween_5 (by decide) ?_
  refine lv_imul hx hb dX8_valuesBetween_8 ?_
  refine lv_iload_n hx hb dX8_valuesBetween_9 rfl (lv_at hl 2 rfl) ?_
  refine lv_iadd hx hb dX8_valuesBetween_10 ?_
  refine lv_iload_n hx hb dX8_valuesBetween_11 rfl (lv_at hl 1 rfl) ?_
  refine lv_sipush (v := (10000 : Int32)) hx hb dX8_valuesBetween_12 (by decide) ?_
  refine lv_imul hx hb dX8_valuesBetween_15 ?_
  refine lv_iload_n hx hb dX8_valuesBetween_16 rfl (lv_at hl 3 rfl) ?_
  refine lv_iadd hx hb dX8_valuesBetween_17 ?_
  refine k_cIi (rest := []) (As := [.int ((x1 * (10000 : Int32)) + x2), .int ((x1 * (10000 : Int32)) + x3)]) (d := 2) ⟨Nat.le_refl _, Nat.le_refl _⟩ X I fn_X8_X5_countBetween kCl_5 rfl (kO_N g Si n0 0 hn0 (by decide)) (c_X5_countBetween l N n0 0 hn0 (by decide) ((x1 * (10000 : Int32)) + x2) ((x1 * (10000 : Int32)) + x3)) rfl (by decide) 18 dX8_valuesBetween_18 rfl hl.1 rfl (Nat.le_of_ble_eq_true rfl) ⟨Nat.le_of_ble_eq_true rfl, Nat.le_of_ble_eq_true rfl⟩ hpf (fun v101 S102 H locs I hm hpf => ?_)
  exact k_reti X I hr 21 dX8_valuesBetween_21 hpf
-- ===== X8_valuesOf =====
def pX8_valuesOf (N : Nat) (n0 : Nat) (x1 : Int32) (x2 : Int32) (S : kS) : Option (Int32 × kS) :=
    bk (pX8_valuesBetween N n0 x1 (x2 * (1000 : Int32)) (((x2 * (1000 : Int32)) + (1000 : Int32)) - (1 : Int32)) S) fun v101 S102 =>
    some (v101, S102)
set_option maxRecDepth 100000 in
set_option maxHeartbeats 4000000 in
theorem c_X8_valuesOf (l : Launch) (N : Nat) (n0 : Nat) (hn0 : n0 < 5) (x1 : Int32) (x2 : Int32) : kMet l yX8_valuesOf cX8_valuesOf 3 (some .int) 3 (fun g => [.ref (g.2.1 (26 + 15 * n0)), .int x1, .int x2]) rI (pX8_valuesOf N n0 x1 x2) := by
  refine kStart RX8 (by decide +kernel) rfl (fun g => [(0, .ref (g.2.1 (26 + 15 * n0))), (1, .int x1), (2, .int x2)]) (fun _ => Nat.le_of_ble_eq_true rfl) (fun _ => rfl) ?_
  intro dC dI g sz Si r Sf hpf p e s m args below meth c X hr H locs I ls hl
  have hx := X.1
  have hb := X.2.1
  unfold pX8_valuesOf at hpf
  refine lv_aload_n hx hb dX8_valuesOf_0 rfl (lv_at hl 0 rfl) ?_
  refine lv_iload_n hx hb dX8_valuesOf_1 rfl (lv_at hl 1 rfl) ?_
  refine lv_iload_n hx hb dX8_valuesOf_2 rfl (lv_at hl 2 rfl) ?_
  refine lv_sipush (v := (1000 : Int32)) hx hb dX8_valuesOf_3 (by decide) ?_
  refine lv_imul hx hb dX8_valuesOf_6 ?_
  refine lv_iload_n hx hb dX8_valuesOf_7 rfl (lv_at hl 2 rfl) ?_
  refine lv_sipush (v := (1000 : Int32)) hx hb dX8_valuesOf_8 (by decide) ?_
  refine lv_imul hx hb dX8_valuesOf_11 ?_
  refine lv_sipush (v := (1000 : Int32)) hx hb dX8_valuesOf_12 (by decide) ?_
  refine lv_iadd hx hb dX8_valuesOf_15 ?_
  refine lv_iconst (v := (1 : Int32)) hx hb dX8_valuesOf_16 (by decide) ?_
  refine lv_isub hx hb dX8_valuesOf_17 ?_
  refine k_cIi (rest := []) (As := [.int x1, .int (x2 * (1000 : Int32)), .int (((x2 * (1000 : Int32)) + (1000 : Int32)) - (1 : Int32))]) (d := 3) ⟨Nat.le_refl _, Nat.le_refl _⟩ X I fn_X8_X8_valuesBetween kCl_8 rfl (kO_T g Si n0 hn0) (c_X8_valuesBetween l N n0 hn0 x1 (x2 * (1000 : Int32)) (((x2 * (1000 : Int32)) + (1000 : Int32)) - (1 : Int32))) rfl (by decide) 18 dX8_valuesOf_18 rfl hl.1 rfl (Nat.le_of_ble_eq_true rfl) ⟨Nat.le_of_ble_eq_true rfl, Nat.le_of_ble_eq_true rfl⟩ hpf (fun v101 S102 H locs I hm hpf => ?_)
  exact k_reti X I hr 21 dX8_valuesOf_21 hpf
-- ===== X8_matching =====
def pX8_matching (N : Nat) (n0 : Nat) (x1 : Int32) (x2 : Int32) (x3 : Int32) (S : kS) : Option (Int32 × kS) :=
    bk (pX7_lowest N x2 x3 S) fun v101 S102 =>
    bk (pX7_highest N x2 x3 S102) fun v103 S104 =>
    bk (pX8_valuesBetween N n0 x1 ((x2 * (1000 : Int32)) + v101) ((x2 * (1000 : Int32)) + v103) S104) fun v105 S106 =>
    some (v105, S106)
set_option maxRecDepth 100000 in
set_option maxHeartbeats 4000000 in
theorem c_X8_matching (l : Launch) (N : Nat) (n0 : Nat) (hn0 : n0 < 5) (x1 : Int32) (x2 : Int32) (x3 : Int32) : kMet l yX8_matching cX8_matching 6 (some .int) 3 (fun g => [.ref (g.2.1 (26 + 15 * n0)), .int x1, .int x2, .int x3]) rI (pX8_matching N n0 x1 x2 x3) := by
  refine kStart RX8 (by decide +kernel) rfl (fun g => [(0, .ref (g.2.1 (26 + 15 * n0))), (1, .int x1), (2, .int x2), (3, .int x3)]) (fun _ => Nat.le_of_ble_eq_true rfl) (fun _ => rfl) ?_
  intro dC dI g sz Si r Sf hpf p e s m args below meth c X hr H locs I ls hl
  have hx := X.1
  have hb := X.2.1
  unfold pX8_matching at hpf
  refine lv_aload_n hx hb dX8_matching_0 rfl (lv_at hl 0 rfl) ?_
  refine k_get (k := 0) X I kCl_8 (kO_T g Si n0 hn0) 4 (by decide) rfl kC_184 1 dX8_matching_1 ?_
  refine lv_iload_n hx hb dX8_matching_4 rfl (lv_at hl 2 rfl) ?_
  refine lv_iload_n hx hb dX8_matching_5 rfl (lv_at hl 3 rfl) ?_
  refine k_cIi (rest := []) (As := [.int x2, .int x3]) (d := 3) ⟨Nat.le_refl _, Nat.le_refl _⟩ X I fn_X8_X7_lowest kCl_7 rfl (kO_H g Si) (c_X7_lowest l N x2 x3) rfl (by decide) 6 dX8_matching_6 rfl hl.1 rfl (Nat.le_of_ble_eq_true rfl) ⟨Nat.le_of_ble_eq_true rfl, Nat.le_of_ble_eq_true rfl⟩ hpf (fun v101 S102 H locs I hm hpf => ?_)
  refine lv_istore (lv' := [(4, .int v101), (0, .ref (g.2.1 (26 + 15 * n0))), (1, .int x1), (2, .int x2), (3, .int x3)]) hx hb dX8_matching_9 hl (by decide) rfl (fun ls hl => ?_)
  refine lv_aload_n hx hb dX8_matching_11 rfl (lv_at hl 1 rfl) ?_
  refine k_get (k := 0) X I kCl_8 (kO_T g S102 n0 hn0) 4 (by decide) rfl kC_184 12 dX8_matching_12 ?_
  refine lv_iload_n hx hb dX8_matching_15 rfl (lv_at hl 3 rfl) ?_
  refine lv_iload_n hx hb dX8_matching_16 rfl (lv_at hl 4 rfl) ?_
  refine k_cIi (rest := []) (As := [.int x2, .int x3]) (d := 3) ⟨Nat.le_refl _, Nat.le_refl _⟩ X I fn_X8_X7_highest kCl_7 rfl (kO_H g S102) (c_X7_highest l N x2 x3) rfl (by decide) 17 dX8_matching_17 rfl hl.1 rfl (Nat.le_of_ble_eq_true rfl) ⟨Nat.le_of_ble_eq_true rfl, Nat.le_of_ble_eq_true rfl⟩ hpf (fun v103 S104 H locs I hm hpf => ?_)
  refine lv_istore (lv' := [(5, .int v103), (4, .int v101), (0, .ref (g.2.1 (26 + 15 * n0))), (1, .int x1), (2, .int x2), (3, .int x3)]) hx hb dX8_matching_20 hl (by decide) rfl (fun ls hl => ?_)
  refine lv_aload_n hx hb dX8_matching_22 rfl (lv_at hl 2 rfl) ?_
  refine lv_iload_n hx hb dX8_matching_23 rfl (lv_at hl 3 rfl) ?_
  refine lv_iload_n hx hb dX8_matching_24 rfl (lv_at hl 4 rfl) ?_
  refine lv_sipush (v := (1000 : Int32)) hx hb dX8_matching_25 (by decide) ?_
  refine lv_imul hx hb dX8_matching_28 ?_
  refine lv_iload hx hb dX8_matching_29 (lv_at hl 1 rfl) ?_
  refine lv_iadd hx hb dX8_matching_31 ?_
  refine lv_iload_n hx hb dX8_matching_32 rfl (lv_at hl 4 rfl) ?_
  refine lv_sipush (v := (1000 : Int32)) hx hb dX8_matching_33 (by decide) ?_
  refine lv_imul hx hb dX8_matching_36 ?_
  refine lv_iload hx hb dX8_matching_37 (lv_at hl 0 rfl) ?_
  refine lv_iadd hx hb dX8_matching_39 ?_
  refine k_cIi (rest := []) (As := [.int x1, .int ((x2 * (1000 : Int32)) + v101), .int ((x2 * (1000 : Int32)) + v103)]) (d := 3) ⟨Nat.le_refl _, Nat.le_refl _⟩ X I fn_X8_X8_valuesBetween kCl_8 rfl (kO_T g S104 n0 hn0) (c_X8_valuesBetween l N n0 hn0 x1 ((x2 * (1000 : Int32)) + v101) ((x2 * (1000 : Int32)) + v103)) rfl (by decide) 40 dX8_matching_40 rfl hl.1 rfl (Nat.le_of_ble_eq_true rfl) ⟨Nat.le_of_ble_eq_true rfl, Nat.le_of_ble_eq_true rfl⟩ hpf (fun v105 S106 H locs I hm hpf => ?_)
  exact k_reti X I hr 43 dX8_matching_43 hpf
-- ===== X8_valueNumbered =====
def pX8_valueNumbered (N : Nat) (n0 : Nat) (x1 : Int32) (x2 : Int32) (x3 : Int32) (S : kS) : Option (Int32 × kS) :=
    bk (pX8_valuesOf N n0 x1 x2 S) fun v101 S102 =>
    if x3 < v101 then (
      bk (pX5_indexOf N n0 0 ((x1 * (10000 : Int32)) + (x2 * (1000 : Int32))) S102) fun v103 S104 =>
      bk (pX5_at N n0 0 (v103 + x3) S104) fun v105 S106 =>
      some (v105 - v105 / (1000 : Int32) * (1000 : Int32), S106))
    else (
      some ((-1 : Int32), S102))
set_option maxRecDepth 100000 in
set_option maxHeartbeats 4000000 in
theorem c_X8_valueNumbered (l : Launch) (N : Nat) (n0 : Nat) (hn0 : n0 < 5) (x1 : Int32) (x2 : Int32) (x3 : Int32) : kMet l yX8_valueNumbered cX8_valueNumbered 5 (some .int) 4 (fun g => [.ref (g.2.1 (26 + 15 * n0)), .int x1, .int x2, .int x3]) rI (pX8_valueNumbered N n0 x1 x2 x3) := by
  refine kStart RX8 (by decide +kernel) rfl (fun g => [(0, .ref (g.2.1 (26 + 15 * n0))), (1, .int x1), (2, .int x2), (3, .int x3)]) (fun _ => Nat.le_of_ble_eq_true rfl) (fun _ => rfl) ?_
  intro dC dI g sz Si r Sf hpf p e s m args below meth c X hr H locs I ls hl
  have hx := X.1
  have hb := X.2.1
  unfold pX8_valueNumbered at hpf
  refine lv_iload_n hx hb dX8_valueNumbered_0 rfl (lv_at hl 3 rfl) ?_
  refine lv_aload_n hx hb dX8_valueNumbered_1 rfl (lv_at hl 0 rfl) ?_
  refine lv_iload_n hx hb dX8_valueNumbered_2 rfl (lv_at hl 1 rfl) ?_
  refine lv_iload_n hx hb dX8_valueNumbered_3 rfl (lv_at hl 2 rfl) ?_
  refine k_cIi (rest := [.int x3]) (As := [.int x1, .int x2]) (d := 4) ⟨Nat.le_refl _, Nat.le_refl _⟩ X I fn_X8_X8_valuesOf kCl_8 rfl (kO_T g Si n0 hn0) (c_X8_valuesOf l N n0 hn0 x1 x2) rfl (by decide) 4 dX8_valueNumbered_4 rfl hl.1 rfl (Nat.le_of_ble_eq_true rfl) ⟨Nat.le_of_ble_eq_true rfl, Nat.le_of_ble_eq_true rfl⟩ hpf (fun v101 S102 H locs I hm hpf => ?_)
  refine b_icmp_lt hx hb 12 7 dX8_valueNumbered_7 (by decide) hpf (fun hpf => ?_) (fun hpf => ?_)
  · refine lv_aload_n hx hb dX8_valueNumbered_12 rfl (lv_at hl 0 rfl) ?_
    refine k_get (k := 0) X I kCl_8 (kO_T g S102 n0 hn0) 7 (by decide) rfl kC_111 13 dX8_valueNumbered_13 ?_
    refine lv_iload_n hx hb dX8_valueNumbered_16 rfl (lv_at hl 1 rfl) ?_
    refine lv_sipush (v := (10000 : Int32)) hx hb dX8_valueNumbered_17 (by decide) ?_
    refine lv_imul hx hb dX8_valueNumbered_20 ?_
    refine lv_iload_n hx hb dX8_valueNumbered_21 rfl (lv_at hl 2 rfl) ?_
    refine lv_sipush (v := (1000 : Int32)) hx hb dX8_valueNumbered_22 (by decide) ?_
    refine lv_imul hx hb dX8_valueNumbered_25 ?_
    refine lv_iadd hx hb dX8_valueNumbered_26 ?_
    refine k_cIi (rest := []) (As := [.int ((x1 * (10000 : Int32)) + (x2 * (1000 : Int32)))]) (d := 4) ⟨Nat.le_refl _, Nat.le_refl _⟩ X I fn_X8_X5_indexOf kCl_5 rfl (kO_N g S102 n0 0 hn0 (by decide)) (c_X5_indexOf l N n0 0 hn0 (by decide) ((x1 * (10000 : Int32)) + (x2 * (1000 : Int32)))) rfl (by decide) 27 dX8_valueNumbered_27 rfl hl.1 rfl (Nat.le_of_ble_eq_true rfl) ⟨Nat.le_of_ble_eq_true rfl, Nat.le_of_ble_eq_true rfl⟩ hpf (fun v103 S104 H locs I hm hpf => ?_)
    refine lv_istore (lv' := [(4, .int v103), (0, .ref (g.2.1 (26 + 15 * n0))), (1, .int x1), (2, .int x2), (3, .int x3)]) hx hb dX8_valueNumbered_30 hl (by decide) rfl (fun ls hl => ?_)
    refine lv_aload_n hx hb dX8_valueNumbered_32 rfl (lv_at hl 1 rfl) ?_
    refine k_get (k := 0) X I kCl_8 (kO_T g S104 n0 hn0) 7 (by decide) rfl kC_111 33 dX8_valueNumbered_33 ?_
    refine lv_iload hx hb dX8_valueNumbered_36 (lv_at hl 0 rfl) ?_
    refine lv_iload_n hx hb dX8_valueNumbered_38 rfl (lv_at hl 4 rfl) ?_
    refine lv_iadd hx hb dX8_valueNumbered_39 ?_
    refine k_cIi (rest := []) (As := [.int (v103 + x3)]) (d := 4) ⟨Nat.le_refl _, Nat.le_refl _⟩ X I fn_X8_X5_at kCl_5 rfl (kO_N g S104 n0 0 hn0 (by decide)) (c_X5_at l N n0 0 hn0 (by decide) (v103 + x3)) rfl (by decide) 40 dX8_valueNumbered_40 rfl hl.1 rfl (Nat.le_of_ble_eq_true rfl) ⟨Nat.le_of_ble_eq_true rfl, Nat.le_of_ble_eq_true rfl⟩ hpf (fun v105 S106 H locs I hm hpf => ?_)
    refine lv_sipush (v := (1000 : Int32)) hx hb dX8_valueNumbered_43 (by decide) ?_
    refine lv_irem hx hb dX8_valueNumbered_46 (by decide) ?_
    exact k_reti X I hr 47 dX8_valueNumbered_47 hpf
  refine lv_iconst (v := (-1 : Int32)) hx hb dX8_valueNumbered_10 (by decide) ?_
  exact k_reti X I hr 11 dX8_valueNumbered_11 hpf
-- ===== X8_holdersBetween =====
def pX8_holdersBetween_60 (N : Nat) (n0 : Nat) (w3 : Int64) (S : kS) : Option (Int64 × kS) :=
    bk (pX8_living N n0 S) fun v101 S102 =>
    some (w3 &&& v101, S102)
def pX8_holdersBetween_30 (N : Nat) (n0 : Nat) (k_60 : Int64 → kS → Option (Int64 × kS)) : Nat → Int64 → Int32 → Int32 → kS → Option (Int64 × kS)
  | 0 => fun _ _ _ _ => none
  | n_30 + 1 => fun w3 x5 x6 S =>
    if x5 ≤ x6 then (
      k_60 w3 S)
    else (
      bk (pX5_at N n0 1 x6 S) fun v101 S102 =>
      nml (w3 ||| ((1 : Int64) <<< ((v101 - v101 / (48 : Int32) * (48 : Int32)).toInt64 &&& 63))) fun y103 =>
      nm (x6 + (1 : Int32)) fun y104 =>
      pX8_holdersBetween_30 N n0 k_60 n_30 y103 x5 y104 S102)
def pX8_holdersBetween (N : Nat) (n0 : Nat) (x1 : Int32) (x2 : Int32) (S : kS) : Option (Int64 × kS) :=
    bk (pX5_indexOf N n0 1 ((x2 + (1 : Int32)) * (48 : Int32)) S) fun v101 S102 =>
    bk (pX5_indexOf N n0 1 (x1 * (48 : Int32)) S102) fun v103 S104 =>
    pX8_holdersBetween_30 N n0 (pX8_holdersBetween_60 N n0) N (0 : Int64) v101 v103 S104
set_option maxRecDepth 100000 in
set_option maxHeartbeats 4000000 in
theorem c_X8_holdersBetween (l : Launch) (N : Nat) (n0 : Nat) (hn0 : n0 < 5) (x1 : Int32) (x2 : Int32) : kMet l yX8_holdersBetween cX8_holdersBetween 7 (some .long) 1 (fun g => [.ref (g.2.1 (26 + 15 * n0)), .int x1, .int x2]) rJ (pX8_holdersBetween N n0 x1 x2) := by
  refine kStart RX8 (by decide +kernel) rfl (fun g => [(0, .ref (g.2.1 (26 + 15 * n0))), (1, .int x1), (2, .int x2)]) (fun _ => Nat.le_of_ble_eq_true rfl) (fun _ => rfl) ?_
  intro dC dI g sz Si r Sf hpf p e s m args below meth c X hr H locs I ls hl
  have hx := X.1
  have hb := X.2.1
  unfold pX8_holdersBetween at hpf
  have hC_60 : ∀ (w3 : Int64) (S : kS) (H : Heap) (locs : List Loc), kV dC dI g (kAt g (kn Si) (km Si) (kp Si) sz) s Si S H locs → ∀ ls : Array Slot, lv_has ls 7 [(0, .ref (g.2.1 (26 + 15 * n0))), (3, .long w3)] → pX8_holdersBetween_60 N n0 w3 S = some (r, Sf) → W p l e (mRm 1) s m args below meth c H locs 0 0 (MQ below (kQ dC dI g sz Si (rJ g r) Sf) args s 0 0 (kAt g (kn Si) (km Si) (kp Si) sz)) (F0 m 60 ls []) := by
    intro w3 S H locs I ls hl hpf
    unfold pX8_holdersBetween_60 at hpf
    refine lv_lload_n hx hb dX8_holdersBetween_60 rfl (lv_at hl 1 rfl) ?_
    refine lv_aload_n hx hb dX8_holdersBetween_61 rfl (lv_at hl 0 rfl) ?_
    refine k_cIl (rest := [.long w3]) (As := []) (d := 1) ⟨Nat.le_refl _, Nat.le_refl _⟩ X I fn_X8_X8_living kCl_8 rfl (kO_T g S n0 hn0) (c_X8_living l N n0 hn0) rfl (by decide) 62 dX8_holdersBetween_62 rfl hl.1 rfl (Nat.le_of_ble_eq_true rfl) ⟨Nat.le_of_ble_eq_true rfl, Nat.le_of_ble_eq_true rfl⟩ hpf (fun v101 S102 H locs I hm hpf => ?_)
    refine lv_land hx hb dX8_holdersBetween_65 ?_
    exact k_retl X I hr 66 dX8_holdersBetween_66 hpf
  have hC_30 : ∀ (n_30 : Nat), ∀ (w3 : Int64) (x5 : Int32) (x6 : Int32) (S : kS) (H : Heap) (locs : List Loc), kV dC dI g (kAt g (kn Si) (km Si) (kp Si) sz) s Si S H locs → ∀ ls : Array Slot, lv_has ls 7 [(0, .ref (g.2.1 (26 + 15 * n0))), (3, .long w3), (5, .int x5), (6, .int x6)] → pX8_holdersBetween_30 N n0 (pX8_holdersBetween_60 N n0) n_30 w3 x5 x6 S = some (r, Sf) → W p l e (mRm 1) s m args below meth c H locs 0 0 (MQ below (kQ dC dI g sz Si (rJ g r) Sf) args s 0 0 (kAt g (kn Si) (km Si) (kp Si) sz)) (F0 m 30 ls []) := by
    intro n_30
    induction n_30 with
    | zero =>
      intro w3 x5 x6 S H locs I ls hl hpf
      rw [pX8_holdersBetween_30] at hpf
      cases hpf
    | succ n_30 ih_30 =>
      intro w3 x5 x6 S H locs I ls hl hpf
      rw [pX8_holdersBetween_30] at hpf
      refine lv_iload hx hb dX8_holdersBetween_30 (lv_at hl 3 rfl) ?_
      refine lv_iload hx hb dX8_holdersBetween_32 (lv_at hl 2 rfl) ?_
      refine b_icmp_ge hx hb 60 34 dX8_holdersBetween_34 (by decide) hpf (fun hpf => ?_) (fun hpf => ?_)
      · exact hC_60 w3 S H locs I ls (lv_sub hl [0, 1] rfl) hpf
      refine lv_lload_n hx hb dX8_holdersBetween_37 rfl (lv_at hl 1 rfl) ?_
      refine lv_lconst (v := (1 : Int64)) hx hb dX8_holdersBetween_38 (by decide) ?_
      refine lv_aload_n hx hb dX8_holdersBetween_39 rfl (lv_at hl 0 rfl) ?_
      refine k_get (k := 0) X I kCl_8 (kO_T g S n0 hn0) 8 (by decide) rfl kC_132 40 dX8_holdersBetween_40 ?_
      refine lv_iload hx hb dX8_holdersBetween_43 (lv_at hl 3 rfl) ?_
      refine k_cIi (rest := [.long (1 : Int64), .long w3]) (As := [.int x6]) (d := 1) ⟨Nat.le_refl _, Nat.le_refl _⟩ X I fn_X8_X5_at kCl_5 rfl (kO_N g S n0 1 hn0 (by decide)) (c_X5_at l N n0 1 hn0 (by decide) x6) rfl (by decide) 45 dX8_holdersBetween_45 rfl hl.1 rfl (Nat.le_of_ble_eq_true rfl) ⟨Nat.le_of_ble_eq_true rfl, Nat.le_of_ble_eq_true rfl⟩ hpf (fun v101 S102 H locs I hm hpf => ?_)
      refine lv_bipush (v := (48 : Int32)) hx hb dX8_holdersBetween_48 (by decide) ?_
      refine lv_irem hx hb dX8_holdersBetween_50 (by decide) ?_
      refine lv_lshl hx hb dX8_holdersBetween_51 rfl ?_
      refine lv_lor hx hb dX8_holdersBetween_52 ?_
      refine k_lsto_n hx hb (fun y103 => [(3, .long y103), (0, .ref (g.2.1 (26 + 15 * n0))), (5, .int x5), (6, .int x6)]) 53 dX8_holdersBetween_53 rfl hl (by decide) (fun _ => rfl) hpf (fun y103 ls hl hpf => ?_)
      refine m_iinc (w := (1 : Int32)) hx hb (fun y104 => [(6, .int y104), (3, .long y103), (0, .ref (g.2.1 (26 + 15 * n0))), (5, .int x5)]) 54 dX8_holdersBetween_54 hl (k := 3) rfl (by decide) (by decide) (fun _ => rfl) hpf (fun y104 ls hl hpf => ?_)
      refine lv_goto (tgt := 30) hx hb dX8_holdersBetween_57 (by decide) ?_
      exact ih_30 y103 x5 y104 S102 H locs I ls (lv_sub hl [2, 1, 3, 0] rfl) hpf
  refine lv_lconst (v := (0 : Int64)) hx hb dX8_holdersBetween_0 (by decide) ?_
  refine lv_lstore_n (lv' := [(3, .long (0 : Int64)), (0, .ref (g.2.1 (26 + 15 * n0))), (1, .int x1), (2, .int x2)]) hx hb dX8_holdersBetween_1 rfl hl (by decide) rfl (fun ls hl => ?_)
  refine lv_aload_n hx hb dX8_holdersBetween_2 rfl (lv_at hl 1 rfl) ?_
  refine k_get (k := 0) X I kCl_8 (kO_T g Si n0 hn0) 8 (by decide) rfl kC_132 3 dX8_holdersBetween_3 ?_
  refine lv_iload_n hx hb dX8_holdersBetween_6 rfl (lv_at hl 3 rfl) ?_
  refine lv_iconst (v := (1 : Int32)) hx hb dX8_holdersBetween_7 (by decide) ?_
  refine lv_iadd hx hb dX8_holdersBetween_8 ?_
  refine lv_bipush (v := (48 : Int32)) hx hb dX8_holdersBetween_9 (by decide) ?_
  refine lv_imul hx hb dX8_holdersBetween_11 ?_
  refine k_cIi (rest := []) (As := [.int ((x2 + (1 : Int32)) * (48 : Int32))]) (d := 1) ⟨Nat.le_refl _, Nat.le_refl _⟩ X I fn_X8_X5_indexOf kCl_5 rfl (kO_N g Si n0 1 hn0 (by decide)) (c_X5_indexOf l N n0 1 hn0 (by decide) ((x2 + (1 : Int32)) * (48 : Int32))) rfl (by decide) 12 dX8_holdersBetween_12 rfl hl.1 rfl (Nat.le_of_ble_eq_true rfl) ⟨Nat.le_of_ble_eq_true rfl, Nat.le_of_ble_eq_true rfl⟩ hpf (fun v101 S102 H locs I hm hpf => ?_)
  refine lv_istore (lv' := [(5, .int v101), (3, .long (0 : Int64)), (0, .ref (g.2.1 (26 + 15 * n0))), (1, .int x1), (2, .int x2)]) hx hb dX8_holdersBetween_15 hl (by decide) rfl (fun ls hl => ?_)
  refine lv_aload_n hx hb dX8_holdersBetween_17 rfl (lv_at hl 2 rfl) ?_
  refine k_get (k := 0) X I kCl_8 (kO_T g S102 n0 hn0) 8 (by decide) rfl kC_132 18 dX8_holdersBetween_18 ?_
  refine lv_iload_n hx hb dX8_holdersBetween_21 rfl (lv_at hl 3 rfl) ?_
  refine lv_bipush (v := (48 : Int32)) hx hb dX8_holdersBetween_22 (by decide) ?_
  refine lv_imul hx hb dX8_holdersBetween_24 ?_
  refine k_cIi (rest := []) (As := [.int (x1 * (48 : Int32))]) (d := 1) ⟨Nat.le_refl _, Nat.le_refl _⟩ X I fn_X8_X5_indexOf kCl_5 rfl (kO_N g S102 n0 1 hn0 (by decide)) (c_X5_indexOf l N n0 1 hn0 (by decide) (x1 * (48 : Int32))) rfl (by decide) 25 dX8_holdersBetween_25 rfl hl.1 rfl (Nat.le_of_ble_eq_true rfl) ⟨Nat.le_of_ble_eq_true rfl, Nat.le_of_ble_eq_true rfl⟩ hpf (fun v103 S104 H locs I hm hpf => ?_)
  refine lv_istore (lv' := [(6, .int v103), (5, .int v101), (3, .long (0 : Int64)), (0, .ref (g.2.1 (26 + 15 * n0))), (1, .int x1), (2, .int x2)]) hx hb dX8_holdersBetween_28 hl (by decide) rfl (fun ls hl => ?_)
  exact hC_30 N (0 : Int64) v101 v103 S104 H locs I ls (lv_sub hl [3, 2, 1, 0] rfl) hpf
-- ===== X8_isIncomplete =====
def pX8_isIncomplete_42 (N : Nat) (n0 : Nat) (k_16 : Int32 → Int32 → Int32 → kS → Option (Int32 × kS)) (x1 : Int32) (x2 : Int32) (x3 : Int32) (S : kS) : Option (Int32 × kS) :=
    nm (x3 + (1 : Int32)) fun y101 =>
    k_16 x1 x2 y101 S
def pX8_isIncomplete_16 (N : Nat) (n0 : Nat) : Nat → Int32 → Int32 → Int32 → kS → Option (Int32 × kS)
  | 0 => fun _ _ _ _ => none
  | n_16 + 1 => fun x1 x2 x3 S =>
    if (10 : Int32) ≤ x3 then (
      some ((0 : Int32), S))
    else (
      if ((x2 >>> (x3 &&& 31)) &&& (1 : Int32)) = (1 : Int32) then (
        bk (pX8_valuesOf N n0 x1 x3 S) fun v101 S102 =>
        if v101 = (0 : Int32) then (
          some ((1 : Int32), S102))
        else (
          pX8_isIncomplete_42 N n0 (pX8_isIncomplete_16 N n0 n_16) x1 x2 x3 S102))
      else (
        pX8_isIncomplete_42 N n0 (pX8_isIncomplete_16 N n0 n_16) x1 x2 x3 S))
def pX8_isIncomplete (N : Nat) (n0 : Nat) (x1 : Int32) (S : kS) : Option (Int32 × kS) :=
    gd x1 48 <|
    bk (pX7_requiredBy N (kA S (26 + 15 * n0 + 2) x1.toNatClampNeg) S) fun v101 S102 =>
    pX8_isIncomplete_16 N n0 N x1 v101 (0 : Int32) S102
set_option maxRecDepth 100000 in
set_option maxHeartbeats 4000000 in
theorem c_X8_isIncomplete (l : Launch) (N : Nat) (n0 : Nat) (hn0 : n0 < 5) (x1 : Int32) : kMet l yX8_isIncomplete cX8_isIncomplete 4 (some .boolean) 4 (fun g => [.ref (g.2.1 (26 + 15 * n0)), .int x1]) rI (pX8_isIncomplete N n0 x1) := by
  refine kStart RX8 (by decide +kernel) rfl (fun g => [(0, .ref (g.2.1 (26 + 15 * n0))), (1, .int x1)]) (fun _ => Nat.le_of_ble_eq_true rfl) (fun _ => rfl) ?_
  intro dC dI g sz Si r Sf hpf p e s m args below meth c X hr H locs I ls hl
  have hx := X.1
  have hb := X.2.1
  unfold pX8_isIncomplete at hpf
  have hC_16 : ∀ (n_16 : Nat), ∀ (x1 : Int32) (x2 : Int32) (x3 : Int32) (S : kS) (H : Heap) (locs : List Loc), kV dC dI g (kAt g (kn Si) (km Si) (kp Si) sz) s Si S H locs → ∀ ls : Array Slot, lv_has ls 4 [(0, .ref (g.2.1 (26 + 15 * n0))), (1, .int x1), (2, .int x2), (3, .int x3)] → pX8_isIncomplete_16 N n0 n_16 x1 x2 x3 S = some (r, Sf) → W p l e (mRm 4) s m args below meth c H locs 0 0 (MQ below (kQ dC dI g sz Si (rI g r) Sf) args s 0 0 (kAt g (kn Si) (km Si) (kp Si) sz)) (F0 m 16 ls []) := by
    intro n_16
    induction n_16 with
    | zero =>
      intro x1 x2 x3 S H locs I ls hl hpf
      rw [pX8_isIncomplete_16] at hpf
      cases hpf
    | succ n_16 ih_16 =>
      have hC_42 : ∀ (x1 : Int32) (x2 : Int32) (x3 : Int32) (S : kS) (H : Heap) (locs : List Loc), kV dC dI g (kAt g (kn Si) (km Si) (kp Si) sz) s Si S H locs → ∀ ls : Array Slot, lv_has ls 4 [(0, .ref (g.2.1 (26 + 15 * n0))), (1, .int x1), (2, .int x2), (3, .int x3)] → pX8_isIncomplete_42 N n0 (pX8_isIncomplete_16 N n0 n_16) x1 x2 x3 S = some (r, Sf) → W p l e (mRm 4) s m args below meth c H locs 0 0 (MQ below (kQ dC dI g sz Si (rI g r) Sf) args s 0 0 (kAt g (kn Si) (km Si) (kp Si) sz)) (F0 m 42 ls []) := by
        intro x1 x2 x3 S H locs I ls hl hpf
        unfold pX8_isIncomplete_42 at hpf
        refine m_iinc (w := (1 : Int32)) hx hb (fun y101 => [(3, .int y101), (0, .ref (g.2.1 (26 + 15 * n0))), (1, .int x1), (2, .int x2)]) 42 dX8_isIncomplete_42 hl (k := 3) rfl (by decide) (by decide) (fun _ => rfl) hpf (fun y101 ls hl hpf => ?_)
        refine lv_goto (tgt := 16) hx hb dX8_isIncomplete_45 (by decide) ?_
        exact ih_16 x1 x2 y101 S H locs I ls (lv_sub hl [1, 2, 3, 0] rfl) hpf
      intro x1 x2 x3 S H locs I ls hl hpf
      rw [pX8_isIncomplete_16] at hpf
      refine lv_iload_n hx hb dX8_isIncomplete_16 rfl (lv_at hl 3 rfl) ?_
      refine lv_bipush (v := (10 : Int32)) hx hb dX8_isIncomplete_17 (by decide) ?_
      refine b_icmp_ge hx hb 48 19 dX8_isIncomplete_19 (by decide) hpf (fun hpf => ?_) (fun hpf => ?_)
      · refine lv_iconst (v := (0 : Int32)) hx hb dX8_isIncomplete_48 (by decide) ?_
        exact k_retzc X I hr 49 dX8_isIncomplete_49 (by decide) hpf
      refine lv_iload_n hx hb dX8_isIncomplete_22 rfl (lv_at hl 2 rfl) ?_
      refine lv_iload_n hx hb dX8_isIncomplete_23 rfl (lv_at hl 3 rfl) ?_
      refine lv_ishr hx hb dX8_isIncomplete_24 ?_
      refine lv_iconst (v := (1 : Int32)) hx hb dX8_isIncomplete_25 (by decide) ?_
      refine lv_iand hx hb dX8_isIncomplete_26 ?_
      refine lv_iconst (v := (1 : Int32)) hx hb dX8_isIncomplete_27 (by decide) ?_
      refine b_icmp_ne hx hb 42 28 dX8_isIncomplete_28 (by decide) hpf (fun hpf => ?_) (fun hpf => ?_)
      · exact hC_42 x1 x2 x3 S H locs I ls (lv_sub hl [0, 1, 2, 3] rfl) hpf
      refine lv_aload_n hx hb dX8_isIncomplete_31 rfl (lv_at hl 0 rfl) ?_
      refine lv_iload_n hx hb dX8_isIncomplete_32 rfl (lv_at hl 1 rfl) ?_
      refine lv_iload_n hx hb dX8_isIncomplete_33 rfl (lv_at hl 3 rfl) ?_
      refine k_cIi (rest := []) (As := [.int x1, .int x3]) (d := 4) ⟨Nat.le_refl _, Nat.le_refl _⟩ X I fn_X8_X8_valuesOf kCl_8 rfl (kO_T g S n0 hn0) (c_X8_valuesOf l N n0 hn0 x1 x3) rfl (by decide) 34 dX8_isIncomplete_34 rfl hl.1 rfl (Nat.le_of_ble_eq_true rfl) ⟨Nat.le_of_ble_eq_true rfl, Nat.le_of_ble_eq_true rfl⟩ hpf (fun v101 S102 H locs I hm hpf => ?_)
      refine b_if_ne hx hb 42 37 dX8_isIncomplete_37 (by decide) hpf (fun hpf => ?_) (fun hpf => ?_)
      · exact hC_42 x1 x2 x3 S102 H locs I ls (lv_sub hl [0, 1, 2, 3] rfl) hpf
      refine lv_iconst (v := (1 : Int32)) hx hb dX8_isIncomplete_40 (by decide) ?_
      exact k_retzc X I hr 41 dX8_isIncomplete_41 (by decide) hpf
  refine lv_aload_n hx hb dX8_isIncomplete_0 rfl (lv_at hl 0 rfl) ?_
  refine k_get (k := 0) X I kCl_8 (kO_T g Si n0 hn0) 4 (by decide) rfl kC_184 1 dX8_isIncomplete_1 ?_
  refine lv_aload_n hx hb dX8_isIncomplete_4 rfl (lv_at hl 0 rfl) ?_
  refine k_get (k := 0) X I kCl_8 (kO_T g Si n0 hn0) 1 (by decide) rfl kC_329 5 dX8_isIncomplete_5 ?_
  refine lv_iload_n hx hb dX8_isIncomplete_8 rfl (lv_at hl 1 rfl) ?_
  refine k_iald X I (kR_T2 n0 hn0) 9 dX8_isIncomplete_9 hpf (fun hpf => ?_)
  refine k_cIi (rest := []) (As := [.int (kA Si (26 + 15 * n0 + 2) x1.toNatClampNeg)]) (d := 4) ⟨Nat.le_refl _, Nat.le_refl _⟩ X I fn_X8_X7_requiredBy kCl_7 rfl (kO_H g Si) (c_X7_requiredBy l N (kA Si (26 + 15 * n0 + 2) x1.toNatClampNeg)) rfl (by decide) 10 dX8_isIncomplete_10 rfl hl.1 rfl (Nat.le_of_ble_eq_true rfl) ⟨Nat.le_of_ble_eq_true rfl, Nat.le_of_ble_eq_true rfl⟩ hpf (fun v101 S102 H locs I hm hpf => ?_)
  refine lv_istore_n (lv' := [(2, .int v101), (0, .ref (g.2.1 (26 + 15 * n0))), (1, .int x1)]) hx hb dX8_isIncomplete_13 rfl hl (by decide) rfl (fun ls hl => ?_)
  refine lv_iconst (v := (0 : Int32)) hx hb dX8_isIncomplete_14 (by decide) ?_
  refine lv_istore_n (lv' := [(3, .int (0 : Int32)), (2, .int v101), (0, .ref (g.2.1 (26 + 15 * n0))), (1, .int x1)]) hx hb dX8_isIncomplete_15 rfl hl (by decide) rfl (fun ls hl => ?_)
  exact hC_16 N x1 v101 (0 : Int32) S102 H locs I ls (lv_sub hl [2, 3, 1, 0] rfl) hpf
-- ===== X8_grants =====
def pX8_grants_74 (N : Nat) (n0 : Nat) (x8 : Int32) (S : kS) : Option (Int32 × kS) :=
    if x8 = (1 : Int32) then (
      some ((1 : Int32), S))
    else (
      some ((0 : Int32), S))
def pX8_grants_100 (N : Nat) (n0 : Nat) (x3 : Int32) (S : kS) : Option (Int32 × kS) :=
    if x3 = (0 : Int32) then (
      some ((1 : Int32), S))
    else (
      some ((0 : Int32), S))
def pX8_grants_36 (N : Nat) (n0 : Nat) (k_74 : Int32 → kS → Option (Int32 × kS)) (k_100 : Int32 → kS → Option (Int32 × kS)) : Nat → Int32 → Int32 → Int64 → Int32 → Int32 → kS → Option (Int32 × kS)
  | 0 => fun _ _ _ _ _ _ => none
  | n_36 + 1 => fun x1 x3 w4 x6 x7 S =>
    if (48 : Int32) ≤ x7 then (
      k_100 x3 S)
    else (
      if x6 < (0 : Int32) then (
        k_100 x3 S)
      else (
        bk (pX6_decide N n0 x6 (if (2 : Int32) < x7 then (2 : Int32) else x7) x3 x1 w4 S) fun v101 S102 =>
        if v101 = (0 : Int32) then (
          bk (pX8_placeOf N n0 x6 S102) fun v103 S104 =>
          nm (x7 + (1 : Int32)) fun y105 =>
          pX8_grants_36 N n0 k_74 k_100 n_36 x1 x3 w4 v103 y105 S104)
        else (
          k_74 v101 S102)))
def pX8_grants (N : Nat) (n0 : Nat) (x1 : Int32) (x2 : Int32) (x3 : Int32) (S : kS) : Option (Int32 × kS) :=
    if x1 = (0 : Int32) then (
      some ((1 : Int32), S))
    else (
      bk (pX7_lowest N (0 : Int32) x1 S) fun v101 S102 =>
      bk (pX7_highest N (0 : Int32) x1 S102) fun v103 S104 =>
      bk (pX8_holdersBetween N n0 v101 v103 S104) fun v105 S106 =>
      pX8_grants_36 N n0 (pX8_grants_74 N n0) (pX8_grants_100 N n0) N x1 x3 v105 x2 (0 : Int32) S106)
set_option maxRecDepth 100000 in
set_option maxHeartbeats 4000000 in
theorem c_X8_grants (l : Launch) (N : Nat) (n0 : Nat) (hn0 : n0 < 5) (x1 : Int32) (x2 : Int32) (x3 : Int32) : kMet l yX8_grants cX8_grants 9 (some .boolean) 2 (fun g => [.ref (g.2.1 (26 + 15 * n0)), .int x1, .int x2, .int x3]) rI (pX8_grants N n0 x1 x2 x3) := by
  refine kStart RX8 (by decide +kernel) rfl (fun g => [(0, .ref (g.2.1 (26 + 15 * n0))), (1, .int x1), (2, .int x2), (3, .int x3)]) (fun _ => Nat.le_of_ble_eq_true rfl) (fun _ => rfl) ?_
  intro dC dI g sz Si r Sf hpf p e s m args below meth c X hr H locs I ls hl
  have hx := X.1
  have hb := X.2.1
  unfold pX8_grants at hpf
  have hC_74 : ∀ (x8 : Int32) (S : kS) (H : Heap) (locs : List Loc), kV dC dI g (kAt g (kn Si) (km Si) (kp Si) sz) s Si S H locs → ∀ ls : Array Slot, lv_has ls 9 [(0, .ref (g.2.1 (26 + 15 * n0))), (8, .int x8)] → pX8_grants_74 N n0 x8 S = some (r, Sf) → W p l e (mRm 2) s m args below meth c H locs 0 0 (MQ below (kQ dC dI g sz Si (rI g r) Sf) args s 0 0 (kAt g (kn Si) (km Si) (kp Si) sz)) (F0 m 74 ls []) := by
    intro x8 S H locs I ls hl hpf
    unfold pX8_grants_74 at hpf
    refine lv_iload hx hb dX8_grants_74 (lv_at hl 1 rfl) ?_
    refine lv_iconst (v := (1 : Int32)) hx hb dX8_grants_76 (by decide) ?_
    refine b_icmp_ne hx hb 84 77 dX8_grants_77 (by decide) hpf (fun hpf => ?_) (fun hpf => ?_)
    · refine lv_iconst (v := (0 : Int32)) hx hb dX8_grants_84 (by decide) ?_
      exact k_retzc X I hr 85 dX8_grants_85 (by decide) hpf
    refine lv_iconst (v := (1 : Int32)) hx hb dX8_grants_80 (by decide) ?_
    refine lv_goto (tgt := 85) hx hb dX8_grants_81 (by decide) ?_
    exact k_retzc X I hr 85 dX8_grants_85 (by decide) hpf
  have hC_100 : ∀ (x3 : Int32) (S : kS) (H : Heap) (locs : List Loc), kV dC dI g (kAt g (kn Si) (km Si) (kp Si) sz) s Si S H locs → ∀ ls : Array Slot, lv_has ls 9 [(0, .ref (g.2.1 (26 + 15 * n0))), (3, .int x3)] → pX8_grants_100 N n0 x3 S = some (r, Sf) → W p l e (mRm 2) s m args below meth c H locs 0 0 (MQ below (kQ dC dI g sz Si (rI g r) Sf) args s 0 0 (kAt g (kn Si) (km Si) (kp Si) sz)) (F0 m 100 ls []) := by
    intro x3 S H locs I ls hl hpf
    unfold pX8_grants_100 at hpf
    refine lv_iload_n hx hb dX8_grants_100 rfl (lv_at hl 1 rfl) ?_
    refine b_if_ne hx hb 108 101 dX8_grants_101 (by decide) hpf (fun hpf => ?_) (fun hpf => ?_)
    · refine lv_iconst (v := (0 : Int32)) hx hb dX8_grants_108 (by decide) ?_
      exact k_retzc X I hr 109 dX8_grants_109 (by decide) hpf
    refine lv_iconst (v := (1 : Int32)) hx hb dX8_grants_104 (by decide) ?_
    refine lv_goto (tgt := 109) hx hb dX8_grants_105 (by decide) ?_
    exact k_retzc X I hr 109 dX8_grants_109 (by decide) hpf
  have hC_36 : ∀ (n_36 : Nat), ∀ (x1 : Int32) (x3 : Int32) (w4 : Int64) (x6 : Int32) (x7 : Int32) (S : kS) (H : Heap) (locs : List Loc), kV dC dI g (kAt g (kn Si) (km Si) (kp Si) sz) s Si S H locs → ∀ ls : Array Slot, lv_has ls 9 [(0, .ref (g.2.1 (26 + 15 * n0))), (1, .int x1), (3, .int x3), (4, .long w4), (6, .int x6), (7, .int x7)] → pX8_grants_36 N n0 (pX8_grants_74 N n0) (pX8_grants_100 N n0) n_36 x1 x3 w4 x6 x7 S = some (r, Sf) → W p l e (mRm 2) s m args below meth c H locs 0 0 (MQ below (kQ dC dI g sz Si (rI g r) Sf) args s 0 0 (kAt g (kn Si) (km Si) (kp Si) sz)) (F0 m 36 ls []) := by
    intro n_36
    induction n_36 with
    | zero =>
      intro x1 x3 w4 x6 x7 S H locs I ls hl hpf
      rw [pX8_grants_36] at hpf
      cases hpf
    | succ n_36 ih_36 =>
      intro x1 x3 w4 x6 x7 S H locs I ls hl hpf
      rw [pX8_grants_36] at hpf
      refine lv_iload hx hb dX8_grants_36 (lv_at hl 5 rfl) ?_
      refine lv_bipush (v := (48 : Int32)) hx hb dX8_grants_38 (by decide) ?_
      refine b_icmp_ge hx hb 100 40 dX8_grants_40 (by decide) hpf (fun hpf => ?_) (fun hpf => ?_)
      · exact hC_100 x3 S H locs I ls (lv_sub hl [0, 2] rfl) hpf
      refine lv_iload hx hb dX8_grants_43 (lv_at hl 4 rfl) ?_
      refine b_if_lt hx hb 100 45 dX8_grants_45 (by decide) hpf (fun hpf => ?_) (fun hpf => ?_)
      · exact hC_100 x3 S H locs I ls (lv_sub hl [0, 2] rfl) hpf
      refine lv_aload_n hx hb dX8_grants_48 rfl (lv_at hl 0 rfl) ?_
      refine k_get (k := 0) X I kCl_8 (kO_T g S n0 hn0) 3 (by decide) rfl kC_185 49 dX8_grants_49 ?_
      refine lv_iload hx hb dX8_grants_52 (lv_at hl 4 rfl) ?_
      refine lv_iload hx hb dX8_grants_54 (lv_at hl 5 rfl) ?_
      refine lv_iconst (v := (2 : Int32)) hx hb dX8_grants_56 (by decide) ?_
      refine k_min (d := 2) ⟨Nat.le_refl _, Nat.le_refl _⟩ (by decide) X hl.1 kC_186 kC_31 kC_32 kC_33 57 dX8_grants_57 (Nat.le_of_ble_eq_true rfl) ⟨Nat.le_of_ble_eq_true rfl, Nat.le_of_ble_eq_true rfl⟩ ?_
      refine lv_iload_n hx hb dX8_grants_60 rfl (lv_at hl 2 rfl) ?_
      refine lv_iload_n hx hb dX8_grants_61 rfl (lv_at hl 1 rfl) ?_
      refine lv_lload hx hb dX8_grants_62 (lv_at hl 3 rfl) ?_
      refine k_cIi (rest := []) (As := [.int x6, .int (if (2 : Int32) < x7 then (2 : Int32) else x7), .int x3, .int x1, .long w4]) (d := 2) ⟨Nat.le_refl _, Nat.le_refl _⟩ X I fn_X8_X6_decide kCl_6 rfl (kO_R g S n0 hn0) (c_X6_decide l N n0 hn0 x6 (if (2 : Int32) < x7 then (2 : Int32) else x7) x3 x1 w4) rfl (by decide) 64 dX8_grants_64 rfl hl.1 rfl (Nat.le_of_ble_eq_true rfl) ⟨Nat.le_of_ble_eq_true rfl, Nat.le_of_ble_eq_true rfl⟩ hpf (fun v101 S102 H locs I hm hpf => ?_)
      refine lv_istore (lv' := [(8, .int v101), (0, .ref (g.2.1 (26 + 15 * n0))), (1, .int x1), (3, .int x3), (4, .long w4), (6, .int x6), (7, .int x7)]) hx hb dX8_grants_67 hl (by decide) rfl (fun ls hl => ?_)
      refine lv_iload hx hb dX8_grants_69 (lv_at hl 0 rfl) ?_
      refine b_if_eq hx hb 86 71 dX8_grants_71 (by decide) hpf (fun hpf => ?_) (fun hpf => ?_)
      · refine lv_aload_n hx hb dX8_grants_86 rfl (lv_at hl 1 rfl) ?_
        refine lv_iload hx hb dX8_grants_87 (lv_at hl 5 rfl) ?_
        refine k_cIi (rest := []) (As := [.int x6]) (d := 2) ⟨Nat.le_refl _, Nat.le_refl _⟩ X I fn_X8_X8_placeOf kCl_8 rfl (kO_T g S102 n0 hn0) (c_X8_placeOf l N n0 hn0 x6) rfl (by decide) 89 dX8_grants_89 rfl hl.1 rfl (Nat.le_of_ble_eq_true rfl) ⟨Nat.le_of_ble_eq_true rfl, Nat.le_of_ble_eq_true rfl⟩ hpf (fun v103 S104 H locs I hm hpf => ?_)
        refine lv_istore (lv' := [(6, .int v103), (8, .int v101), (0, .ref (g.2.1 (26 + 15 * n0))), (1, .int x1), (3, .int x3), (4, .long w4), (7, .int x7)]) hx hb dX8_grants_92 hl (by decide) rfl (fun ls hl => ?_)
        refine m_iinc (w := (1 : Int32)) hx hb (fun y105 => [(7, .int y105), (6, .int v103), (8, .int v101), (0, .ref (g.2.1 (26 + 15 * n0))), (1, .int x1), (3, .int x3), (4, .long w4)]) 94 dX8_grants_94 hl (k := 6) rfl (by decide) (by decide) (fun _ => rfl) hpf (fun y105 ls hl hpf => ?_)
        refine lv_goto (tgt := 36) hx hb dX8_grants_97 (by decide) ?_
        exact ih_36 x1 x3 w4 v103 y105 S104 H locs I ls (lv_sub hl [3, 4, 5, 6, 1, 0] rfl) hpf
      exact hC_74 v101 S102 H locs I ls (lv_sub hl [1, 0] rfl) hpf
  refine lv_iload_n hx hb dX8_grants_0 rfl (lv_at hl 1 rfl) ?_
  refine b_if_ne hx hb 6 1 dX8_grants_1 (by decide) hpf (fun hpf => ?_) (fun hpf => ?_)
  · refine lv_aload_n hx hb dX8_grants_6 rfl (lv_at hl 0 rfl) ?_
    refine lv_aload_n hx hb dX8_grants_7 rfl (lv_at hl 0 rfl) ?_
    refine k_get (k := 0) X I kCl_8 (kO_T g Si n0 hn0) 4 (by decide) rfl kC_184 8 dX8_grants_8 ?_
    refine lv_iconst (v := (0 : Int32)) hx hb dX8_grants_11 (by decide) ?_
    refine lv_iload_n hx hb dX8_grants_12 rfl (lv_at hl 1 rfl) ?_
    refine k_cIi (rest := [.ref (g.2.1 (26 + 15 * n0))]) (As := [.int (0 : Int32), .int x1]) (d := 2) ⟨Nat.le_refl _, Nat.le_refl _⟩ X I fn_X8_X7_lowest kCl_7 rfl (kO_H g Si) (c_X7_lowest l N (0 : Int32) x1) rfl (by decide) 13 dX8_grants_13 rfl hl.1 rfl (Nat.le_of_ble_eq_true rfl) ⟨Nat.le_of_ble_eq_true rfl, Nat.le_of_ble_eq_true rfl⟩ hpf (fun v101 S102 H locs I hm hpf => ?_)
    refine lv_aload_n hx hb dX8_grants_16 rfl (lv_at hl 0 rfl) ?_
    refine k_get (k := 0) X I kCl_8 (kO_T g S102 n0 hn0) 4 (by decide) rfl kC_184 17 dX8_grants_17 ?_
    refine lv_iconst (v := (0 : Int32)) hx hb dX8_grants_20 (by decide) ?_
    refine lv_iload_n hx hb dX8_grants_21 rfl (lv_at hl 1 rfl) ?_
    refine k_cIi (rest := [.int v101, .ref (g.2.1 (26 + 15 * n0))]) (As := [.int (0 : Int32), .int x1]) (d := 2) ⟨Nat.le_refl _, Nat.le_refl _⟩ X I fn_X8_X7_highest kCl_7 rfl (kO_H g S102) (c_X7_highest l N (0 : Int32) x1) rfl (by decide) 22 dX8_grants_22 rfl hl.1 rfl (Nat.le_of_ble_eq_true rfl) ⟨Nat.le_of_ble_eq_true rfl, Nat.le_of_ble_eq_true rfl⟩ hpf (fun v103 S104 H locs I hm hpf => ?_)
    refine k_cIl (rest := []) (As := [.int v101, .int v103]) (d := 2) ⟨Nat.le_refl _, Nat.le_refl _⟩ X I fn_X8_X8_holdersBetween kCl_8 rfl (kO_T g S104 n0 hn0) (c_X8_holdersBetween l N n0 hn0 v101 v103) rfl (by decide) 25 dX8_grants_25 rfl hl.1 rfl (Nat.le_of_ble_eq_true rfl) ⟨Nat.le_of_ble_eq_true rfl, Nat.le_of_ble_eq_true rfl⟩ hpf (fun v105 S106 H locs I hm hpf => ?_)
    refine lv_lstore (lv' := [(4, .long v105), (0, .ref (g.2.1 (26 + 15 * n0))), (1, .int x1), (2, .int x2), (3, .int x3)]) hx hb dX8_grants_28 hl (by decide) rfl (fun ls hl => ?_)
    refine lv_iload_n hx hb dX8_grants_30 rfl (lv_at hl 3 rfl) ?_
    refine lv_istore (lv' := [(6, .int x2), (4, .long v105), (0, .ref (g.2.1 (26 + 15 * n0))), (1, .int x1), (2, .int x2), (3, .int x3)]) hx hb dX8_grants_31 hl (by decide) rfl (fun ls hl => ?_)
    refine lv_iconst (v := (0 : Int32)) hx hb dX8_grants_33 (by decide) ?_
    refine lv_istore (lv' := [(7, .int (0 : Int32)), (6, .int x2), (4, .long v105), (0, .ref (g.2.1 (26 + 15 * n0))), (1, .int x1), (2, .int x2), (3, .int x3)]) hx hb dX8_grants_34 hl (by decide) rfl (fun ls hl => ?_)
    exact hC_36 N x1 x3 v105 x2 (0 : Int32) S106 H locs I ls (lv_sub hl [3, 4, 6, 2, 1, 0] rfl) hpf
  refine lv_iconst (v := (1 : Int32)) hx hb dX8_grants_4 (by decide) ?_
  exact k_retzc X I hr 5 dX8_grants_5 (by decide) hpf
