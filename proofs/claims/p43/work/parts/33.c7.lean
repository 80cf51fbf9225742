theorem fn_X9_X8_shownName : kFnI RX9 yX8_shownName cX8_shownName 5 (some .int) 1 201 := ⟨⟨kC_628, kC_121, kC_234, ⟨by decide +kernel, by decide +kernel, by decide +kernel⟩, by decide⟩, kC_246, kC_247⟩
theorem fn_X9_X8_placeOf : kFnI RX9 yX8_placeOf cX8_placeOf 2 (some .int) 1 198 := ⟨⟨kC_627, kC_121, kC_161, ⟨by decide +kernel, by decide +kernel, by decide +kernel⟩, by decide⟩, kC_166, kC_167⟩
theorem fn_X9_X8_isIncomplete : kFnI RX9 yX8_isIncomplete cX8_isIncomplete 4 (some .boolean) 1 439 := ⟨⟨kC_747, kC_121, kC_398, ⟨by decide +kernel, by decide +kernel, by decide +kernel⟩, by decide⟩, kC_748, kC_749⟩
theorem fn_X9_X8_clear : kFnI RX9 yX8_clear cX8_clear 1 none 0 431 := ⟨⟨kC_658, kC_121, kC_337, ⟨by decide +kernel, by decide +kernel, by decide +kernel⟩, by decide⟩, kC_348, kC_349⟩
theorem fn_X9_X4_hasGot : kFnI RX9 yX4_hasGot cX4_hasGot 2 (some .boolean) 1 260 := ⟨⟨kC_659, kC_284, kC_285, ⟨by decide +kernel, by decide +kernel, by decide +kernel⟩, by decide⟩, kC_660, kC_661⟩
theorem fn_X9_X8_take : kFnI RX9 yX8_take cX8_take 3 none 1 429 := ⟨⟨kC_578, kC_121, kC_388, ⟨by decide +kernel, by decide +kernel, by decide +kernel⟩, by decide⟩, kC_579, kC_580⟩
theorem fn_X9_X4_isToldThatKnows : kFnI RX9 yX4_isToldThatKnows cX4_isToldThatKnows 3 (some .boolean) 2 435 := ⟨⟨kC_672, kC_284, kC_278, ⟨by decide +kernel, by decide +kernel, by decide +kernel⟩, by decide⟩, kC_287, kC_288⟩
theorem fn_X9_X2_clear : kFnI RX9 yX2_clear cX2_clear 1 none 0 316 := ⟨⟨kC_706, kC_98, kC_90, ⟨by decide +kernel, by decide +kernel, by decide +kernel⟩, by decide⟩, kC_707, kC_708⟩
-- ===== X9_isInConflict =====
def pX9_isInConflict (N : Nat) (n0 : Nat) (x1 : Int32) (x2 : Int32) (S : kS) : Option (Int32 × kS) :=
    if x2 = (0 : Int32) then (
      bk (pX8_shownName N n0 x1 S) fun v105 S106 =>
      if v105 < (100 : Int32) then (
        some ((0 : Int32), S106))
      else (
        some ((1 : Int32), S106)))
    else (
      if x2 = (1 : Int32) then (
        bk (pX8_placeOf N n0 x1 S) fun v103 S104 =>
        if v103 = (-2 : Int32) then (
          some ((1 : Int32), S104))
        else (
          some ((0 : Int32), S104)))
      else (
        bk (pX8_isIncomplete N n0 x1 S) fun v101 S102 =>
        zk v101 S102))
set_option maxRecDepth 100000 in
set_option maxHeartbeats 4000000 in
theorem c_X9_isInConflict (l : Launch) (N : Nat) (n0 : Nat) (hn0 : n0 < 5) (x1 : Int32) (x2 : Int32) : kMet l yX9_isInConflict cX9_isInConflict 3 (some .boolean) 5 (fun g => [.ref (g.2.1 (26 + 15 * n0)), .int x1, .int x2]) rI (pX9_isInConflict N n0 x1 x2) := by
  refine kStart RX9 (by decide +kernel) rfl (fun g => [(0, .ref (g.2.1 (26 + 15 * n0))), (1, .int x1), (2, .int x2)]) (fun _ => Nat.le_of_ble_eq_true rfl) (fun _ => rfl) ?_
  intro dC dI g sz Si r Sf hpf p e s m args below meth c X hr H locs I ls hl
  have hx := X.1
  have hb := X.2.1
  unfold pX9_isInConflict at hpf
  refine lv_iload_n hx hb dX9_isInConflict_0 rfl (lv_at hl 2 rfl) ?_
  refine b_if_ne hx hb 20 1 dX9_isInConflict_1 (by decide) hpf (fun hpf => ?_) (fun hpf => ?_)
  · refine lv_iload_n hx hb dX9_isInConflict_20 rfl (lv_at hl 2 rfl) ?_
    refine lv_iconst (v := (1 : Int32)) hx hb dX9_isInConflict_21 (by decide) ?_
    refine b_icmp_ne hx hb 41 22 dX9_isInConflict_22 (by decide) hpf (fun hpf => ?_) (fun hpf => ?_)
    · refine lv_aload_n hx hb dX9_isInConflict_41 rfl (lv_at hl 0 rfl) ?_
      refine lv_iload_n hx hb dX9_isInConflict_42 rfl (lv_at hl 1 rfl) ?_
      refine k_cIi (rest := []) (As := [.int x1]) (d := 5) ⟨Nat.le_refl _, Nat.le_refl _⟩ X I fn_X9_X8_isIncomplete kCl_8 rfl (kO_T g Si n0 hn0) (c_X8_isIncomplete l N n0 hn0 x1) rfl (by decide) 43 dX9_isInConflict_43 rfl hl.1 rfl (Nat.le_of_ble_eq_true rfl) ⟨Nat.le_of_ble_eq_true rfl, Nat.le_of_ble_eq_true rfl⟩ hpf (fun v101 S102 H locs I hm hpf => ?_)
      exact k_retz X I hr 46 dX9_isInConflict_46 hpf
    refine lv_aload_n hx hb dX9_isInConflict_25 rfl (lv_at hl 0 rfl) ?_
    refine lv_iload_n hx hb dX9_isInConflict_26 rfl (lv_at hl 1 rfl) ?_
    refine k_cIi (rest := []) (As := [.int x1]) (d := 5) ⟨Nat.le_refl _, Nat.le_refl _⟩ X I fn_X9_X8_placeOf kCl_8 rfl (kO_T g Si n0 hn0) (c_X8_placeOf l N n0 hn0 x1) rfl (by decide) 27 dX9_isInConflict_27 rfl hl.1 rfl (Nat.le_of_ble_eq_true rfl) ⟨Nat.le_of_ble_eq_true rfl, Nat.le_of_ble_eq_true rfl⟩ hpf (fun v103 S104 H locs I hm hpf => ?_)
    refine lv_bipush (v := (-2 : Int32)) hx hb dX9_isInConflict_30 (by decide) ?_
    refine b_icmp_ne hx hb 39 32 dX9_isInConflict_32 (by decide) hpf (fun hpf => ?_) (fun hpf => ?_)
    · refine lv_iconst (v := (0 : Int32)) hx hb dX9_isInConflict_39 (by decide) ?_
      exact k_retzc X I hr 40 dX9_isInConflict_40 (by decide) hpf
    refine lv_iconst (v := (1 : Int32)) hx hb dX9_isInConflict_35 (by decide) ?_
    refine lv_goto (tgt := 40) hx hb dX9_isInConflict_36 (by decide) ?_
    exact k_retzc X I hr 40 dX9_isInConflict_40 (by decide) hpf
  refine lv_aload_n hx hb dX9_isInConflict_4 rfl (lv_at hl 0 rfl) ?_
  refine lv_iload_n hx hb dX9_isInConflict_5 rfl (lv_at hl 1 rfl) ?_
  refine k_cIi (rest := []) (As := [.int x1]) (d := 5) ⟨Nat.le_refl _, Nat.le_refl _⟩ X I fn_X9_X8_shownName kCl_8 rfl (kO_T g Si n0 hn0) (c_X8_shownName l N n0 hn0 x1) rfl (by decide) 6 dX9_isInConflict_6 rfl hl.1 rfl (Nat.le_of_ble_eq_true rfl) ⟨Nat.le_of_ble_eq_true rfl, Nat.le_of_ble_eq_true rfl⟩ hpf (fun v105 S106 H locs I hm hpf => ?_)
  refine lv_bipush (v := (100 : Int32)) hx hb dX9_isInConflict_9 (by decide) ?_
  refine b_icmp_lt hx hb 18 11 dX9_isInConflict_11 (by decide) hpf (fun hpf => ?_) (fun hpf => ?_)
  · refine lv_iconst (v := (0 : Int32)) hx hb dX9_isInConflict_18 (by decide) ?_
    exact k_retzc X I hr 19 dX9_isInConflict_19 (by decide) hpf
  refine lv_iconst (v := (1 : Int32)) hx hb dX9_isInConflict_14 (by decide) ?_
  refine lv_goto (tgt := 19) hx hb dX9_isInConflict_15 (by decide) ?_
  exact k_retzc X I hr 19 dX9_isInConflict_19 (by decide) hpf
-- ===== X9_redo =====
def pX9_redo_45 (N : Nat) (n1 : Nat) (n2 : Nat) (k_6 : Int32 → kS → Option (Unit × kS)) (x3 : Int32) (S : kS) : Option (Unit × kS) :=
    nm (x3 + (1 : Int32)) fun y101 =>
    k_6 y101 S
def pX9_redo_6 (N : Nat) (n1 : Nat) (n2 : Nat) : Nat → Int32 → kS → Option (Unit × kS)
  | 0 => fun _ _ => none
  | n_6 + 1 => fun x3 S =>
    bk (pLog_size N S) fun v102 S101 =>
    if v102 ≤ x3 then (
      some ((), S101))
    else (
      bk (pLog_get N x3 S101) fun v104 S103 =>
      gn v104 (kn S103) <|
      bk (pX4_hasGot N n2 v104 S103) fun v105 S106 =>
      if v105 = (0 : Int32) then (
        pX9_redo_45 N n1 n2 (pX9_redo_6 N n1 n2 n_6) x3 S106)
      else (
        bk (pX8_take N n1 v104 S106) fun v107 S108 =>
        pX9_redo_45 N n1 n2 (pX9_redo_6 N n1 n2 n_6) x3 S108))
def pX9_redo (N : Nat) (n1 : Nat) (n2 : Nat) (S : kS) : Option (Unit × kS) :=
    bk (pX8_clear N n1 S) fun v101 S102 =>
    pX9_redo_6 N n1 n2 N (0 : Int32) S102
set_option maxRecDepth 100000 in
set_option maxHeartbeats 4000000 in
theorem c_X9_redo (l : Launch) (N : Nat) (n1 : Nat) (hn1 : n1 < 5) (n2 : Nat) (hn2 : n2 < 4) : kMet l yX9_redo cX9_redo 5 none 6 (fun g => [.ref (g.2.1 0), .ref (g.2.1 (26 + 15 * n1)), .ref (g.2.1 (18 + 2 * n2))]) rU (pX9_redo N n1 n2) := by
  refine kStart RX9 (by decide +kernel) rfl (fun g => [(0, .ref (g.2.1 0)), (1, .ref (g.2.1 (26 + 15 * n1))), (2, .ref (g.2.1 (18 + 2 * n2)))]) (fun _ => Nat.le_of_ble_eq_true rfl) (fun _ => rfl) ?_
  intro dC dI g sz Si r Sf hpf p e s m args below meth c X hr H locs I ls hl
  have hx := X.1
  have hb := X.2.1
  unfold pX9_redo at hpf
  have hC_6 : ∀ (n_6 : Nat), ∀ (x3 : Int32) (S : kS) (H : Heap) (locs : List Loc), kV dC dI g (kAt g (kn Si) (km Si) (kp Si) sz) s Si S H locs → ∀ ls : Array Slot, lv_has ls 5 [(0, .ref (g.2.1 0)), (1, .ref (g.2.1 (26 + 15 * n1))), (2, .ref (g.2.1 (18 + 2 * n2))), (3, .int x3)] → pX9_redo_6 N n1 n2 n_6 x3 S = some (r, Sf) → W p l e (mRm 6) s m args below meth c H locs 0 0 (MQ below (kQ dC dI g sz Si (rU g r) Sf) args s 0 0 (kAt g (kn Si) (km Si) (kp Si) sz)) (F0 m 6 ls []) := by
    intro n_6
    induction n_6 with
    | zero =>
      intro x3 S H locs I ls hl hpf
      rw [pX9_redo_6] at hpf
      cases hpf
    | succ n_6 ih_6 =>
      have hC_45 : ∀ (x3 : Int32) (S : kS) (H : Heap) (locs : List Loc), kV dC dI g (kAt g (kn Si) (km Si) (kp Si) sz) s Si S H locs → ∀ ls : Array Slot, lv_has ls 5 [(0, .ref (g.2.1 0)), (1, .ref (g.2.1 (26 + 15 * n1))), (2, .ref (g.2.1 (18 + 2 * n2))), (3, .int x3)] → pX9_redo_45 N n1 n2 (pX9_redo_6 N n1 n2 n_6) x3 S = some (r, Sf) → W p l e (mRm 6) s m args below meth c H locs 0 0 (MQ below (kQ dC dI g sz Si (rU g r) Sf) args s 0 0 (kAt g (kn Si) (km Si) (kp Si) sz)) (F0 m 45 ls []) := by
        intro x3 S H locs I ls hl hpf
        unfold pX9_redo_45 at hpf
        refine m_iinc (w := (1 : Int32)) hx hb (fun y101 => [(3, .int y101), (0, .ref (g.2.1 0)), (1, .ref (g.2.1 (26 + 15 * n1))), (2, .ref (g.2.1 (18 + 2 * n2)))]) 45 dX9_redo_45 hl (k := 3) rfl (by decide) (by decide) (fun _ => rfl) hpf (fun y101 ls hl hpf => ?_)
        refine lv_goto (tgt := 6) hx hb dX9_redo_48 (by decide) ?_
        exact ih_6 y101 S H locs I ls (lv_sub hl [1, 2, 3, 0] rfl) hpf
      intro x3 S H locs I ls hl hpf
      rw [pX9_redo_6] at hpf
      refine lv_iload_n hx hb dX9_redo_6 rfl (lv_at hl 3 rfl) ?_
      refine lv_aload_n hx hb dX9_redo_7 rfl (lv_at hl 0 rfl) ?_
      refine k_get (k := 0) X I kCl_9 (kO_X g S) 5 (by decide) rfl kC_417 8 dX9_redo_8 ?_
      refine k_callL (Rv := rI) (rest := [.int x3]) (As := []) (d := 6) ⟨Nat.le_refl _, Nat.le_refl _⟩ X I fn_X9_Log_size rfl (c_Log_size l N) rfl (by decide) 11 dX9_redo_11 rfl hl.1 rfl (Nat.le_of_ble_eq_true rfl) ⟨Nat.le_of_ble_eq_true rfl, Nat.le_of_ble_eq_true rfl⟩ hpf (fun v102 S101 H locs I hm hpf => ?_)
      refine b_icmp_ge hx hb 51 14 dX9_redo_14 (by decide) hpf (fun hpf => ?_) (fun hpf => ?_)
      · exact k_retv X I hr 51 dX9_redo_51 hpf
      refine lv_aload_n hx hb dX9_redo_17 rfl (lv_at hl 0 rfl) ?_
      refine k_get (k := 0) X I kCl_9 (kO_X g S101) 5 (by decide) rfl kC_417 18 dX9_redo_18 ?_
      refine lv_iload_n hx hb dX9_redo_21 rfl (lv_at hl 3 rfl) ?_
      refine k_callL (Rv := rC) (rest := []) (As := [.int x3]) (d := 6) ⟨Nat.le_refl _, Nat.le_refl _⟩ X I fn_X9_Log_get rfl (c_Log_get l N x3) rfl (by decide) 22 dX9_redo_22 rfl hl.1 rfl (Nat.le_of_ble_eq_true rfl) ⟨Nat.le_of_ble_eq_true rfl, Nat.le_of_ble_eq_true rfl⟩ hpf (fun v104 S103 H locs I hm hpf => ?_)
      refine k_castU X I kC_582 25 dX9_redo_25 hpf (fun hpf => ?_)
      refine lv_astore (lv' := [(4, .ref (g.2.2.1 v104)), (0, .ref (g.2.1 0)), (1, .ref (g.2.1 (26 + 15 * n1))), (2, .ref (g.2.1 (18 + 2 * n2))), (3, .int x3)]) hx hb dX9_redo_28 hl (by decide) rfl (fun ls hl => ?_)
      refine lv_aload_n hx hb dX9_redo_30 rfl (lv_at hl 3 rfl) ?_
      refine lv_aload hx hb dX9_redo_31 (lv_at hl 0 rfl) ?_
      refine k_cIi (rest := []) (As := [.ref (g.2.2.1 v104)]) (d := 6) ⟨Nat.le_refl _, Nat.le_refl _⟩ X I fn_X9_X4_hasGot kCl_4 rfl (kO_M g S103 n2 hn2) (c_X4_hasGot l N n2 hn2 v104) rfl (by decide) 33 dX9_redo_33 rfl hl.1 rfl (Nat.le_of_ble_eq_true rfl) ⟨Nat.le_of_ble_eq_true rfl, Nat.le_of_ble_eq_true rfl⟩ hpf (fun v105 S106 H locs I hm hpf => ?_)
      refine b_if_eq hx hb 45 36 dX9_redo_36 (by decide) hpf (fun hpf => ?_) (fun hpf => ?_)
      · exact hC_45 x3 S106 H locs I ls (lv_sub hl [1, 2, 3, 4] rfl) hpf
      refine lv_aload_n hx hb dX9_redo_39 rfl (lv_at hl 2 rfl) ?_
      refine lv_aload hx hb dX9_redo_40 (lv_at hl 0 rfl) ?_
      refine k_cIv (rest := []) (As := [.ref (g.2.2.1 v104)]) (d := 6) ⟨Nat.le_refl _, Nat.le_refl _⟩ X I fn_X9_X8_take kCl_8 rfl (kO_T g S106 n1 hn1) (c_X8_take l N n1 hn1 v104) rfl (by decide) 42 dX9_redo_42 rfl hl.1 rfl (Nat.le_of_ble_eq_true rfl) ⟨Nat.le_of_ble_eq_true rfl, Nat.le_of_ble_eq_true rfl⟩ hpf (fun v107 S108 H locs I hm hpf => ?_)
      exact hC_45 x3 S108 H locs I ls (lv_sub hl [1, 2, 3, 4] rfl) hpf
  refine lv_aload_n hx hb dX9_redo_0 rfl (lv_at hl 1 rfl) ?_
  refine k_cIv (rest := []) (As := []) (d := 6) ⟨Nat.le_refl _, Nat.le_refl _⟩ X I fn_X9_X8_clear kCl_8 rfl (kO_T g Si n1 hn1) (c_X8_clear l N n1 hn1) rfl (by decide) 1 dX9_redo_1 rfl hl.1 rfl (Nat.le_of_ble_eq_true rfl) ⟨Nat.le_of_ble_eq_true rfl, Nat.le_of_ble_eq_true rfl⟩ hpf (fun v101 S102 H locs I hm hpf => ?_)
  refine lv_iconst (v := (0 : Int32)) hx hb dX9_redo_4 (by decide) ?_
  refine lv_istore_n (lv' := [(3, .int (0 : Int32)), (0, .ref (g.2.1 0)), (1, .ref (g.2.1 (26 + 15 * n1))), (2, .ref (g.2.1 (18 + 2 * n2)))]) hx hb dX9_redo_5 rfl hl (by decide) rfl (fun ls hl => ?_)
  exact hC_6 N (0 : Int32) S102 H locs I ls (lv_sub hl [1, 2, 3, 0] rfl) hpf
-- ===== X9_deletionsKnownBy =====
def pX9_deletionsKnownBy_70 (N : Nat) (n1 : Nat) (k_5 : Int32 → Int64 → Int32 → kS → Option (Int64 × kS)) (x2 : Int32) (w3 : Int64) (x5 : Int32) (S : kS) : Option (Int64 × kS) :=
    nm (x5 + (1 : Int32)) fun y101 =>
    k_5 x2 w3 y101 S
def pX9_deletionsKnownBy_5 (N : Nat) (n1 : Nat) : Nat → Int32 → Int64 → Int32 → kS → Option (Int64 × kS)
  | 0 => fun _ _ _ _ => none
  | n_5 + 1 => fun x2 w3 x5 S =>
    bk (pLog_size N S) fun v102 S101 =>
    if v102 ≤ x5 then (
      some (w3, S101))
    else (
      bk (pLog_get N x5 S101) fun v104 S103 =>
      gn v104 (kn S103) <|
      gn v104 (kn S103) <|
      if (kF S103 v104 0) = (8 : Int32) then (
        bk (pX4_hasGot N n1 v104 S103) fun v105 S106 =>
        if v105 = (0 : Int32) then (
          pX9_deletionsKnownBy_70 N n1 (pX9_deletionsKnownBy_5 N n1 n_5) x2 w3 x5 S106)
        else (
          bk (pX4_isToldThatKnows N n1 x2 v104 S106) fun v107 S108 =>
          if v107 = (0 : Int32) then (
            pX9_deletionsKnownBy_70 N n1 (pX9_deletionsKnownBy_5 N n1 n_5) x2 w3 x5 S108)
          else (
            gn v104 (kn S108) <|
            nml (w3 ||| ((1 : Int64) <<< ((kF S108 v104 1).toInt64 &&& 63))) fun y109 =>
            pX9_deletionsKnownBy_70 N n1 (pX9_deletionsKnownBy_5 N n1 n_5) x2 y109 x5 S108)))
      else (
        pX9_deletionsKnownBy_70 N n1 (pX9_deletionsKnownBy_5 N n1 n_5) x2 w3 x5 S103))
def pX9_deletionsKnownBy (N : Nat) (n1 : Nat) (x2 : Int32) (S : kS) : Option (Int64 × kS) :=
    pX9_deletionsKnownBy_5 N n1 N x2 (0 : Int64) (0 : Int32) S
set_option maxRecDepth 100000 in
set_option maxHeartbeats 4000000 in
theorem c_X9_deletionsKnownBy (l : Launch) (N : Nat) (n1 : Nat) (hn1 : n1 < 4) (x2 : Int32) : kMet l yX9_deletionsKnownBy cX9_deletionsKnownBy 7 (some .long) 3 (fun g => [.ref (g.2.1 0), .ref (g.2.1 (18 + 2 * n1)), .int x2]) rJ (pX9_deletionsKnownBy N n1 x2) := by
  refine kStart RX9 (by decide +kernel) rfl (fun g => [(0, .ref (g.2.1 0)), (1, .ref (g.2.1 (18 + 2 * n1))), (2, .int x2)]) (fun _ => Nat.le_of_ble_eq_true rfl) (fun _ => rfl) ?_
  intro dC dI g sz Si r Sf hpf p e s m args below meth c X hr H locs I ls hl
  have hx := X.1
  have hb := X.2.1
  unfold pX9_deletionsKnownBy at hpf
  have hC_5 : ∀ (n_5 : Nat), ∀ (x2 : Int32) (w3 : Int64) (x5 : Int32) (S : kS) (H : Heap) (locs : List Loc), kV dC dI g (kAt g (kn Si) (km Si) (kp Si) sz) s Si S H locs → ∀ ls : Array Slot, lv_has ls 7 [(0, .ref (g.2.1 0)), (1, .ref (g.2.1 (18 + 2 * n1))), (2, .int x2), (3, .long w3), (5, .int x5)] → pX9_deletionsKnownBy_5 N n1 n_5 x2 w3 x5 S = some (r, Sf) → W p l e (mRm 3) s m args below meth c H locs 0 0 (MQ below (kQ dC dI g sz Si (rJ g r) Sf) args s 0 0 (kAt g (kn Si) (km Si) (kp Si) sz)) (F0 m 5 ls []) := by
    intro n_5
    induction n_5 with
    | zero =>
      intro x2 w3 x5 S H locs I ls hl hpf
      rw [pX9_deletionsKnownBy_5] at hpf
      cases hpf
    | succ n_5 ih_5 =>
      have hC_70 : ∀ (x2 : Int32) (w3 : Int64) (x5 : Int32) (S : kS) (H : Heap) (locs : List Loc), kV dC dI g (kAt g (kn Si) (km Si) (kp Si) sz) s Si S H locs → ∀ ls : Array Slot, lv_has ls 7 [(0, .ref (g.2.1 0)), (1, .ref (g.2.1 (18 + 2 * n1))), (2, .int x2), (3, .long w3), (5, .int x5)] → pX9_deletionsKnownBy_70 N n1 (pX9_deletionsKnownBy_5 N n1 n_5) x2 w3 x5 S = some (r, Sf) → W p l e (mRm 3) s m args below meth c H locs 0 0 (MQ below (kQ dC dI g sz Si (rJ g r) Sf) args s 0 0 (kAt g (kn Si) (km Si) (kp Si) sz)) (F0 m 70 ls []) := by
        intro x2 w3 x5 S H locs I ls hl hpf
        unfold pX9_deletionsKnownBy_70 at hpf
        refine m_iinc (w := (1 : Int32)) hx hb (fun y101 => [(5, .int y101), (0, .ref (g.2.1 0)), (1, .ref (g.2.1 (18 + 2 * n1))), (2, .int x2), (3, .long w3)]) 70 dX9_deletionsKnownBy_70 hl (k := 4) rfl (by decide) (by decide) (fun _ => rfl) hpf (fun y101 ls hl hpf => ?_)
        refine lv_goto (tgt := 5) hx hb dX9_deletionsKnownBy_73 (by decide) ?_
        exact ih_5 x2 w3 y101 S H locs I ls (lv_sub hl [1, 2, 3, 4, 0] rfl) hpf
      intro x2 w3 x5 S H locs I ls hl hpf
      rw [pX9_deletionsKnownBy_5] at hpf
      refine lv_iload hx hb dX9_deletionsKnownBy_5 (lv_at hl 4 rfl) ?_
      refine lv_aload_n hx hb dX9_deletionsKnownBy_7 rfl (lv_at hl 0 rfl) ?_
      refine k_get (k := 0) X I kCl_9 (kO_X g S) 5 (by decide) rfl kC_417 8 dX9_deletionsKnownBy_8 ?_
      refine k_callL (Rv := rI) (rest := [.int x5]) (As := []) (d := 3) ⟨Nat.le_refl _, Nat.le_refl _⟩ X I fn_X9_Log_size rfl (c_Log_size l N) rfl (by decide) 11 dX9_deletionsKnownBy_11 rfl hl.1 rfl (Nat.le_of_ble_eq_true rfl) ⟨Nat.le_of_ble_eq_true rfl, Nat.le_of_ble_eq_true rfl⟩ hpf (fun v102 S101 H locs I hm hpf => ?_)
      refine b_icmp_ge hx hb 76 14 dX9_deletionsKnownBy_14 (by decide) hpf (fun hpf => ?_) (fun hpf => ?_)
      · refine lv_lload_n hx hb dX9_deletionsKnownBy_76 rfl (lv_at hl 3 rfl) ?_
        exact k_retl X I hr 77 dX9_deletionsKnownBy_77 hpf
      refine lv_aload_n hx hb dX9_deletionsKnownBy_17 rfl (lv_at hl 0 rfl) ?_
      refine k_get (k := 0) X I kCl_9 (kO_X g S101) 5 (by decide) rfl kC_417 18 dX9_deletionsKnownBy_18 ?_
      refine lv_iload hx hb dX9_deletionsKnownBy_21 (lv_at hl 4 rfl) ?_
      refine k_callL (Rv := rC) (rest := []) (As := [.int x5]) (d := 3) ⟨Nat.le_refl _, Nat.le_refl _⟩ X I fn_X9_Log_get rfl (c_Log_get l N x5) rfl (by decide) 23 dX9_deletionsKnownBy_23 rfl hl.1 rfl (Nat.le_of_ble_eq_true rfl) ⟨Nat.le_of_ble_eq_true rfl, Nat.le_of_ble_eq_true rfl⟩ hpf (fun v104 S103 H locs I hm hpf => ?_)
      refine k_castU X I kC_582 26 dX9_deletionsKnownBy_26 hpf (fun hpf => ?_)
      refine lv_astore (lv' := [(6, .ref (g.2.2.1 v104)), (0, .ref (g.2.1 0)), (1, .ref (g.2.1 (18 + 2 * n1))), (2, .int x2), (3, .long w3), (5, .int x5)]) hx hb dX9_deletionsKnownBy_29 hl (by decide) rfl (fun ls hl => ?_)
      refine lv_aload hx hb dX9_deletionsKnownBy_31 (lv_at hl 0 rfl) ?_
      refine k_getU X I 0 (by decide) rfl kC_671 33 dX9_deletionsKnownBy_33 hpf (fun hpf => ?_)
      refine lv_bipush (v := (8 : Int32)) hx hb dX9_deletionsKnownBy_36 (by decide) ?_
      refine b_icmp_ne hx hb 70 38 dX9_deletionsKnownBy_38 (by decide) hpf (fun hpf => ?_) (fun hpf => ?_)
      · exact hC_70 x2 w3 x5 S103 H locs I ls (lv_sub hl [1, 2, 3, 4, 5] rfl) hpf
      refine lv_aload_n hx hb dX9_deletionsKnownBy_41 rfl (lv_at hl 2 rfl) ?_
      refine lv_aload hx hb dX9_deletionsKnownBy_42 (lv_at hl 0 rfl) ?_
      refine k_cIi (rest := []) (As := [.ref (g.2.2.1 v104)]) (d := 3) ⟨Nat.le_refl _, Nat.le_refl _⟩ X I fn_X9_X4_hasGot kCl_4 rfl (kO_M g S103 n1 hn1) (c_X4_hasGot l N n1 hn1 v104) rfl (by decide) 44 dX9_deletionsKnownBy_44 rfl hl.1 rfl (Nat.le_of_ble_eq_true rfl) ⟨Nat.le_of_ble_eq_true rfl, Nat.le_of_ble_eq_true rfl⟩ hpf (fun v105 S106 H locs I hm hpf => ?_)
      refine b_if_eq hx hb 70 47 dX9_deletionsKnownBy_47 (by decide) hpf (fun hpf => ?_) (fun hpf => ?_)
      · exact hC_70 x2 w3 x5 S106 H locs I ls (lv_sub hl [1, 2, 3, 4, 5] rfl) hpf
      refine lv_aload_n hx hb dX9_deletionsKnownBy_50 rfl (lv_at hl 2 rfl) ?_
      refine lv_iload_n hx hb dX9_deletionsKnownBy_51 rfl (lv_at hl 3 rfl) ?_
      refine lv_aload hx hb dX9_deletionsKnownBy_52 (lv_at hl 0 rfl) ?_
      refine k_cIi (rest := []) (As := [.int x2, .ref (g.2.2.1 v104)]) (d := 3) ⟨Nat.le_refl _, Nat.le_refl _⟩ X I fn_X9_X4_isToldThatKnows kCl_4 rfl (kO_M g S106 n1 hn1) (c_X4_isToldThatKnows l N n1 hn1 x2 v104) rfl (by decide) 54 dX9_deletionsKnownBy_54 rfl hl.1 rfl (Nat.le_of_ble_eq_true rfl) ⟨Nat.le_of_ble_eq_true rfl, Nat.le_of_ble_eq_true rfl⟩ hpf (fun v107 S108 H locs I hm hpf => ?_)
      refine b_if_eq hx hb 70 57 dX9_deletionsKnownBy_57 (by decide) hpf (fun hpf => ?_) (fun hpf => ?_)
      · exact hC_70 x2 w3 x5 S108 H locs I ls (lv_sub hl [1, 2, 3, 4, 5] rfl) hpf
      refine lv_lload_n hx hb dX9_deletionsKnownBy_60 rfl (lv_at hl 4 rfl) ?_
      refine lv_lconst (v := (1 : Int64)) hx hb dX9_deletionsKnownBy_61 (by decide) ?_
      refine lv_aload hx hb dX9_deletionsKnownBy_62 (lv_at hl 0 rfl) ?_
      refine k_getU X I 1 (by decide) rfl kC_585 64 dX9_deletionsKnownBy_64 hpf (fun hpf => ?_)
      refine lv_lshl hx hb dX9_deletionsKnownBy_67 rfl ?_
      refine lv_lor hx hb dX9_deletionsKnownBy_68 ?_
      refine k_lsto_n hx hb (fun y109 => [(3, .long y109), (6, .ref (g.2.2.1 v104)), (0, .ref (g.2.1 0)), (1, .ref (g.2.1 (18 + 2 * n1))), (2, .int x2), (5, .int x5)]) 69 dX9_deletionsKnownBy_69 rfl hl (by decide) (fun _ => rfl) hpf (fun y109 ls hl hpf => ?_)
      exact hC_70 x2 y109 x5 S108 H locs I ls (lv_sub hl [2, 3, 4, 0, 5] rfl) hpf
  refine lv_lconst (v := (0 : Int64)) hx hb dX9_deletionsKnownBy_0 (by decide) ?_
  refine lv_lstore_n (lv' := [(3, .long (0 : Int64)), (0, .ref (g.2.1 0)), (1, .ref (g.2.1 (18 + 2 * n1))), (2, .int x2)]) hx hb dX9_deletionsKnownBy_1 rfl hl (by decide) rfl (fun ls hl => ?_)
  refine lv_iconst (v := (0 : Int32)) hx hb dX9_deletionsKnownBy_2 (by decide) ?_
  refine lv_istore (lv' := [(5, .int (0 : Int32)), (3, .long (0 : Int64)), (0, .ref (g.2.1 0)), (1, .ref (g.2.1 (18 + 2 * n1))), (2, .int x2)]) hx hb dX9_deletionsKnownBy_3 hl (by decide) rfl (fun ls hl => ?_)
  exact hC_5 N x2 (0 : Int64) (0 : Int32) Si H locs I ls (lv_sub hl [2, 3, 4, 1, 0] rfl) hpf
-- ===== X9_undraft =====
def pX9_undraft (N : Nat) (S : kS) : Option (Int32 × kS) :=
    nm (kI S 5) fun y101 =>
    svk (sI S 5 (0 : Int32)) fun S102 =>
    some (y101, S102)
set_option maxRecDepth 100000 in
set_option maxHeartbeats 4000000 in
theorem c_X9_undraft (l : Launch) (N : Nat) : kMet l yX9_undraft cX9_undraft 2 (some .int) 0 (fun g => [.ref (g.2.1 0)]) rI (pX9_undraft N) := by
  refine kStart RX9 (by decide +kernel) rfl (fun g => [(0, .ref (g.2.1 0))]) (fun _ => Nat.le_of_ble_eq_true rfl) (fun _ => rfl) ?_
  intro dC dI g sz Si r Sf hpf p e s m args below meth c X hr H locs I ls hl
  have hx := X.1
  have hb := X.2.1
  unfold pX9_undraft at hpf
  refine lv_aload_n hx hb dX9_undraft_0 rfl (lv_at hl 0 rfl) ?_
  refine k_get (k := 0) X I kCl_9 (kO_X g Si) 1 (by decide) rfl kC_405 1 dX9_undraft_1 ?_
  refine k_get (k := 0) X I kCl_1 (kO_G g Si) 2 (by decide) rfl kC_487 4 dX9_undraft_4 ?_
  refine m_isto_n hx hb (fun y101 => [(1, .int y101), (0, .ref (g.2.1 0))]) 7 dX9_undraft_7 rfl hl (by decide) (fun _ => rfl) hpf (fun y101 ls hl hpf => ?_)
  refine lv_aload_n hx hb dX9_undraft_8 rfl (lv_at hl 1 rfl) ?_
  refine k_get (k := 0) X I kCl_9 (kO_X g Si) 1 (by decide) rfl kC_405 9 dX9_undraft_9 ?_
  refine lv_iconst (v := (0 : Int32)) hx hb dX9_undraft_12 (by decide) ?_
  refine k_put (ty := .int) X I kCl_1 tyX1_ok nmX1 (kO_G g Si) 2 (by decide) (Nat.le_of_ble_eq_true rfl) (kP_G2 g Si _) ⟨rfl, rfl, rfl⟩ kC_487 rfl (by decide +kernel) rfl rfl 13 dX9_undraft_13 hpf (fun S102 H locs I hm hpf => ?_)
  refine lv_iload_n hx hb dX9_undraft_16 rfl (lv_at hl 0 rfl) ?_
  exact k_reti X I hr 17 dX9_undraft_17 hpf
-- ===== X9_wipe =====
def pX9_wipe (N : Nat) (S : kS) : Option (Int32 × kS) :=
    nm (kI S 6) fun y101 =>
    bk (pX2_clear N S) fun v102 S103 =>
    some (y101, S103)
set_option maxRecDepth 100000 in
set_option maxHeartbeats 4000000 in
theorem c_X9_wipe (l : Launch) (N : Nat) : kMet l yX9_wipe cX9_wipe 2 (some .int) 1 (fun g => [.ref (g.2.1 0)]) rI (pX9_wipe N) := by
  refine kStart RX9 (by decide +kernel) rfl (fun g => [(0, .ref (g.2.1 0))]) (fun _ => Nat.le_of_ble_eq_true rfl) (fun _ => rfl) ?_
  intro dC dI g sz Si r Sf hpf p e s m args below meth c X hr H locs I ls hl
  have hx := X.1
  have hb := X.2.1
  unfold pX9_wipe at hpf
  refine lv_aload_n hx hb dX9_wipe_0 rfl (lv_at hl 0 rfl) ?_
  refine k_get (k := 0) X I kCl_9 (kO_X g Si) 2 (by decide) rfl kC_408 1 dX9_wipe_1 ?_
  refine k_get (k := 0) X I kCl_2 (kO_P g Si) 5 (by decide) rfl kC_681 4 dX9_wipe_4 ?_
  refine m_isto_n hx hb (fun y101 => [(1, .int y101), (0, .ref (g.2.1 0))]) 7 dX9_wipe_7 rfl hl (by decide) (fun _ => rfl) hpf (fun y101 ls hl hpf => ?_)
  refine lv_aload_n hx hb dX9_wipe_8 rfl (lv_at hl 1 rfl) ?_
  refine k_get (k := 0) X I kCl_9 (kO_X g Si) 2 (by decide) rfl kC_408 9 dX9_wipe_9 ?_
  refine k_cIv (rest := []) (As := []) (d := 1) ⟨Nat.le_refl _, Nat.le_refl _⟩ X I fn_X9_X2_clear kCl_2 rfl (kO_P g Si) (c_X2_clear l N) rfl (by decide) 12 dX9_wipe_12 rfl hl.1 rfl (Nat.le_of_ble_eq_true rfl) ⟨Nat.le_of_ble_eq_true rfl, Nat.le_of_ble_eq_true rfl⟩ hpf (fun v102 S103 H locs I hm hpf => ?_)
  refine lv_iload_n hx hb dX9_wipe_15 rfl (lv_at hl 0 rfl) ?_
  exact k_reti X I hr 16 dX9_wipe_16 hpf
