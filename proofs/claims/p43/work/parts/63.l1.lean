-- ===== the law's low =====
def pL_low (N : Nat) (x0 : Int32) (x1 : Int32) (L : lS) : Option (Int32 × lS) :=
    gz x1 <|
    some ((x0 &&& (2147483647 : Int32)) - (x0 &&& (2147483647 : Int32)) / x1 * x1, L)
theorem fL_low : lFnS yL_low (.code yL_low cL_low 2 (some .int)) 2 119 := ⟨kT_100, kT_101, kT_3, rfl, by decide +kernel⟩
set_option maxRecDepth 100000 in
set_option maxHeartbeats 4000000 in
theorem c_L_low (l : Launch) (hlt : l.stackTraces = false) (N : Nat) (x0 : Int32) (x1 : Int32) : lMet l yL_low (.code yL_low cL_low 2 (some .int)) 0 0 0 0 (fun ca a => [.int x0, .int x1]) qI (fun S L => lup S (pL_low N x0 x1 L)) := by
  refine l_startA hlt (by decide +kernel) rfl (fun ca a => [(0, .int x0), (1, .int x1)]) (fun _ _ => Nat.le_of_ble_eq_true rfl) (fun _ _ => rfl) ?_
  intro dC dI g a sz Si Li r Lf hpf p e s m args below meth c X hr H locs I ls hl
  have hx := X.1
  have hb := X.2.1
  unfold pL_low at hpf
  refine lv_iload_n hx hb dL_low_0 rfl (lv_at hl 0 rfl) ?_
  refine lv_ldc (v := (2147483647 : Int32)) hx hb X.2.2.2.1 (X.2.2.2.2.1 _ (kT_4)) dL_low_1 ?_
  refine lv_iand hx hb dL_low_3 ?_
  refine lv_iload_n hx hb dL_low_4 rfl (lv_at hl 1 rfl) ?_
  obtain ⟨hz9, hpf⟩ := gz_some hpf
  refine lv_irem hx hb dL_low_5 hz9 ?_
  exact l_retiA X I hr 6 dL_low_6 hpf
-- ===== the law's known =====
def pL_known (N : Nat) (x0 : Int32) (x1 : Int32) (L : lS) : Option (Int32 × lS) :=
    gd x1 41 <|
    gd x1 41 <|
    gd (((20 : Int32) * x0) + ((aI L 2 x1.toNatClampNeg) - (aI L 2 x1.toNatClampNeg) / (4 : Int32) * (4 : Int32))) 64 <|
    if (aI L 8 (((20 : Int32) * x0) + ((aI L 2 x1.toNatClampNeg) - (aI L 2 x1.toNatClampNeg) / (4 : Int32) * (4 : Int32))).toNatClampNeg) ≤ (aI L 3 x1.toNatClampNeg) then (
      zlA (0 : Int32) L)
    else (
      zlA (1 : Int32) L)
theorem fL_known : lFnS yL_known (.code yL_known cL_known 5 (some .boolean)) 5 73 := ⟨kT_61, kT_62, kT_51, rfl, by decide +kernel⟩
set_option maxRecDepth 100000 in
set_option maxHeartbeats 4000000 in
theorem c_L_known (l : Launch) (hlt : l.stackTraces = false) (N : Nat) (x0 : Int32) (x1 : Int32) : lMet l yL_known (.code yL_known cL_known 5 (some .boolean)) 0 0 0 0 (fun ca a => [.int x0, .int x1, .ref (a 2), .ref (a 3), .ref (a 8)]) qI (fun S L => lup S (pL_known N x0 x1 L)) := by
  refine l_startA hlt (by decide +kernel) rfl (fun ca a => [(0, .int x0), (1, .int x1), (2, .ref (a 2)), (3, .ref (a 3)), (4, .ref (a 8))]) (fun _ _ => Nat.le_of_ble_eq_true rfl) (fun _ _ => rfl) ?_
  intro dC dI g a sz Si Li r Lf hpf p e s m args below meth c X hr H locs I ls hl
  have hx := X.1
  have hb := X.2.1
  unfold pL_known at hpf
  refine lv_aload_n hx hb dL_known_0 rfl (lv_at hl 3 rfl) ?_
  refine lv_iload_n hx hb dL_known_1 rfl (lv_at hl 1 rfl) ?_
  refine l_iald X I lR_3 2 dL_known_2 hpf (fun hpf => ?_)
  refine lv_aload hx hb dL_known_3 (lv_at hl 4 rfl) ?_
  refine lv_bipush (v := (20 : Int32)) hx hb dL_known_5 (by decide) ?_
  refine lv_iload_n hx hb dL_known_7 rfl (lv_at hl 0 rfl) ?_
  refine lv_imul hx hb dL_known_8 ?_
  refine lv_aload_n hx hb dL_known_9 rfl (lv_at hl 2 rfl) ?_
  refine lv_iload_n hx hb dL_known_10 rfl (lv_at hl 1 rfl) ?_
  refine l_iald X I lR_2 11 dL_known_11 hpf (fun hpf => ?_)
  refine lv_iconst (v := (4 : Int32)) hx hb dL_known_12 (by decide) ?_
  refine lv_irem hx hb dL_known_13 (by decide) ?_
  refine lv_iadd hx hb dL_known_14 ?_
  refine l_iald X I lR_8 15 dL_known_15 hpf (fun hpf => ?_)
  refine b_icmp_ge hx hb 23 16 dL_known_16 (by decide) hpf (fun hpf => ?_) (fun hpf => ?_)
  · refine lv_iconst (v := (0 : Int32)) hx hb dL_known_23 (by decide) ?_
    exact l_retzA X I hr 24 dL_known_24 hpf
  refine lv_iconst (v := (1 : Int32)) hx hb dL_known_19 (by decide) ?_
  refine lv_goto (tgt := 24) hx hb dL_known_20 (by decide) ?_
  exact l_retzA X I hr 24 dL_known_24 hpf
-- ===== the law's match =====
def pL_match (N : Nat) (x0 : Int32) (x1 : Int32) (L : lS) : Option (Int64 × lS) :=
    gd ((13 : Int32) + x0) 20 <|
    if (aI L 0 ((13 : Int32) + x0).toNatClampNeg) ≤ (1 : Int32) then (
      some ((1 : Int64) <<< (x1.toInt64 &&& 63), L))
    else (
      some ((1023 : Int64) <<< (((x1 / (10 : Int32)) * (10 : Int32)).toInt64 &&& 63), L))
theorem fL_match : lFnS yL_match (.code yL_match cL_match 3 (some .long)) 3 65 := ⟨kT_56, kT_57, kT_52, rfl, by decide +kernel⟩
set_option maxRecDepth 100000 in
set_option maxHeartbeats 4000000 in
theorem c_L_match (l : Launch) (hlt : l.stackTraces = false) (N : Nat) (x0 : Int32) (x1 : Int32) : lMet l yL_match (.code yL_match cL_match 3 (some .long)) 0 0 0 0 (fun ca a => [.int x0, .int x1, .ref (a 0)]) qJ (fun S L => lup S (pL_match N x0 x1 L)) := by
  refine l_startA hlt (by decide +kernel) rfl (fun ca a => [(0, .int x0), (1, .int x1), (2, .ref (a 0))]) (fun _ _ => Nat.le_of_ble_eq_true rfl) (fun _ _ => rfl) ?_
  intro dC dI g a sz Si Li r Lf hpf p e s m args below meth c X hr H locs I ls hl
  have hx := X.1
  have hb := X.2.1
  unfold pL_match at hpf
  refine lv_aload_n hx hb dL_match_0 rfl (lv_at hl 2 rfl) ?_
  refine lv_bipush (v := (13 : Int32)) hx hb dL_match_1 (by decide) ?_
  refine lv_iload_n hx hb dL_match_3 rfl (lv_at hl 0 rfl) ?_
  refine lv_iadd hx hb dL_match_4 ?_
  refine l_iald X I lR_0 5 dL_match_5 hpf (fun hpf => ?_)
  refine lv_iconst (v := (1 : Int32)) hx hb dL_match_6 (by decide) ?_
  refine b_icmp_le hx hb 24 7 dL_match_7 (by decide) hpf (fun hpf => ?_) (fun hpf => ?_)
  · refine lv_lconst (v := (1 : Int64)) hx hb dL_match_24 (by decide) ?_
    refine lv_iload_n hx hb dL_match_25 rfl (lv_at hl 1 rfl) ?_
    refine lv_lshl hx hb dL_match_26 rfl ?_
    exact l_retlA X I hr 27 dL_match_27 hpf
  refine lv_ldc2 (v := (1023 : Int64)) hx hb X.2.2.2.1 (X.2.2.2.2.1 _ (kT_53)) dL_match_10 ?_
  refine lv_iload_n hx hb dL_match_13 rfl (lv_at hl 1 rfl) ?_
  refine lv_bipush (v := (10 : Int32)) hx hb dL_match_14 (by decide) ?_
  refine lv_idiv hx hb dL_match_16 (by decide) ?_
  refine lv_bipush (v := (10 : Int32)) hx hb dL_match_17 (by decide) ?_
  refine lv_imul hx hb dL_match_19 ?_
  refine lv_lshl hx hb dL_match_20 rfl ?_
  refine lv_goto (tgt := 27) hx hb dL_match_21 (by decide) ?_
  exact l_retlA X I hr 27 dL_match_27 hpf
-- ===== the law's put =====
def pL_put_43 (N : Nat) (wt0 : Int64) (t1 : Int32) (x2 : Int32) (x5 : Int32) (L : lS) : Option (Unit × lS) :=
    gd t1 36 <| slv (uJ L 10 t1.toNatClampNeg wt0) fun L101 =>
    gd x5 36 <|
    gd x5 36 <| slv (uJ L101 10 x5.toNatClampNeg ((aJ L101 10 x5.toNatClampNeg) ||| ((1 : Int64) <<< (x2.toInt64 &&& 63)))) fun L102 =>
    some ((), L102)
def pL_put (N : Nat) (x0 : Int32) (x1 : Int32) (x2 : Int32) (L : lS) : Option (Unit × lS) :=
    nm (((3 : Int32) * x0) + x1) fun y101 =>
    gd ((13 : Int32) + x1) 20 <|
    if ((aI L 0 ((13 : Int32) + x1).toNatClampNeg) - (aI L 0 ((13 : Int32) + x1).toNatClampNeg) / (2 : Int32) * (2 : Int32)) = (1 : Int32) then (
      pL_put_43 N (0 : Int64) y101 x2 y101 L)
    else (
      gd y101 36 <|
      lba (pL_match N x1 x2 L) fun v102 L103 =>
      pL_put_43 N ((aJ L 10 y101.toNatClampNeg) &&& (v102 ^^^ (-1 : Int64))) y101 x2 y101 L103)
theorem fL_put : lFnS yL_put (.code yL_put cL_put 6 none) 5 77 := ⟨kT_63, kT_64, kT_54, rfl, by decide +kernel⟩
set_option maxRecDepth 100000 in
set_option maxHeartbeats 4000000 in
theorem c_L_put (l : Launch) (hlt : l.stackTraces = false) (N : Nat) (x0 : Int32) (x1 : Int32) (x2 : Int32) : lMet l yL_put (.code yL_put cL_put 6 none) 1 22 0 0 (fun ca a => [.int x0, .int x1, .int x2, .ref (a 0), .ref (a 10)]) qU (fun S L => lup S (pL_put N x0 x1 x2 L)) := by
  refine l_startA hlt (by decide +kernel) rfl (fun ca a => [(0, .int x0), (1, .int x1), (2, .int x2), (3, .ref (a 0)), (4, .ref (a 10))]) (fun _ _ => Nat.le_of_ble_eq_true rfl) (fun _ _ => rfl) ?_
  intro dC dI g a sz Si Li r Lf hpf p e s m args below meth c X hr H locs I ls hl
  have hx := X.1
  have hb := X.2.1
  unfold pL_put at hpf
  have hC_43 : ∀ (wt0 : Int64) (t1 : Int32) (x2 : Int32) (x5 : Int32) (L : lS) (H : Heap) (locs : List Loc), lV dC dI g a (lFr g a Si Li sz) s Si Si L H locs → ∀ ls : Array Slot, lv_has ls 6 [(2, .int x2), (4, .ref (a 10)), (5, .int x5)] → pL_put_43 N wt0 t1 x2 x5 L = some (r, Lf) → W p l e (lRm 1 22 0 0) s m args below meth c H locs 0 0 (MQ below (lQ dC dI g a sz Si Li (qU r) Si Lf) args s 0 0 (lFr g a Si Li sz)) (F0 m 43 ls [.long wt0, .int t1, .ref (a 10)]) := by
    intro wt0 t1 x2 x5 L H locs I ls hl hpf
    unfold pL_put_43 at hpf
    refine l_last X I lR_10 43 dL_put_43 hpf (fun L101 H locs I hpf => ?_)
    refine lv_aload hx hb dL_put_44 (lv_at hl 1 rfl) ?_
    refine lv_iload hx hb dL_put_46 (lv_at hl 2 rfl) ?_
    refine lv_dup2_11 hx hb dL_put_48 rfl rfl ?_
    refine l_lald X I lR_10 49 dL_put_49 hpf (fun hpf => ?_)
    refine lv_lconst (v := (1 : Int64)) hx hb dL_put_50 (by decide) ?_
    refine lv_iload_n hx hb dL_put_51 rfl (lv_at hl 0 rfl) ?_
    refine lv_lshl hx hb dL_put_52 rfl ?_
    refine lv_lor hx hb dL_put_53 ?_
    refine l_last X I lR_10 54 dL_put_54 hpf (fun L102 H locs I hpf => ?_)
    exact l_retvA (v := ()) X I hr 55 dL_put_55 hpf
  refine lv_iconst (v := (3 : Int32)) hx hb dL_put_0 (by decide) ?_
  refine lv_iload_n hx hb dL_put_1 rfl (lv_at hl 0 rfl) ?_
  refine lv_imul hx hb dL_put_2 ?_
  refine lv_iload_n hx hb dL_put_3 rfl (lv_at hl 1 rfl) ?_
  refine lv_iadd hx hb dL_put_4 ?_
  refine m_isto hx hb (fun y101 => [(5, .int y101), (0, .int x0), (1, .int x1), (2, .int x2), (3, .ref (a 0)), (4, .ref (a 10))]) 5 dL_put_5 hl (by decide) (fun _ => rfl) hpf (fun y101 ls hl hpf => ?_)
  refine lv_aload hx hb dL_put_7 (lv_at hl 5 rfl) ?_
  refine lv_iload hx hb dL_put_9 (lv_at hl 0 rfl) ?_
  refine lv_aload_n hx hb dL_put_11 rfl (lv_at hl 4 rfl) ?_
  refine lv_bipush (v := (13 : Int32)) hx hb dL_put_12 (by decide) ?_
  refine lv_iload_n hx hb dL_put_14 rfl (lv_at hl 2 rfl) ?_
  refine lv_iadd hx hb dL_put_15 ?_
  refine l_iald X I lR_0 16 dL_put_16 hpf (fun hpf => ?_)
  refine lv_iconst (v := (2 : Int32)) hx hb dL_put_17 (by decide) ?_
  refine lv_irem hx hb dL_put_18 (by decide) ?_
  refine lv_iconst (v := (1 : Int32)) hx hb dL_put_19 (by decide) ?_
  refine b_icmp_ne hx hb 27 20 dL_put_20 (by decide) hpf (fun hpf => ?_) (fun hpf => ?_)
  · refine lv_aload hx hb dL_put_27 (lv_at hl 5 rfl) ?_
    refine lv_iload hx hb dL_put_29 (lv_at hl 0 rfl) ?_
    refine l_lald X I lR_10 31 dL_put_31 hpf (fun hpf => ?_)
    refine lv_iload_n hx hb dL_put_32 rfl (lv_at hl 2 rfl) ?_
    refine lv_iload_n hx hb dL_put_33 rfl (lv_at hl 3 rfl) ?_
    refine lv_aload_n hx hb dL_put_34 rfl (lv_at hl 4 rfl) ?_
    refine l_cAJ (rest := [.long (aJ Li 10 y101.toNatClampNeg), .int y101, .ref (a 10)]) (As := [.int x1, .int x2, .ref (a 0)]) X I fL_match (c_L_match l hlt N x1 x2) rfl ⟨Nat.le_of_ble_eq_true rfl, Nat.le_of_ble_eq_true rfl⟩ 35 dL_put_35 rfl hl.1 rfl (Nat.le_of_ble_eq_true rfl) ⟨Nat.le_refl _, Nat.le_refl _⟩ hpf (fun v102 L103 H locs I hpf => ?_)
    refine lv_ldc2 (v := (-1 : Int64)) hx hb X.2.2.2.1 (X.2.2.2.2.1 _ (kT_55)) dL_put_38 ?_
    refine lv_lxor hx hb dL_put_41 ?_
    refine lv_land hx hb dL_put_42 ?_
    exact hC_43 ((aJ Li 10 y101.toNatClampNeg) &&& (v102 ^^^ (-1 : Int64))) y101 x2 y101 L103 H locs I ls (lv_sub hl [3, 5, 0] rfl) hpf
  refine lv_lconst (v := (0 : Int64)) hx hb dL_put_23 (by decide) ?_
  refine lv_goto (tgt := 43) hx hb dL_put_24 (by decide) ?_
  exact hC_43 (0 : Int64) y101 x2 y101 Li H locs I ls (lv_sub hl [3, 5, 0] rfl) hpf
-- ===== the law's up =====
def pL_up_22 (N : Nat) (x0 : Int32) (x3 : Int32) (L : lS) : Option (Int32 × lS) :=
    if x3 = x0 then (
      zlA (1 : Int32) L)
    else (
      zlA (0 : Int32) L)
def pL_up_2 (N : Nat) (k_22 : Int32 → Int32 → lS → Option (Int32 × lS)) : Nat → Int32 → Int32 → lS → Option (Int32 × lS)
  | 0 => fun _ _ _ => none
  | n_2 + 1 => fun x0 x3 L =>
    if x3 < (0 : Int32) then (
      k_22 x0 x3 L)
    else (
      if x3 = x0 then (
        k_22 x0 x3 L)
      else (
        gd (((3 : Int32) * x3) + (2 : Int32)) 36 <|
        nm (aI L 9 (((3 : Int32) * x3) + (2 : Int32)).toNatClampNeg) fun y101 =>
        pL_up_2 N k_22 n_2 x0 y101 L))
def pL_up (N : Nat) (x0 : Int32) (x1 : Int32) (L : lS) : Option (Int32 × lS) :=
    pL_up_2 N (pL_up_22 N) N x0 x1 L
theorem fL_up : lFnS yL_up (.code yL_up cL_up 4 (some .boolean)) 3 81 := ⟨kT_65, kT_66, kT_59, rfl, by decide +kernel⟩
set_option maxRecDepth 100000 in
set_option maxHeartbeats 4000000 in
theorem c_L_up (l : Launch) (hlt : l.stackTraces = false) (N : Nat) (x0 : Int32) (x1 : Int32) : lMet l yL_up (.code yL_up cL_up 4 (some .boolean)) 0 0 0 0 (fun ca a => [.int x0, .int x1, .ref (a 9)]) qI (fun S L => lup S (pL_up N x0 x1 L)) := by
  refine l_startA hlt (by decide +kernel) rfl (fun ca a => [(0, .int x0), (1, .int x1), (2, .ref (a 9))]) (fun _ _ => Nat.le_of_ble_eq_true rfl) (fun _ _ => rfl) ?_
  intro dC dI g a sz Si Li r Lf hpf p e s m args below meth c X hr H locs I ls hl
  have hx := X.1
  have hb := X.2.1
  unfold pL_up at hpf
  have hC_22 : ∀ (x0 : Int32) (x3 : Int32) (L : lS) (H : Heap) (locs : List Loc), lV dC dI g a (lFr g a Si Li sz) s Si Si L H locs → ∀ ls : Array Slot, lv_has ls 4 [(0, .int x0), (3, .int x3)] → pL_up_22 N x0 x3 L = some (r, Lf) → W p l e (lRm 0 0 0 0) s m args below meth c H locs 0 0 (MQ below (lQ dC dI g a sz Si Li (qI r) Si Lf) args s 0 0 (lFr g a Si Li sz)) (F0 m 22 ls []) := by
    intro x0 x3 L H locs I ls hl hpf
    unfold pL_up_22 at hpf
    refine lv_iload_n hx hb dL_up_22 rfl (lv_at hl 1 rfl) ?_
    refine lv_iload_n hx hb dL_up_23 rfl (lv_at hl 0 rfl) ?_
    refine b_icmp_ne hx hb 31 24 dL_up_24 (by decide) hpf (fun hpf => ?_) (fun hpf => ?_)
    · refine lv_iconst (v := (0 : Int32)) hx hb dL_up_31 (by decide) ?_
      exact l_retzA X I hr 32 dL_up_32 hpf
    refine lv_iconst (v := (1 : Int32)) hx hb dL_up_27 (by decide) ?_
    refine lv_goto (tgt := 32) hx hb dL_up_28 (by decide) ?_
    exact l_retzA X I hr 32 dL_up_32 hpf
  have hC_2 : ∀ (n_2 : Nat), ∀ (x0 : Int32) (x3 : Int32) (L : lS) (H : Heap) (locs : List Loc), lV dC dI g a (lFr g a Si Li sz) s Si Si L H locs → ∀ ls : Array Slot, lv_has ls 4 [(0, .int x0), (2, .ref (a 9)), (3, .int x3)] → pL_up_2 N (pL_up_22 N) n_2 x0 x3 L = some (r, Lf) → W p l e (lRm 0 0 0 0) s m args below meth c H locs 0 0 (MQ below (lQ dC dI g a sz Si Li (qI r) Si Lf) args s 0 0 (lFr g a Si Li sz)) (F0 m 2 ls []) := by
    intro n_2
    induction n_2 with
    | zero =>
      intro x0 x3 L H locs I ls hl hpf
      rw [pL_up_2] at hpf
      cases hpf
    | succ n_2 ih_2 =>
      intro x0 x3 L H locs I ls hl hpf
      rw [pL_up_2] at hpf
      refine lv_iload_n hx hb dL_up_2 rfl (lv_at hl 2 rfl) ?_
      refine b_if_lt hx hb 22 3 dL_up_3 (by decide) hpf (fun hpf => ?_) (fun hpf => ?_)
      · exact hC_22 x0 x3 L H locs I ls (lv_sub hl [0, 2] rfl) hpf
      refine lv_iload_n hx hb dL_up_6 rfl (lv_at hl 2 rfl) ?_
      refine lv_iload_n hx hb dL_up_7 rfl (lv_at hl 0 rfl) ?_
      refine b_icmp_eq hx hb 22 8 dL_up_8 (by decide) hpf (fun hpf => ?_) (fun hpf => ?_)
      · exact hC_22 x0 x3 L H locs I ls (lv_sub hl [0, 2] rfl) hpf
      refine lv_aload_n hx hb dL_up_11 rfl (lv_at hl 1 rfl) ?_
      refine lv_iconst (v := (3 : Int32)) hx hb dL_up_12 (by decide) ?_
      refine lv_iload_n hx hb dL_up_13 rfl (lv_at hl 2 rfl) ?_
      refine lv_imul hx hb dL_up_14 ?_
      refine lv_iconst (v := (2 : Int32)) hx hb dL_up_15 (by decide) ?_
      refine lv_iadd hx hb dL_up_16 ?_
      refine l_iald X I lR_9 17 dL_up_17 hpf (fun hpf => ?_)
      refine m_isto_n hx hb (fun y101 => [(3, .int y101), (0, .int x0), (2, .ref (a 9))]) 18 dL_up_18 rfl hl (by decide) (fun _ => rfl) hpf (fun y101 ls hl hpf => ?_)
      refine lv_goto (tgt := 2) hx hb dL_up_19 (by decide) ?_
      exact ih_2 x0 y101 L H locs I ls (lv_sub hl [1, 2, 0] rfl) hpf
  refine lv_iload_n hx hb dL_up_0 rfl (lv_at hl 1 rfl) ?_
  refine lv_istore_n (lv' := [(3, .int x1), (0, .int x0), (1, .int x1), (2, .ref (a 9))]) hx hb dL_up_1 rfl hl (by decide) rfl (fun ls hl => ?_)
  exact hC_2 N x0 x1 Li H locs I ls (lv_sub hl [1, 3, 0] rfl) hpf
-- ===== the law's lays =====
def pL_lays_401 (N : Nat) (k_84 : Int32 → Int32 → lS → Option (Unit × lS)) (x0 : Int32) (x11 : Int32) (L : lS) : Option (Unit × lS) :=
    nm (x11 + (1 : Int32)) fun y101 =>
    k_84 x0 y101 L
def pL_lays_177 (N : Nat) (k_401 : Int32 → Int32 → lS → Option (Unit × lS)) : Nat → Int32 → Int32 → Int32 → Int32 → lS → Option (Unit × lS)
  | 0 => fun _ _ _ _ _ => none
  | n_177 + 1 => fun x0 x11 x12 x14 L =>
    gd x11 41 <|
    if (((aJ L 7 x11.toNatClampNeg) >>> ((50 : Int32).toInt64 &&& 63)).toInt32) ≤ x14 then (
      k_401 x0 x11 L)
    else (
      gd x11 41 <|
      nm ((((aJ L 7 x11.toNatClampNeg) >>> (((10 : Int32) * x14).toInt64 &&& 63)) &&& (1023 : Int64)).toInt32) fun y101 =>
      lba (pL_put N x12 (y101 / (100 : Int32)) (y101 - y101 / (100 : Int32) * (100 : Int32)) L) fun v102 L103 =>
      nm (x14 + (1 : Int32)) fun y104 =>
      pL_lays_177 N k_401 n_177 x0 x11 x12 y104 L103)
def pL_lays_382 (N : Nat) (k_84 : Int32 → Int32 → lS → Option (Unit × lS)) (t0 : Int32) (t1 : Int32) (x0 : Int32) (x11 : Int32) (L : lS) : Option (Unit × lS) :=
    gd t1 36 <| slv (uI L 9 t1.toNatClampNeg t0) fun L101 =>
    pL_lays_401 N k_84 x0 x11 L101
def pL_lays_128 (N : Nat) (k_84 : Int32 → Int32 → lS → Option (Unit × lS)) (t0 : Int32) (x0 : Int32) (x11 : Int32) (x12 : Int32) (L : lS) : Option (Unit × lS) :=
    if t0 = (0 : Int32) then (
      gd ((3 : Int32) * x12) 36 <| slv (uI L 9 ((3 : Int32) * x12).toNatClampNeg (1 : Int32)) fun L110 =>
      gd x11 41 <|
      gd (((3 : Int32) * x12) + (1 : Int32)) 36 <| slv (uI L110 9 (((3 : Int32) * x12) + (1 : Int32)).toNatClampNeg ((aI L110 5 x11.toNatClampNeg) / (100 : Int32))) fun L111 =>
      gd x11 41 <|
      gd (((3 : Int32) * x12) + (2 : Int32)) 36 <| slv (uI L111 9 (((3 : Int32) * x12) + (2 : Int32)).toNatClampNeg (aI L111 6 x11.toNatClampNeg)) fun L112 =>
      pL_lays_177 N (pL_lays_401 N k_84) N x0 x11 x12 (0 : Int32) L112)
    else (
      if t0 = (1 : Int32) then (
        gd x11 41 <|
        gd x11 41 <|
        lba (pL_put N x12 (aI L 5 x11.toNatClampNeg) (aI L 6 x11.toNatClampNeg) L) fun v108 L109 =>
        pL_lays_401 N k_84 x0 x11 L109)
      else (
        if t0 = (2 : Int32) then (
          gd x11 41 <|
          gd (((3 : Int32) * x12) + (aI L 5 x11.toNatClampNeg)) 36 <|
          gd x11 41 <|
          gd x11 41 <|
          lba (pL_match N (aI L 5 x11.toNatClampNeg) (aI L 6 x11.toNatClampNeg) L) fun v105 L106 =>
          gd (((3 : Int32) * x12) + (aI L 5 x11.toNatClampNeg)) 36 <| slv (uJ L106 10 (((3 : Int32) * x12) + (aI L 5 x11.toNatClampNeg)).toNatClampNeg ((aJ L 10 (((3 : Int32) * x12) + (aI L 5 x11.toNatClampNeg)).toNatClampNeg) &&& (v105 ^^^ (-1 : Int64)))) fun L107 =>
          pL_lays_401 N k_84 x0 x11 L107)
        else (
          if t0 = (3 : Int32) then (
            gd x11 41 <|
            gd x11 41 <|
            gd (((3 : Int32) * x12) + (aI L 5 x11.toNatClampNeg)) 36 <| slv (uJ L 10 (((3 : Int32) * x12) + (aI L 5 x11.toNatClampNeg)).toNatClampNeg ((1 : Int64) <<< ((aI L 6 x11.toNatClampNeg).toInt64 &&& 63))) fun L104 =>
            pL_lays_401 N k_84 x0 x11 L104)
          else (
            if t0 = (7 : Int32) then (
              gd x11 41 <|
              lba (pL_up N x12 (aI L 5 x11.toNatClampNeg) L) fun v102 L103 =>
              if v102 = (0 : Int32) then (
                gd x11 41 <|
                pL_lays_382 N k_84 (aI L103 5 x11.toNatClampNeg) (((3 : Int32) * x12) + (2 : Int32)) x0 x11 L103)
              else (
                gd (((3 : Int32) * x12) + (2 : Int32)) 36 <|
                pL_lays_382 N k_84 (aI L103 9 (((3 : Int32) * x12) + (2 : Int32)).toNatClampNeg) (((3 : Int32) * x12) + (2 : Int32)) x0 x11 L103))
            else (
              if t0 = (8 : Int32) then (
                gd ((3 : Int32) * x12) 36 <| slv (uI L 9 ((3 : Int32) * x12).toNatClampNeg (2 : Int32)) fun L101 =>
                pL_lays_401 N k_84 x0 x11 L101)
              else (
                pL_lays_401 N k_84 x0 x11 L))))))
def pL_lays_84 (N : Nat) : Nat → Int32 → Int32 → lS → Option (Unit × lS)
  | 0 => fun _ _ _ => none
  | n_84 + 1 => fun x0 x11 L =>
    gd (1 : Int32) 20 <|
    if (aI L 0 (1 : Int32).toNatClampNeg) ≤ x11 then (
      some ((), L))
    else (
      gd x11 41 <|
      nm ((aI L 4 x11.toNatClampNeg) - (aI L 4 x11.toNatClampNeg) / (16 : Int32) * (16 : Int32)) fun y101 =>
      lba (pL_known N x0 x11 L) fun v102 L103 =>
      if v102 = (0 : Int32) then (
        pL_lays_128 N (pL_lays_84 N n_84) (99 : Int32) x0 x11 y101 L103)
      else (
        gd x11 41 <|
        pL_lays_128 N (pL_lays_84 N n_84) ((aI L103 4 x11.toNatClampNeg) / (16 : Int32)) x0 x11 y101 L103))
def pL_lays_81 (N : Nat) (x0 : Int32) (L : lS) : Option (Unit × lS) :=
    pL_lays_84 N N x0 (0 : Int32) L
def pL_lays_26 (N : Nat) (k_3 : Int32 → Int32 → lS → Option (Unit × lS)) (t0 : Int32) (t1 : Int32) (x0 : Int32) (x11 : Int32) (L : lS) : Option (Unit × lS) :=
    gd t1 36 <| slv (uI L 9 t1.toNatClampNeg t0) fun L101 =>
    gd (((3 : Int32) * x11) + (1 : Int32)) 36 <| slv (uI L101 9 (((3 : Int32) * x11) + (1 : Int32)).toNatClampNeg (-1 : Int32)) fun L102 =>
    gd (((3 : Int32) * x11) + (2 : Int32)) 36 <| slv (uI L102 9 (((3 : Int32) * x11) + (2 : Int32)).toNatClampNeg (-1 : Int32)) fun L103 =>
    gd ((3 : Int32) * x11) 36 <| slv (uJ L103 10 ((3 : Int32) * x11).toNatClampNeg (0 : Int64)) fun L104 =>
    gd (((3 : Int32) * x11) + (1 : Int32)) 36 <| slv (uJ L104 10 (((3 : Int32) * x11) + (1 : Int32)).toNatClampNeg (0 : Int64)) fun L105 =>
    gd (((3 : Int32) * x11) + (2 : Int32)) 36 <| slv (uJ L105 10 (((3 : Int32) * x11) + (2 : Int32)).toNatClampNeg (0 : Int64)) fun L106 =>
    nm (x11 + (1 : Int32)) fun y107 =>
    k_3 x0 y107 L106
def pL_lays_3 (N : Nat) (k_81 : Int32 → lS → Option (Unit × lS)) : Nat → Int32 → Int32 → lS → Option (Unit × lS)
  | 0 => fun _ _ _ => none
  | n_3 + 1 => fun x0 x11 L =>
    if (12 : Int32) ≤ x11 then (
      k_81 x0 L)
    else (
      if x11 = (0 : Int32) then (
        pL_lays_26 N (pL_lays_3 N k_81 n_3) (1 : Int32) ((3 : Int32) * x11) x0 x11 L)
      else (
        pL_lays_26 N (pL_lays_3 N k_81 n_3) (0 : Int32) ((3 : Int32) * x11) x0 x11 L))
def pL_lays (N : Nat) (x0 : Int32) (L : lS) : Option (Unit × lS) :=
    pL_lays_3 N (pL_lays_81 N) N x0 (0 : Int32) L
theorem fL_lays : lFnS yL_lays (.code yL_lays cL_lays 16 none) 11 197 := ⟨kT_168, kT_169, kT_60, rfl, by decide +kernel⟩
set_option maxRecDepth 100000 in
set_option maxHeartbeats 4000000 in
theorem c_L_lays (l : Launch) (hlt : l.stackTraces = false) (N : Nat) (x0 : Int32) : lMet l yL_lays (.code yL_lays cL_lays 16 none) 2 47 0 0 (fun ca a => [.int x0, .ref (a 0), .ref (a 2), .ref (a 3), .ref (a 4), .ref (a 5), .ref (a 6), .ref (a 7), .ref (a 8), .ref (a 9), .ref (a 10)]) qU (fun S L => lup S (pL_lays N x0 L)) := by
  refine l_startA hlt (by decide +kernel) rfl (fun ca a => [(0, .int x0), (1, .ref (a 0)), (2, .ref (a 2)), (3, .ref (a 3)), (4, .ref (a 4)), (5, .ref (a 5)), (6, .ref (a 6)), (7, .ref (a 7)), (8, .ref (a 8)), (9, .ref (a 9)), (10, .ref (a 10))]) (fun _ _ => Nat.le_of_ble_eq_true rfl) (fun _ _ => rfl) ?_
  intro dC dI g a sz Si Li r Lf hpf p e s m args below meth c X hr H locs I ls hl
  have hx := X.1
  have hb := X.2.1
  unfold pL_lays at hpf
  have hC_84 : ∀ (n_84 : Nat), ∀ (x0 : Int32) (x11 : Int32) (L : lS) (H : Heap) (locs : List Loc), lV dC dI g a (lFr g a Si Li sz) s Si Si L H locs → ∀ ls : Array Slot, lv_has ls 16 [(0, .int x0), (1, .ref (a 0)), (2, .ref (a 2)), (3, .ref (a 3)), (4, .ref (a 4)), (5, .ref (a 5)), (6, .ref (a 6)), (7, .ref (a 7)), (8, .ref (a 8)), (9, .ref (a 9)), (10, .ref (a 10)), (11, .int x11)] → pL_lays_84 N n_84 x0 x11 L = some (r, Lf) → W p l e (lRm 2 47 0 0) s m args below meth c H locs 0 0 (MQ below (lQ dC dI g a sz Si Li (qU r) Si Lf) args s 0 0 (lFr g a Si Li sz)) (F0 m 84 ls []) := by
    intro n_84
    induction n_84 with
    | zero =>
      intro x0 x11 L H locs I ls hl hpf
      rw [pL_lays_84] at hpf
      cases hpf
    | succ n_84 ih_84 =>
      have hC_401 : ∀ (x0 : Int32) (x11 : Int32) (L : lS) (H : Heap) (locs : List Loc), lV dC dI g a (lFr g a Si Li sz) s Si Si L H locs → ∀ ls : Array Slot, lv_has ls 16 [(0, .int x0), (1, .ref (a 0)), (2, .ref (a 2)), (3, .ref (a 3)), (4, .ref (a 4)), (5, .ref (a 5)), (6, .ref (a 6)), (7, .ref (a 7)), (8, .ref (a 8)), (9, .ref (a 9)), (10, .ref (a 10)), (11, .int x11)] → pL_lays_401 N (pL_lays_84 N n_84) x0 x11 L = some (r, Lf) → W p l e (lRm 2 47 0 0) s m args below meth c H locs 0 0 (MQ below (lQ dC dI g a sz Si Li (qU r) Si Lf) args s 0 0 (lFr g a Si Li sz)) (F0 m 401 ls []) := by
        intro x0 x11 L H locs I ls hl hpf
        unfold pL_lays_401 at hpf
        refine m_iinc (w := (1 : Int32)) hx hb (fun y101 => [(11, .int y101), (0, .int x0), (1, .ref (a 0)), (2, .ref (a 2)), (3, .ref (a 3)), (4, .ref (a 4)), (5, .ref (a 5)), (6, .ref (a 6)), (7, .ref (a 7)), (8, .ref (a 8)), (9, .ref (a 9)), (10, .ref (a 10))]) 401 dL_lays_401 hl (k := 11) rfl (by decide) (by decide) (fun _ => rfl) hpf (fun y101 ls hl hpf => ?_)
        refine lv_goto (tgt := 84) hx hb dL_lays_404 (by decide) ?_
        exact ih_84 x0 y101 L H locs I ls (lv_sub hl [1, 2, 3, 4, 5, 6, 7, 8, 9, 10, 11, 0] rfl) hpf
      have hC_177 : ∀ (n_177 : Nat), ∀ (x0 : Int32) (x11 : Int32) (x12 : Int32) (x14 : Int32) (L : lS) (H : Heap) (locs : List Loc), lV dC dI g a (lFr g a Si Li sz) s Si Si L H locs → ∀ ls : Array Slot, lv_has ls 16 [(0, .int x0), (1, .ref (a 0)), (2, .ref (a 2)), (3, .ref (a 3)), (4, .ref (a 4)), (5, .ref (a 5)), (6, .ref (a 6)), (7, .ref (a 7)), (8, .ref (a 8)), (9, .ref (a 9)), (10, .ref (a 10)), (11, .int x11), (12, .int x12), (14, .int x14)] → pL_lays_177 N (pL_lays_401 N (pL_lays_84 N n_84)) n_177 x0 x11 x12 x14 L = some (r, Lf) → W p l e (lRm 2 47 0 0) s m args below meth c H locs 0 0 (MQ below (lQ dC dI g a sz Si Li (qU r) Si Lf) args s 0 0 (lFr g a Si Li sz)) (F0 m 177 ls []) := by
        intro n_177
        induction n_177 with
        | zero =>
          intro x0 x11 x12 x14 L H locs I ls hl hpf
          rw [pL_lays_177] at hpf
          cases hpf
        | succ n_177 ih_177 =>
          intro x0 x11 x12 x14 L H locs I ls hl hpf
          rw [pL_lays_177] at hpf
          refine lv_iload hx hb dL_lays_177 (lv_at hl 13 rfl) ?_
          refine lv_aload hx hb dL_lays_179 (lv_at hl 7 rfl) ?_
          refine lv_iload hx hb dL_lays_181 (lv_at hl 11 rfl) ?_
          refine l_lald X I lR_7 183 dL_lays_183 hpf (fun hpf => ?_)
          refine lv_bipush (v := (50 : Int32)) hx hb dL_lays_184 (by decide) ?_
          refine lv_lshr hx hb dL_lays_186 rfl ?_
          refine lv_l2i hx hb dL_lays_187 rfl ?_
          refine b_icmp_ge hx hb 233 188 dL_lays_188 (by decide) hpf (fun hpf => ?_) (fun hpf => ?_)
          · refine lv_goto (tgt := 401) hx hb dL_lays_233 (by decide) ?_
            exact hC_401 x0 x11 L H locs I ls (lv_sub hl [0, 1, 2, 3, 4, 5, 6, 7, 8, 9, 10, 11] rfl) hpf
          refine lv_aload hx hb dL_lays_191 (lv_at hl 7 rfl) ?_
          refine lv_iload hx hb dL_lays_193 (lv_at hl 11 rfl) ?_
          refine l_lald X I lR_7 195 dL_lays_195 hpf (fun hpf => ?_)
          refine lv_bipush (v := (10 : Int32)) hx hb dL_lays_196 (by decide) ?_
          refine lv_iload hx hb dL_lays_198 (lv_at hl 13 rfl) ?_
          refine lv_imul hx hb dL_lays_200 ?_
          refine lv_lshr hx hb dL_lays_201 rfl ?_
          refine lv_ldc2 (v := (1023 : Int64)) hx hb X.2.2.2.1 (X.2.2.2.2.1 _ (kT_53)) dL_lays_202 ?_
          refine lv_land hx hb dL_lays_205 ?_
          refine lv_l2i hx hb dL_lays_206 rfl ?_
          refine m_isto hx hb (fun y101 => [(15, .int y101), (0, .int x0), (1, .ref (a 0)), (2, .ref (a 2)), (3, .ref (a 3)), (4, .ref (a 4)), (5, .ref (a 5)), (6, .ref (a 6)), (7, .ref (a 7)), (8, .ref (a 8)), (9, .ref (a 9)), (10, .ref (a 10)), (11, .int x11), (12, .int x12), (14, .int x14)]) 207 dL_lays_207 hl (by decide) (fun _ => rfl) hpf (fun y101 ls hl hpf => ?_)
          refine lv_iload hx hb dL_lays_209 (lv_at hl 13 rfl) ?_
          refine lv_iload hx hb dL_lays_211 (lv_at hl 0 rfl) ?_
          refine lv_bipush (v := (100 : Int32)) hx hb dL_lays_213 (by decide) ?_
          refine lv_idiv hx hb dL_lays_215 (by decide) ?_
          refine lv_iload hx hb dL_lays_216 (lv_at hl 0 rfl) ?_
          refine lv_bipush (v := (100 : Int32)) hx hb dL_lays_218 (by decide) ?_
          refine lv_irem hx hb dL_lays_220 (by decide) ?_
          refine lv_aload_n hx hb dL_lays_221 rfl (lv_at hl 2 rfl) ?_
          refine lv_aload hx hb dL_lays_222 (lv_at hl 11 rfl) ?_
          refine l_cAU (rest := []) (As := [.int x12, .int (y101 / (100 : Int32)), .int (y101 - y101 / (100 : Int32) * (100 : Int32)), .ref (a 0), .ref (a 10)]) X I fL_put (c_L_put l hlt N x12 (y101 / (100 : Int32)) (y101 - y101 / (100 : Int32) * (100 : Int32))) rfl ⟨Nat.le_of_ble_eq_true rfl, Nat.le_of_ble_eq_true rfl⟩ 224 dL_lays_224 rfl hl.1 rfl (Nat.le_of_ble_eq_true rfl) ⟨Nat.le_refl _, Nat.le_refl _⟩ hpf (fun v102 L103 H locs I hpf => ?_)
          refine m_iinc (w := (1 : Int32)) hx hb (fun y104 => [(14, .int y104), (15, .int y101), (0, .int x0), (1, .ref (a 0)), (2, .ref (a 2)), (3, .ref (a 3)), (4, .ref (a 4)), (5, .ref (a 5)), (6, .ref (a 6)), (7, .ref (a 7)), (8, .ref (a 8)), (9, .ref (a 9)), (10, .ref (a 10)), (11, .int x11), (12, .int x12)]) 227 dL_lays_227 hl (k := 14) rfl (by decide) (by decide) (fun _ => rfl) hpf (fun y104 ls hl hpf => ?_)
          refine lv_goto (tgt := 177) hx hb dL_lays_230 (by decide) ?_
          exact ih_177 x0 x11 x12 y104 L103 H locs I ls (lv_sub hl [2, 3, 4, 5, 6, 7, 8, 9, 10, 11, 12, 13, 14, 0] rfl) hpf
      have hC_382 : ∀ (t0 : Int32) (t1 : Int32) (x0 : Int32) (x11 : Int32) (L : lS) (H : Heap) (locs : List Loc), lV dC dI g a (lFr g a Si Li sz) s Si Si L H locs → ∀ ls : Array Slot, lv_has ls 16 [(0, .int x0), (1, .ref (a 0)), (2, .ref (a 2)), (3, .ref (a 3)), (4, .ref (a 4)), (5, .ref (a 5)), (6, .ref (a 6)), (7, .ref (a 7)), (8, .ref (a 8)), (9, .ref (a 9)), (10, .ref (a 10)), (11, .int x11)] → pL_lays_382 N (pL_lays_84 N n_84) t0 t1 x0 x11 L = some (r, Lf) → W p l e (lRm 2 47 0 0) s m args below meth c H locs 0 0 (MQ below (lQ dC dI g a sz Si Li (qU r) Si Lf) args s 0 0 (lFr g a Si Li sz)) (F0 m 382 ls [.int t0, .int t1, .ref (a 9)]) := by
        intro t0 t1 x0 x11 L H locs I ls hl hpf
        unfold pL_lays_382 at hpf
        refine l_iast X I lR_9 382 dL_lays_382 hpf (fun L101 H locs I hpf => ?_)
        refine lv_goto (tgt := 401) hx hb dL_lays_383 (by decide) ?_
        exact hC_401 x0 x11 L101 H locs I ls (lv_sub hl [0, 1, 2, 3, 4, 5, 6, 7, 8, 9, 10, 11] rfl) hpf
      have hC_128 : ∀ (t0 : Int32) (x0 : Int32) (x11 : Int32) (x12 : Int32) (L : lS) (H : Heap) (locs : List Loc), lV dC dI g a (lFr g a Si Li sz) s Si Si L H locs → ∀ ls : Array Slot, lv_has ls 16 [(0, .int x0), (1, .ref (a 0)), (2, .ref (a 2)), (3, .ref (a 3)), (4, .ref (a 4)), (5, .ref (a 5)), (6, .ref (a 6)), (7, .ref (a 7)), (8, .ref (a 8)), (9, .ref (a 9)), (10, .ref (a 10)), (11, .int x11), (12, .int x12)] → pL_lays_128 N (pL_lays_84 N n_84) t0 x0 x11 x12 L = some (r, Lf) → W p l e (lRm 2 47 0 0) s m args below meth c H locs 0 0 (MQ below (lQ dC dI g a sz Si Li (qU r) Si Lf) args s 0 0 (lFr g a Si Li sz)) (F0 m 128 ls [.int t0]) := by
        intro t0 x0 x11 x12 L H locs I ls hl hpf
        unfold pL_lays_128 at hpf
        refine lv_istore (lv' := [(13, .int t0), (0, .int x0), (1, .ref (a 0)), (2, .ref (a 2)), (3, .ref (a 3)), (4, .ref (a 4)), (5, .ref (a 5)), (6, .ref (a 6)), (7, .ref (a 7)), (8, .ref (a 8)), (9, .ref (a 9)), (10, .ref (a 10)), (11, .int x11), (12, .int x12)]) hx hb dL_lays_128 hl (by decide) rfl (fun ls hl => ?_)
        refine lv_iload hx hb dL_lays_130 (lv_at hl 0 rfl) ?_
        refine b_if_ne hx hb 236 132 dL_lays_132 (by decide) hpf (fun hpf => ?_) (fun hpf => ?_)
        · refine lv_iload hx hb dL_lays_236 (lv_at hl 0 rfl) ?_
          refine lv_iconst (v := (1 : Int32)) hx hb dL_lays_238 (by decide) ?_
          refine b_icmp_ne hx hb 263 239 dL_lays_239 (by decide) hpf (fun hpf => ?_) (fun hpf => ?_)
          · refine lv_iload hx hb dL_lays_263 (lv_at hl 0 rfl) ?_
            refine lv_iconst (v := (2 : Int32)) hx hb dL_lays_265 (by decide) ?_
            refine b_icmp_ne hx hb 306 266 dL_lays_266 (by decide) hpf (fun hpf => ?_) (fun hpf => ?_)
            · refine lv_iload hx hb dL_lays_306 (lv_at hl 0 rfl) ?_
              refine lv_iconst (v := (3 : Int32)) hx hb dL_lays_308 (by decide) ?_
              refine b_icmp_ne hx hb 335 309 dL_lays_309 (by decide) hpf (fun hpf => ?_) (fun hpf => ?_)
              · refine lv_iload hx hb dL_lays_335 (lv_at hl 0 rfl) ?_
                refine lv_bipush (v := (7 : Int32)) hx hb dL_lays_337 (by decide) ?_
                refine b_icmp_ne hx hb 386 339 dL_lays_339 (by decide) hpf (fun hpf => ?_) (fun hpf => ?_)
                · refine lv_iload hx hb dL_lays_386 (lv_at hl 0 rfl) ?_
                  refine lv_bipush (v := (8 : Int32)) hx hb dL_lays_388 (by decide) ?_
                  refine b_icmp_ne hx hb 401 390 dL_lays_390 (by decide) hpf (fun hpf => ?_) (fun hpf => ?_)
                  · exact hC_401 x0 x11 L H locs I ls (lv_sub hl [1, 2, 3, 4, 5, 6, 7, 8, 9, 10, 11, 12] rfl) hpf
                  refine lv_aload hx hb dL_lays_393 (lv_at hl 10 rfl) ?_
                  refine lv_iconst (v := (3 : Int32)) hx hb dL_lays_395 (by decide) ?_
                  refine lv_iload hx hb dL_lays_396 (lv_at hl 13 rfl) ?_
                  refine lv_imul hx hb dL_lays_398 ?_
                  refine lv_iconst (v := (2 : Int32)) hx hb dL_lays_399 (by decide) ?_
                  refine l_iast X I lR_9 400 dL_lays_400 hpf (fun L101 H locs I hpf => ?_)
                  exact hC_401 x0 x11 L101 H locs I ls (lv_sub hl [1, 2, 3, 4, 5, 6, 7, 8, 9, 10, 11, 12] rfl) hpf
                refine lv_aload hx hb dL_lays_342 (lv_at hl 10 rfl) ?_
                refine lv_iconst (v := (3 : Int32)) hx hb dL_lays_344 (by decide) ?_
                refine lv_iload hx hb dL_lays_345 (lv_at hl 13 rfl) ?_
                refine lv_imul hx hb dL_lays_347 ?_
                refine lv_iconst (v := (2 : Int32)) hx hb dL_lays_348 (by decide) ?_
                refine lv_iadd hx hb dL_lays_349 ?_
                refine lv_iload hx hb dL_lays_350 (lv_at hl 13 rfl) ?_
                refine lv_aload hx hb dL_lays_352 (lv_at hl 6 rfl) ?_
                refine lv_iload hx hb dL_lays_354 (lv_at hl 12 rfl) ?_
                refine l_iald X I lR_5 356 dL_lays_356 hpf (fun hpf => ?_)
                refine lv_aload hx hb dL_lays_357 (lv_at hl 10 rfl) ?_
                refine l_cAI (rest := [.int (((3 : Int32) * x12) + (2 : Int32)), .ref (a 9)]) (As := [.int x12, .int (aI L 5 x11.toNatClampNeg), .ref (a 9)]) X I fL_up (c_L_up l hlt N x12 (aI L 5 x11.toNatClampNeg)) rfl ⟨Nat.le_of_ble_eq_true rfl, Nat.le_of_ble_eq_true rfl⟩ 359 dL_lays_359 rfl hl.1 rfl (Nat.le_of_ble_eq_true rfl) ⟨Nat.le_refl _, Nat.le_refl _⟩ hpf (fun v102 L103 H locs I hpf => ?_)
                refine b_if_eq hx hb 377 362 dL_lays_362 (by decide) hpf (fun hpf => ?_) (fun hpf => ?_)
                · refine lv_aload hx hb dL_lays_377 (lv_at hl 6 rfl) ?_
                  refine lv_iload hx hb dL_lays_379 (lv_at hl 12 rfl) ?_
                  refine l_iald X I lR_5 381 dL_lays_381 hpf (fun hpf => ?_)
                  exact hC_382 (aI L103 5 x11.toNatClampNeg) (((3 : Int32) * x12) + (2 : Int32)) x0 x11 L103 H locs I ls (lv_sub hl [1, 2, 3, 4, 5, 6, 7, 8, 9, 10, 11, 12] rfl) hpf
                refine lv_aload hx hb dL_lays_365 (lv_at hl 10 rfl) ?_
                refine lv_iconst (v := (3 : Int32)) hx hb dL_lays_367 (by decide) ?_
                refine lv_iload hx hb dL_lays_368 (lv_at hl 13 rfl) ?_
                refine lv_imul hx hb dL_lays_370 ?_
                refine lv_iconst (v := (2 : Int32)) hx hb dL_lays_371 (by decide) ?_
                refine lv_iadd hx hb dL_lays_372 ?_
                refine l_iald X I lR_9 373 dL_lays_373 hpf (fun hpf => ?_)
                refine lv_goto (tgt := 382) hx hb dL_lays_374 (by decide) ?_
                exact hC_382 (aI L103 9 (((3 : Int32) * x12) + (2 : Int32)).toNatClampNeg) (((3 : Int32) * x12) + (2 : Int32)) x0 x11 L103 H locs I ls (lv_sub hl [1, 2, 3, 4, 5, 6, 7, 8, 9, 10, 11, 12] rfl) hpf
              refine lv_aload hx hb dL_lays_312 (lv_at hl 11 rfl) ?_
              refine lv_iconst (v := (3 : Int32)) hx hb dL_lays_314 (by decide) ?_
              refine lv_iload hx hb dL_lays_315 (lv_at hl 13 rfl) ?_
              refine lv_imul hx hb dL_lays_317 ?_
              refine lv_aload hx hb dL_lays_318 (lv_at hl 6 rfl) ?_
              refine lv_iload hx hb dL_lays_320 (lv_at hl 12 rfl) ?_
              refine l_iald X I lR_5 322 dL_lays_322 hpf (fun hpf => ?_)
              refine lv_iadd hx hb dL_lays_323 ?_
              refine lv_lconst (v := (1 : Int64)) hx hb dL_lays_324 (by decide) ?_
              refine lv_aload hx hb dL_lays_325 (lv_at hl 7 rfl) ?_
              refine lv_iload hx hb dL_lays_327 (lv_at hl 12 rfl) ?_
              refine l_iald X I lR_6 329 dL_lays_329 hpf (fun hpf => ?_)
              refine lv_lshl hx hb dL_lays_330 rfl ?_
              refine l_last X I lR_10 331 dL_lays_331 hpf (fun L104 H locs I hpf => ?_)
              refine lv_goto (tgt := 401) hx hb dL_lays_332 (by decide) ?_
              exact hC_401 x0 x11 L104 H locs I ls (lv_sub hl [1, 2, 3, 4, 5, 6, 7, 8, 9, 10, 11, 12] rfl) hpf
            refine lv_aload hx hb dL_lays_269 (lv_at hl 11 rfl) ?_
            refine lv_iconst (v := (3 : Int32)) hx hb dL_lays_271 (by decide) ?_
            refine lv_iload hx hb dL_lays_272 (lv_at hl 13 rfl) ?_
            refine lv_imul hx hb dL_lays_274 ?_
            refine lv_aload hx hb dL_lays_275 (lv_at hl 6 rfl) ?_
            refine lv_iload hx hb dL_lays_277 (lv_at hl 12 rfl) ?_
            refine l_iald X I lR_5 279 dL_lays_279 hpf (fun hpf => ?_)
            refine lv_iadd hx hb dL_lays_280 ?_
            refine lv_dup2_11 hx hb dL_lays_281 rfl rfl ?_
            refine l_lald X I lR_10 282 dL_lays_282 hpf (fun hpf => ?_)
            refine lv_aload hx hb dL_lays_283 (lv_at hl 6 rfl) ?_
            refine lv_iload hx hb dL_lays_285 (lv_at hl 12 rfl) ?_
            refine l_iald X I lR_5 287 dL_lays_287 hpf (fun hpf => ?_)
            refine lv_aload hx hb dL_lays_288 (lv_at hl 7 rfl) ?_
            refine lv_iload hx hb dL_lays_290 (lv_at hl 12 rfl) ?_
            refine l_iald X I lR_6 292 dL_lays_292 hpf (fun hpf => ?_)
            refine lv_aload_n hx hb dL_lays_293 rfl (lv_at hl 2 rfl) ?_
            refine l_cAJ (rest := [.long (aJ L 10 (((3 : Int32) * x12) + (aI L 5 x11.toNatClampNeg)).toNatClampNeg), .int (((3 : Int32) * x12) + (aI L 5 x11.toNatClampNeg)), .ref (a 10)]) (As := [.int (aI L 5 x11.toNatClampNeg), .int (aI L 6 x11.toNatClampNeg), .ref (a 0)]) X I fL_match (c_L_match l hlt N (aI L 5 x11.toNatClampNeg) (aI L 6 x11.toNatClampNeg)) rfl ⟨Nat.le_of_ble_eq_true rfl, Nat.le_of_ble_eq_true rfl⟩ 294 dL_lays_294 rfl hl.1 rfl (Nat.le_of_ble_eq_true rfl) ⟨Nat.le_refl _, Nat.le_refl _⟩ hpf (fun v105 L106 H locs I hpf => ?_)
            refine lv_ldc2 (v := (-1 : Int64)) hx hb X.2.2.2.1 (X.2.2.2.2.1 _ (kT_55)) dL_lays_297 ?_
            refine lv_lxor hx hb dL_lays_300 ?_
            refine lv_land hx hb dL_lays_301 ?_
            refine l_last X I lR_10 302 dL_lays_302 hpf (fun L107 H locs I hpf => ?_)
            refine lv_goto (tgt := 401) hx hb dL_lays_303 (by decide) ?_
            exact hC_401 x0 x11 L107 H locs I ls (lv_sub hl [1, 2, 3, 4, 5, 6, 7, 8, 9, 10, 11, 12] rfl) hpf
          refine lv_iload hx hb dL_lays_242 (lv_at hl 13 rfl) ?_
          refine lv_aload hx hb dL_lays_244 (lv_at hl 6 rfl) ?_
          refine lv_iload hx hb dL_lays_246 (lv_at hl 12 rfl) ?_
          refine l_iald X I lR_5 248 dL_lays_248 hpf (fun hpf => ?_)
          refine lv_aload hx hb dL_lays_249 (lv_at hl 7 rfl) ?_
          refine lv_iload hx hb dL_lays_251 (lv_at hl 12 rfl) ?_
          refine l_iald X I lR_6 253 dL_lays_253 hpf (fun hpf => ?_)
          refine lv_aload_n hx hb dL_lays_254 rfl (lv_at hl 2 rfl) ?_
          refine lv_aload hx hb dL_lays_255 (lv_at hl 11 rfl) ?_
          refine l_cAU (rest := []) (As := [.int x12, .int (aI L 5 x11.toNatClampNeg), .int (aI L 6 x11.toNatClampNeg), .ref (a 0), .ref (a 10)]) X I fL_put (c_L_put l hlt N x12 (aI L 5 x11.toNatClampNeg) (aI L 6 x11.toNatClampNeg)) rfl ⟨Nat.le_of_ble_eq_true rfl, Nat.le_of_ble_eq_true rfl⟩ 257 dL_lays_257 rfl hl.1 rfl (Nat.le_of_ble_eq_true rfl) ⟨Nat.le_refl _, Nat.le_refl _⟩ hpf (fun v108 L109 H locs I hpf => ?_)
          refine lv_goto (tgt := 401) hx hb dL_lays_260 (by decide) ?_
          exact hC_401 x0 x11 L109 H locs I ls (lv_sub hl [1, 2, 3, 4, 5, 6, 7, 8, 9, 10, 11, 12] rfl) hpf
        refine lv_aload hx hb dL_lays_135 (lv_at hl 10 rfl) ?_
        refine lv_iconst (v := (3 : Int32)) hx hb dL_lays_137 (by decide) ?_
        refine lv_iload hx hb dL_lays_138 (lv_at hl 13 rfl) ?_
        refine lv_imul hx hb dL_lays_140 ?_
        refine lv_iconst (v := (1 : Int32)) hx hb dL_lays_141 (by decide) ?_
        refine l_iast X I lR_9 142 dL_lays_142 hpf (fun L110 H locs I hpf => ?_)
        refine lv_aload hx hb dL_lays_143 (lv_at hl 10 rfl) ?_
        refine lv_iconst (v := (3 : Int32)) hx hb dL_lays_145 (by decide) ?_
        refine lv_iload hx hb dL_lays_146 (lv_at hl 13 rfl) ?_
        refine lv_imul hx hb dL_lays_148 ?_
        refine lv_iconst (v := (1 : Int32)) hx hb dL_lays_149 (by decide) ?_
        refine lv_iadd hx hb dL_lays_150 ?_
        refine lv_aload hx hb dL_lays_151 (lv_at hl 6 rfl) ?_
        refine lv_iload hx hb dL_lays_153 (lv_at hl 12 rfl) ?_
        refine l_iald X I lR_5 155 dL_lays_155 hpf (fun hpf => ?_)
        refine lv_bipush (v := (100 : Int32)) hx hb dL_lays_156 (by decide) ?_
        refine lv_idiv hx hb dL_lays_158 (by decide) ?_
        refine l_iast X I lR_9 159 dL_lays_159 hpf (fun L111 H locs I hpf => ?_)
        refine lv_aload hx hb dL_lays_160 (lv_at hl 10 rfl) ?_
        refine lv_iconst (v := (3 : Int32)) hx hb dL_lays_162 (by decide) ?_
        refine lv_iload hx hb dL_lays_163 (lv_at hl 13 rfl) ?_
        refine lv_imul hx hb dL_lays_165 ?_
        refine lv_iconst (v := (2 : Int32)) hx hb dL_lays_166 (by decide) ?_
        refine lv_iadd hx hb dL_lays_167 ?_
        refine lv_aload hx hb dL_lays_168 (lv_at hl 7 rfl) ?_
        refine lv_iload hx hb dL_lays_170 (lv_at hl 12 rfl) ?_
        refine l_iald X I lR_6 172 dL_lays_172 hpf (fun hpf => ?_)
        refine l_iast X I lR_9 173 dL_lays_173 hpf (fun L112 H locs I hpf => ?_)
        refine lv_iconst (v := (0 : Int32)) hx hb dL_lays_174 (by decide) ?_
        refine lv_istore (lv' := [(14, .int (0 : Int32)), (13, .int t0), (0, .int x0), (1, .ref (a 0)), (2, .ref (a 2)), (3, .ref (a 3)), (4, .ref (a 4)), (5, .ref (a 5)), (6, .ref (a 6)), (7, .ref (a 7)), (8, .ref (a 8)), (9, .ref (a 9)), (10, .ref (a 10)), (11, .int x11), (12, .int x12)]) hx hb dL_lays_175 hl (by decide) rfl (fun ls hl => ?_)
        exact hC_177 N x0 x11 x12 (0 : Int32) L112 H locs I ls (lv_sub hl [2, 3, 4, 5, 6, 7, 8, 9, 10, 11, 12, 13, 14, 0] rfl) hpf
      intro x0 x11 L H locs I ls hl hpf
      rw [pL_lays_84] at hpf
      refine lv_iload hx hb dL_lays_84 (lv_at hl 11 rfl) ?_
      refine lv_aload_n hx hb dL_lays_86 rfl (lv_at hl 1 rfl) ?_
      refine lv_iconst (v := (1 : Int32)) hx hb dL_lays_87 (by decide) ?_
      refine l_iald X I lR_0 88 dL_lays_88 hpf (fun hpf => ?_)
      refine b_icmp_ge hx hb 407 89 dL_lays_89 (by decide) hpf (fun hpf => ?_) (fun hpf => ?_)
      · exact l_retvA (v := ()) X I hr 407 dL_lays_407 hpf
      refine lv_aload hx hb dL_lays_92 (lv_at hl 4 rfl) ?_
      refine lv_iload hx hb dL_lays_94 (lv_at hl 11 rfl) ?_
      refine l_iald X I lR_4 96 dL_lays_96 hpf (fun hpf => ?_)
      refine lv_bipush (v := (16 : Int32)) hx hb dL_lays_97 (by decide) ?_
      refine lv_irem hx hb dL_lays_99 (by decide) ?_
      refine m_isto hx hb (fun y101 => [(12, .int y101), (0, .int x0), (1, .ref (a 0)), (2, .ref (a 2)), (3, .ref (a 3)), (4, .ref (a 4)), (5, .ref (a 5)), (6, .ref (a 6)), (7, .ref (a 7)), (8, .ref (a 8)), (9, .ref (a 9)), (10, .ref (a 10)), (11, .int x11)]) 100 dL_lays_100 hl (by decide) (fun _ => rfl) hpf (fun y101 ls hl hpf => ?_)
      refine lv_iload_n hx hb dL_lays_102 rfl (lv_at hl 1 rfl) ?_
      refine lv_iload hx hb dL_lays_103 (lv_at hl 12 rfl) ?_
      refine lv_aload_n hx hb dL_lays_105 rfl (lv_at hl 3 rfl) ?_
      refine lv_aload_n hx hb dL_lays_106 rfl (lv_at hl 4 rfl) ?_
      refine lv_aload hx hb dL_lays_107 (lv_at hl 9 rfl) ?_
      refine l_cAI (rest := []) (As := [.int x0, .int x11, .ref (a 2), .ref (a 3), .ref (a 8)]) X I fL_known (c_L_known l hlt N x0 x11) rfl ⟨Nat.le_of_ble_eq_true rfl, Nat.le_of_ble_eq_true rfl⟩ 109 dL_lays_109 rfl hl.1 rfl (Nat.le_of_ble_eq_true rfl) ⟨Nat.le_refl _, Nat.le_refl _⟩ hpf (fun v102 L103 H locs I hpf => ?_)
      refine b_if_eq hx hb 126 112 dL_lays_112 (by decide) hpf (fun hpf => ?_) (fun hpf => ?_)
      · refine lv_bipush (v := (99 : Int32)) hx hb dL_lays_126 (by decide) ?_
        exact hC_128 (99 : Int32) x0 x11 y101 L103 H locs I ls (lv_sub hl [1, 2, 3, 4, 5, 6, 7, 8, 9, 10, 11, 12, 0] rfl) hpf
      refine lv_aload hx hb dL_lays_115 (lv_at hl 5 rfl) ?_
      refine lv_iload hx hb dL_lays_117 (lv_at hl 12 rfl) ?_
      refine l_iald X I lR_4 119 dL_lays_119 hpf (fun hpf => ?_)
      refine lv_bipush (v := (16 : Int32)) hx hb dL_lays_120 (by decide) ?_
      refine lv_idiv hx hb dL_lays_122 (by decide) ?_
      refine lv_goto (tgt := 128) hx hb dL_lays_123 (by decide) ?_
      exact hC_128 ((aI L103 4 x11.toNatClampNeg) / (16 : Int32)) x0 x11 y101 L103 H locs I ls (lv_sub hl [1, 2, 3, 4, 5, 6, 7, 8, 9, 10, 11, 12, 0] rfl) hpf
  have hC_81 : ∀ (x0 : Int32) (L : lS) (H : Heap) (locs : List Loc), lV dC dI g a (lFr g a Si Li sz) s Si Si L H locs → ∀ ls : Array Slot, lv_has ls 16 [(0, .int x0), (1, .ref (a 0)), (2, .ref (a 2)), (3, .ref (a 3)), (4, .ref (a 4)), (5, .ref (a 5)), (6, .ref (a 6)), (7, .ref (a 7)), (8, .ref (a 8)), (9, .ref (a 9)), (10, .ref (a 10))] → pL_lays_81 N x0 L = some (r, Lf) → W p l e (lRm 2 47 0 0) s m args below meth c H locs 0 0 (MQ below (lQ dC dI g a sz Si Li (qU r) Si Lf) args s 0 0 (lFr g a Si Li sz)) (F0 m 81 ls []) := by
    intro x0 L H locs I ls hl hpf
    unfold pL_lays_81 at hpf
    refine lv_iconst (v := (0 : Int32)) hx hb dL_lays_81 (by decide) ?_
    refine lv_istore (lv' := [(11, .int (0 : Int32)), (0, .int x0), (1, .ref (a 0)), (2, .ref (a 2)), (3, .ref (a 3)), (4, .ref (a 4)), (5, .ref (a 5)), (6, .ref (a 6)), (7, .ref (a 7)), (8, .ref (a 8)), (9, .ref (a 9)), (10, .ref (a 10))]) hx hb dL_lays_82 hl (by decide) rfl (fun ls hl => ?_)
    exact hC_84 N x0 (0 : Int32) L H locs I ls (lv_sub hl [1, 2, 3, 4, 5, 6, 7, 8, 9, 10, 11, 0] rfl) hpf
  have hC_3 : ∀ (n_3 : Nat), ∀ (x0 : Int32) (x11 : Int32) (L : lS) (H : Heap) (locs : List Loc), lV dC dI g a (lFr g a Si Li sz) s Si Si L H locs → ∀ ls : Array Slot, lv_has ls 16 [(0, .int x0), (1, .ref (a 0)), (2, .ref (a 2)), (3, .ref (a 3)), (4, .ref (a 4)), (5, .ref (a 5)), (6, .ref (a 6)), (7, .ref (a 7)), (8, .ref (a 8)), (9, .ref (a 9)), (10, .ref (a 10)), (11, .int x11)] → pL_lays_3 N (pL_lays_81 N) n_3 x0 x11 L = some (r, Lf) → W p l e (lRm 2 47 0 0) s m args below meth c H locs 0 0 (MQ below (lQ dC dI g a sz Si Li (qU r) Si Lf) args s 0 0 (lFr g a Si Li sz)) (F0 m 3 ls []) := by
    intro n_3
    induction n_3 with
    | zero =>
      intro x0 x11 L H locs I ls hl hpf
      rw [pL_lays_3] at hpf
      cases hpf
    | succ n_3 ih_3 =>
      have hC_26 : ∀ (t0 : Int32) (t1 : Int32) (x0 : Int32) (x11 : Int32) (L : lS) (H : Heap) (locs : List Loc), lV dC dI g a (lFr g a Si Li sz) s Si Si L H locs → ∀ ls : Array Slot, lv_has ls 16 [(0, .int x0), (1, .ref (a 0)), (2, .ref (a 2)), (3, .ref (a 3)), (4, .ref (a 4)), (5, .ref (a 5)), (6, .ref (a 6)), (7, .ref (a 7)), (8, .ref (a 8)), (9, .ref (a 9)), (10, .ref (a 10)), (11, .int x11)] → pL_lays_26 N (pL_lays_3 N (pL_lays_81 N) n_3) t0 t1 x0 x11 L = some (r, Lf) → W p l e (lRm 2 47 0 0) s m args below meth c H locs 0 0 (MQ below (lQ dC dI g a sz Si Li (qU r) Si Lf) args s 0 0 (lFr g a Si Li sz)) (F0 m 26 ls [.int t0, .int t1, .ref (a 9)]) := by
        intro t0 t1 x0 x11 L H locs I ls hl hpf
        unfold pL_lays_26 at hpf
        refine l_iast X I lR_9 26 dL_lays_26 hpf (fun L101 H locs I hpf => ?_)
        refine lv_aload hx hb dL_lays_27 (lv_at hl 9 rfl) ?_
        refine lv_iconst (v := (3 : Int32)) hx hb dL_lays_29 (by decide) ?_
        refine lv_iload hx hb dL_lays_30 (lv_at hl 11 rfl) ?_
        refine lv_imul hx hb dL_lays_32 ?_
        refine lv_iconst (v := (1 : Int32)) hx hb dL_lays_33 (by decide) ?_
        refine lv_iadd hx hb dL_lays_34 ?_
        refine lv_iconst (v := (-1 : Int32)) hx hb dL_lays_35 (by decide) ?_
        refine l_iast X I lR_9 36 dL_lays_36 hpf (fun L102 H locs I hpf => ?_)
        refine lv_aload hx hb dL_lays_37 (lv_at hl 9 rfl) ?_
        refine lv_iconst (v := (3 : Int32)) hx hb dL_lays_39 (by decide) ?_
        refine lv_iload hx hb dL_lays_40 (lv_at hl 11 rfl) ?_
        refine lv_imul hx hb dL_lays_42 ?_
        refine lv_iconst (v := (2 : Int32)) hx hb dL_lays_43 (by decide) ?_
        refine lv_iadd hx hb dL_lays_44 ?_
        refine lv_iconst (v := (-1 : Int32)) hx hb dL_lays_45 (by decide) ?_
        refine l_iast X I lR_9 46 dL_lays_46 hpf (fun L103 H locs I hpf => ?_)
        refine lv_aload hx hb dL_lays_47 (lv_at hl 10 rfl) ?_
        refine lv_iconst (v := (3 : Int32)) hx hb dL_lays_49 (by decide) ?_
        refine lv_iload hx hb dL_lays_50 (lv_at hl 11 rfl) ?_
        refine lv_imul hx hb dL_lays_52 ?_
        refine lv_lconst (v := (0 : Int64)) hx hb dL_lays_53 (by decide) ?_
        refine l_last X I lR_10 54 dL_lays_54 hpf (fun L104 H locs I hpf => ?_)
        refine lv_aload hx hb dL_lays_55 (lv_at hl 10 rfl) ?_
        refine lv_iconst (v := (3 : Int32)) hx hb dL_lays_57 (by decide) ?_
        refine lv_iload hx hb dL_lays_58 (lv_at hl 11 rfl) ?_
        refine lv_imul hx hb dL_lays_60 ?_
        refine lv_iconst (v := (1 : Int32)) hx hb dL_lays_61 (by decide) ?_
        refine lv_iadd hx hb dL_lays_62 ?_
        refine lv_lconst (v := (0 : Int64)) hx hb dL_lays_63 (by decide) ?_
        refine l_last X I lR_10 64 dL_lays_64 hpf (fun L105 H locs I hpf => ?_)
        refine lv_aload hx hb dL_lays_65 (lv_at hl 10 rfl) ?_
        refine lv_iconst (v := (3 : Int32)) hx hb dL_lays_67 (by decide) ?_
        refine lv_iload hx hb dL_lays_68 (lv_at hl 11 rfl) ?_
        refine lv_imul hx hb dL_lays_70 ?_
        refine lv_iconst (v := (2 : Int32)) hx hb dL_lays_71 (by decide) ?_
        refine lv_iadd hx hb dL_lays_72 ?_
        refine lv_lconst (v := (0 : Int64)) hx hb dL_lays_73 (by decide) ?_
        refine l_last X I lR_10 74 dL_lays_74 hpf (fun L106 H locs I hpf => ?_)
        refine m_iinc (w := (1 : Int32)) hx hb (fun y107 => [(11, .int y107), (0, .int x0), (1, .ref (a 0)), (2, .ref (a 2)), (3, .ref (a 3)), (4, .ref (a 4)), (5, .ref (a 5)), (6, .ref (a 6)), (7, .ref (a 7)), (8, .ref (a 8)), (9, .ref (a 9)), (10, .ref (a 10))]) 75 dL_lays_75 hl (k := 11) rfl (by decide) (by decide) (fun _ => rfl) hpf (fun y107 ls hl hpf => ?_)
        refine lv_goto (tgt := 3) hx hb dL_lays_78 (by decide) ?_
        exact ih_3 x0 y107 L106 H locs I ls (lv_sub hl [1, 2, 3, 4, 5, 6, 7, 8, 9, 10, 11, 0] rfl) hpf
      intro x0 x11 L H locs I ls hl hpf
      rw [pL_lays_3] at hpf
      refine lv_iload hx hb dL_lays_3 (lv_at hl 11 rfl) ?_
      refine lv_bipush (v := (12 : Int32)) hx hb dL_lays_5 (by decide) ?_
      refine b_icmp_ge hx hb 81 7 dL_lays_7 (by decide) hpf (fun hpf => ?_) (fun hpf => ?_)
      · exact hC_81 x0 L H locs I ls (lv_sub hl [0, 1, 2, 3, 4, 5, 6, 7, 8, 9, 10] rfl) hpf
      refine lv_aload hx hb dL_lays_10 (lv_at hl 9 rfl) ?_
      refine lv_iconst (v := (3 : Int32)) hx hb dL_lays_12 (by decide) ?_
      refine lv_iload hx hb dL_lays_13 (lv_at hl 11 rfl) ?_
      refine lv_imul hx hb dL_lays_15 ?_
      refine lv_iload hx hb dL_lays_16 (lv_at hl 11 rfl) ?_
      refine b_if_ne hx hb 25 18 dL_lays_18 (by decide) hpf (fun hpf => ?_) (fun hpf => ?_)
      · refine lv_iconst (v := (0 : Int32)) hx hb dL_lays_25 (by decide) ?_
        exact hC_26 (0 : Int32) ((3 : Int32) * x11) x0 x11 L H locs I ls (lv_sub hl [0, 1, 2, 3, 4, 5, 6, 7, 8, 9, 10, 11] rfl) hpf
      refine lv_iconst (v := (1 : Int32)) hx hb dL_lays_21 (by decide) ?_
      refine lv_goto (tgt := 26) hx hb dL_lays_22 (by decide) ?_
      exact hC_26 (1 : Int32) ((3 : Int32) * x11) x0 x11 L H locs I ls (lv_sub hl [0, 1, 2, 3, 4, 5, 6, 7, 8, 9, 10, 11] rfl) hpf
  refine lv_iconst (v := (0 : Int32)) hx hb dL_lays_0 (by decide) ?_
  refine lv_istore (lv' := [(11, .int (0 : Int32)), (0, .int x0), (1, .ref (a 0)), (2, .ref (a 2)), (3, .ref (a 3)), (4, .ref (a 4)), (5, .ref (a 5)), (6, .ref (a 6)), (7, .ref (a 7)), (8, .ref (a 8)), (9, .ref (a 9)), (10, .ref (a 10))]) hx hb dL_lays_1 hl (by decide) rfl (fun ls hl => ?_)
  exact hC_3 N x0 (0 : Int32) Li H locs I ls (lv_sub hl [1, 2, 3, 4, 5, 6, 7, 8, 9, 10, 11, 0] rfl) hpf
