-- ===== the law's last =====
def pL_last_41 (N : Nat) (x9 : Int32) (L : lS) : Option (Int32 × lS) :=
    gd x9 41 <|
    some (aI L 5 x9.toNatClampNeg, L)
def pL_last_47 (N : Nat) (k_7 : Int32 → Int32 → Int32 → Int32 → lS → Option (Int32 × lS)) (x0 : Int32) (x1 : Int32) (x2 : Int32) (x9 : Int32) (L : lS) : Option (Int32 × lS) :=
    nm (x9 + (-1 : Int32)) fun y101 =>
    k_7 x0 x1 x2 y101 L
def pL_last_7 (N : Nat) (k_41 : Int32 → lS → Option (Int32 × lS)) : Nat → Int32 → Int32 → Int32 → Int32 → lS → Option (Int32 × lS)
  | 0 => fun _ _ _ _ _ => none
  | n_7 + 1 => fun x0 x1 x2 x9 L =>
    if x9 < (0 : Int32) then (
      some ((-5 : Int32), L))
    else (
      gd x9 41 <|
      if (aI L 4 x9.toNatClampNeg) = (((16 : Int32) * x1) + x2) then (
        lba (pL_known N x0 x9 L) fun v101 L102 =>
        if v101 = (0 : Int32) then (
          pL_last_47 N (pL_last_7 N k_41 n_7) x0 x1 x2 x9 L102)
        else (
          k_41 x9 L102))
      else (
        pL_last_47 N (pL_last_7 N k_41 n_7) x0 x1 x2 x9 L))
def pL_last (N : Nat) (x0 : Int32) (x1 : Int32) (x2 : Int32) (L : lS) : Option (Int32 × lS) :=
    gd (1 : Int32) 20 <|
    nm ((aI L 0 (1 : Int32).toNatClampNeg) - (1 : Int32)) fun y101 =>
    pL_last_7 N (pL_last_41 N) N x0 x1 x2 y101 L
theorem fL_last : lFnS yL_last (.code yL_last cL_last 10 (some .int)) 9 85 := ⟨kT_69, kT_70, kT_67, rfl, by decide +kernel⟩
set_option maxRecDepth 100000 in
set_option maxHeartbeats 4000000 in
theorem c_L_last (l : Launch) (hlt : l.stackTraces = false) (N : Nat) (x0 : Int32) (x1 : Int32) (x2 : Int32) : lMet l yL_last (.code yL_last cL_last 10 (some .int)) 1 24 0 0 (fun ca a => [.int x0, .int x1, .int x2, .ref (a 0), .ref (a 2), .ref (a 3), .ref (a 4), .ref (a 5), .ref (a 8)]) qI (fun S L => lup S (pL_last N x0 x1 x2 L)) := by
  refine l_startA hlt (by decide +kernel) rfl (fun ca a => [(0, .int x0), (1, .int x1), (2, .int x2), (3, .ref (a 0)), (4, .ref (a 2)), (5, .ref (a 3)), (6, .ref (a 4)), (7, .ref (a 5)), (8, .ref (a 8))]) (fun _ _ => Nat.le_of_ble_eq_true rfl) (fun _ _ => rfl) ?_
  intro dC dI g a sz Si Li r Lf hpf p e s m args below meth c X hr H locs I ls hl
  have hx := X.1
  have hb := X.2.1
  unfold pL_last at hpf
  have hC_41 : ∀ (x9 : Int32) (L : lS) (H : Heap) (locs : List Loc), lV dC dI g a (lFr g a Si Li sz) s Si Si L H locs → ∀ ls : Array Slot, lv_has ls 10 [(7, .ref (a 5)), (9, .int x9)] → pL_last_41 N x9 L = some (r, Lf) → W p l e (lRm 1 24 0 0) s m args below meth c H locs 0 0 (MQ below (lQ dC dI g a sz Si Li (qI r) Si Lf) args s 0 0 (lFr g a Si Li sz)) (F0 m 41 ls []) := by
    intro x9 L H locs I ls hl hpf
    unfold pL_last_41 at hpf
    refine lv_aload hx hb dL_last_41 (lv_at hl 0 rfl) ?_
    refine lv_iload hx hb dL_last_43 (lv_at hl 1 rfl) ?_
    refine l_iald X I lR_5 45 dL_last_45 hpf (fun hpf => ?_)
    exact l_retiA X I hr 46 dL_last_46 hpf
  have hC_7 : ∀ (n_7 : Nat), ∀ (x0 : Int32) (x1 : Int32) (x2 : Int32) (x9 : Int32) (L : lS) (H : Heap) (locs : List Loc), lV dC dI g a (lFr g a Si Li sz) s Si Si L H locs → ∀ ls : Array Slot, lv_has ls 10 [(0, .int x0), (1, .int x1), (2, .int x2), (4, .ref (a 2)), (5, .ref (a 3)), (6, .ref (a 4)), (7, .ref (a 5)), (8, .ref (a 8)), (9, .int x9)] → pL_last_7 N (pL_last_41 N) n_7 x0 x1 x2 x9 L = some (r, Lf) → W p l e (lRm 1 24 0 0) s m args below meth c H locs 0 0 (MQ below (lQ dC dI g a sz Si Li (qI r) Si Lf) args s 0 0 (lFr g a Si Li sz)) (F0 m 7 ls []) := by
    intro n_7
    induction n_7 with
    | zero =>
      intro x0 x1 x2 x9 L H locs I ls hl hpf
      rw [pL_last_7] at hpf
      cases hpf
    | succ n_7 ih_7 =>
      have hC_47 : ∀ (x0 : Int32) (x1 : Int32) (x2 : Int32) (x9 : Int32) (L : lS) (H : Heap) (locs : List Loc), lV dC dI g a (lFr g a Si Li sz) s Si Si L H locs → ∀ ls : Array Slot, lv_has ls 10 [(0, .int x0), (1, .int x1), (2, .int x2), (4, .ref (a 2)), (5, .ref (a 3)), (6, .ref (a 4)), (7, .ref (a 5)), (8, .ref (a 8)), (9, .int x9)] → pL_last_47 N (pL_last_7 N (pL_last_41 N) n_7) x0 x1 x2 x9 L = some (r, Lf) → W p l e (lRm 1 24 0 0) s m args below meth c H locs 0 0 (MQ below (lQ dC dI g a sz Si Li (qI r) Si Lf) args s 0 0 (lFr g a Si Li sz)) (F0 m 47 ls []) := by
        intro x0 x1 x2 x9 L H locs I ls hl hpf
        unfold pL_last_47 at hpf
        refine m_iinc (w := (-1 : Int32)) hx hb (fun y101 => [(9, .int y101), (0, .int x0), (1, .int x1), (2, .int x2), (4, .ref (a 2)), (5, .ref (a 3)), (6, .ref (a 4)), (7, .ref (a 5)), (8, .ref (a 8))]) 47 dL_last_47 hl (k := 8) rfl (by decide) (by decide) (fun _ => rfl) hpf (fun y101 ls hl hpf => ?_)
        refine lv_goto (tgt := 7) hx hb dL_last_50 (by decide) ?_
        exact ih_7 x0 x1 x2 y101 L H locs I ls (lv_sub hl [1, 2, 3, 4, 5, 6, 7, 8, 0] rfl) hpf
      intro x0 x1 x2 x9 L H locs I ls hl hpf
      rw [pL_last_7] at hpf
      refine lv_iload hx hb dL_last_7 (lv_at hl 8 rfl) ?_
      refine b_if_lt hx hb 53 9 dL_last_9 (by decide) hpf (fun hpf => ?_) (fun hpf => ?_)
      · refine lv_bipush (v := (-5 : Int32)) hx hb dL_last_53 (by decide) ?_
        exact l_retiA X I hr 55 dL_last_55 hpf
      refine lv_aload hx hb dL_last_12 (lv_at hl 5 rfl) ?_
      refine lv_iload hx hb dL_last_14 (lv_at hl 8 rfl) ?_
      refine l_iald X I lR_4 16 dL_last_16 hpf (fun hpf => ?_)
      refine lv_bipush (v := (16 : Int32)) hx hb dL_last_17 (by decide) ?_
      refine lv_iload_n hx hb dL_last_19 rfl (lv_at hl 1 rfl) ?_
      refine lv_imul hx hb dL_last_20 ?_
      refine lv_iload_n hx hb dL_last_21 rfl (lv_at hl 2 rfl) ?_
      refine lv_iadd hx hb dL_last_22 ?_
      refine b_icmp_ne hx hb 47 23 dL_last_23 (by decide) hpf (fun hpf => ?_) (fun hpf => ?_)
      · exact hC_47 x0 x1 x2 x9 L H locs I ls (lv_sub hl [0, 1, 2, 3, 4, 5, 6, 7, 8] rfl) hpf
      refine lv_iload_n hx hb dL_last_26 rfl (lv_at hl 0 rfl) ?_
      refine lv_iload hx hb dL_last_27 (lv_at hl 8 rfl) ?_
      refine lv_aload hx hb dL_last_29 (lv_at hl 3 rfl) ?_
      refine lv_aload hx hb dL_last_31 (lv_at hl 4 rfl) ?_
      refine lv_aload hx hb dL_last_33 (lv_at hl 7 rfl) ?_
      refine l_cAI (rest := []) (As := [.int x0, .int x9, .ref (a 2), .ref (a 3), .ref (a 8)]) X I fL_known (c_L_known l hlt N x0 x9) rfl ⟨Nat.le_of_ble_eq_true rfl, Nat.le_of_ble_eq_true rfl⟩ 35 dL_last_35 rfl hl.1 rfl (Nat.le_of_ble_eq_true rfl) ⟨Nat.le_refl _, Nat.le_refl _⟩ hpf (fun v101 L102 H locs I hpf => ?_)
      refine b_if_eq hx hb 47 38 dL_last_38 (by decide) hpf (fun hpf => ?_) (fun hpf => ?_)
      · exact hC_47 x0 x1 x2 x9 L102 H locs I ls (lv_sub hl [0, 1, 2, 3, 4, 5, 6, 7, 8] rfl) hpf
      exact hC_41 x9 L102 H locs I ls (lv_sub hl [6, 8] rfl) hpf
  refine lv_aload_n hx hb dL_last_0 rfl (lv_at hl 3 rfl) ?_
  refine lv_iconst (v := (1 : Int32)) hx hb dL_last_1 (by decide) ?_
  refine l_iald X I lR_0 2 dL_last_2 hpf (fun hpf => ?_)
  refine lv_iconst (v := (1 : Int32)) hx hb dL_last_3 (by decide) ?_
  refine lv_isub hx hb dL_last_4 ?_
  refine m_isto hx hb (fun y101 => [(9, .int y101), (0, .int x0), (1, .int x1), (2, .int x2), (3, .ref (a 0)), (4, .ref (a 2)), (5, .ref (a 3)), (6, .ref (a 4)), (7, .ref (a 5)), (8, .ref (a 8))]) 5 dL_last_5 hl (by decide) (fun _ => rfl) hpf (fun y101 ls hl hpf => ?_)
  exact hC_7 N x0 x1 x2 y101 Li H locs I ls (lv_sub hl [1, 2, 3, 5, 6, 7, 8, 9, 0] rfl) hpf
-- ===== the law's name =====
def pL_name (N : Nat) (x0 : Int32) (x1 : Int32) (L : lS) : Option (Int32 × lS) :=
    lba (pL_last N x0 (4 : Int32) x1 L) fun v101 L102 =>
    if x1 = (0 : Int32) then (
      some ((0 : Int32), L102))
    else (
      if v101 < (0 : Int32) then (
        lba (pL_last N x0 (0 : Int32) x1 L102) fun v103 L104 =>
        some (v103 - v103 / (100 : Int32) * (100 : Int32), L104))
      else (
        some (v101, L102)))
theorem fL_name : lFnS yL_name (.code yL_name cL_name 9 (some .int)) 8 89 := ⟨kT_75, kT_76, kT_68, rfl, by decide +kernel⟩
set_option maxRecDepth 100000 in
set_option maxHeartbeats 4000000 in
theorem c_L_name (l : Launch) (hlt : l.stackTraces = false) (N : Nat) (x0 : Int32) (x1 : Int32) : lMet l yL_name (.code yL_name cL_name 9 (some .int)) 2 53 0 0 (fun ca a => [.int x0, .int x1, .ref (a 0), .ref (a 2), .ref (a 3), .ref (a 4), .ref (a 5), .ref (a 8)]) qI (fun S L => lup S (pL_name N x0 x1 L)) := by
  refine l_startA hlt (by decide +kernel) rfl (fun ca a => [(0, .int x0), (1, .int x1), (2, .ref (a 0)), (3, .ref (a 2)), (4, .ref (a 3)), (5, .ref (a 4)), (6, .ref (a 5)), (7, .ref (a 8))]) (fun _ _ => Nat.le_of_ble_eq_true rfl) (fun _ _ => rfl) ?_
  intro dC dI g a sz Si Li r Lf hpf p e s m args below meth c X hr H locs I ls hl
  have hx := X.1
  have hb := X.2.1
  unfold pL_name at hpf
  refine lv_iload_n hx hb dL_name_0 rfl (lv_at hl 0 rfl) ?_
  refine lv_iconst (v := (4 : Int32)) hx hb dL_name_1 (by decide) ?_
  refine lv_iload_n hx hb dL_name_2 rfl (lv_at hl 1 rfl) ?_
  refine lv_aload_n hx hb dL_name_3 rfl (lv_at hl 2 rfl) ?_
  refine lv_aload_n hx hb dL_name_4 rfl (lv_at hl 3 rfl) ?_
  refine lv_aload hx hb dL_name_5 (lv_at hl 4 rfl) ?_
  refine lv_aload hx hb dL_name_7 (lv_at hl 5 rfl) ?_
  refine lv_aload hx hb dL_name_9 (lv_at hl 6 rfl) ?_
  refine lv_aload hx hb dL_name_11 (lv_at hl 7 rfl) ?_
  refine l_cAI (rest := []) (As := [.int x0, .int (4 : Int32), .int x1, .ref (a 0), .ref (a 2), .ref (a 3), .ref (a 4), .ref (a 5), .ref (a 8)]) X I fL_last (c_L_last l hlt N x0 (4 : Int32) x1) rfl ⟨Nat.le_of_ble_eq_true rfl, Nat.le_of_ble_eq_true rfl⟩ 13 dL_name_13 rfl hl.1 rfl (Nat.le_of_ble_eq_true rfl) ⟨Nat.le_refl _, Nat.le_refl _⟩ hpf (fun v101 L102 H locs I hpf => ?_)
  refine lv_istore (lv' := [(8, .int v101), (0, .int x0), (1, .int x1), (2, .ref (a 0)), (3, .ref (a 2)), (4, .ref (a 3)), (5, .ref (a 4)), (6, .ref (a 5)), (7, .ref (a 8))]) hx hb dL_name_16 hl (by decide) rfl (fun ls hl => ?_)
  refine lv_iload_n hx hb dL_name_18 rfl (lv_at hl 2 rfl) ?_
  refine b_if_ne hx hb 26 19 dL_name_19 (by decide) hpf (fun hpf => ?_) (fun hpf => ?_)
  · refine lv_iload hx hb dL_name_26 (lv_at hl 0 rfl) ?_
    refine b_if_lt hx hb 36 28 dL_name_28 (by decide) hpf (fun hpf => ?_) (fun hpf => ?_)
    · refine lv_iload_n hx hb dL_name_36 rfl (lv_at hl 1 rfl) ?_
      refine lv_iconst (v := (0 : Int32)) hx hb dL_name_37 (by decide) ?_
      refine lv_iload_n hx hb dL_name_38 rfl (lv_at hl 2 rfl) ?_
      refine lv_aload_n hx hb dL_name_39 rfl (lv_at hl 3 rfl) ?_
      refine lv_aload_n hx hb dL_name_40 rfl (lv_at hl 4 rfl) ?_
      refine lv_aload hx hb dL_name_41 (lv_at hl 5 rfl) ?_
      refine lv_aload hx hb dL_name_43 (lv_at hl 6 rfl) ?_
      refine lv_aload hx hb dL_name_45 (lv_at hl 7 rfl) ?_
      refine lv_aload hx hb dL_name_47 (lv_at hl 8 rfl) ?_
      refine l_cAI (rest := []) (As := [.int x0, .int (0 : Int32), .int x1, .ref (a 0), .ref (a 2), .ref (a 3), .ref (a 4), .ref (a 5), .ref (a 8)]) X I fL_last (c_L_last l hlt N x0 (0 : Int32) x1) rfl ⟨Nat.le_of_ble_eq_true rfl, Nat.le_of_ble_eq_true rfl⟩ 49 dL_name_49 rfl hl.1 rfl (Nat.le_of_ble_eq_true rfl) ⟨Nat.le_refl _, Nat.le_refl _⟩ hpf (fun v103 L104 H locs I hpf => ?_)
      refine lv_bipush (v := (100 : Int32)) hx hb dL_name_52 (by decide) ?_
      refine lv_irem hx hb dL_name_54 (by decide) ?_
      exact l_retiA X I hr 55 dL_name_55 hpf
    refine lv_iload hx hb dL_name_31 (lv_at hl 0 rfl) ?_
    refine lv_goto (tgt := 55) hx hb dL_name_33 (by decide) ?_
    exact l_retiA X I hr 55 dL_name_55 hpf
  refine lv_iconst (v := (0 : Int32)) hx hb dL_name_22 (by decide) ?_
  refine lv_goto (tgt := 55) hx hb dL_name_23 (by decide) ?_
  exact l_retiA X I hr 55 dL_name_55 hpf
-- ===== the law's link =====
def pL_link (N : Nat) (x0 : Int32) (x1 : Int32) (L : lS) : Option (Int32 × lS) :=
    lba (pL_last N x0 (5 : Int32) x1 L) fun v101 L102 =>
    if v101 = (-5 : Int32) then (
      some ((-1 : Int32), L102))
    else (
      some (v101, L102))
theorem fL_link : lFnS yL_link (.code yL_link cL_link 9 (some .int)) 8 154 := ⟨kT_125, kT_126, kT_71, rfl, by decide +kernel⟩
set_option maxRecDepth 100000 in
set_option maxHeartbeats 4000000 in
theorem c_L_link (l : Launch) (hlt : l.stackTraces = false) (N : Nat) (x0 : Int32) (x1 : Int32) : lMet l yL_link (.code yL_link cL_link 9 (some .int)) 2 53 0 0 (fun ca a => [.int x0, .int x1, .ref (a 0), .ref (a 2), .ref (a 3), .ref (a 4), .ref (a 5), .ref (a 8)]) qI (fun S L => lup S (pL_link N x0 x1 L)) := by
  refine l_startA hlt (by decide +kernel) rfl (fun ca a => [(0, .int x0), (1, .int x1), (2, .ref (a 0)), (3, .ref (a 2)), (4, .ref (a 3)), (5, .ref (a 4)), (6, .ref (a 5)), (7, .ref (a 8))]) (fun _ _ => Nat.le_of_ble_eq_true rfl) (fun _ _ => rfl) ?_
  intro dC dI g a sz Si Li r Lf hpf p e s m args below meth c X hr H locs I ls hl
  have hx := X.1
  have hb := X.2.1
  unfold pL_link at hpf
  refine lv_iload_n hx hb dL_link_0 rfl (lv_at hl 0 rfl) ?_
  refine lv_iconst (v := (5 : Int32)) hx hb dL_link_1 (by decide) ?_
  refine lv_iload_n hx hb dL_link_2 rfl (lv_at hl 1 rfl) ?_
  refine lv_aload_n hx hb dL_link_3 rfl (lv_at hl 2 rfl) ?_
  refine lv_aload_n hx hb dL_link_4 rfl (lv_at hl 3 rfl) ?_
  refine lv_aload hx hb dL_link_5 (lv_at hl 4 rfl) ?_
  refine lv_aload hx hb dL_link_7 (lv_at hl 5 rfl) ?_
  refine lv_aload hx hb dL_link_9 (lv_at hl 6 rfl) ?_
  refine lv_aload hx hb dL_link_11 (lv_at hl 7 rfl) ?_
  refine l_cAI (rest := []) (As := [.int x0, .int (5 : Int32), .int x1, .ref (a 0), .ref (a 2), .ref (a 3), .ref (a 4), .ref (a 5), .ref (a 8)]) X I fL_last (c_L_last l hlt N x0 (5 : Int32) x1) rfl ⟨Nat.le_of_ble_eq_true rfl, Nat.le_of_ble_eq_true rfl⟩ 13 dL_link_13 rfl hl.1 rfl (Nat.le_of_ble_eq_true rfl) ⟨Nat.le_refl _, Nat.le_refl _⟩ hpf (fun v101 L102 H locs I hpf => ?_)
  refine lv_istore (lv' := [(8, .int v101), (0, .int x0), (1, .int x1), (2, .ref (a 0)), (3, .ref (a 2)), (4, .ref (a 3)), (5, .ref (a 4)), (6, .ref (a 5)), (7, .ref (a 8))]) hx hb dL_link_16 hl (by decide) rfl (fun ls hl => ?_)
  refine lv_iload hx hb dL_link_18 (lv_at hl 0 rfl) ?_
  refine lv_bipush (v := (-5 : Int32)) hx hb dL_link_20 (by decide) ?_
  refine b_icmp_ne hx hb 29 22 dL_link_22 (by decide) hpf (fun hpf => ?_) (fun hpf => ?_)
  · refine lv_iload hx hb dL_link_29 (lv_at hl 0 rfl) ?_
    exact l_retiA X I hr 31 dL_link_31 hpf
  refine lv_iconst (v := (-1 : Int32)) hx hb dL_link_25 (by decide) ?_
  refine lv_goto (tgt := 31) hx hb dL_link_26 (by decide) ?_
  exact l_retiA X I hr 31 dL_link_31 hpf
-- ===== the law's place =====
def pL_place (N : Nat) (x0 : Int32) (L : lS) : Option (Int32 × lS) :=
    gd (((3 : Int32) * x0) + (2 : Int32)) 36 <|
    if (0 : Int32) ≤ (aI L 9 (((3 : Int32) * x0) + (2 : Int32)).toNatClampNeg) then (
      gd (((3 : Int32) * x0) + (2 : Int32)) 36 <|
      gd ((3 : Int32) * (aI L 9 (((3 : Int32) * x0) + (2 : Int32)).toNatClampNeg)) 36 <|
      if (aI L 9 ((3 : Int32) * (aI L 9 (((3 : Int32) * x0) + (2 : Int32)).toNatClampNeg)).toNatClampNeg) = (1 : Int32) then (
        gd (((3 : Int32) * x0) + (2 : Int32)) 36 <|
        some (aI L 9 (((3 : Int32) * x0) + (2 : Int32)).toNatClampNeg, L))
      else (
        some ((-2 : Int32), L)))
    else (
      some ((-1 : Int32), L))
theorem fL_place : lFnS yL_place (.code yL_place cL_place 2 (some .int)) 2 93 := ⟨kT_77, kT_78, kT_72, rfl, by decide +kernel⟩
set_option maxRecDepth 100000 in
set_option maxHeartbeats 4000000 in
theorem c_L_place (l : Launch) (hlt : l.stackTraces = false) (N : Nat) (x0 : Int32) : lMet l yL_place (.code yL_place cL_place 2 (some .int)) 0 0 0 0 (fun ca a => [.int x0, .ref (a 9)]) qI (fun S L => lup S (pL_place N x0 L)) := by
  refine l_startA hlt (by decide +kernel) rfl (fun ca a => [(0, .int x0), (1, .ref (a 9))]) (fun _ _ => Nat.le_of_ble_eq_true rfl) (fun _ _ => rfl) ?_
  intro dC dI g a sz Si Li r Lf hpf p e s m args below meth c X hr H locs I ls hl
  have hx := X.1
  have hb := X.2.1
  unfold pL_place at hpf
  refine lv_aload_n hx hb dL_place_0 rfl (lv_at hl 1 rfl) ?_
  refine lv_iconst (v := (3 : Int32)) hx hb dL_place_1 (by decide) ?_
  refine lv_iload_n hx hb dL_place_2 rfl (lv_at hl 0 rfl) ?_
  refine lv_imul hx hb dL_place_3 ?_
  refine lv_iconst (v := (2 : Int32)) hx hb dL_place_4 (by decide) ?_
  refine lv_iadd hx hb dL_place_5 ?_
  refine l_iald X I lR_9 6 dL_place_6 hpf (fun hpf => ?_)
  refine b_if_ge hx hb 14 7 dL_place_7 (by decide) hpf (fun hpf => ?_) (fun hpf => ?_)
  · refine lv_aload_n hx hb dL_place_14 rfl (lv_at hl 1 rfl) ?_
    refine lv_iconst (v := (3 : Int32)) hx hb dL_place_15 (by decide) ?_
    refine lv_aload_n hx hb dL_place_16 rfl (lv_at hl 1 rfl) ?_
    refine lv_iconst (v := (3 : Int32)) hx hb dL_place_17 (by decide) ?_
    refine lv_iload_n hx hb dL_place_18 rfl (lv_at hl 0 rfl) ?_
    refine lv_imul hx hb dL_place_19 ?_
    refine lv_iconst (v := (2 : Int32)) hx hb dL_place_20 (by decide) ?_
    refine lv_iadd hx hb dL_place_21 ?_
    refine l_iald X I lR_9 22 dL_place_22 hpf (fun hpf => ?_)
    refine lv_imul hx hb dL_place_23 ?_
    refine l_iald X I lR_9 24 dL_place_24 hpf (fun hpf => ?_)
    refine lv_iconst (v := (1 : Int32)) hx hb dL_place_25 (by decide) ?_
    refine b_icmp_ne hx hb 39 26 dL_place_26 (by decide) hpf (fun hpf => ?_) (fun hpf => ?_)
    · refine lv_bipush (v := (-2 : Int32)) hx hb dL_place_39 (by decide) ?_
      exact l_retiA X I hr 41 dL_place_41 hpf
    refine lv_aload_n hx hb dL_place_29 rfl (lv_at hl 1 rfl) ?_
    refine lv_iconst (v := (3 : Int32)) hx hb dL_place_30 (by decide) ?_
    refine lv_iload_n hx hb dL_place_31 rfl (lv_at hl 0 rfl) ?_
    refine lv_imul hx hb dL_place_32 ?_
    refine lv_iconst (v := (2 : Int32)) hx hb dL_place_33 (by decide) ?_
    refine lv_iadd hx hb dL_place_34 ?_
    refine l_iald X I lR_9 35 dL_place_35 hpf (fun hpf => ?_)
    refine lv_goto (tgt := 41) hx hb dL_place_36 (by decide) ?_
    exact l_retiA X I hr 41 dL_place_41 hpf
  refine lv_iconst (v := (-1 : Int32)) hx hb dL_place_10 (by decide) ?_
  refine lv_goto (tgt := 41) hx hb dL_place_11 (by decide) ?_
  exact l_retiA X I hr 41 dL_place_41 hpf
-- ===== the law's born =====
def pL_born_27 (N : Nat) (k_5 : Int32 → Int32 → Int32 → lS → Option (Int32 × lS)) (t0 : Int32) (x0 : Int32) (x4 : Int32) (L : lS) : Option (Int32 × lS) :=
    nm (x4 + (1 : Int32)) fun y101 =>
    k_5 x0 t0 y101 L
def pL_born_5 (N : Nat) : Nat → Int32 → Int32 → Int32 → lS → Option (Int32 × lS)
  | 0 => fun _ _ _ _ => none
  | n_5 + 1 => fun x0 x3 x4 L =>
    gd (1 : Int32) 20 <|
    if (aI L 0 (1 : Int32).toNatClampNeg) ≤ x4 then (
      some (x3, L))
    else (
      gd x4 41 <|
      if (aI L 4 x4.toNatClampNeg) = x0 then (
        pL_born_27 N (pL_born_5 N n_5) x4 x0 x4 L)
      else (
        pL_born_27 N (pL_born_5 N n_5) x3 x0 x4 L))
def pL_born (N : Nat) (x0 : Int32) (L : lS) : Option (Int32 × lS) :=
    pL_born_5 N N x0 (-1 : Int32) (0 : Int32) L
theorem fL_born : lFnS yL_born (.code yL_born cL_born 5 (some .int)) 3 97 := ⟨kT_79, kT_80, kT_73, rfl, by decide +kernel⟩
set_option maxRecDepth 100000 in
set_option maxHeartbeats 4000000 in
theorem c_L_born (l : Launch) (hlt : l.stackTraces = false) (N : Nat) (x0 : Int32) : lMet l yL_born (.code yL_born cL_born 5 (some .int)) 0 0 0 0 (fun ca a => [.int x0, .ref (a 0), .ref (a 4)]) qI (fun S L => lup S (pL_born N x0 L)) := by
  refine l_startA hlt (by decide +kernel) rfl (fun ca a => [(0, .int x0), (1, .ref (a 0)), (2, .ref (a 4))]) (fun _ _ => Nat.le_of_ble_eq_true rfl) (fun _ _ => rfl) ?_
  intro dC dI g a sz Si Li r Lf hpf p e s m args below meth c X hr H locs I ls hl
  have hx := X.1
  have hb := X.2.1
  unfold pL_born at hpf
  have hC_5 : ∀ (n_5 : Nat), ∀ (x0 : Int32) (x3 : Int32) (x4 : Int32) (L : lS) (H : Heap) (locs : List Loc), lV dC dI g a (lFr g a Si Li sz) s Si Si L H locs → ∀ ls : Array Slot, lv_has ls 5 [(0, .int x0), (1, .ref (a 0)), (2, .ref (a 4)), (3, .int x3), (4, .int x4)] → pL_born_5 N n_5 x0 x3 x4 L = some (r, Lf) → W p l e (lRm 0 0 0 0) s m args below meth c H locs 0 0 (MQ below (lQ dC dI g a sz Si Li (qI r) Si Lf) args s 0 0 (lFr g a Si Li sz)) (F0 m 5 ls []) := by
    intro n_5
    induction n_5 with
    | zero =>
      intro x0 x3 x4 L H locs I ls hl hpf
      rw [pL_born_5] at hpf
      cases hpf
    | succ n_5 ih_5 =>
      have hC_27 : ∀ (t0 : Int32) (x0 : Int32) (x4 : Int32) (L : lS) (H : Heap) (locs : List Loc), lV dC dI g a (lFr g a Si Li sz) s Si Si L H locs → ∀ ls : Array Slot, lv_has ls 5 [(0, .int x0), (1, .ref (a 0)), (2, .ref (a 4)), (4, .int x4)] → pL_born_27 N (pL_born_5 N n_5) t0 x0 x4 L = some (r, Lf) → W p l e (lRm 0 0 0 0) s m args below meth c H locs 0 0 (MQ below (lQ dC dI g a sz Si Li (qI r) Si Lf) args s 0 0 (lFr g a Si Li sz)) (F0 m 27 ls [.int t0]) := by
        intro t0 x0 x4 L H locs I ls hl hpf
        unfold pL_born_27 at hpf
        refine lv_istore_n (lv' := [(3, .int t0), (0, .int x0), (1, .ref (a 0)), (2, .ref (a 4)), (4, .int x4)]) hx hb dL_born_27 rfl hl (by decide) rfl (fun ls hl => ?_)
        refine m_iinc (w := (1 : Int32)) hx hb (fun y101 => [(4, .int y101), (3, .int t0), (0, .int x0), (1, .ref (a 0)), (2, .ref (a 4))]) 28 dL_born_28 hl (k := 4) rfl (by decide) (by decide) (fun _ => rfl) hpf (fun y101 ls hl hpf => ?_)
        refine lv_goto (tgt := 5) hx hb dL_born_31 (by decide) ?_
        exact ih_5 x0 t0 y101 L H locs I ls (lv_sub hl [2, 3, 4, 1, 0] rfl) hpf
      intro x0 x3 x4 L H locs I ls hl hpf
      rw [pL_born_5] at hpf
      refine lv_iload hx hb dL_born_5 (lv_at hl 4 rfl) ?_
      refine lv_aload_n hx hb dL_born_7 rfl (lv_at hl 1 rfl) ?_
      refine lv_iconst (v := (1 : Int32)) hx hb dL_born_8 (by decide) ?_
      refine l_iald X I lR_0 9 dL_born_9 hpf (fun hpf => ?_)
      refine b_icmp_ge hx hb 34 10 dL_born_10 (by decide) hpf (fun hpf => ?_) (fun hpf => ?_)
      · refine lv_iload_n hx hb dL_born_34 rfl (lv_at hl 3 rfl) ?_
        exact l_retiA X I hr 35 dL_born_35 hpf
      refine lv_aload_n hx hb dL_born_13 rfl (lv_at hl 2 rfl) ?_
      refine lv_iload hx hb dL_born_14 (lv_at hl 4 rfl) ?_
      refine l_iald X I lR_4 16 dL_born_16 hpf (fun hpf => ?_)
      refine lv_iload_n hx hb dL_born_17 rfl (lv_at hl 0 rfl) ?_
      refine b_icmp_ne hx hb 26 18 dL_born_18 (by decide) hpf (fun hpf => ?_) (fun hpf => ?_)
      · refine lv_iload_n hx hb dL_born_26 rfl (lv_at hl 3 rfl) ?_
        exact hC_27 x3 x0 x4 L H locs I ls (lv_sub hl [0, 1, 2, 4] rfl) hpf
      refine lv_iload hx hb dL_born_21 (lv_at hl 4 rfl) ?_
      refine lv_goto (tgt := 27) hx hb dL_born_23 (by decide) ?_
      exact hC_27 x4 x0 x4 L H locs I ls (lv_sub hl [0, 1, 2, 4] rfl) hpf
  refine lv_iconst (v := (-1 : Int32)) hx hb dL_born_0 (by decide) ?_
  refine lv_istore_n (lv' := [(3, .int (-1 : Int32)), (0, .int x0), (1, .ref (a 0)), (2, .ref (a 4))]) hx hb dL_born_1 rfl hl (by decide) rfl (fun ls hl => ?_)
  refine lv_iconst (v := (0 : Int32)) hx hb dL_born_2 (by decide) ?_
  refine lv_istore (lv' := [(4, .int (0 : Int32)), (3, .int (-1 : Int32)), (0, .int x0), (1, .ref (a 0)), (2, .ref (a 4))]) hx hb dL_born_3 hl (by decide) rfl (fun ls hl => ?_)
  exact hC_5 N x0 (-1 : Int32) (0 : Int32) Li H locs I ls (lv_sub hl [2, 3, 4, 1, 0] rfl) hpf
-- ===== the law's shown =====
def pL_shown_125 (N : Nat) (x1 : Int32) (x9 : Int32) (x10 : Int32) (L : lS) : Option (Int32 × lS) :=
    if x10 = (0 : Int32) then (
      some (x9, L))
    else (
      some ((100 : Int32) + x1, L))
def pL_shown_117 (N : Nat) (k_23 : Int32 → Int32 → Int32 → Int32 → Int32 → lS → Option (Int32 × lS)) (t0 : Int32) (x0 : Int32) (x1 : Int32) (x9 : Int32) (x11 : Int32) (L : lS) : Option (Int32 × lS) :=
    nm (x11 + (1 : Int32)) fun y101 =>
    k_23 x0 x1 x9 t0 y101 L
def pL_shown_23 (N : Nat) (k_125 : Int32 → Int32 → Int32 → lS → Option (Int32 × lS)) : Nat → Int32 → Int32 → Int32 → Int32 → Int32 → lS → Option (Int32 × lS)
  | 0 => fun _ _ _ _ _ _ => none
  | n_23 + 1 => fun x0 x1 x9 x10 x11 L =>
    gd (0 : Int32) 20 <|
    if (aI L 0 (0 : Int32).toNatClampNeg) ≤ x11 then (
      k_125 x1 x9 x10 L)
    else (
      if x1 ≤ (0 : Int32) then (
        k_125 x1 x9 x10 L)
      else (
        if x10 = (0 : Int32) then (
          if x11 = x1 then (
            pL_shown_117 N (pL_shown_23 N k_125 n_23) (0 : Int32) x0 x1 x9 x11 L)
          else (
            gd ((3 : Int32) * x11) 36 <|
            if (aI L 9 ((3 : Int32) * x11).toNatClampNeg) = (1 : Int32) then (
              lba (pL_place N x11 L) fun v101 L102 =>
              lba (pL_place N x1 L102) fun v103 L104 =>
              if v101 = v103 then (
                lba (pL_name N x0 x11 L104) fun v105 L106 =>
                if v105 = x9 then (
                  lba (pL_born N x11 L106) fun v107 L108 =>
                  lba (pL_born N x1 L108) fun v109 L110 =>
                  if v109 ≤ v107 then (
                    pL_shown_117 N (pL_shown_23 N k_125 n_23) (0 : Int32) x0 x1 x9 x11 L110)
                  else (
                    pL_shown_117 N (pL_shown_23 N k_125 n_23) (1 : Int32) x0 x1 x9 x11 L110))
                else (
                  pL_shown_117 N (pL_shown_23 N k_125 n_23) (0 : Int32) x0 x1 x9 x11 L106))
              else (
                pL_shown_117 N (pL_shown_23 N k_125 n_23) (0 : Int32) x0 x1 x9 x11 L104))
            else (
              pL_shown_117 N (pL_shown_23 N k_125 n_23) (0 : Int32) x0 x1 x9 x11 L)))
        else (
          pL_shown_117 N (pL_shown_23 N k_125 n_23) (1 : Int32) x0 x1 x9 x11 L)))
def pL_shown (N : Nat) (x0 : Int32) (x1 : Int32) (L : lS) : Option (Int32 × lS) :=
    lba (pL_name N x0 x1 L) fun v101 L102 =>
    pL_shown_23 N (pL_shown_125 N) N x0 x1 v101 (0 : Int32) (1 : Int32) L102
theorem fL_shown : lFnS yL_shown (.code yL_shown cL_shown 12 (some .int)) 9 101 := ⟨kT_82, kT_83, kT_74, rfl, by decide +kernel⟩
set_option maxRecDepth 100000 in
set_option maxHeartbeats 4000000 in
theorem c_L_shown (l : Launch) (hlt : l.stackTraces = false) (N : Nat) (x0 : Int32) (x1 : Int32) : lMet l yL_shown (.code yL_shown cL_shown 12 (some .int)) 3 81 0 0 (fun ca a => [.int x0, .int x1, .ref (a 0), .ref (a 2), .ref (a 3), .ref (a 4), .ref (a 5), .ref (a 8), .ref (a 9)]) qI (fun S L => lup S (pL_shown N x0 x1 L)) := by
  refine l_startA hlt (by decide +kernel) rfl (fun ca a => [(0, .int x0), (1, .int x1), (2, .ref (a 0)), (3, .ref (a 2)), (4, .ref (a 3)), (5, .ref (a 4)), (6, .ref (a 5)), (7, .ref (a 8)), (8, .ref (a 9))]) (fun _ _ => Nat.le_of_ble_eq_true rfl) (fun _ _ => rfl) ?_
  intro dC dI g a sz Si Li r Lf hpf p e s m args below meth c X hr H locs I ls hl
  have hx := X.1
  have hb := X.2.1
  unfold pL_shown at hpf
  have hC_125 : ∀ (x1 : Int32) (x9 : Int32) (x10 : Int32) (L : lS) (H : Heap) (locs : List Loc), lV dC dI g a (lFr g a Si Li sz) s Si Si L H locs → ∀ ls : Array Slot, lv_has ls 12 [(1, .int x1), (9, .int x9), (10, .int x10)] → pL_shown_125 N x1 x9 x10 L = some (r, Lf) → W p l e (lRm 3 81 0 0) s m args below meth c H locs 0 0 (MQ below (lQ dC dI g a sz Si Li (qI r) Si Lf) args s 0 0 (lFr g a Si Li sz)) (F0 m 125 ls []) := by
    intro x1 x9 x10 L H locs I ls hl hpf
    unfold pL_shown_125 at hpf
    refine lv_iload hx hb dL_shown_125 (lv_at hl 2 rfl) ?_
    refine b_if_eq hx hb 137 127 dL_shown_127 (by decide) hpf (fun hpf => ?_) (fun hpf => ?_)
    · refine lv_iload hx hb dL_shown_137 (lv_at hl 1 rfl) ?_
      exact l_retiA X I hr 139 dL_shown_139 hpf
    refine lv_bipush (v := (100 : Int32)) hx hb dL_shown_130 (by decide) ?_
    refine lv_iload_n hx hb dL_shown_132 rfl (lv_at hl 0 rfl) ?_
    refine lv_iadd hx hb dL_shown_133 ?_
    refine lv_goto (tgt := 139) hx hb dL_shown_134 (by decide) ?_
    exact l_retiA X I hr 139 dL_shown_139 hpf
  have hC_23 : ∀ (n_23 : Nat), ∀ (x0 : Int32) (x1 : Int32) (x9 : Int32) (x10 : Int32) (x11 : Int32) (L : lS) (H : Heap) (locs : List Loc), lV dC dI g a (lFr g a Si Li sz) s Si Si L H locs → ∀ ls : Array Slot, lv_has ls 12 [(0, .int x0), (1, .int x1), (2, .ref (a 0)), (3, .ref (a 2)), (4, .ref (a 3)), (5, .ref (a 4)), (6, .ref (a 5)), (7, .ref (a 8)), (8, .ref (a 9)), (9, .int x9), (10, .int x10), (11, .int x11)] → pL_shown_23 N (pL_shown_125 N) n_23 x0 x1 x9 x10 x11 L = some (r, Lf) → W p l e (lRm 3 81 0 0) s m args below meth c H locs 0 0 (MQ below (lQ dC dI g a sz Si Li (qI r) Si Lf) args s 0 0 (lFr g a Si Li sz)) (F0 m 23 ls []) := by
    intro n_23
    induction n_23 with
    | zero =>
      intro x0 x1 x9 x10 x11 L H locs I ls hl hpf
      rw [pL_shown_23] at hpf
      cases hpf
    | succ n_23 ih_23 =>
      have hC_117 : ∀ (t0 : Int32) (x0 : Int32) (x1 : Int32) (x9 : Int32) (x11 : Int32) (L : lS) (H : Heap) (locs : List Loc), lV dC dI g a (lFr g a Si Li sz) s Si Si L H locs → ∀ ls : Array Slot, lv_has ls 12 [(0, .int x0), (1, .int x1), (2, .ref (a 0)), (3, .ref (a 2)), (4, .ref (a 3)), (5, .ref (a 4)), (6, .ref (a 5)), (7, .ref (a 8)), (8, .ref (a 9)), (9, .int x9), (11, .int x11)] → pL_shown_117 N (pL_shown_23 N (pL_shown_125 N) n_23) t0 x0 x1 x9 x11 L = some (r, Lf) → W p l e (lRm 3 81 0 0) s m args below meth c H locs 0 0 (MQ below (lQ dC dI g a sz Si Li (qI r) Si Lf) args s 0 0 (lFr g a Si Li sz)) (F0 m 117 ls [.int t0]) := by
        intro t0 x0 x1 x9 x11 L H locs I ls hl hpf
        unfold pL_shown_117 at hpf
        refine lv_istore (lv' := [(10, .int t0), (0, .int x0), (1, .int x1), (2, .ref (a 0)), (3, .ref (a 2)), (4, .ref (a 3)), (5, .ref (a 4)), (6, .ref (a 5)), (7, .ref (a 8)), (8, .ref (a 9)), (9, .int x9), (11, .int x11)]) hx hb dL_shown_117 hl (by decide) rfl (fun ls hl => ?_)
        refine m_iinc (w := (1 : Int32)) hx hb (fun y101 => [(11, .int y101), (10, .int t0), (0, .int x0), (1, .int x1), (2, .ref (a 0)), (3, .ref (a 2)), (4, .ref (a 3)), (5, .ref (a 4)), (6, .ref (a 5)), (7, .ref (a 8)), (8, .ref (a 9)), (9, .int x9)]) 119 dL_shown_119 hl (k := 11) rfl (by decide) (by decide) (fun _ => rfl) hpf (fun y101 ls hl hpf => ?_)
        refine lv_goto (tgt := 23) hx hb dL_shown_122 (by decide) ?_
        exact ih_23 x0 x1 x9 t0 y101 L H locs I ls (lv_sub hl [2, 3, 4, 5, 6, 7, 8, 9, 10, 11, 1, 0] rfl) hpf
      intro x0 x1 x9 x10 x11 L H locs I ls hl hpf
      rw [pL_shown_23] at hpf
      refine lv_iload hx hb dL_shown_23 (lv_at hl 11 rfl) ?_
      refine lv_aload_n hx hb dL_shown_25 rfl (lv_at hl 2 rfl) ?_
      refine lv_iconst (v := (0 : Int32)) hx hb dL_shown_26 (by decide) ?_
      refine l_iald X I lR_0 27 dL_shown_27 hpf (fun hpf => ?_)
      refine b_icmp_ge hx hb 125 28 dL_shown_28 (by decide) hpf (fun hpf => ?_) (fun hpf => ?_)
      · exact hC_125 x1 x9 x10 L H locs I ls (lv_sub hl [1, 9, 10] rfl) hpf
      refine lv_iload_n hx hb dL_shown_31 rfl (lv_at hl 1 rfl) ?_
      refine b_if_le hx hb 125 32 dL_shown_32 (by decide) hpf (fun hpf => ?_) (fun hpf => ?_)
      · exact hC_125 x1 x9 x10 L H locs I ls (lv_sub hl [1, 9, 10] rfl) hpf
      refine lv_iload hx hb dL_shown_35 (lv_at hl 10 rfl) ?_
      refine b_if_ne hx hb 112 37 dL_shown_37 (by decide) hpf (fun hpf => ?_) (fun hpf => ?_)
      · refine lv_iconst (v := (1 : Int32)) hx hb dL_shown_112 (by decide) ?_
        refine lv_goto (tgt := 117) hx hb dL_shown_113 (by decide) ?_
        exact hC_117 (1 : Int32) x0 x1 x9 x11 L H locs I ls (lv_sub hl [0, 1, 2, 3, 4, 5, 6, 7, 8, 9, 11] rfl) hpf
      refine lv_iload hx hb dL_shown_40 (lv_at hl 11 rfl) ?_
      refine lv_iload_n hx hb dL_shown_42 rfl (lv_at hl 1 rfl) ?_
      refine b_icmp_eq hx hb 116 43 dL_shown_43 (by decide) hpf (fun hpf => ?_) (fun hpf => ?_)
      · refine lv_iconst (v := (0 : Int32)) hx hb dL_shown_116 (by decide) ?_
        exact hC_117 (0 : Int32) x0 x1 x9 x11 L H locs I ls (lv_sub hl [0, 1, 2, 3, 4, 5, 6, 7, 8, 9, 11] rfl) hpf
      refine lv_aload hx hb dL_shown_46 (lv_at hl 8 rfl) ?_
      refine lv_iconst (v := (3 : Int32)) hx hb dL_shown_48 (by decide) ?_
      refine lv_iload hx hb dL_shown_49 (lv_at hl 11 rfl) ?_
      refine lv_imul hx hb dL_shown_51 ?_
      refine l_iald X I lR_9 52 dL_shown_52 hpf (fun hpf => ?_)
      refine lv_iconst (v := (1 : Int32)) hx hb dL_shown_53 (by decide) ?_
      refine b_icmp_ne hx hb 116 54 dL_shown_54 (by decide) hpf (fun hpf => ?_) (fun hpf => ?_)
      · refine lv_iconst (v := (0 : Int32)) hx hb dL_shown_116 (by decide) ?_
        exact hC_117 (0 : Int32) x0 x1 x9 x11 L H locs I ls (lv_sub hl [0, 1, 2, 3, 4, 5, 6, 7, 8, 9, 11] rfl) hpf
      refine lv_iload hx hb dL_shown_57 (lv_at hl 11 rfl) ?_
      refine lv_aload hx hb dL_shown_59 (lv_at hl 8 rfl) ?_
      refine l_cAI (rest := []) (As := [.int x11, .ref (a 9)]) X I fL_place (c_L_place l hlt N x11) rfl ⟨Nat.le_of_ble_eq_true rfl, Nat.le_of_ble_eq_true rfl⟩ 61 dL_shown_61 rfl hl.1 rfl (Nat.le_of_ble_eq_true rfl) ⟨Nat.le_refl _, Nat.le_refl _⟩ hpf (fun v101 L102 H locs I hpf => ?_)
      refine lv_iload_n hx hb dL_shown_64 rfl (lv_at hl 1 rfl) ?_
      refine lv_aload hx hb dL_shown_65 (lv_at hl 8 rfl) ?_
      refine l_cAI (rest := [.int v101]) (As := [.int x1, .ref (a 9)]) X I fL_place (c_L_place l hlt N x1) rfl ⟨Nat.le_of_ble_eq_true rfl, Nat.le_of_ble_eq_true rfl⟩ 67 dL_shown_67 rfl hl.1 rfl (Nat.le_of_ble_eq_true rfl) ⟨Nat.le_refl _, Nat.le_refl _⟩ hpf (fun v103 L104 H locs I hpf => ?_)
      refine b_icmp_ne hx hb 116 70 dL_shown_70 (by decide) hpf (fun hpf => ?_) (fun hpf => ?_)
      · refine lv_iconst (v := (0 : Int32)) hx hb dL_shown_116 (by decide) ?_
        exact hC_117 (0 : Int32) x0 x1 x9 x11 L104 H locs I ls (lv_sub hl [0, 1, 2, 3, 4, 5, 6, 7, 8, 9, 11] rfl) hpf
      refine lv_iload_n hx hb dL_shown_73 rfl (lv_at hl 0 rfl) ?_
      refine lv_iload hx hb dL_shown_74 (lv_at hl 11 rfl) ?_
      refine lv_aload_n hx hb dL_shown_76 rfl (lv_at hl 2 rfl) ?_
      refine lv_aload_n hx hb dL_shown_77 rfl (lv_at hl 3 rfl) ?_
      refine lv_aload hx hb dL_shown_78 (lv_at hl 4 rfl) ?_
      refine lv_aload hx hb dL_shown_80 (lv_at hl 5 rfl) ?_
      refine lv_aload hx hb dL_shown_82 (lv_at hl 6 rfl) ?_
      refine lv_aload hx hb dL_shown_84 (lv_at hl 7 rfl) ?_
      refine l_cAI (rest := []) (As := [.int x0, .int x11, .ref (a 0), .ref (a 2), .ref (a 3), .ref (a 4), .ref (a 5), .ref (a 8)]) X I fL_name (c_L_name l hlt N x0 x11) rfl ⟨Nat.le_of_ble_eq_true rfl, Nat.le_of_ble_eq_true rfl⟩ 86 dL_shown_86 rfl hl.1 rfl (Nat.le_of_ble_eq_true rfl) ⟨Nat.le_refl _, Nat.le_refl _⟩ hpf (fun v105 L106 H locs I hpf => ?_)
      refine lv_iload hx hb dL_shown_89 (lv_at hl 9 rfl) ?_
      refine b_icmp_ne hx hb 116 91 dL_shown_91 (by decide) hpf (fun hpf => ?_) (fun hpf => ?_)
      · refine lv_iconst (v := (0 : Int32)) hx hb dL_shown_116 (by decide) ?_
        exact hC_117 (0 : Int32) x0 x1 x9 x11 L106 H locs I ls (lv_sub hl [0, 1, 2, 3, 4, 5, 6, 7, 8, 9, 11] rfl) hpf
      refine lv_iload hx hb dL_shown_94 (lv_at hl 11 rfl) ?_
      refine lv_aload_n hx hb dL_shown_96 rfl (lv_at hl 2 rfl) ?_
      refine lv_aload hx hb dL_shown_97 (lv_at hl 5 rfl) ?_
      refine l_cAI (rest := []) (As := [.int x11, .ref (a 0), .ref (a 4)]) X I fL_born (c_L_born l hlt N x11) rfl ⟨Nat.le_of_ble_eq_true rfl, Nat.le_of_ble_eq_true rfl⟩ 99 dL_shown_99 rfl hl.1 rfl (Nat.le_of_ble_eq_true rfl) ⟨Nat.le_refl _, Nat.le_refl _⟩ hpf (fun v107 L108 H locs I hpf => ?_)
      refine lv_iload_n hx hb dL_shown_102 rfl (lv_at hl 1 rfl) ?_
      refine lv_aload_n hx hb dL_shown_103 rfl (lv_at hl 2 rfl) ?_
      refine lv_aload hx hb dL_shown_104 (lv_at hl 5 rfl) ?_
      refine l_cAI (rest := [.int v107]) (As := [.int x1, .ref (a 0), .ref (a 4)]) X I fL_born (c_L_born l hlt N x1) rfl ⟨Nat.le_of_ble_eq_true rfl, Nat.le_of_ble_eq_true rfl⟩ 106 dL_shown_106 rfl hl.1 rfl (Nat.le_of_ble_eq_true rfl) ⟨Nat.le_refl _, Nat.le_refl _⟩ hpf (fun v109 L110 H locs I hpf => ?_)
      refine b_icmp_ge hx hb 116 109 dL_shown_109 (by decide) hpf (fun hpf => ?_) (fun hpf => ?_)
      · refine lv_iconst (v := (0 : Int32)) hx hb dL_shown_116 (by decide) ?_
        exact hC_117 (0 : Int32) x0 x1 x9 x11 L110 H locs I ls (lv_sub hl [0, 1, 2, 3, 4, 5, 6, 7, 8, 9, 11] rfl) hpf
      refine lv_iconst (v := (1 : Int32)) hx hb dL_shown_112 (by decide) ?_
      refine lv_goto (tgt := 117) hx hb dL_shown_113 (by decide) ?_
      exact hC_117 (1 : Int32) x0 x1 x9 x11 L110 H locs I ls (lv_sub hl [0, 1, 2, 3, 4, 5, 6, 7, 8, 9, 11] rfl) hpf
  refine lv_iload_n hx hb dL_shown_0 rfl (lv_at hl 0 rfl) ?_
  refine lv_iload_n hx hb dL_shown_1 rfl (lv_at hl 1 rfl) ?_
  refine lv_aload_n hx hb dL_shown_2 rfl (lv_at hl 2 rfl) ?_
  refine lv_aload_n hx hb dL_shown_3 rfl (lv_at hl 3 rfl) ?_
  refine lv_aload hx hb dL_shown_4 (lv_at hl 4 rfl) ?_
  refine lv_aload hx hb dL_shown_6 (lv_at hl 5 rfl) ?_
  refine lv_aload hx hb dL_shown_8 (lv_at hl 6 rfl) ?_
  refine lv_aload hx hb dL_shown_10 (lv_at hl 7 rfl) ?_
  refine l_cAI (rest := []) (As := [.int x0, .int x1, .ref (a 0), .ref (a 2), .ref (a 3), .ref (a 4), .ref (a 5), .ref (a 8)]) X I fL_name (c_L_name l hlt N x0 x1) rfl ⟨Nat.le_of_ble_eq_true rfl, Nat.le_of_ble_eq_true rfl⟩ 12 dL_shown_12 rfl hl.1 rfl (Nat.le_of_ble_eq_true rfl) ⟨Nat.le_refl _, Nat.le_refl _⟩ hpf (fun v101 L102 H locs I hpf => ?_)
  refine lv_istore (lv' := [(9, .int v101), (0, .int x0), (1, .int x1), (2, .ref (a 0)), (3, .ref (a 2)), (4, .ref (a 3)), (5, .ref (a 4)), (6, .ref (a 5)), (7, .ref (a 8)), (8, .ref (a 9))]) hx hb dL_shown_15 hl (by decide) rfl (fun ls hl => ?_)
  refine lv_iconst (v := (0 : Int32)) hx hb dL_shown_17 (by decide) ?_
  refine lv_istore (lv' := [(10, .int (0 : Int32)), (9, .int v101), (0, .int x0), (1, .int x1), (2, .ref (a 0)), (3, .ref (a 2)), (4, .ref (a 3)), (5, .ref (a 4)), (6, .ref (a 5)), (7, .ref (a 8)), (8, .ref (a 9))]) hx hb dL_shown_18 hl (by decide) rfl (fun ls hl => ?_)
  refine lv_iconst (v := (1 : Int32)) hx hb dL_shown_20 (by decide) ?_
  refine lv_istore (lv' := [(11, .int (1 : Int32)), (10, .int (0 : Int32)), (9, .int v101), (0, .int x0), (1, .int x1), (2, .ref (a 0)), (3, .ref (a 2)), (4, .ref (a 3)), (5, .ref (a 4)), (6, .ref (a 5)), (7, .ref (a 8)), (8, .ref (a 9))]) hx hb dL_shown_21 hl (by decide) rfl (fun ls hl => ?_)
  exact hC_23 N x0 x1 v101 (0 : Int32) (1 : Int32) L102 H locs I ls (lv_sub hl [3, 4, 5, 6, 7, 8, 9, 10, 11, 2, 1, 0] rfl) hpf
-- ===== the law's named =====
def pL_named_77 (N : Nat) (k_6 : Int32 → Int32 → Int32 → Int32 → Int32 → Int32 → lS → Option (Int32 × lS)) (t0 : Int32) (x0 : Int32) (x1 : Int32) (x2 : Int32) (x3 : Int32) (x12 : Int32) (L : lS) : Option (Int32 × lS) :=
    nm (x12 + (1 : Int32)) fun y101 =>
    k_6 x0 x1 x2 x3 t0 y101 L
def pL_named_6 (N : Nat) : Nat → Int32 → Int32 → Int32 → Int32 → Int32 → Int32 → lS → Option (Int32 × lS)
  | 0 => fun _ _ _ _ _ _ _ => none
  | n_6 + 1 => fun x0 x1 x2 x3 x11 x12 L =>
    gd (0 : Int32) 20 <|
    if (aI L 0 (0 : Int32).toNatClampNeg) ≤ x12 then (
      zlA x11 L)
    else (
      if x11 = (0 : Int32) then (
        if x12 = x2 then (
          pL_named_77 N (pL_named_6 N n_6) (0 : Int32) x0 x1 x2 x3 x12 L)
        else (
          gd ((3 : Int32) * x12) 36 <|
          if (aI L 9 ((3 : Int32) * x12).toNatClampNeg) = (1 : Int32) then (
            lba (pL_place N x12 L) fun v101 L102 =>
            if v101 = x1 then (
              lba (pL_shown N x0 x12 L102) fun v103 L104 =>
              if v103 = x3 then (
                pL_named_77 N (pL_named_6 N n_6) (1 : Int32) x0 x1 x2 x3 x12 L104)
              else (
                pL_named_77 N (pL_named_6 N n_6) (0 : Int32) x0 x1 x2 x3 x12 L104))
            else (
              pL_named_77 N (pL_named_6 N n_6) (0 : Int32) x0 x1 x2 x3 x12 L102))
          else (
            pL_named_77 N (pL_named_6 N n_6) (0 : Int32) x0 x1 x2 x3 x12 L)))
      else (
        pL_named_77 N (pL_named_6 N n_6) (1 : Int32) x0 x1 x2 x3 x12 L))
def pL_named (N : Nat) (x0 : Int32) (x1 : Int32) (x2 : Int32) (x3 : Int32) (L : lS) : Option (Int32 × lS) :=
    pL_named_6 N N x0 x1 x2 x3 (0 : Int32) (1 : Int32) L
theorem fL_named : lFnS yL_named (.code yL_named cL_named 13 (some .boolean)) 11 126 := ⟨kT_104, kT_105, kT_81, rfl, by decide +kernel⟩
set_option maxRecDepth 100000 in
set_option maxHeartbeats 4000000 in
theorem c_L_named (l : Launch) (hlt : l.stackTraces = false) (N : Nat) (x0 : Int32) (x1 : Int32) (x2 : Int32) (x3 : Int32) : lMet l yL_named (.code yL_named cL_named 13 (some .boolean)) 4 112 0 0 (fun ca a => [.int x0, .int x1, .int x2, .int x3, .ref (a 0), .ref (a 2), .ref (a 3), .ref (a 4), .ref (a 5), .ref (a 8), .ref (a 9)]) qI (fun S L => lup S (pL_named N x0 x1 x2 x3 L)) := by
  refine l_startA hlt (by decide +kernel) rfl (fun ca a => [(0, .int x0), (1, .int x1), (2, .int x2), (3, .int x3), (4, .ref (a 0)), (5, .ref (a 2)), (6, .ref (a 3)), (7, .ref (a 4)), (8, .ref (a 5)), (9, .ref (a 8)), (10, .ref (a 9))]) (fun _ _ => Nat.le_of_ble_eq_true rfl) (fun _ _ => rfl) ?_
  intro dC dI g a sz Si Li r Lf hpf p e s m args below meth c X hr H locs I ls hl
  have hx := X.1
  have hb := X.2.1
  unfold pL_named at hpf
  have hC_6 : ∀ (n_6 : Nat), ∀ (x0 : Int32) (x1 : Int32) (x2 : Int32) (x3 : Int32) (x11 : Int32) (x12 : Int32) (L : lS) (H : Heap) (locs : List Loc), lV dC dI g a (lFr g a Si Li sz) s Si Si L H locs → ∀ ls : Array Slot, lv_has ls 13 [(0, .int x0), (1, .int x1), (2, .int x2), (3, .int x3), (4, .ref (a 0)), (5, .ref (a 2)), (6, .ref (a 3)), (7, .ref (a 4)), (8, .ref (a 5)), (9, .ref (a 8)), (10, .ref (a 9)), (11, .int x11), (12, .int x12)] → pL_named_6 N n_6 x0 x1 x2 x3 x11 x12 L = some (r, Lf) → W p l e (lRm 4 112 0 0) s m args below meth c H locs 0 0 (MQ below (lQ dC dI g a sz Si Li (qI r) Si Lf) args s 0 0 (lFr g a Si Li sz)) (F0 m 6 ls []) := by
    intro n_6
    induction n_6 with
    | zero =>
      intro x0 x1 x2 x3 x11 x12 L H locs I ls hl hpf
      rw [pL_named_6] at hpf
      cases hpf
    | succ n_6 ih_6 =>
      have hC_77 : ∀ (t0 : Int32) (x0 : Int32) (x1 : Int32) (x2 : Int32) (x3 : Int32) (x12 : Int32) (L : lS) (H : Heap) (locs : List Loc), lV dC dI g a (lFr g a Si Li sz) s Si Si L H locs → ∀ ls : Array Slot, lv_has ls 13 [(0, .int x0), (1, .int x1), (2, .int x2), (3, .int x3), (4, .ref (a 0)), (5, .ref (a 2)), (6, .ref (a 3)), (7, .ref (a 4)), (8, .ref (a 5)), (9, .ref (a 8)), (10, .ref (a 9)), (12, .int x12)] → pL_named_77 N (pL_named_6 N n_6) t0 x0 x1 x2 x3 x12 L = some (r, Lf) → W p l e (lRm 4 112 0 0) s m args below meth c H locs 0 0 (MQ below (lQ dC dI g a sz Si Li (qI r) Si Lf) args s 0 0 (lFr g a Si Li sz)) (F0 m 77 ls [.int t0]) := by
        intro t0 x0 x1 x2 x3 x12 L H locs I ls hl hpf
        unfold pL_named_77 at hpf
        refine lv_istore (lv' := [(11, .int t0), (0, .int x0), (1, .int x1), (2, .int x2), (3, .int x3), (4, .ref (a 0)), (5, .ref (a 2)), (6, .ref (a 3)), (7, .ref (a 4)), (8, .ref (a 5)), (9, .ref (a 8)), (10, .ref (a 9)), (12, .int x12)]) hx hb dL_named_77 hl (by decide) rfl (fun ls hl => ?_)
        refine m_iinc (w := (1 : Int32)) hx hb (fun y101 => [(12, .int y101), (11, .int t0), (0, .int x0), (1, .int x1), (2, .int x2), (3, .int x3), (4, .ref (a 0)), (5, .ref (a 2)), (6, .ref (a 3)), (7, .ref (a 4)), (8, .ref (a 5)), (9, .ref (a 8)), (10, .ref (a 9))]) 79 dL_named_79 hl (k := 12) rfl (by decide) (by decide) (fun _ => rfl) hpf (fun y101 ls hl hpf => ?_)
        refine lv_goto (tgt := 6) hx hb dL_named_82 (by decide) ?_
        exact ih_6 x0 x1 x2 x3 t0 y101 L H locs I ls (lv_sub hl [2, 3, 4, 5, 6, 7, 8, 9, 10, 11, 12, 1, 0] rfl) hpf
      intro x0 x1 x2 x3 x11 x12 L H locs I ls hl hpf
      rw [pL_named_6] at hpf
      refine lv_iload hx hb dL_named_6 (lv_at hl 12 rfl) ?_
      refine lv_aload hx hb dL_named_8 (lv_at hl 4 rfl) ?_
      refine lv_iconst (v := (0 : Int32)) hx hb dL_named_10 (by decide) ?_
      refine l_iald X I lR_0 11 dL_named_11 hpf (fun hpf => ?_)
      refine b_icmp_ge hx hb 85 12 dL_named_12 (by decide) hpf (fun hpf => ?_) (fun hpf => ?_)
      · refine lv_iload hx hb dL_named_85 (lv_at hl 11 rfl) ?_
        exact l_retzA X I hr 87 dL_named_87 hpf
      refine lv_iload hx hb dL_named_15 (lv_at hl 11 rfl) ?_
      refine b_if_ne hx hb 72 17 dL_named_17 (by decide) hpf (fun hpf => ?_) (fun hpf => ?_)
      · refine lv_iconst (v := (1 : Int32)) hx hb dL_named_72 (by decide) ?_
        refine lv_goto (tgt := 77) hx hb dL_named_73 (by decide) ?_
        exact hC_77 (1 : Int32) x0 x1 x2 x3 x12 L H locs I ls (lv_sub hl [0, 1, 2, 3, 4, 5, 6, 7, 8, 9, 10, 12] rfl) hpf
      refine lv_iload hx hb dL_named_20 (lv_at hl 12 rfl) ?_
      refine lv_iload_n hx hb dL_named_22 rfl (lv_at hl 2 rfl) ?_
      refine b_icmp_eq hx hb 76 23 dL_named_23 (by decide) hpf (fun hpf => ?_) (fun hpf => ?_)
      · refine lv_iconst (v := (0 : Int32)) hx hb dL_named_76 (by decide) ?_
        exact hC_77 (0 : Int32) x0 x1 x2 x3 x12 L H locs I ls (lv_sub hl [0, 1, 2, 3, 4, 5, 6, 7, 8, 9, 10, 12] rfl) hpf
      refine lv_aload hx hb dL_named_26 (lv_at hl 10 rfl) ?_
      refine lv_iconst (v := (3 : Int32)) hx hb dL_named_28 (by decide) ?_
      refine lv_iload hx hb dL_named_29 (lv_at hl 12 rfl) ?_
      refine lv_imul hx hb dL_named_31 ?_
      refine l_iald X I lR_9 32 dL_named_32 hpf (fun hpf => ?_)
      refine lv_iconst (v := (1 : Int32)) hx hb dL_named_33 (by decide) ?_
      refine b_icmp_ne hx hb 76 34 dL_named_34 (by decide) hpf (fun hpf => ?_) (fun hpf => ?_)
      · refine lv_iconst (v := (0 : Int32)) hx hb dL_named_76 (by decide) ?_
        exact hC_77 (0 : Int32) x0 x1 x2 x3 x12 L H locs I ls (lv_sub hl [0, 1, 2, 3, 4, 5, 6, 7, 8, 9, 10, 12] rfl) hpf
      refine lv_iload hx hb dL_named_37 (lv_at hl 12 rfl) ?_
      refine lv_aload hx hb dL_named_39 (lv_at hl 10 rfl) ?_
      refine l_cAI (rest := []) (As := [.int x12, .ref (a 9)]) X I fL_place (c_L_place l hlt N x12) rfl ⟨Nat.le_of_ble_eq_true rfl, Nat.le_of_ble_eq_true rfl⟩ 41 dL_named_41 rfl hl.1 rfl (Nat.le_of_ble_eq_true rfl) ⟨Nat.le_refl _, Nat.le_refl _⟩ hpf (fun v101 L102 H locs I hpf => ?_)
      refine lv_iload_n hx hb dL_named_44 rfl (lv_at hl 1 rfl) ?_
      refine b_icmp_ne hx hb 76 45 dL_named_45 (by decide) hpf (fun hpf => ?_) (fun hpf => ?_)
      · refine lv_iconst (v := (0 : Int32)) hx hb dL_named_76 (by decide) ?_
        exact hC_77 (0 : Int32) x0 x1 x2 x3 x12 L102 H locs I ls (lv_sub hl [0, 1, 2, 3, 4, 5, 6, 7, 8, 9, 10, 12] rfl) hpf
      refine lv_iload_n hx hb dL_named_48 rfl (lv_at hl 0 rfl) ?_
      refine lv_iload hx hb dL_named_49 (lv_at hl 12 rfl) ?_
      refine lv_aload hx hb dL_named_51 (lv_at hl 4 rfl) ?_
      refine lv_aload hx hb dL_named_53 (lv_at hl 5 rfl) ?_
      refine lv_aload hx hb dL_named_55 (lv_at hl 6 rfl) ?_
      refine lv_aload hx hb dL_named_57 (lv_at hl 7 rfl) ?_
      refine lv_aload hx hb dL_named_59 (lv_at hl 8 rfl) ?_
      refine lv_aload hx hb dL_named_61 (lv_at hl 9 rfl) ?_
      refine lv_aload hx hb dL_named_63 (lv_at hl 10 rfl) ?_
      refine l_cAI (rest := []) (As := [.int x0, .int x12, .ref (a 0), .ref (a 2), .ref (a 3), .ref (a 4), .ref (a 5), .ref (a 8), .ref (a 9)]) X I fL_shown (c_L_shown l hlt N x0 x12) rfl ⟨Nat.le_of_ble_eq_true rfl, Nat.le_of_ble_eq_true rfl⟩ 65 dL_named_65 rfl hl.1 rfl (Nat.le_of_ble_eq_true rfl) ⟨Nat.le_refl _, Nat.le_refl _⟩ hpf (fun v103 L104 H locs I hpf => ?_)
      refine lv_iload_n hx hb dL_named_68 rfl (lv_at hl 3 rfl) ?_
      refine b_icmp_ne hx hb 76 69 dL_named_69 (by decide) hpf (fun hpf => ?_) (fun hpf => ?_)
      · refine lv_iconst (v := (0 : Int32)) hx hb dL_named_76 (by decide) ?_
        exact hC_77 (0 : Int32) x0 x1 x2 x3 x12 L104 H locs I ls (lv_sub hl [0, 1, 2, 3, 4, 5, 6, 7, 8, 9, 10, 12] rfl) hpf
      refine lv_iconst (v := (1 : Int32)) hx hb dL_named_72 (by decide) ?_
      refine lv_goto (tgt := 77) hx hb dL_named_73 (by decide) ?_
      exact hC_77 (1 : Int32) x0 x1 x2 x3 x12 L104 H locs I ls (lv_sub hl [0, 1, 2, 3, 4, 5, 6, 7, 8, 9, 10, 12] rfl) hpf
  refine lv_iconst (v := (0 : Int32)) hx hb dL_named_0 (by decide) ?_
  refine lv_istore (lv' := [(11, .int (0 : Int32)), (0, .int x0), (1, .int x1), (2, .int x2), (3, .int x3), (4, .ref (a 0)), (5, .ref (a 2)), (6, .ref (a 3)), (7, .ref (a 4)), (8, .ref (a 5)), (9, .ref (a 8)), (10, .ref (a 9))]) hx hb dL_named_1 hl (by decide) rfl (fun ls hl => ?_)
  refine lv_iconst (v := (1 : Int32)) hx hb dL_named_3 (by decide) ?_
  refine lv_istore (lv' := [(12, .int (1 : Int32)), (11, .int (0 : Int32)), (0, .int x0), (1, .int x1), (2, .int x2), (3, .int x3), (4, .ref (a 0)), (5, .ref (a 2)), (6, .ref (a 3)), (7, .ref (a 4)), (8, .ref (a 5)), (9, .ref (a 8)), (10, .ref (a 9))]) hx hb dL_named_4 hl (by decide) rfl (fun ls hl => ?_)
  exact hC_6 N x0 x1 x2 x3 (0 : Int32) (1 : Int32) Li H locs I ls (lv_sub hl [2, 3, 4, 5, 6, 7, 8, 9, 10, 11, 12, 1, 0] rfl) hpf
-- ===== the law's requires =====
def pL_requires_70 (N : Nat) (t0 : Int32) (t1 : Int32) (L : lS) : Option (Int32 × lS) :=
    some (t1 ||| t0, L)
def pL_requires_69 (N : Nat) (t0 : Int32) (t1 : Int32) (t2 : Int32) (L : lS) : Option (Int32 × lS) :=
    pL_requires_70 N (t1 ||| t0) t2 L
def pL_requires (N : Nat) (x0 : Int32) (L : lS) : Option (Int32 × lS) :=
    if (0 : Int32) ≤ x0 then (
      gd (((3 : Int32) * x0) + (1 : Int32)) 9 <|
      gd ((3 : Int32) * x0) 9 <|
      if (0 : Int32) ≤ (aI L 1 ((3 : Int32) * x0).toNatClampNeg) then (
        gd ((3 : Int32) * x0) 9 <|
        gd (((3 : Int32) * (aI L 1 ((3 : Int32) * x0).toNatClampNeg)) + (1 : Int32)) 9 <|
        gd ((3 : Int32) * x0) 9 <|
        gd ((3 : Int32) * (aI L 1 ((3 : Int32) * x0).toNatClampNeg)) 9 <|
        if (0 : Int32) ≤ (aI L 1 ((3 : Int32) * (aI L 1 ((3 : Int32) * x0).toNatClampNeg)).toNatClampNeg) then (
          gd ((3 : Int32) * x0) 9 <|
          gd ((3 : Int32) * (aI L 1 ((3 : Int32) * x0).toNatClampNeg)) 9 <|
          gd (((3 : Int32) * (aI L 1 ((3 : Int32) * (aI L 1 ((3 : Int32) * x0).toNatClampNeg)).toNatClampNeg)) + (1 : Int32)) 9 <|
          pL_requires_69 N (aI L 1 (((3 : Int32) * (aI L 1 ((3 : Int32) * (aI L 1 ((3 : Int32) * x0).toNatClampNeg)).toNatClampNeg)) + (1 : Int32)).toNatClampNeg) (aI L 1 (((3 : Int32) * (aI L 1 ((3 : Int32) * x0).toNatClampNeg)) + (1 : Int32)).toNatClampNeg) (aI L 1 (((3 : Int32) * x0) + (1 : Int32)).toNatClampNeg) L)
        else (
          pL_requires_69 N (0 : Int32) (aI L 1 (((3 : Int32) * (aI L 1 ((3 : Int32) * x0).toNatClampNeg)) + (1 : Int32)).toNatClampNeg) (aI L 1 (((3 : Int32) * x0) + (1 : Int32)).toNatClampNeg) L))
      else (
        pL_requires_70 N (0 : Int32) (aI L 1 (((3 : Int32) * x0) + (1 : Int32)).toNatClampNeg) L))
    else (
      some ((0 : Int32), L))
theorem fL_requires : lFnS yL_requires (.code yL_requires cL_requires 2 (some .int)) 2 116 := ⟨kT_98, kT_99, kT_84, rfl, by decide +kernel⟩
set_option maxRecDepth 100000 in
set_option maxHeartbeats 4000000 in
theorem c_L_requires (l : Launch) (hlt : l.stackTraces = false) (N : Nat) (x0 : Int32) : lMet l yL_requires (.code yL_requires cL_requires 2 (some .int)) 0 0 0 0 (fun ca a => [.int x0, .ref (a 1)]) qI (fun S L => lup S (pL_requires N x0 L)) := by
  refine l_startA hlt (by decide +kernel) rfl (fun ca a => [(0, .int x0), (1, .ref (a 1))]) (fun _ _ => Nat.le_of_ble_eq_true rfl) (fun _ _ => rfl) ?_
  intro dC dI g a sz Si Li r Lf hpf p e s m args below meth c X hr H locs I ls hl
  have hx := X.1
  have hb := X.2.1
  unfold pL_requires at hpf
  have hC_70 : ∀ (t0 : Int32) (t1 : Int32) (L : lS) (H : Heap) (locs : List Loc), lV dC dI g a (lFr g a Si Li sz) s Si Si L H locs → ∀ ls : Array Slot, lv_has ls 2 [] → pL_requires_70 N t0 t1 L = some (r, Lf) → W p l e (lRm 0 0 0 0) s m args below meth c H locs 0 0 (MQ below (lQ dC dI g a sz Si Li (qI r) Si Lf) args s 0 0 (lFr g a Si Li sz)) (F0 m 70 ls [.int t0, .int t1]) := by
    intro t0 t1 L H locs I ls hl hpf
    unfold pL_requires_70 at hpf
    refine lv_ior hx hb dL_requires_70 ?_
    exact l_retiA X I hr 71 dL_requires_71 hpf
  have hC_69 : ∀ (t0 : Int32) (t1 : Int32) (t2 : Int32) (L : lS) (H : Heap) (locs : List Loc), lV dC dI g a (lFr g a Si Li sz) s Si Si L H locs → ∀ ls : Array Slot, lv_has ls 2 [] → pL_requires_69 N t0 t1 t2 L = some (r, Lf) → W p l e (lRm 0 0 0 0) s m args below meth c H locs 0 0 (MQ below (lQ dC dI g a sz Si Li (qI r) Si Lf) args s 0 0 (lFr g a Si Li sz)) (F0 m 69 ls [.int t0, .int t1, .int t2]) := by
    intro t0 t1 t2 L H locs I ls hl hpf
    unfold pL_requires_69 at hpf
    refine lv_ior hx hb dL_requires_69 ?_
    exact hC_70 (t1 ||| t0) t2 L H locs I ls (lv_sub hl [] rfl) hpf
  refine lv_iload_n hx hb dL_requires_0 rfl (lv_at hl 0 rfl) ?_
  refine b_if_ge hx hb 8 1 dL_requires_1 (by decide) hpf (fun hpf => ?_) (fun hpf => ?_)
  · refine lv_aload_n hx hb dL_requires_8 rfl (lv_at hl 1 rfl) ?_
    refine lv_iconst (v := (3 : Int32)) hx hb dL_requires_9 (by decide) ?_
    refine lv_iload_n hx hb dL_requires_10 rfl (lv_at hl 0 rfl) ?_
    refine lv_imul hx hb dL_requires_11 ?_
    refine lv_iconst (v := (1 : Int32)) hx hb dL_requires_12 (by decide) ?_
    refine lv_iadd hx hb dL_requires_13 ?_
    refine l_iald X I lR_1 14 dL_requires_14 hpf (fun hpf => ?_)
    refine lv_aload_n hx hb dL_requires_15 rfl (lv_at hl 1 rfl) ?_
    refine lv_iconst (v := (3 : Int32)) hx hb dL_requires_16 (by decide) ?_
    refine lv_iload_n hx hb dL_requires_17 rfl (lv_at hl 0 rfl) ?_
    refine lv_imul hx hb dL_requires_18 ?_
    refine l_iald X I lR_1 19 dL_requires_19 hpf (fun hpf => ?_)
    refine b_if_ge hx hb 27 20 dL_requires_20 (by decide) hpf (fun hpf => ?_) (fun hpf => ?_)
    · refine lv_aload_n hx hb dL_requires_27 rfl (lv_at hl 1 rfl) ?_
      refine lv_iconst (v := (3 : Int32)) hx hb dL_requires_28 (by decide) ?_
      refine lv_aload_n hx hb dL_requires_29 rfl (lv_at hl 1 rfl) ?_
      refine lv_iconst (v := (3 : Int32)) hx hb dL_requires_30 (by decide) ?_
      refine lv_iload_n hx hb dL_requires_31 rfl (lv_at hl 0 rfl) ?_
      refine lv_imul hx hb dL_requires_32 ?_
      refine l_iald X I lR_1 33 dL_requires_33 hpf (fun hpf => ?_)
      refine lv_imul hx hb dL_requires_34 ?_
      refine lv_iconst (v := (1 : Int32)) hx hb dL_requires_35 (by decide) ?_
      refine lv_iadd hx hb dL_requires_36 ?_
      refine l_iald X I lR_1 37 dL_requires_37 hpf (fun hpf => ?_)
      refine lv_aload_n hx hb dL_requires_38 rfl (lv_at hl 1 rfl) ?_
      refine lv_iconst (v := (3 : Int32)) hx hb dL_requires_39 (by decide) ?_
      refine lv_aload_n hx hb dL_requires_40 rfl (lv_at hl 1 rfl) ?_
      refine lv_iconst (v := (3 : Int32)) hx hb dL_requires_41 (by decide) ?_
      refine lv_iload_n hx hb dL_requires_42 rfl (lv_at hl 0 rfl) ?_
      refine lv_imul hx hb dL_requires_43 ?_
      refine l_iald X I lR_1 44 dL_requires_44 hpf (fun hpf => ?_)
      refine lv_imul hx hb dL_requires_45 ?_
      refine l_iald X I lR_1 46 dL_requires_46 hpf (fun hpf => ?_)
      refine b_if_ge hx hb 54 47 dL_requires_47 (by decide) hpf (fun hpf => ?_) (fun hpf => ?_)
      · refine lv_aload_n hx hb dL_requires_54 rfl (lv_at hl 1 rfl) ?_
        refine lv_iconst (v := (3 : Int32)) hx hb dL_requires_55 (by decide) ?_
        refine lv_aload_n hx hb dL_requires_56 rfl (lv_at hl 1 rfl) ?_
        refine lv_iconst (v := (3 : Int32)) hx hb dL_requires_57 (by decide) ?_
        refine lv_aload_n hx hb dL_requires_58 rfl (lv_at hl 1 rfl) ?_
        refine lv_iconst (v := (3 : Int32)) hx hb dL_requires_59 (by decide) ?_
        refine lv_iload_n hx hb dL_requires_60 rfl (lv_at hl 0 rfl) ?_
        refine lv_imul hx hb dL_requires_61 ?_
        refine l_iald X I lR_1 62 dL_requires_62 hpf (fun hpf => ?_)
        refine lv_imul hx hb dL_requires_63 ?_
        refine l_iald X I lR_1 64 dL_requires_64 hpf (fun hpf => ?_)
        refine lv_imul hx hb dL_requires_65 ?_
        refine lv_iconst (v := (1 : Int32)) hx hb dL_requires_66 (by decide) ?_
        refine lv_iadd hx hb dL_requires_67 ?_
        refine l_iald X I lR_1 68 dL_requires_68 hpf (fun hpf => ?_)
        exact hC_69 (aI Li 1 (((3 : Int32) * (aI Li 1 ((3 : Int32) * (aI Li 1 ((3 : Int32) * x0).toNatClampNeg)).toNatClampNeg)) + (1 : Int32)).toNatClampNeg) (aI Li 1 (((3 : Int32) * (aI Li 1 ((3 : Int32) * x0).toNatClampNeg)) + (1 : Int32)).toNatClampNeg) (aI Li 1 (((3 : Int32) * x0) + (1 : Int32)).toNatClampNeg) Li H locs I ls (lv_sub hl [] rfl) hpf
      refine lv_iconst (v := (0 : Int32)) hx hb dL_requires_50 (by decide) ?_
      refine lv_goto (tgt := 69) hx hb dL_requires_51 (by decide) ?_
      exact hC_69 (0 : Int32) (aI Li 1 (((3 : Int32) * (aI Li 1 ((3 : Int32) * x0).toNatClampNeg)) + (1 : Int32)).toNatClampNeg) (aI Li 1 (((3 : Int32) * x0) + (1 : Int32)).toNatClampNeg) Li H locs I ls (lv_sub hl [] rfl) hpf
    refine lv_iconst (v := (0 : Int32)) hx hb dL_requires_23 (by decide) ?_
    refine lv_goto (tgt := 70) hx hb dL_requires_24 (by decide) ?_
    exact hC_70 (0 : Int32) (aI Li 1 (((3 : Int32) * x0) + (1 : Int32)).toNatClampNeg) Li H locs I ls (lv_sub hl [] rfl) hpf
  refine lv_iconst (v := (0 : Int32)) hx hb dL_requires_4 (by decide) ?_
  refine lv_goto (tgt := 71) hx hb dL_requires_5 (by decide) ?_
  exact l_retiA X I hr 71 dL_requires_71 hpf
-- ===== the law's allows =====
def pL_allows_4 (N : Nat) : Nat → Int32 → Int32 → lS → Option (Int32 × lS)
  | 0 => fun _ _ _ => none
  | n_4 + 1 => fun x2 x3 L =>
    if x3 < (0 : Int32) then (
      some (x2, L))
    else (
      gd (((3 : Int32) * x3) + (1 : Int32)) 9 <|
      gd (((3 : Int32) * x3) + (2 : Int32)) 9 <|
      nm (x2 ||| ((aI L 1 (((3 : Int32) * x3) + (1 : Int32)).toNatClampNeg) ||| (aI L 1 (((3 : Int32) * x3) + (2 : Int32)).toNatClampNeg))) fun y101 =>
      gd ((3 : Int32) * x3) 9 <|
      nm (aI L 1 ((3 : Int32) * x3).toNatClampNeg) fun y102 =>
      pL_allows_4 N n_4 y101 y102 L)
def pL_allows (N : Nat) (x0 : Int32) (L : lS) : Option (Int32 × lS) :=
    pL_allows_4 N N (0 : Int32) x0 L
theorem fL_allows : lFnS yL_allows (.code yL_allows cL_allows 4 (some .int)) 2 113 := ⟨kT_96, kT_97, kT_85, rfl, by decide +kernel⟩
set_option maxRecDepth 100000 in
set_option maxHeartbeats 4000000 in
theorem c_L_allows (l : Launch) (hlt : l.stackTraces = false) (N : Nat) (x0 : Int32) : lMet l yL_allows (.code yL_allows cL_allows 4 (some .int)) 0 0 0 0 (fun ca a => [.int x0, .ref (a 1)]) qI (fun S L => lup S (pL_allows N x0 L)) := by
  refine l_startA hlt (by decide +kernel) rfl (fun ca a => [(0, .int x0), (1, .ref (a 1))]) (fun _ _ => Nat.le_of_ble_eq_true rfl) (fun _ _ => rfl) ?_
  intro dC dI g a sz Si Li r Lf hpf p e s m args below meth c X hr H locs I ls hl
  have hx := X.1
  have hb := X.2.1
  unfold pL_allows at hpf
  have hC_4 : ∀ (n_4 : Nat), ∀ (x2 : Int32) (x3 : Int32) (L : lS) (H : Heap) (locs : List Loc), lV dC dI g a (lFr g a Si Li sz) s Si Si L H locs → ∀ ls : Array Slot, lv_has ls 4 [(1, .ref (a 1)), (2, .int x2), (3, .int x3)] → pL_allows_4 N n_4 x2 x3 L = some (r, Lf) → W p l e (lRm 0 0 0 0) s m args below meth c H locs 0 0 (MQ below (lQ dC dI g a sz Si Li (qI r) Si Lf) args s 0 0 (lFr g a Si Li sz)) (F0 m 4 ls []) := by
    intro n_4
    induction n_4 with
    | zero =>
      intro x2 x3 L H locs I ls hl hpf
      rw [pL_allows_4] at hpf
      cases hpf
    | succ n_4 ih_4 =>
      intro x2 x3 L H locs I ls hl hpf
      rw [pL_allows_4] at hpf
      refine lv_iload_n hx hb dL_allows_4 rfl (lv_at hl 2 rfl) ?_
      refine b_if_lt hx hb 35 5 dL_allows_5 (by decide) hpf (fun hpf => ?_) (fun hpf => ?_)
      · refine lv_iload_n hx hb dL_allows_35 rfl (lv_at hl 1 rfl) ?_
        exact l_retiA X I hr 36 dL_allows_36 hpf
      refine lv_iload_n hx hb dL_allows_8 rfl (lv_at hl 1 rfl) ?_
      refine lv_aload_n hx hb dL_allows_9 rfl (lv_at hl 0 rfl) ?_
      refine lv_iconst (v := (3 : Int32)) hx hb dL_allows_10 (by decide) ?_
      refine lv_iload_n hx hb dL_allows_11 rfl (lv_at hl 2 rfl) ?_
      refine lv_imul hx hb dL_allows_12 ?_
      refine lv_iconst (v := (1 : Int32)) hx hb dL_allows_13 (by decide) ?_
      refine lv_iadd hx hb dL_allows_14 ?_
      refine l_iald X I lR_1 15 dL_allows_15 hpf (fun hpf => ?_)
      refine lv_aload_n hx hb dL_allows_16 rfl (lv_at hl 0 rfl) ?_
      refine lv_iconst (v := (3 : Int32)) hx hb dL_allows_17 (by decide) ?_
      refine lv_iload_n hx hb dL_allows_18 rfl (lv_at hl 2 rfl) ?_
      refine lv_imul hx hb dL_allows_19 ?_
      refine lv_iconst (v := (2 : Int32)) hx hb dL_allows_20 (by decide) ?_
      refine lv_iadd hx hb dL_allows_21 ?_
      refine l_iald X I lR_1 22 dL_allows_22 hpf (fun hpf => ?_)
      refine lv_ior hx hb dL_allows_23 ?_
      refine lv_ior hx hb dL_allows_24 ?_
      refine m_isto_n hx hb (fun y101 => [(2, .int y101), (1, .ref (a 1)), (3, .int x3)]) 25 dL_allows_25 rfl hl (by decide) (fun _ => rfl) hpf (fun y101 ls hl hpf => ?_)
      refine lv_aload_n hx hb dL_allows_26 rfl (lv_at hl 1 rfl) ?_
      refine lv_iconst (v := (3 : Int32)) hx hb dL_allows_27 (by decide) ?_
      refine lv_iload_n hx hb dL_allows_28 rfl (lv_at hl 2 rfl) ?_
      refine lv_imul hx hb dL_allows_29 ?_
      refine l_iald X I lR_1 30 dL_allows_30 hpf (fun hpf => ?_)
      refine m_isto_n hx hb (fun y102 => [(3, .int y102), (2, .int y101), (1, .ref (a 1))]) 31 dL_allows_31 rfl hl (by decide) (fun _ => rfl) hpf (fun y102 ls hl hpf => ?_)
      refine lv_goto (tgt := 4) hx hb dL_allows_32 (by decide) ?_
      exact ih_4 y101 y102 L H locs I ls (lv_sub hl [2, 1, 0] rfl) hpf
  refine lv_iconst (v := (0 : Int32)) hx hb dL_allows_0 (by decide) ?_
  refine lv_istore_n (lv' := [(2, .int (0 : Int32)), (0, .int x0), (1, .ref (a 1))]) hx hb dL_allows_1 rfl hl (by decide) rfl (fun ls hl => ?_)
  refine lv_iload_n hx hb dL_allows_2 rfl (lv_at hl 1 rfl) ?_
  refine lv_istore_n (lv' := [(3, .int x0), (2, .int (0 : Int32)), (0, .int x0), (1, .ref (a 1))]) hx hb dL_allows_3 rfl hl (by decide) rfl (fun ls hl => ?_)
  exact hC_4 N (0 : Int32) x0 Li H locs I ls (lv_sub hl [3, 1, 0] rfl) hpf
-- ===== the law's bits =====
def pL_bits_4 (N : Nat) : Nat → Int64 → Int32 → Int32 → lS → Option (Int32 × lS)
  | 0 => fun _ _ _ _ => none
  | n_4 + 1 => fun w0 x2 x3 L =>
    if (60 : Int32) ≤ x3 then (
      some (x2, L))
    else (
      nm (x2 + (((w0 >>> (x3.toInt64 &&& 63)) &&& (1 : Int64)).toInt32)) fun y101 =>
      nm (x3 + (1 : Int32)) fun y102 =>
      pL_bits_4 N n_4 w0 y101 y102 L)
def pL_bits (N : Nat) (w0 : Int64) (L : lS) : Option (Int32 × lS) :=
    pL_bits_4 N N w0 (0 : Int32) (0 : Int32) L
theorem fL_bits : lFnS yL_bits (.code yL_bits cL_bits 4 (some .int)) 1 142 := ⟨kT_113, kT_114, kT_86, rfl, by decide +kernel⟩
set_option maxRecDepth 100000 in
set_option maxHeartbeats 4000000 in
theorem c_L_bits (l : Launch) (hlt : l.stackTraces = false) (N : Nat) (w0 : Int64) : lMet l yL_bits (.code yL_bits cL_bits 4 (some .int)) 0 0 0 0 (fun ca a => [.long w0]) qI (fun S L => lup S (pL_bits N w0 L)) := by
  refine l_startA hlt (by decide +kernel) rfl (fun ca a => [(0, .long w0)]) (fun _ _ => Nat.le_of_ble_eq_true rfl) (fun _ _ => rfl) ?_
  intro dC dI g a sz Si Li r Lf hpf p e s m args below meth c X hr H locs I ls hl
  have hx := X.1
  have hb := X.2.1
  unfold pL_bits at hpf
  have hC_4 : ∀ (n_4 : Nat), ∀ (w0 : Int64) (x2 : Int32) (x3 : Int32) (L : lS) (H : Heap) (locs : List Loc), lV dC dI g a (lFr g a Si Li sz) s Si Si L H locs → ∀ ls : Array Slot, lv_has ls 4 [(0, .long w0), (2, .int x2), (3, .int x3)] → pL_bits_4 N n_4 w0 x2 x3 L = some (r, Lf) → W p l e (lRm 0 0 0 0) s m args below meth c H locs 0 0 (MQ below (lQ dC dI g a sz Si Li (qI r) Si Lf) args s 0 0 (lFr g a Si Li sz)) (F0 m 4 ls []) := by
    intro n_4
    induction n_4 with
    | zero =>
      intro w0 x2 x3 L H locs I ls hl hpf
      rw [pL_bits_4] at hpf
      cases hpf
    | succ n_4 ih_4 =>
      intro w0 x2 x3 L H locs I ls hl hpf
      rw [pL_bits_4] at hpf
      refine lv_iload_n hx hb dL_bits_4 rfl (lv_at hl 2 rfl) ?_
      refine lv_bipush (v := (60 : Int32)) hx hb dL_bits_5 (by decide) ?_
      refine b_icmp_ge hx hb 25 7 dL_bits_7 (by decide) hpf (fun hpf => ?_) (fun hpf => ?_)
      · refine lv_iload_n hx hb dL_bits_25 rfl (lv_at hl 1 rfl) ?_
        exact l_retiA X I hr 26 dL_bits_26 hpf
      refine lv_iload_n hx hb dL_bits_10 rfl (lv_at hl 1 rfl) ?_
      refine lv_lload_n hx hb dL_bits_11 rfl (lv_at hl 0 rfl) ?_
      refine lv_iload_n hx hb dL_bits_12 rfl (lv_at hl 2 rfl) ?_
      refine lv_lshr hx hb dL_bits_13 rfl ?_
      refine lv_lconst (v := (1 : Int64)) hx hb dL_bits_14 (by decide) ?_
      refine lv_land hx hb dL_bits_15 ?_
      refine lv_l2i hx hb dL_bits_16 rfl ?_
      refine lv_iadd hx hb dL_bits_17 ?_
      refine m_isto_n hx hb (fun y101 => [(2, .int y101), (0, .long w0), (3, .int x3)]) 18 dL_bits_18 rfl hl (by decide) (fun _ => rfl) hpf (fun y101 ls hl hpf => ?_)
      refine m_iinc (w := (1 : Int32)) hx hb (fun y102 => [(3, .int y102), (2, .int y101), (0, .long w0)]) 19 dL_bits_19 hl (k := 2) rfl (by decide) (by decide) (fun _ => rfl) hpf (fun y102 ls hl hpf => ?_)
      refine lv_goto (tgt := 4) hx hb dL_bits_22 (by decide) ?_
      exact ih_4 w0 y101 y102 L H locs I ls (lv_sub hl [2, 1, 0] rfl) hpf
  refine lv_iconst (v := (0 : Int32)) hx hb dL_bits_0 (by decide) ?_
  refine lv_istore_n (lv' := [(2, .int (0 : Int32)), (0, .long w0)]) hx hb dL_bits_1 rfl hl (by decide) rfl (fun ls hl => ?_)
  refine lv_iconst (v := (0 : Int32)) hx hb dL_bits_2 (by decide) ?_
  refine lv_istore_n (lv' := [(3, .int (0 : Int32)), (2, .int (0 : Int32)), (0, .long w0)]) hx hb dL_bits_3 rfl hl (by decide) rfl (fun ls hl => ?_)
  exact hC_4 N w0 (0 : Int32) (0 : Int32) Li H locs I ls (lv_sub hl [2, 1, 0] rfl) hpf
