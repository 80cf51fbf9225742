-- ===== the law's says =====
def pL_says_59 (N : Nat) (x12 : Int32) (L : lS) : Option (Int32 × lS) :=
    gd x12 41 <|
    some (aI L 6 x12.toNatClampNeg, L)
def pL_says_65 (N : Nat) (k_8 : Int32 → Int32 → Int32 → Int32 → Int32 → Int32 → lS → Option (Int32 × lS)) (x0 : Int32) (x1 : Int32) (x2 : Int32) (x3 : Int32) (x4 : Int32) (x12 : Int32) (L : lS) : Option (Int32 × lS) :=
    nm (x12 + (-1 : Int32)) fun y101 =>
    k_8 x0 x1 x2 x3 x4 y101 L
def pL_says_8 (N : Nat) (k_59 : Int32 → lS → Option (Int32 × lS)) : Nat → Int32 → Int32 → Int32 → Int32 → Int32 → Int32 → lS → Option (Int32 × lS)
  | 0 => fun _ _ _ _ _ _ _ => none
  | n_8 + 1 => fun x0 x1 x2 x3 x4 x12 L =>
    if x12 < (0 : Int32) then (
      some ((0 : Int32), L))
    else (
      gd x12 41 <|
      if (aI L 4 x12.toNatClampNeg) = ((96 : Int32) + x1) then (
        gd x12 41 <|
        if (aI L 5 x12.toNatClampNeg) = ((((6 : Int32) * x2) + ((2 : Int32) * x3)) + x4) then (
          lba (pL_known N x0 x12 L) fun v101 L102 =>
          if v101 = (0 : Int32) then (
            pL_says_65 N (pL_says_8 N k_59 n_8) x0 x1 x2 x3 x4 x12 L102)
          else (
            k_59 x12 L102))
        else (
          pL_says_65 N (pL_says_8 N k_59 n_8) x0 x1 x2 x3 x4 x12 L))
      else (
        pL_says_65 N (pL_says_8 N k_59 n_8) x0 x1 x2 x3 x4 x12 L))
def pL_says (N : Nat) (x0 : Int32) (x1 : Int32) (x2 : Int32) (x3 : Int32) (x4 : Int32) (L : lS) : Option (Int32 × lS) :=
    gd (1 : Int32) 20 <|
    nm ((aI L 0 (1 : Int32).toNatClampNeg) - (1 : Int32)) fun y101 =>
    pL_says_8 N (pL_says_59 N) N x0 x1 x2 x3 x4 y101 L
theorem fL_says : lFnS yL_says (.code yL_says cL_says 13 (some .int)) 12 105 := ⟨kT_89, kT_90, kT_87, rfl, by decide +kernel⟩
set_option maxRecDepth 100000 in
set_option maxHeartbeats 4000000 in
theorem c_L_says (l : Launch) (hlt : l.stackTraces = false) (N : Nat) (x0 : Int32) (x1 : Int32) (x2 : Int32) (x3 : Int32) (x4 : Int32) : lMet l yL_says (.code yL_says cL_says 13 (some .int)) 1 24 0 0 (fun ca a => [.int x0, .int x1, .int x2, .int x3, .int x4, .ref (a 0), .ref (a 2), .ref (a 3), .ref (a 4), .ref (a 5), .ref (a 6), .ref (a 8)]) qI (fun S L => lup S (pL_says N x0 x1 x2 x3 x4 L)) := by
  refine l_startA hlt (by decide +kernel) rfl (fun ca a => [(0, .int x0), (1, .int x1), (2, .int x2), (3, .int x3), (4, .int x4), (5, .ref (a 0)), (6, .ref (a 2)), (7, .ref (a 3)), (8, .ref (a 4)), (9, .ref (a 5)), (10, .ref (a 6)), (11, .ref (a 8))]) (fun _ _ => Nat.le_of_ble_eq_true rfl) (fun _ _ => rfl) ?_
  intro dC dI g a sz Si Li r Lf hpf p e s m args below meth c X hr H locs I ls hl
  have hx := X.1
  have hb := X.2.1
  unfold pL_says at hpf
  have hC_59 : ∀ (x12 : Int32) (L : lS) (H : Heap) (locs : List Loc), lV dC dI g a (lFr g a Si Li sz) s Si Si L H locs → ∀ ls : Array Slot, lv_has ls 13 [(10, .ref (a 6)), (12, .int x12)] → pL_says_59 N x12 L = some (r, Lf) → W p l e (lRm 1 24 0 0) s m args below meth c H locs 0 0 (MQ below (lQ dC dI g a sz Si Li (qI r) Si Lf) args s 0 0 (lFr g a Si Li sz)) (F0 m 59 ls []) := by
    intro x12 L H locs I ls hl hpf
    unfold pL_says_59 at hpf
    refine lv_aload hx hb dL_says_59 (lv_at hl 0 rfl) ?_
    refine lv_iload hx hb dL_says_61 (lv_at hl 1 rfl) ?_
    refine l_iald X I lR_6 63 dL_says_63 hpf (fun hpf => ?_)
    exact l_retiA X I hr 64 dL_says_64 hpf
  have hC_8 : ∀ (n_8 : Nat), ∀ (x0 : Int32) (x1 : Int32) (x2 : Int32) (x3 : Int32) (x4 : Int32) (x12 : Int32) (L : lS) (H : Heap) (locs : List Loc), lV dC dI g a (lFr g a Si Li sz) s Si Si L H locs → ∀ ls : Array Slot, lv_has ls 13 [(0, .int x0), (1, .int x1), (2, .int x2), (3, .int x3), (4, .int x4), (6, .ref (a 2)), (7, .ref (a 3)), (8, .ref (a 4)), (9, .ref (a 5)), (10, .ref (a 6)), (11, .ref (a 8)), (12, .int x12)] → pL_says_8 N (pL_says_59 N) n_8 x0 x1 x2 x3 x4 x12 L = some (r, Lf) → W p l e (lRm 1 24 0 0) s m args below meth c H locs 0 0 (MQ below (lQ dC dI g a sz Si Li (qI r) Si Lf) args s 0 0 (lFr g a Si Li sz)) (F0 m 8 ls []) := by
    intro n_8
    induction n_8 with
    | zero =>
      intro x0 x1 x2 x3 x4 x12 L H locs I ls hl hpf
      rw [pL_says_8] at hpf
      cases hpf
    | succ n_8 ih_8 =>
      have hC_65 : ∀ (x0 : Int32) (x1 : Int32) (x2 : Int32) (x3 : Int32) (x4 : Int32) (x12 : Int32) (L : lS) (H : Heap) (locs : List Loc), lV dC dI g a (lFr g a Si Li sz) s Si Si L H locs → ∀ ls : Array Slot, lv_has ls 13 [(0, .int x0), (1, .int x1), (2, .int x2), (3, .int x3), (4, .int x4), (6, .ref (a 2)), (7, .ref (a 3)), (8, .ref (a 4)), (9, .ref (a 5)), (10, .ref (a 6)), (11, .ref (a 8)), (12, .int x12)] → pL_says_65 N (pL_says_8 N (pL_says_59 N) n_8) x0 x1 x2 x3 x4 x12 L = some (r, Lf) → W p l e (lRm 1 24 0 0) s m args below meth c H locs 0 0 (MQ below (lQ dC dI g a sz Si Li (qI r) Si Lf) args s 0 0 (lFr g a Si Li sz)) (F0 m 65 ls []) := by
        intro x0 x1 x2 x3 x4 x12 L H locs I ls hl hpf
        unfold pL_says_65 at hpf
        refine m_iinc (w := (-1 : Int32)) hx hb (fun y101 => [(12, .int y101), (0, .int x0), (1, .int x1), (2, .int x2), (3, .int x3), (4, .int x4), (6, .ref (a 2)), (7, .ref (a 3)), (8, .ref (a 4)), (9, .ref (a 5)), (10, .ref (a 6)), (11, .ref (a 8))]) 65 dL_says_65 hl (k := 11) rfl (by decide) (by decide) (fun _ => rfl) hpf (fun y101 ls hl hpf => ?_)
        refine lv_goto (tgt := 8) hx hb dL_says_68 (by decide) ?_
        exact ih_8 x0 x1 x2 x3 x4 y101 L H locs I ls (lv_sub hl [1, 2, 3, 4, 5, 6, 7, 8, 9, 10, 11, 0] rfl) hpf
      intro x0 x1 x2 x3 x4 x12 L H locs I ls hl hpf
      rw [pL_says_8] at hpf
      refine lv_iload hx hb dL_says_8 (lv_at hl 11 rfl) ?_
      refine b_if_lt hx hb 71 10 dL_says_10 (by decide) hpf (fun hpf => ?_) (fun hpf => ?_)
      · refine lv_iconst (v := (0 : Int32)) hx hb dL_says_71 (by decide) ?_
        exact l_retiA X I hr 72 dL_says_72 hpf
      refine lv_aload hx hb dL_says_13 (lv_at hl 7 rfl) ?_
      refine lv_iload hx hb dL_says_15 (lv_at hl 11 rfl) ?_
      refine l_iald X I lR_4 17 dL_says_17 hpf (fun hpf => ?_)
      refine lv_bipush (v := (96 : Int32)) hx hb dL_says_18 (by decide) ?_
      refine lv_iload_n hx hb dL_says_20 rfl (lv_at hl 1 rfl) ?_
      refine lv_iadd hx hb dL_says_21 ?_
      refine b_icmp_ne hx hb 65 22 dL_says_22 (by decide) hpf (fun hpf => ?_) (fun hpf => ?_)
      · exact hC_65 x0 x1 x2 x3 x4 x12 L H locs I ls (lv_sub hl [0, 1, 2, 3, 4, 5, 6, 7, 8, 9, 10, 11] rfl) hpf
      refine lv_aload hx hb dL_says_25 (lv_at hl 8 rfl) ?_
      refine lv_iload hx hb dL_says_27 (lv_at hl 11 rfl) ?_
      refine l_iald X I lR_5 29 dL_says_29 hpf (fun hpf => ?_)
      refine lv_bipush (v := (6 : Int32)) hx hb dL_says_30 (by decide) ?_
      refine lv_iload_n hx hb dL_says_32 rfl (lv_at hl 2 rfl) ?_
      refine lv_imul hx hb dL_says_33 ?_
      refine lv_iconst (v := (2 : Int32)) hx hb dL_says_34 (by decide) ?_
      refine lv_iload_n hx hb dL_says_35 rfl (lv_at hl 3 rfl) ?_
      refine lv_imul hx hb dL_says_36 ?_
      refine lv_iadd hx hb dL_says_37 ?_
      refine lv_iload hx hb dL_says_38 (lv_at hl 4 rfl) ?_
      refine lv_iadd hx hb dL_says_40 ?_
      refine b_icmp_ne hx hb 65 41 dL_says_41 (by decide) hpf (fun hpf => ?_) (fun hpf => ?_)
      · exact hC_65 x0 x1 x2 x3 x4 x12 L H locs I ls (lv_sub hl [0, 1, 2, 3, 4, 5, 6, 7, 8, 9, 10, 11] rfl) hpf
      refine lv_iload_n hx hb dL_says_44 rfl (lv_at hl 0 rfl) ?_
      refine lv_iload hx hb dL_says_45 (lv_at hl 11 rfl) ?_
      refine lv_aload hx hb dL_says_47 (lv_at hl 5 rfl) ?_
      refine lv_aload hx hb dL_says_49 (lv_at hl 6 rfl) ?_
      refine lv_aload hx hb dL_says_51 (lv_at hl 10 rfl) ?_
      refine l_cAI (rest := []) (As := [.int x0, .int x12, .ref (a 2), .ref (a 3), .ref (a 8)]) X I fL_known (c_L_known l hlt N x0 x12) rfl ⟨Nat.le_of_ble_eq_true rfl, Nat.le_of_ble_eq_true rfl⟩ 53 dL_says_53 rfl hl.1 rfl (Nat.le_of_ble_eq_true rfl) ⟨Nat.le_refl _, Nat.le_refl _⟩ hpf (fun v101 L102 H locs I hpf => ?_)
      refine b_if_eq hx hb 65 56 dL_says_56 (by decide) hpf (fun hpf => ?_) (fun hpf => ?_)
      · exact hC_65 x0 x1 x2 x3 x4 x12 L102 H locs I ls (lv_sub hl [0, 1, 2, 3, 4, 5, 6, 7, 8, 9, 10, 11] rfl) hpf
      exact hC_59 x12 L102 H locs I ls (lv_sub hl [9, 11] rfl) hpf
  refine lv_aload hx hb dL_says_0 (lv_at hl 5 rfl) ?_
  refine lv_iconst (v := (1 : Int32)) hx hb dL_says_2 (by decide) ?_
  refine l_iald X I lR_0 3 dL_says_3 hpf (fun hpf => ?_)
  refine lv_iconst (v := (1 : Int32)) hx hb dL_says_4 (by decide) ?_
  refine lv_isub hx hb dL_says_5 ?_
  refine m_isto hx hb (fun y101 => [(12, .int y101), (0, .int x0), (1, .int x1), (2, .int x2), (3, .int x3), (4, .int x4), (5, .ref (a 0)), (6, .ref (a 2)), (7, .ref (a 3)), (8, .ref (a 4)), (9, .ref (a 5)), (10, .ref (a 6)), (11, .ref (a 8))]) 6 dL_says_6 hl (by decide) (fun _ => rfl) hpf (fun y101 ls hl hpf => ?_)
  exact hC_8 N x0 x1 x2 x3 x4 y101 Li H locs I ls (lv_sub hl [1, 2, 3, 4, 5, 7, 8, 9, 10, 11, 12, 0] rfl) hpf
-- ===== the law's sort =====
def pL_sort_224 (N : Nat) (k_55 : Int32 → Int32 → Int32 → Int32 → Int32 → Int32 → Int32 → Int32 → Int32 → lS → Option (Int32 × lS)) (t0 : Int32) (x0 : Int32) (x1 : Int32) (x2 : Int32) (x3 : Int32) (x4 : Int32) (x5 : Int32) (x17 : Int32) (x18 : Int32) (L : lS) : Option (Int32 × lS) :=
    nm (x18 + (1 : Int32)) fun y101 =>
    k_55 x0 x1 x2 x3 x4 x5 t0 x17 y101 L
def pL_sort_208 (N : Nat) (k_55 : Int32 → Int32 → Int32 → Int32 → Int32 → Int32 → Int32 → Int32 → Int32 → lS → Option (Int32 × lS)) (t0 : Int32) (x0 : Int32) (x1 : Int32) (x2 : Int32) (x3 : Int32) (x4 : Int32) (x5 : Int32) (x17 : Int32) (x18 : Int32) (x21 : Int32) (L : lS) : Option (Int32 × lS) :=
    if t0 ≤ x21 then (
      pL_sort_224 N k_55 x21 x0 x1 x2 x3 x4 x5 x17 x18 L)
    else (
      pL_sort_224 N k_55 t0 x0 x1 x2 x3 x4 x5 x17 x18 L)
def pL_sort_192 (N : Nat) (k_55 : Int32 → Int32 → Int32 → Int32 → Int32 → Int32 → Int32 → Int32 → Int32 → lS → Option (Int32 × lS)) (t0 : Int32) (x0 : Int32) (x1 : Int32) (x2 : Int32) (x3 : Int32) (x4 : Int32) (x5 : Int32) (x15 : Int32) (x17 : Int32) (x18 : Int32) (x20 : Int32) (L : lS) : Option (Int32 × lS) :=
    if x15 ≤ x20 then (
      pL_sort_208 N k_55 x20 x0 x1 x2 x3 x4 x5 x17 x18 t0 L)
    else (
      pL_sort_208 N k_55 x15 x0 x1 x2 x3 x4 x5 x17 x18 t0 L)
def pL_sort_157 (N : Nat) (k_55 : Int32 → Int32 → Int32 → Int32 → Int32 → Int32 → Int32 → Int32 → Int32 → lS → Option (Int32 × lS)) (t0 : Int32) (x0 : Int32) (x1 : Int32) (x2 : Int32) (x3 : Int32) (x4 : Int32) (x5 : Int32) (x15 : Int32) (x17 : Int32) (x18 : Int32) (x19 : Int32) (L : lS) : Option (Int32 × lS) :=
    if x19 = (0 : Int32) then (
      pL_sort_192 N k_55 (0 : Int32) x0 x1 x2 x3 x4 x5 x15 x17 x18 t0 L)
    else (
      lba (pL_says N x0 x2 x18 (2 : Int32) x4 L) fun v101 L102 =>
      pL_sort_192 N k_55 v101 x0 x1 x2 x3 x4 x5 x15 x17 x18 t0 L102)
def pL_sort_117 (N : Nat) (k_55 : Int32 → Int32 → Int32 → Int32 → Int32 → Int32 → Int32 → Int32 → Int32 → lS → Option (Int32 × lS)) (t0 : Int32) (x0 : Int32) (x1 : Int32) (x2 : Int32) (x3 : Int32) (x4 : Int32) (x5 : Int32) (x15 : Int32) (x17 : Int32) (x18 : Int32) (L : lS) : Option (Int32 × lS) :=
    if t0 = (0 : Int32) then (
      pL_sort_157 N k_55 (0 : Int32) x0 x1 x2 x3 x4 x5 x15 x17 x18 t0 L)
    else (
      if (2 : Int32) ≤ x3 then (
        pL_sort_157 N k_55 (0 : Int32) x0 x1 x2 x3 x4 x5 x15 x17 x18 t0 L)
      else (
        lba (pL_says N x0 x2 x18 x3 x4 L) fun v101 L102 =>
        pL_sort_157 N k_55 v101 x0 x1 x2 x3 x4 x5 x15 x17 x18 t0 L102))
def pL_sort_55 (N : Nat) : Nat → Int32 → Int32 → Int32 → Int32 → Int32 → Int32 → Int32 → Int32 → Int32 → lS → Option (Int32 × lS)
  | 0 => fun _ _ _ _ _ _ _ _ _ _ => none
  | n_55 + 1 => fun x0 x1 x2 x3 x4 x5 x15 x17 x18 L =>
    if x17 < x18 then (
      some (x15, L))
    else (
      if x5 = (1 : Int32) then (
        gd ((3 : Int32) * (x18 - (6 : Int32))) 36 <|
        if (aI L 9 ((3 : Int32) * (x18 - (6 : Int32))).toNatClampNeg) = (1 : Int32) then (
          gd (2 : Int32) 20 <|
          if (aI L 0 (2 : Int32).toNatClampNeg) ≤ (0 : Int32) then (
            pL_sort_117 N (pL_sort_55 N n_55) (0 : Int32) x0 x1 x2 x3 x4 x5 x15 x17 x18 L)
          else (
            gd ((3 : Int32) * (x18 - (6 : Int32))) 36 <|
            lba (pL_match N (0 : Int32) x1 L) fun v101 L102 =>
            if (lg_cmp ((aJ L 10 ((3 : Int32) * (x18 - (6 : Int32))).toNatClampNeg) &&& v101) (0 : Int64)) = (0 : Int32) then (
              pL_sort_117 N (pL_sort_55 N n_55) (0 : Int32) x0 x1 x2 x3 x4 x5 x15 x17 x18 L102)
            else (
              pL_sort_117 N (pL_sort_55 N n_55) (1 : Int32) x0 x1 x2 x3 x4 x5 x15 x17 x18 L102)))
        else (
          pL_sort_117 N (pL_sort_55 N n_55) (0 : Int32) x0 x1 x2 x3 x4 x5 x15 x17 x18 L))
      else (
        pL_sort_117 N (pL_sort_55 N n_55) (1 : Int32) x0 x1 x2 x3 x4 x5 x15 x17 x18 L))
def pL_sort_49 (N : Nat) (t0 : Int32) (x0 : Int32) (x1 : Int32) (x2 : Int32) (x3 : Int32) (x4 : Int32) (x5 : Int32) (x15 : Int32) (x16 : Int32) (L : lS) : Option (Int32 × lS) :=
    pL_sort_55 N N x0 x1 x2 x3 x4 x5 x15 t0 x16 L
def pL_sort_25 (N : Nat) (t0 : Int32) (x0 : Int32) (x1 : Int32) (x2 : Int32) (x3 : Int32) (x4 : Int32) (x5 : Int32) (x15 : Int32) (L : lS) : Option (Int32 × lS) :=
    if x5 = (0 : Int32) then (
      pL_sort_49 N x1 x0 x1 x2 x3 x4 x5 x15 t0 L)
    else (
      if x5 = (1 : Int32) then (
        pL_sort_49 N (17 : Int32) x0 x1 x2 x3 x4 x5 x15 t0 L)
      else (
        pL_sort_49 N (18 : Int32) x0 x1 x2 x3 x4 x5 x15 t0 L))
def pL_sort (N : Nat) (x0 : Int32) (x1 : Int32) (x2 : Int32) (x3 : Int32) (x4 : Int32) (x5 : Int32) (L : lS) : Option (Int32 × lS) :=
    if x5 = (0 : Int32) then (
      pL_sort_25 N x1 x0 x1 x2 x3 x4 x5 (0 : Int32) L)
    else (
      if x5 = (1 : Int32) then (
        pL_sort_25 N (6 : Int32) x0 x1 x2 x3 x4 x5 (0 : Int32) L)
      else (
        pL_sort_25 N (18 : Int32) x0 x1 x2 x3 x4 x5 (0 : Int32) L))
theorem fL_sort : lFnS yL_sort (.code yL_sort cL_sort 22 (some .int)) 15 109 := ⟨kT_92, kT_93, kT_88, rfl, by decide +kernel⟩
set_option maxRecDepth 100000 in
set_option maxHeartbeats 4000000 in
theorem c_L_sort (l : Launch) (hlt : l.stackTraces = false) (N : Nat) (x0 : Int32) (x1 : Int32) (x2 : Int32) (x3 : Int32) (x4 : Int32) (x5 : Int32) : lMet l yL_sort (.code yL_sort cL_sort 22 (some .int)) 2 56 0 0 (fun ca a => [.int x0, .int x1, .int x2, .int x3, .int x4, .int x5, .ref (a 0), .ref (a 2), .ref (a 3), .ref (a 4), .ref (a 5), .ref (a 6), .ref (a 8), .ref (a 9), .ref (a 10)]) qI (fun S L => lup S (pL_sort N x0 x1 x2 x3 x4 x5 L)) := by
  refine l_startA hlt (by decide +kernel) rfl (fun ca a => [(0, .int x0), (1, .int x1), (2, .int x2), (3, .int x3), (4, .int x4), (5, .int x5), (6, .ref (a 0)), (7, .ref (a 2)), (8, .ref (a 3)), (9, .ref (a 4)), (10, .ref (a 5)), (11, .ref (a 6)), (12, .ref (a 8)), (13, .ref (a 9)), (14, .ref (a 10))]) (fun _ _ => Nat.le_of_ble_eq_true rfl) (fun _ _ => rfl) ?_
  intro dC dI g a sz Si Li r Lf hpf p e s m args below meth c X hr H locs I ls hl
  have hx := X.1
  have hb := X.2.1
  unfold pL_sort at hpf
  have hC_55 : ∀ (n_55 : Nat), ∀ (x0 : Int32) (x1 : Int32) (x2 : Int32) (x3 : Int32) (x4 : Int32) (x5 : Int32) (x15 : Int32) (x17 : Int32) (x18 : Int32) (L : lS) (H : Heap) (locs : List Loc), lV dC dI g a (lFr g a Si Li sz) s Si Si L H locs → ∀ ls : Array Slot, lv_has ls 22 [(0, .int x0), (1, .int x1), (2, .int x2), (3, .int x3), (4, .int x4), (5, .int x5), (6, .ref (a 0)), (7, .ref (a 2)), (8, .ref (a 3)), (9, .ref (a 4)), (10, .ref (a 5)), (11, .ref (a 6)), (12, .ref (a 8)), (13, .ref (a 9)), (14, .ref (a 10)), (15, .int x15), (17, .int x17), (18, .int x18)] → pL_sort_55 N n_55 x0 x1 x2 x3 x4 x5 x15 x17 x18 L = some (r, Lf) → W p l e (lRm 2 56 0 0) s m args below meth c H locs 0 0 (MQ below (lQ dC dI g a sz Si Li (qI r) Si Lf) args s 0 0 (lFr g a Si Li sz)) (F0 m 55 ls []) := by
    intro n_55
    induction n_55 with
    | zero =>
      intro x0 x1 x2 x3 x4 x5 x15 x17 x18 L H locs I ls hl hpf
      rw [pL_sort_55] at hpf
      cases hpf
    | succ n_55 ih_55 =>
      have hC_224 : ∀ (t0 : Int32) (x0 : Int32) (x1 : Int32) (x2 : Int32) (x3 : Int32) (x4 : Int32) (x5 : Int32) (x17 : Int32) (x18 : Int32) (L : lS) (H : Heap) (locs : List Loc), lV dC dI g a (lFr g a Si Li sz) s Si Si L H locs → ∀ ls : Array Slot, lv_has ls 22 [(0, .int x0), (1, .int x1), (2, .int x2), (3, .int x3), (4, .int x4), (5, .int x5), (6, .ref (a 0)), (7, .ref (a 2)), (8, .ref (a 3)), (9, .ref (a 4)), (10, .ref (a 5)), (11, .ref (a 6)), (12, .ref (a 8)), (13, .ref (a 9)), (14, .ref (a 10)), (17, .int x17), (18, .int x18)] → pL_sort_224 N (pL_sort_55 N n_55) t0 x0 x1 x2 x3 x4 x5 x17 x18 L = some (r, Lf) → W p l e (lRm 2 56 0 0) s m args below meth c H locs 0 0 (MQ below (lQ dC dI g a sz Si Li (qI r) Si Lf) args s 0 0 (lFr g a Si Li sz)) (F0 m 224 ls [.int t0]) := by
        intro t0 x0 x1 x2 x3 x4 x5 x17 x18 L H locs I ls hl hpf
        unfold pL_sort_224 at hpf
        refine lv_istore (lv' := [(15, .int t0), (0, .int x0), (1, .int x1), (2, .int x2), (3, .int x3), (4, .int x4), (5, .int x5), (6, .ref (a 0)), (7, .ref (a 2)), (8, .ref (a 3)), (9, .ref (a 4)), (10, .ref (a 5)), (11, .ref (a 6)), (12, .ref (a 8)), (13, .ref (a 9)), (14, .ref (a 10)), (17, .int x17), (18, .int x18)]) hx hb dL_sort_224 hl (by decide) rfl (fun ls hl => ?_)
        refine m_iinc (w := (1 : Int32)) hx hb (fun y101 => [(18, .int y101), (15, .int t0), (0, .int x0), (1, .int x1), (2, .int x2), (3, .int x3), (4, .int x4), (5, .int x5), (6, .ref (a 0)), (7, .ref (a 2)), (8, .ref (a 3)), (9, .ref (a 4)), (10, .ref (a 5)), (11, .ref (a 6)), (12, .ref (a 8)), (13, .ref (a 9)), (14, .ref (a 10)), (17, .int x17)]) 226 dL_sort_226 hl (k := 17) rfl (by decide) (by decide) (fun _ => rfl) hpf (fun y101 ls hl hpf => ?_)
        refine lv_goto (tgt := 55) hx hb dL_sort_229 (by decide) ?_
        exact ih_55 x0 x1 x2 x3 x4 x5 t0 x17 y101 L H locs I ls (lv_sub hl [2, 3, 4, 5, 6, 7, 8, 9, 10, 11, 12, 13, 14, 15, 16, 1, 17, 0] rfl) hpf
      have hC_208 : ∀ (t0 : Int32) (x0 : Int32) (x1 : Int32) (x2 : Int32) (x3 : Int32) (x4 : Int32) (x5 : Int32) (x17 : Int32) (x18 : Int32) (x21 : Int32) (L : lS) (H : Heap) (locs : List Loc), lV dC dI g a (lFr g a Si Li sz) s Si Si L H locs → ∀ ls : Array Slot, lv_has ls 22 [(0, .int x0), (1, .int x1), (2, .int x2), (3, .int x3), (4, .int x4), (5, .int x5), (6, .ref (a 0)), (7, .ref (a 2)), (8, .ref (a 3)), (9, .ref (a 4)), (10, .ref (a 5)), (11, .ref (a 6)), (12, .ref (a 8)), (13, .ref (a 9)), (14, .ref (a 10)), (17, .int x17), (18, .int x18), (21, .int x21)] → pL_sort_208 N (pL_sort_55 N n_55) t0 x0 x1 x2 x3 x4 x5 x17 x18 x21 L = some (r, Lf) → W p l e (lRm 2 56 0 0) s m args below meth c H locs 0 0 (MQ below (lQ dC dI g a sz Si Li (qI r) Si Lf) args s 0 0 (lFr g a Si Li sz)) (F0 m 208 ls [.int t0]) := by
        intro t0 x0 x1 x2 x3 x4 x5 x17 x18 x21 L H locs I ls hl hpf
        unfold pL_sort_208 at hpf
        refine lv_istore (lv' := [(15, .int t0), (0, .int x0), (1, .int x1), (2, .int x2), (3, .int x3), (4, .int x4), (5, .int x5), (6, .ref (a 0)), (7, .ref (a 2)), (8, .ref (a 3)), (9, .ref (a 4)), (10, .ref (a 5)), (11, .ref (a 6)), (12, .ref (a 8)), (13, .ref (a 9)), (14, .ref (a 10)), (17, .int x17), (18, .int x18), (21, .int x21)]) hx hb dL_sort_208 hl (by decide) rfl (fun ls hl => ?_)
        refine lv_iload hx hb dL_sort_210 (lv_at hl 0 rfl) ?_
        refine lv_iload hx hb dL_sort_212 (lv_at hl 18 rfl) ?_
        refine b_icmp_le hx hb 222 214 dL_sort_214 (by decide) hpf (fun hpf => ?_) (fun hpf => ?_)
        · refine lv_iload hx hb dL_sort_222 (lv_at hl 18 rfl) ?_
          exact hC_224 x21 x0 x1 x2 x3 x4 x5 x17 x18 L H locs I ls (lv_sub hl [1, 2, 3, 4, 5, 6, 7, 8, 9, 10, 11, 12, 13, 14, 15, 16, 17] rfl) hpf
        refine lv_iload hx hb dL_sort_217 (lv_at hl 0 rfl) ?_
        refine lv_goto (tgt := 224) hx hb dL_sort_219 (by decide) ?_
        exact hC_224 t0 x0 x1 x2 x3 x4 x5 x17 x18 L H locs I ls (lv_sub hl [1, 2, 3, 4, 5, 6, 7, 8, 9, 10, 11, 12, 13, 14, 15, 16, 17] rfl) hpf
      have hC_192 : ∀ (t0 : Int32) (x0 : Int32) (x1 : Int32) (x2 : Int32) (x3 : Int32) (x4 : Int32) (x5 : Int32) (x15 : Int32) (x17 : Int32) (x18 : Int32) (x20 : Int32) (L : lS) (H : Heap) (locs : List Loc), lV dC dI g a (lFr g a Si Li sz) s Si Si L H locs → ∀ ls : Array Slot, lv_has ls 22 [(0, .int x0), (1, .int x1), (2, .int x2), (3, .int x3), (4, .int x4), (5, .int x5), (6, .ref (a 0)), (7, .ref (a 2)), (8, .ref (a 3)), (9, .ref (a 4)), (10, .ref (a 5)), (11, .ref (a 6)), (12, .ref (a 8)), (13, .ref (a 9)), (14, .ref (a 10)), (15, .int x15), (17, .int x17), (18, .int x18), (20, .int x20)] → pL_sort_192 N (pL_sort_55 N n_55) t0 x0 x1 x2 x3 x4 x5 x15 x17 x18 x20 L = some (r, Lf) → W p l e (lRm 2 56 0 0) s m args below meth c H locs 0 0 (MQ below (lQ dC dI g a sz Si Li (qI r) Si Lf) args s 0 0 (lFr g a Si Li sz)) (F0 m 192 ls [.int t0]) := by
        intro t0 x0 x1 x2 x3 x4 x5 x15 x17 x18 x20 L H locs I ls hl hpf
        unfold pL_sort_192 at hpf
        refine lv_istore (lv' := [(21, .int t0), (0, .int x0), (1, .int x1), (2, .int x2), (3, .int x3), (4, .int x4), (5, .int x5), (6, .ref (a 0)), (7, .ref (a 2)), (8, .ref (a 3)), (9, .ref (a 4)), (10, .ref (a 5)), (11, .ref (a 6)), (12, .ref (a 8)), (13, .ref (a 9)), (14, .ref (a 10)), (15, .int x15), (17, .int x17), (18, .int x18), (20, .int x20)]) hx hb dL_sort_192 hl (by decide) rfl (fun ls hl => ?_)
        refine lv_iload hx hb dL_sort_194 (lv_at hl 16 rfl) ?_
        refine lv_iload hx hb dL_sort_196 (lv_at hl 19 rfl) ?_
        refine b_icmp_le hx hb 206 198 dL_sort_198 (by decide) hpf (fun hpf => ?_) (fun hpf => ?_)
        · refine lv_iload hx hb dL_sort_206 (lv_at hl 19 rfl) ?_
          exact hC_208 x20 x0 x1 x2 x3 x4 x5 x17 x18 t0 L H locs I ls (lv_sub hl [1, 2, 3, 4, 5, 6, 7, 8, 9, 10, 11, 12, 13, 14, 15, 17, 18, 0] rfl) hpf
        refine lv_iload hx hb dL_sort_201 (lv_at hl 16 rfl) ?_
        refine lv_goto (tgt := 208) hx hb dL_sort_203 (by decide) ?_
        exact hC_208 x15 x0 x1 x2 x3 x4 x5 x17 x18 t0 L H locs I ls (lv_sub hl [1, 2, 3, 4, 5, 6, 7, 8, 9, 10, 11, 12, 13, 14, 15, 17, 18, 0] rfl) hpf
      have hC_157 : ∀ (t0 : Int32) (x0 : Int32) (x1 : Int32) (x2 : Int32) (x3 : Int32) (x4 : Int32) (x5 : Int32) (x15 : Int32) (x17 : Int32) (x18 : Int32) (x19 : Int32) (L : lS) (H : Heap) (locs : List Loc), lV dC dI g a (lFr g a Si Li sz) s Si Si L H locs → ∀ ls : Array Slot, lv_has ls 22 [(0, .int x0), (1, .int x1), (2, .int x2), (3, .int x3), (4, .int x4), (5, .int x5), (6, .ref (a 0)), (7, .ref (a 2)), (8, .ref (a 3)), (9, .ref (a 4)), (10, .ref (a 5)), (11, .ref (a 6)), (12, .ref (a 8)), (13, .ref (a 9)), (14, .ref (a 10)), (15, .int x15), (17, .int x17), (18, .int x18), (19, .int x19)] → pL_sort_157 N (pL_sort_55 N n_55) t0 x0 x1 x2 x3 x4 x5 x15 x17 x18 x19 L = some (r, Lf) → W p l e (lRm 2 56 0 0) s m args below meth c H locs 0 0 (MQ below (lQ dC dI g a sz Si Li (qI r) Si Lf) args s 0 0 (lFr g a Si Li sz)) (F0 m 157 ls [.int t0]) := by
        intro t0 x0 x1 x2 x3 x4 x5 x15 x17 x18 x19 L H locs I ls hl hpf
        unfold pL_sort_157 at hpf
        refine lv_istore (lv' := [(20, .int t0), (0, .int x0), (1, .int x1), (2, .int x2), (3, .int x3), (4, .int x4), (5, .int x5), (6, .ref (a 0)), (7, .ref (a 2)), (8, .ref (a 3)), (9, .ref (a 4)), (10, .ref (a 5)), (11, .ref (a 6)), (12, .ref (a 8)), (13, .ref (a 9)), (14, .ref (a 10)), (15, .int x15), (17, .int x17), (18, .int x18), (19, .int x19)]) hx hb dL_sort_157 hl (by decide) rfl (fun ls hl => ?_)
        refine lv_iload hx hb dL_sort_159 (lv_at hl 19 rfl) ?_
        refine b_if_eq hx hb 191 161 dL_sort_161 (by decide) hpf (fun hpf => ?_) (fun hpf => ?_)
        · refine lv_iconst (v := (0 : Int32)) hx hb dL_sort_191 (by decide) ?_
          exact hC_192 (0 : Int32) x0 x1 x2 x3 x4 x5 x15 x17 x18 t0 L H locs I ls (lv_sub hl [1, 2, 3, 4, 5, 6, 7, 8, 9, 10, 11, 12, 13, 14, 15, 16, 17, 18, 0] rfl) hpf
        refine lv_iload_n hx hb dL_sort_164 rfl (lv_at hl 1 rfl) ?_
        refine lv_iload_n hx hb dL_sort_165 rfl (lv_at hl 3 rfl) ?_
        refine lv_iload hx hb dL_sort_166 (lv_at hl 18 rfl) ?_
        refine lv_iconst (v := (2 : Int32)) hx hb dL_sort_168 (by decide) ?_
        refine lv_iload hx hb dL_sort_169 (lv_at hl 5 rfl) ?_
        refine lv_aload hx hb dL_sort_171 (lv_at hl 7 rfl) ?_
        refine lv_aload hx hb dL_sort_173 (lv_at hl 8 rfl) ?_
        refine lv_aload hx hb dL_sort_175 (lv_at hl 9 rfl) ?_
        refine lv_aload hx hb dL_sort_177 (lv_at hl 10 rfl) ?_
        refine lv_aload hx hb dL_sort_179 (lv_at hl 11 rfl) ?_
        refine lv_aload hx hb dL_sort_181 (lv_at hl 12 rfl) ?_
        refine lv_aload hx hb dL_sort_183 (lv_at hl 13 rfl) ?_
        refine l_cAI (rest := []) (As := [.int x0, .int x2, .int x18, .int (2 : Int32), .int x4, .ref (a 0), .ref (a 2), .ref (a 3), .ref (a 4), .ref (a 5), .ref (a 6), .ref (a 8)]) X I fL_says (c_L_says l hlt N x0 x2 x18 (2 : Int32) x4) rfl ⟨Nat.le_of_ble_eq_true rfl, Nat.le_of_ble_eq_true rfl⟩ 185 dL_sort_185 rfl hl.1 rfl (Nat.le_of_ble_eq_true rfl) ⟨Nat.le_refl _, Nat.le_refl _⟩ hpf (fun v101 L102 H locs I hpf => ?_)
        refine lv_goto (tgt := 192) hx hb dL_sort_188 (by decide) ?_
        exact hC_192 v101 x0 x1 x2 x3 x4 x5 x15 x17 x18 t0 L102 H locs I ls (lv_sub hl [1, 2, 3, 4, 5, 6, 7, 8, 9, 10, 11, 12, 13, 14, 15, 16, 17, 18, 0] rfl) hpf
      have hC_117 : ∀ (t0 : Int32) (x0 : Int32) (x1 : Int32) (x2 : Int32) (x3 : Int32) (x4 : Int32) (x5 : Int32) (x15 : Int32) (x17 : Int32) (x18 : Int32) (L : lS) (H : Heap) (locs : List Loc), lV dC dI g a (lFr g a Si Li sz) s Si Si L H locs → ∀ ls : Array Slot, lv_has ls 22 [(0, .int x0), (1, .int x1), (2, .int x2), (3, .int x3), (4, .int x4), (5, .int x5), (6, .ref (a 0)), (7, .ref (a 2)), (8, .ref (a 3)), (9, .ref (a 4)), (10, .ref (a 5)), (11, .ref (a 6)), (12, .ref (a 8)), (13, .ref (a 9)), (14, .ref (a 10)), (15, .int x15), (17, .int x17), (18, .int x18)] → pL_sort_117 N (pL_sort_55 N n_55) t0 x0 x1 x2 x3 x4 x5 x15 x17 x18 L = some (r, Lf) → W p l e (lRm 2 56 0 0) s m args below meth c H locs 0 0 (MQ below (lQ dC dI g a sz Si Li (qI r) Si Lf) args s 0 0 (lFr g a Si Li sz)) (F0 m 117 ls [.int t0]) := by
        intro t0 x0 x1 x2 x3 x4 x5 x15 x17 x18 L H locs I ls hl hpf
        unfold pL_sort_117 at hpf
        refine lv_istore (lv' := [(19, .int t0), (0, .int x0), (1, .int x1), (2, .int x2), (3, .int x3), (4, .int x4), (5, .int x5), (6, .ref (a 0)), (7, .ref (a 2)), (8, .ref (a 3)), (9, .ref (a 4)), (10, .ref (a 5)), (11, .ref (a 6)), (12, .ref (a 8)), (13, .ref (a 9)), (14, .ref (a 10)), (15, .int x15), (17, .int x17), (18, .int x18)]) hx hb dL_sort_117 hl (by decide) rfl (fun ls hl => ?_)
        refine lv_iload hx hb dL_sort_119 (lv_at hl 0 rfl) ?_
        refine b_if_eq hx hb 156 121 dL_sort_121 (by decide) hpf (fun hpf => ?_) (fun hpf => ?_)
        · refine lv_iconst (v := (0 : Int32)) hx hb dL_sort_156 (by decide) ?_
          exact hC_157 (0 : Int32) x0 x1 x2 x3 x4 x5 x15 x17 x18 t0 L H locs I ls (lv_sub hl [1, 2, 3, 4, 5, 6, 7, 8, 9, 10, 11, 12, 13, 14, 15, 16, 17, 18, 0] rfl) hpf
        refine lv_iload_n hx hb dL_sort_124 rfl (lv_at hl 4 rfl) ?_
        refine lv_iconst (v := (2 : Int32)) hx hb dL_sort_125 (by decide) ?_
        refine b_icmp_ge hx hb 156 126 dL_sort_126 (by decide) hpf (fun hpf => ?_) (fun hpf => ?_)
        · refine lv_iconst (v := (0 : Int32)) hx hb dL_sort_156 (by decide) ?_
          exact hC_157 (0 : Int32) x0 x1 x2 x3 x4 x5 x15 x17 x18 t0 L H locs I ls (lv_sub hl [1, 2, 3, 4, 5, 6, 7, 8, 9, 10, 11, 12, 13, 14, 15, 16, 17, 18, 0] rfl) hpf
        refine lv_iload_n hx hb dL_sort_129 rfl (lv_at hl 1 rfl) ?_
        refine lv_iload_n hx hb dL_sort_130 rfl (lv_at hl 3 rfl) ?_
        refine lv_iload hx hb dL_sort_131 (lv_at hl 18 rfl) ?_
        refine lv_iload_n hx hb dL_sort_133 rfl (lv_at hl 4 rfl) ?_
        refine lv_iload hx hb dL_sort_134 (lv_at hl 5 rfl) ?_
        refine lv_aload hx hb dL_sort_136 (lv_at hl 7 rfl) ?_
        refine lv_aload hx hb dL_sort_138 (lv_at hl 8 rfl) ?_
        refine lv_aload hx hb dL_sort_140 (lv_at hl 9 rfl) ?_
        refine lv_aload hx hb dL_sort_142 (lv_at hl 10 rfl) ?_
        refine lv_aload hx hb dL_sort_144 (lv_at hl 11 rfl) ?_
        refine lv_aload hx hb dL_sort_146 (lv_at hl 12 rfl) ?_
        refine lv_aload hx hb dL_sort_148 (lv_at hl 13 rfl) ?_
        refine l_cAI (rest := []) (As := [.int x0, .int x2, .int x18, .int x3, .int x4, .ref (a 0), .ref (a 2), .ref (a 3), .ref (a 4), .ref (a 5), .ref (a 6), .ref (a 8)]) X I fL_says (c_L_says l hlt N x0 x2 x18 x3 x4) rfl ⟨Nat.le_of_ble_eq_true rfl, Nat.le_of_ble_eq_true rfl⟩ 150 dL_sort_150 rfl hl.1 rfl (Nat.le_of_ble_eq_true rfl) ⟨Nat.le_refl _, Nat.le_refl _⟩ hpf (fun v101 L102 H locs I hpf => ?_)
        refine lv_goto (tgt := 157) hx hb dL_sort_153 (by decide) ?_
        exact hC_157 v101 x0 x1 x2 x3 x4 x5 x15 x17 x18 t0 L102 H locs I ls (lv_sub hl [1, 2, 3, 4, 5, 6, 7, 8, 9, 10, 11, 12, 13, 14, 15, 16, 17, 18, 0] rfl) hpf
      intro x0 x1 x2 x3 x4 x5 x15 x17 x18 L H locs I ls hl hpf
      rw [pL_sort_55] at hpf
      refine lv_iload hx hb dL_sort_55 (lv_at hl 17 rfl) ?_
      refine lv_iload hx hb dL_sort_57 (lv_at hl 16 rfl) ?_
      refine b_icmp_gt hx hb 232 59 dL_sort_59 (by decide) hpf (fun hpf => ?_) (fun hpf => ?_)
      · refine lv_iload hx hb dL_sort_232 (lv_at hl 15 rfl) ?_
        exact l_retiA X I hr 234 dL_sort_234 hpf
      refine lv_iload hx hb dL_sort_62 (lv_at hl 5 rfl) ?_
      refine lv_iconst (v := (1 : Int32)) hx hb dL_sort_64 (by decide) ?_
      refine b_icmp_ne hx hb 112 65 dL_sort_65 (by decide) hpf (fun hpf => ?_) (fun hpf => ?_)
      · refine lv_iconst (v := (1 : Int32)) hx hb dL_sort_112 (by decide) ?_
        refine lv_goto (tgt := 117) hx hb dL_sort_113 (by decide) ?_
        exact hC_117 (1 : Int32) x0 x1 x2 x3 x4 x5 x15 x17 x18 L H locs I ls (lv_sub hl [0, 1, 2, 3, 4, 5, 6, 7, 8, 9, 10, 11, 12, 13, 14, 15, 16, 17] rfl) hpf
      refine lv_aload hx hb dL_sort_68 (lv_at hl 13 rfl) ?_
      refine lv_iconst (v := (3 : Int32)) hx hb dL_sort_70 (by decide) ?_
      refine lv_iload hx hb dL_sort_71 (lv_at hl 17 rfl) ?_
      refine lv_bipush (v := (6 : Int32)) hx hb dL_sort_73 (by decide) ?_
      refine lv_isub hx hb dL_sort_75 ?_
      refine lv_imul hx hb dL_sort_76 ?_
      refine l_iald X I lR_9 77 dL_sort_77 hpf (fun hpf => ?_)
      refine lv_iconst (v := (1 : Int32)) hx hb dL_sort_78 (by decide) ?_
      refine b_icmp_ne hx hb 116 79 dL_sort_79 (by decide) hpf (fun hpf => ?_) (fun hpf => ?_)
      · refine lv_iconst (v := (0 : Int32)) hx hb dL_sort_116 (by decide) ?_
        exact hC_117 (0 : Int32) x0 x1 x2 x3 x4 x5 x15 x17 x18 L H locs I ls (lv_sub hl [0, 1, 2, 3, 4, 5, 6, 7, 8, 9, 10, 11, 12, 13, 14, 15, 16, 17] rfl) hpf
      refine lv_aload hx hb dL_sort_82 (lv_at hl 6 rfl) ?_
      refine lv_iconst (v := (2 : Int32)) hx hb dL_sort_84 (by decide) ?_
      refine l_iald X I lR_0 85 dL_sort_85 hpf (fun hpf => ?_)
      refine b_if_le hx hb 116 86 dL_sort_86 (by decide) hpf (fun hpf => ?_) (fun hpf => ?_)
      · refine lv_iconst (v := (0 : Int32)) hx hb dL_sort_116 (by decide) ?_
        exact hC_117 (0 : Int32) x0 x1 x2 x3 x4 x5 x15 x17 x18 L H locs I ls (lv_sub hl [0, 1, 2, 3, 4, 5, 6, 7, 8, 9, 10, 11, 12, 13, 14, 15, 16, 17] rfl) hpf
      refine lv_aload hx hb dL_sort_89 (lv_at hl 14 rfl) ?_
      refine lv_iconst (v := (3 : Int32)) hx hb dL_sort_91 (by decide) ?_
      refine lv_iload hx hb dL_sort_92 (lv_at hl 17 rfl) ?_
      refine lv_bipush (v := (6 : Int32)) hx hb dL_sort_94 (by decide) ?_
      refine lv_isub hx hb dL_sort_96 ?_
      refine lv_imul hx hb dL_sort_97 ?_
      refine l_lald X I lR_10 98 dL_sort_98 hpf (fun hpf => ?_)
      refine lv_iconst (v := (0 : Int32)) hx hb dL_sort_99 (by decide) ?_
      refine lv_iload_n hx hb dL_sort_100 rfl (lv_at hl 1 rfl) ?_
      refine lv_aload hx hb dL_sort_101 (lv_at hl 6 rfl) ?_
      refine l_cAJ (rest := [.long (aJ L 10 ((3 : Int32) * (x18 - (6 : Int32))).toNatClampNeg)]) (As := [.int (0 : Int32), .int x1, .ref (a 0)]) X I fL_match (c_L_match l hlt N (0 : Int32) x1) rfl ⟨Nat.le_of_ble_eq_true rfl, Nat.le_of_ble_eq_true rfl⟩ 103 dL_sort_103 rfl hl.1 rfl (Nat.le_of_ble_eq_true rfl) ⟨Nat.le_refl _, Nat.le_refl _⟩ hpf (fun v101 L102 H locs I hpf => ?_)
      refine lv_land hx hb dL_sort_106 ?_
      refine lv_lconst (v := (0 : Int64)) hx hb dL_sort_107 (by decide) ?_
      refine W.lcmp hx hb dL_sort_108 ?_
      refine b_if_eq hx hb 116 109 dL_sort_109 (by decide) hpf (fun hpf => ?_) (fun hpf => ?_)
      · refine lv_iconst (v := (0 : Int32)) hx hb dL_sort_116 (by decide) ?_
        exact hC_117 (0 : Int32) x0 x1 x2 x3 x4 x5 x15 x17 x18 L102 H locs I ls (lv_sub hl [0, 1, 2, 3, 4, 5, 6, 7, 8, 9, 10, 11, 12, 13, 14, 15, 16, 17] rfl) hpf
      refine lv_iconst (v := (1 : Int32)) hx hb dL_sort_112 (by decide) ?_
      refine lv_goto (tgt := 117) hx hb dL_sort_113 (by decide) ?_
      exact hC_117 (1 : Int32) x0 x1 x2 x3 x4 x5 x15 x17 x18 L102 H locs I ls (lv_sub hl [0, 1, 2, 3, 4, 5, 6, 7, 8, 9, 10, 11, 12, 13, 14, 15, 16, 17] rfl) hpf
  have hC_49 : ∀ (t0 : Int32) (x0 : Int32) (x1 : Int32) (x2 : Int32) (x3 : Int32) (x4 : Int32) (x5 : Int32) (x15 : Int32) (x16 : Int32) (L : lS) (H : Heap) (locs : List Loc), lV dC dI g a (lFr g a Si Li sz) s Si Si L H locs → ∀ ls : Array Slot, lv_has ls 22 [(0, .int x0), (1, .int x1), (2, .int x2), (3, .int x3), (4, .int x4), (5, .int x5), (6, .ref (a 0)), (7, .ref (a 2)), (8, .ref (a 3)), (9, .ref (a 4)), (10, .ref (a 5)), (11, .ref (a 6)), (12, .ref (a 8)), (13, .ref (a 9)), (14, .ref (a 10)), (15, .int x15), (16, .int x16)] → pL_sort_49 N t0 x0 x1 x2 x3 x4 x5 x15 x16 L = some (r, Lf) → W p l e (lRm 2 56 0 0) s m args below meth c H locs 0 0 (MQ below (lQ dC dI g a sz Si Li (qI r) Si Lf) args s 0 0 (lFr g a Si Li sz)) (F0 m 49 ls [.int t0]) := by
    intro t0 x0 x1 x2 x3 x4 x5 x15 x16 L H locs I ls hl hpf
    unfold pL_sort_49 at hpf
    refine lv_istore (lv' := [(17, .int t0), (0, .int x0), (1, .int x1), (2, .int x2), (3, .int x3), (4, .int x4), (5, .int x5), (6, .ref (a 0)), (7, .ref (a 2)), (8, .ref (a 3)), (9, .ref (a 4)), (10, .ref (a 5)), (11, .ref (a 6)), (12, .ref (a 8)), (13, .ref (a 9)), (14, .ref (a 10)), (15, .int x15), (16, .int x16)]) hx hb dL_sort_49 hl (by decide) rfl (fun ls hl => ?_)
    refine lv_iload hx hb dL_sort_51 (lv_at hl 17 rfl) ?_
    refine lv_istore (lv' := [(18, .int x16), (17, .int t0), (0, .int x0), (1, .int x1), (2, .int x2), (3, .int x3), (4, .int x4), (5, .int x5), (6, .ref (a 0)), (7, .ref (a 2)), (8, .ref (a 3)), (9, .ref (a 4)), (10, .ref (a 5)), (11, .ref (a 6)), (12, .ref (a 8)), (13, .ref (a 9)), (14, .ref (a 10)), (15, .int x15), (16, .int x16)]) hx hb dL_sort_53 hl (by decide) rfl (fun ls hl => ?_)
    exact hC_55 N x0 x1 x2 x3 x4 x5 x15 t0 x16 L H locs I ls (lv_sub hl [2, 3, 4, 5, 6, 7, 8, 9, 10, 11, 12, 13, 14, 15, 16, 17, 1, 0] rfl) hpf
  have hC_25 : ∀ (t0 : Int32) (x0 : Int32) (x1 : Int32) (x2 : Int32) (x3 : Int32) (x4 : Int32) (x5 : Int32) (x15 : Int32) (L : lS) (H : Heap) (locs : List Loc), lV dC dI g a (lFr g a Si Li sz) s Si Si L H locs → ∀ ls : Array Slot, lv_has ls 22 [(0, .int x0), (1, .int x1), (2, .int x2), (3, .int x3), (4, .int x4), (5, .int x5), (6, .ref (a 0)), (7, .ref (a 2)), (8, .ref (a 3)), (9, .ref (a 4)), (10, .ref (a 5)), (11, .ref (a 6)), (12, .ref (a 8)), (13, .ref (a 9)), (14, .ref (a 10)), (15, .int x15)] → pL_sort_25 N t0 x0 x1 x2 x3 x4 x5 x15 L = some (r, Lf) → W p l e (lRm 2 56 0 0) s m args below meth c H locs 0 0 (MQ below (lQ dC dI g a sz Si Li (qI r) Si Lf) args s 0 0 (lFr g a Si Li sz)) (F0 m 25 ls [.int t0]) := by
    intro t0 x0 x1 x2 x3 x4 x5 x15 L H locs I ls hl hpf
    unfold pL_sort_25 at hpf
    refine lv_istore (lv' := [(16, .int t0), (0, .int x0), (1, .int x1), (2, .int x2), (3, .int x3), (4, .int x4), (5, .int x5), (6, .ref (a 0)), (7, .ref (a 2)), (8, .ref (a 3)), (9, .ref (a 4)), (10, .ref (a 5)), (11, .ref (a 6)), (12, .ref (a 8)), (13, .ref (a 9)), (14, .ref (a 10)), (15, .int x15)]) hx hb dL_sort_25 hl (by decide) rfl (fun ls hl => ?_)
    refine lv_iload hx hb dL_sort_27 (lv_at hl 6 rfl) ?_
    refine b_if_ne hx hb 36 29 dL_sort_29 (by decide) hpf (fun hpf => ?_) (fun hpf => ?_)
    · refine lv_iload hx hb dL_sort_36 (lv_at hl 6 rfl) ?_
      refine lv_iconst (v := (1 : Int32)) hx hb dL_sort_38 (by decide) ?_
      refine b_icmp_ne hx hb 47 39 dL_sort_39 (by decide) hpf (fun hpf => ?_) (fun hpf => ?_)
      · refine lv_bipush (v := (18 : Int32)) hx hb dL_sort_47 (by decide) ?_
        exact hC_49 (18 : Int32) x0 x1 x2 x3 x4 x5 x15 t0 L H locs I ls (lv_sub hl [1, 2, 3, 4, 5, 6, 7, 8, 9, 10, 11, 12, 13, 14, 15, 16, 0] rfl) hpf
      refine lv_bipush (v := (17 : Int32)) hx hb dL_sort_42 (by decide) ?_
      refine lv_goto (tgt := 49) hx hb dL_sort_44 (by decide) ?_
      exact hC_49 (17 : Int32) x0 x1 x2 x3 x4 x5 x15 t0 L H locs I ls (lv_sub hl [1, 2, 3, 4, 5, 6, 7, 8, 9, 10, 11, 12, 13, 14, 15, 16, 0] rfl) hpf
    refine lv_iload_n hx hb dL_sort_32 rfl (lv_at hl 2 rfl) ?_
    refine lv_goto (tgt := 49) hx hb dL_sort_33 (by decide) ?_
    exact hC_49 x1 x0 x1 x2 x3 x4 x5 x15 t0 L H locs I ls (lv_sub hl [1, 2, 3, 4, 5, 6, 7, 8, 9, 10, 11, 12, 13, 14, 15, 16, 0] rfl) hpf
  refine lv_iconst (v := (0 : Int32)) hx hb dL_sort_0 (by decide) ?_
  refine lv_istore (lv' := [(15, .int (0 : Int32)), (0, .int x0), (1, .int x1), (2, .int x2), (3, .int x3), (4, .int x4), (5, .int x5), (6, .ref (a 0)), (7, .ref (a 2)), (8, .ref (a 3)), (9, .ref (a 4)), (10, .ref (a 5)), (11, .ref (a 6)), (12, .ref (a 8)), (13, .ref (a 9)), (14, .ref (a 10))]) hx hb dL_sort_1 hl (by decide) rfl (fun ls hl => ?_)
  refine lv_iload hx hb dL_sort_3 (lv_at hl 6 rfl) ?_
  refine b_if_ne hx hb 12 5 dL_sort_5 (by decide) hpf (fun hpf => ?_) (fun hpf => ?_)
  · refine lv_iload hx hb dL_sort_12 (lv_at hl 6 rfl) ?_
    refine lv_iconst (v := (1 : Int32)) hx hb dL_sort_14 (by decide) ?_
    refine b_icmp_ne hx hb 23 15 dL_sort_15 (by decide) hpf (fun hpf => ?_) (fun hpf => ?_)
    · refine lv_bipush (v := (18 : Int32)) hx hb dL_sort_23 (by decide) ?_
      exact hC_25 (18 : Int32) x0 x1 x2 x3 x4 x5 (0 : Int32) Li H locs I ls (lv_sub hl [1, 2, 3, 4, 5, 6, 7, 8, 9, 10, 11, 12, 13, 14, 15, 0] rfl) hpf
    refine lv_bipush (v := (6 : Int32)) hx hb dL_sort_18 (by decide) ?_
    refine lv_goto (tgt := 25) hx hb dL_sort_20 (by decide) ?_
    exact hC_25 (6 : Int32) x0 x1 x2 x3 x4 x5 (0 : Int32) Li H locs I ls (lv_sub hl [1, 2, 3, 4, 5, 6, 7, 8, 9, 10, 11, 12, 13, 14, 15, 0] rfl) hpf
  refine lv_iload_n hx hb dL_sort_8 rfl (lv_at hl 2 rfl) ?_
  refine lv_goto (tgt := 25) hx hb dL_sort_9 (by decide) ?_
  exact hC_25 x1 x0 x1 x2 x3 x4 x5 (0 : Int32) Li H locs I ls (lv_sub hl [1, 2, 3, 4, 5, 6, 7, 8, 9, 10, 11, 12, 13, 14, 15, 0] rfl) hpf
-- ===== the law's may =====
def pL_may_63 (N : Nat) (x16 : Int32) (L : lS) : Option (Int32 × lS) :=
    if x16 = (1 : Int32) then (
      zlA (1 : Int32) L)
    else (
      zlA (0 : Int32) L)
def pL_may_96 (N : Nat) (x3 : Int32) (L : lS) : Option (Int32 × lS) :=
    if x3 = (0 : Int32) then (
      zlA (1 : Int32) L)
    else (
      zlA (0 : Int32) L)
def pL_may_81 (N : Nat) (k_12 : Int32 → Int32 → Int32 → Int32 → Int32 → lS → Option (Int32 × lS)) (x0 : Int32) (x1 : Int32) (x3 : Int32) (x13 : Int32) (x14 : Int32) (L : lS) : Option (Int32 × lS) :=
    lba (pL_place N x13 L) fun v101 L102 =>
    nm (x14 + (1 : Int32)) fun y103 =>
    k_12 x0 x1 x3 v101 y103 L102
def pL_may_20 (N : Nat) (k_63 : Int32 → lS → Option (Int32 × lS)) (k_81 : Int32 → Int32 → Int32 → Int32 → Int32 → lS → Option (Int32 × lS)) : Nat → Int32 → Int32 → Int32 → Int32 → Int32 → Int32 → lS → Option (Int32 × lS)
  | 0 => fun _ _ _ _ _ _ _ => none
  | n_20 + 1 => fun x0 x1 x3 x13 x14 x15 L =>
    if (3 : Int32) ≤ x15 then (
      k_81 x0 x1 x3 x13 x14 L)
    else (
      lba (pL_sort N x0 x1 x13 x14 x3 x15 L) fun v101 L102 =>
      if v101 ≤ (0 : Int32) then (
        nm (x15 + (1 : Int32)) fun y103 =>
        pL_may_20 N k_63 k_81 n_20 x0 x1 x3 x13 x14 y103 L102)
      else (
        k_63 v101 L102))
def pL_may_12 (N : Nat) (k_63 : Int32 → lS → Option (Int32 × lS)) (k_96 : Int32 → lS → Option (Int32 × lS)) : Nat → Int32 → Int32 → Int32 → Int32 → Int32 → lS → Option (Int32 × lS)
  | 0 => fun _ _ _ _ _ _ => none
  | n_12 + 1 => fun x0 x1 x3 x13 x14 L =>
    if x13 < (0 : Int32) then (
      k_96 x3 L)
    else (
      pL_may_20 N k_63 (pL_may_81 N (pL_may_12 N k_63 k_96 n_12)) N x0 x1 x3 x13 x14 (0 : Int32) L)
def pL_may (N : Nat) (x0 : Int32) (x1 : Int32) (x2 : Int32) (x3 : Int32) (L : lS) : Option (Int32 × lS) :=
    if x1 = (0 : Int32) then (
      zlA (1 : Int32) L)
    else (
      pL_may_12 N (pL_may_63 N) (pL_may_96 N) N x0 x1 x3 x2 (0 : Int32) L)
theorem fL_may : lFnS yL_may (.code yL_may cL_may 17 (some .boolean)) 13 122 := ⟨kT_102, kT_103, kT_91, rfl, by decide +kernel⟩
set_option maxRecDepth 100000 in
set_option maxHeartbeats 4000000 in
theorem c_L_may (l : Launch) (hlt : l.stackTraces = false) (N : Nat) (x0 : Int32) (x1 : Int32) (x2 : Int32) (x3 : Int32) : lMet l yL_may (.code yL_may cL_may 17 (some .boolean)) 3 97 0 0 (fun ca a => [.int x0, .int x1, .int x2, .int x3, .ref (a 0), .ref (a 2), .ref (a 3), .ref (a 4), .ref (a 5), .ref (a 6), .ref (a 8), .ref (a 9), .ref (a 10)]) qI (fun S L => lup S (pL_may N x0 x1 x2 x3 L)) := by
  refine l_startA hlt (by decide +kernel) rfl (fun ca a => [(0, .int x0), (1, .int x1), (2, .int x2), (3, .int x3), (4, .ref (a 0)), (5, .ref (a 2)), (6, .ref (a 3)), (7, .ref (a 4)), (8, .ref (a 5)), (9, .ref (a 6)), (10, .ref (a 8)), (11, .ref (a 9)), (12, .ref (a 10))]) (fun _ _ => Nat.le_of_ble_eq_true rfl) (fun _ _ => rfl) ?_
  intro dC dI g a sz Si Li r Lf hpf p e s m args below meth c X hr H locs I ls hl
  have hx := X.1
  have hb := X.2.1
  unfold pL_may at hpf
  have hC_63 : ∀ (x16 : Int32) (L : lS) (H : Heap) (locs : List Loc), lV dC dI g a (lFr g a Si Li sz) s Si Si L H locs → ∀ ls : Array Slot, lv_has ls 17 [(16, .int x16)] → pL_may_63 N x16 L = some (r, Lf) → W p l e (lRm 3 97 0 0) s m args below meth c H locs 0 0 (MQ below (lQ dC dI g a sz Si Li (qI r) Si Lf) args s 0 0 (lFr g a Si Li sz)) (F0 m 63 ls []) := by
    intro x16 L H locs I ls hl hpf
    unfold pL_may_63 at hpf
    refine lv_iload hx hb dL_may_63 (lv_at hl 0 rfl) ?_
    refine lv_iconst (v := (1 : Int32)) hx hb dL_may_65 (by decide) ?_
    refine b_icmp_ne hx hb 73 66 dL_may_66 (by decide) hpf (fun hpf => ?_) (fun hpf => ?_)
    · refine lv_iconst (v := (0 : Int32)) hx hb dL_may_73 (by decide) ?_
      exact l_retzA X I hr 74 dL_may_74 hpf
    refine lv_iconst (v := (1 : Int32)) hx hb dL_may_69 (by decide) ?_
    refine lv_goto (tgt := 74) hx hb dL_may_70 (by decide) ?_
    exact l_retzA X I hr 74 dL_may_74 hpf
  have hC_96 : ∀ (x3 : Int32) (L : lS) (H : Heap) (locs : List Loc), lV dC dI g a (lFr g a Si Li sz) s Si Si L H locs → ∀ ls : Array Slot, lv_has ls 17 [(3, .int x3)] → pL_may_96 N x3 L = some (r, Lf) → W p l e (lRm 3 97 0 0) s m args below meth c H locs 0 0 (MQ below (lQ dC dI g a sz Si Li (qI r) Si Lf) args s 0 0 (lFr g a Si Li sz)) (F0 m 96 ls []) := by
    intro x3 L H locs I ls hl hpf
    unfold pL_may_96 at hpf
    refine lv_iload_n hx hb dL_may_96 rfl (lv_at hl 0 rfl) ?_
    refine b_if_ne hx hb 104 97 dL_may_97 (by decide) hpf (fun hpf => ?_) (fun hpf => ?_)
    · refine lv_iconst (v := (0 : Int32)) hx hb dL_may_104 (by decide) ?_
      exact l_retzA X I hr 105 dL_may_105 hpf
    refine lv_iconst (v := (1 : Int32)) hx hb dL_may_100 (by decide) ?_
    refine lv_goto (tgt := 105) hx hb dL_may_101 (by decide) ?_
    exact l_retzA X I hr 105 dL_may_105 hpf
  have hC_12 : ∀ (n_12 : Nat), ∀ (x0 : Int32) (x1 : Int32) (x3 : Int32) (x13 : Int32) (x14 : Int32) (L : lS) (H : Heap) (locs : List Loc), lV dC dI g a (lFr g a Si Li sz) s Si Si L H locs → ∀ ls : Array Slot, lv_has ls 17 [(0, .int x0), (1, .int x1), (3, .int x3), (4, .ref (a 0)), (5, .ref (a 2)), (6, .ref (a 3)), (7, .ref (a 4)), (8, .ref (a 5)), (9, .ref (a 6)), (10, .ref (a 8)), (11, .ref (a 9)), (12, .ref (a 10)), (13, .int x13), (14, .int x14)] → pL_may_12 N (pL_may_63 N) (pL_may_96 N) n_12 x0 x1 x3 x13 x14 L = some (r, Lf) → W p l e (lRm 3 97 0 0) s m args below meth c H locs 0 0 (MQ below (lQ dC dI g a sz Si Li (qI r) Si Lf) args s 0 0 (lFr g a Si Li sz)) (F0 m 12 ls []) := by
    intro n_12
    induction n_12 with
    | zero =>
      intro x0 x1 x3 x13 x14 L H locs I ls hl hpf
      rw [pL_may_12] at hpf
      cases hpf
    | succ n_12 ih_12 =>
      have hC_81 : ∀ (x0 : Int32) (x1 : Int32) (x3 : Int32) (x13 : Int32) (x14 : Int32) (L : lS) (H : Heap) (locs : List Loc), lV dC dI g a (lFr g a Si Li sz) s Si Si L H locs → ∀ ls : Array Slot, lv_has ls 17 [(0, .int x0), (1, .int x1), (3, .int x3), (4, .ref (a 0)), (5, .ref (a 2)), (6, .ref (a 3)), (7, .ref (a 4)), (8, .ref (a 5)), (9, .ref (a 6)), (10, .ref (a 8)), (11, .ref (a 9)), (12, .ref (a 10)), (13, .int x13), (14, .int x14)] → pL_may_81 N (pL_may_12 N (pL_may_63 N) (pL_may_96 N) n_12) x0 x1 x3 x13 x14 L = some (r, Lf) → W p l e (lRm 3 97 0 0) s m args below meth c H locs 0 0 (MQ below (lQ dC dI g a sz Si Li (qI r) Si Lf) args s 0 0 (lFr g a Si Li sz)) (F0 m 81 ls []) := by
        intro x0 x1 x3 x13 x14 L H locs I ls hl hpf
        unfold pL_may_81 at hpf
        refine lv_iload hx hb dL_may_81 (lv_at hl 12 rfl) ?_
        refine lv_aload hx hb dL_may_83 (lv_at hl 10 rfl) ?_
        refine l_cAI (rest := []) (As := [.int x13, .ref (a 9)]) X I fL_place (c_L_place l hlt N x13) rfl ⟨Nat.le_of_ble_eq_true rfl, Nat.le_of_ble_eq_true rfl⟩ 85 dL_may_85 rfl hl.1 rfl (Nat.le_of_ble_eq_true rfl) ⟨Nat.le_refl _, Nat.le_refl _⟩ hpf (fun v101 L102 H locs I hpf => ?_)
        refine lv_istore (lv' := [(13, .int v101), (0, .int x0), (1, .int x1), (3, .int x3), (4, .ref (a 0)), (5, .ref (a 2)), (6, .ref (a 3)), (7, .ref (a 4)), (8, .ref (a 5)), (9, .ref (a 6)), (10, .ref (a 8)), (11, .ref (a 9)), (12, .ref (a 10)), (14, .int x14)]) hx hb dL_may_88 hl (by decide) rfl (fun ls hl => ?_)
        refine m_iinc (w := (1 : Int32)) hx hb (fun y103 => [(14, .int y103), (13, .int v101), (0, .int x0), (1, .int x1), (3, .int x3), (4, .ref (a 0)), (5, .ref (a 2)), (6, .ref (a 3)), (7, .ref (a 4)), (8, .ref (a 5)), (9, .ref (a 6)), (10, .ref (a 8)), (11, .ref (a 9)), (12, .ref (a 10))]) 90 dL_may_90 hl (k := 13) rfl (by decide) (by decide) (fun _ => rfl) hpf (fun y103 ls hl hpf => ?_)
        refine lv_goto (tgt := 12) hx hb dL_may_93 (by decide) ?_
        exact ih_12 x0 x1 x3 v101 y103 L102 H locs I ls (lv_sub hl [2, 3, 4, 5, 6, 7, 8, 9, 10, 11, 12, 13, 1, 0] rfl) hpf
      have hC_20 : ∀ (n_20 : Nat), ∀ (x0 : Int32) (x1 : Int32) (x3 : Int32) (x13 : Int32) (x14 : Int32) (x15 : Int32) (L : lS) (H : Heap) (locs : List Loc), lV dC dI g a (lFr g a Si Li sz) s Si Si L H locs → ∀ ls : Array Slot, lv_has ls 17 [(0, .int x0), (1, .int x1), (3, .int x3), (4, .ref (a 0)), (5, .ref (a 2)), (6, .ref (a 3)), (7, .ref (a 4)), (8, .ref (a 5)), (9, .ref (a 6)), (10, .ref (a 8)), (11, .ref (a 9)), (12, .ref (a 10)), (13, .int x13), (14, .int x14), (15, .int x15)] → pL_may_20 N (pL_may_63 N) (pL_may_81 N (pL_may_12 N (pL_may_63 N) (pL_may_96 N) n_12)) n_20 x0 x1 x3 x13 x14 x15 L = some (r, Lf) → W p l e (lRm 3 97 0 0) s m args below meth c H locs 0 0 (MQ below (lQ dC dI g a sz Si Li (qI r) Si Lf) args s 0 0 (lFr g a Si Li sz)) (F0 m 20 ls []) := by
        intro n_20
        induction n_20 with
        | zero =>
          intro x0 x1 x3 x13 x14 x15 L H locs I ls hl hpf
          rw [pL_may_20] at hpf
          cases hpf
        | succ n_20 ih_20 =>
          intro x0 x1 x3 x13 x14 x15 L H locs I ls hl hpf
          rw [pL_may_20] at hpf
          refine lv_iload hx hb dL_may_20 (lv_at hl 14 rfl) ?_
          refine lv_iconst (v := (3 : Int32)) hx hb dL_may_22 (by decide) ?_
          refine b_icmp_ge hx hb 81 23 dL_may_23 (by decide) hpf (fun hpf => ?_) (fun hpf => ?_)
          · exact hC_81 x0 x1 x3 x13 x14 L H locs I ls (lv_sub hl [0, 1, 2, 3, 4, 5, 6, 7, 8, 9, 10, 11, 12, 13] rfl) hpf
          refine lv_iload_n hx hb dL_may_26 rfl (lv_at hl 0 rfl) ?_
          refine lv_iload_n hx hb dL_may_27 rfl (lv_at hl 1 rfl) ?_
          refine lv_iload hx hb dL_may_28 (lv_at hl 12 rfl) ?_
          refine lv_iload hx hb dL_may_30 (lv_at hl 13 rfl) ?_
          refine lv_iload_n hx hb dL_may_32 rfl (lv_at hl 2 rfl) ?_
          refine lv_iload hx hb dL_may_33 (lv_at hl 14 rfl) ?_
          refine lv_aload hx hb dL_may_35 (lv_at hl 3 rfl) ?_
          refine lv_aload hx hb dL_may_37 (lv_at hl 4 rfl) ?_
          refine lv_aload hx hb dL_may_39 (lv_at hl 5 rfl) ?_
          refine lv_aload hx hb dL_may_41 (lv_at hl 6 rfl) ?_
          refine lv_aload hx hb dL_may_43 (lv_at hl 7 rfl) ?_
          refine lv_aload hx hb dL_may_45 (lv_at hl 8 rfl) ?_
          refine lv_aload hx hb dL_may_47 (lv_at hl 9 rfl) ?_
          refine lv_aload hx hb dL_may_49 (lv_at hl 10 rfl) ?_
          refine lv_aload hx hb dL_may_51 (lv_at hl 11 rfl) ?_
          refine l_cAI (rest := []) (As := [.int x0, .int x1, .int x13, .int x14, .int x3, .int x15, .ref (a 0), .ref (a 2), .ref (a 3), .ref (a 4), .ref (a 5), .ref (a 6), .ref (a 8), .ref (a 9), .ref (a 10)]) X I fL_sort (c_L_sort l hlt N x0 x1 x13 x14 x3 x15) rfl ⟨Nat.le_of_ble_eq_true rfl, Nat.le_of_ble_eq_true rfl⟩ 53 dL_may_53 rfl hl.1 rfl (Nat.le_of_ble_eq_true rfl) ⟨Nat.le_refl _, Nat.le_refl _⟩ hpf (fun v101 L102 H locs I hpf => ?_)
          refine lv_istore (lv' := [(16, .int v101), (0, .int x0), (1, .int x1), (3, .int x3), (4, .ref (a 0)), (5, .ref (a 2)), (6, .ref (a 3)), (7, .ref (a 4)), (8, .ref (a 5)), (9, .ref (a 6)), (10, .ref (a 8)), (11, .ref (a 9)), (12, .ref (a 10)), (13, .int x13), (14, .int x14), (15, .int x15)]) hx hb dL_may_56 hl (by decide) rfl (fun ls hl => ?_)
          refine lv_iload hx hb dL_may_58 (lv_at hl 0 rfl) ?_
          refine b_if_le hx hb 75 60 dL_may_60 (by decide) hpf (fun hpf => ?_) (fun hpf => ?_)
          · refine m_iinc (w := (1 : Int32)) hx hb (fun y103 => [(15, .int y103), (16, .int v101), (0, .int x0), (1, .int x1), (3, .int x3), (4, .ref (a 0)), (5, .ref (a 2)), (6, .ref (a 3)), (7, .ref (a 4)), (8, .ref (a 5)), (9, .ref (a 6)), (10, .ref (a 8)), (11, .ref (a 9)), (12, .ref (a 10)), (13, .int x13), (14, .int x14)]) 75 dL_may_75 hl (k := 15) rfl (by decide) (by decide) (fun _ => rfl) hpf (fun y103 ls hl hpf => ?_)
            refine lv_goto (tgt := 20) hx hb dL_may_78 (by decide) ?_
            exact ih_20 x0 x1 x3 x13 x14 y103 L102 H locs I ls (lv_sub hl [2, 3, 4, 5, 6, 7, 8, 9, 10, 11, 12, 13, 14, 15, 0] rfl) hpf
          exact hC_63 v101 L102 H locs I ls (lv_sub hl [0] rfl) hpf
      intro x0 x1 x3 x13 x14 L H locs I ls hl hpf
      rw [pL_may_12] at hpf
      refine lv_iload hx hb dL_may_12 (lv_at hl 12 rfl) ?_
      refine b_if_lt hx hb 96 14 dL_may_14 (by decide) hpf (fun hpf => ?_) (fun hpf => ?_)
      · exact hC_96 x3 L H locs I ls (lv_sub hl [2] rfl) hpf
      refine lv_iconst (v := (0 : Int32)) hx hb dL_may_17 (by decide) ?_
      refine lv_istore (lv' := [(15, .int (0 : Int32)), (0, .int x0), (1, .int x1), (3, .int x3), (4, .ref (a 0)), (5, .ref (a 2)), (6, .ref (a 3)), (7, .ref (a 4)), (8, .ref (a 5)), (9, .ref (a 6)), (10, .ref (a 8)), (11, .ref (a 9)), (12, .ref (a 10)), (13, .int x13), (14, .int x14)]) hx hb dL_may_18 hl (by decide) rfl (fun ls hl => ?_)
      exact hC_20 N x0 x1 x3 x13 x14 (0 : Int32) L H locs I ls (lv_sub hl [1, 2, 3, 4, 5, 6, 7, 8, 9, 10, 11, 12, 13, 14, 0] rfl) hpf
  refine lv_iload_n hx hb dL_may_0 rfl (lv_at hl 1 rfl) ?_
  refine b_if_ne hx hb 6 1 dL_may_1 (by decide) hpf (fun hpf => ?_) (fun hpf => ?_)
  · refine lv_iload_n hx hb dL_may_6 rfl (lv_at hl 2 rfl) ?_
    refine lv_istore (lv' := [(13, .int x2), (0, .int x0), (1, .int x1), (2, .int x2), (3, .int x3), (4, .ref (a 0)), (5, .ref (a 2)), (6, .ref (a 3)), (7, .ref (a 4)), (8, .ref (a 5)), (9, .ref (a 6)), (10, .ref (a 8)), (11, .ref (a 9)), (12, .ref (a 10))]) hx hb dL_may_7 hl (by decide) rfl (fun ls hl => ?_)
    refine lv_iconst (v := (0 : Int32)) hx hb dL_may_9 (by decide) ?_
    refine lv_istore (lv' := [(14, .int (0 : Int32)), (13, .int x2), (0, .int x0), (1, .int x1), (2, .int x2), (3, .int x3), (4, .ref (a 0)), (5, .ref (a 2)), (6, .ref (a 3)), (7, .ref (a 4)), (8, .ref (a 5)), (9, .ref (a 6)), (10, .ref (a 8)), (11, .ref (a 9)), (12, .ref (a 10))]) hx hb dL_may_10 hl (by decide) rfl (fun ls hl => ?_)
    exact hC_12 N x0 x1 x3 x2 (0 : Int32) Li H locs I ls (lv_sub hl [2, 3, 5, 6, 7, 8, 9, 10, 11, 12, 13, 14, 1, 0] rfl) hpf
  refine lv_iconst (v := (1 : Int32)) hx hb dL_may_4 (by decide) ?_
  exact l_retzA X I hr 5 dL_may_5 hpf
-- ===== the law's makes =====
def pL_makes_173 (N : Nat) (x0 : Int32) (x1 : Int32) (x2 : Int32) (x3 : Int32) (x4 : Int32) (w5 : Int64) (x16 : Int32) (x17 : Int32) (L : lS) : Option (Unit × lS) :=
    gd x17 41 <| slv (uI L 2 x17.toNatClampNeg x16) fun L101 =>
    gd ((21 : Int32) * x0) 64 <|
    gd x17 41 <| slv (uI L101 3 x17.toNatClampNeg (aI L101 8 ((21 : Int32) * x0).toNatClampNeg)) fun L102 =>
    gd x17 41 <| slv (uI L102 4 x17.toNatClampNeg (((16 : Int32) * x1) + x2)) fun L103 =>
    gd x17 41 <| slv (uI L103 5 x17.toNatClampNeg x3) fun L104 =>
    gd x17 41 <| slv (uI L104 6 x17.toNatClampNeg x4) fun L105 =>
    gd x17 41 <| slv (uJ L105 7 x17.toNatClampNeg w5) fun L106 =>
    gd (1 : Int32) 20 <|
    gd (1 : Int32) 20 <| slv (uI L106 0 (1 : Int32).toNatClampNeg ((aI L106 0 (1 : Int32).toNatClampNeg) + (1 : Int32))) fun L107 =>
    gd ((21 : Int32) * x0) 64 <|
    gd ((21 : Int32) * x0) 64 <| slv (uI L107 8 ((21 : Int32) * x0).toNatClampNeg ((aI L107 8 ((21 : Int32) * x0).toNatClampNeg) + (1 : Int32))) fun L108 =>
    some ((), L108)
def pL_makes_78 (N : Nat) (k_173 : Int32 → Int32 → Int32 → Int32 → Int32 → Int64 → Int32 → Int32 → lS → Option (Unit × lS)) : Nat → Int32 → Int32 → Int32 → Int32 → Int32 → Int64 → Int32 → Int32 → lS → Option (Unit × lS)
  | 0 => fun _ _ _ _ _ _ _ _ _ => none
  | n_78 + 1 => fun x0 x1 x2 x3 x4 w5 x16 x17 L =>
    if x17 ≤ (0 : Int32) then (
      k_173 x0 x1 x2 x3 x4 w5 x16 x17 L)
    else (
      gd (x17 - (1 : Int32)) 41 <|
      if (aI L 2 (x17 - (1 : Int32)).toNatClampNeg) ≤ x16 then (
        k_173 x0 x1 x2 x3 x4 w5 x16 x17 L)
      else (
        gd (x17 - (1 : Int32)) 41 <|
        gd x17 41 <| slv (uI L 2 x17.toNatClampNeg (aI L 2 (x17 - (1 : Int32)).toNatClampNeg)) fun L101 =>
        gd (x17 - (1 : Int32)) 41 <|
        gd x17 41 <| slv (uI L101 3 x17.toNatClampNeg (aI L101 3 (x17 - (1 : Int32)).toNatClampNeg)) fun L102 =>
        gd (x17 - (1 : Int32)) 41 <|
        gd x17 41 <| slv (uI L102 4 x17.toNatClampNeg (aI L102 4 (x17 - (1 : Int32)).toNatClampNeg)) fun L103 =>
        gd (x17 - (1 : Int32)) 41 <|
        gd x17 41 <| slv (uI L103 5 x17.toNatClampNeg (aI L103 5 (x17 - (1 : Int32)).toNatClampNeg)) fun L104 =>
        gd (x17 - (1 : Int32)) 41 <|
        gd x17 41 <| slv (uI L104 6 x17.toNatClampNeg (aI L104 6 (x17 - (1 : Int32)).toNatClampNeg)) fun L105 =>
        gd (x17 - (1 : Int32)) 41 <|
        gd x17 41 <| slv (uJ L105 7 x17.toNatClampNeg (aJ L105 7 (x17 - (1 : Int32)).toNatClampNeg)) fun L106 =>
        nm (x17 + (-1 : Int32)) fun y107 =>
        pL_makes_78 N k_173 n_78 x0 x1 x2 x3 x4 w5 x16 y107 L106))
def pL_makes_62 (N : Nat) (x0 : Int32) (x1 : Int32) (x2 : Int32) (x3 : Int32) (x4 : Int32) (w5 : Int64) (x15 : Int32) (L : lS) : Option (Unit × lS) :=
    nm ((((4 : Int32) * x15) + (4 : Int32)) + x0) fun y101 =>
    gd (1 : Int32) 20 <|
    nm (aI L 0 (1 : Int32).toNatClampNeg) fun y102 =>
    pL_makes_78 N (pL_makes_173 N) N x0 x1 x2 x3 x4 w5 y101 y102 L
def pL_makes_54 (N : Nat) (k_6 : Int32 → Int32 → Int32 → Int32 → Int32 → Int64 → Int32 → Int32 → lS → Option (Unit × lS)) (t0 : Int32) (x0 : Int32) (x1 : Int32) (x2 : Int32) (x3 : Int32) (x4 : Int32) (w5 : Int64) (x16 : Int32) (L : lS) : Option (Unit × lS) :=
    nm (x16 + (1 : Int32)) fun y101 =>
    k_6 x0 x1 x2 x3 x4 w5 t0 y101 L
def pL_makes_6 (N : Nat) (k_62 : Int32 → Int32 → Int32 → Int32 → Int32 → Int64 → Int32 → lS → Option (Unit × lS)) : Nat → Int32 → Int32 → Int32 → Int32 → Int32 → Int64 → Int32 → Int32 → lS → Option (Unit × lS)
  | 0 => fun _ _ _ _ _ _ _ _ _ => none
  | n_6 + 1 => fun x0 x1 x2 x3 x4 w5 x15 x16 L =>
    gd (1 : Int32) 20 <|
    if (aI L 0 (1 : Int32).toNatClampNeg) ≤ x16 then (
      k_62 x0 x1 x2 x3 x4 w5 x15 L)
    else (
      lba (pL_known N x0 x16 L) fun v101 L102 =>
      if v101 = (0 : Int32) then (
        pL_makes_54 N (pL_makes_6 N k_62 n_6) x15 x0 x1 x2 x3 x4 w5 x16 L102)
      else (
        gd x16 41 <|
        if ((aI L102 2 x16.toNatClampNeg) / (4 : Int32)) ≤ x15 then (
          pL_makes_54 N (pL_makes_6 N k_62 n_6) x15 x0 x1 x2 x3 x4 w5 x16 L102)
        else (
          gd x16 41 <|
          pL_makes_54 N (pL_makes_6 N k_62 n_6) ((aI L102 2 x16.toNatClampNeg) / (4 : Int32)) x0 x1 x2 x3 x4 w5 x16 L102)))
def pL_makes (N : Nat) (x0 : Int32) (x1 : Int32) (x2 : Int32) (x3 : Int32) (x4 : Int32) (w5 : Int64) (L : lS) : Option (Unit × lS) :=
    pL_makes_6 N (pL_makes_62 N) N x0 x1 x2 x3 x4 w5 (0 : Int32) (0 : Int32) L
theorem fL_makes : lFnS yL_makes (.code yL_makes cL_makes 18 none) 14 134 := ⟨kT_108, kT_109, kT_94, rfl, by decide +kernel⟩
set_option maxRecDepth 100000 in
set_option maxHeartbeats 4000000 in
theorem c_L_makes (l : Launch) (hlt : l.stackTraces = false) (N : Nat) (x0 : Int32) (x1 : Int32) (x2 : Int32) (x3 : Int32) (x4 : Int32) (w5 : Int64) : lMet l yL_makes (.code yL_makes cL_makes 18 none) 1 24 0 0 (fun ca a => [.int x0, .int x1, .int x2, .int x3, .int x4, .long w5, .ref (a 0), .ref (a 2), .ref (a 3), .ref (a 4), .ref (a 5), .ref (a 6), .ref (a 7), .ref (a 8)]) qU (fun S L => lup S (pL_makes N x0 x1 x2 x3 x4 w5 L)) := by
  refine l_startA hlt (by decide +kernel) rfl (fun ca a => [(0, .int x0), (1, .int x1), (2, .int x2), (3, .int x3), (4, .int x4), (5, .long w5), (7, .ref (a 0)), (8, .ref (a 2)), (9, .ref (a 3)), (10, .ref (a 4)), (11, .ref (a 5)), (12, .ref (a 6)), (13, .ref (a 7)), (14, .ref (a 8))]) (fun _ _ => Nat.le_of_ble_eq_true rfl) (fun _ _ => rfl) ?_
  intro dC dI g a sz Si Li r Lf hpf p e s m args below meth c X hr H locs I ls hl
  have hx := X.1
  have hb := X.2.1
  unfold pL_makes at hpf
  have hC_173 : ∀ (x0 : Int32) (x1 : Int32) (x2 : Int32) (x3 : Int32) (x4 : Int32) (w5 : Int64) (x16 : Int32) (x17 : Int32) (L : lS) (H : Heap) (locs : List Loc), lV dC dI g a (lFr g a Si Li sz) s Si Si L H locs → ∀ ls : Array Slot, lv_has ls 18 [(0, .int x0), (1, .int x1), (2, .int x2), (3, .int x3), (4, .int x4), (5, .long w5), (7, .ref (a 0)), (8, .ref (a 2)), (9, .ref (a 3)), (10, .ref (a 4)), (11, .ref (a 5)), (12, .ref (a 6)), (13, .ref (a 7)), (14, .ref (a 8)), (16, .int x16), (17, .int x17)] → pL_makes_173 N x0 x1 x2 x3 x4 w5 x16 x17 L = some (r, Lf) → W p l e (lRm 1 24 0 0) s m args below meth c H locs 0 0 (MQ below (lQ dC dI g a sz Si Li (qU r) Si Lf) args s 0 0 (lFr g a Si Li sz)) (F0 m 173 ls []) := by
    intro x0 x1 x2 x3 x4 w5 x16 x17 L H locs I ls hl hpf
    unfold pL_makes_173 at hpf
    refine lv_aload hx hb dL_makes_173 (lv_at hl 7 rfl) ?_
    refine lv_iload hx hb dL_makes_175 (lv_at hl 15 rfl) ?_
    refine lv_iload hx hb dL_makes_177 (lv_at hl 14 rfl) ?_
    refine l_iast X I lR_2 179 dL_makes_179 hpf (fun L101 H locs I hpf => ?_)
    refine lv_aload hx hb dL_makes_180 (lv_at hl 8 rfl) ?_
    refine lv_iload hx hb dL_makes_182 (lv_at hl 15 rfl) ?_
    refine lv_aload hx hb dL_makes_184 (lv_at hl 13 rfl) ?_
    refine lv_bipush (v := (21 : Int32)) hx hb dL_makes_186 (by decide) ?_
    refine lv_iload_n hx hb dL_makes_188 rfl (lv_at hl 0 rfl) ?_
    refine lv_imul hx hb dL_makes_189 ?_
    refine l_iald X I lR_8 190 dL_makes_190 hpf (fun hpf => ?_)
    refine l_iast X I lR_3 191 dL_makes_191 hpf (fun L102 H locs I hpf => ?_)
    refine lv_aload hx hb dL_makes_192 (lv_at hl 9 rfl) ?_
    refine lv_iload hx hb dL_makes_194 (lv_at hl 15 rfl) ?_
    refine lv_bipush (v := (16 : Int32)) hx hb dL_makes_196 (by decide) ?_
    refine lv_iload_n hx hb dL_makes_198 rfl (lv_at hl 1 rfl) ?_
    refine lv_imul hx hb dL_makes_199 ?_
    refine lv_iload_n hx hb dL_makes_200 rfl (lv_at hl 2 rfl) ?_
    refine lv_iadd hx hb dL_makes_201 ?_
    refine l_iast X I lR_4 202 dL_makes_202 hpf (fun L103 H locs I hpf => ?_)
    refine lv_aload hx hb dL_makes_203 (lv_at hl 10 rfl) ?_
    refine lv_iload hx hb dL_makes_205 (lv_at hl 15 rfl) ?_
    refine lv_iload_n hx hb dL_makes_207 rfl (lv_at hl 3 rfl) ?_
    refine l_iast X I lR_5 208 dL_makes_208 hpf (fun L104 H locs I hpf => ?_)
    refine lv_aload hx hb dL_makes_209 (lv_at hl 11 rfl) ?_
    refine lv_iload hx hb dL_makes_211 (lv_at hl 15 rfl) ?_
    refine lv_iload hx hb dL_makes_213 (lv_at hl 4 rfl) ?_
    refine l_iast X I lR_6 215 dL_makes_215 hpf (fun L105 H locs I hpf => ?_)
    refine lv_aload hx hb dL_makes_216 (lv_at hl 12 rfl) ?_
    refine lv_iload hx hb dL_makes_218 (lv_at hl 15 rfl) ?_
    refine lv_lload hx hb dL_makes_220 (lv_at hl 5 rfl) ?_
    refine l_last X I lR_7 222 dL_makes_222 hpf (fun L106 H locs I hpf => ?_)
    refine lv_aload hx hb dL_makes_223 (lv_at hl 6 rfl) ?_
    refine lv_iconst (v := (1 : Int32)) hx hb dL_makes_225 (by decide) ?_
    refine lv_dup2_11 hx hb dL_makes_226 rfl rfl ?_
    refine l_iald X I lR_0 227 dL_makes_227 hpf (fun hpf => ?_)
    refine lv_iconst (v := (1 : Int32)) hx hb dL_makes_228 (by decide) ?_
    refine lv_iadd hx hb dL_makes_229 ?_
    refine l_iast X I lR_0 230 dL_makes_230 hpf (fun L107 H locs I hpf => ?_)
    refine lv_aload hx hb dL_makes_231 (lv_at hl 13 rfl) ?_
    refine lv_bipush (v := (21 : Int32)) hx hb dL_makes_233 (by decide) ?_
    refine lv_iload_n hx hb dL_makes_235 rfl (lv_at hl 0 rfl) ?_
    refine lv_imul hx hb dL_makes_236 ?_
    refine lv_dup2_11 hx hb dL_makes_237 rfl rfl ?_
    refine l_iald X I lR_8 238 dL_makes_238 hpf (fun hpf => ?_)
    refine lv_iconst (v := (1 : Int32)) hx hb dL_makes_239 (by decide) ?_
    refine lv_iadd hx hb dL_makes_240 ?_
    refine l_iast X I lR_8 241 dL_makes_241 hpf (fun L108 H locs I hpf => ?_)
    exact l_retvA (v := ()) X I hr 242 dL_makes_242 hpf
  have hC_78 : ∀ (n_78 : Nat), ∀ (x0 : Int32) (x1 : Int32) (x2 : Int32) (x3 : Int32) (x4 : Int32) (w5 : Int64) (x16 : Int32) (x17 : Int32) (L : lS) (H : Heap) (locs : List Loc), lV dC dI g a (lFr g a Si Li sz) s Si Si L H locs → ∀ ls : Array Slot, lv_has ls 18 [(0, .int x0), (1, .int x1), (2, .int x2), (3, .int x3), (4, .int x4), (5, .long w5), (7, .ref (a 0)), (8, .ref (a 2)), (9, .ref (a 3)), (10, .ref (a 4)), (11, .ref (a 5)), (12, .ref (a 6)), (13, .ref (a 7)), (14, .ref (a 8)), (16, .int x16), (17, .int x17)] → pL_makes_78 N (pL_makes_173 N) n_78 x0 x1 x2 x3 x4 w5 x16 x17 L = some (r, Lf) → W p l e (lRm 1 24 0 0) s m args below meth c H locs 0 0 (MQ below (lQ dC dI g a sz Si Li (qU r) Si Lf) args s 0 0 (lFr g a Si Li sz)) (F0 m 78 ls []) := by
    intro n_78
    induction n_78 with
    | zero =>
      intro x0 x1 x2 x3 x4 w5 x16 x17 L H locs I ls hl hpf
      rw [pL_makes_78] at hpf
      cases hpf
    | succ n_78 ih_78 =>
      intro x0 x1 x2 x3 x4 w5 x16 x17 L H locs I ls hl hpf
      rw [pL_makes_78] at hpf
      refine lv_iload hx hb dL_makes_78 (lv_at hl 15 rfl) ?_
      refine b_if_le hx hb 173 80 dL_makes_80 (by decide) hpf (fun hpf => ?_) (fun hpf => ?_)
      · exact hC_173 x0 x1 x2 x3 x4 w5 x16 x17 L H locs I ls (lv_sub hl [0, 1, 2, 3, 4, 5, 6, 7, 8, 9, 10, 11, 12, 13, 14, 15] rfl) hpf
      refine lv_aload hx hb dL_makes_83 (lv_at hl 7 rfl) ?_
      refine lv_iload hx hb dL_makes_85 (lv_at hl 15 rfl) ?_
      refine lv_iconst (v := (1 : Int32)) hx hb dL_makes_87 (by decide) ?_
      refine lv_isub hx hb dL_makes_88 ?_
      refine l_iald X I lR_2 89 dL_makes_89 hpf (fun hpf => ?_)
      refine lv_iload hx hb dL_makes_90 (lv_at hl 14 rfl) ?_
      refine b_icmp_le hx hb 173 92 dL_makes_92 (by decide) hpf (fun hpf => ?_) (fun hpf => ?_)
      · exact hC_173 x0 x1 x2 x3 x4 w5 x16 x17 L H locs I ls (lv_sub hl [0, 1, 2, 3, 4, 5, 6, 7, 8, 9, 10, 11, 12, 13, 14, 15] rfl) hpf
      refine lv_aload hx hb dL_makes_95 (lv_at hl 7 rfl) ?_
      refine lv_iload hx hb dL_makes_97 (lv_at hl 15 rfl) ?_
      refine lv_aload hx hb dL_makes_99 (lv_at hl 7 rfl) ?_
      refine lv_iload hx hb dL_makes_101 (lv_at hl 15 rfl) ?_
      refine lv_iconst (v := (1 : Int32)) hx hb dL_makes_103 (by decide) ?_
      refine lv_isub hx hb dL_makes_104 ?_
      refine l_iald X I lR_2 105 dL_makes_105 hpf (fun hpf => ?_)
      refine l_iast X I lR_2 106 dL_makes_106 hpf (fun L101 H locs I hpf => ?_)
      refine lv_aload hx hb dL_makes_107 (lv_at hl 8 rfl) ?_
      refine lv_iload hx hb dL_makes_109 (lv_at hl 15 rfl) ?_
      refine lv_aload hx hb dL_makes_111 (lv_at hl 8 rfl) ?_
      refine lv_iload hx hb dL_makes_113 (lv_at hl 15 rfl) ?_
      refine lv_iconst (v := (1 : Int32)) hx hb dL_makes_115 (by decide) ?_
      refine lv_isub hx hb dL_makes_116 ?_
      refine l_iald X I lR_3 117 dL_makes_117 hpf (fun hpf => ?_)
      refine l_iast X I lR_3 118 dL_makes_118 hpf (fun L102 H locs I hpf => ?_)
      refine lv_aload hx hb dL_makes_119 (lv_at hl 9 rfl) ?_
      refine lv_iload hx hb dL_makes_121 (lv_at hl 15 rfl) ?_
      refine lv_aload hx hb dL_makes_123 (lv_at hl 9 rfl) ?_
      refine lv_iload hx hb dL_makes_125 (lv_at hl 15 rfl) ?_
      refine lv_iconst (v := (1 : Int32)) hx hb dL_makes_127 (by decide) ?_
      refine lv_isub hx hb dL_makes_128 ?_
      refine l_iald X I lR_4 129 dL_makes_129 hpf (fun hpf => ?_)
      refine l_iast X I lR_4 130 dL_makes_130 hpf (fun L103 H locs I hpf => ?_)
      refine lv_aload hx hb dL_makes_131 (lv_at hl 10 rfl) ?_
      refine lv_iload hx hb dL_makes_133 (lv_at hl 15 rfl) ?_
      refine lv_aload hx hb dL_makes_135 (lv_at hl 10 rfl) ?_
      refine lv_iload hx hb dL_makes_137 (lv_at hl 15 rfl) ?_
      refine lv_iconst (v := (1 : Int32)) hx hb dL_makes_139 (by decide) ?_
      refine lv_isub hx hb dL_makes_140 ?_
      refine l_iald X I lR_5 141 dL_makes_141 hpf (fun hpf => ?_)
      refine l_iast X I lR_5 142 dL_makes_142 hpf (fun L104 H locs I hpf => ?_)
      refine lv_aload hx hb dL_makes_143 (lv_at hl 11 rfl) ?_
      refine lv_iload hx hb dL_makes_145 (lv_at hl 15 rfl) ?_
      refine lv_aload hx hb dL_makes_147 (lv_at hl 11 rfl) ?_
      refine lv_iload hx hb dL_makes_149 (lv_at hl 15 rfl) ?_
      refine lv_iconst (v := (1 : Int32)) hx hb dL_makes_151 (by decide) ?_
      refine lv_isub hx hb dL_makes_152 ?_
      refine l_iald X I lR_6 153 dL_makes_153 hpf (fun hpf => ?_)
      refine l_iast X I lR_6 154 dL_makes_154 hpf (fun L105 H locs I hpf => ?_)
      refine lv_aload hx hb dL_makes_155 (lv_at hl 12 rfl) ?_
      refine lv_iload hx hb dL_makes_157 (lv_at hl 15 rfl) ?_
      refine lv_aload hx hb dL_makes_159 (lv_at hl 12 rfl) ?_
      refine lv_iload hx hb dL_makes_161 (lv_at hl 15 rfl) ?_
      refine lv_iconst (v := (1 : Int32)) hx hb dL_makes_163 (by decide) ?_
      refine lv_isub hx hb dL_makes_164 ?_
      refine l_lald X I lR_7 165 dL_makes_165 hpf (fun hpf => ?_)
      refine l_last X I lR_7 166 dL_makes_166 hpf (fun L106 H locs I hpf => ?_)
      refine m_iinc (w := (-1 : Int32)) hx hb (fun y107 => [(17, .int y107), (0, .int x0), (1, .int x1), (2, .int x2), (3, .int x3), (4, .int x4), (5, .long w5), (7, .ref (a 0)), (8, .ref (a 2)), (9, .ref (a 3)), (10, .ref (a 4)), (11, .ref (a 5)), (12, .ref (a 6)), (13, .ref (a 7)), (14, .ref (a 8)), (16, .int x16)]) 167 dL_makes_167 hl (k := 15) rfl (by decide) (by decide) (fun _ => rfl) hpf (fun y107 ls hl hpf => ?_)
      refine lv_goto (tgt := 78) hx hb dL_makes_170 (by decide) ?_
      exact ih_78 x0 x1 x2 x3 x4 w5 x16 y107 L106 H locs I ls (lv_sub hl [1, 2, 3, 4, 5, 6, 7, 8, 9, 10, 11, 12, 13, 14, 15, 0] rfl) hpf
  have hC_62 : ∀ (x0 : Int32) (x1 : Int32) (x2 : Int32) (x3 : Int32) (x4 : Int32) (w5 : Int64) (x15 : Int32) (L : lS) (H : Heap) (locs : List Loc), lV dC dI g a (lFr g a Si Li sz) s Si Si L H locs → ∀ ls : Array Slot, lv_has ls 18 [(0, .int x0), (1, .int x1), (2, .int x2), (3, .int x3), (4, .int x4), (5, .long w5), (7, .ref (a 0)), (8, .ref (a 2)), (9, .ref (a 3)), (10, .ref (a 4)), (11, .ref (a 5)), (12, .ref (a 6)), (13, .ref (a 7)), (14, .ref (a 8)), (15, .int x15)] → pL_makes_62 N x0 x1 x2 x3 x4 w5 x15 L = some (r, Lf) → W p l e (lRm 1 24 0 0) s m args below meth c H locs 0 0 (MQ below (lQ dC dI g a sz Si Li (qU r) Si Lf) args s 0 0 (lFr g a Si Li sz)) (F0 m 62 ls []) := by
    intro x0 x1 x2 x3 x4 w5 x15 L H locs I ls hl hpf
    unfold pL_makes_62 at hpf
    refine lv_iconst (v := (4 : Int32)) hx hb dL_makes_62 (by decide) ?_
    refine lv_iload hx hb dL_makes_63 (lv_at hl 14 rfl) ?_
    refine lv_imul hx hb dL_makes_65 ?_
    refine lv_iconst (v := (4 : Int32)) hx hb dL_makes_66 (by decide) ?_
    refine lv_iadd hx hb dL_makes_67 ?_
    refine lv_iload_n hx hb dL_makes_68 rfl (lv_at hl 0 rfl) ?_
    refine lv_iadd hx hb dL_makes_69 ?_
    refine m_isto hx hb (fun y101 => [(16, .int y101), (0, .int x0), (1, .int x1), (2, .int x2), (3, .int x3), (4, .int x4), (5, .long w5), (7, .ref (a 0)), (8, .ref (a 2)), (9, .ref (a 3)), (10, .ref (a 4)), (11, .ref (a 5)), (12, .ref (a 6)), (13, .ref (a 7)), (14, .ref (a 8)), (15, .int x15)]) 70 dL_makes_70 hl (by decide) (fun _ => rfl) hpf (fun y101 ls hl hpf => ?_)
    refine lv_aload hx hb dL_makes_72 (lv_at hl 7 rfl) ?_
    refine lv_iconst (v := (1 : Int32)) hx hb dL_makes_74 (by decide) ?_
    refine l_iald X I lR_0 75 dL_makes_75 hpf (fun hpf => ?_)
    refine m_isto hx hb (fun y102 => [(17, .int y102), (16, .int y101), (0, .int x0), (1, .int x1), (2, .int x2), (3, .int x3), (4, .int x4), (5, .long w5), (7, .ref (a 0)), (8, .ref (a 2)), (9, .ref (a 3)), (10, .ref (a 4)), (11, .ref (a 5)), (12, .ref (a 6)), (13, .ref (a 7)), (14, .ref (a 8)), (15, .int x15)]) 76 dL_makes_76 hl (by decide) (fun _ => rfl) hpf (fun y102 ls hl hpf => ?_)
    exact hC_78 N x0 x1 x2 x3 x4 w5 y101 y102 L H locs I ls (lv_sub hl [2, 3, 4, 5, 6, 7, 8, 9, 10, 11, 12, 13, 14, 15, 1, 0] rfl) hpf
  have hC_6 : ∀ (n_6 : Nat), ∀ (x0 : Int32) (x1 : Int32) (x2 : Int32) (x3 : Int32) (x4 : Int32) (w5 : Int64) (x15 : Int32) (x16 : Int32) (L : lS) (H : Heap) (locs : List Loc), lV dC dI g a (lFr g a Si Li sz) s Si Si L H locs → ∀ ls : Array Slot, lv_has ls 18 [(0, .int x0), (1, .int x1), (2, .int x2), (3, .int x3), (4, .int x4), (5, .long w5), (7, .ref (a 0)), (8, .ref (a 2)), (9, .ref (a 3)), (10, .ref (a 4)), (11, .ref (a 5)), (12, .ref (a 6)), (13, .ref (a 7)), (14, .ref (a 8)), (15, .int x15), (16, .int x16)] → pL_makes_6 N (pL_makes_62 N) n_6 x0 x1 x2 x3 x4 w5 x15 x16 L = some (r, Lf) → W p l e (lRm 1 24 0 0) s m args below meth c H locs 0 0 (MQ below (lQ dC dI g a sz Si Li (qU r) Si Lf) args s 0 0 (lFr g a Si Li sz)) (F0 m 6 ls []) := by
    intro n_6
    induction n_6 with
    | zero =>
      intro x0 x1 x2 x3 x4 w5 x15 x16 L H locs I ls hl hpf
      rw [pL_makes_6] at hpf
      cases hpf
    | succ n_6 ih_6 =>
      have hC_54 : ∀ (t0 : Int32) (x0 : Int32) (x1 : Int32) (x2 : Int32) (x3 : Int32) (x4 : Int32) (w5 : Int64) (x16 : Int32) (L : lS) (H : Heap) (locs : List Loc), lV dC dI g a (lFr g a Si Li sz) s Si Si L H locs → ∀ ls : Array Slot, lv_has ls 18 [(0, .int x0), (1, .int x1), (2, .int x2), (3, .int x3), (4, .int x4), (5, .long w5), (7, .ref (a 0)), (8, .ref (a 2)), (9, .ref (a 3)), (10, .ref (a 4)), (11, .ref (a 5)), (12, .ref (a 6)), (13, .ref (a 7)), (14, .ref (a 8)), (16, .int x16)] → pL_makes_54 N (pL_makes_6 N (pL_makes_62 N) n_6) t0 x0 x1 x2 x3 x4 w5 x16 L = some (r, Lf) → W p l e (lRm 1 24 0 0) s m args below meth c H locs 0 0 (MQ below (lQ dC dI g a sz Si Li (qU r) Si Lf) args s 0 0 (lFr g a Si Li sz)) (F0 m 54 ls [.int t0]) := by
        intro t0 x0 x1 x2 x3 x4 w5 x16 L H locs I ls hl hpf
        unfold pL_makes_54 at hpf
        refine lv_istore (lv' := [(15, .int t0), (0, .int x0), (1, .int x1), (2, .int x2), (3, .int x3), (4, .int x4), (5, .long w5), (7, .ref (a 0)), (8, .ref (a 2)), (9, .ref (a 3)), (10, .ref (a 4)), (11, .ref (a 5)), (12, .ref (a 6)), (13, .ref (a 7)), (14, .ref (a 8)), (16, .int x16)]) hx hb dL_makes_54 hl (by decide) rfl (fun ls hl => ?_)
        refine m_iinc (w := (1 : Int32)) hx hb (fun y101 => [(16, .int y101), (15, .int t0), (0, .int x0), (1, .int x1), (2, .int x2), (3, .int x3), (4, .int x4), (5, .long w5), (7, .ref (a 0)), (8, .ref (a 2)), (9, .ref (a 3)), (10, .ref (a 4)), (11, .ref (a 5)), (12, .ref (a 6)), (13, .ref (a 7)), (14, .ref (a 8))]) 56 dL_makes_56 hl (k := 15) rfl (by decide) (by decide) (fun _ => rfl) hpf (fun y101 ls hl hpf => ?_)
        refine lv_goto (tgt := 6) hx hb dL_makes_59 (by decide) ?_
        exact ih_6 x0 x1 x2 x3 x4 w5 t0 y101 L H locs I ls (lv_sub hl [2, 3, 4, 5, 6, 7, 8, 9, 10, 11, 12, 13, 14, 15, 1, 0] rfl) hpf
      intro x0 x1 x2 x3 x4 w5 x15 x16 L H locs I ls hl hpf
      rw [pL_makes_6] at hpf
      refine lv_iload hx hb dL_makes_6 (lv_at hl 15 rfl) ?_
      refine lv_aload hx hb dL_makes_8 (lv_at hl 6 rfl) ?_
      refine lv_iconst (v := (1 : Int32)) hx hb dL_makes_10 (by decide) ?_
      refine l_iald X I lR_0 11 dL_makes_11 hpf (fun hpf => ?_)
      refine b_icmp_ge hx hb 62 12 dL_makes_12 (by decide) hpf (fun hpf => ?_) (fun hpf => ?_)
      · exact hC_62 x0 x1 x2 x3 x4 w5 x15 L H locs I ls (lv_sub hl [0, 1, 2, 3, 4, 5, 6, 7, 8, 9, 10, 11, 12, 13, 14] rfl) hpf
      refine lv_iload_n hx hb dL_makes_15 rfl (lv_at hl 0 rfl) ?_
      refine lv_iload hx hb dL_makes_16 (lv_at hl 15 rfl) ?_
      refine lv_aload hx hb dL_makes_18 (lv_at hl 7 rfl) ?_
      refine lv_aload hx hb dL_makes_20 (lv_at hl 8 rfl) ?_
      refine lv_aload hx hb dL_makes_22 (lv_at hl 13 rfl) ?_
      refine l_cAI (rest := []) (As := [.int x0, .int x16, .ref (a 2), .ref (a 3), .ref (a 8)]) X I fL_known (c_L_known l hlt N x0 x16) rfl ⟨Nat.le_of_ble_eq_true rfl, Nat.le_of_ble_eq_true rfl⟩ 24 dL_makes_24 rfl hl.1 rfl (Nat.le_of_ble_eq_true rfl) ⟨Nat.le_refl _, Nat.le_refl _⟩ hpf (fun v101 L102 H locs I hpf => ?_)
      refine b_if_eq hx hb 52 27 dL_makes_27 (by decide) hpf (fun hpf => ?_) (fun hpf => ?_)
      · refine lv_iload hx hb dL_makes_52 (lv_at hl 14 rfl) ?_
        exact hC_54 x15 x0 x1 x2 x3 x4 w5 x16 L102 H locs I ls (lv_sub hl [0, 1, 2, 3, 4, 5, 6, 7, 8, 9, 10, 11, 12, 13, 15] rfl) hpf
      refine lv_aload hx hb dL_makes_30 (lv_at hl 7 rfl) ?_
      refine lv_iload hx hb dL_makes_32 (lv_at hl 15 rfl) ?_
      refine l_iald X I lR_2 34 dL_makes_34 hpf (fun hpf => ?_)
      refine lv_iconst (v := (4 : Int32)) hx hb dL_makes_35 (by decide) ?_
      refine lv_idiv hx hb dL_makes_36 (by decide) ?_
      refine lv_iload hx hb dL_makes_37 (lv_at hl 14 rfl) ?_
      refine b_icmp_le hx hb 52 39 dL_makes_39 (by decide) hpf (fun hpf => ?_) (fun hpf => ?_)
      · refine lv_iload hx hb dL_makes_52 (lv_at hl 14 rfl) ?_
        exact hC_54 x15 x0 x1 x2 x3 x4 w5 x16 L102 H locs I ls (lv_sub hl [0, 1, 2, 3, 4, 5, 6, 7, 8, 9, 10, 11, 12, 13, 15] rfl) hpf
      refine lv_aload hx hb dL_makes_42 (lv_at hl 7 rfl) ?_
      refine lv_iload hx hb dL_makes_44 (lv_at hl 15 rfl) ?_
      refine l_iald X I lR_2 46 dL_makes_46 hpf (fun hpf => ?_)
      refine lv_iconst (v := (4 : Int32)) hx hb dL_makes_47 (by decide) ?_
      refine lv_idiv hx hb dL_makes_48 (by decide) ?_
      refine lv_goto (tgt := 54) hx hb dL_makes_49 (by decide) ?_
      exact hC_54 ((aI L102 2 x16.toNatClampNeg) / (4 : Int32)) x0 x1 x2 x3 x4 w5 x16 L102 H locs I ls (lv_sub hl [0, 1, 2, 3, 4, 5, 6, 7, 8, 9, 10, 11, 12, 13, 15] rfl) hpf
  refine lv_iconst (v := (0 : Int32)) hx hb dL_makes_0 (by decide) ?_
  refine lv_istore (lv' := [(15, .int (0 : Int32)), (0, .int x0), (1, .int x1), (2, .int x2), (3, .int x3), (4, .int x4), (5, .long w5), (7, .ref (a 0)), (8, .ref (a 2)), (9, .ref (a 3)), (10, .ref (a 4)), (11, .ref (a 5)), (12, .ref (a 6)), (13, .ref (a 7)), (14, .ref (a 8))]) hx hb dL_makes_1 hl (by decide) rfl (fun ls hl => ?_)
  refine lv_iconst (v := (0 : Int32)) hx hb dL_makes_3 (by decide) ?_
  refine lv_istore (lv' := [(16, .int (0 : Int32)), (15, .int (0 : Int32)), (0, .int x0), (1, .int x1), (2, .int x2), (3, .int x3), (4, .int x4), (5, .long w5), (7, .ref (a 0)), (8, .ref (a 2)), (9, .ref (a 3)), (10, .ref (a 4)), (11, .ref (a 5)), (12, .ref (a 6)), (13, .ref (a 7)), (14, .ref (a 8))]) hx hb dL_makes_4 hl (by decide) rfl (fun ls hl => ?_)
  exact hC_6 N x0 x1 x2 x3 x4 w5 (0 : Int32) (0 : Int32) Li H locs I ls (lv_sub hl [2, 3, 4, 5, 6, 7, 8, 9, 10, 11, 12, 13, 14, 15, 1, 0] rfl) hpf
-- ===== the law's drafted =====
def pL_drafted_167 (N : Nat) (x0 : Int32) (x3 : Int32) (x4 : Int32) (L : lS) : Option (Int32 × lS) :=
    if x3 = (0 : Int32) then (
      zlA (0 : Int32) L)
    else (
      lba (pL_requires N x0 L) fun v101 L102 =>
      if (v101 &&& (x4 ^^^ (-1 : Int32))) = (0 : Int32) then (
        zlA (1 : Int32) L102)
      else (
        zlA (0 : Int32) L102))
def pL_drafted_152 (N : Nat) (k_8 : Int32 → Int32 → Int32 → Int32 → lS → Option (Int32 × lS)) (x0 : Int32) (x3 : Int32) (x4 : Int32) (x5 : Int32) (x6 : Int32) (L : lS) : Option (Int32 × lS) :=
    nm (x4 ||| ((1 : Int32) <<< (x6 &&& 31))) fun y101 =>
    nm (x5 + (1 : Int32)) fun y102 =>
    k_8 x0 x3 y101 y102 L
def pL_drafted_145 (N : Nat) (k_56 : Int32 → Int32 → Int32 → Int32 → Int32 → Int32 → lS → Option (Int32 × lS)) (t0 : Int32) (x0 : Int32) (x4 : Int32) (x5 : Int32) (x6 : Int32) (x7 : Int32) (L : lS) : Option (Int32 × lS) :=
    nm (x7 + (1 : Int32)) fun y101 =>
    k_56 x0 t0 x4 x5 x6 y101 L
def pL_drafted_83 (N : Nat) (k_56 : Int32 → Int32 → Int32 → Int32 → Int32 → Int32 → lS → Option (Int32 × lS)) (t0 : Int32) (x0 : Int32) (x3 : Int32) (x4 : Int32) (x5 : Int32) (x6 : Int32) (x7 : Int32) (L : lS) : Option (Int32 × lS) :=
    if x3 = (0 : Int32) then (
      pL_drafted_145 N k_56 (0 : Int32) x0 x4 x5 x6 x7 L)
    else (
      if t0 = (0 : Int32) then (
        pL_drafted_145 N k_56 (1 : Int32) x0 x4 x5 x6 x7 L)
      else (
        gd ((13 : Int32) + x6) 20 <|
        if ((aI L 0 ((13 : Int32) + x6).toNatClampNeg) - (aI L 0 ((13 : Int32) + x6).toNatClampNeg) / (2 : Int32) * (2 : Int32)) = (0 : Int32) then (
          gd ((9 : Int32) + x7) 20 <|
          lba (pL_match N x6 ((aI L 0 ((9 : Int32) + x7).toNatClampNeg) - (aI L 0 ((9 : Int32) + x7).toNatClampNeg) / (100 : Int32) * (100 : Int32)) L) fun v101 L102 =>
          gd ((9 : Int32) + x5) 20 <|
          if (lg_cmp ((v101 >>> (((aI L102 0 ((9 : Int32) + x5).toNatClampNeg) - (aI L102 0 ((9 : Int32) + x5).toNatClampNeg) / (100 : Int32) * (100 : Int32)).toInt64 &&& 63)) &&& (1 : Int64)) (0 : Int64)) = (0 : Int32) then (
            pL_drafted_145 N k_56 (1 : Int32) x0 x4 x5 x6 x7 L102)
          else (
            pL_drafted_145 N k_56 (0 : Int32) x0 x4 x5 x6 x7 L102))
        else (
          pL_drafted_145 N k_56 (0 : Int32) x0 x4 x5 x6 x7 L)))
def pL_drafted_56 (N : Nat) (k_152 : Int32 → Int32 → Int32 → Int32 → Int32 → lS → Option (Int32 × lS)) : Nat → Int32 → Int32 → Int32 → Int32 → Int32 → Int32 → lS → Option (Int32 × lS)
  | 0 => fun _ _ _ _ _ _ _ => none
  | n_56 + 1 => fun x0 x3 x4 x5 x6 x7 L =>
    if x5 ≤ x7 then (
      k_152 x0 x3 x4 x5 x6 L)
    else (
      gd ((9 : Int32) + x7) 20 <|
      if ((aI L 0 ((9 : Int32) + x7).toNatClampNeg) / (100 : Int32)) = x6 then (
        pL_drafted_83 N (pL_drafted_56 N k_152 n_56) (1 : Int32) x0 x3 x4 x5 x6 x7 L)
      else (
        pL_drafted_83 N (pL_drafted_56 N k_152 n_56) (0 : Int32) x0 x3 x4 x5 x6 x7 L))
def pL_drafted_52 (N : Nat) (k_8 : Int32 → Int32 → Int32 → Int32 → lS → Option (Int32 × lS)) (t0 : Int32) (x0 : Int32) (x4 : Int32) (x5 : Int32) (x6 : Int32) (L : lS) : Option (Int32 × lS) :=
    pL_drafted_56 N (pL_drafted_152 N k_8) N x0 t0 x4 x5 x6 (0 : Int32) L
def pL_drafted_8 (N : Nat) (k_167 : Int32 → Int32 → Int32 → lS → Option (Int32 × lS)) : Nat → Int32 → Int32 → Int32 → Int32 → lS → Option (Int32 × lS)
  | 0 => fun _ _ _ _ _ => none
  | n_8 + 1 => fun x0 x3 x4 x5 L =>
    gd (8 : Int32) 20 <|
    if (aI L 0 (8 : Int32).toNatClampNeg) ≤ x5 then (
      k_167 x0 x3 x4 L)
    else (
      gd ((9 : Int32) + x5) 20 <|
      nm ((aI L 0 ((9 : Int32) + x5).toNatClampNeg) / (100 : Int32)) fun y101 =>
      if x3 = (0 : Int32) then (
        pL_drafted_52 N (pL_drafted_8 N k_167 n_8) (0 : Int32) x0 x4 x5 y101 L)
      else (
        lba (pL_allows N x0 L) fun v102 L103 =>
        if ((v102 >>> (y101 &&& 31)) &&& (1 : Int32)) = (1 : Int32) then (
          pL_drafted_52 N (pL_drafted_8 N k_167 n_8) (1 : Int32) x0 x4 x5 y101 L103)
        else (
          pL_drafted_52 N (pL_drafted_8 N k_167 n_8) (0 : Int32) x0 x4 x5 y101 L103)))
def pL_drafted (N : Nat) (x0 : Int32) (L : lS) : Option (Int32 × lS) :=
    pL_drafted_8 N (pL_drafted_167 N) N x0 (1 : Int32) (0 : Int32) (0 : Int32) L
theorem fL_drafted : lFnS yL_drafted (.code yL_drafted cL_drafted 9 (some .boolean)) 3 130 := ⟨kT_106, kT_107, kT_95, rfl, by decide +kernel⟩
set_option maxRecDepth 100000 in
set_option maxHeartbeats 4000000 in
theorem c_L_drafted (l : Launch) (hlt : l.stackTraces = false) (N : Nat) (x0 : Int32) : lMet l yL_drafted (.code yL_drafted cL_drafted 9 (some .boolean)) 1 23 0 0 (fun ca a => [.int x0, .ref (a 0), .ref (a 1)]) qI (fun S L => lup S (pL_drafted N x0 L)) := by
  refine l_startA hlt (by decide +kernel) rfl (fun ca a => [(0, .int x0), (1, .ref (a 0)), (2, .ref (a 1))]) (fun _ _ => Nat.le_of_ble_eq_true rfl) (fun _ _ => rfl) ?_
  intro dC dI g a sz Si Li r Lf hpf p e s m args below meth c X hr H locs I ls hl
  have hx := X.1
  have hb := X.2.1
  unfold pL_drafted at hpf
  have hC_167 : ∀ (x0 : Int32) (x3 : Int32) (x4 : Int32) (L : lS) (H : Heap) (locs : List Loc), lV dC dI g a (lFr g a Si Li sz) s Si Si L H locs → ∀ ls : Array Slot, lv_has ls 9 [(0, .int x0), (2, .ref (a 1)), (3, .int x3), (4, .int x4)] → pL_drafted_167 N x0 x3 x4 L = some (r, Lf) → W p l e (lRm 1 23 0 0) s m args below meth c H locs 0 0 (MQ below (lQ dC dI g a sz Si Li (qI r) Si Lf) args s 0 0 (lFr g a Si Li sz)) (F0 m 167 ls []) := by
    intro x0 x3 x4 L H locs I ls hl hpf
    unfold pL_drafted_167 at hpf
    refine lv_iload_n hx hb dL_drafted_167 rfl (lv_at hl 2 rfl) ?_
    refine b_if_eq hx hb 188 168 dL_drafted_168 (by decide) hpf (fun hpf => ?_) (fun hpf => ?_)
    · refine lv_iconst (v := (0 : Int32)) hx hb dL_drafted_188 (by decide) ?_
      exact l_retzA X I hr 189 dL_drafted_189 hpf
    refine lv_iload_n hx hb dL_drafted_171 rfl (lv_at hl 0 rfl) ?_
    refine lv_aload_n hx hb dL_drafted_172 rfl (lv_at hl 1 rfl) ?_
    refine l_cAI (rest := []) (As := [.int x0, .ref (a 1)]) X I fL_requires (c_L_requires l hlt N x0) rfl ⟨Nat.le_of_ble_eq_true rfl, Nat.le_of_ble_eq_true rfl⟩ 173 dL_drafted_173 rfl hl.1 rfl (Nat.le_of_ble_eq_true rfl) ⟨Nat.le_refl _, Nat.le_refl _⟩ hpf (fun v101 L102 H locs I hpf => ?_)
    refine lv_iload hx hb dL_drafted_176 (lv_at hl 3 rfl) ?_
    refine lv_iconst (v := (-1 : Int32)) hx hb dL_drafted_178 (by decide) ?_
    refine lv_ixor hx hb dL_drafted_179 ?_
    refine lv_iand hx hb dL_drafted_180 ?_
    refine b_if_ne hx hb 188 181 dL_drafted_181 (by decide) hpf (fun hpf => ?_) (fun hpf => ?_)
    · refine lv_iconst (v := (0 : Int32)) hx hb dL_drafted_188 (by decide) ?_
      exact l_retzA X I hr 189 dL_drafted_189 hpf
    refine lv_iconst (v := (1 : Int32)) hx hb dL_drafted_184 (by decide) ?_
    refine lv_goto (tgt := 189) hx hb dL_drafted_185 (by decide) ?_
    exact l_retzA X I hr 189 dL_drafted_189 hpf
  have hC_8 : ∀ (n_8 : Nat), ∀ (x0 : Int32) (x3 : Int32) (x4 : Int32) (x5 : Int32) (L : lS) (H : Heap) (locs : List Loc), lV dC dI g a (lFr g a Si Li sz) s Si Si L H locs → ∀ ls : Array Slot, lv_has ls 9 [(0, .int x0), (1, .ref (a 0)), (2, .ref (a 1)), (3, .int x3), (4, .int x4), (5, .int x5)] → pL_drafted_8 N (pL_drafted_167 N) n_8 x0 x3 x4 x5 L = some (r, Lf) → W p l e (lRm 1 23 0 0) s m args below meth c H locs 0 0 (MQ below (lQ dC dI g a sz Si Li (qI r) Si Lf) args s 0 0 (lFr g a Si Li sz)) (F0 m 8 ls []) := by
    intro n_8
    induction n_8 with
    | zero =>
      intro x0 x3 x4 x5 L H locs I ls hl hpf
      rw [pL_drafted_8] at hpf
      cases hpf
    | succ n_8 ih_8 =>
      have hC_152 : ∀ (x0 : Int32) (x3 : Int32) (x4 : Int32) (x5 : Int32) (x6 : Int32) (L : lS) (H : Heap) (locs : List Loc), lV dC dI g a (lFr g a Si Li sz) s Si Si L H locs → ∀ ls : Array Slot, lv_has ls 9 [(0, .int x0), (1, .ref (a 0)), (2, .ref (a 1)), (3, .int x3), (4, .int x4), (5, .int x5), (6, .int x6)] → pL_drafted_152 N (pL_drafted_8 N (pL_drafted_167 N) n_8) x0 x3 x4 x5 x6 L = some (r, Lf) → W p l e (lRm 1 23 0 0) s m args below meth c H locs 0 0 (MQ below (lQ dC dI g a sz Si Li (qI r) Si Lf) args s 0 0 (lFr g a Si Li sz)) (F0 m 152 ls []) := by
        intro x0 x3 x4 x5 x6 L H locs I ls hl hpf
        unfold pL_drafted_152 at hpf
        refine lv_iload hx hb dL_drafted_152 (lv_at hl 4 rfl) ?_
        refine lv_iconst (v := (1 : Int32)) hx hb dL_drafted_154 (by decide) ?_
        refine lv_iload hx hb dL_drafted_155 (lv_at hl 6 rfl) ?_
        refine lv_ishl hx hb dL_drafted_157 ?_
        refine lv_ior hx hb dL_drafted_158 ?_
        refine m_isto hx hb (fun y101 => [(4, .int y101), (0, .int x0), (1, .ref (a 0)), (2, .ref (a 1)), (3, .int x3), (5, .int x5), (6, .int x6)]) 159 dL_drafted_159 hl (by decide) (fun _ => rfl) hpf (fun y101 ls hl hpf => ?_)
        refine m_iinc (w := (1 : Int32)) hx hb (fun y102 => [(5, .int y102), (4, .int y101), (0, .int x0), (1, .ref (a 0)), (2, .ref (a 1)), (3, .int x3), (6, .int x6)]) 161 dL_drafted_161 hl (k := 5) rfl (by decide) (by decide) (fun _ => rfl) hpf (fun y102 ls hl hpf => ?_)
        refine lv_goto (tgt := 8) hx hb dL_drafted_164 (by decide) ?_
        exact ih_8 x0 x3 y101 y102 L H locs I ls (lv_sub hl [2, 3, 4, 5, 1, 0] rfl) hpf
      have hC_56 : ∀ (n_56 : Nat), ∀ (x0 : Int32) (x3 : Int32) (x4 : Int32) (x5 : Int32) (x6 : Int32) (x7 : Int32) (L : lS) (H : Heap) (locs : List Loc), lV dC dI g a (lFr g a Si Li sz) s Si Si L H locs → ∀ ls : Array Slot, lv_has ls 9 [(0, .int x0), (1, .ref (a 0)), (2, .ref (a 1)), (3, .int x3), (4, .int x4), (5, .int x5), (6, .int x6), (7, .int x7)] → pL_drafted_56 N (pL_drafted_152 N (pL_drafted_8 N (pL_drafted_167 N) n_8)) n_56 x0 x3 x4 x5 x6 x7 L = some (r, Lf) → W p l e (lRm 1 23 0 0) s m args below meth c H locs 0 0 (MQ below (lQ dC dI g a sz Si Li (qI r) Si Lf) args s 0 0 (lFr g a Si Li sz)) (F0 m 56 ls []) := by
        intro n_56
        induction n_56 with
        | zero =>
          intro x0 x3 x4 x5 x6 x7 L H locs I ls hl hpf
          rw [pL_drafted_56] at hpf
          cases hpf
        | succ n_56 ih_56 =>
          have hC_145 : ∀ (t0 : Int32) (x0 : Int32) (x4 : Int32) (x5 : Int32) (x6 : Int32) (x7 : Int32) (L : lS) (H : Heap) (locs : List Loc), lV dC dI g a (lFr g a Si Li sz) s Si Si L H locs → ∀ ls : Array Slot, lv_has ls 9 [(0, .int x0), (1, .ref (a 0)), (2, .ref (a 1)), (4, .int x4), (5, .int x5), (6, .int x6), (7, .int x7)] → pL_drafted_145 N (pL_drafted_56 N (pL_drafted_152 N (pL_drafted_8 N (pL_drafted_167 N) n_8)) n_56) t0 x0 x4 x5 x6 x7 L = some (r, Lf) → W p l e (lRm 1 23 0 0) s m args below meth c H locs 0 0 (MQ below (lQ dC dI g a sz Si Li (qI r) Si Lf) args s 0 0 (lFr g a Si Li sz)) (F0 m 145 ls [.int t0]) := by
            intro t0 x0 x4 x5 x6 x7 L H locs I ls hl hpf
            unfold pL_drafted_145 at hpf
            refine lv_istore_n (lv' := [(3, .int t0), (0, .int x0), (1, .ref (a 0)), (2, .ref (a 1)), (4, .int x4), (5, .int x5), (6, .int x6), (7, .int x7)]) hx hb dL_drafted_145 rfl hl (by decide) rfl (fun ls hl => ?_)
            refine m_iinc (w := (1 : Int32)) hx hb (fun y101 => [(7, .int y101), (3, .int t0), (0, .int x0), (1, .ref (a 0)), (2, .ref (a 1)), (4, .int x4), (5, .int x5), (6, .int x6)]) 146 dL_drafted_146 hl (k := 7) rfl (by decide) (by decide) (fun _ => rfl) hpf (fun y101 ls hl hpf => ?_)
            refine lv_goto (tgt := 56) hx hb dL_drafted_149 (by decide) ?_
            exact ih_56 x0 t0 x4 x5 x6 y101 L H locs I ls (lv_sub hl [2, 3, 4, 1, 5, 6, 7, 0] rfl) hpf
          have hC_83 : ∀ (t0 : Int32) (x0 : Int32) (x3 : Int32) (x4 : Int32) (x5 : Int32) (x6 : Int32) (x7 : Int32) (L : lS) (H : Heap) (locs : List Loc), lV dC dI g a (lFr g a Si Li sz) s Si Si L H locs → ∀ ls : Array Slot, lv_has ls 9 [(0, .int x0), (1, .ref (a 0)), (2, .ref (a 1)), (3, .int x3), (4, .int x4), (5, .int x5), (6, .int x6), (7, .int x7)] → pL_drafted_83 N (pL_drafted_56 N (pL_drafted_152 N (pL_drafted_8 N (pL_drafted_167 N) n_8)) n_56) t0 x0 x3 x4 x5 x6 x7 L = some (r, Lf) → W p l e (lRm 1 23 0 0) s m args below meth c H locs 0 0 (MQ below (lQ dC dI g a sz Si Li (qI r) Si Lf) args s 0 0 (lFr g a Si Li sz)) (F0 m 83 ls [.int t0]) := by
            intro t0 x0 x3 x4 x5 x6 x7 L H locs I ls hl hpf
            unfold pL_drafted_83 at hpf
            refine lv_istore (lv' := [(8, .int t0), (0, .int x0), (1, .ref (a 0)), (2, .ref (a 1)), (3, .int x3), (4, .int x4), (5, .int x5), (6, .int x6), (7, .int x7)]) hx hb dL_drafted_83 hl (by decide) rfl (fun ls hl => ?_)
            refine lv_iload_n hx hb dL_drafted_85 rfl (lv_at hl 4 rfl) ?_
            refine b_if_eq hx hb 144 86 dL_drafted_86 (by decide) hpf (fun hpf => ?_) (fun hpf => ?_)
            · refine lv_iconst (v := (0 : Int32)) hx hb dL_drafted_144 (by decide) ?_
              exact hC_145 (0 : Int32) x0 x4 x5 x6 x7 L H locs I ls (lv_sub hl [1, 2, 3, 5, 6, 7, 8] rfl) hpf
            refine lv_iload hx hb dL_drafted_89 (lv_at hl 0 rfl) ?_
            refine b_if_eq hx hb 140 91 dL_drafted_91 (by decide) hpf (fun hpf => ?_) (fun hpf => ?_)
            · refine lv_iconst (v := (1 : Int32)) hx hb dL_drafted_140 (by decide) ?_
              refine lv_goto (tgt := 145) hx hb dL_drafted_141 (by decide) ?_
              exact hC_145 (1 : Int32) x0 x4 x5 x6 x7 L H locs I ls (lv_sub hl [1, 2, 3, 5, 6, 7, 8] rfl) hpf
            refine lv_aload_n hx hb dL_drafted_94 rfl (lv_at hl 2 rfl) ?_
            refine lv_bipush (v := (13 : Int32)) hx hb dL_drafted_95 (by decide) ?_
            refine lv_iload hx hb dL_drafted_97 (lv_at hl 7 rfl) ?_
            refine lv_iadd hx hb dL_drafted_99 ?_
            refine l_iald X I lR_0 100 dL_drafted_100 hpf (fun hpf => ?_)
            refine lv_iconst (v := (2 : Int32)) hx hb dL_drafted_101 (by decide) ?_
            refine lv_irem hx hb dL_drafted_102 (by decide) ?_
            refine b_if_ne hx hb 144 103 dL_drafted_103 (by decide) hpf (fun hpf => ?_) (fun hpf => ?_)
            · refine lv_iconst (v := (0 : Int32)) hx hb dL_drafted_144 (by decide) ?_
              exact hC_145 (0 : Int32) x0 x4 x5 x6 x7 L H locs I ls (lv_sub hl [1, 2, 3, 5, 6, 7, 8] rfl) hpf
            refine lv_iload hx hb dL_drafted_106 (lv_at hl 7 rfl) ?_
            refine lv_aload_n hx hb dL_drafted_108 rfl (lv_at hl 2 rfl) ?_
            refine lv_bipush (v := (9 : Int32)) hx hb dL_drafted_109 (by decide) ?_
            refine lv_iload hx hb dL_drafted_111 (lv_at hl 8 rfl) ?_
            refine lv_iadd hx hb dL_drafted_113 ?_
            refine l_iald X I lR_0 114 dL_drafted_114 hpf (fun hpf => ?_)
            refine lv_bipush (v := (100 : Int32)) hx hb dL_drafted_115 (by decide) ?_
            refine lv_irem hx hb dL_drafted_117 (by decide) ?_
            refine lv_aload_n hx hb dL_drafted_118 rfl (lv_at hl 2 rfl) ?_
            refine l_cAJ (rest := []) (As := [.int x6, .int ((aI L 0 ((9 : Int32) + x7).toNatClampNeg) - (aI L 0 ((9 : Int32) + x7).toNatClampNeg) / (100 : Int32) * (100 : Int32)), .ref (a 0)]) X I fL_match (c_L_match l hlt N x6 ((aI L 0 ((9 : Int32) + x7).toNatClampNeg) - (aI L 0 ((9 : Int32) + x7).toNatClampNeg) / (100 : Int32) * (100 : Int32))) rfl ⟨Nat.le_of_ble_eq_true rfl, Nat.le_of_ble_eq_true rfl⟩ 119 dL_drafted_119 rfl hl.1 rfl (Nat.le_of_ble_eq_true rfl) ⟨Nat.le_refl _, Nat.le_refl _⟩ hpf (fun v101 L102 H locs I hpf => ?_)
            refine lv_aload_n hx hb dL_drafted_122 rfl (lv_at hl 2 rfl) ?_
            refine lv_bipush (v := (9 : Int32)) hx hb dL_drafted_123 (by decide) ?_
            refine lv_iload hx hb dL_drafted_125 (lv_at hl 6 rfl) ?_
            refine lv_iadd hx hb dL_drafted_127 ?_
            refine l_iald X I lR_0 128 dL_drafted_128 hpf (fun hpf => ?_)
            refine lv_bipush (v := (100 : Int32)) hx hb dL_drafted_129 (by decide) ?_
            refine lv_irem hx hb dL_drafted_131 (by decide) ?_
            refine lv_lshr hx hb dL_drafted_132 rfl ?_
            refine lv_lconst (v := (1 : Int64)) hx hb dL_drafted_133 (by decide) ?_
            refine lv_land hx hb dL_drafted_134 ?_
            refine lv_lconst (v := (0 : Int64)) hx hb dL_drafted_135 (by decide) ?_
            refine W.lcmp hx hb dL_drafted_136 ?_
            refine b_if_ne hx hb 144 137 dL_drafted_137 (by decide) hpf (fun hpf => ?_) (fun hpf => ?_)
            · refine lv_iconst (v := (0 : Int32)) hx hb dL_drafted_144 (by decide) ?_
              exact hC_145 (0 : Int32) x0 x4 x5 x6 x7 L102 H locs I ls (lv_sub hl [1, 2, 3, 5, 6, 7, 8] rfl) hpf
            refine lv_iconst (v := (1 : Int32)) hx hb dL_drafted_140 (by decide) ?_
            refine lv_goto (tgt := 145) hx hb dL_drafted_141 (by decide) ?_
            exact hC_145 (1 : Int32) x0 x4 x5 x6 x7 L102 H locs I ls (lv_sub hl [1, 2, 3, 5, 6, 7, 8] rfl) hpf
          intro x0 x3 x4 x5 x6 x7 L H locs I ls hl hpf
          rw [pL_drafted_56] at hpf
          refine lv_iload hx hb dL_drafted_56 (lv_at hl 7 rfl) ?_
          refine lv_iload hx hb dL_drafted_58 (lv_at hl 5 rfl) ?_
          refine b_icmp_ge hx hb 152 60 dL_drafted_60 (by decide) hpf (fun hpf => ?_) (fun hpf => ?_)
          · exact hC_152 x0 x3 x4 x5 x6 L H locs I ls (lv_sub hl [0, 1, 2, 3, 4, 5, 6] rfl) hpf
          refine lv_aload_n hx hb dL_drafted_63 rfl (lv_at hl 1 rfl) ?_
          refine lv_bipush (v := (9 : Int32)) hx hb dL_drafted_64 (by decide) ?_
          refine lv_iload hx hb dL_drafted_66 (lv_at hl 7 rfl) ?_
          refine lv_iadd hx hb dL_drafted_68 ?_
          refine l_iald X I lR_0 69 dL_drafted_69 hpf (fun hpf => ?_)
          refine lv_bipush (v := (100 : Int32)) hx hb dL_drafted_70 (by decide) ?_
          refine lv_idiv hx hb dL_drafted_72 (by decide) ?_
          refine lv_iload hx hb dL_drafted_73 (lv_at hl 6 rfl) ?_
          refine b_icmp_ne hx hb 82 75 dL_drafted_75 (by decide) hpf (fun hpf => ?_) (fun hpf => ?_)
          · refine lv_iconst (v := (0 : Int32)) hx hb dL_drafted_82 (by decide) ?_
            exact hC_83 (0 : Int32) x0 x3 x4 x5 x6 x7 L H locs I ls (lv_sub hl [0, 1, 2, 3, 4, 5, 6, 7] rfl) hpf
          refine lv_iconst (v := (1 : Int32)) hx hb dL_drafted_78 (by decide) ?_
          refine lv_goto (tgt := 83) hx hb dL_drafted_79 (by decide) ?_
          exact hC_83 (1 : Int32) x0 x3 x4 x5 x6 x7 L H locs I ls (lv_sub hl [0, 1, 2, 3, 4, 5, 6, 7] rfl) hpf
      have hC_52 : ∀ (t0 : Int32) (x0 : Int32) (x4 : Int32) (x5 : Int32) (x6 : Int32) (L : lS) (H : Heap) (locs : List Loc), lV dC dI g a (lFr g a Si Li sz) s Si Si L H locs → ∀ ls : Array Slot, lv_has ls 9 [(0, .int x0), (1, .ref (a 0)), (2, .ref (a 1)), (4, .int x4), (5, .int x5), (6, .int x6)] → pL_drafted_52 N (pL_drafted_8 N (pL_drafted_167 N) n_8) t0 x0 x4 x5 x6 L = some (r, Lf) → W p l e (lRm 1 23 0 0) s m args below meth c H locs 0 0 (MQ below (lQ dC dI g a sz Si Li (qI r) Si Lf) args s 0 0 (lFr g a Si Li sz)) (F0 m 52 ls [.int t0]) := by
        intro t0 x0 x4 x5 x6 L H locs I ls hl hpf
        unfold pL_drafted_52 at hpf
        refine lv_istore_n (lv' := [(3, .int t0), (0, .int x0), (1, .ref (a 0)), (2, .ref (a 1)), (4, .int x4), (5, .int x5), (6, .int x6)]) hx hb dL_drafted_52 rfl hl (by decide) rfl (fun ls hl => ?_)
        refine lv_iconst (v := (0 : Int32)) hx hb dL_drafted_53 (by decide) ?_
        refine lv_istore (lv' := [(7, .int (0 : Int32)), (3, .int t0), (0, .int x0), (1, .ref (a 0)), (2, .ref (a 1)), (4, .int x4), (5, .int x5), (6, .int x6)]) hx hb dL_drafted_54 hl (by decide) rfl (fun ls hl => ?_)
        exact hC_56 N x0 t0 x4 x5 x6 (0 : Int32) L H locs I ls (lv_sub hl [2, 3, 4, 1, 5, 6, 7, 0] rfl) hpf
      intro x0 x3 x4 x5 L H locs I ls hl hpf
      rw [pL_drafted_8] at hpf
      refine lv_iload hx hb dL_drafted_8 (lv_at hl 5 rfl) ?_
      refine lv_aload_n hx hb dL_drafted_10 rfl (lv_at hl 1 rfl) ?_
      refine lv_bipush (v := (8 : Int32)) hx hb dL_drafted_11 (by decide) ?_
      refine l_iald X I lR_0 13 dL_drafted_13 hpf (fun hpf => ?_)
      refine b_icmp_ge hx hb 167 14 dL_drafted_14 (by decide) hpf (fun hpf => ?_) (fun hpf => ?_)
      · exact hC_167 x0 x3 x4 L H locs I ls (lv_sub hl [0, 2, 3, 4] rfl) hpf
      refine lv_aload_n hx hb dL_drafted_17 rfl (lv_at hl 1 rfl) ?_
      refine lv_bipush (v := (9 : Int32)) hx hb dL_drafted_18 (by decide) ?_
      refine lv_iload hx hb dL_drafted_20 (lv_at hl 5 rfl) ?_
      refine lv_iadd hx hb dL_drafted_22 ?_
      refine l_iald X I lR_0 23 dL_drafted_23 hpf (fun hpf => ?_)
      refine lv_bipush (v := (100 : Int32)) hx hb dL_drafted_24 (by decide) ?_
      refine lv_idiv hx hb dL_drafted_26 (by decide) ?_
      refine m_isto hx hb (fun y101 => [(6, .int y101), (0, .int x0), (1, .ref (a 0)), (2, .ref (a 1)), (3, .int x3), (4, .int x4), (5, .int x5)]) 27 dL_drafted_27 hl (by decide) (fun _ => rfl) hpf (fun y101 ls hl hpf => ?_)
      refine lv_iload_n hx hb dL_drafted_29 rfl (lv_at hl 4 rfl) ?_
      refine b_if_eq hx hb 51 30 dL_drafted_30 (by decide) hpf (fun hpf => ?_) (fun hpf => ?_)
      · refine lv_iconst (v := (0 : Int32)) hx hb dL_drafted_51 (by decide) ?_
        exact hC_52 (0 : Int32) x0 x4 x5 y101 L H locs I ls (lv_sub hl [1, 2, 3, 5, 6, 0] rfl) hpf
      refine lv_iload_n hx hb dL_drafted_33 rfl (lv_at hl 1 rfl) ?_
      refine lv_aload_n hx hb dL_drafted_34 rfl (lv_at hl 3 rfl) ?_
      refine l_cAI (rest := []) (As := [.int x0, .ref (a 1)]) X I fL_allows (c_L_allows l hlt N x0) rfl ⟨Nat.le_of_ble_eq_true rfl, Nat.le_of_ble_eq_true rfl⟩ 35 dL_drafted_35 rfl hl.1 rfl (Nat.le_of_ble_eq_true rfl) ⟨Nat.le_refl _, Nat.le_refl _⟩ hpf (fun v102 L103 H locs I hpf => ?_)
      refine lv_iload hx hb dL_drafted_38 (lv_at hl 0 rfl) ?_
      refine lv_ishr hx hb dL_drafted_40 ?_
      refine lv_iconst (v := (1 : Int32)) hx hb dL_drafted_41 (by decide) ?_
      refine lv_iand hx hb dL_drafted_42 ?_
      refine lv_iconst (v := (1 : Int32)) hx hb dL_drafted_43 (by decide) ?_
      refine b_icmp_ne hx hb 51 44 dL_drafted_44 (by decide) hpf (fun hpf => ?_) (fun hpf => ?_)
      · refine lv_iconst (v := (0 : Int32)) hx hb dL_drafted_51 (by decide) ?_
        exact hC_52 (0 : Int32) x0 x4 x5 y101 L103 H locs I ls (lv_sub hl [1, 2, 3, 5, 6, 0] rfl) hpf
      refine lv_iconst (v := (1 : Int32)) hx hb dL_drafted_47 (by decide) ?_
      refine lv_goto (tgt := 52) hx hb dL_drafted_48 (by decide) ?_
      exact hC_52 (1 : Int32) x0 x4 x5 y101 L103 H locs I ls (lv_sub hl [1, 2, 3, 5, 6, 0] rfl) hpf
  refine lv_iconst (v := (1 : Int32)) hx hb dL_drafted_0 (by decide) ?_
  refine lv_istore_n (lv' := [(3, .int (1 : Int32)), (0, .int x0), (1, .ref (a 0)), (2, .ref (a 1))]) hx hb dL_drafted_1 rfl hl (by decide) rfl (fun ls hl => ?_)
  refine lv_iconst (v := (0 : Int32)) hx hb dL_drafted_2 (by decide) ?_
  refine lv_istore (lv' := [(4, .int (0 : Int32)), (3, .int (1 : Int32)), (0, .int x0), (1, .ref (a 0)), (2, .ref (a 1))]) hx hb dL_drafted_3 hl (by decide) rfl (fun ls hl => ?_)
  refine lv_iconst (v := (0 : Int32)) hx hb dL_drafted_5 (by decide) ?_
  refine lv_istore (lv' := [(5, .int (0 : Int32)), (4, .int (0 : Int32)), (3, .int (1 : Int32)), (0, .int x0), (1, .ref (a 0)), (2, .ref (a 1))]) hx hb dL_drafted_6 hl (by decide) rfl (fun ls hl => ?_)
  exact hC_8 N x0 (1 : Int32) (0 : Int32) (0 : Int32) Li H locs I ls (lv_sub hl [3, 4, 5, 2, 1, 0] rfl) hpf
-- ===== the law's gone =====
def pL_gone_79 (N : Nat) (k_6 : Int32 → Int32 → Int32 → Int32 → Int32 → lS → Option (Int32 × lS)) (t0 : Int32) (x0 : Int32) (x1 : Int32) (x2 : Int32) (x9 : Int32) (L : lS) : Option (Int32 × lS) :=
    nm (x9 + (1 : Int32)) fun y101 =>
    k_6 x0 x1 x2 t0 y101 L
def pL_gone_6 (N : Nat) : Nat → Int32 → Int32 → Int32 → Int32 → Int32 → lS → Option (Int32 × lS)
  | 0 => fun _ _ _ _ _ _ => none
  | n_6 + 1 => fun x0 x1 x2 x8 x9 L =>
    gd (1 : Int32) 20 <|
    if (aI L 0 (1 : Int32).toNatClampNeg) ≤ x9 then (
      zlA x8 L)
    else (
      if x8 = (0 : Int32) then (
        gd x9 41 <|
        if (aI L 4 x9.toNatClampNeg) = ((128 : Int32) + x2) then (
          lba (pL_known N x0 x9 L) fun v101 L102 =>
          if v101 = (0 : Int32) then (
            pL_gone_79 N (pL_gone_6 N n_6) (0 : Int32) x0 x1 x2 x9 L102)
          else (
            gd x9 41 <|
            gd x9 41 <|
            gd ((((16 : Int32) * x0) + ((4 : Int32) * x1)) + ((aI L102 2 x9.toNatClampNeg) - (aI L102 2 x9.toNatClampNeg) / (4 : Int32) * (4 : Int32))) 64 <|
            if (aI L102 8 ((((16 : Int32) * x0) + ((4 : Int32) * x1)) + ((aI L102 2 x9.toNatClampNeg) - (aI L102 2 x9.toNatClampNeg) / (4 : Int32) * (4 : Int32))).toNatClampNeg) ≤ (aI L102 3 x9.toNatClampNeg) then (
              pL_gone_79 N (pL_gone_6 N n_6) (0 : Int32) x0 x1 x2 x9 L102)
            else (
              pL_gone_79 N (pL_gone_6 N n_6) (1 : Int32) x0 x1 x2 x9 L102)))
        else (
          pL_gone_79 N (pL_gone_6 N n_6) (0 : Int32) x0 x1 x2 x9 L))
      else (
        pL_gone_79 N (pL_gone_6 N n_6) (1 : Int32) x0 x1 x2 x9 L))
def pL_gone (N : Nat) (x0 : Int32) (x1 : Int32) (x2 : Int32) (L : lS) : Option (Int32 × lS) :=
    pL_gone_6 N N x0 x1 x2 (0 : Int32) (0 : Int32) L
theorem fL_gone : lFnS yL_gone (.code yL_gone cL_gone 10 (some .boolean)) 8 146 := ⟨kT_120, kT_121, kT_118, rfl, by decide +kernel⟩
set_option maxRecDepth 100000 in
set_option maxHeartbeats 4000000 in
theorem c_L_gone (l : Launch) (hlt : l.stackTraces = false) (N : Nat) (x0 : Int32) (x1 : Int32) (x2 : Int32) : lMet l yL_gone (.code yL_gone cL_gone 10 (some .boolean)) 1 24 0 0 (fun ca a => [.int x0, .int x1, .int x2, .ref (a 0), .ref (a 2), .ref (a 3), .ref (a 4), .ref (a 8)]) qI (fun S L => lup S (pL_gone N x0 x1 x2 L)) := by
  refine l_startA hlt (by decide +kernel) rfl (fun ca a => [(0, .int x0), (1, .int x1), (2, .int x2), (3, .ref (a 0)), (4, .ref (a 2)), (5, .ref (a 3)), (6, .ref (a 4)), (7, .ref (a 8))]) (fun _ _ => Nat.le_of_ble_eq_true rfl) (fun _ _ => rfl) ?_
  intro dC dI g a sz Si Li r Lf hpf p e s m args below meth c X hr H locs I ls hl
  have hx := X.1
  have hb := X.2.1
  unfold pL_gone at hpf
  have hC_6 : ∀ (n_6 : Nat), ∀ (x0 : Int32) (x1 : Int32) (x2 : Int32) (x8 : Int32) (x9 : Int32) (L : lS) (H : Heap) (locs : List Loc), lV dC dI g a (lFr g a Si Li sz) s Si Si L H locs → ∀ ls : Array Slot, lv_has ls 10 [(0, .int x0), (1, .int x1), (2, .int x2), (3, .ref (a 0)), (4, .ref (a 2)), (5, .ref (a 3)), (6, .ref (a 4)), (7, .ref (a 8)), (8, .int x8), (9, .int x9)] → pL_gone_6 N n_6 x0 x1 x2 x8 x9 L = some (r, Lf) → W p l e (lRm 1 24 0 0) s m args below meth c H locs 0 0 (MQ below (lQ dC dI g a sz Si Li (qI r) Si Lf) args s 0 0 (lFr g a Si Li sz)) (F0 m 6 ls []) := by
    intro n_6
    induction n_6 with
    | zero =>
      intro x0 x1 x2 x8 x9 L H locs I ls hl hpf
      rw [pL_gone_6] at hpf
      cases hpf
    | succ n_6 ih_6 =>
      have hC_79 : ∀ (t0 : Int32) (x0 : Int32) (x1 : Int32) (x2 : Int32) (x9 : Int32) (L : lS) (H : Heap) (locs : List Loc), lV dC dI g a (lFr g a Si Li sz) s Si Si L H locs → ∀ ls : Array Slot, lv_has ls 10 [(0, .int x0), (1, .int x1), (2, .int x2), (3, .ref (a 0)), (4, .ref (a 2)), (5, .ref (a 3)), (6, .ref (a 4)), (7, .ref (a 8)), (9, .int x9)] → pL_gone_79 N (pL_gone_6 N n_6) t0 x0 x1 x2 x9 L = some (r, Lf) → W p l e (lRm 1 24 0 0) s m args below meth c H locs 0 0 (MQ below (lQ dC dI g a sz Si Li (qI r) Si Lf) args s 0 0 (lFr g a Si Li sz)) (F0 m 79 ls [.int t0]) := by
        intro t0 x0 x1 x2 x9 L H locs I ls hl hpf
        unfold pL_gone_79 at hpf
        refine lv_istore (lv' := [(8, .int t0), (0, .int x0), (1, .int x1), (2, .int x2), (3, .ref (a 0)), (4, .ref (a 2)), (5, .ref (a 3)), (6, .ref (a 4)), (7, .ref (a 8)), (9, .int x9)]) hx hb dL_gone_79 hl (by decide) rfl (fun ls hl => ?_)
        refine m_iinc (w := (1 : Int32)) hx hb (fun y101 => [(9, .int y101), (8, .int t0), (0, .int x0), (1, .int x1), (2, .int x2), (3, .ref (a 0)), (4, .ref (a 2)), (5, .ref (a 3)), (6, .ref (a 4)), (7, .ref (a 8))]) 81 dL_gone_81 hl (k := 9) rfl (by decide) (by decide) (fun _ => rfl) hpf (fun y101 ls hl hpf => ?_)
        refine lv_goto (tgt := 6) hx hb dL_gone_84 (by decide) ?_
        exact ih_6 x0 x1 x2 t0 y101 L H locs I ls (lv_sub hl [2, 3, 4, 5, 6, 7, 8, 9, 1, 0] rfl) hpf
      intro x0 x1 x2 x8 x9 L H locs I ls hl hpf
      rw [pL_gone_6] at hpf
      refine lv_iload hx hb dL_gone_6 (lv_at hl 9 rfl) ?_
      refine lv_aload_n hx hb dL_gone_8 rfl (lv_at hl 3 rfl) ?_
      refine lv_iconst (v := (1 : Int32)) hx hb dL_gone_9 (by decide) ?_
      refine l_iald X I lR_0 10 dL_gone_10 hpf (fun hpf => ?_)
      refine b_icmp_ge hx hb 87 11 dL_gone_11 (by decide) hpf (fun hpf => ?_) (fun hpf => ?_)
      · refine lv_iload hx hb dL_gone_87 (lv_at hl 8 rfl) ?_
        exact l_retzA X I hr 89 dL_gone_89 hpf
      refine lv_iload hx hb dL_gone_14 (lv_at hl 8 rfl) ?_
      refine b_if_ne hx hb 74 16 dL_gone_16 (by decide) hpf (fun hpf => ?_) (fun hpf => ?_)
      · refine lv_iconst (v := (1 : Int32)) hx hb dL_gone_74 (by decide) ?_
        refine lv_goto (tgt := 79) hx hb dL_gone_75 (by decide) ?_
        exact hC_79 (1 : Int32) x0 x1 x2 x9 L H locs I ls (lv_sub hl [0, 1, 2, 3, 4, 5, 6, 7, 9] rfl) hpf
      refine lv_aload hx hb dL_gone_19 (lv_at hl 6 rfl) ?_
      refine lv_iload hx hb dL_gone_21 (lv_at hl 9 rfl) ?_
      refine l_iald X I lR_4 23 dL_gone_23 hpf (fun hpf => ?_)
      refine lv_sipush (v := (128 : Int32)) hx hb dL_gone_24 (by decide) ?_
      refine lv_iload_n hx hb dL_gone_27 rfl (lv_at hl 2 rfl) ?_
      refine lv_iadd hx hb dL_gone_28 ?_
      refine b_icmp_ne hx hb 78 29 dL_gone_29 (by decide) hpf (fun hpf => ?_) (fun hpf => ?_)
      · refine lv_iconst (v := (0 : Int32)) hx hb dL_gone_78 (by decide) ?_
        exact hC_79 (0 : Int32) x0 x1 x2 x9 L H locs I ls (lv_sub hl [0, 1, 2, 3, 4, 5, 6, 7, 9] rfl) hpf
      refine lv_iload_n hx hb dL_gone_32 rfl (lv_at hl 0 rfl) ?_
      refine lv_iload hx hb dL_gone_33 (lv_at hl 9 rfl) ?_
      refine lv_aload hx hb dL_gone_35 (lv_at hl 4 rfl) ?_
      refine lv_aload hx hb dL_gone_37 (lv_at hl 5 rfl) ?_
      refine lv_aload hx hb dL_gone_39 (lv_at hl 7 rfl) ?_
      refine l_cAI (rest := []) (As := [.int x0, .int x9, .ref (a 2), .ref (a 3), .ref (a 8)]) X I fL_known (c_L_known l hlt N x0 x9) rfl ⟨Nat.le_of_ble_eq_true rfl, Nat.le_of_ble_eq_true rfl⟩ 41 dL_gone_41 rfl hl.1 rfl (Nat.le_of_ble_eq_true rfl) ⟨Nat.le_refl _, Nat.le_refl _⟩ hpf (fun v101 L102 H locs I hpf => ?_)
      refine b_if_eq hx hb 78 44 dL_gone_44 (by decide) hpf (fun hpf => ?_) (fun hpf => ?_)
      · refine lv_iconst (v := (0 : Int32)) hx hb dL_gone_78 (by decide) ?_
        exact hC_79 (0 : Int32) x0 x1 x2 x9 L102 H locs I ls (lv_sub hl [0, 1, 2, 3, 4, 5, 6, 7, 9] rfl) hpf
      refine lv_aload hx hb dL_gone_47 (lv_at hl 5 rfl) ?_
      refine lv_iload hx hb dL_gone_49 (lv_at hl 9 rfl) ?_
      refine l_iald X I lR_3 51 dL_gone_51 hpf (fun hpf => ?_)
      refine lv_aload hx hb dL_gone_52 (lv_at hl 7 rfl) ?_
      refine lv_bipush (v := (16 : Int32)) hx hb dL_gone_54 (by decide) ?_
      refine lv_iload_n hx hb dL_gone_56 rfl (lv_at hl 0 rfl) ?_
      refine lv_imul hx hb dL_gone_57 ?_
      refine lv_iconst (v := (4 : Int32)) hx hb dL_gone_58 (by decide) ?_
      refine lv_iload_n hx hb dL_gone_59 rfl (lv_at hl 1 rfl) ?_
      refine lv_imul hx hb dL_gone_60 ?_
      refine lv_iadd hx hb dL_gone_61 ?_
      refine lv_aload hx hb dL_gone_62 (lv_at hl 4 rfl) ?_
      refine lv_iload hx hb dL_gone_64 (lv_at hl 9 rfl) ?_
      refine l_iald X I lR_2 66 dL_gone_66 hpf (fun hpf => ?_)
      refine lv_iconst (v := (4 : Int32)) hx hb dL_gone_67 (by decide) ?_
      refine lv_irem hx hb dL_gone_68 (by decide) ?_
      refine lv_iadd hx hb dL_gone_69 ?_
      refine l_iald X I lR_8 70 dL_gone_70 hpf (fun hpf => ?_)
      refine b_icmp_ge hx hb 78 71 dL_gone_71 (by decide) hpf (fun hpf => ?_) (fun hpf => ?_)
      · refine lv_iconst (v := (0 : Int32)) hx hb dL_gone_78 (by decide) ?_
        exact hC_79 (0 : Int32) x0 x1 x2 x9 L102 H locs I ls (lv_sub hl [0, 1, 2, 3, 4, 5, 6, 7, 9] rfl) hpf
      refine lv_iconst (v := (1 : Int32)) hx hb dL_gone_74 (by decide) ?_
      refine lv_goto (tgt := 79) hx hb dL_gone_75 (by decide) ?_
      exact hC_79 (1 : Int32) x0 x1 x2 x9 L102 H locs I ls (lv_sub hl [0, 1, 2, 3, 4, 5, 6, 7, 9] rfl) hpf
  refine lv_iconst (v := (0 : Int32)) hx hb dL_gone_0 (by decide) ?_
  refine lv_istore (lv' := [(8, .int (0 : Int32)), (0, .int x0), (1, .int x1), (2, .int x2), (3, .ref (a 0)), (4, .ref (a 2)), (5, .ref (a 3)), (6, .ref (a 4)), (7, .ref (a 8))]) hx hb dL_gone_1 hl (by decide) rfl (fun ls hl => ?_)
  refine lv_iconst (v := (0 : Int32)) hx hb dL_gone_3 (by decide) ?_
  refine lv_istore (lv' := [(9, .int (0 : Int32)), (8, .int (0 : Int32)), (0, .int x0), (1, .int x1), (2, .int x2), (3, .ref (a 0)), (4, .ref (a 2)), (5, .ref (a 3)), (6, .ref (a 4)), (7, .ref (a 8))]) hx hb dL_gone_4 hl (by decide) rfl (fun ls hl => ?_)
  exact hC_6 N x0 x1 x2 (0 : Int32) (0 : Int32) Li H locs I ls (lv_sub hl [2, 3, 4, 5, 6, 7, 8, 9, 1, 0] rfl) hpf
-- ===== the law's marks =====
def pL_marks_52 (N : Nat) (k_6 : Int32 → Int32 → Int32 → lS → Option (Int32 × lS)) (t0 : Int32) (t1 : Int32) (x0 : Int32) (x7 : Int32) (L : lS) : Option (Int32 × lS) :=
    nm (t1 + t0) fun y101 =>
    nm (x7 + (1 : Int32)) fun y102 =>
    k_6 x0 y101 y102 L
def pL_marks_6 (N : Nat) : Nat → Int32 → Int32 → Int32 → lS → Option (Int32 × lS)
  | 0 => fun _ _ _ _ => none
  | n_6 + 1 => fun x0 x6 x7 L =>
    gd (0 : Int32) 20 <|
    if (aI L 0 (0 : Int32).toNatClampNeg) ≤ x7 then (
      some (x6, L))
    else (
      lba (pL_gone N x0 x0 x7 L) fun v101 L102 =>
      if v101 = (0 : Int32) then (
        pL_marks_52 N (pL_marks_6 N n_6) (0 : Int32) x6 x0 x7 L102)
      else (
        gd ((16 : Int32) + x0) 20 <|
        if (((aI L102 0 ((16 : Int32) + x0).toNatClampNeg) >>> (x7 &&& 31)) &&& (1 : Int32)) = (0 : Int32) then (
          pL_marks_52 N (pL_marks_6 N n_6) (1 : Int32) x6 x0 x7 L102)
        else (
          pL_marks_52 N (pL_marks_6 N n_6) (0 : Int32) x6 x0 x7 L102)))
def pL_marks (N : Nat) (x0 : Int32) (L : lS) : Option (Int32 × lS) :=
    pL_marks_6 N N x0 (0 : Int32) (1 : Int32) L
theorem fL_marks : lFnS yL_marks (.code yL_marks cL_marks 8 (some .int)) 6 150 := ⟨kT_122, kT_123, kT_119, rfl, by decide +kernel⟩
set_option maxRecDepth 100000 in
set_option maxHeartbeats 4000000 in
theorem c_L_marks (l : Launch) (hlt : l.stackTraces = false) (N : Nat) (x0 : Int32) : lMet l yL_marks (.code yL_marks cL_marks 8 (some .int)) 2 53 0 0 (fun ca a => [.int x0, .ref (a 0), .ref (a 2), .ref (a 3), .ref (a 4), .ref (a 8)]) qI (fun S L => lup S (pL_marks N x0 L)) := by
  refine l_startA hlt (by decide +kernel) rfl (fun ca a => [(0, .int x0), (1, .ref (a 0)), (2, .ref (a 2)), (3, .ref (a 3)), (4, .ref (a 4)), (5, .ref (a 8))]) (fun _ _ => Nat.le_of_ble_eq_true rfl) (fun _ _ => rfl) ?_
  intro dC dI g a sz Si Li r Lf hpf p e s m args below meth c X hr H locs I ls hl
  have hx := X.1
  have hb := X.2.1
  unfold pL_marks at hpf
  have hC_6 : ∀ (n_6 : Nat), ∀ (x0 : Int32) (x6 : Int32) (x7 : Int32) (L : lS) (H : Heap) (locs : List Loc), lV dC dI g a (lFr g a Si Li sz) s Si Si L H locs → ∀ ls : Array Slot, lv_has ls 8 [(0, .int x0), (1, .ref (a 0)), (2, .ref (a 2)), (3, .ref (a 3)), (4, .ref (a 4)), (5, .ref (a 8)), (6, .int x6), (7, .int x7)] → pL_marks_6 N n_6 x0 x6 x7 L = some (r, Lf) → W p l e (lRm 2 53 0 0) s m args below meth c H locs 0 0 (MQ below (lQ dC dI g a sz Si Li (qI r) Si Lf) args s 0 0 (lFr g a Si Li sz)) (F0 m 6 ls []) := by
    intro n_6
    induction n_6 with
    | zero =>
      intro x0 x6 x7 L H locs I ls hl hpf
      rw [pL_marks_6] at hpf
      cases hpf
    | succ n_6 ih_6 =>
      have hC_52 : ∀ (t0 : Int32) (t1 : Int32) (x0 : Int32) (x7 : Int32) (L : lS) (H : Heap) (locs : List Loc), lV dC dI g a (lFr g a Si Li sz) s Si Si L H locs → ∀ ls : Array Slot, lv_has ls 8 [(0, .int x0), (1, .ref (a 0)), (2, .ref (a 2)), (3, .ref (a 3)), (4, .ref (a 4)), (5, .ref (a 8)), (7, .int x7)] → pL_marks_52 N (pL_marks_6 N n_6) t0 t1 x0 x7 L = some (r, Lf) → W p l e (lRm 2 53 0 0) s m args below meth c H locs 0 0 (MQ below (lQ dC dI g a sz Si Li (qI r) Si Lf) args s 0 0 (lFr g a Si Li sz)) (F0 m 52 ls [.int t0, .int t1]) := by
        intro t0 t1 x0 x7 L H locs I ls hl hpf
        unfold pL_marks_52 at hpf
        refine lv_iadd hx hb dL_marks_52 ?_
        refine m_isto hx hb (fun y101 => [(6, .int y101), (0, .int x0), (1, .ref (a 0)), (2, .ref (a 2)), (3, .ref (a 3)), (4, .ref (a 4)), (5, .ref (a 8)), (7, .int x7)]) 53 dL_marks_53 hl (by decide) (fun _ => rfl) hpf (fun y101 ls hl hpf => ?_)
        refine m_iinc (w := (1 : Int32)) hx hb (fun y102 => [(7, .int y102), (6, .int y101), (0, .int x0), (1, .ref (a 0)), (2, .ref (a 2)), (3, .ref (a 3)), (4, .ref (a 4)), (5, .ref (a 8))]) 55 dL_marks_55 hl (k := 7) rfl (by decide) (by decide) (fun _ => rfl) hpf (fun y102 ls hl hpf => ?_)
        refine lv_goto (tgt := 6) hx hb dL_marks_58 (by decide) ?_
        exact ih_6 x0 y101 y102 L H locs I ls (lv_sub hl [2, 3, 4, 5, 6, 7, 1, 0] rfl) hpf
      intro x0 x6 x7 L H locs I ls hl hpf
      rw [pL_marks_6] at hpf
      refine lv_iload hx hb dL_marks_6 (lv_at hl 7 rfl) ?_
      refine lv_aload_n hx hb dL_marks_8 rfl (lv_at hl 1 rfl) ?_
      refine lv_iconst (v := (0 : Int32)) hx hb dL_marks_9 (by decide) ?_
      refine l_iald X I lR_0 10 dL_marks_10 hpf (fun hpf => ?_)
      refine b_icmp_ge hx hb 61 11 dL_marks_11 (by decide) hpf (fun hpf => ?_) (fun hpf => ?_)
      · refine lv_iload hx hb dL_marks_61 (lv_at hl 6 rfl) ?_
        exact l_retiA X I hr 63 dL_marks_63 hpf
      refine lv_iload hx hb dL_marks_14 (lv_at hl 6 rfl) ?_
      refine lv_iload_n hx hb dL_marks_16 rfl (lv_at hl 0 rfl) ?_
      refine lv_iload_n hx hb dL_marks_17 rfl (lv_at hl 0 rfl) ?_
      refine lv_iload hx hb dL_marks_18 (lv_at hl 7 rfl) ?_
      refine lv_aload_n hx hb dL_marks_20 rfl (lv_at hl 1 rfl) ?_
      refine lv_aload_n hx hb dL_marks_21 rfl (lv_at hl 2 rfl) ?_
      refine lv_aload_n hx hb dL_marks_22 rfl (lv_at hl 3 rfl) ?_
      refine lv_aload hx hb dL_marks_23 (lv_at hl 4 rfl) ?_
      refine lv_aload hx hb dL_marks_25 (lv_at hl 5 rfl) ?_
      refine l_cAI (rest := [.int x6]) (As := [.int x0, .int x0, .int x7, .ref (a 0), .ref (a 2), .ref (a 3), .ref (a 4), .ref (a 8)]) X I fL_gone (c_L_gone l hlt N x0 x0 x7) rfl ⟨Nat.le_of_ble_eq_true rfl, Nat.le_of_ble_eq_true rfl⟩ 27 dL_marks_27 rfl hl.1 rfl (Nat.le_of_ble_eq_true rfl) ⟨Nat.le_refl _, Nat.le_refl _⟩ hpf (fun v101 L102 H locs I hpf => ?_)
      refine b_if_eq hx hb 51 30 dL_marks_30 (by decide) hpf (fun hpf => ?_) (fun hpf => ?_)
      · refine lv_iconst (v := (0 : Int32)) hx hb dL_marks_51 (by decide) ?_
        exact hC_52 (0 : Int32) x6 x0 x7 L102 H locs I ls (lv_sub hl [0, 1, 2, 3, 4, 5, 7] rfl) hpf
      refine lv_aload_n hx hb dL_marks_33 rfl (lv_at hl 1 rfl) ?_
      refine lv_bipush (v := (16 : Int32)) hx hb dL_marks_34 (by decide) ?_
      refine lv_iload_n hx hb dL_marks_36 rfl (lv_at hl 0 rfl) ?_
      refine lv_iadd hx hb dL_marks_37 ?_
      refine l_iald X I lR_0 38 dL_marks_38 hpf (fun hpf => ?_)
      refine lv_iload hx hb dL_marks_39 (lv_at hl 7 rfl) ?_
      refine lv_ishr hx hb dL_marks_41 ?_
      refine lv_iconst (v := (1 : Int32)) hx hb dL_marks_42 (by decide) ?_
      refine lv_iand hx hb dL_marks_43 ?_
      refine b_if_ne hx hb 51 44 dL_marks_44 (by decide) hpf (fun hpf => ?_) (fun hpf => ?_)
      · refine lv_iconst (v := (0 : Int32)) hx hb dL_marks_51 (by decide) ?_
        exact hC_52 (0 : Int32) x6 x0 x7 L102 H locs I ls (lv_sub hl [0, 1, 2, 3, 4, 5, 7] rfl) hpf
      refine lv_iconst (v := (1 : Int32)) hx hb dL_marks_47 (by decide) ?_
      refine lv_goto (tgt := 52) hx hb dL_marks_48 (by decide) ?_
      exact hC_52 (1 : Int32) x6 x0 x7 L102 H locs I ls (lv_sub hl [0, 1, 2, 3, 4, 5, 7] rfl) hpf
  refine lv_iconst (v := (0 : Int32)) hx hb dL_marks_0 (by decide) ?_
  refine lv_istore (lv' := [(6, .int (0 : Int32)), (0, .int x0), (1, .ref (a 0)), (2, .ref (a 2)), (3, .ref (a 3)), (4, .ref (a 4)), (5, .ref (a 8))]) hx hb dL_marks_1 hl (by decide) rfl (fun ls hl => ?_)
  refine lv_iconst (v := (1 : Int32)) hx hb dL_marks_3 (by decide) ?_
  refine lv_istore (lv' := [(7, .int (1 : Int32)), (6, .int (0 : Int32)), (0, .int x0), (1, .ref (a 0)), (2, .ref (a 2)), (3, .ref (a 3)), (4, .ref (a 4)), (5, .ref (a 8))]) hx hb dL_marks_4 hl (by decide) rfl (fun ls hl => ?_)
  exact hC_6 N x0 (0 : Int32) (1 : Int32) Li H locs I ls (lv_sub hl [2, 3, 4, 5, 6, 7, 1, 0] rfl) hpf
-- ===== the law's fits =====
def pL_fits_119 (N : Nat) (t0 : Int32) (x0 : Int32) (w9 : Int64) (x12 : Int32) (x13 : Int32) (L : lS) : Option (Int32 × lS) :=
    if x0 = (0 : Int32) then (
      zlA x12 L)
    else (
      if x0 = (1 : Int32) then (
        zlA x13 L)
      else (
        if x0 = (2 : Int32) then (
          if (lg_cmp w9 (0 : Int64)) = (0 : Int32) then (
            zlA (0 : Int32) L)
          else (
            zlA (1 : Int32) L))
        else (
          if x0 = (3 : Int32) then (
            zlA t0 L)
          else (
            if x0 = (4 : Int32) then (
              if x12 = (0 : Int32) then (
                zlA (1 : Int32) L)
              else (
                zlA (0 : Int32) L))
            else (
              if x0 = (5 : Int32) then (
                if (lg_cmp w9 (0 : Int64)) = (0 : Int32) then (
                  zlA (0 : Int32) L)
                else (
                  if t0 = (0 : Int32) then (
                    zlA (0 : Int32) L)
                  else (
                    zlA (1 : Int32) L)))
              else (
                if x12 = (0 : Int32) then (
                  if (lg_cmp w9 (0 : Int64)) = (0 : Int32) then (
                    zlA (1 : Int32) L)
                  else (
                    zlA (0 : Int32) L))
                else (
                  zlA (1 : Int32) L)))))))
def pL_fits_108 (N : Nat) (x0 : Int32) (x3 : Int32) (w9 : Int64) (x12 : Int32) (x13 : Int32) (x14 : Int32) (L : lS) : Option (Int32 × lS) :=
    if x14 = x3 then (
      pL_fits_119 N (1 : Int32) x0 w9 x12 x13 L)
    else (
      pL_fits_119 N (0 : Int32) x0 w9 x12 x13 L)
def pL_fits_85 (N : Nat) (k_108 : Int32 → Int32 → Int64 → Int32 → Int32 → Int32 → lS → Option (Int32 × lS)) : Nat → Int32 → Int32 → Int64 → Int32 → Int32 → Int32 → lS → Option (Int32 × lS)
  | 0 => fun _ _ _ _ _ _ _ => none
  | n_85 + 1 => fun x0 x3 w9 x12 x13 x14 L =>
    if x14 < (0 : Int32) then (
      k_108 x0 x3 w9 x12 x13 x14 L)
    else (
      if x14 = x3 then (
        k_108 x0 x3 w9 x12 x13 x14 L)
      else (
        gd ((3 : Int32) * x14) 9 <|
        nm (aI L 1 ((3 : Int32) * x14).toNatClampNeg) fun y101 =>
        pL_fits_85 N k_108 n_85 x0 x3 w9 x12 x13 y101 L))
def pL_fits_72 (N : Nat) (t0 : Int32) (x0 : Int32) (x3 : Int32) (x4 : Int32) (w9 : Int64) (x12 : Int32) (L : lS) : Option (Int32 × lS) :=
    gd (((3 : Int32) * x4) + (1 : Int32)) 36 <|
    nm (aI L 9 (((3 : Int32) * x4) + (1 : Int32)).toNatClampNeg) fun y101 =>
    pL_fits_85 N (pL_fits_108 N) N x0 x3 w9 x12 t0 y101 L
def pL_fits_55 (N : Nat) (t0 : Int32) (x0 : Int32) (x3 : Int32) (x4 : Int32) (w9 : Int64) (x11 : Int32) (L : lS) : Option (Int32 × lS) :=
    if (lg_cmp (w9 >>> (x11.toInt64 &&& 63)) (0 : Int64)) = (0 : Int32) then (
      pL_fits_72 N (0 : Int32) x0 x3 x4 w9 t0 L)
    else (
      pL_fits_72 N (1 : Int32) x0 x3 x4 w9 t0 L)
def pL_fits_33 (N : Nat) (t0 : Int32) (x0 : Int32) (x1 : Int32) (x2 : Int32) (x3 : Int32) (x4 : Int32) (w9 : Int64) (L : lS) : Option (Int32 × lS) :=
    lba (pL_match N x1 x2 L) fun v101 L102 =>
    if (lg_cmp (w9 &&& v101) (0 : Int64)) = (0 : Int32) then (
      pL_fits_55 N (0 : Int32) x0 x3 x4 w9 t0 L102)
    else (
      pL_fits_55 N (1 : Int32) x0 x3 x4 w9 t0 L102)
def pL_fits (N : Nat) (x0 : Int32) (x1 : Int32) (x2 : Int32) (x3 : Int32) (x4 : Int32) (L : lS) : Option (Int32 × lS) :=
    gd (((3 : Int32) * x4) + x1) 36 <|
    nml (aJ L 10 (((3 : Int32) * x4) + x1).toNatClampNeg) fun y101 =>
    gd ((13 : Int32) + x1) 20 <|
    if (aI L 0 ((13 : Int32) + x1).toNatClampNeg) ≤ (1 : Int32) then (
      pL_fits_33 N x2 x0 x1 x2 x3 x4 y101 L)
    else (
      pL_fits_33 N ((x2 / (10 : Int32)) * (10 : Int32)) x0 x1 x2 x3 x4 y101 L)
theorem fL_fits : lFnS yL_fits (.code yL_fits cL_fits 16 (some .boolean)) 9 193 := ⟨kT_164, kT_165, kT_139, rfl, by decide +kernel⟩
set_option maxRecDepth 100000 in
set_option maxHeartbeats 4000000 in
theorem c_L_fits (l : Launch) (hlt : l.stackTraces = false) (N : Nat) (x0 : Int32) (x1 : Int32) (x2 : Int32) (x3 : Int32) (x4 : Int32) : lMet l yL_fits (.code yL_fits cL_fits 16 (some .boolean)) 1 22 0 0 (fun ca a => [.int x0, .int x1, .int x2, .int x3, .int x4, .ref (a 0), .ref (a 1), .ref (a 9), .ref (a 10)]) qI (fun S L => lup S (pL_fits N x0 x1 x2 x3 x4 L)) := by
  refine l_startA hlt (by decide +kernel) rfl (fun ca a => [(0, .int x0), (1, .int x1), (2, .int x2), (3, .int x3), (4, .int x4), (5, .ref (a 0)), (6, .ref (a 1)), (7, .ref (a 9)), (8, .ref (a 10))]) (fun _ _ => Nat.le_of_ble_eq_true rfl) (fun _ _ => rfl) ?_
  intro dC dI g a sz Si Li r Lf hpf p e s m args below meth c X hr H locs I ls hl
  have hx := X.1
  have hb := X.2.1
  unfold pL_fits at hpf
  have hC_119 : ∀ (t0 : Int32) (x0 : Int32) (w9 : Int64) (x12 : Int32) (x13 : Int32) (L : lS) (H : Heap) (locs : List Loc), lV dC dI g a (lFr g a Si Li sz) s Si Si L H locs → ∀ ls : Array Slot, lv_has ls 16 [(0, .int x0), (9, .long w9), (12, .int x12), (13, .int x13)] → pL_fits_119 N t0 x0 w9 x12 x13 L = some (r, Lf) → W p l e (lRm 1 22 0 0) s m args below meth c H locs 0 0 (MQ below (lQ dC dI g a sz Si Li (qI r) Si Lf) args s 0 0 (lFr g a Si Li sz)) (F0 m 119 ls [.int t0]) := by
    intro t0 x0 w9 x12 x13 L H locs I ls hl hpf
    unfold pL_fits_119 at hpf
    refine lv_istore (lv' := [(15, .int t0), (0, .int x0), (9, .long w9), (12, .int x12), (13, .int x13)]) hx hb dL_fits_119 hl (by decide) rfl (fun ls hl => ?_)
    refine lv_iload_n hx hb dL_fits_121 rfl (lv_at hl 1 rfl) ?_
    refine b_if_ne hx hb 130 122 dL_fits_122 (by decide) hpf (fun hpf => ?_) (fun hpf => ?_)
    · refine lv_iload_n hx hb dL_fits_130 rfl (lv_at hl 1 rfl) ?_
      refine lv_iconst (v := (1 : Int32)) hx hb dL_fits_131 (by decide) ?_
      refine b_icmp_ne hx hb 140 132 dL_fits_132 (by decide) hpf (fun hpf => ?_) (fun hpf => ?_)
      · refine lv_iload_n hx hb dL_fits_140 rfl (lv_at hl 1 rfl) ?_
        refine lv_iconst (v := (2 : Int32)) hx hb dL_fits_141 (by decide) ?_
        refine b_icmp_ne hx hb 160 142 dL_fits_142 (by decide) hpf (fun hpf => ?_) (fun hpf => ?_)
        · refine lv_iload_n hx hb dL_fits_160 rfl (lv_at hl 1 rfl) ?_
          refine lv_iconst (v := (3 : Int32)) hx hb dL_fits_161 (by decide) ?_
          refine b_icmp_ne hx hb 170 162 dL_fits_162 (by decide) hpf (fun hpf => ?_) (fun hpf => ?_)
          · refine lv_iload_n hx hb dL_fits_170 rfl (lv_at hl 1 rfl) ?_
            refine lv_iconst (v := (4 : Int32)) hx hb dL_fits_171 (by decide) ?_
            refine b_icmp_ne hx hb 188 172 dL_fits_172 (by decide) hpf (fun hpf => ?_) (fun hpf => ?_)
            · refine lv_iload_n hx hb dL_fits_188 rfl (lv_at hl 1 rfl) ?_
              refine lv_iconst (v := (5 : Int32)) hx hb dL_fits_189 (by decide) ?_
              refine b_icmp_ne hx hb 213 190 dL_fits_190 (by decide) hpf (fun hpf => ?_) (fun hpf => ?_)
              · refine lv_iload hx hb dL_fits_213 (lv_at hl 3 rfl) ?_
                refine b_if_ne hx hb 225 215 dL_fits_215 (by decide) hpf (fun hpf => ?_) (fun hpf => ?_)
                · refine lv_iconst (v := (1 : Int32)) hx hb dL_fits_225 (by decide) ?_
                  refine lv_goto (tgt := 230) hx hb dL_fits_226 (by decide) ?_
                  exact l_retzA X I hr 230 dL_fits_230 hpf
                refine lv_lload hx hb dL_fits_218 (lv_at hl 2 rfl) ?_
                refine lv_lconst (v := (0 : Int64)) hx hb dL_fits_220 (by decide) ?_
                refine W.lcmp hx hb dL_fits_221 ?_
                refine b_if_ne hx hb 229 222 dL_fits_222 (by decide) hpf (fun hpf => ?_) (fun hpf => ?_)
                · refine lv_iconst (v := (0 : Int32)) hx hb dL_fits_229 (by decide) ?_
                  exact l_retzA X I hr 230 dL_fits_230 hpf
                refine lv_iconst (v := (1 : Int32)) hx hb dL_fits_225 (by decide) ?_
                refine lv_goto (tgt := 230) hx hb dL_fits_226 (by decide) ?_
                exact l_retzA X I hr 230 dL_fits_230 hpf
              refine lv_lload hx hb dL_fits_193 (lv_at hl 2 rfl) ?_
              refine lv_lconst (v := (0 : Int64)) hx hb dL_fits_195 (by decide) ?_
              refine W.lcmp hx hb dL_fits_196 ?_
              refine b_if_eq hx hb 209 197 dL_fits_197 (by decide) hpf (fun hpf => ?_) (fun hpf => ?_)
              · refine lv_iconst (v := (0 : Int32)) hx hb dL_fits_209 (by decide) ?_
                refine lv_goto (tgt := 230) hx hb dL_fits_210 (by decide) ?_
                exact l_retzA X I hr 230 dL_fits_230 hpf
              refine lv_iload hx hb dL_fits_200 (lv_at hl 0 rfl) ?_
              refine b_if_eq hx hb 209 202 dL_fits_202 (by decide) hpf (fun hpf => ?_) (fun hpf => ?_)
              · refine lv_iconst (v := (0 : Int32)) hx hb dL_fits_209 (by decide) ?_
                refine lv_goto (tgt := 230) hx hb dL_fits_210 (by decide) ?_
                exact l_retzA X I hr 230 dL_fits_230 hpf
              refine lv_iconst (v := (1 : Int32)) hx hb dL_fits_205 (by decide) ?_
              refine lv_goto (tgt := 230) hx hb dL_fits_206 (by decide) ?_
              exact l_retzA X I hr 230 dL_fits_230 hpf
            refine lv_iload hx hb dL_fits_175 (lv_at hl 3 rfl) ?_
            refine b_if_ne hx hb 184 177 dL_fits_177 (by decide) hpf (fun hpf => ?_) (fun hpf => ?_)
            · refine lv_iconst (v := (0 : Int32)) hx hb dL_fits_184 (by decide) ?_
              refine lv_goto (tgt := 230) hx hb dL_fits_185 (by decide) ?_
              exact l_retzA X I hr 230 dL_fits_230 hpf
            refine lv_iconst (v := (1 : Int32)) hx hb dL_fits_180 (by decide) ?_
            refine lv_goto (tgt := 230) hx hb dL_fits_181 (by decide) ?_
            exact l_retzA X I hr 230 dL_fits_230 hpf
          refine lv_iload hx hb dL_fits_165 (lv_at hl 0 rfl) ?_
          refine lv_goto (tgt := 230) hx hb dL_fits_167 (by decide) ?_
          exact l_retzA X I hr 230 dL_fits_230 hpf
        refine lv_lload hx hb dL_fits_145 (lv_at hl 2 rfl) ?_
        refine lv_lconst (v := (0 : Int64)) hx hb dL_fits_147 (by decide) ?_
        refine W.lcmp hx hb dL_fits_148 ?_
        refine b_if_eq hx hb 156 149 dL_fits_149 (by decide) hpf (fun hpf => ?_) (fun hpf => ?_)
        · refine lv_iconst (v := (0 : Int32)) hx hb dL_fits_156 (by decide) ?_
          refine lv_goto (tgt := 230) hx hb dL_fits_157 (by decide) ?_
          exact l_retzA X I hr 230 dL_fits_230 hpf
        refine lv_iconst (v := (1 : Int32)) hx hb dL_fits_152 (by decide) ?_
        refine lv_goto (tgt := 230) hx hb dL_fits_153 (by decide) ?_
        exact l_retzA X I hr 230 dL_fits_230 hpf
      refine lv_iload hx hb dL_fits_135 (lv_at hl 4 rfl) ?_
      refine lv_goto (tgt := 230) hx hb dL_fits_137 (by decide) ?_
      exact l_retzA X I hr 230 dL_fits_230 hpf
    refine lv_iload hx hb dL_fits_125 (lv_at hl 3 rfl) ?_
    refine lv_goto (tgt := 230) hx hb dL_fits_127 (by decide) ?_
    exact l_retzA X I hr 230 dL_fits_230 hpf
  have hC_108 : ∀ (x0 : Int32) (x3 : Int32) (w9 : Int64) (x12 : Int32) (x13 : Int32) (x14 : Int32) (L : lS) (H : Heap) (locs : List Loc), lV dC dI g a (lFr g a Si Li sz) s Si Si L H locs → ∀ ls : Array Slot, lv_has ls 16 [(0, .int x0), (3, .int x3), (9, .long w9), (12, .int x12), (13, .int x13), (14, .int x14)] → pL_fits_108 N x0 x3 w9 x12 x13 x14 L = some (r, Lf) → W p l e (lRm 1 22 0 0) s m args below meth c H locs 0 0 (MQ below (lQ dC dI g a sz Si Li (qI r) Si Lf) args s 0 0 (lFr g a Si Li sz)) (F0 m 108 ls []) := by
    intro x0 x3 w9 x12 x13 x14 L H locs I ls hl hpf
    unfold pL_fits_108 at hpf
    refine lv_iload hx hb dL_fits_108 (lv_at hl 5 rfl) ?_
    refine lv_iload_n hx hb dL_fits_110 rfl (lv_at hl 1 rfl) ?_
    refine b_icmp_ne hx hb 118 111 dL_fits_111 (by decide) hpf (fun hpf => ?_) (fun hpf => ?_)
    · refine lv_iconst (v := (0 : Int32)) hx hb dL_fits_118 (by decide) ?_
      exact hC_119 (0 : Int32) x0 w9 x12 x13 L H locs I ls (lv_sub hl [0, 2, 3, 4] rfl) hpf
    refine lv_iconst (v := (1 : Int32)) hx hb dL_fits_114 (by decide) ?_
    refine lv_goto (tgt := 119) hx hb dL_fits_115 (by decide) ?_
    exact hC_119 (1 : Int32) x0 w9 x12 x13 L H locs I ls (lv_sub hl [0, 2, 3, 4] rfl) hpf
  have hC_85 : ∀ (n_85 : Nat), ∀ (x0 : Int32) (x3 : Int32) (w9 : Int64) (x12 : Int32) (x13 : Int32) (x14 : Int32) (L : lS) (H : Heap) (locs : List Loc), lV dC dI g a (lFr g a Si Li sz) s Si Si L H locs → ∀ ls : Array Slot, lv_has ls 16 [(0, .int x0), (3, .int x3), (6, .ref (a 1)), (9, .long w9), (12, .int x12), (13, .int x13), (14, .int x14)] → pL_fits_85 N (pL_fits_108 N) n_85 x0 x3 w9 x12 x13 x14 L = some (r, Lf) → W p l e (lRm 1 22 0 0) s m args below meth c H locs 0 0 (MQ below (lQ dC dI g a sz Si Li (qI r) Si Lf) args s 0 0 (lFr g a Si Li sz)) (F0 m 85 ls []) := by
    intro n_85
    induction n_85 with
    | zero =>
      intro x0 x3 w9 x12 x13 x14 L H locs I ls hl hpf
      rw [pL_fits_85] at hpf
      cases hpf
    | succ n_85 ih_85 =>
      intro x0 x3 w9 x12 x13 x14 L H locs I ls hl hpf
      rw [pL_fits_85] at hpf
      refine lv_iload hx hb dL_fits_85 (lv_at hl 6 rfl) ?_
      refine b_if_lt hx hb 108 87 dL_fits_87 (by decide) hpf (fun hpf => ?_) (fun hpf => ?_)
      · exact hC_108 x0 x3 w9 x12 x13 x14 L H locs I ls (lv_sub hl [0, 1, 3, 4, 5, 6] rfl) hpf
      refine lv_iload hx hb dL_fits_90 (lv_at hl 6 rfl) ?_
      refine lv_iload_n hx hb dL_fits_92 rfl (lv_at hl 1 rfl) ?_
      refine b_icmp_eq hx hb 108 93 dL_fits_93 (by decide) hpf (fun hpf => ?_) (fun hpf => ?_)
      · exact hC_108 x0 x3 w9 x12 x13 x14 L H locs I ls (lv_sub hl [0, 1, 3, 4, 5, 6] rfl) hpf
      refine lv_aload hx hb dL_fits_96 (lv_at hl 2 rfl) ?_
      refine lv_iconst (v := (3 : Int32)) hx hb dL_fits_98 (by decide) ?_
      refine lv_iload hx hb dL_fits_99 (lv_at hl 6 rfl) ?_
      refine lv_imul hx hb dL_fits_101 ?_
      refine l_iald X I lR_1 102 dL_fits_102 hpf (fun hpf => ?_)
      refine m_isto hx hb (fun y101 => [(14, .int y101), (0, .int x0), (3, .int x3), (6, .ref (a 1)), (9, .long w9), (12, .int x12), (13, .int x13)]) 103 dL_fits_103 hl (by decide) (fun _ => rfl) hpf (fun y101 ls hl hpf => ?_)
      refine lv_goto (tgt := 85) hx hb dL_fits_105 (by decide) ?_
      exact ih_85 x0 x3 w9 x12 x13 y101 L H locs I ls (lv_sub hl [1, 2, 3, 4, 5, 6, 0] rfl) hpf
  have hC_72 : ∀ (t0 : Int32) (x0 : Int32) (x3 : Int32) (x4 : Int32) (w9 : Int64) (x12 : Int32) (L : lS) (H : Heap) (locs : List Loc), lV dC dI g a (lFr g a Si Li sz) s Si Si L H locs → ∀ ls : Array Slot, lv_has ls 16 [(0, .int x0), (3, .int x3), (4, .int x4), (6, .ref (a 1)), (7, .ref (a 9)), (9, .long w9), (12, .int x12)] → pL_fits_72 N t0 x0 x3 x4 w9 x12 L = some (r, Lf) → W p l e (lRm 1 22 0 0) s m args below meth c H locs 0 0 (MQ below (lQ dC dI g a sz Si Li (qI r) Si Lf) args s 0 0 (lFr g a Si Li sz)) (F0 m 72 ls [.int t0]) := by
    intro t0 x0 x3 x4 w9 x12 L H locs I ls hl hpf
    unfold pL_fits_72 at hpf
    refine lv_istore (lv' := [(13, .int t0), (0, .int x0), (3, .int x3), (4, .int x4), (6, .ref (a 1)), (7, .ref (a 9)), (9, .long w9), (12, .int x12)]) hx hb dL_fits_72 hl (by decide) rfl (fun ls hl => ?_)
    refine lv_aload hx hb dL_fits_74 (lv_at hl 5 rfl) ?_
    refine lv_iconst (v := (3 : Int32)) hx hb dL_fits_76 (by decide) ?_
    refine lv_iload hx hb dL_fits_77 (lv_at hl 3 rfl) ?_
    refine lv_imul hx hb dL_fits_79 ?_
    refine lv_iconst (v := (1 : Int32)) hx hb dL_fits_80 (by decide) ?_
    refine lv_iadd hx hb dL_fits_81 ?_
    refine l_iald X I lR_9 82 dL_fits_82 hpf (fun hpf => ?_)
    refine m_isto hx hb (fun y101 => [(14, .int y101), (13, .int t0), (0, .int x0), (3, .int x3), (4, .int x4), (6, .ref (a 1)), (7, .ref (a 9)), (9, .long w9), (12, .int x12)]) 83 dL_fits_83 hl (by decide) (fun _ => rfl) hpf (fun y101 ls hl hpf => ?_)
    exact hC_85 N x0 x3 w9 x12 t0 y101 L H locs I ls (lv_sub hl [2, 3, 5, 7, 8, 1, 0] rfl) hpf
  have hC_55 : ∀ (t0 : Int32) (x0 : Int32) (x3 : Int32) (x4 : Int32) (w9 : Int64) (x11 : Int32) (L : lS) (H : Heap) (locs : List Loc), lV dC dI g a (lFr g a Si Li sz) s Si Si L H locs → ∀ ls : Array Slot, lv_has ls 16 [(0, .int x0), (3, .int x3), (4, .int x4), (6, .ref (a 1)), (7, .ref (a 9)), (9, .long w9), (11, .int x11)] → pL_fits_55 N t0 x0 x3 x4 w9 x11 L = some (r, Lf) → W p l e (lRm 1 22 0 0) s m args below meth c H locs 0 0 (MQ below (lQ dC dI g a sz Si Li (qI r) Si Lf) args s 0 0 (lFr g a Si Li sz)) (F0 m 55 ls [.int t0]) := by
    intro t0 x0 x3 x4 w9 x11 L H locs I ls hl hpf
    unfold pL_fits_55 at hpf
    refine lv_istore (lv' := [(12, .int t0), (0, .int x0), (3, .int x3), (4, .int x4), (6, .ref (a 1)), (7, .ref (a 9)), (9, .long w9), (11, .int x11)]) hx hb dL_fits_55 hl (by decide) rfl (fun ls hl => ?_)
    refine lv_lload hx hb dL_fits_57 (lv_at hl 6 rfl) ?_
    refine lv_iload hx hb dL_fits_59 (lv_at hl 7 rfl) ?_
    refine lv_lshr hx hb dL_fits_61 rfl ?_
    refine lv_lconst (v := (0 : Int64)) hx hb dL_fits_62 (by decide) ?_
    refine W.lcmp hx hb dL_fits_63 ?_
    refine b_if_eq hx hb 71 64 dL_fits_64 (by decide) hpf (fun hpf => ?_) (fun hpf => ?_)
    · refine lv_iconst (v := (0 : Int32)) hx hb dL_fits_71 (by decide) ?_
      exact hC_72 (0 : Int32) x0 x3 x4 w9 t0 L H locs I ls (lv_sub hl [1, 2, 3, 4, 5, 6, 0] rfl) hpf
    refine lv_iconst (v := (1 : Int32)) hx hb dL_fits_67 (by decide) ?_
    refine lv_goto (tgt := 72) hx hb dL_fits_68 (by decide) ?_
    exact hC_72 (1 : Int32) x0 x3 x4 w9 t0 L H locs I ls (lv_sub hl [1, 2, 3, 4, 5, 6, 0] rfl) hpf
  have hC_33 : ∀ (t0 : Int32) (x0 : Int32) (x1 : Int32) (x2 : Int32) (x3 : Int32) (x4 : Int32) (w9 : Int64) (L : lS) (H : Heap) (locs : List Loc), lV dC dI g a (lFr g a Si Li sz) s Si Si L H locs → ∀ ls : Array Slot, lv_has ls 16 [(0, .int x0), (1, .int x1), (2, .int x2), (3, .int x3), (4, .int x4), (5, .ref (a 0)), (6, .ref (a 1)), (7, .ref (a 9)), (9, .long w9)] → pL_fits_33 N t0 x0 x1 x2 x3 x4 w9 L = some (r, Lf) → W p l e (lRm 1 22 0 0) s m args below meth c H locs 0 0 (MQ below (lQ dC dI g a sz Si Li (qI r) Si Lf) args s 0 0 (lFr g a Si Li sz)) (F0 m 33 ls [.int t0]) := by
    intro t0 x0 x1 x2 x3 x4 w9 L H locs I ls hl hpf
    unfold pL_fits_33 at hpf
    refine lv_istore (lv' := [(11, .int t0), (0, .int x0), (1, .int x1), (2, .int x2), (3, .int x3), (4, .int x4), (5, .ref (a 0)), (6, .ref (a 1)), (7, .ref (a 9)), (9, .long w9)]) hx hb dL_fits_33 hl (by decide) rfl (fun ls hl => ?_)
    refine lv_lload hx hb dL_fits_35 (lv_at hl 9 rfl) ?_
    refine lv_iload_n hx hb dL_fits_37 rfl (lv_at hl 2 rfl) ?_
    refine lv_iload_n hx hb dL_fits_38 rfl (lv_at hl 3 rfl) ?_
    refine lv_aload hx hb dL_fits_39 (lv_at hl 6 rfl) ?_
    refine l_cAJ (rest := [.long w9]) (As := [.int x1, .int x2, .ref (a 0)]) X I fL_match (c_L_match l hlt N x1 x2) rfl ⟨Nat.le_of_ble_eq_true rfl, Nat.le_of_ble_eq_true rfl⟩ 41 dL_fits_41 rfl hl.1 rfl (Nat.le_of_ble_eq_true rfl) ⟨Nat.le_refl _, Nat.le_refl _⟩ hpf (fun v101 L102 H locs I hpf => ?_)
    refine lv_land hx hb dL_fits_44 ?_
    refine lv_lconst (v := (0 : Int64)) hx hb dL_fits_45 (by decide) ?_
    refine W.lcmp hx hb dL_fits_46 ?_
    refine b_if_eq hx hb 54 47 dL_fits_47 (by decide) hpf (fun hpf => ?_) (fun hpf => ?_)
    · refine lv_iconst (v := (0 : Int32)) hx hb dL_fits_54 (by decide) ?_
      exact hC_55 (0 : Int32) x0 x3 x4 w9 t0 L102 H locs I ls (lv_sub hl [1, 4, 5, 7, 8, 9, 0] rfl) hpf
    refine lv_iconst (v := (1 : Int32)) hx hb dL_fits_50 (by decide) ?_
    refine lv_goto (tgt := 55) hx hb dL_fits_51 (by decide) ?_
    exact hC_55 (1 : Int32) x0 x3 x4 w9 t0 L102 H locs I ls (lv_sub hl [1, 4, 5, 7, 8, 9, 0] rfl) hpf
  refine lv_aload hx hb dL_fits_0 (lv_at hl 8 rfl) ?_
  refine lv_iconst (v := (3 : Int32)) hx hb dL_fits_2 (by decide) ?_
  refine lv_iload hx hb dL_fits_3 (lv_at hl 4 rfl) ?_
  refine lv_imul hx hb dL_fits_5 ?_
  refine lv_iload_n hx hb dL_fits_6 rfl (lv_at hl 1 rfl) ?_
  refine lv_iadd hx hb dL_fits_7 ?_
  refine l_lald X I lR_10 8 dL_fits_8 hpf (fun hpf => ?_)
  refine k_lsto hx hb (fun y101 => [(9, .long y101), (0, .int x0), (1, .int x1), (2, .int x2), (3, .int x3), (4, .int x4), (5, .ref (a 0)), (6, .ref (a 1)), (7, .ref (a 9)), (8, .ref (a 10))]) 9 dL_fits_9 hl (by decide) (fun _ => rfl) hpf (fun y101 ls hl hpf => ?_)
  refine lv_aload hx hb dL_fits_11 (lv_at hl 6 rfl) ?_
  refine lv_bipush (v := (13 : Int32)) hx hb dL_fits_13 (by decide) ?_
  refine lv_iload_n hx hb dL_fits_15 rfl (lv_at hl 2 rfl) ?_
  refine lv_iadd hx hb dL_fits_16 ?_
  refine l_iald X I lR_0 17 dL_fits_17 hpf (fun hpf => ?_)
  refine lv_iconst (v := (1 : Int32)) hx hb dL_fits_18 (by decide) ?_
  refine b_icmp_le hx hb 32 19 dL_fits_19 (by decide) hpf (fun hpf => ?_) (fun hpf => ?_)
  · refine lv_iload_n hx hb dL_fits_32 rfl (lv_at hl 3 rfl) ?_
    exact hC_33 x2 x0 x1 x2 x3 x4 y101 Li H locs I ls (lv_sub hl [1, 2, 3, 4, 5, 6, 7, 8, 0] rfl) hpf
  refine lv_iload_n hx hb dL_fits_22 rfl (lv_at hl 3 rfl) ?_
  refine lv_bipush (v := (10 : Int32)) hx hb dL_fits_23 (by decide) ?_
  refine lv_idiv hx hb dL_fits_25 (by decide) ?_
  refine lv_bipush (v := (10 : Int32)) hx hb dL_fits_26 (by decide) ?_
  refine lv_imul hx hb dL_fits_28 ?_
  refine lv_goto (tgt := 33) hx hb dL_fits_29 (by decide) ?_
  exact hC_33 ((x2 / (10 : Int32)) * (10 : Int32)) x0 x1 x2 x3 x4 y101 Li H locs I ls (lv_sub hl [1, 2, 3, 4, 5, 6, 7, 8, 0] rfl) hpf
-- ===== the law's arrives =====
def pL_arrives_154 (N : Nat) (x12 : Int32) (x13 : Int32) (L : lS) : Option (Int32 × lS) :=
    some (((100 : Int32) * x12) + x13, L)
def pL_arrives_149 (N : Nat) (k_15 : Int32 → Int32 → Int32 → lS → Option (Int32 × lS)) (t0 : Int32) (x12 : Int32) (x14 : Int32) (L : lS) : Option (Int32 × lS) :=
    k_15 x12 t0 x14 L
def pL_arrives_128 (N : Nat) (k_15 : Int32 → Int32 → Int32 → lS → Option (Int32 × lS)) (t0 : Int32) (x13 : Int32) (x14 : Int32) (x15 : Int32) (L : lS) : Option (Int32 × lS) :=
    if x15 < (0 : Int32) then (
      pL_arrives_149 N k_15 x13 t0 x14 L)
    else (
      if (100 : Int32) ≤ x15 then (
        pL_arrives_149 N k_15 x13 t0 x14 L)
      else (
        pL_arrives_149 N k_15 x15 t0 x14 L))
def pL_arrives_109 (N : Nat) (k_15 : Int32 → Int32 → Int32 → lS → Option (Int32 × lS)) (t0 : Int32) (x12 : Int32) (x13 : Int32) (x15 : Int32) (L : lS) : Option (Int32 × lS) :=
    if x15 ≤ (99 : Int32) then (
      pL_arrives_128 N k_15 x12 x13 t0 x15 L)
    else (
      pL_arrives_128 N k_15 (x15 - (100 : Int32)) x13 t0 x15 L)
def pL_arrives_15 (N : Nat) (k_154 : Int32 → Int32 → lS → Option (Int32 × lS)) : Nat → Int32 → Int32 → Int32 → lS → Option (Int32 × lS)
  | 0 => fun _ _ _ _ => none
  | n_15 + 1 => fun x12 x13 x14 L =>
    if x14 = (0 : Int32) then (
      k_154 x12 x13 L)
    else (
      lba (pL_lays N x12 L) fun v101 L102 =>
      gd ((3 : Int32) * x13) 36 <|
      if (aI L102 9 ((3 : Int32) * x13).toNatClampNeg) = (1 : Int32) then (
        gd x12 4 <|
        if (((aI L102 11 x12.toNatClampNeg) >>> (x13 &&& 31)) &&& (1 : Int32)) = (1 : Int32) then (
          some ((-1 : Int32), L102))
        else (
          gd x12 4 <|
          gd x12 4 <| slv (uI L102 11 x12.toNatClampNeg ((aI L102 11 x12.toNatClampNeg) ||| ((1 : Int32) <<< (x13 &&& 31)))) fun L103 =>
          lba (pL_link N x12 x13 L103) fun v104 L105 =>
          if v104 < (0 : Int32) then (
            pL_arrives_109 N (pL_arrives_15 N k_154 n_15) (0 : Int32) x12 x13 v104 L105)
          else (
            pL_arrives_109 N (pL_arrives_15 N k_154 n_15) (1 : Int32) x12 x13 v104 L105)))
      else (
        some ((-1 : Int32), L102)))
def pL_arrives (N : Nat) (x0 : Int32) (L : lS) : Option (Int32 × lS) :=
    nm (x0 / (100 : Int32)) fun y101 =>
    nm (x0 - x0 / (100 : Int32) * (100 : Int32)) fun y102 =>
    pL_arrives_15 N (pL_arrives_154 N) N y101 y102 (1 : Int32) L
theorem fL_arrives : lFnS yL_arrives (.code yL_arrives cL_arrives 16 (some .int)) 12 201 := ⟨kT_170, kT_171, kT_167, rfl, by decide +kernel⟩
set_option maxRecDepth 100000 in
set_option maxHeartbeats 4000000 in
theorem c_L_arrives (l : Launch) (hlt : l.stackTraces = false) (N : Nat) (x0 : Int32) : lMet l yL_arrives (.code yL_arrives cL_arrives 16 (some .int)) 3 82 0 0 (fun ca a => [.int x0, .ref (a 11), .ref (a 0), .ref (a 2), .ref (a 3), .ref (a 4), .ref (a 5), .ref (a 6), .ref (a 7), .ref (a 8), .ref (a 9), .ref (a 10)]) qI (fun S L => lup S (pL_arrives N x0 L)) := by
  refine l_startA hlt (by decide +kernel) rfl (fun ca a => [(0, .int x0), (1, .ref (a 11)), (2, .ref (a 0)), (3, .ref (a 2)), (4, .ref (a 3)), (5, .ref (a 4)), (6, .ref (a 5)), (7, .ref (a 6)), (8, .ref (a 7)), (9, .ref (a 8)), (10, .ref (a 9)), (11, .ref (a 10))]) (fun _ _ => Nat.le_of_ble_eq_true rfl) (fun _ _ => rfl) ?_
  intro dC dI g a sz Si Li r Lf hpf p e s m args below meth c X hr H locs I ls hl
  have hx := X.1
  have hb := X.2.1
  unfold pL_arrives at hpf
  have hC_154 : ∀ (x12 : Int32) (x13 : Int32) (L : lS) (H : Heap) (locs : List Loc), lV dC dI g a (lFr g a Si Li sz) s Si Si L H locs → ∀ ls : Array Slot, lv_has ls 16 [(12, .int x12), (13, .int x13)] → pL_arrives_154 N x12 x13 L = some (r, Lf) → W p l e (lRm 3 82 0 0) s m args below meth c H locs 0 0 (MQ below (lQ dC dI g a sz Si Li (qI r) Si Lf) args s 0 0 (lFr g a Si Li sz)) (F0 m 154 ls []) := by
    intro x12 x13 L H locs I ls hl hpf
    unfold pL_arrives_154 at hpf
    refine lv_bipush (v := (100 : Int32)) hx hb dL_arrives_154 (by decide) ?_
    refine lv_iload hx hb dL_arrives_156 (lv_at hl 0 rfl) ?_
    refine lv_imul hx hb dL_arrives_158 ?_
    refine lv_iload hx hb dL_arrives_159 (lv_at hl 1 rfl) ?_
    refine lv_iadd hx hb dL_arrives_161 ?_
    exact l_retiA X I hr 162 dL_arrives_162 hpf
  have hC_15 : ∀ (n_15 : Nat), ∀ (x12 : Int32) (x13 : Int32) (x14 : Int32) (L : lS) (H : Heap) (locs : List Loc), lV dC dI g a (lFr g a Si Li sz) s Si Si L H locs → ∀ ls : Array Slot, lv_has ls 16 [(1, .ref (a 11)), (2, .ref (a 0)), (3, .ref (a 2)), (4, .ref (a 3)), (5, .ref (a 4)), (6, .ref (a 5)), (7, .ref (a 6)), (8, .ref (a 7)), (9, .ref (a 8)), (10, .ref (a 9)), (11, .ref (a 10)), (12, .int x12), (13, .int x13), (14, .int x14)] → pL_arrives_15 N (pL_arrives_154 N) n_15 x12 x13 x14 L = some (r, Lf) → W p l e (lRm 3 82 0 0) s m args below meth c H locs 0 0 (MQ below (lQ dC dI g a sz Si Li (qI r) Si Lf) args s 0 0 (lFr g a Si Li sz)) (F0 m 15 ls []) := by
    intro n_15
    induction n_15 with
    | zero =>
      intro x12 x13 x14 L H locs I ls hl hpf
      rw [pL_arrives_15] at hpf
      cases hpf
    | succ n_15 ih_15 =>
      have hC_149 : ∀ (t0 : Int32) (x12 : Int32) (x14 : Int32) (L : lS) (H : Heap) (locs : List Loc), lV dC dI g a (lFr g a Si Li sz) s Si Si L H locs → ∀ ls : Array Slot, lv_has ls 16 [(1, .ref (a 11)), (2, .ref (a 0)), (3, .ref (a 2)), (4, .ref (a 3)), (5, .ref (a 4)), (6, .ref (a 5)), (7, .ref (a 6)), (8, .ref (a 7)), (9, .ref (a 8)), (10, .ref (a 9)), (11, .ref (a 10)), (12, .int x12), (14, .int x14)] → pL_arrives_149 N (pL_arrives_15 N (pL_arrives_154 N) n_15) t0 x12 x14 L = some (r, Lf) → W p l e (lRm 3 82 0 0) s m args below meth c H locs 0 0 (MQ below (lQ dC dI g a sz Si Li (qI r) Si Lf) args s 0 0 (lFr g a Si Li sz)) (F0 m 149 ls [.int t0]) := by
        intro t0 x12 x14 L H locs I ls hl hpf
        unfold pL_arrives_149 at hpf
        refine lv_istore (lv' := [(13, .int t0), (1, .ref (a 11)), (2, .ref (a 0)), (3, .ref (a 2)), (4, .ref (a 3)), (5, .ref (a 4)), (6, .ref (a 5)), (7, .ref (a 6)), (8, .ref (a 7)), (9, .ref (a 8)), (10, .ref (a 9)), (11, .ref (a 10)), (12, .int x12), (14, .int x14)]) hx hb dL_arrives_149 hl (by decide) rfl (fun ls hl => ?_)
        refine lv_goto (tgt := 15) hx hb dL_arrives_151 (by decide) ?_
        exact ih_15 x12 t0 x14 L H locs I ls (lv_sub hl [1, 2, 3, 4, 5, 6, 7, 8, 9, 10, 11, 12, 0, 13] rfl) hpf
      have hC_128 : ∀ (t0 : Int32) (x13 : Int32) (x14 : Int32) (x15 : Int32) (L : lS) (H : Heap) (locs : List Loc), lV dC dI g a (lFr g a Si Li sz) s Si Si L H locs → ∀ ls : Array Slot, lv_has ls 16 [(1, .ref (a 11)), (2, .ref (a 0)), (3, .ref (a 2)), (4, .ref (a 3)), (5, .ref (a 4)), (6, .ref (a 5)), (7, .ref (a 6)), (8, .ref (a 7)), (9, .ref (a 8)), (10, .ref (a 9)), (11, .ref (a 10)), (13, .int x13), (14, .int x14), (15, .int x15)] → pL_arrives_128 N (pL_arrives_15 N (pL_arrives_154 N) n_15) t0 x13 x14 x15 L = some (r, Lf) → W p l e (lRm 3 82 0 0) s m args below meth c H locs 0 0 (MQ below (lQ dC dI g a sz Si Li (qI r) Si Lf) args s 0 0 (lFr g a Si Li sz)) (F0 m 128 ls [.int t0]) := by
        intro t0 x13 x14 x15 L H locs I ls hl hpf
        unfold pL_arrives_128 at hpf
        refine lv_istore (lv' := [(12, .int t0), (1, .ref (a 11)), (2, .ref (a 0)), (3, .ref (a 2)), (4, .ref (a 3)), (5, .ref (a 4)), (6, .ref (a 5)), (7, .ref (a 6)), (8, .ref (a 7)), (9, .ref (a 8)), (10, .ref (a 9)), (11, .ref (a 10)), (13, .int x13), (14, .int x14), (15, .int x15)]) hx hb dL_arrives_128 hl (by decide) rfl (fun ls hl => ?_)
        refine lv_iload hx hb dL_arrives_130 (lv_at hl 14 rfl) ?_
        refine b_if_lt hx hb 147 132 dL_arrives_132 (by decide) hpf (fun hpf => ?_) (fun hpf => ?_)
        · refine lv_iload hx hb dL_arrives_147 (lv_at hl 12 rfl) ?_
          exact hC_149 x13 t0 x14 L H locs I ls (lv_sub hl [1, 2, 3, 4, 5, 6, 7, 8, 9, 10, 11, 0, 13] rfl) hpf
        refine lv_iload hx hb dL_arrives_135 (lv_at hl 14 rfl) ?_
        refine lv_bipush (v := (100 : Int32)) hx hb dL_arrives_137 (by decide) ?_
        refine b_icmp_ge hx hb 147 139 dL_arrives_139 (by decide) hpf (fun hpf => ?_) (fun hpf => ?_)
        · refine lv_iload hx hb dL_arrives_147 (lv_at hl 12 rfl) ?_
          exact hC_149 x13 t0 x14 L H locs I ls (lv_sub hl [1, 2, 3, 4, 5, 6, 7, 8, 9, 10, 11, 0, 13] rfl) hpf
        refine lv_iload hx hb dL_arrives_142 (lv_at hl 14 rfl) ?_
        refine lv_goto (tgt := 149) hx hb dL_arrives_144 (by decide) ?_
        exact hC_149 x15 t0 x14 L H locs I ls (lv_sub hl [1, 2, 3, 4, 5, 6, 7, 8, 9, 10, 11, 0, 13] rfl) hpf
      have hC_109 : ∀ (t0 : Int32) (x12 : Int32) (x13 : Int32) (x15 : Int32) (L : lS) (H : Heap) (locs : List Loc), lV dC dI g a (lFr g a Si Li sz) s Si Si L H locs → ∀ ls : Array Slot, lv_has ls 16 [(1, .ref (a 11)), (2, .ref (a 0)), (3, .ref (a 2)), (4, .ref (a 3)), (5, .ref (a 4)), (6, .ref (a 5)), (7, .ref (a 6)), (8, .ref (a 7)), (9, .ref (a 8)), (10, .ref (a 9)), (11, .ref (a 10)), (12, .int x12), (13, .int x13), (15, .int x15)] → pL_arrives_109 N (pL_arrives_15 N (pL_arrives_154 N) n_15) t0 x12 x13 x15 L = some (r, Lf) → W p l e (lRm 3 82 0 0) s m args below meth c H locs 0 0 (MQ below (lQ dC dI g a sz Si Li (qI r) Si Lf) args s 0 0 (lFr g a Si Li sz)) (F0 m 109 ls [.int t0]) := by
        intro t0 x12 x13 x15 L H locs I ls hl hpf
        unfold pL_arrives_109 at hpf
        refine lv_istore (lv' := [(14, .int t0), (1, .ref (a 11)), (2, .ref (a 0)), (3, .ref (a 2)), (4, .ref (a 3)), (5, .ref (a 4)), (6, .ref (a 5)), (7, .ref (a 6)), (8, .ref (a 7)), (9, .ref (a 8)), (10, .ref (a 9)), (11, .ref (a 10)), (12, .int x12), (13, .int x13), (15, .int x15)]) hx hb dL_arrives_109 hl (by decide) rfl (fun ls hl => ?_)
        refine lv_iload hx hb dL_arrives_111 (lv_at hl 14 rfl) ?_
        refine lv_bipush (v := (99 : Int32)) hx hb dL_arrives_113 (by decide) ?_
        refine b_icmp_le hx hb 126 115 dL_arrives_115 (by decide) hpf (fun hpf => ?_) (fun hpf => ?_)
        · refine lv_iload hx hb dL_arrives_126 (lv_at hl 12 rfl) ?_
          exact hC_128 x12 x13 t0 x15 L H locs I ls (lv_sub hl [1, 2, 3, 4, 5, 6, 7, 8, 9, 10, 11, 13, 0, 14] rfl) hpf
        refine lv_iload hx hb dL_arrives_118 (lv_at hl 14 rfl) ?_
        refine lv_bipush (v := (100 : Int32)) hx hb dL_arrives_120 (by decide) ?_
        refine lv_isub hx hb dL_arrives_122 ?_
        refine lv_goto (tgt := 128) hx hb dL_arrives_123 (by decide) ?_
        exact hC_128 (x15 - (100 : Int32)) x13 t0 x15 L H locs I ls (lv_sub hl [1, 2, 3, 4, 5, 6, 7, 8, 9, 10, 11, 13, 0, 14] rfl) hpf
      intro x12 x13 x14 L H locs I ls hl hpf
      rw [pL_arrives_15] at hpf
      refine lv_iload hx hb dL_arrives_15 (lv_at hl 13 rfl) ?_
      refine b_if_eq hx hb 154 17 dL_arrives_17 (by decide) hpf (fun hpf => ?_) (fun hpf => ?_)
      · exact hC_154 x12 x13 L H locs I ls (lv_sub hl [11, 12] rfl) hpf
      refine lv_iload hx hb dL_arrives_20 (lv_at hl 11 rfl) ?_
      refine lv_aload_n hx hb dL_arrives_22 rfl (lv_at hl 1 rfl) ?_
      refine lv_aload_n hx hb dL_arrives_23 rfl (lv_at hl 2 rfl) ?_
      refine lv_aload hx hb dL_arrives_24 (lv_at hl 3 rfl) ?_
      refine lv_aload hx hb dL_arrives_26 (lv_at hl 4 rfl) ?_
      refine lv_aload hx hb dL_arrives_28 (lv_at hl 5 rfl) ?_
      refine lv_aload hx hb dL_arrives_30 (lv_at hl 6 rfl) ?_
      refine lv_aload hx hb dL_arrives_32 (lv_at hl 7 rfl) ?_
      refine lv_aload hx hb dL_arrives_34 (lv_at hl 8 rfl) ?_
      refine lv_aload hx hb dL_arrives_36 (lv_at hl 9 rfl) ?_
      refine lv_aload hx hb dL_arrives_38 (lv_at hl 10 rfl) ?_
      refine l_cAU (rest := []) (As := [.int x12, .ref (a 0), .ref (a 2), .ref (a 3), .ref (a 4), .ref (a 5), .ref (a 6), .ref (a 7), .ref (a 8), .ref (a 9), .ref (a 10)]) X I fL_lays (c_L_lays l hlt N x12) rfl ⟨Nat.le_of_ble_eq_true rfl, Nat.le_of_ble_eq_true rfl⟩ 40 dL_arrives_40 rfl hl.1 rfl (Nat.le_of_ble_eq_true rfl) ⟨Nat.le_refl _, Nat.le_refl _⟩ hpf (fun v101 L102 H locs I hpf => ?_)
      refine lv_aload hx hb dL_arrives_43 (lv_at hl 9 rfl) ?_
      refine lv_iconst (v := (3 : Int32)) hx hb dL_arrives_45 (by decide) ?_
      refine lv_iload hx hb dL_arrives_46 (lv_at hl 12 rfl) ?_
      refine lv_imul hx hb dL_arrives_48 ?_
      refine l_iald X I lR_9 49 dL_arrives_49 hpf (fun hpf => ?_)
      refine lv_iconst (v := (1 : Int32)) hx hb dL_arrives_50 (by decide) ?_
      refine b_icmp_ne hx hb 67 51 dL_arrives_51 (by decide) hpf (fun hpf => ?_) (fun hpf => ?_)
      · refine lv_iconst (v := (-1 : Int32)) hx hb dL_arrives_67 (by decide) ?_
        exact l_retiA X I hr 68 dL_arrives_68 hpf
      refine lv_aload_n hx hb dL_arrives_54 rfl (lv_at hl 0 rfl) ?_
      refine lv_iload hx hb dL_arrives_55 (lv_at hl 11 rfl) ?_
      refine l_iald X I lR_11 57 dL_arrives_57 hpf (fun hpf => ?_)
      refine lv_iload hx hb dL_arrives_58 (lv_at hl 12 rfl) ?_
      refine lv_ishr hx hb dL_arrives_60 ?_
      refine lv_iconst (v := (1 : Int32)) hx hb dL_arrives_61 (by decide) ?_
      refine lv_iand hx hb dL_arrives_62 ?_
      refine lv_iconst (v := (1 : Int32)) hx hb dL_arrives_63 (by decide) ?_
      refine b_icmp_ne hx hb 69 64 dL_arrives_64 (by decide) hpf (fun hpf => ?_) (fun hpf => ?_)
      · refine lv_aload_n hx hb dL_arrives_69 rfl (lv_at hl 0 rfl) ?_
        refine lv_iload hx hb dL_arrives_70 (lv_at hl 11 rfl) ?_
        refine lv_dup2_11 hx hb dL_arrives_72 rfl rfl ?_
        refine l_iald X I lR_11 73 dL_arrives_73 hpf (fun hpf => ?_)
        refine lv_iconst (v := (1 : Int32)) hx hb dL_arrives_74 (by decide) ?_
        refine lv_iload hx hb dL_arrives_75 (lv_at hl 12 rfl) ?_
        refine lv_ishl hx hb dL_arrives_77 ?_
        refine lv_ior hx hb dL_arrives_78 ?_
        refine l_iast X I lR_11 79 dL_arrives_79 hpf (fun L103 H locs I hpf => ?_)
        refine lv_iload hx hb dL_arrives_80 (lv_at hl 11 rfl) ?_
        refine lv_iload hx hb dL_arrives_82 (lv_at hl 12 rfl) ?_
        refine lv_aload_n hx hb dL_arrives_84 rfl (lv_at hl 1 rfl) ?_
        refine lv_aload_n hx hb dL_arrives_85 rfl (lv_at hl 2 rfl) ?_
        refine lv_aload hx hb dL_arrives_86 (lv_at hl 3 rfl) ?_
        refine lv_aload hx hb dL_arrives_88 (lv_at hl 4 rfl) ?_
        refine lv_aload hx hb dL_arrives_90 (lv_at hl 5 rfl) ?_
        refine lv_aload hx hb dL_arrives_92 (lv_at hl 8 rfl) ?_
        refine l_cAI (rest := []) (As := [.int x12, .int x13, .ref (a 0), .ref (a 2), .ref (a 3), .ref (a 4), .ref (a 5), .ref (a 8)]) X I fL_link (c_L_link l hlt N x12 x13) rfl ⟨Nat.le_of_ble_eq_true rfl, Nat.le_of_ble_eq_true rfl⟩ 94 dL_arrives_94 rfl hl.1 rfl (Nat.le_of_ble_eq_true rfl) ⟨Nat.le_refl _, Nat.le_refl _⟩ hpf (fun v104 L105 H locs I hpf => ?_)
        refine lv_istore (lv' := [(15, .int v104), (1, .ref (a 11)), (2, .ref (a 0)), (3, .ref (a 2)), (4, .ref (a 3)), (5, .ref (a 4)), (6, .ref (a 5)), (7, .ref (a 6)), (8, .ref (a 7)), (9, .ref (a 8)), (10, .ref (a 9)), (11, .ref (a 10)), (12, .int x12), (13, .int x13), (14, .int x14)]) hx hb dL_arrives_97 hl (by decide) rfl (fun ls hl => ?_)
        refine lv_iload hx hb dL_arrives_99 (lv_at hl 0 rfl) ?_
        refine b_if_lt hx hb 108 101 dL_arrives_101 (by decide) hpf (fun hpf => ?_) (fun hpf => ?_)
        · refine lv_iconst (v := (0 : Int32)) hx hb dL_arrives_108 (by decide) ?_
          exact hC_109 (0 : Int32) x12 x13 v104 L105 H locs I ls (lv_sub hl [1, 2, 3, 4, 5, 6, 7, 8, 9, 10, 11, 12, 13, 0] rfl) hpf
        refine lv_iconst (v := (1 : Int32)) hx hb dL_arrives_104 (by decide) ?_
        refine lv_goto (tgt := 109) hx hb dL_arrives_105 (by decide) ?_
        exact hC_109 (1 : Int32) x12 x13 v104 L105 H locs I ls (lv_sub hl [1, 2, 3, 4, 5, 6, 7, 8, 9, 10, 11, 12, 13, 0] rfl) hpf
      refine lv_iconst (v := (-1 : Int32)) hx hb dL_arrives_67 (by decide) ?_
      exact l_retiA X I hr 68 dL_arrives_68 hpf
  refine lv_iload_n hx hb dL_arrives_0 rfl (lv_at hl 0 rfl) ?_
  refine lv_bipush (v := (100 : Int32)) hx hb dL_arrives_1 (by decide) ?_
  refine lv_idiv hx hb dL_arrives_3 (by decide) ?_
  refine m_isto hx hb (fun y101 => [(12, .int y101), (0, .int x0), (1, .ref (a 11)), (2, .ref (a 0)), (3, .ref (a 2)), (4, .ref (a 3)), (5, .ref (a 4)), (6, .ref (a 5)), (7, .ref (a 6)), (8, .ref (a 7)), (9, .ref (a 8)), (10, .ref (a 9)), (11, .ref (a 10))]) 4 dL_arrives_4 hl (by decide) (fun _ => rfl) hpf (fun y101 ls hl hpf => ?_)
  refine lv_iload_n hx hb dL_arrives_6 rfl (lv_at hl 1 rfl) ?_
  refine lv_bipush (v := (100 : Int32)) hx hb dL_arrives_7 (by decide) ?_
  refine lv_irem hx hb dL_arrives_9 (by decide) ?_
  refine m_isto hx hb (fun y102 => [(13, .int y102), (12, .int y101), (0, .int x0), (1, .ref (a 11)), (2, .ref (a 0)), (3, .ref (a 2)), (4, .ref (a 3)), (5, .ref (a 4)), (6, .ref (a 5)), (7, .ref (a 6)), (8, .ref (a 7)), (9, .ref (a 8)), (10, .ref (a 9)), (11, .ref (a 10))]) 10 dL_arrives_10 hl (by decide) (fun _ => rfl) hpf (fun y102 ls hl hpf => ?_)
  refine lv_iconst (v := (1 : Int32)) hx hb dL_arrives_12 (by decide) ?_
  refine lv_istore (lv' := [(14, .int (1 : Int32)), (13, .int y102), (12, .int y101), (0, .int x0), (1, .ref (a 11)), (2, .ref (a 0)), (3, .ref (a 2)), (4, .ref (a 3)), (5, .ref (a 4)), (6, .ref (a 5)), (7, .ref (a 6)), (8, .ref (a 7)), (9, .ref (a 8)), (10, .ref (a 9)), (11, .ref (a 10))]) hx hb dL_arrives_13 hl (by decide) rfl (fun ls hl => ?_)
  exact hC_15 N y101 y102 (1 : Int32) Li H locs I ls (lv_sub hl [4, 5, 6, 7, 8, 9, 10, 11, 12, 13, 14, 2, 1, 0] rfl) hpf
