-- ===== knowsDeleted =====
def pf_knowsDeleted_89 (N : Nat) (k_6 : Int32 → Int32 → Int32 → Int32 → Int32 → mS → Option (Int32 × mS)) (t0 : Int32) (x1 : Int32) (x2 : Int32) (x3 : Int32) (x5 : Int32) (S : mS) : Option (Int32 × mS) :=
    nm (x5 + (1 : Int32)) fun y1 =>
    k_6 x1 x2 x3 t0 y1 S
def pf_knowsDeleted_6 (N : Nat) : Nat → Int32 → Int32 → Int32 → Int32 → Int32 → mS → Option (Int32 × mS)
  | 0 => fun _ _ _ _ _ _ => none
  | n_6 + 1 => fun x1 x2 x3 x4 x5 S =>
    if (S.1 22) ≤ x5 then (
      zr x4 S)
    else (
      if x4 = (0 : Int32) then (
        gd x5 250 <|
        if (S.2 26 x5.toNatClampNeg) = (8 : Int32) then (
          gd x5 250 <|
          if (S.2 27 x5.toNatClampNeg) = x3 then (
            bd (pf_isKnown N x1 x5 S) fun v1 S2 =>
            if v1 = (0 : Int32) then (
              pf_knowsDeleted_89 N (pf_knowsDeleted_6 N n_6) (0 : Int32) x1 x2 x3 x5 S2)
            else (
              gd x5 250 <|
              gd x5 250 <|
              gd ((((16 : Int32) * x1) + ((4 : Int32) * x2)) + (S2.2 24 x5.toNatClampNeg)) 64 <|
              if (S2.2 19 ((((16 : Int32) * x1) + ((4 : Int32) * x2)) + (S2.2 24 x5.toNatClampNeg)).toNatClampNeg) ≤ (S2.2 25 x5.toNatClampNeg) then (
                pf_knowsDeleted_89 N (pf_knowsDeleted_6 N n_6) (0 : Int32) x1 x2 x3 x5 S2)
              else (
                pf_knowsDeleted_89 N (pf_knowsDeleted_6 N n_6) (1 : Int32) x1 x2 x3 x5 S2)))
          else (
            pf_knowsDeleted_89 N (pf_knowsDeleted_6 N n_6) (0 : Int32) x1 x2 x3 x5 S))
        else (
          pf_knowsDeleted_89 N (pf_knowsDeleted_6 N n_6) (0 : Int32) x1 x2 x3 x5 S))
      else (
        pf_knowsDeleted_89 N (pf_knowsDeleted_6 N n_6) (1 : Int32) x1 x2 x3 x5 S))
def pf_knowsDeleted (N : Nat) (x1 : Int32) (x2 : Int32) (x3 : Int32) (S : mS) : Option (Int32 × mS) :=
    pf_knowsDeleted_6 N N x1 x2 x3 (0 : Int32) (0 : Int32) S
theorem fn_knowsDeleted : mFnI yX10_knowsDeleted cX10_knowsDeleted 6 (some .boolean) 3 310 := ⟨kM_201, kM_202, kM_203, kM_199, rfl, by decide +kernel, by decide⟩
set_option maxRecDepth 100000 in
set_option maxHeartbeats 4000000 in
theorem c_knowsDeleted (l : Launch) (N : Nat) (x1 : Int32) (x2 : Int32) (x3 : Int32) : mMet l yX10_knowsDeleted cX10_knowsDeleted 6 .boolean 1 [.int x1, .int x2, .int x3] (pf_knowsDeleted N x1 x2 x3) := by
  refine mStart (by decide +kernel) rfl (fun h => [(0, .ref h), (1, .int x1), (2, .int x2), (3, .int x3)]) (fun _ => Nat.le_of_ble_eq_true rfl) (fun _ => rfl) ?_
  intro dC dI h cI cZ a sz S r Sf hpf p e s m args below meth c C hr hz H locs I ls hl
  have hx := C.1
  have hb := C.2.1
  unfold pf_knowsDeleted at hpf
  have hC_6 : ∀ (n_6 : Nat), ∀ (x1 : Int32) (x2 : Int32) (x3 : Int32) (x4 : Int32) (x5 : Int32) (S : mS) (H : Heap) (locs : List Loc), mV dC dI h cI cZ a s S H locs → ∀ ls : Array Slot, lv_has ls 6 [(0, .ref h), (1, .int x1), (2, .int x2), (3, .int x3), (4, .int x4), (5, .int x5)] → pf_knowsDeleted_6 N n_6 x1 x2 x3 x4 x5 S = some (r, Sf) → W p l e (mRm 1) s m args below meth c H locs 0 0 (MQ below (mQ dC dI h cI cZ a sz r Sf) args s 0 0 (mAt h cI cZ a sz)) (F0 m 6 ls []) := by
    intro n_6
    induction n_6 with
    | zero =>
      intro x1 x2 x3 x4 x5 S H locs I ls hl hpf
      rw [pf_knowsDeleted_6] at hpf
      cases hpf
    | succ n_6 ih_6 =>
      have hC_89 : ∀ (t0 : Int32) (x1 : Int32) (x2 : Int32) (x3 : Int32) (x5 : Int32) (S : mS) (H : Heap) (locs : List Loc), mV dC dI h cI cZ a s S H locs → ∀ ls : Array Slot, lv_has ls 6 [(0, .ref h), (1, .int x1), (2, .int x2), (3, .int x3), (5, .int x5)] → pf_knowsDeleted_89 N (pf_knowsDeleted_6 N n_6) t0 x1 x2 x3 x5 S = some (r, Sf) → W p l e (mRm 1) s m args below meth c H locs 0 0 (MQ below (mQ dC dI h cI cZ a sz r Sf) args s 0 0 (mAt h cI cZ a sz)) (F0 m 89 ls [.int t0]) := by
        intro t0 x1 x2 x3 x5 S H locs I ls hl hpf
        unfold pf_knowsDeleted_89 at hpf
        refine lv_istore (lv' := [(4, .int t0), (0, .ref h), (1, .int x1), (2, .int x2), (3, .int x3), (5, .int x5)]) hx hb dX10_knowsDeleted_89 hl (by decide) rfl (fun ls hl => ?_)
        refine m_iinc (w := (1 : Int32)) hx hb (fun y1 => [(5, .int y1), (4, .int t0), (0, .ref h), (1, .int x1), (2, .int x2), (3, .int x3)]) 91 dX10_knowsDeleted_91 hl (k := 5) rfl (by decide) (by decide) (fun _ => rfl) hpf (fun y1 ls hl hpf => ?_)
        refine lv_goto (tgt := 6) hx hb dX10_knowsDeleted_94 (by decide) ?_
        exact ih_6 x1 x2 x3 t0 y1 S H locs I ls (lv_sub hl [2, 3, 4, 5, 1, 0] rfl) hpf
      intro x1 x2 x3 x4 x5 S H locs I ls hl hpf
      rw [pf_knowsDeleted_6] at hpf
      refine lv_iload hx hb dX10_knowsDeleted_6 (lv_at hl 5 rfl) ?_
      refine lv_aload_n hx hb dX10_knowsDeleted_8 rfl (lv_at hl 0 rfl) ?_
      refine m_geti C I mInt_22 kM_98 9 dX10_knowsDeleted_9 ?_
      refine b_icmp_ge hx hb 97 12 dX10_knowsDeleted_12 (by decide) hpf (fun hpf => ?_) (fun hpf => ?_)
      · refine lv_iload hx hb dX10_knowsDeleted_97 (lv_at hl 4 rfl) ?_
        exact m_retz C I hr hz 99 dX10_knowsDeleted_99 hpf
      refine lv_iload hx hb dX10_knowsDeleted_15 (lv_at hl 4 rfl) ?_
      refine b_if_ne hx hb 84 17 dX10_knowsDeleted_17 (by decide) hpf (fun hpf => ?_) (fun hpf => ?_)
      · refine lv_iconst (v := (1 : Int32)) hx hb dX10_knowsDeleted_84 (by decide) ?_
        refine lv_goto (tgt := 89) hx hb dX10_knowsDeleted_85 (by decide) ?_
        exact hC_89 (1 : Int32) x1 x2 x3 x5 S H locs I ls (lv_sub hl [0, 1, 2, 3, 5] rfl) hpf
      refine lv_aload_n hx hb dX10_knowsDeleted_20 rfl (lv_at hl 0 rfl) ?_
      refine m_getr C I mRef_26 kM_24 21 dX10_knowsDeleted_21 ?_
      refine lv_iload hx hb dX10_knowsDeleted_24 (lv_at hl 5 rfl) ?_
      refine m_iald C I mArr_26 26 dX10_knowsDeleted_26 hpf (fun hpf => ?_)
      refine lv_bipush (v := (8 : Int32)) hx hb dX10_knowsDeleted_27 (by decide) ?_
      refine b_icmp_ne hx hb 88 29 dX10_knowsDeleted_29 (by decide) hpf (fun hpf => ?_) (fun hpf => ?_)
      · refine lv_iconst (v := (0 : Int32)) hx hb dX10_knowsDeleted_88 (by decide) ?_
        exact hC_89 (0 : Int32) x1 x2 x3 x5 S H locs I ls (lv_sub hl [0, 1, 2, 3, 5] rfl) hpf
      refine lv_aload_n hx hb dX10_knowsDeleted_32 rfl (lv_at hl 0 rfl) ?_
      refine m_getr C I mRef_27 kM_25 33 dX10_knowsDeleted_33 ?_
      refine lv_iload hx hb dX10_knowsDeleted_36 (lv_at hl 5 rfl) ?_
      refine m_iald C I mArr_27 38 dX10_knowsDeleted_38 hpf (fun hpf => ?_)
      refine lv_iload_n hx hb dX10_knowsDeleted_39 rfl (lv_at hl 3 rfl) ?_
      refine b_icmp_ne hx hb 88 40 dX10_knowsDeleted_40 (by decide) hpf (fun hpf => ?_) (fun hpf => ?_)
      · refine lv_iconst (v := (0 : Int32)) hx hb dX10_knowsDeleted_88 (by decide) ?_
        exact hC_89 (0 : Int32) x1 x2 x3 x5 S H locs I ls (lv_sub hl [0, 1, 2, 3, 5] rfl) hpf
      refine lv_aload_n hx hb dX10_knowsDeleted_43 rfl (lv_at hl 0 rfl) ?_
      refine lv_iload_n hx hb dX10_knowsDeleted_44 rfl (lv_at hl 1 rfl) ?_
      refine lv_iload hx hb dX10_knowsDeleted_45 (lv_at hl 5 rfl) ?_
      refine m_callI (rest := []) (As := [.int x1, .int x5]) C I fn_isKnown (c_isKnown l N x1 x5) (by decide) 47 dX10_knowsDeleted_47 rfl hl.1 rfl (Nat.le_of_ble_eq_true rfl) hpf (fun v1 S2 H locs I hpf => ?_)
      refine b_if_eq hx hb 88 50 dX10_knowsDeleted_50 (by decide) hpf (fun hpf => ?_) (fun hpf => ?_)
      · refine lv_iconst (v := (0 : Int32)) hx hb dX10_knowsDeleted_88 (by decide) ?_
        exact hC_89 (0 : Int32) x1 x2 x3 x5 S2 H locs I ls (lv_sub hl [0, 1, 2, 3, 5] rfl) hpf
      refine lv_aload_n hx hb dX10_knowsDeleted_53 rfl (lv_at hl 0 rfl) ?_
      refine m_getr C I mRef_25 kM_23 54 dX10_knowsDeleted_54 ?_
      refine lv_iload hx hb dX10_knowsDeleted_57 (lv_at hl 5 rfl) ?_
      refine m_iald C I mArr_25 59 dX10_knowsDeleted_59 hpf (fun hpf => ?_)
      refine lv_aload_n hx hb dX10_knowsDeleted_60 rfl (lv_at hl 0 rfl) ?_
      refine m_getr C I mRef_19 kM_18 61 dX10_knowsDeleted_61 ?_
      refine lv_bipush (v := (16 : Int32)) hx hb dX10_knowsDeleted_64 (by decide) ?_
      refine lv_iload_n hx hb dX10_knowsDeleted_66 rfl (lv_at hl 1 rfl) ?_
      refine lv_imul hx hb dX10_knowsDeleted_67 ?_
      refine lv_iconst (v := (4 : Int32)) hx hb dX10_knowsDeleted_68 (by decide) ?_
      refine lv_iload_n hx hb dX10_knowsDeleted_69 rfl (lv_at hl 2 rfl) ?_
      refine lv_imul hx hb dX10_knowsDeleted_70 ?_
      refine lv_iadd hx hb dX10_knowsDeleted_71 ?_
      refine lv_aload_n hx hb dX10_knowsDeleted_72 rfl (lv_at hl 0 rfl) ?_
      refine m_getr C I mRef_24 kM_22 73 dX10_knowsDeleted_73 ?_
      refine lv_iload hx hb dX10_knowsDeleted_76 (lv_at hl 5 rfl) ?_
      refine m_iald C I mArr_24 78 dX10_knowsDeleted_78 hpf (fun hpf => ?_)
      refine lv_iadd hx hb dX10_knowsDeleted_79 ?_
      refine m_iald C I mArr_19 80 dX10_knowsDeleted_80 hpf (fun hpf => ?_)
      refine b_icmp_ge hx hb 88 81 dX10_knowsDeleted_81 (by decide) hpf (fun hpf => ?_) (fun hpf => ?_)
      · refine lv_iconst (v := (0 : Int32)) hx hb dX10_knowsDeleted_88 (by decide) ?_
        exact hC_89 (0 : Int32) x1 x2 x3 x5 S2 H locs I ls (lv_sub hl [0, 1, 2, 3, 5] rfl) hpf
      refine lv_iconst (v := (1 : Int32)) hx hb dX10_knowsDeleted_84 (by decide) ?_
      refine lv_goto (tgt := 89) hx hb dX10_knowsDeleted_85 (by decide) ?_
      exact hC_89 (1 : Int32) x1 x2 x3 x5 S2 H locs I ls (lv_sub hl [0, 1, 2, 3, 5] rfl) hpf
  refine lv_iconst (v := (0 : Int32)) hx hb dX10_knowsDeleted_0 (by decide) ?_
  refine lv_istore (lv' := [(4, .int (0 : Int32)), (0, .ref h), (1, .int x1), (2, .int x2), (3, .int x3)]) hx hb dX10_knowsDeleted_1 hl (by decide) rfl (fun ls hl => ?_)
  refine lv_iconst (v := (0 : Int32)) hx hb dX10_knowsDeleted_3 (by decide) ?_
  refine lv_istore (lv' := [(5, .int (0 : Int32)), (4, .int (0 : Int32)), (0, .ref h), (1, .int x1), (2, .int x2), (3, .int x3)]) hx hb dX10_knowsDeleted_4 hl (by decide) rfl (fun ls hl => ?_)
  exact hC_6 N x1 x2 x3 (0 : Int32) (0 : Int32) S H locs I ls (lv_sub hl [2, 3, 4, 5, 1, 0] rfl) hpf
-- ===== isMarked =====
def pf_isMarked (N : Nat) (x1 : Int32) (x2 : Int32) (S : mS) : Option (Int32 × mS) :=
    gd (((48 : Int32) * x1) + x2) 192 <|
    if (S.2 20 (((48 : Int32) * x1) + x2).toNatClampNeg) = (0 : Int32) then (
      bd (pf_knowsDeleted N x1 x1 x2 S) fun v1 S2 =>
      if v1 = (0 : Int32) then (
        some ((0 : Int32), S2))
      else (
        some ((1 : Int32), S2)))
    else (
      some ((0 : Int32), S))
theorem fn_isMarked : mFnI yX10_isMarked cX10_isMarked 3 (some .boolean) 2 313 := ⟨kM_205, kM_206, kM_207, kM_200, rfl, by decide +kernel, by decide⟩
set_option maxRecDepth 100000 in
set_option maxHeartbeats 4000000 in
theorem c_isMarked (l : Launch) (N : Nat) (x1 : Int32) (x2 : Int32) : mMet l yX10_isMarked cX10_isMarked 3 .boolean 2 [.int x1, .int x2] (pf_isMarked N x1 x2) := by
  refine mStart (by decide +kernel) rfl (fun h => [(0, .ref h), (1, .int x1), (2, .int x2)]) (fun _ => Nat.le_of_ble_eq_true rfl) (fun _ => rfl) ?_
  intro dC dI h cI cZ a sz S r Sf hpf p e s m args below meth c C hr hz H locs I ls hl
  have hx := C.1
  have hb := C.2.1
  unfold pf_isMarked at hpf
  refine lv_aload_n hx hb dX10_isMarked_0 rfl (lv_at hl 0 rfl) ?_
  refine m_getr C I mRef_20 kM_19 1 dX10_isMarked_1 ?_
  refine lv_bipush (v := (48 : Int32)) hx hb dX10_isMarked_4 (by decide) ?_
  refine lv_iload_n hx hb dX10_isMarked_6 rfl (lv_at hl 1 rfl) ?_
  refine lv_imul hx hb dX10_isMarked_7 ?_
  refine lv_iload_n hx hb dX10_isMarked_8 rfl (lv_at hl 2 rfl) ?_
  refine lv_iadd hx hb dX10_isMarked_9 ?_
  refine m_zald C I mArr_20 10 dX10_isMarked_10 hpf (fun hpf => ?_)
  refine b_if_ne hx hb 28 11 dX10_isMarked_11 (by decide) hpf (fun hpf => ?_) (fun hpf => ?_)
  · refine lv_iconst (v := (0 : Int32)) hx hb dX10_isMarked_28 (by decide) ?_
    exact m_retzc C I hr hz 29 dX10_isMarked_29 (by decide) hpf
  refine lv_aload_n hx hb dX10_isMarked_14 rfl (lv_at hl 0 rfl) ?_
  refine lv_iload_n hx hb dX10_isMarked_15 rfl (lv_at hl 1 rfl) ?_
  refine lv_iload_n hx hb dX10_isMarked_16 rfl (lv_at hl 1 rfl) ?_
  refine lv_iload_n hx hb dX10_isMarked_17 rfl (lv_at hl 2 rfl) ?_
  refine m_callI (rest := []) (As := [.int x1, .int x1, .int x2]) C I fn_knowsDeleted (c_knowsDeleted l N x1 x1 x2) (by decide) 18 dX10_isMarked_18 rfl hl.1 rfl (Nat.le_of_ble_eq_true rfl) hpf (fun v1 S2 H locs I hpf => ?_)
  refine b_if_eq hx hb 28 21 dX10_isMarked_21 (by decide) hpf (fun hpf => ?_) (fun hpf => ?_)
  · refine lv_iconst (v := (0 : Int32)) hx hb dX10_isMarked_28 (by decide) ?_
    exact m_retzc C I hr hz 29 dX10_isMarked_29 (by decide) hpf
  refine lv_iconst (v := (1 : Int32)) hx hb dX10_isMarked_24 (by decide) ?_
  refine lv_goto (tgt := 29) hx hb dX10_isMarked_25 (by decide) ?_
  exact m_retzc C I hr hz 29 dX10_isMarked_29 (by decide) hpf
-- ===== marksOf =====
def pf_marksOf_27 (N : Nat) (k_4 : Int32 → Int32 → Int32 → mS → Option (Int32 × mS)) (t0 : Int32) (t1 : Int32) (x1 : Int32) (x3 : Int32) (S : mS) : Option (Int32 × mS) :=
    nm (t1 + t0) fun y1 =>
    nm (x3 + (1 : Int32)) fun y2 =>
    k_4 x1 y1 y2 S
def pf_marksOf_4 (N : Nat) : Nat → Int32 → Int32 → Int32 → mS → Option (Int32 × mS)
  | 0 => fun _ _ _ _ => none
  | n_4 + 1 => fun x1 x2 x3 S =>
    if (S.1 21) ≤ x3 then (
      some (x2, S))
    else (
      bd (pf_isMarked N x1 x3 S) fun v1 S2 =>
      if v1 = (0 : Int32) then (
        pf_marksOf_27 N (pf_marksOf_4 N n_4) (0 : Int32) x2 x1 x3 S2)
      else (
        pf_marksOf_27 N (pf_marksOf_4 N n_4) (1 : Int32) x2 x1 x3 S2))
def pf_marksOf (N : Nat) (x1 : Int32) (S : mS) : Option (Int32 × mS) :=
    pf_marksOf_4 N N x1 (0 : Int32) (0 : Int32) S
theorem fn_marksOf : mFnI yX10_marksOf cX10_marksOf 4 (some .int) 1 304 := ⟨kM_211, kM_212, kM_213, kM_204, rfl, by decide +kernel, by decide⟩
set_option maxRecDepth 100000 in
set_option maxHeartbeats 4000000 in
theorem c_marksOf (l : Launch) (N : Nat) (x1 : Int32) : mMet l yX10_marksOf cX10_marksOf 4 .int 3 [.int x1] (pf_marksOf N x1) := by
  refine mStart (by decide +kernel) rfl (fun h => [(0, .ref h), (1, .int x1)]) (fun _ => Nat.le_of_ble_eq_true rfl) (fun _ => rfl) ?_
  intro dC dI h cI cZ a sz S r Sf hpf p e s m args below meth c C hr hz H locs I ls hl
  have hx := C.1
  have hb := C.2.1
  unfold pf_marksOf at hpf
  have hC_4 : ∀ (n_4 : Nat), ∀ (x1 : Int32) (x2 : Int32) (x3 : Int32) (S : mS) (H : Heap) (locs : List Loc), mV dC dI h cI cZ a s S H locs → ∀ ls : Array Slot, lv_has ls 4 [(0, .ref h), (1, .int x1), (2, .int x2), (3, .int x3)] → pf_marksOf_4 N n_4 x1 x2 x3 S = some (r, Sf) → W p l e (mRm 3) s m args below meth c H locs 0 0 (MQ below (mQ dC dI h cI cZ a sz r Sf) args s 0 0 (mAt h cI cZ a sz)) (F0 m 4 ls []) := by
    intro n_4
    induction n_4 with
    | zero =>
      intro x1 x2 x3 S H locs I ls hl hpf
      rw [pf_marksOf_4] at hpf
      cases hpf
    | succ n_4 ih_4 =>
      have hC_27 : ∀ (t0 : Int32) (t1 : Int32) (x1 : Int32) (x3 : Int32) (S : mS) (H : Heap) (locs : List Loc), mV dC dI h cI cZ a s S H locs → ∀ ls : Array Slot, lv_has ls 4 [(0, .ref h), (1, .int x1), (3, .int x3)] → pf_marksOf_27 N (pf_marksOf_4 N n_4) t0 t1 x1 x3 S = some (r, Sf) → W p l e (mRm 3) s m args below meth c H locs 0 0 (MQ below (mQ dC dI h cI cZ a sz r Sf) args s 0 0 (mAt h cI cZ a sz)) (F0 m 27 ls [.int t0, .int t1]) := by
        intro t0 t1 x1 x3 S H locs I ls hl hpf
        unfold pf_marksOf_27 at hpf
        refine lv_iadd hx hb dX10_marksOf_27 ?_
        refine m_isto_n hx hb (fun y1 => [(2, .int y1), (0, .ref h), (1, .int x1), (3, .int x3)]) 28 dX10_marksOf_28 rfl hl (by decide) (fun _ => rfl) hpf (fun y1 ls hl hpf => ?_)
        refine m_iinc (w := (1 : Int32)) hx hb (fun y2 => [(3, .int y2), (2, .int y1), (0, .ref h), (1, .int x1)]) 29 dX10_marksOf_29 hl (k := 3) rfl (by decide) (by decide) (fun _ => rfl) hpf (fun y2 ls hl hpf => ?_)
        refine lv_goto (tgt := 4) hx hb dX10_marksOf_32 (by decide) ?_
        exact ih_4 x1 y1 y2 S H locs I ls (lv_sub hl [2, 3, 1, 0] rfl) hpf
      intro x1 x2 x3 S H locs I ls hl hpf
      rw [pf_marksOf_4] at hpf
      refine lv_iload_n hx hb dX10_marksOf_4 rfl (lv_at hl 3 rfl) ?_
      refine lv_aload_n hx hb dX10_marksOf_5 rfl (lv_at hl 0 rfl) ?_
      refine m_geti C I mInt_21 kM_20 6 dX10_marksOf_6 ?_
      refine b_icmp_ge hx hb 35 9 dX10_marksOf_9 (by decide) hpf (fun hpf => ?_) (fun hpf => ?_)
      · refine lv_iload_n hx hb dX10_marksOf_35 rfl (lv_at hl 2 rfl) ?_
        exact m_reti C I hr hz 36 dX10_marksOf_36 hpf
      refine lv_iload_n hx hb dX10_marksOf_12 rfl (lv_at hl 2 rfl) ?_
      refine lv_aload_n hx hb dX10_marksOf_13 rfl (lv_at hl 0 rfl) ?_
      refine lv_iload_n hx hb dX10_marksOf_14 rfl (lv_at hl 1 rfl) ?_
      refine lv_iload_n hx hb dX10_marksOf_15 rfl (lv_at hl 3 rfl) ?_
      refine m_callI (rest := [.int x2]) (As := [.int x1, .int x3]) C I fn_isMarked (c_isMarked l N x1 x3) (by decide) 16 dX10_marksOf_16 rfl hl.1 rfl (Nat.le_of_ble_eq_true rfl) hpf (fun v1 S2 H locs I hpf => ?_)
      refine b_if_eq hx hb 26 19 dX10_marksOf_19 (by decide) hpf (fun hpf => ?_) (fun hpf => ?_)
      · refine lv_iconst (v := (0 : Int32)) hx hb dX10_marksOf_26 (by decide) ?_
        exact hC_27 (0 : Int32) x2 x1 x3 S2 H locs I ls (lv_sub hl [0, 1, 3] rfl) hpf
      refine lv_iconst (v := (1 : Int32)) hx hb dX10_marksOf_22 (by decide) ?_
      refine lv_goto (tgt := 27) hx hb dX10_marksOf_23 (by decide) ?_
      exact hC_27 (1 : Int32) x2 x1 x3 S2 H locs I ls (lv_sub hl [0, 1, 3] rfl) hpf
  refine lv_iconst (v := (0 : Int32)) hx hb dX10_marksOf_0 (by decide) ?_
  refine lv_istore_n (lv' := [(2, .int (0 : Int32)), (0, .ref h), (1, .int x1)]) hx hb dX10_marksOf_1 rfl hl (by decide) rfl (fun ls hl => ?_)
  refine lv_iconst (v := (0 : Int32)) hx hb dX10_marksOf_2 (by decide) ?_
  refine lv_istore_n (lv' := [(3, .int (0 : Int32)), (2, .int (0 : Int32)), (0, .ref h), (1, .int x1)]) hx hb dX10_marksOf_3 rfl hl (by decide) rfl (fun ls hl => ?_)
  exact hC_4 N x1 (0 : Int32) (0 : Int32) S H locs I ls (lv_sub hl [2, 3, 1, 0] rfl) hpf
-- ===== delete =====
def pf_delete_18 (N : Nat) (S : mS) : Option (Int32 × mS) :=
    bd (pf_fails N (1 : Int32) S) fun v1 S2 =>
    some (v1, S2)
def pf_delete_48 (N : Nat) (S : mS) : Option (Int32 × mS) :=
    bd (pf_fails N (2 : Int32) S) fun v1 S2 =>
    some (v1, S2)
def pf_delete (N : Nat) (x1 : Int32) (x2 : Int32) (S : mS) : Option (Int32 × mS) :=
    sv (mI S 0 (0 : Int32)) fun S1 =>
    bd (pf_isAt N x1 x2 S1) fun v2 S3 =>
    if v2 = (0 : Int32) then (
      pf_delete_18 N S3)
    else (
      if x2 = (0 : Int32) then (
        pf_delete_18 N S3)
      else (
        bd (pf_isFull N S3) fun v4 S5 =>
        if v4 = (0 : Int32) then (
          bd (pf_mayWrite N x1 x2 S5) fun v6 S7 =>
          if v6 = (0 : Int32) then (
            pf_delete_48 N S7)
          else (
            bd (pf_isEmpty N x2 S7) fun v8 S9 =>
            if v8 = (0 : Int32) then (
              pf_delete_48 N S9)
            else (
              bd (pf_makes N x1 (8 : Int32) x2 (0 : Int32) (0 : Int32) (0 : Int32) S9) fun v10 S11 =>
              bd (pf_marksOf N x1 S11) fun v12 S13 =>
              some (v12, S13))))
        else (
          pf_delete_48 N S5)))

set_option maxRecDepth 100000 in
set_option maxHeartbeats 4000000 in
theorem c_delete (l : Launch) (N : Nat) (x1 : Int32) (x2 : Int32) : mMet l yX10_delete cX10_delete 4 .int 6 [.int x1, .int x2] (pf_delete N x1 x2) := by
  refine mStart (by decide +kernel) rfl (fun h => [(0, .ref h), (1, .int x1), (2, .int x2)]) (fun _ => Nat.le_of_ble_eq_true rfl) (fun _ => rfl) ?_
  intro dC dI h cI cZ a sz S r Sf hpf p e s m args below meth c C hr hz H locs I ls hl
  have hx := C.1
  have hb := C.2.1
  unfold pf_delete at hpf
  have hC_18 : ∀ (S : mS) (H : Heap) (locs : List Loc), mV dC dI h cI cZ a s S H locs → ∀ ls : Array Slot, lv_has ls 4 [(0, .ref h)] → pf_delete_18 N S = some (r, Sf) → W p l e (mRm 6) s m args below meth c H locs 0 0 (MQ below (mQ dC dI h cI cZ a sz r Sf) args s 0 0 (mAt h cI cZ a sz)) (F0 m 18 ls []) := by
    intro S H locs I ls hl hpf
    unfold pf_delete_18 at hpf
    refine lv_aload_n hx hb dX10_delete_18 rfl (lv_at hl 0 rfl) ?_
    refine lv_iconst (v := (1 : Int32)) hx hb dX10_delete_19 (by decide) ?_
    refine m_callI (rest := []) (As := [.int (1 : Int32)]) C I fn_fails (c_fails l N (1 : Int32)) (by decide) 20 dX10_delete_20 rfl hl.1 rfl (Nat.le_of_ble_eq_true rfl) hpf (fun v1 S2 H locs I hpf => ?_)
    exact m_reti C I hr hz 23 dX10_delete_23 hpf
  have hC_48 : ∀ (S : mS) (H : Heap) (locs : List Loc), mV dC dI h cI cZ a s S H locs → ∀ ls : Array Slot, lv_has ls 4 [(0, .ref h)] → pf_delete_48 N S = some (r, Sf) → W p l e (mRm 6) s m args below meth c H locs 0 0 (MQ below (mQ dC dI h cI cZ a sz r Sf) args s 0 0 (mAt h cI cZ a sz)) (F0 m 48 ls []) := by
    intro S H locs I ls hl hpf
    unfold pf_delete_48 at hpf
    refine lv_aload_n hx hb dX10_delete_48 rfl (lv_at hl 0 rfl) ?_
    refine lv_iconst (v := (2 : Int32)) hx hb dX10_delete_49 (by decide) ?_
    refine m_callI (rest := []) (As := [.int (2 : Int32)]) C I fn_fails (c_fails l N (2 : Int32)) (by decide) 50 dX10_delete_50 rfl hl.1 rfl (Nat.le_of_ble_eq_true rfl) hpf (fun v1 S2 H locs I hpf => ?_)
    exact m_reti C I hr hz 53 dX10_delete_53 hpf
  refine lv_aload_n hx hb dX10_delete_0 rfl (lv_at hl 0 rfl) ?_
  refine lv_iconst (v := (0 : Int32)) hx hb dX10_delete_1 (by decide) ?_
  refine m_puti C I mInt_0 kM_62 2 dX10_delete_2 hpf (fun S1 H locs I hpf => ?_)
  refine lv_aload_n hx hb dX10_delete_5 rfl (lv_at hl 0 rfl) ?_
  refine lv_iload_n hx hb dX10_delete_6 rfl (lv_at hl 1 rfl) ?_
  refine lv_iload_n hx hb dX10_delete_7 rfl (lv_at hl 2 rfl) ?_
  refine m_callI (rest := []) (As := [.int x1, .int x2]) C I fn_isAt (c_isAt l N x1 x2) (by decide) 8 dX10_delete_8 rfl hl.1 rfl (Nat.le_of_ble_eq_true rfl) hpf (fun v2 S3 H locs I hpf => ?_)
  refine b_if_eq hx hb 18 11 dX10_delete_11 (by decide) hpf (fun hpf => ?_) (fun hpf => ?_)
  · exact hC_18 S3 H locs I ls (lv_sub hl [0] rfl) hpf
  refine lv_iload_n hx hb dX10_delete_14 rfl (lv_at hl 2 rfl) ?_
  refine b_if_ne hx hb 24 15 dX10_delete_15 (by decide) hpf (fun hpf => ?_) (fun hpf => ?_)
  · refine lv_aload_n hx hb dX10_delete_24 rfl (lv_at hl 0 rfl) ?_
    refine m_callI (rest := []) (As := []) C I fn_isFull (c_isFull l N ) (by decide) 25 dX10_delete_25 rfl hl.1 rfl (Nat.le_of_ble_eq_true rfl) hpf (fun v4 S5 H locs I hpf => ?_)
    refine b_if_ne hx hb 48 28 dX10_delete_28 (by decide) hpf (fun hpf => ?_) (fun hpf => ?_)
    · exact hC_48 S5 H locs I ls (lv_sub hl [0] rfl) hpf
    refine lv_aload_n hx hb dX10_delete_31 rfl (lv_at hl 0 rfl) ?_
    refine lv_iload_n hx hb dX10_delete_32 rfl (lv_at hl 1 rfl) ?_
    refine lv_iload_n hx hb dX10_delete_33 rfl (lv_at hl 2 rfl) ?_
    refine m_callI (rest := []) (As := [.int x1, .int x2]) C I fn_mayWrite (c_mayWrite l N x1 x2) (by decide) 34 dX10_delete_34 rfl hl.1 rfl (Nat.le_of_ble_eq_true rfl) hpf (fun v6 S7 H locs I hpf => ?_)
    refine b_if_eq hx hb 48 37 dX10_delete_37 (by decide) hpf (fun hpf => ?_) (fun hpf => ?_)
    · exact hC_48 S7 H locs I ls (lv_sub hl [0] rfl) hpf
    refine lv_aload_n hx hb dX10_delete_40 rfl (lv_at hl 0 rfl) ?_
    refine lv_iload_n hx hb dX10_delete_41 rfl (lv_at hl 2 rfl) ?_
    refine m_callI (rest := []) (As := [.int x2]) C I fn_isEmpty (c_isEmpty l N x2) (by decide) 42 dX10_delete_42 rfl hl.1 rfl (Nat.le_of_ble_eq_true rfl) hpf (fun v8 S9 H locs I hpf => ?_)
    refine b_if_ne hx hb 54 45 dX10_delete_45 (by decide) hpf (fun hpf => ?_) (fun hpf => ?_)
    · refine lv_aload_n hx hb dX10_delete_54 rfl (lv_at hl 0 rfl) ?_
      refine lv_iload_n hx hb dX10_delete_55 rfl (lv_at hl 1 rfl) ?_
      refine lv_bipush (v := (8 : Int32)) hx hb dX10_delete_56 (by decide) ?_
      refine lv_iload_n hx hb dX10_delete_58 rfl (lv_at hl 2 rfl) ?_
      refine lv_iconst (v := (0 : Int32)) hx hb dX10_delete_59 (by decide) ?_
      refine lv_iconst (v := (0 : Int32)) hx hb dX10_delete_60 (by decide) ?_
      refine lv_iconst (v := (0 : Int32)) hx hb dX10_delete_61 (by decide) ?_
      refine m_callI (rest := []) (As := [.int x1, .int (8 : Int32), .int x2, .int (0 : Int32), .int (0 : Int32), .int (0 : Int32)]) C I fn_makes (c_makes l N x1 (8 : Int32) x2 (0 : Int32) (0 : Int32) (0 : Int32)) (by decide) 62 dX10_delete_62 rfl hl.1 rfl (Nat.le_of_ble_eq_true rfl) hpf (fun v10 S11 H locs I hpf => ?_)
      refine lv_istore_n (lv' := [(3, .int v10), (0, .ref h), (1, .int x1), (2, .int x2)]) hx hb dX10_delete_65 rfl hl (by decide) rfl (fun ls hl => ?_)
      refine lv_aload_n hx hb dX10_delete_66 rfl (lv_at hl 1 rfl) ?_
      refine lv_iload_n hx hb dX10_delete_67 rfl (lv_at hl 2 rfl) ?_
      refine m_callI (rest := []) (As := [.int x1]) C I fn_marksOf (c_marksOf l N x1) (by decide) 68 dX10_delete_68 rfl hl.1 rfl (Nat.le_of_ble_eq_true rfl) hpf (fun v12 S13 H locs I hpf => ?_)
      exact m_reti C I hr hz 71 dX10_delete_71 hpf
    exact hC_48 S9 H locs I ls (lv_sub hl [0] rfl) hpf
  exact hC_18 S3 H locs I ls (lv_sub hl [0] rfl) hpf
-- ===== link =====
def pf_link_55 (N : Nat) (S : mS) : Option (Int32 × mS) :=
    bd (pf_fails N (1 : Int32) S) fun v1 S2 =>
    some (v1, S2)
def pf_link_82 (N : Nat) (S : mS) : Option (Int32 × mS) :=
    bd (pf_fails N (2 : Int32) S) fun v1 S2 =>
    some (v1, S2)
def pf_link_35 (N : Nat) (t0 : Int32) (x1 : Int32) (x2 : Int32) (x3 : Int32) (S : mS) : Option (Int32 × mS) :=
    bd (pf_isAt N x1 x2 S) fun v1 S2 =>
    if v1 = (0 : Int32) then (
      pf_link_55 N S2)
    else (
      if x2 = (0 : Int32) then (
        pf_link_55 N S2)
      else (
        if t0 = (0 : Int32) then (
          pf_link_55 N S2)
        else (
          bd (pf_isFull N S2) fun v3 S4 =>
          if v3 = (0 : Int32) then (
            bd (pf_mayWrite N x1 x2 S4) fun v5 S6 =>
            if v5 = (0 : Int32) then (
              pf_link_82 N S6)
            else (
              if x3 = x2 then (
                pf_link_82 N S6)
              else (
                gd x2 48 <|
                nm (S6.2 43 x2.toNatClampNeg) fun y7 =>
                bd (pf_makes N x1 (5 : Int32) x2 x3 (0 : Int32) (0 : Int32) S6) fun v8 S9 =>
                some (y7, S9))))
          else (
            pf_link_82 N S4))))
def pf_link (N : Nat) (x1 : Int32) (x2 : Int32) (x3 : Int32) (S : mS) : Option (Int32 × mS) :=
    sv (mI S 0 (0 : Int32)) fun S1 =>
    if x3 = (-1 : Int32) then (
      pf_link_35 N (1 : Int32) x1 x2 x3 S1)
    else (
      bs (pf_in N x3 (100 : Int32) (103 : Int32)) fun v2 =>
      if v2 = (0 : Int32) then (
        bd (pf_isAt N x1 x3 S1) fun v3 S4 =>
        if v3 = (0 : Int32) then (
          pf_link_35 N (0 : Int32) x1 x2 x3 S4)
        else (
          pf_link_35 N (1 : Int32) x1 x2 x3 S4))
      else (
        pf_link_35 N (1 : Int32) x1 x2 x3 S1))

set_option maxRecDepth 100000 in
set_option maxHeartbeats 4000000 in
theorem c_link (l : Launch) (N : Nat) (x1 : Int32) (x2 : Int32) (x3 : Int32) : mMet l yX10_link cX10_link 7 .int 6 [.int x1, .int x2, .int x3] (pf_link N x1 x2 x3) := by
  refine mStart (by decide +kernel) rfl (fun h => [(0, .ref h), (1, .int x1), (2, .int x2), (3, .int x3)]) (fun _ => Nat.le_of_ble_eq_true rfl) (fun _ => rfl) ?_
  intro dC dI h cI cZ a sz S r Sf hpf p e s m args below meth c C hr hz H locs I ls hl
  have hx := C.1
  have hb := C.2.1
  unfold pf_link at hpf
  have hC_55 : ∀ (S : mS) (H : Heap) (locs : List Loc), mV dC dI h cI cZ a s S H locs → ∀ ls : Array Slot, lv_has ls 7 [(0, .ref h)] → pf_link_55 N S = some (r, Sf) → W p l e (mRm 6) s m args below meth c H locs 0 0 (MQ below (mQ dC dI h cI cZ a sz r Sf) args s 0 0 (mAt h cI cZ a sz)) (F0 m 55 ls []) := by
    intro S H locs I ls hl hpf
    unfold pf_link_55 at hpf
    refine lv_aload_n hx hb dX10_link_55 rfl (lv_at hl 0 rfl) ?_
    refine lv_iconst (v := (1 : Int32)) hx hb dX10_link_56 (by decide) ?_
    refine m_callI (rest := []) (As := [.int (1 : Int32)]) C I fn_fails (c_fails l N (1 : Int32)) (by decide) 57 dX10_link_57 rfl hl.1 rfl (Nat.le_of_ble_eq_true rfl) hpf (fun v1 S2 H locs I hpf => ?_)
    exact m_reti C I hr hz 60 dX10_link_60 hpf
  have hC_82 : ∀ (S : mS) (H : Heap) (locs : List Loc), mV dC dI h cI cZ a s S H locs → ∀ ls : Array Slot, lv_has ls 7 [(0, .ref h)] → pf_link_82 N S = some (r, Sf) → W p l e (mRm 6) s m args below meth c H locs 0 0 (MQ below (mQ dC dI h cI cZ a sz r Sf) args s 0 0 (mAt h cI cZ a sz)) (F0 m 82 ls []) := by
    intro S H locs I ls hl hpf
    unfold pf_link_82 at hpf
    refine lv_aload_n hx hb dX10_link_82 rfl (lv_at hl 0 rfl) ?_
    refine lv_iconst (v := (2 : Int32)) hx hb dX10_link_83 (by decide) ?_
    refine m_callI (rest := []) (As := [.int (2 : Int32)]) C I fn_fails (c_fails l N (2 : Int32)) (by decide) 84 dX10_link_84 rfl hl.1 rfl (Nat.le_of_ble_eq_true rfl) hpf (fun v1 S2 H locs I hpf => ?_)
    exact m_reti C I hr hz 87 dX10_link_87 hpf
  have hC_35 : ∀ (t0 : Int32) (x1 : Int32) (x2 : Int32) (x3 : Int32) (S : mS) (H : Heap) (locs : List Loc), mV dC dI h cI cZ a s S H locs → ∀ ls : Array Slot, lv_has ls 7 [(0, .ref h), (1, .int x1), (2, .int x2), (3, .int x3)] → pf_link_35 N t0 x1 x2 x3 S = some (r, Sf) → W p l e (mRm 6) s m args below meth c H locs 0 0 (MQ below (mQ dC dI h cI cZ a sz r Sf) args s 0 0 (mAt h cI cZ a sz)) (F0 m 35 ls [.int t0]) := by
    intro t0 x1 x2 x3 S H locs I ls hl hpf
    unfold pf_link_35 at hpf
    refine lv_istore (lv' := [(4, .int t0), (0, .ref h), (1, .int x1), (2, .int x2), (3, .int x3)]) hx hb dX10_link_35 hl (by decide) rfl (fun ls hl => ?_)
    refine lv_aload_n hx hb dX10_link_37 rfl (lv_at hl 1 rfl) ?_
    refine lv_iload_n hx hb dX10_link_38 rfl (lv_at hl 2 rfl) ?_
    refine lv_iload_n hx hb dX10_link_39 rfl (lv_at hl 3 rfl) ?_
    refine m_callI (rest := []) (As := [.int x1, .int x2]) C I fn_isAt (c_isAt l N x1 x2) (by decide) 40 dX10_link_40 rfl hl.1 rfl (Nat.le_of_ble_eq_true rfl) hpf (fun v1 S2 H locs I hpf => ?_)
    refine b_if_eq hx hb 55 43 dX10_link_43 (by decide) hpf (fun hpf => ?_) (fun hpf => ?_)
    · exact hC_55 S2 H locs I ls (lv_sub hl [1] rfl) hpf
    refine lv_iload_n hx hb dX10_link_46 rfl (lv_at hl 3 rfl) ?_
    refine b_if_eq hx hb 55 47 dX10_link_47 (by decide) hpf (fun hpf => ?_) (fun hpf => ?_)
    · exact hC_55 S2 H locs I ls (lv_sub hl [1] rfl) hpf
    refine lv_iload hx hb dX10_link_50 (lv_at hl 0 rfl) ?_
    refine b_if_ne hx hb 61 52 dX10_link_52 (by decide) hpf (fun hpf => ?_) (fun hpf => ?_)
    · refine lv_aload_n hx hb dX10_link_61 rfl (lv_at hl 1 rfl) ?_
      refine m_callI (rest := []) (As := []) C I fn_isFull (c_isFull l N ) (by decide) 62 dX10_link_62 rfl hl.1 rfl (Nat.le_of_ble_eq_true rfl) hpf (fun v3 S4 H locs I hpf => ?_)
      refine b_if_ne hx hb 82 65 dX10_link_65 (by decide) hpf (fun hpf => ?_) (fun hpf => ?_)
      · exact hC_82 S4 H locs I ls (lv_sub hl [1] rfl) hpf
      refine lv_aload_n hx hb dX10_link_68 rfl (lv_at hl 1 rfl) ?_
      refine lv_iload_n hx hb dX10_link_69 rfl (lv_at hl 2 rfl) ?_
      refine lv_iload_n hx hb dX10_link_70 rfl (lv_at hl 3 rfl) ?_
      refine m_callI (rest := []) (As := [.int x1, .int x2]) C I fn_mayWrite (c_mayWrite l N x1 x2) (by decide) 71 dX10_link_71 rfl hl.1 rfl (Nat.le_of_ble_eq_true rfl) hpf (fun v5 S6 H locs I hpf => ?_)
      refine b_if_eq hx hb 82 74 dX10_link_74 (by decide) hpf (fun hpf => ?_) (fun hpf => ?_)
      · exact hC_82 S6 H locs I ls (lv_sub hl [1] rfl) hpf
      refine lv_iload_n hx hb dX10_link_77 rfl (lv_at hl 4 rfl) ?_
      refine lv_iload_n hx hb dX10_link_78 rfl (lv_at hl 3 rfl) ?_
      refine b_icmp_ne hx hb 88 79 dX10_link_79 (by decide) hpf (fun hpf => ?_) (fun hpf => ?_)
      · refine lv_aload_n hx hb dX10_link_88 rfl (lv_at hl 1 rfl) ?_
        refine m_getr C I mRef_43 kM_40 89 dX10_link_89 ?_
        refine lv_iload_n hx hb dX10_link_92 rfl (lv_at hl 3 rfl) ?_
        refine m_iald C I mArr_43 93 dX10_link_93 hpf (fun hpf => ?_)
        refine m_isto hx hb (fun y7 => [(5, .int y7), (4, .int t0), (0, .ref h), (1, .int x1), (2, .int x2), (3, .int x3)]) 94 dX10_link_94 hl (by decide) (fun _ => rfl) hpf (fun y7 ls hl hpf => ?_)
        refine lv_aload_n hx hb dX10_link_96 rfl (lv_at hl 2 rfl) ?_
        refine lv_iload_n hx hb dX10_link_97 rfl (lv_at hl 3 rfl) ?_
        refine lv_iconst (v := (5 : Int32)) hx hb dX10_link_98 (by decide) ?_
        refine lv_iload_n hx hb dX10_link_99 rfl (lv_at hl 4 rfl) ?_
        refine lv_iload_n hx hb dX10_link_100 rfl (lv_at hl 5 rfl) ?_
        refine lv_iconst (v := (0 : Int32)) hx hb dX10_link_101 (by decide) ?_
        refine lv_iconst (v := (0 : Int32)) hx hb dX10_link_102 (by decide) ?_
        refine m_callI (rest := []) (As := [.int x1, .int (5 : Int32), .int x2, .int x3, .int (0 : Int32), .int (0 : Int32)]) C I fn_makes (c_makes l N x1 (5 : Int32) x2 x3 (0 : Int32) (0 : Int32)) (by decide) 103 dX10_link_103 rfl hl.1 rfl (Nat.le_of_ble_eq_true rfl) hpf (fun v8 S9 H locs I hpf => ?_)
        refine lv_istore (lv' := [(6, .int v8), (5, .int y7), (4, .int t0), (0, .ref h), (1, .int x1), (2, .int x2), (3, .int x3)]) hx hb dX10_link_106 hl (by decide) rfl (fun ls hl => ?_)
        refine lv_iload hx hb dX10_link_108 (lv_at hl 1 rfl) ?_
        exact m_reti C I hr hz 110 dX10_link_110 hpf
      exact hC_82 S6 H locs I ls (lv_sub hl [1] rfl) hpf
    exact hC_55 S2 H locs I ls (lv_sub hl [1] rfl) hpf
  refine lv_aload_n hx hb dX10_link_0 rfl (lv_at hl 0 rfl) ?_
  refine lv_iconst (v := (0 : Int32)) hx hb dX10_link_1 (by decide) ?_
  refine m_puti C I mInt_0 kM_62 2 dX10_link_2 hpf (fun S1 H locs I hpf => ?_)
  refine lv_iload_n hx hb dX10_link_5 rfl (lv_at hl 3 rfl) ?_
  refine lv_iconst (v := (-1 : Int32)) hx hb dX10_link_6 (by decide) ?_
  refine b_icmp_eq hx hb 30 7 dX10_link_7 (by decide) hpf (fun hpf => ?_) (fun hpf => ?_)
  · refine lv_iconst (v := (1 : Int32)) hx hb dX10_link_30 (by decide) ?_
    refine lv_goto (tgt := 35) hx hb dX10_link_31 (by decide) ?_
    exact hC_35 (1 : Int32) x1 x2 x3 S1 H locs I ls (lv_sub hl [0, 1, 2, 3] rfl) hpf
  refine lv_iload_n hx hb dX10_link_10 rfl (lv_at hl 3 rfl) ?_
  refine lv_bipush (v := (100 : Int32)) hx hb dX10_link_11 (by decide) ?_
  refine lv_bipush (v := (103 : Int32)) hx hb dX10_link_13 (by decide) ?_
  refine m_callS (rest := []) (As := [.int x3, .int (100 : Int32), .int (103 : Int32)]) C I fn_in (c_in l N x3 (100 : Int32) (103 : Int32)) (by decide) 15 dX10_link_15 rfl hl.1 rfl (Nat.le_of_ble_eq_true rfl) hpf (fun v2 H locs I hpf => ?_)
  refine b_if_ne hx hb 30 18 dX10_link_18 (by decide) hpf (fun hpf => ?_) (fun hpf => ?_)
  · refine lv_iconst (v := (1 : Int32)) hx hb dX10_link_30 (by decide) ?_
    refine lv_goto (tgt := 35) hx hb dX10_link_31 (by decide) ?_
    exact hC_35 (1 : Int32) x1 x2 x3 S1 H locs I ls (lv_sub hl [0, 1, 2, 3] rfl) hpf
  refine lv_aload_n hx hb dX10_link_21 rfl (lv_at hl 0 rfl) ?_
  refine lv_iload_n hx hb dX10_link_22 rfl (lv_at hl 1 rfl) ?_
  refine lv_iload_n hx hb dX10_link_23 rfl (lv_at hl 3 rfl) ?_
  refine m_callI (rest := []) (As := [.int x1, .int x3]) C I fn_isAt (c_isAt l N x1 x3) (by decide) 24 dX10_link_24 rfl hl.1 rfl (Nat.le_of_ble_eq_true rfl) hpf (fun v3 S4 H locs I hpf => ?_)
  refine b_if_eq hx hb 34 27 dX10_link_27 (by decide) hpf (fun hpf => ?_) (fun hpf => ?_)
  · refine lv_iconst (v := (0 : Int32)) hx hb dX10_link_34 (by decide) ?_
    exact hC_35 (0 : Int32) x1 x2 x3 S4 H locs I ls (lv_sub hl [0, 1, 2, 3] rfl) hpf
  refine lv_iconst (v := (1 : Int32)) hx hb dX10_link_30 (by decide) ?_
  refine lv_goto (tgt := 35) hx hb dX10_link_31 (by decide) ?_
  exact hC_35 (1 : Int32) x1 x2 x3 S4 H locs I ls (lv_sub hl [0, 1, 2, 3] rfl) hpf
-- ===== subjectOf =====
def pf_subjectOf (N : Nat) (x1 : Int32) (S : mS) : Option (Int32 × mS) :=
    if x1 = (-1 : Int32) then (
      some ((54 : Int32), S))
    else (
      bs (pf_in N x1 (0 : Int32) (5 : Int32)) fun v1 =>
      if v1 = (0 : Int32) then (
        if x1 < (100 : Int32) then (
          some ((-1 : Int32), S))
        else (
          bd (pf_isLive N (x1 - (100 : Int32)) S) fun v2 S3 =>
          if v2 = (0 : Int32) then (
            some ((-1 : Int32), S3))
          else (
            some (((6 : Int32) + x1) - (100 : Int32), S3))))
      else (
        some (x1, S)))
theorem fn_subjectOf : mFnI yX10_subjectOf cX10_subjectOf 2 (some .int) 1 307 := ⟨kM_217, kM_218, kM_219, kM_216, rfl, by decide +kernel, by decide⟩
set_option maxRecDepth 100000 in
set_option maxHeartbeats 4000000 in
theorem c_subjectOf (l : Launch) (N : Nat) (x1 : Int32) : mMet l yX10_subjectOf cX10_subjectOf 2 .int 2 [.int x1] (pf_subjectOf N x1) := by
  refine mStart (by decide +kernel) rfl (fun h => [(0, .ref h), (1, .int x1)]) (fun _ => Nat.le_of_ble_eq_true rfl) (fun _ => rfl) ?_
  intro dC dI h cI cZ a sz S r Sf hpf p e s m args below meth c C hr hz H locs I ls hl
  have hx := C.1
  have hb := C.2.1
  unfold pf_subjectOf at hpf
  refine lv_iload_n hx hb dX10_subjectOf_0 rfl (lv_at hl 1 rfl) ?_
  refine lv_iconst (v := (-1 : Int32)) hx hb dX10_subjectOf_1 (by decide) ?_
  refine b_icmp_ne hx hb 8 2 dX10_subjectOf_2 (by decide) hpf (fun hpf => ?_) (fun hpf => ?_)
  · refine lv_iload_n hx hb dX10_subjectOf_8 rfl (lv_at hl 1 rfl) ?_
    refine lv_iconst (v := (0 : Int32)) hx hb dX10_subjectOf_9 (by decide) ?_
    refine lv_iconst (v := (5 : Int32)) hx hb dX10_subjectOf_10 (by decide) ?_
    refine m_callS (rest := []) (As := [.int x1, .int (0 : Int32), .int (5 : Int32)]) C I fn_in (c_in l N x1 (0 : Int32) (5 : Int32)) (by decide) 11 dX10_subjectOf_11 rfl hl.1 rfl (Nat.le_of_ble_eq_true rfl) hpf (fun v1 H locs I hpf => ?_)
    refine b_if_eq hx hb 19 14 dX10_subjectOf_14 (by decide) hpf (fun hpf => ?_) (fun hpf => ?_)
    · refine lv_iload_n hx hb dX10_subjectOf_19 rfl (lv_at hl 1 rfl) ?_
      refine lv_bipush (v := (100 : Int32)) hx hb dX10_subjectOf_20 (by decide) ?_
      refine b_icmp_lt hx hb 46 22 dX10_subjectOf_22 (by decide) hpf (fun hpf => ?_) (fun hpf => ?_)
      · refine lv_iconst (v := (-1 : Int32)) hx hb dX10_subjectOf_46 (by decide) ?_
        exact m_reti C I hr hz 47 dX10_subjectOf_47 hpf
      refine lv_aload_n hx hb dX10_subjectOf_25 rfl (lv_at hl 0 rfl) ?_
      refine lv_iload_n hx hb dX10_subjectOf_26 rfl (lv_at hl 1 rfl) ?_
      refine lv_bipush (v := (100 : Int32)) hx hb dX10_subjectOf_27 (by decide) ?_
      refine lv_isub hx hb dX10_subjectOf_29 ?_
      refine m_callI (rest := []) (As := [.int (x1 - (100 : Int32))]) C I fn_isLive (c_isLive l N (x1 - (100 : Int32))) (by decide) 30 dX10_subjectOf_30 rfl hl.1 rfl (Nat.le_of_ble_eq_true rfl) hpf (fun v2 S3 H locs I hpf => ?_)
      refine b_if_eq hx hb 46 33 dX10_subjectOf_33 (by decide) hpf (fun hpf => ?_) (fun hpf => ?_)
      · refine lv_iconst (v := (-1 : Int32)) hx hb dX10_subjectOf_46 (by decide) ?_
        exact m_reti C I hr hz 47 dX10_subjectOf_47 hpf
      refine lv_bipush (v := (6 : Int32)) hx hb dX10_subjectOf_36 (by decide) ?_
      refine lv_iload_n hx hb dX10_subjectOf_38 rfl (lv_at hl 1 rfl) ?_
      refine lv_iadd hx hb dX10_subjectOf_39 ?_
      refine lv_bipush (v := (100 : Int32)) hx hb dX10_subjectOf_40 (by decide) ?_
      refine lv_isub hx hb dX10_subjectOf_42 ?_
      refine lv_goto (tgt := 47) hx hb dX10_subjectOf_43 (by decide) ?_
      exact m_reti C I hr hz 47 dX10_subjectOf_47 hpf
    refine lv_iload_n hx hb dX10_subjectOf_17 rfl (lv_at hl 1 rfl) ?_
    exact m_reti C I hr hz 18 dX10_subjectOf_18 hpf
  refine lv_bipush (v := (54 : Int32)) hx hb dX10_subjectOf_5 (by decide) ?_
  exact m_reti C I hr hz 7 dX10_subjectOf_7 hpf
-- ===== rule =====
def pf_rule_43 (N : Nat) (S : mS) : Option (Int32 × mS) :=
    bd (pf_fails N (1 : Int32) S) fun v1 S2 =>
    some (v1, S2)
def pf_rule_81 (N : Nat) (S : mS) : Option (Int32 × mS) :=
    bd (pf_fails N (3 : Int32) S) fun v1 S2 =>
    some (v1, S2)
def pf_rule (N : Nat) (x1 : Int32) (x2 : Int32) (x3 : Int32) (x4 : Int32) (x5 : Int32) (x6 : Int32) (S : mS) : Option (Int32 × mS) :=
    sv (mI S 0 (0 : Int32)) fun S1 =>
    bd (pf_isAt N x1 x2 S1) fun v2 S3 =>
    if v2 = (0 : Int32) then (
      pf_rule_43 N S3)
    else (
      bd (pf_subjectOf N x3 S3) fun v4 S5 =>
      if v4 = (-1 : Int32) then (
        pf_rule_43 N S5)
      else (
        bs (pf_in N x4 (0 : Int32) (2 : Int32)) fun v6 =>
        if v6 = (0 : Int32) then (
          pf_rule_43 N S5)
        else (
          bs (pf_in N x5 (0 : Int32) (1 : Int32)) fun v7 =>
          if v7 = (0 : Int32) then (
            pf_rule_43 N S5)
          else (
            bs (pf_in N x6 (0 : Int32) (2 : Int32)) fun v8 =>
            if v8 = (0 : Int32) then (
              bd (pf_fails N (2 : Int32) S5) fun v19 S20 =>
              some (v19, S20))
            else (
              bd (pf_isFull N S5) fun v9 S10 =>
              if v9 = (0 : Int32) then (
                bd (pf_mayWrite N x1 x2 S10) fun v11 S12 =>
                if v11 = (0 : Int32) then (
                  pf_rule_81 N S12)
                else (
                  bd (pf_subjectOf N x3 S12) fun v13 S14 =>
                  nm ((((6 : Int32) * v13) + ((2 : Int32) * x4)) + x5) fun y15 =>
                  gd (((330 : Int32) * x2) + y15) 15840 <|
                  nm (S14.2 51 (((330 : Int32) * x2) + y15).toNatClampNeg) fun y16 =>
                  bd (pf_makes N x1 (6 : Int32) x2 y15 x6 (0 : Int32) S14) fun v17 S18 =>
                  some (y16, S18)))
              else (
                pf_rule_81 N S10))))))

set_option maxRecDepth 100000 in
set_option maxHeartbeats 4000000 in
theorem c_rule (l : Launch) (N : Nat) (x1 : Int32) (x2 : Int32) (x3 : Int32) (x4 : Int32) (x5 : Int32) (x6 : Int32) : mMet l yX10_rule cX10_rule 10 .int 6 [.int x1, .int x2, .int x3, .int x4, .int x5, .int x6] (pf_rule N x1 x2 x3 x4 x5 x6) := by
  refine mStart (by decide +kernel) rfl (fun h => [(0, .ref h), (1, .int x1), (2, .int x2), (3, .int x3), (4, .int x4), (5, .int x5), (6, .int x6)]) (fun _ => Nat.le_of_ble_eq_true rfl) (fun _ => rfl) ?_
  intro dC dI h cI cZ a sz S r Sf hpf p e s m args below meth c C hr hz H locs I ls hl
  have hx := C.1
  have hb := C.2.1
  unfold pf_rule at hpf
  have hC_43 : ∀ (S : mS) (H : Heap) (locs : List Loc), mV dC dI h cI cZ a s S H locs → ∀ ls : Array Slot, lv_has ls 10 [(0, .ref h)] → pf_rule_43 N S = some (r, Sf) → W p l e (mRm 6) s m args below meth c H locs 0 0 (MQ below (mQ dC dI h cI cZ a sz r Sf) args s 0 0 (mAt h cI cZ a sz)) (F0 m 43 ls []) := by
    intro S H locs I ls hl hpf
    unfold pf_rule_43 at hpf
    refine lv_aload_n hx hb dX10_rule_43 rfl (lv_at hl 0 rfl) ?_
    refine lv_iconst (v := (1 : Int32)) hx hb dX10_rule_44 (by decide) ?_
    refine m_callI (rest := []) (As := [.int (1 : Int32)]) C I fn_fails (c_fails l N (1 : Int32)) (by decide) 45 dX10_rule_45 rfl hl.1 rfl (Nat.le_of_ble_eq_true rfl) hpf (fun v1 S2 H locs I hpf => ?_)
    exact m_reti C I hr hz 48 dX10_rule_48 hpf
  have hC_81 : ∀ (S : mS) (H : Heap) (locs : List Loc), mV dC dI h cI cZ a s S H locs → ∀ ls : Array Slot, lv_has ls 10 [(0, .ref h)] → pf_rule_81 N S = some (r, Sf) → W p l e (mRm 6) s m args below meth c H locs 0 0 (MQ below (mQ dC dI h cI cZ a sz r Sf) args s 0 0 (mAt h cI cZ a sz)) (F0 m 81 ls []) := by
    intro S H locs I ls hl hpf
    unfold pf_rule_81 at hpf
    refine lv_aload_n hx hb dX10_rule_81 rfl (lv_at hl 0 rfl) ?_
    refine lv_iconst (v := (3 : Int32)) hx hb dX10_rule_82 (by decide) ?_
    refine m_callI (rest := []) (As := [.int (3 : Int32)]) C I fn_fails (c_fails l N (3 : Int32)) (by decide) 83 dX10_rule_83 rfl hl.1 rfl (Nat.le_of_ble_eq_true rfl) hpf (fun v1 S2 H locs I hpf => ?_)
    exact m_reti C I hr hz 86 dX10_rule_86 hpf
  refine lv_aload_n hx hb dX10_rule_0 rfl (lv_at hl 0 rfl) ?_
  refine lv_iconst (v := (0 : Int32)) hx hb dX10_rule_1 (by decide) ?_
  refine m_puti C I mInt_0 kM_62 2 dX10_rule_2 hpf (fun S1 H locs I hpf => ?_)
  refine lv_aload_n hx hb dX10_rule_5 rfl (lv_at hl 0 rfl) ?_
  refine lv_iload_n hx hb dX10_rule_6 rfl (lv_at hl 1 rfl) ?_
  refine lv_iload_n hx hb dX10_rule_7 rfl (lv_at hl 2 rfl) ?_
  refine m_callI (rest := []) (As := [.int x1, .int x2]) C I fn_isAt (c_isAt l N x1 x2) (by decide) 8 dX10_rule_8 rfl hl.1 rfl (Nat.le_of_ble_eq_true rfl) hpf (fun v2 S3 H locs I hpf => ?_)
  refine b_if_eq hx hb 43 11 dX10_rule_11 (by decide) hpf (fun hpf => ?_) (fun hpf => ?_)
  · exact hC_43 S3 H locs I ls (lv_sub hl [0] rfl) hpf
  refine lv_aload_n hx hb dX10_rule_14 rfl (lv_at hl 0 rfl) ?_
  refine lv_iload_n hx hb dX10_rule_15 rfl (lv_at hl 3 rfl) ?_
  refine m_callI (rest := []) (As := [.int x3]) C I fn_subjectOf (c_subjectOf l N x3) (by decide) 16 dX10_rule_16 rfl hl.1 rfl (Nat.le_of_ble_eq_true rfl) hpf (fun v4 S5 H locs I hpf => ?_)
  refine lv_iconst (v := (-1 : Int32)) hx hb dX10_rule_19 (by decide) ?_
  refine b_icmp_eq hx hb 43 20 dX10_rule_20 (by decide) hpf (fun hpf => ?_) (fun hpf => ?_)
  · exact hC_43 S5 H locs I ls (lv_sub hl [0] rfl) hpf
  refine lv_iload hx hb dX10_rule_23 (lv_at hl 4 rfl) ?_
  refine lv_iconst (v := (0 : Int32)) hx hb dX10_rule_25 (by decide) ?_
  refine lv_iconst (v := (2 : Int32)) hx hb dX10_rule_26 (by decide) ?_
  refine m_callS (rest := []) (As := [.int x4, .int (0 : Int32), .int (2 : Int32)]) C I fn_in (c_in l N x4 (0 : Int32) (2 : Int32)) (by decide) 27 dX10_rule_27 rfl hl.1 rfl (Nat.le_of_ble_eq_true rfl) hpf (fun v6 H locs I hpf => ?_)
  refine b_if_eq hx hb 43 30 dX10_rule_30 (by decide) hpf (fun hpf => ?_) (fun hpf => ?_)
  · exact hC_43 S5 H locs I ls (lv_sub hl [0] rfl) hpf
  refine lv_iload hx hb dX10_rule_33 (lv_at hl 5 rfl) ?_
  refine lv_iconst (v := (0 : Int32)) hx hb dX10_rule_35 (by decide) ?_
  refine lv_iconst (v := (1 : Int32)) hx hb dX10_rule_36 (by decide) ?_
  refine m_callS (rest := []) (As := [.int x5, .int (0 : Int32), .int (1 : Int32)]) C I fn_in (c_in l N x5 (0 : Int32) (1 : Int32)) (by decide) 37 dX10_rule_37 rfl hl.1 rfl (Nat.le_of_ble_eq_true rfl) hpf (fun v7 H locs I hpf => ?_)
  refine b_if_ne hx hb 49 40 dX10_rule_40 (by decide) hpf (fun hpf => ?_) (fun hpf => ?_)
  · refine lv_iload hx hb dX10_rule_49 (lv_at hl 6 rfl) ?_
    refine lv_iconst (v := (0 : Int32)) hx hb dX10_rule_51 (by decide) ?_
    refine lv_iconst (v := (2 : Int32)) hx hb dX10_rule_52 (by decide) ?_
    refine m_callS (rest := []) (As := [.int x6, .int (0 : Int32), .int (2 : Int32)]) C I fn_in (c_in l N x6 (0 : Int32) (2 : Int32)) (by decide) 53 dX10_rule_53 rfl hl.1 rfl (Nat.le_of_ble_eq_true rfl) hpf (fun v8 H locs I hpf => ?_)
    refine b_if_ne hx hb 65 56 dX10_rule_56 (by decide) hpf (fun hpf => ?_) (fun hpf => ?_)
    · refine lv_aload_n hx hb dX10_rule_65 rfl (lv_at hl 0 rfl) ?_
      refine m_callI (rest := []) (As := []) C I fn_isFull (c_isFull l N ) (by decide) 66 dX10_rule_66 rfl hl.1 rfl (Nat.le_of_ble_eq_true rfl) hpf (fun v9 S10 H locs I hpf => ?_)
      refine b_if_ne hx hb 81 69 dX10_rule_69 (by decide) hpf (fun hpf => ?_) (fun hpf => ?_)
      · exact hC_81 S10 H locs I ls (lv_sub hl [0] rfl) hpf
      refine lv_aload_n hx hb dX10_rule_72 rfl (lv_at hl 0 rfl) ?_
      refine lv_iload_n hx hb dX10_rule_73 rfl (lv_at hl 1 rfl) ?_
      refine lv_iload_n hx hb dX10_rule_74 rfl (lv_at hl 2 rfl) ?_
      refine m_callI (rest := []) (As := [.int x1, .int x2]) C I fn_mayWrite (c_mayWrite l N x1 x2) (by decide) 75 dX10_rule_75 rfl hl.1 rfl (Nat.le_of_ble_eq_true rfl) hpf (fun v11 S12 H locs I hpf => ?_)
      refine b_if_ne hx hb 87 78 dX10_rule_78 (by decide) hpf (fun hpf => ?_) (fun hpf => ?_)
      · refine lv_bipush (v := (6 : Int32)) hx hb dX10_rule_87 (by decide) ?_
        refine lv_aload_n hx hb dX10_rule_89 rfl (lv_at hl 0 rfl) ?_
        refine lv_iload_n hx hb dX10_rule_90 rfl (lv_at hl 3 rfl) ?_
        refine m_callI (rest := [.int (6 : Int32)]) (As := [.int x3]) C I fn_subjectOf (c_subjectOf l N x3) (by decide) 91 dX10_rule_91 rfl hl.1 rfl (Nat.le_of_ble_eq_true rfl) hpf (fun v13 S14 H locs I hpf => ?_)
        refine lv_imul hx hb dX10_rule_94 ?_
        refine lv_iconst (v := (2 : Int32)) hx hb dX10_rule_95 (by decide) ?_
        refine lv_iload hx hb dX10_rule_96 (lv_at hl 4 rfl) ?_
        refine lv_imul hx hb dX10_rule_98 ?_
        refine lv_iadd hx hb dX10_rule_99 ?_
        refine lv_iload hx hb dX10_rule_100 (lv_at hl 5 rfl) ?_
        refine lv_iadd hx hb dX10_rule_102 ?_
        refine m_isto hx hb (fun y15 => [(7, .int y15), (0, .ref h), (1, .int x1), (2, .int x2), (3, .int x3), (4, .int x4), (5, .int x5), (6, .int x6)]) 103 dX10_rule_103 hl (by decide) (fun _ => rfl) hpf (fun y15 ls hl hpf => ?_)
        refine lv_aload_n hx hb dX10_rule_105 rfl (lv_at hl 1 rfl) ?_
        refine m_getr C I mRef_51 kM_47 106 dX10_rule_106 ?_
        refine lv_sipush (v := (330 : Int32)) hx hb dX10_rule_109 (by decide) ?_
        refine lv_iload_n hx hb dX10_rule_112 rfl (lv_at hl 3 rfl) ?_
        refine lv_imul hx hb dX10_rule_113 ?_
        refine lv_iload hx hb dX10_rule_114 (lv_at hl 0 rfl) ?_
        refine lv_iadd hx hb dX10_rule_116 ?_
        refine m_iald C I mArr_51 117 dX10_rule_117 hpf (fun hpf => ?_)
        refine m_isto hx hb (fun y16 => [(8, .int y16), (7, .int y15), (0, .ref h), (1, .int x1), (2, .int x2), (3, .int x3), (4, .int x4), (5, .int x5), (6, .int x6)]) 118 dX10_rule_118 hl (by decide) (fun _ => rfl) hpf (fun y16 ls hl hpf => ?_)
        refine lv_aload_n hx hb dX10_rule_120 rfl (lv_at hl 2 rfl) ?_
        refine lv_iload_n hx hb dX10_rule_121 rfl (lv_at hl 3 rfl) ?_
        refine lv_bipush (v := (6 : Int32)) hx hb dX10_rule_122 (by decide) ?_
        refine lv_iload_n hx hb dX10_rule_124 rfl (lv_at hl 4 rfl) ?_
        refine lv_iload hx hb dX10_rule_125 (lv_at hl 1 rfl) ?_
        refine lv_iload hx hb dX10_rule_127 (lv_at hl 8 rfl) ?_
        refine lv_iconst (v := (0 : Int32)) hx hb dX10_rule_129 (by decide) ?_
        refine m_callI (rest := []) (As := [.int x1, .int (6 : Int32), .int x2, .int y15, .int x6, .int (0 : Int32)]) C I fn_makes (c_makes l N x1 (6 : Int32) x2 y15 x6 (0 : Int32)) (by decide) 130 dX10_rule_130 rfl hl.1 rfl (Nat.le_of_ble_eq_true rfl) hpf (fun v17 S18 H locs I hpf => ?_)
        refine lv_istore (lv' := [(9, .int v17), (8, .int y16), (7, .int y15), (0, .ref h), (1, .int x1), (2, .int x2), (3, .int x3), (4, .int x4), (5, .int x5), (6, .int x6)]) hx hb dX10_rule_133 hl (by decide) rfl (fun ls hl => ?_)
        refine lv_iload hx hb dX10_rule_135 (lv_at hl 1 rfl) ?_
        exact m_reti C I hr hz 137 dX10_rule_137 hpf
      exact hC_81 S12 H locs I ls (lv_sub hl [0] rfl) hpf
    refine lv_aload_n hx hb dX10_rule_59 rfl (lv_at hl 0 rfl) ?_
    refine lv_iconst (v := (2 : Int32)) hx hb dX10_rule_60 (by decide) ?_
    refine m_callI (rest := []) (As := [.int (2 : Int32)]) C I fn_fails (c_fails l N (2 : Int32)) (by decide) 61 dX10_rule_61 rfl hl.1 rfl (Nat.le_of_ble_eq_true rfl) hpf (fun v19 S20 H locs I hpf => ?_)
    exact m_reti C I hr hz 64 dX10_rule_64 hpf
  exact hC_43 S5 H locs I ls (lv_sub hl [0] rfl) hpf
-- ===== exchange =====
def pf_exchange_19 (N : Nat) (S : mS) : Option (Int32 × mS) :=
    bd (pf_fails N (1 : Int32) S) fun v1 S2 =>
    some (v1, S2)
def pf_exchange_41 (N : Nat) (S : mS) : Option (Int32 × mS) :=
    bd (pf_fails N (2 : Int32) S) fun v1 S2 =>
    some (v1, S2)
def pf_exchange_227 (N : Nat) (x4 : Int32) (S : mS) : Option (Int32 × mS) :=
    sv (mI S 37 (-1 : Int32)) fun S1 =>
    some (x4, S1)
def pf_exchange_191 (N : Nat) (k_130 : Int32 → Int32 → Int32 → Int32 → mS → Option (Int32 × mS)) (t0 : Int32) (x1 : Int32) (x2 : Int32) (x4 : Int32) (x5 : Int32) (S : mS) : Option (Int32 × mS) :=
    gd (((16 : Int32) * x1) + x5) 64 <| sv (mA S 19 (((16 : Int32) * x1) + x5).toNatClampNeg t0) fun S1 =>
    gd (((16 : Int32) * x2) + x5) 64 <| sv (mA S1 19 (((16 : Int32) * x2) + x5).toNatClampNeg t0) fun S2 =>
    nm (x5 + (1 : Int32)) fun y3 =>
    k_130 x1 x2 x4 y3 S2
def pf_exchange_130 (N : Nat) (k_227 : Int32 → mS → Option (Int32 × mS)) : Nat → Int32 → Int32 → Int32 → Int32 → mS → Option (Int32 × mS)
  | 0 => fun _ _ _ _ _ => none
  | n_130 + 1 => fun x1 x2 x4 x5 S =>
    if (16 : Int32) ≤ x5 then (
      k_227 x4 S)
    else (
      gd (((16 : Int32) * x1) + x5) 64 <|
      gd (((16 : Int32) * x2) + x5) 64 <|
      if (S.2 19 (((16 : Int32) * x1) + x5).toNatClampNeg) ≤ (S.2 19 (((16 : Int32) * x2) + x5).toNatClampNeg) then (
        gd (((16 : Int32) * x2) + x5) 64 <|
        pf_exchange_191 N (pf_exchange_130 N k_227 n_130) (S.2 19 (((16 : Int32) * x2) + x5).toNatClampNeg) x1 x2 x4 x5 S)
      else (
        gd (((16 : Int32) * x1) + x5) 64 <|
        pf_exchange_191 N (pf_exchange_130 N k_227 n_130) (S.2 19 (((16 : Int32) * x1) + x5).toNatClampNeg) x1 x2 x4 x5 S))
def pf_exchange_127 (N : Nat) (x1 : Int32) (x2 : Int32) (x4 : Int32) (S : mS) : Option (Int32 × mS) :=
    pf_exchange_130 N (pf_exchange_227 N) N x1 x2 x4 (0 : Int32) S
def pf_exchange_121 (N : Nat) (k_53 : Int32 → Int32 → Int32 → Int32 → Int32 → mS → Option (Int32 × mS)) (x1 : Int32) (x2 : Int32) (x3 : Int32) (x4 : Int32) (x5 : Int32) (S : mS) : Option (Int32 × mS) :=
    nm (x5 + (1 : Int32)) fun y1 =>
    k_53 x1 x2 x3 x4 y1 S
def pf_exchange_53 (N : Nat) (k_127 : Int32 → Int32 → Int32 → mS → Option (Int32 × mS)) : Nat → Int32 → Int32 → Int32 → Int32 → Int32 → mS → Option (Int32 × mS)
  | 0 => fun _ _ _ _ _ _ => none
  | n_53 + 1 => fun x1 x2 x3 x4 x5 S =>
    if (S.1 22) ≤ x5 then (
      k_127 x1 x2 x4 S)
    else (
      gd x5 250 <|
      nm (S.2 36 x5.toNatClampNeg) fun y1 =>
      if x3 ≤ x4 then (
        pf_exchange_121 N (pf_exchange_53 N k_127 n_53) x1 x2 x3 x4 x5 S)
      else (
        bd (pf_isKnown N x1 y1 S) fun v2 S3 =>
        if v2 = (0 : Int32) then (
          pf_exchange_121 N (pf_exchange_53 N k_127 n_53) x1 x2 x3 x4 x5 S3)
        else (
          bd (pf_isKnown N x2 y1 S3) fun v4 S5 =>
          if v4 = (0 : Int32) then (
            gd y1 250 <|
            gd (((20 : Int32) * x2) + (S5.2 24 y1.toNatClampNeg)) 64 <|
            gd (((20 : Int32) * x2) + (S5.2 24 y1.toNatClampNeg)) 64 <| sv (mA S5 19 (((20 : Int32) * x2) + (S5.2 24 y1.toNatClampNeg)).toNatClampNeg ((S5.2 19 (((20 : Int32) * x2) + (S5.2 24 y1.toNatClampNeg)).toNatClampNeg) + (1 : Int32))) fun S6 =>
            nm (x4 + (1 : Int32)) fun y7 =>
            pf_exchange_121 N (pf_exchange_53 N k_127 n_53) x1 x2 x3 y7 x5 S6)
          else (
            pf_exchange_121 N (pf_exchange_53 N k_127 n_53) x1 x2 x3 x4 x5 S5))))
def pf_exchange (N : Nat) (x1 : Int32) (x2 : Int32) (x3 : Int32) (S : mS) : Option (Int32 × mS) :=
    sv (mI S 0 (0 : Int32)) fun S1 =>
    bs (pf_isMaster N x1) fun v2 =>
    if v2 = (0 : Int32) then (
      pf_exchange_19 N S1)
    else (
      bs (pf_isMaster N x2) fun v3 =>
      if v3 = (0 : Int32) then (
        pf_exchange_19 N S1)
      else (
        if x1 = x2 then (
          pf_exchange_41 N S1)
        else (
          bs (pf_in N x3 (0 : Int32) (250 : Int32)) fun v4 =>
          if v4 = (0 : Int32) then (
            pf_exchange_41 N S1)
          else (
            pf_exchange_53 N (pf_exchange_127 N) N x1 x2 x3 (0 : Int32) (0 : Int32) S1))))

set_option maxRecDepth 100000 in
set_option maxHeartbeats 4000000 in
theorem c_exchange (l : Launch) (N : Nat) (x1 : Int32) (x2 : Int32) (x3 : Int32) : mMet l yX10_exchange cX10_exchange 7 .int 2 [.int x1, .int x2, .int x3] (pf_exchange N x1 x2 x3) := by
  refine mStart (by decide +kernel) rfl (fun h => [(0, .ref h), (1, .int x1), (2, .int x2), (3, .int x3)]) (fun _ => Nat.le_of_ble_eq_true rfl) (fun _ => rfl) ?_
  intro dC dI h cI cZ a sz S r Sf hpf p e s m args below meth c C hr hz H locs I ls hl
  have hx := C.1
  have hb := C.2.1
  unfold pf_exchange at hpf
  have hC_19 : ∀ (S : mS) (H : Heap) (locs : List Loc), mV dC dI h cI cZ a s S H locs → ∀ ls : Array Slot, lv_has ls 7 [(0, .ref h)] → pf_exchange_19 N S = some (r, Sf) → W p l e (mRm 2) s m args below meth c H locs 0 0 (MQ below (mQ dC dI h cI cZ a sz r Sf) args s 0 0 (mAt h cI cZ a sz)) (F0 m 19 ls []) := by
    intro S H locs I ls hl hpf
    unfold pf_exchange_19 at hpf
    refine lv_aload_n hx hb dX10_exchange_19 rfl (lv_at hl 0 rfl) ?_
    refine lv_iconst (v := (1 : Int32)) hx hb dX10_exchange_20 (by decide) ?_
    refine m_callI (rest := []) (As := [.int (1 : Int32)]) C I fn_fails (c_fails l N (1 : Int32)) (by decide) 21 dX10_exchange_21 rfl hl.1 rfl (Nat.le_of_ble_eq_true rfl) hpf (fun v1 S2 H locs I hpf => ?_)
    exact m_reti C I hr hz 24 dX10_exchange_24 hpf
  have hC_41 : ∀ (S : mS) (H : Heap) (locs : List Loc), mV dC dI h cI cZ a s S H locs → ∀ ls : Array Slot, lv_has ls 7 [(0, .ref h)] → pf_exchange_41 N S = some (r, Sf) → W p l e (mRm 2) s m args below meth c H locs 0 0 (MQ below (mQ dC dI h cI cZ a sz r Sf) args s 0 0 (mAt h cI cZ a sz)) (F0 m 41 ls []) := by
    intro S H locs I ls hl hpf
    unfold pf_exchange_41 at hpf
    refine lv_aload_n hx hb dX10_exchange_41 rfl (lv_at hl 0 rfl) ?_
    refine lv_iconst (v := (2 : Int32)) hx hb dX10_exchange_42 (by decide) ?_
    refine m_callI (rest := []) (As := [.int (2 : Int32)]) C I fn_fails (c_fails l N (2 : Int32)) (by decide) 43 dX10_exchange_43 rfl hl.1 rfl (Nat.le_of_ble_eq_true rfl) hpf (fun v1 S2 H locs I hpf => ?_)
    exact m_reti C I hr hz 46 dX10_exchange_46 hpf
  have hC_227 : ∀ (x4 : Int32) (S : mS) (H : Heap) (locs : List Loc), mV dC dI h cI cZ a s S H locs → ∀ ls : Array Slot, lv_has ls 7 [(0, .ref h), (4, .int x4)] → pf_exchange_227 N x4 S = some (r, Sf) → W p l e (mRm 2) s m args below meth c H locs 0 0 (MQ below (mQ dC dI h cI cZ a sz r Sf) args s 0 0 (mAt h cI cZ a sz)) (F0 m 227 ls []) := by
    intro x4 S H locs I ls hl hpf
    unfold pf_exchange_227 at hpf
    refine lv_aload_n hx hb dX10_exchange_227 rfl (lv_at hl 0 rfl) ?_
    refine lv_iconst (v := (-1 : Int32)) hx hb dX10_exchange_228 (by decide) ?_
    refine m_puti C I mInt_37 kM_34 229 dX10_exchange_229 hpf (fun S1 H locs I hpf => ?_)
    refine lv_iload hx hb dX10_exchange_232 (lv_at hl 1 rfl) ?_
    exact m_reti C I hr hz 234 dX10_exchange_234 hpf
  have hC_130 : ∀ (n_130 : Nat), ∀ (x1 : Int32) (x2 : Int32) (x4 : Int32) (x5 : Int32) (S : mS) (H : Heap) (locs : List Loc), mV dC dI h cI cZ a s S H locs → ∀ ls : Array Slot, lv_has ls 7 [(0, .ref h), (1, .int x1), (2, .int x2), (4, .int x4), (5, .int x5)] → pf_exchange_130 N (pf_exchange_227 N) n_130 x1 x2 x4 x5 S = some (r, Sf) → W p l e (mRm 2) s m args below meth c H locs 0 0 (MQ below (mQ dC dI h cI cZ a sz r Sf) args s 0 0 (mAt h cI cZ a sz)) (F0 m 130 ls []) := by
    intro n_130
    induction n_130 with
    | zero =>
      intro x1 x2 x4 x5 S H locs I ls hl hpf
      rw [pf_exchange_130] at hpf
      cases hpf
    | succ n_130 ih_130 =>
      have hC_191 : ∀ (t0 : Int32) (x1 : Int32) (x2 : Int32) (x4 : Int32) (x5 : Int32) (S : mS) (H : Heap) (locs : List Loc), mV dC dI h cI cZ a s S H locs → ∀ ls : Array Slot, lv_has ls 7 [(0, .ref h), (1, .int x1), (2, .int x2), (4, .int x4), (5, .int x5)] → pf_exchange_191 N (pf_exchange_130 N (pf_exchange_227 N) n_130) t0 x1 x2 x4 x5 S = some (r, Sf) → W p l e (mRm 2) s m args below meth c H locs 0 0 (MQ below (mQ dC dI h cI cZ a sz r Sf) args s 0 0 (mAt h cI cZ a sz)) (F0 m 191 ls [.int t0]) := by
        intro t0 x1 x2 x4 x5 S H locs I ls hl hpf
        unfold pf_exchange_191 at hpf
        refine lv_istore (lv' := [(6, .int t0), (0, .ref h), (1, .int x1), (2, .int x2), (4, .int x4), (5, .int x5)]) hx hb dX10_exchange_191 hl (by decide) rfl (fun ls hl => ?_)
        refine lv_aload_n hx hb dX10_exchange_193 rfl (lv_at hl 1 rfl) ?_
        refine m_getr C I mRef_19 kM_18 194 dX10_exchange_194 ?_
        refine lv_bipush (v := (16 : Int32)) hx hb dX10_exchange_197 (by decide) ?_
        refine lv_iload_n hx hb dX10_exchange_199 rfl (lv_at hl 2 rfl) ?_
        refine lv_imul hx hb dX10_exchange_200 ?_
        refine lv_iload hx hb dX10_exchange_201 (lv_at hl 5 rfl) ?_
        refine lv_iadd hx hb dX10_exchange_203 ?_
        refine lv_iload hx hb dX10_exchange_204 (lv_at hl 0 rfl) ?_
        refine m_iast C I mArr_19 206 dX10_exchange_206 hpf (fun S1 H locs I hpf => ?_)
        refine lv_aload_n hx hb dX10_exchange_207 rfl (lv_at hl 1 rfl) ?_
        refine m_getr C I mRef_19 kM_18 208 dX10_exchange_208 ?_
        refine lv_bipush (v := (16 : Int32)) hx hb dX10_exchange_211 (by decide) ?_
        refine lv_iload_n hx hb dX10_exchange_213 rfl (lv_at hl 3 rfl) ?_
        refine lv_imul hx hb dX10_exchange_214 ?_
        refine lv_iload hx hb dX10_exchange_215 (lv_at hl 5 rfl) ?_
        refine lv_iadd hx hb dX10_exchange_217 ?_
        refine lv_iload hx hb dX10_exchange_218 (lv_at hl 0 rfl) ?_
        refine m_iast C I mArr_19 220 dX10_exchange_220 hpf (fun S2 H locs I hpf => ?_)
        refine m_iinc (w := (1 : Int32)) hx hb (fun y3 => [(5, .int y3), (6, .int t0), (0, .ref h), (1, .int x1), (2, .int x2), (4, .int x4)]) 221 dX10_exchange_221 hl (k := 5) rfl (by decide) (by decide) (fun _ => rfl) hpf (fun y3 ls hl hpf => ?_)
        refine lv_goto (tgt := 130) hx hb dX10_exchange_224 (by decide) ?_
        exact ih_130 x1 x2 x4 y3 S2 H locs I ls (lv_sub hl [2, 3, 4, 5, 0] rfl) hpf
      intro x1 x2 x4 x5 S H locs I ls hl hpf
      rw [pf_exchange_130] at hpf
      refine lv_iload hx hb dX10_exchange_130 (lv_at hl 4 rfl) ?_
      refine lv_bipush (v := (16 : Int32)) hx hb dX10_exchange_132 (by decide) ?_
      refine b_icmp_ge hx hb 227 134 dX10_exchange_134 (by decide) hpf (fun hpf => ?_) (fun hpf => ?_)
      · exact hC_227 x4 S H locs I ls (lv_sub hl [0, 3] rfl) hpf
      refine lv_aload_n hx hb dX10_exchange_137 rfl (lv_at hl 0 rfl) ?_
      refine m_getr C I mRef_19 kM_18 138 dX10_exchange_138 ?_
      refine lv_bipush (v := (16 : Int32)) hx hb dX10_exchange_141 (by decide) ?_
      refine lv_iload_n hx hb dX10_exchange_143 rfl (lv_at hl 1 rfl) ?_
      refine lv_imul hx hb dX10_exchange_144 ?_
      refine lv_iload hx hb dX10_exchange_145 (lv_at hl 4 rfl) ?_
      refine lv_iadd hx hb dX10_exchange_147 ?_
      refine m_iald C I mArr_19 148 dX10_exchange_148 hpf (fun hpf => ?_)
      refine lv_aload_n hx hb dX10_exchange_149 rfl (lv_at hl 0 rfl) ?_
      refine m_getr C I mRef_19 kM_18 150 dX10_exchange_150 ?_
      refine lv_bipush (v := (16 : Int32)) hx hb dX10_exchange_153 (by decide) ?_
      refine lv_iload_n hx hb dX10_exchange_155 rfl (lv_at hl 2 rfl) ?_
      refine lv_imul hx hb dX10_exchange_156 ?_
      refine lv_iload hx hb dX10_exchange_157 (lv_at hl 4 rfl) ?_
      refine lv_iadd hx hb dX10_exchange_159 ?_
      refine m_iald C I mArr_19 160 dX10_exchange_160 hpf (fun hpf => ?_)
      refine b_icmp_le hx hb 179 161 dX10_exchange_161 (by decide) hpf (fun hpf => ?_) (fun hpf => ?_)
      · refine lv_aload_n hx hb dX10_exchange_179 rfl (lv_at hl 0 rfl) ?_
        refine m_getr C I mRef_19 kM_18 180 dX10_exchange_180 ?_
        refine lv_bipush (v := (16 : Int32)) hx hb dX10_exchange_183 (by decide) ?_
        refine lv_iload_n hx hb dX10_exchange_185 rfl (lv_at hl 2 rfl) ?_
        refine lv_imul hx hb dX10_exchange_186 ?_
        refine lv_iload hx hb dX10_exchange_187 (lv_at hl 4 rfl) ?_
        refine lv_iadd hx hb dX10_exchange_189 ?_
        refine m_iald C I mArr_19 190 dX10_exchange_190 hpf (fun hpf => ?_)
        exact hC_191 (S.2 19 (((16 : Int32) * x2) + x5).toNatClampNeg) x1 x2 x4 x5 S H locs I ls (lv_sub hl [0, 1, 2, 3, 4] rfl) hpf
      refine lv_aload_n hx hb dX10_exchange_164 rfl (lv_at hl 0 rfl) ?_
      refine m_getr C I mRef_19 kM_18 165 dX10_exchange_165 ?_
      refine lv_bipush (v := (16 : Int32)) hx hb dX10_exchange_168 (by decide) ?_
      refine lv_iload_n hx hb dX10_exchange_170 rfl (lv_at hl 1 rfl) ?_
      refine lv_imul hx hb dX10_exchange_171 ?_
      refine lv_iload hx hb dX10_exchange_172 (lv_at hl 4 rfl) ?_
      refine lv_iadd hx hb dX10_exchange_174 ?_
      refine m_iald C I mArr_19 175 dX10_exchange_175 hpf (fun hpf => ?_)
      refine lv_goto (tgt := 191) hx hb dX10_exchange_176 (by decide) ?_
      exact hC_191 (S.2 19 (((16 : Int32) * x1) + x5).toNatClampNeg) x1 x2 x4 x5 S H locs I ls (lv_sub hl [0, 1, 2, 3, 4] rfl) hpf
  have hC_127 : ∀ (x1 : Int32) (x2 : Int32) (x4 : Int32) (S : mS) (H : Heap) (locs : List Loc), mV dC dI h cI cZ a s S H locs → ∀ ls : Array Slot, lv_has ls 7 [(0, .ref h), (1, .int x1), (2, .int x2), (4, .int x4)] → pf_exchange_127 N x1 x2 x4 S = some (r, Sf) → W p l e (mRm 2) s m args below meth c H locs 0 0 (MQ below (mQ dC dI h cI cZ a sz r Sf) args s 0 0 (mAt h cI cZ a sz)) (F0 m 127 ls []) := by
    intro x1 x2 x4 S H locs I ls hl hpf
    unfold pf_exchange_127 at hpf
    refine lv_iconst (v := (0 : Int32)) hx hb dX10_exchange_127 (by decide) ?_
    refine lv_istore (lv' := [(5, .int (0 : Int32)), (0, .ref h), (1, .int x1), (2, .int x2), (4, .int x4)]) hx hb dX10_exchange_128 hl (by decide) rfl (fun ls hl => ?_)
    exact hC_130 N x1 x2 x4 (0 : Int32) S H locs I ls (lv_sub hl [1, 2, 3, 4, 0] rfl) hpf
  have hC_53 : ∀ (n_53 : Nat), ∀ (x1 : Int32) (x2 : Int32) (x3 : Int32) (x4 : Int32) (x5 : Int32) (S : mS) (H : Heap) (locs : List Loc), mV dC dI h cI cZ a s S H locs → ∀ ls : Array Slot, lv_has ls 7 [(0, .ref h), (1, .int x1), (2, .int x2), (3, .int x3), (4, .int x4), (5, .int x5)] → pf_exchange_53 N (pf_exchange_127 N) n_53 x1 x2 x3 x4 x5 S = some (r, Sf) → W p l e (mRm 2) s m args below meth c H locs 0 0 (MQ below (mQ dC dI h cI cZ a sz r Sf) args s 0 0 (mAt h cI cZ a sz)) (F0 m 53 ls []) := by
    intro n_53
    induction n_53 with
    | zero =>
      intro x1 x2 x3 x4 x5 S H locs I ls hl hpf
      rw [pf_exchange_53] at hpf
      cases hpf
    | succ n_53 ih_53 =>
      have hC_121 : ∀ (x1 : Int32) (x2 : Int32) (x3 : Int32) (x4 : Int32) (x5 : Int32) (S : mS) (H : Heap) (locs : List Loc), mV dC dI h cI cZ a s S H locs → ∀ ls : Array Slot, lv_has ls 7 [(0, .ref h), (1, .int x1), (2, .int x2), (3, .int x3), (4, .int x4), (5, .int x5)] → pf_exchange_121 N (pf_exchange_53 N (pf_exchange_127 N) n_53) x1 x2 x3 x4 x5 S = some (r, Sf) → W p l e (mRm 2) s m args below meth c H locs 0 0 (MQ below (mQ dC dI h cI cZ a sz r Sf) args s 0 0 (mAt h cI cZ a sz)) (F0 m 121 ls []) := by
        intro x1 x2 x3 x4 x5 S H locs I ls hl hpf
        unfold pf_exchange_121 at hpf
        refine m_iinc (w := (1 : Int32)) hx hb (fun y1 => [(5, .int y1), (0, .ref h), (1, .int x1), (2, .int x2), (3, .int x3), (4, .int x4)]) 121 dX10_exchange_121 hl (k := 5) rfl (by decide) (by decide) (fun _ => rfl) hpf (fun y1 ls hl hpf => ?_)
        refine lv_goto (tgt := 53) hx hb dX10_exchange_124 (by decide) ?_
        exact ih_53 x1 x2 x3 x4 y1 S H locs I ls (lv_sub hl [1, 2, 3, 4, 5, 0] rfl) hpf
      intro x1 x2 x3 x4 x5 S H locs I ls hl hpf
      rw [pf_exchange_53] at hpf
      refine lv_iload hx hb dX10_exchange_53 (lv_at hl 5 rfl) ?_
      refine lv_aload_n hx hb dX10_exchange_55 rfl (lv_at hl 0 rfl) ?_
      refine m_geti C I mInt_22 kM_98 56 dX10_exchange_56 ?_
      refine b_icmp_ge hx hb 127 59 dX10_exchange_59 (by decide) hpf (fun hpf => ?_) (fun hpf => ?_)
      · exact hC_127 x1 x2 x4 S H locs I ls (lv_sub hl [0, 1, 2, 4] rfl) hpf
      refine lv_aload_n hx hb dX10_exchange_62 rfl (lv_at hl 0 rfl) ?_
      refine m_getr C I mRef_36 kM_33 63 dX10_exchange_63 ?_
      refine lv_iload hx hb dX10_exchange_66 (lv_at hl 5 rfl) ?_
      refine m_iald C I mArr_36 68 dX10_exchange_68 hpf (fun hpf => ?_)
      refine m_isto hx hb (fun y1 => [(6, .int y1), (0, .ref h), (1, .int x1), (2, .int x2), (3, .int x3), (4, .int x4), (5, .int x5)]) 69 dX10_exchange_69 hl (by decide) (fun _ => rfl) hpf (fun y1 ls hl hpf => ?_)
      refine lv_iload hx hb dX10_exchange_71 (lv_at hl 5 rfl) ?_
      refine lv_iload_n hx hb dX10_exchange_73 rfl (lv_at hl 4 rfl) ?_
      refine b_icmp_ge hx hb 121 74 dX10_exchange_74 (by decide) hpf (fun hpf => ?_) (fun hpf => ?_)
      · exact hC_121 x1 x2 x3 x4 x5 S H locs I ls (lv_sub hl [1, 2, 3, 4, 5, 6] rfl) hpf
      refine lv_aload_n hx hb dX10_exchange_77 rfl (lv_at hl 1 rfl) ?_
      refine lv_iload_n hx hb dX10_exchange_78 rfl (lv_at hl 2 rfl) ?_
      refine lv_iload hx hb dX10_exchange_79 (lv_at hl 0 rfl) ?_
      refine m_callI (rest := []) (As := [.int x1, .int y1]) C I fn_isKnown (c_isKnown l N x1 y1) (by decide) 81 dX10_exchange_81 rfl hl.1 rfl (Nat.le_of_ble_eq_true rfl) hpf (fun v2 S3 H locs I hpf => ?_)
      refine b_if_eq hx hb 121 84 dX10_exchange_84 (by decide) hpf (fun hpf => ?_) (fun hpf => ?_)
      · exact hC_121 x1 x2 x3 x4 x5 S3 H locs I ls (lv_sub hl [1, 2, 3, 4, 5, 6] rfl) hpf
      refine lv_aload_n hx hb dX10_exchange_87 rfl (lv_at hl 1 rfl) ?_
      refine lv_iload_n hx hb dX10_exchange_88 rfl (lv_at hl 3 rfl) ?_
      refine lv_iload hx hb dX10_exchange_89 (lv_at hl 0 rfl) ?_
      refine m_callI (rest := []) (As := [.int x2, .int y1]) C I fn_isKnown (c_isKnown l N x2 y1) (by decide) 91 dX10_exchange_91 rfl hl.1 rfl (Nat.le_of_ble_eq_true rfl) hpf (fun v4 S5 H locs I hpf => ?_)
      refine b_if_ne hx hb 121 94 dX10_exchange_94 (by decide) hpf (fun hpf => ?_) (fun hpf => ?_)
      · exact hC_121 x1 x2 x3 x4 x5 S5 H locs I ls (lv_sub hl [1, 2, 3, 4, 5, 6] rfl) hpf
      refine lv_aload_n hx hb dX10_exchange_97 rfl (lv_at hl 1 rfl) ?_
      refine m_getr C I mRef_19 kM_18 98 dX10_exchange_98 ?_
      refine lv_bipush (v := (20 : Int32)) hx hb dX10_exchange_101 (by decide) ?_
      refine lv_iload_n hx hb dX10_exchange_103 rfl (lv_at hl 3 rfl) ?_
      refine lv_imul hx hb dX10_exchange_104 ?_
      refine lv_aload_n hx hb dX10_exchange_105 rfl (lv_at hl 1 rfl) ?_
      refine m_getr C I mRef_24 kM_22 106 dX10_exchange_106 ?_
      refine lv_iload hx hb dX10_exchange_109 (lv_at hl 0 rfl) ?_
      refine m_iald C I mArr_24 111 dX10_exchange_111 hpf (fun hpf => ?_)
      refine lv_iadd hx hb dX10_exchange_112 ?_
      refine lv_dup2_11 hx hb dX10_exchange_113 rfl rfl ?_
      refine m_iald C I mArr_19 114 dX10_exchange_114 hpf (fun hpf => ?_)
      refine lv_iconst (v := (1 : Int32)) hx hb dX10_exchange_115 (by decide) ?_
      refine lv_iadd hx hb dX10_exchange_116 ?_
      refine m_iast C I mArr_19 117 dX10_exchange_117 hpf (fun S6 H locs I hpf => ?_)
      refine m_iinc (w := (1 : Int32)) hx hb (fun y7 => [(4, .int y7), (6, .int y1), (0, .ref h), (1, .int x1), (2, .int x2), (3, .int x3), (5, .int x5)]) 118 dX10_exchange_118 hl (k := 5) rfl (by decide) (by decide) (fun _ => rfl) hpf (fun y7 ls hl hpf => ?_)
      exact hC_121 x1 x2 x3 y7 x5 S6 H locs I ls (lv_sub hl [2, 3, 4, 5, 0, 6] rfl) hpf
  refine lv_aload_n hx hb dX10_exchange_0 rfl (lv_at hl 0 rfl) ?_
  refine lv_iconst (v := (0 : Int32)) hx hb dX10_exchange_1 (by decide) ?_
  refine m_puti C I mInt_0 kM_62 2 dX10_exchange_2 hpf (fun S1 H locs I hpf => ?_)
  refine lv_iload_n hx hb dX10_exchange_5 rfl (lv_at hl 1 rfl) ?_
  refine m_callS (rest := []) (As := [.int x1]) C I fn_isMaster (c_isMaster l N x1) (by decide) 6 dX10_exchange_6 rfl hl.1 rfl (Nat.le_of_ble_eq_true rfl) hpf (fun v2 H locs I hpf => ?_)
  refine b_if_eq hx hb 19 9 dX10_exchange_9 (by decide) hpf (fun hpf => ?_) (fun hpf => ?_)
  · exact hC_19 S1 H locs I ls (lv_sub hl [0] rfl) hpf
  refine lv_iload_n hx hb dX10_exchange_12 rfl (lv_at hl 2 rfl) ?_
  refine m_callS (rest := []) (As := [.int x2]) C I fn_isMaster (c_isMaster l N x2) (by decide) 13 dX10_exchange_13 rfl hl.1 rfl (Nat.le_of_ble_eq_true rfl) hpf (fun v3 H locs I hpf => ?_)
  refine b_if_ne hx hb 25 16 dX10_exchange_16 (by decide) hpf (fun hpf => ?_) (fun hpf => ?_)
  · refine lv_iload_n hx hb dX10_exchange_25 rfl (lv_at hl 1 rfl) ?_
    refine lv_iload_n hx hb dX10_exchange_26 rfl (lv_at hl 2 rfl) ?_
    refine b_icmp_eq hx hb 41 27 dX10_exchange_27 (by decide) hpf (fun hpf => ?_) (fun hpf => ?_)
    · exact hC_41 S1 H locs I ls (lv_sub hl [0] rfl) hpf
    refine lv_iload_n hx hb dX10_exchange_30 rfl (lv_at hl 3 rfl) ?_
    refine lv_iconst (v := (0 : Int32)) hx hb dX10_exchange_31 (by decide) ?_
    refine lv_sipush (v := (250 : Int32)) hx hb dX10_exchange_32 (by decide) ?_
    refine m_callS (rest := []) (As := [.int x3, .int (0 : Int32), .int (250 : Int32)]) C I fn_in (c_in l N x3 (0 : Int32) (250 : Int32)) (by decide) 35 dX10_exchange_35 rfl hl.1 rfl (Nat.le_of_ble_eq_true rfl) hpf (fun v4 H locs I hpf => ?_)
    refine b_if_ne hx hb 47 38 dX10_exchange_38 (by decide) hpf (fun hpf => ?_) (fun hpf => ?_)
    · refine lv_iconst (v := (0 : Int32)) hx hb dX10_exchange_47 (by decide) ?_
      refine lv_istore (lv' := [(4, .int (0 : Int32)), (0, .ref h), (1, .int x1), (2, .int x2), (3, .int x3)]) hx hb dX10_exchange_48 hl (by decide) rfl (fun ls hl => ?_)
      refine lv_iconst (v := (0 : Int32)) hx hb dX10_exchange_50 (by decide) ?_
      refine lv_istore (lv' := [(5, .int (0 : Int32)), (4, .int (0 : Int32)), (0, .ref h), (1, .int x1), (2, .int x2), (3, .int x3)]) hx hb dX10_exchange_51 hl (by decide) rfl (fun ls hl => ?_)
      exact hC_53 N x1 x2 x3 (0 : Int32) (0 : Int32) S1 H locs I ls (lv_sub hl [2, 3, 4, 5, 1, 0] rfl) hpf
    exact hC_41 S1 H locs I ls (lv_sub hl [0] rfl) hpf
  exact hC_19 S1 H locs I ls (lv_sub hl [0] rfl) hpf
