-- ===== conflicts =====
def pf_conflicts_21 (N : Nat) (S : mS) : Option (Int32 × mS) :=
    bd (pf_fails N (1 : Int32) S) fun v1 S2 =>
    some (v1, S2)
def pf_conflicts_121 (N : Nat) (k_37 : Int32 → Int32 → Int32 → mS → Option (Int32 × mS)) (t0 : Int32) (t1 : Int32) (x2 : Int32) (x4 : Int32) (S : mS) : Option (Int32 × mS) :=
    nm (t1 + t0) fun y1 =>
    nm (x4 + (1 : Int32)) fun y2 =>
    k_37 x2 y1 y2 S
def pf_conflicts_99 (N : Nat) (k_37 : Int32 → Int32 → Int32 → mS → Option (Int32 × mS)) (t0 : Int32) (x2 : Int32) (x3 : Int32) (x4 : Int32) (S : mS) : Option (Int32 × mS) :=
    bd (pf_isLive N x4 S) fun v1 S2 =>
    if v1 = (0 : Int32) then (
      pf_conflicts_121 N k_37 (0 : Int32) x3 x2 x4 S2)
    else (
      if t0 = (0 : Int32) then (
        pf_conflicts_121 N k_37 (0 : Int32) x3 x2 x4 S2)
      else (
        pf_conflicts_121 N k_37 (1 : Int32) x3 x2 x4 S2))
def pf_conflicts_37 (N : Nat) : Nat → Int32 → Int32 → Int32 → mS → Option (Int32 × mS)
  | 0 => fun _ _ _ _ => none
  | n_37 + 1 => fun x2 x3 x4 S =>
    if (48 : Int32) ≤ x4 then (
      some (x3, S))
    else (
      if x2 = (0 : Int32) then (
        gd x4 48 <|
        if (S.2 46 x4.toNatClampNeg) < (100 : Int32) then (
          pf_conflicts_99 N (pf_conflicts_37 N n_37) (0 : Int32) x2 x3 x4 S)
        else (
          pf_conflicts_99 N (pf_conflicts_37 N n_37) (1 : Int32) x2 x3 x4 S))
      else (
        if x2 = (1 : Int32) then (
          gd x4 48 <|
          if (S.2 45 x4.toNatClampNeg) = (-2 : Int32) then (
            pf_conflicts_99 N (pf_conflicts_37 N n_37) (1 : Int32) x2 x3 x4 S)
          else (
            pf_conflicts_99 N (pf_conflicts_37 N n_37) (0 : Int32) x2 x3 x4 S))
        else (
          bd (pf_isIncomplete N x4 S) fun v1 S2 =>
          pf_conflicts_99 N (pf_conflicts_37 N n_37) v1 x2 x3 x4 S2)))
def pf_conflicts (N : Nat) (x1 : Int32) (x2 : Int32) (S : mS) : Option (Int32 × mS) :=
    sv (mI S 0 (0 : Int32)) fun S1 =>
    bs (pf_isMaster N x1) fun v2 =>
    if v2 = (0 : Int32) then (
      pf_conflicts_21 N S1)
    else (
      bs (pf_in N x2 (0 : Int32) (2 : Int32)) fun v3 =>
      if v3 = (0 : Int32) then (
        pf_conflicts_21 N S1)
      else (
        bd (pf_lays N x1 S1) fun v4 S5 =>
        pf_conflicts_37 N N x2 (0 : Int32) (1 : Int32) S5))

set_option maxRecDepth 100000 in
set_option maxHeartbeats 4000000 in
theorem c_conflicts (l : Launch) (N : Nat) (x1 : Int32) (x2 : Int32) : mMet l yX10_conflicts cX10_conflicts 6 .int 5 [.int x1, .int x2] (pf_conflicts N x1 x2) := by
  refine mStart (by decide +kernel) rfl (fun h => [(0, .ref h), (1, .int x1), (2, .int x2)]) (fun _ => Nat.le_of_ble_eq_true rfl) (fun _ => rfl) ?_
  intro dC dI h cI cZ a sz S r Sf hpf p e s m args below meth c C hr hz H locs I ls hl
  have hx := C.1
  have hb := C.2.1
  unfold pf_conflicts at hpf
  have hC_21 : ∀ (S : mS) (H : Heap) (locs : List Loc), mV dC dI h cI cZ a s S H locs → ∀ ls : Array Slot, lv_has ls 6 [(0, .ref h)] → pf_conflicts_21 N S = some (r, Sf) → W p l e (mRm 5) s m args below meth c H locs 0 0 (MQ below (mQ dC dI h cI cZ a sz r Sf) args s 0 0 (mAt h cI cZ a sz)) (F0 m 21 ls []) := by
    intro S H locs I ls hl hpf
    unfold pf_conflicts_21 at hpf
    refine lv_aload_n hx hb dX10_conflicts_21 rfl (lv_at hl 0 rfl) ?_
    refine lv_iconst (v := (1 : Int32)) hx hb dX10_conflicts_22 (by decide) ?_
    refine m_callI (rest := []) (As := [.int (1 : Int32)]) C I fn_fails (c_fails l N (1 : Int32)) (by decide) 23 dX10_conflicts_23 rfl hl.1 rfl (Nat.le_of_ble_eq_true rfl) hpf (fun v1 S2 H locs I hpf => ?_)
    exact m_reti C I hr hz 26 dX10_conflicts_26 hpf
  have hC_37 : ∀ (n_37 : Nat), ∀ (x2 : Int32) (x3 : Int32) (x4 : Int32) (S : mS) (H : Heap) (locs : List Loc), mV dC dI h cI cZ a s S H locs → ∀ ls : Array Slot, lv_has ls 6 [(0, .ref h), (2, .int x2), (3, .int x3), (4, .int x4)] → pf_conflicts_37 N n_37 x2 x3 x4 S = some (r, Sf) → W p l e (mRm 5) s m args below meth c H locs 0 0 (MQ below (mQ dC dI h cI cZ a sz r Sf) args s 0 0 (mAt h cI cZ a sz)) (F0 m 37 ls []) := by
    intro n_37
    induction n_37 with
    | zero =>
      intro x2 x3 x4 S H locs I ls hl hpf
      rw [pf_conflicts_37] at hpf
      cases hpf
    | succ n_37 ih_37 =>
      have hC_121 : ∀ (t0 : Int32) (t1 : Int32) (x2 : Int32) (x4 : Int32) (S : mS) (H : Heap) (locs : List Loc), mV dC dI h cI cZ a s S H locs → ∀ ls : Array Slot, lv_has ls 6 [(0, .ref h), (2, .int x2), (4, .int x4)] → pf_conflicts_121 N (pf_conflicts_37 N n_37) t0 t1 x2 x4 S = some (r, Sf) → W p l e (mRm 5) s m args below meth c H locs 0 0 (MQ below (mQ dC dI h cI cZ a sz r Sf) args s 0 0 (mAt h cI cZ a sz)) (F0 m 121 ls [.int t0, .int t1]) := by
        intro t0 t1 x2 x4 S H locs I ls hl hpf
        unfold pf_conflicts_121 at hpf
        refine lv_iadd hx hb dX10_conflicts_121 ?_
        refine m_isto_n hx hb (fun y1 => [(3, .int y1), (0, .ref h), (2, .int x2), (4, .int x4)]) 122 dX10_conflicts_122 rfl hl (by decide) (fun _ => rfl) hpf (fun y1 ls hl hpf => ?_)
        refine m_iinc (w := (1 : Int32)) hx hb (fun y2 => [(4, .int y2), (3, .int y1), (0, .ref h), (2, .int x2)]) 123 dX10_conflicts_123 hl (k := 3) rfl (by decide) (by decide) (fun _ => rfl) hpf (fun y2 ls hl hpf => ?_)
        refine lv_goto (tgt := 37) hx hb dX10_conflicts_126 (by decide) ?_
        exact ih_37 x2 y1 y2 S H locs I ls (lv_sub hl [2, 3, 1, 0] rfl) hpf
      have hC_99 : ∀ (t0 : Int32) (x2 : Int32) (x3 : Int32) (x4 : Int32) (S : mS) (H : Heap) (locs : List Loc), mV dC dI h cI cZ a s S H locs → ∀ ls : Array Slot, lv_has ls 6 [(0, .ref h), (2, .int x2), (3, .int x3), (4, .int x4)] → pf_conflicts_99 N (pf_conflicts_37 N n_37) t0 x2 x3 x4 S = some (r, Sf) → W p l e (mRm 5) s m args below meth c H locs 0 0 (MQ below (mQ dC dI h cI cZ a sz r Sf) args s 0 0 (mAt h cI cZ a sz)) (F0 m 99 ls [.int t0]) := by
        intro t0 x2 x3 x4 S H locs I ls hl hpf
        unfold pf_conflicts_99 at hpf
        refine lv_istore (lv' := [(5, .int t0), (0, .ref h), (2, .int x2), (3, .int x3), (4, .int x4)]) hx hb dX10_conflicts_99 hl (by decide) rfl (fun ls hl => ?_)
        refine lv_iload_n hx hb dX10_conflicts_101 rfl (lv_at hl 3 rfl) ?_
        refine lv_aload_n hx hb dX10_conflicts_102 rfl (lv_at hl 1 rfl) ?_
        refine lv_iload hx hb dX10_conflicts_103 (lv_at hl 4 rfl) ?_
        refine m_callI (rest := [.int x3]) (As := [.int x4]) C I fn_isLive (c_isLive l N x4) (by decide) 105 dX10_conflicts_105 rfl hl.1 rfl (Nat.le_of_ble_eq_true rfl) hpf (fun v1 S2 H locs I hpf => ?_)
        refine b_if_eq hx hb 120 108 dX10_conflicts_108 (by decide) hpf (fun hpf => ?_) (fun hpf => ?_)
        · refine lv_iconst (v := (0 : Int32)) hx hb dX10_conflicts_120 (by decide) ?_
          exact hC_121 (0 : Int32) x3 x2 x4 S2 H locs I ls (lv_sub hl [1, 2, 4] rfl) hpf
        refine lv_iload hx hb dX10_conflicts_111 (lv_at hl 0 rfl) ?_
        refine b_if_eq hx hb 120 113 dX10_conflicts_113 (by decide) hpf (fun hpf => ?_) (fun hpf => ?_)
        · refine lv_iconst (v := (0 : Int32)) hx hb dX10_conflicts_120 (by decide) ?_
          exact hC_121 (0 : Int32) x3 x2 x4 S2 H locs I ls (lv_sub hl [1, 2, 4] rfl) hpf
        refine lv_iconst (v := (1 : Int32)) hx hb dX10_conflicts_116 (by decide) ?_
        refine lv_goto (tgt := 121) hx hb dX10_conflicts_117 (by decide) ?_
        exact hC_121 (1 : Int32) x3 x2 x4 S2 H locs I ls (lv_sub hl [1, 2, 4] rfl) hpf
      intro x2 x3 x4 S H locs I ls hl hpf
      rw [pf_conflicts_37] at hpf
      refine lv_iload hx hb dX10_conflicts_37 (lv_at hl 3 rfl) ?_
      refine lv_bipush (v := (48 : Int32)) hx hb dX10_conflicts_39 (by decide) ?_
      refine b_icmp_ge hx hb 129 41 dX10_conflicts_41 (by decide) hpf (fun hpf => ?_) (fun hpf => ?_)
      · refine lv_iload_n hx hb dX10_conflicts_129 rfl (lv_at hl 2 rfl) ?_
        exact m_reti C I hr hz 130 dX10_conflicts_130 hpf
      refine lv_iload_n hx hb dX10_conflicts_44 rfl (lv_at hl 1 rfl) ?_
      refine b_if_ne hx hb 68 45 dX10_conflicts_45 (by decide) hpf (fun hpf => ?_) (fun hpf => ?_)
      · refine lv_iload_n hx hb dX10_conflicts_68 rfl (lv_at hl 1 rfl) ?_
        refine lv_iconst (v := (1 : Int32)) hx hb dX10_conflicts_69 (by decide) ?_
        refine b_icmp_ne hx hb 93 70 dX10_conflicts_70 (by decide) hpf (fun hpf => ?_) (fun hpf => ?_)
        · refine lv_aload_n hx hb dX10_conflicts_93 rfl (lv_at hl 0 rfl) ?_
          refine lv_iload hx hb dX10_conflicts_94 (lv_at hl 3 rfl) ?_
          refine m_callI (rest := []) (As := [.int x4]) C I fn_isIncomplete (c_isIncomplete l N x4) (by decide) 96 dX10_conflicts_96 rfl hl.1 rfl (Nat.le_of_ble_eq_true rfl) hpf (fun v1 S2 H locs I hpf => ?_)
          exact hC_99 v1 x2 x3 x4 S2 H locs I ls (lv_sub hl [0, 1, 2, 3] rfl) hpf
        refine lv_aload_n hx hb dX10_conflicts_73 rfl (lv_at hl 0 rfl) ?_
        refine m_getr C I mRef_45 kM_42 74 dX10_conflicts_74 ?_
        refine lv_iload hx hb dX10_conflicts_77 (lv_at hl 3 rfl) ?_
        refine m_iald C I mArr_45 79 dX10_conflicts_79 hpf (fun hpf => ?_)
        refine lv_bipush (v := (-2 : Int32)) hx hb dX10_conflicts_80 (by decide) ?_
        refine b_icmp_ne hx hb 89 82 dX10_conflicts_82 (by decide) hpf (fun hpf => ?_) (fun hpf => ?_)
        · refine lv_iconst (v := (0 : Int32)) hx hb dX10_conflicts_89 (by decide) ?_
          refine lv_goto (tgt := 99) hx hb dX10_conflicts_90 (by decide) ?_
          exact hC_99 (0 : Int32) x2 x3 x4 S H locs I ls (lv_sub hl [0, 1, 2, 3] rfl) hpf
        refine lv_iconst (v := (1 : Int32)) hx hb dX10_conflicts_85 (by decide) ?_
        refine lv_goto (tgt := 99) hx hb dX10_conflicts_86 (by decide) ?_
        exact hC_99 (1 : Int32) x2 x3 x4 S H locs I ls (lv_sub hl [0, 1, 2, 3] rfl) hpf
      refine lv_aload_n hx hb dX10_conflicts_48 rfl (lv_at hl 0 rfl) ?_
      refine m_getr C I mRef_46 kM_43 49 dX10_conflicts_49 ?_
      refine lv_iload hx hb dX10_conflicts_52 (lv_at hl 3 rfl) ?_
      refine m_iald C I mArr_46 54 dX10_conflicts_54 hpf (fun hpf => ?_)
      refine lv_bipush (v := (100 : Int32)) hx hb dX10_conflicts_55 (by decide) ?_
      refine b_icmp_lt hx hb 64 57 dX10_conflicts_57 (by decide) hpf (fun hpf => ?_) (fun hpf => ?_)
      · refine lv_iconst (v := (0 : Int32)) hx hb dX10_conflicts_64 (by decide) ?_
        refine lv_goto (tgt := 99) hx hb dX10_conflicts_65 (by decide) ?_
        exact hC_99 (0 : Int32) x2 x3 x4 S H locs I ls (lv_sub hl [0, 1, 2, 3] rfl) hpf
      refine lv_iconst (v := (1 : Int32)) hx hb dX10_conflicts_60 (by decide) ?_
      refine lv_goto (tgt := 99) hx hb dX10_conflicts_61 (by decide) ?_
      exact hC_99 (1 : Int32) x2 x3 x4 S H locs I ls (lv_sub hl [0, 1, 2, 3] rfl) hpf
  refine lv_aload_n hx hb dX10_conflicts_0 rfl (lv_at hl 0 rfl) ?_
  refine lv_iconst (v := (0 : Int32)) hx hb dX10_conflicts_1 (by decide) ?_
  refine m_puti C I mInt_0 kM_62 2 dX10_conflicts_2 hpf (fun S1 H locs I hpf => ?_)
  refine lv_iload_n hx hb dX10_conflicts_5 rfl (lv_at hl 1 rfl) ?_
  refine m_callS (rest := []) (As := [.int x1]) C I fn_isMaster (c_isMaster l N x1) (by decide) 6 dX10_conflicts_6 rfl hl.1 rfl (Nat.le_of_ble_eq_true rfl) hpf (fun v2 H locs I hpf => ?_)
  refine b_if_eq hx hb 21 9 dX10_conflicts_9 (by decide) hpf (fun hpf => ?_) (fun hpf => ?_)
  · exact hC_21 S1 H locs I ls (lv_sub hl [0] rfl) hpf
  refine lv_iload_n hx hb dX10_conflicts_12 rfl (lv_at hl 2 rfl) ?_
  refine lv_iconst (v := (0 : Int32)) hx hb dX10_conflicts_13 (by decide) ?_
  refine lv_iconst (v := (2 : Int32)) hx hb dX10_conflicts_14 (by decide) ?_
  refine m_callS (rest := []) (As := [.int x2, .int (0 : Int32), .int (2 : Int32)]) C I fn_in (c_in l N x2 (0 : Int32) (2 : Int32)) (by decide) 15 dX10_conflicts_15 rfl hl.1 rfl (Nat.le_of_ble_eq_true rfl) hpf (fun v3 H locs I hpf => ?_)
  refine b_if_ne hx hb 27 18 dX10_conflicts_18 (by decide) hpf (fun hpf => ?_) (fun hpf => ?_)
  · refine lv_aload_n hx hb dX10_conflicts_27 rfl (lv_at hl 0 rfl) ?_
    refine lv_iload_n hx hb dX10_conflicts_28 rfl (lv_at hl 1 rfl) ?_
    refine m_callV (rest := []) (As := [.int x1]) C I fn_lays (c_lays l N x1) (by decide) 29 dX10_conflicts_29 rfl hl.1 rfl (Nat.le_of_ble_eq_true rfl) hpf (fun v4 S5 H locs I hpf => ?_)
    refine lv_iconst (v := (0 : Int32)) hx hb dX10_conflicts_32 (by decide) ?_
    refine lv_istore_n (lv' := [(3, .int (0 : Int32)), (0, .ref h), (1, .int x1), (2, .int x2)]) hx hb dX10_conflicts_33 rfl hl (by decide) rfl (fun ls hl => ?_)
    refine lv_iconst (v := (1 : Int32)) hx hb dX10_conflicts_34 (by decide) ?_
    refine lv_istore (lv' := [(4, .int (1 : Int32)), (3, .int (0 : Int32)), (0, .ref h), (1, .int x1), (2, .int x2)]) hx hb dX10_conflicts_35 hl (by decide) rfl (fun ls hl => ?_)
    exact hC_37 N x2 (0 : Int32) (1 : Int32) S5 H locs I ls (lv_sub hl [2, 4, 1, 0] rfl) hpf
  exact hC_21 S1 H locs I ls (lv_sub hl [0] rfl) hpf
-- ===== knows =====
def pf_knows_33 (N : Nat) (S : mS) : Option (Int32 × mS) :=
    bd (pf_fails N (1 : Int32) S) fun v1 S2 =>
    some (v1, S2)
def pf_knows (N : Nat) (x1 : Int32) (x2 : Int32) (S : mS) : Option (Int32 × mS) :=
    sv (mI S 0 (0 : Int32)) fun S1 =>
    bs (pf_isMaster N x1) fun v2 =>
    if v2 = (0 : Int32) then (
      pf_knows_33 N S1)
    else (
      bs (pf_isMaster N x2) fun v3 =>
      if v3 = (0 : Int32) then (
        pf_knows_33 N S1)
      else (
        gd (((20 : Int32) * x1) + x2) 64 <|
        some (S1.2 19 (((20 : Int32) * x1) + x2).toNatClampNeg, S1)))

set_option maxRecDepth 100000 in
set_option maxHeartbeats 4000000 in
theorem c_knows (l : Launch) (N : Nat) (x1 : Int32) (x2 : Int32) : mMet l yX10_knows cX10_knows 3 .int 2 [.int x1, .int x2] (pf_knows N x1 x2) := by
  refine mStart (by decide +kernel) rfl (fun h => [(0, .ref h), (1, .int x1), (2, .int x2)]) (fun _ => Nat.le_of_ble_eq_true rfl) (fun _ => rfl) ?_
  intro dC dI h cI cZ a sz S r Sf hpf p e s m args below meth c C hr hz H locs I ls hl
  have hx := C.1
  have hb := C.2.1
  unfold pf_knows at hpf
  have hC_33 : ∀ (S : mS) (H : Heap) (locs : List Loc), mV dC dI h cI cZ a s S H locs → ∀ ls : Array Slot, lv_has ls 3 [(0, .ref h)] → pf_knows_33 N S = some (r, Sf) → W p l e (mRm 2) s m args below meth c H locs 0 0 (MQ below (mQ dC dI h cI cZ a sz r Sf) args s 0 0 (mAt h cI cZ a sz)) (F0 m 33 ls []) := by
    intro S H locs I ls hl hpf
    unfold pf_knows_33 at hpf
    refine lv_aload_n hx hb dX10_knows_33 rfl (lv_at hl 0 rfl) ?_
    refine lv_iconst (v := (1 : Int32)) hx hb dX10_knows_34 (by decide) ?_
    refine m_callI (rest := []) (As := [.int (1 : Int32)]) C I fn_fails (c_fails l N (1 : Int32)) (by decide) 35 dX10_knows_35 rfl hl.1 rfl (Nat.le_of_ble_eq_true rfl) hpf (fun v1 S2 H locs I hpf => ?_)
    exact m_reti C I hr hz 38 dX10_knows_38 hpf
  refine lv_aload_n hx hb dX10_knows_0 rfl (lv_at hl 0 rfl) ?_
  refine lv_iconst (v := (0 : Int32)) hx hb dX10_knows_1 (by decide) ?_
  refine m_puti C I mInt_0 kM_62 2 dX10_knows_2 hpf (fun S1 H locs I hpf => ?_)
  refine lv_iload_n hx hb dX10_knows_5 rfl (lv_at hl 1 rfl) ?_
  refine m_callS (rest := []) (As := [.int x1]) C I fn_isMaster (c_isMaster l N x1) (by decide) 6 dX10_knows_6 rfl hl.1 rfl (Nat.le_of_ble_eq_true rfl) hpf (fun v2 H locs I hpf => ?_)
  refine b_if_eq hx hb 33 9 dX10_knows_9 (by decide) hpf (fun hpf => ?_) (fun hpf => ?_)
  · exact hC_33 S1 H locs I ls (lv_sub hl [0] rfl) hpf
  refine lv_iload_n hx hb dX10_knows_12 rfl (lv_at hl 2 rfl) ?_
  refine m_callS (rest := []) (As := [.int x2]) C I fn_isMaster (c_isMaster l N x2) (by decide) 13 dX10_knows_13 rfl hl.1 rfl (Nat.le_of_ble_eq_true rfl) hpf (fun v3 H locs I hpf => ?_)
  refine b_if_eq hx hb 33 16 dX10_knows_16 (by decide) hpf (fun hpf => ?_) (fun hpf => ?_)
  · exact hC_33 S1 H locs I ls (lv_sub hl [0] rfl) hpf
  refine lv_aload_n hx hb dX10_knows_19 rfl (lv_at hl 0 rfl) ?_
  refine m_getr C I mRef_19 kM_18 20 dX10_knows_20 ?_
  refine lv_bipush (v := (20 : Int32)) hx hb dX10_knows_23 (by decide) ?_
  refine lv_iload_n hx hb dX10_knows_25 rfl (lv_at hl 1 rfl) ?_
  refine lv_imul hx hb dX10_knows_26 ?_
  refine lv_iload_n hx hb dX10_knows_27 rfl (lv_at hl 2 rfl) ?_
  refine lv_iadd hx hb dX10_knows_28 ?_
  refine m_iald C I mArr_19 29 dX10_knows_29 hpf (fun hpf => ?_)
  refine lv_goto (tgt := 38) hx hb dX10_knows_30 (by decide) ?_
  exact m_reti C I hr hz 38 dX10_knows_38 hpf
-- ===== marks =====
def pf_marks (N : Nat) (x1 : Int32) (S : mS) : Option (Int32 × mS) :=
    sv (mI S 0 (0 : Int32)) fun S1 =>
    bs (pf_isMaster N x1) fun v2 =>
    if v2 = (0 : Int32) then (
      bd (pf_fails N (1 : Int32) S1) fun v3 S4 =>
      some (v3, S4))
    else (
      bd (pf_marksOf N x1 S1) fun v5 S6 =>
      some (v5, S6))

set_option maxRecDepth 100000 in
set_option maxHeartbeats 4000000 in
theorem c_marks (l : Launch) (N : Nat) (x1 : Int32) : mMet l yX10_marks cX10_marks 2 .int 4 [.int x1] (pf_marks N x1) := by
  refine mStart (by decide +kernel) rfl (fun h => [(0, .ref h), (1, .int x1)]) (fun _ => Nat.le_of_ble_eq_true rfl) (fun _ => rfl) ?_
  intro dC dI h cI cZ a sz S r Sf hpf p e s m args below meth c C hr hz H locs I ls hl
  have hx := C.1
  have hb := C.2.1
  unfold pf_marks at hpf
  refine lv_aload_n hx hb dX10_marks_0 rfl (lv_at hl 0 rfl) ?_
  refine lv_iconst (v := (0 : Int32)) hx hb dX10_marks_1 (by decide) ?_
  refine m_puti C I mInt_0 kM_62 2 dX10_marks_2 hpf (fun S1 H locs I hpf => ?_)
  refine lv_iload_n hx hb dX10_marks_5 rfl (lv_at hl 1 rfl) ?_
  refine m_callS (rest := []) (As := [.int x1]) C I fn_isMaster (c_isMaster l N x1) (by decide) 6 dX10_marks_6 rfl hl.1 rfl (Nat.le_of_ble_eq_true rfl) hpf (fun v2 H locs I hpf => ?_)
  refine b_if_eq hx hb 20 9 dX10_marks_9 (by decide) hpf (fun hpf => ?_) (fun hpf => ?_)
  · refine lv_aload_n hx hb dX10_marks_20 rfl (lv_at hl 0 rfl) ?_
    refine lv_iconst (v := (1 : Int32)) hx hb dX10_marks_21 (by decide) ?_
    refine m_callI (rest := []) (As := [.int (1 : Int32)]) C I fn_fails (c_fails l N (1 : Int32)) (by decide) 22 dX10_marks_22 rfl hl.1 rfl (Nat.le_of_ble_eq_true rfl) hpf (fun v3 S4 H locs I hpf => ?_)
    exact m_reti C I hr hz 25 dX10_marks_25 hpf
  refine lv_aload_n hx hb dX10_marks_12 rfl (lv_at hl 0 rfl) ?_
  refine lv_iload_n hx hb dX10_marks_13 rfl (lv_at hl 1 rfl) ?_
  refine m_callI (rest := []) (As := [.int x1]) C I fn_marksOf (c_marksOf l N x1) (by decide) 14 dX10_marks_14 rfl hl.1 rfl (Nat.le_of_ble_eq_true rfl) hpf (fun v5 S6 H locs I hpf => ?_)
  refine lv_goto (tgt := 25) hx hb dX10_marks_17 (by decide) ?_
  exact m_reti C I hr hz 25 dX10_marks_25 hpf
-- ===== keeps =====
def pf_keeps_110 (N : Nat) : Nat → Int32 → mS → Option (Int32 × mS)
  | 0 => fun _ _ => none
  | n_110 + 1 => fun x1 S =>
    if (S.1 47) ≤ x1 then (
      some ((0 : Int32), S))
    else (
      gd x1 900 <|
      gd x1 900 <| sv (mA S 63 x1.toNatClampNeg (S.2 48 x1.toNatClampNeg)) fun S1 =>
      gd x1 900 <|
      gd x1 900 <| sv (mA S1 64 x1.toNatClampNeg (S1.2 49 x1.toNatClampNeg)) fun S2 =>
      gd x1 900 <|
      gd x1 900 <| sv (mA S2 65 x1.toNatClampNeg (S2.2 50 x1.toNatClampNeg)) fun S3 =>
      nm (x1 + (1 : Int32)) fun y4 =>
      pf_keeps_110 N n_110 y4 S3)
def pf_keeps_100 (N : Nat) (S : mS) : Option (Int32 × mS) :=
    sv (mI S 62 (S.1 47)) fun S1 =>
    pf_keeps_110 N N (0 : Int32) S1
def pf_keeps_75 (N : Nat) (k_100 : mS → Option (Int32 × mS)) : Nat → Int32 → mS → Option (Int32 × mS)
  | 0 => fun _ _ => none
  | n_75 + 1 => fun x1 S =>
    if (15840 : Int32) ≤ x1 then (
      k_100 S)
    else (
      gd x1 15840 <|
      gd x1 15840 <| sv (mA S 66 x1.toNatClampNeg (S.2 51 x1.toNatClampNeg)) fun S1 =>
      nm (x1 + (1 : Int32)) fun y2 =>
      pf_keeps_75 N k_100 n_75 y2 S1)
def pf_keeps_73 (N : Nat) (S : mS) : Option (Int32 × mS) :=
    pf_keeps_75 N (pf_keeps_100 N) N (0 : Int32) S
def pf_keeps_2 (N : Nat) (k_73 : mS → Option (Int32 × mS)) : Nat → Int32 → mS → Option (Int32 × mS)
  | 0 => fun _ _ => none
  | n_2 + 1 => fun x1 S =>
    if (48 : Int32) ≤ x1 then (
      k_73 S)
    else (
      bd (pf_isLive N x1 S) fun v1 S2 =>
      gd x1 48 <| sv (mA S2 57 x1.toNatClampNeg (vp_nar .boolean v1)) fun S3 =>
      gd x1 48 <|
      gd x1 48 <| sv (mA S3 58 x1.toNatClampNeg (S3.2 40 x1.toNatClampNeg)) fun S4 =>
      gd x1 48 <|
      gd x1 48 <| sv (mA S4 59 x1.toNatClampNeg (S4.2 45 x1.toNatClampNeg)) fun S5 =>
      gd x1 48 <|
      gd x1 48 <| sv (mA S5 60 x1.toNatClampNeg (S5.2 46 x1.toNatClampNeg)) fun S6 =>
      gd x1 48 <|
      gd x1 48 <| sv (mA S6 61 x1.toNatClampNeg (S6.2 43 x1.toNatClampNeg)) fun S7 =>
      nm (x1 + (1 : Int32)) fun y8 =>
      pf_keeps_2 N k_73 n_2 y8 S7)
def pf_keeps (N : Nat) (S : mS) : Option (Int32 × mS) :=
    pf_keeps_2 N (pf_keeps_73 N) N (0 : Int32) S
theorem fn_keeps : mFnI yX10_keeps cX10_keeps 2 none 0 368 := ⟨kM_301, kM_302, kM_303, kM_299, rfl, by decide +kernel, by decide⟩
set_option maxRecDepth 100000 in
set_option maxHeartbeats 4000000 in
theorem c_keeps (l : Launch) (N : Nat)  : mMetV l yX10_keeps cX10_keeps 2 2 [] (pf_keeps N ) := by
  refine mStartV (by decide +kernel) rfl (fun h => [(0, .ref h)]) (fun _ => Nat.le_of_ble_eq_true rfl) (fun _ => rfl) ?_
  intro dC dI h cI cZ a sz S r Sf hpf p e s m args below meth c C hr hz H locs I ls hl
  have hx := C.1
  have hb := C.2.1
  unfold pf_keeps at hpf
  have hC_110 : ∀ (n_110 : Nat), ∀ (x1 : Int32) (S : mS) (H : Heap) (locs : List Loc), mV dC dI h cI cZ a s S H locs → ∀ ls : Array Slot, lv_has ls 2 [(0, .ref h), (1, .int x1)] → pf_keeps_110 N n_110 x1 S = some (r, Sf) → W p l e (mRm 2) s m args below meth c H locs 0 0 (MQ below (mQv dC dI h cI cZ a sz Sf) args s 0 0 (mAt h cI cZ a sz)) (F0 m 110 ls []) := by
    intro n_110
    induction n_110 with
    | zero =>
      intro x1 S H locs I ls hl hpf
      rw [pf_keeps_110] at hpf
      cases hpf
    | succ n_110 ih_110 =>
      intro x1 S H locs I ls hl hpf
      rw [pf_keeps_110] at hpf
      refine lv_iload_n hx hb dX10_keeps_110 rfl (lv_at hl 1 rfl) ?_
      refine lv_aload_n hx hb dX10_keeps_111 rfl (lv_at hl 0 rfl) ?_
      refine m_geti C I mInt_47 kM_77 112 dX10_keeps_112 ?_
      refine b_icmp_ge hx hb 160 115 dX10_keeps_115 (by decide) hpf (fun hpf => ?_) (fun hpf => ?_)
      · exact m_retv C I hr hz 160 dX10_keeps_160 hpf
      refine lv_aload_n hx hb dX10_keeps_118 rfl (lv_at hl 0 rfl) ?_
      refine m_getr C I mRef_63 kM_56 119 dX10_keeps_119 ?_
      refine lv_iload_n hx hb dX10_keeps_122 rfl (lv_at hl 1 rfl) ?_
      refine lv_aload_n hx hb dX10_keeps_123 rfl (lv_at hl 0 rfl) ?_
      refine m_getr C I mRef_48 kM_44 124 dX10_keeps_124 ?_
      refine lv_iload_n hx hb dX10_keeps_127 rfl (lv_at hl 1 rfl) ?_
      refine m_iald C I mArr_48 128 dX10_keeps_128 hpf (fun hpf => ?_)
      refine m_iast C I mArr_63 129 dX10_keeps_129 hpf (fun S1 H locs I hpf => ?_)
      refine lv_aload_n hx hb dX10_keeps_130 rfl (lv_at hl 0 rfl) ?_
      refine m_getr C I mRef_64 kM_57 131 dX10_keeps_131 ?_
      refine lv_iload_n hx hb dX10_keeps_134 rfl (lv_at hl 1 rfl) ?_
      refine lv_aload_n hx hb dX10_keeps_135 rfl (lv_at hl 0 rfl) ?_
      refine m_getr C I mRef_49 kM_45 136 dX10_keeps_136 ?_
      refine lv_iload_n hx hb dX10_keeps_139 rfl (lv_at hl 1 rfl) ?_
      refine m_iald C I mArr_49 140 dX10_keeps_140 hpf (fun hpf => ?_)
      refine m_iast C I mArr_64 141 dX10_keeps_141 hpf (fun S2 H locs I hpf => ?_)
      refine lv_aload_n hx hb dX10_keeps_142 rfl (lv_at hl 0 rfl) ?_
      refine m_getr C I mRef_65 kM_58 143 dX10_keeps_143 ?_
      refine lv_iload_n hx hb dX10_keeps_146 rfl (lv_at hl 1 rfl) ?_
      refine lv_aload_n hx hb dX10_keeps_147 rfl (lv_at hl 0 rfl) ?_
      refine m_getr C I mRef_50 kM_46 148 dX10_keeps_148 ?_
      refine lv_iload_n hx hb dX10_keeps_151 rfl (lv_at hl 1 rfl) ?_
      refine m_iald C I mArr_50 152 dX10_keeps_152 hpf (fun hpf => ?_)
      refine m_iast C I mArr_65 153 dX10_keeps_153 hpf (fun S3 H locs I hpf => ?_)
      refine m_iinc (w := (1 : Int32)) hx hb (fun y4 => [(1, .int y4), (0, .ref h)]) 154 dX10_keeps_154 hl (k := 1) rfl (by decide) (by decide) (fun _ => rfl) hpf (fun y4 ls hl hpf => ?_)
      refine lv_goto (tgt := 110) hx hb dX10_keeps_157 (by decide) ?_
      exact ih_110 y4 S3 H locs I ls (lv_sub hl [1, 0] rfl) hpf
  have hC_100 : ∀ (S : mS) (H : Heap) (locs : List Loc), mV dC dI h cI cZ a s S H locs → ∀ ls : Array Slot, lv_has ls 2 [(0, .ref h)] → pf_keeps_100 N S = some (r, Sf) → W p l e (mRm 2) s m args below meth c H locs 0 0 (MQ below (mQv dC dI h cI cZ a sz Sf) args s 0 0 (mAt h cI cZ a sz)) (F0 m 100 ls []) := by
    intro S H locs I ls hl hpf
    unfold pf_keeps_100 at hpf
    refine lv_aload_n hx hb dX10_keeps_100 rfl (lv_at hl 0 rfl) ?_
    refine lv_aload_n hx hb dX10_keeps_101 rfl (lv_at hl 0 rfl) ?_
    refine m_geti C I mInt_47 kM_77 102 dX10_keeps_102 ?_
    refine m_puti C I mInt_62 kM_298 105 dX10_keeps_105 hpf (fun S1 H locs I hpf => ?_)
    refine lv_iconst (v := (0 : Int32)) hx hb dX10_keeps_108 (by decide) ?_
    refine lv_istore_n (lv' := [(1, .int (0 : Int32)), (0, .ref h)]) hx hb dX10_keeps_109 rfl hl (by decide) rfl (fun ls hl => ?_)
    exact hC_110 N (0 : Int32) S1 H locs I ls (lv_sub hl [1, 0] rfl) hpf
  have hC_75 : ∀ (n_75 : Nat), ∀ (x1 : Int32) (S : mS) (H : Heap) (locs : List Loc), mV dC dI h cI cZ a s S H locs → ∀ ls : Array Slot, lv_has ls 2 [(0, .ref h), (1, .int x1)] → pf_keeps_75 N (pf_keeps_100 N) n_75 x1 S = some (r, Sf) → W p l e (mRm 2) s m args below meth c H locs 0 0 (MQ below (mQv dC dI h cI cZ a sz Sf) args s 0 0 (mAt h cI cZ a sz)) (F0 m 75 ls []) := by
    intro n_75
    induction n_75 with
    | zero =>
      intro x1 S H locs I ls hl hpf
      rw [pf_keeps_75] at hpf
      cases hpf
    | succ n_75 ih_75 =>
      intro x1 S H locs I ls hl hpf
      rw [pf_keeps_75] at hpf
      refine lv_iload_n hx hb dX10_keeps_75 rfl (lv_at hl 1 rfl) ?_
      refine lv_sipush (v := (15840 : Int32)) hx hb dX10_keeps_76 (by decide) ?_
      refine b_icmp_ge hx hb 100 79 dX10_keeps_79 (by decide) hpf (fun hpf => ?_) (fun hpf => ?_)
      · exact hC_100 S H locs I ls (lv_sub hl [0] rfl) hpf
      refine lv_aload_n hx hb dX10_keeps_82 rfl (lv_at hl 0 rfl) ?_
      refine m_getr C I mRef_66 kM_59 83 dX10_keeps_83 ?_
      refine lv_iload_n hx hb dX10_keeps_86 rfl (lv_at hl 1 rfl) ?_
      refine lv_aload_n hx hb dX10_keeps_87 rfl (lv_at hl 0 rfl) ?_
      refine m_getr C I mRef_51 kM_47 88 dX10_keeps_88 ?_
      refine lv_iload_n hx hb dX10_keeps_91 rfl (lv_at hl 1 rfl) ?_
      refine m_iald C I mArr_51 92 dX10_keeps_92 hpf (fun hpf => ?_)
      refine m_iast C I mArr_66 93 dX10_keeps_93 hpf (fun S1 H locs I hpf => ?_)
      refine m_iinc (w := (1 : Int32)) hx hb (fun y2 => [(1, .int y2), (0, .ref h)]) 94 dX10_keeps_94 hl (k := 1) rfl (by decide) (by decide) (fun _ => rfl) hpf (fun y2 ls hl hpf => ?_)
      refine lv_goto (tgt := 75) hx hb dX10_keeps_97 (by decide) ?_
      exact ih_75 y2 S1 H locs I ls (lv_sub hl [1, 0] rfl) hpf
  have hC_73 : ∀ (S : mS) (H : Heap) (locs : List Loc), mV dC dI h cI cZ a s S H locs → ∀ ls : Array Slot, lv_has ls 2 [(0, .ref h)] → pf_keeps_73 N S = some (r, Sf) → W p l e (mRm 2) s m args below meth c H locs 0 0 (MQ below (mQv dC dI h cI cZ a sz Sf) args s 0 0 (mAt h cI cZ a sz)) (F0 m 73 ls []) := by
    intro S H locs I ls hl hpf
    unfold pf_keeps_73 at hpf
    refine lv_iconst (v := (0 : Int32)) hx hb dX10_keeps_73 (by decide) ?_
    refine lv_istore_n (lv' := [(1, .int (0 : Int32)), (0, .ref h)]) hx hb dX10_keeps_74 rfl hl (by decide) rfl (fun ls hl => ?_)
    exact hC_75 N (0 : Int32) S H locs I ls (lv_sub hl [1, 0] rfl) hpf
  have hC_2 : ∀ (n_2 : Nat), ∀ (x1 : Int32) (S : mS) (H : Heap) (locs : List Loc), mV dC dI h cI cZ a s S H locs → ∀ ls : Array Slot, lv_has ls 2 [(0, .ref h), (1, .int x1)] → pf_keeps_2 N (pf_keeps_73 N) n_2 x1 S = some (r, Sf) → W p l e (mRm 2) s m args below meth c H locs 0 0 (MQ below (mQv dC dI h cI cZ a sz Sf) args s 0 0 (mAt h cI cZ a sz)) (F0 m 2 ls []) := by
    intro n_2
    induction n_2 with
    | zero =>
      intro x1 S H locs I ls hl hpf
      rw [pf_keeps_2] at hpf
      cases hpf
    | succ n_2 ih_2 =>
      intro x1 S H locs I ls hl hpf
      rw [pf_keeps_2] at hpf
      refine lv_iload_n hx hb dX10_keeps_2 rfl (lv_at hl 1 rfl) ?_
      refine lv_bipush (v := (48 : Int32)) hx hb dX10_keeps_3 (by decide) ?_
      refine b_icmp_ge hx hb 73 5 dX10_keeps_5 (by decide) hpf (fun hpf => ?_) (fun hpf => ?_)
      · exact hC_73 S H locs I ls (lv_sub hl [0] rfl) hpf
      refine lv_aload_n hx hb dX10_keeps_8 rfl (lv_at hl 0 rfl) ?_
      refine m_getr C I mRef_57 kM_51 9 dX10_keeps_9 ?_
      refine lv_iload_n hx hb dX10_keeps_12 rfl (lv_at hl 1 rfl) ?_
      refine lv_aload_n hx hb dX10_keeps_13 rfl (lv_at hl 0 rfl) ?_
      refine lv_iload_n hx hb dX10_keeps_14 rfl (lv_at hl 1 rfl) ?_
      refine m_callI (rest := [.int x1, .ref (a 57)]) (As := [.int x1]) C I fn_isLive (c_isLive l N x1) (by decide) 15 dX10_keeps_15 rfl hl.1 rfl (Nat.le_of_ble_eq_true rfl) hpf (fun v1 S2 H locs I hpf => ?_)
      refine m_zast C I mArr_57 18 dX10_keeps_18 hpf (fun S3 H locs I hpf => ?_)
      refine lv_aload_n hx hb dX10_keeps_19 rfl (lv_at hl 0 rfl) ?_
      refine m_getr C I mRef_58 kM_52 20 dX10_keeps_20 ?_
      refine lv_iload_n hx hb dX10_keeps_23 rfl (lv_at hl 1 rfl) ?_
      refine lv_aload_n hx hb dX10_keeps_24 rfl (lv_at hl 0 rfl) ?_
      refine m_getr C I mRef_40 kM_37 25 dX10_keeps_25 ?_
      refine lv_iload_n hx hb dX10_keeps_28 rfl (lv_at hl 1 rfl) ?_
      refine m_iald C I mArr_40 29 dX10_keeps_29 hpf (fun hpf => ?_)
      refine m_iast C I mArr_58 30 dX10_keeps_30 hpf (fun S4 H locs I hpf => ?_)
      refine lv_aload_n hx hb dX10_keeps_31 rfl (lv_at hl 0 rfl) ?_
      refine m_getr C I mRef_59 kM_53 32 dX10_keeps_32 ?_
      refine lv_iload_n hx hb dX10_keeps_35 rfl (lv_at hl 1 rfl) ?_
      refine lv_aload_n hx hb dX10_keeps_36 rfl (lv_at hl 0 rfl) ?_
      refine m_getr C I mRef_45 kM_42 37 dX10_keeps_37 ?_
      refine lv_iload_n hx hb dX10_keeps_40 rfl (lv_at hl 1 rfl) ?_
      refine m_iald C I mArr_45 41 dX10_keeps_41 hpf (fun hpf => ?_)
      refine m_iast C I mArr_59 42 dX10_keeps_42 hpf (fun S5 H locs I hpf => ?_)
      refine lv_aload_n hx hb dX10_keeps_43 rfl (lv_at hl 0 rfl) ?_
      refine m_getr C I mRef_60 kM_54 44 dX10_keeps_44 ?_
      refine lv_iload_n hx hb dX10_keeps_47 rfl (lv_at hl 1 rfl) ?_
      refine lv_aload_n hx hb dX10_keeps_48 rfl (lv_at hl 0 rfl) ?_
      refine m_getr C I mRef_46 kM_43 49 dX10_keeps_49 ?_
      refine lv_iload_n hx hb dX10_keeps_52 rfl (lv_at hl 1 rfl) ?_
      refine m_iald C I mArr_46 53 dX10_keeps_53 hpf (fun hpf => ?_)
      refine m_iast C I mArr_60 54 dX10_keeps_54 hpf (fun S6 H locs I hpf => ?_)
      refine lv_aload_n hx hb dX10_keeps_55 rfl (lv_at hl 0 rfl) ?_
      refine m_getr C I mRef_61 kM_55 56 dX10_keeps_56 ?_
      refine lv_iload_n hx hb dX10_keeps_59 rfl (lv_at hl 1 rfl) ?_
      refine lv_aload_n hx hb dX10_keeps_60 rfl (lv_at hl 0 rfl) ?_
      refine m_getr C I mRef_43 kM_40 61 dX10_keeps_61 ?_
      refine lv_iload_n hx hb dX10_keeps_64 rfl (lv_at hl 1 rfl) ?_
      refine m_iald C I mArr_43 65 dX10_keeps_65 hpf (fun hpf => ?_)
      refine m_iast C I mArr_61 66 dX10_keeps_66 hpf (fun S7 H locs I hpf => ?_)
      refine m_iinc (w := (1 : Int32)) hx hb (fun y8 => [(1, .int y8), (0, .ref h)]) 67 dX10_keeps_67 hl (k := 1) rfl (by decide) (by decide) (fun _ => rfl) hpf (fun y8 ls hl hpf => ?_)
      refine lv_goto (tgt := 2) hx hb dX10_keeps_70 (by decide) ?_
      exact ih_2 y8 S7 H locs I ls (lv_sub hl [1, 0] rfl) hpf
  refine lv_iconst (v := (0 : Int32)) hx hb dX10_keeps_0 (by decide) ?_
  refine lv_istore_n (lv' := [(1, .int (0 : Int32)), (0, .ref h)]) hx hb dX10_keeps_1 rfl hl (by decide) rfl (fun ls hl => ?_)
  exact hC_2 N (0 : Int32) S H locs I ls (lv_sub hl [1, 0] rfl) hpf
-- ===== hasSame =====
def pf_hasSame_186 (N : Nat) (x2 : Int32) (x3 : Int32) (S : mS) : Option (Int32 × mS) :=
    if x3 = (0 : Int32) then (
      some ((0 : Int32), S))
    else (
      if x2 = (0 : Int32) then (
        some ((1 : Int32), S))
      else (
        some ((0 : Int32), S)))
def pf_hasSame_178 (N : Nat) (k_152 : Int32 → Int32 → Int32 → Int32 → mS → Option (Int32 × mS)) (t0 : Int32) (t1 : Int32) (x1 : Int32) (x3 : Int32) (x4 : Int32) (S : mS) : Option (Int32 × mS) :=
    nm (t1 - t0) fun y1 =>
    nm (x4 + (1 : Int32)) fun y2 =>
    k_152 x1 y1 x3 y2 S
def pf_hasSame_152 (N : Nat) (k_186 : Int32 → Int32 → mS → Option (Int32 × mS)) : Nat → Int32 → Int32 → Int32 → Int32 → mS → Option (Int32 × mS)
  | 0 => fun _ _ _ _ _ => none
  | n_152 + 1 => fun x1 x2 x3 x4 S =>
    if (S.1 62) ≤ x4 then (
      k_186 x2 x3 S)
    else (
      gd x4 900 <|
      if (S.2 63 x4.toNatClampNeg) = x1 then (
        pf_hasSame_178 N (pf_hasSame_152 N k_186 n_152) (1 : Int32) x2 x1 x3 x4 S)
      else (
        pf_hasSame_178 N (pf_hasSame_152 N k_186 n_152) (0 : Int32) x2 x1 x3 x4 S))
def pf_hasSame_149 (N : Nat) (x1 : Int32) (x2 : Int32) (x3 : Int32) (S : mS) : Option (Int32 × mS) :=
    pf_hasSame_152 N (pf_hasSame_186 N) N x1 x2 x3 (0 : Int32) S
def pf_hasSame_141 (N : Nat) (k_7 : Int32 → Int32 → Int32 → Int32 → mS → Option (Int32 × mS)) (t0 : Int32) (t1 : Int32) (x1 : Int32) (x3 : Int32) (x4 : Int32) (S : mS) : Option (Int32 × mS) :=
    nm (t1 + t0) fun y1 =>
    nm (x4 + (1 : Int32)) fun y2 =>
    k_7 x1 y1 x3 y2 S
def pf_hasSame_123 (N : Nat) (k_7 : Int32 → Int32 → Int32 → Int32 → mS → Option (Int32 × mS)) (t0 : Int32) (x1 : Int32) (x2 : Int32) (x4 : Int32) (S : mS) : Option (Int32 × mS) :=
    gd x4 900 <|
    if (S.2 48 x4.toNatClampNeg) = x1 then (
      pf_hasSame_141 N k_7 (1 : Int32) x2 x1 t0 x4 S)
    else (
      pf_hasSame_141 N k_7 (0 : Int32) x2 x1 t0 x4 S)
def pf_hasSame_109 (N : Nat) (k_7 : Int32 → Int32 → Int32 → Int32 → mS → Option (Int32 × mS)) (x1 : Int32) (x2 : Int32) (x3 : Int32) (x4 : Int32) (x5 : Int32) (S : mS) : Option (Int32 × mS) :=
    if x3 = (0 : Int32) then (
      pf_hasSame_123 N k_7 (0 : Int32) x1 x2 x4 S)
    else (
      if x5 = (0 : Int32) then (
        pf_hasSame_123 N k_7 (0 : Int32) x1 x2 x4 S)
      else (
        pf_hasSame_123 N k_7 (1 : Int32) x1 x2 x4 S))
def pf_hasSame_101 (N : Nat) (k_37 : Int32 → Int32 → Int32 → Int32 → Int32 → Int32 → mS → Option (Int32 × mS)) (t0 : Int32) (x1 : Int32) (x2 : Int32) (x3 : Int32) (x4 : Int32) (x6 : Int32) (S : mS) : Option (Int32 × mS) :=
    nm (x6 + (1 : Int32)) fun y1 =>
    k_37 x1 x2 x3 x4 t0 y1 S
def pf_hasSame_37 (N : Nat) (k_109 : Int32 → Int32 → Int32 → Int32 → Int32 → mS → Option (Int32 × mS)) : Nat → Int32 → Int32 → Int32 → Int32 → Int32 → Int32 → mS → Option (Int32 × mS)
  | 0 => fun _ _ _ _ _ _ _ => none
  | n_37 + 1 => fun x1 x2 x3 x4 x5 x6 S =>
    if (S.1 62) ≤ x6 then (
      k_109 x1 x2 x3 x4 x5 S)
    else (
      if x5 = (0 : Int32) then (
        gd x6 900 <|
        if (S.2 63 x6.toNatClampNeg) = x1 then (
          gd x6 900 <|
          gd x4 900 <|
          if (S.2 64 x6.toNatClampNeg) = (S.2 49 x4.toNatClampNeg) then (
            gd x6 900 <|
            gd x4 900 <|
            if (S.2 65 x6.toNatClampNeg) = (S.2 50 x4.toNatClampNeg) then (
              pf_hasSame_101 N (pf_hasSame_37 N k_109 n_37) (1 : Int32) x1 x2 x3 x4 x6 S)
            else (
              pf_hasSame_101 N (pf_hasSame_37 N k_109 n_37) (0 : Int32) x1 x2 x3 x4 x6 S))
          else (
            pf_hasSame_101 N (pf_hasSame_37 N k_109 n_37) (0 : Int32) x1 x2 x3 x4 x6 S))
        else (
          pf_hasSame_101 N (pf_hasSame_37 N k_109 n_37) (0 : Int32) x1 x2 x3 x4 x6 S))
      else (
        k_109 x1 x2 x3 x4 x5 S))
def pf_hasSame_32 (N : Nat) (k_7 : Int32 → Int32 → Int32 → Int32 → mS → Option (Int32 × mS)) (t0 : Int32) (x1 : Int32) (x2 : Int32) (x3 : Int32) (x4 : Int32) (S : mS) : Option (Int32 × mS) :=
    pf_hasSame_37 N (pf_hasSame_109 N k_7) N x1 x2 x3 x4 t0 (0 : Int32) S
def pf_hasSame_7 (N : Nat) (k_149 : Int32 → Int32 → Int32 → mS → Option (Int32 × mS)) : Nat → Int32 → Int32 → Int32 → Int32 → mS → Option (Int32 × mS)
  | 0 => fun _ _ _ _ _ => none
  | n_7 + 1 => fun x1 x2 x3 x4 S =>
    if (S.1 47) ≤ x4 then (
      k_149 x1 x2 x3 S)
    else (
      gd x4 900 <|
      if (S.2 48 x4.toNatClampNeg) = x1 then (
        pf_hasSame_32 N (pf_hasSame_7 N k_149 n_7) (0 : Int32) x1 x2 x3 x4 S)
      else (
        pf_hasSame_32 N (pf_hasSame_7 N k_149 n_7) (1 : Int32) x1 x2 x3 x4 S))
def pf_hasSame (N : Nat) (x1 : Int32) (S : mS) : Option (Int32 × mS) :=
    pf_hasSame_7 N (pf_hasSame_149 N) N x1 (0 : Int32) (1 : Int32) (0 : Int32) S
theorem fn_hasSame : mFnI yX10_hasSame cX10_hasSame 7 (some .boolean) 1 371 := ⟨kM_304, kM_305, kM_306, kM_300, rfl, by decide +kernel, by decide⟩
set_option maxRecDepth 100000 in
set_option maxHeartbeats 4000000 in
theorem c_hasSame (l : Launch) (N : Nat) (x1 : Int32) : mMet l yX10_hasSame cX10_hasSame 7 .boolean 0 [.int x1] (pf_hasSame N x1) := by
  refine mStart (by decide +kernel) rfl (fun h => [(0, .ref h), (1, .int x1)]) (fun _ => Nat.le_of_ble_eq_true rfl) (fun _ => rfl) ?_
  intro dC dI h cI cZ a sz S r Sf hpf p e s m args below meth c C hr hz H locs I ls hl
  have hx := C.1
  have hb := C.2.1
  unfold pf_hasSame at hpf
  have hC_186 : ∀ (x2 : Int32) (x3 : Int32) (S : mS) (H : Heap) (locs : List Loc), mV dC dI h cI cZ a s S H locs → ∀ ls : Array Slot, lv_has ls 7 [(0, .ref h), (2, .int x2), (3, .int x3)] → pf_hasSame_186 N x2 x3 S = some (r, Sf) → W p l e (mRm 0) s m args below meth c H locs 0 0 (MQ below (mQ dC dI h cI cZ a sz r Sf) args s 0 0 (mAt h cI cZ a sz)) (F0 m 186 ls []) := by
    intro x2 x3 S H locs I ls hl hpf
    unfold pf_hasSame_186 at hpf
    refine lv_iload_n hx hb dX10_hasSame_186 rfl (lv_at hl 2 rfl) ?_
    refine b_if_eq hx hb 198 187 dX10_hasSame_187 (by decide) hpf (fun hpf => ?_) (fun hpf => ?_)
    · refine lv_iconst (v := (0 : Int32)) hx hb dX10_hasSame_198 (by decide) ?_
      exact m_retzc C I hr hz 199 dX10_hasSame_199 (by decide) hpf
    refine lv_iload_n hx hb dX10_hasSame_190 rfl (lv_at hl 1 rfl) ?_
    refine b_if_ne hx hb 198 191 dX10_hasSame_191 (by decide) hpf (fun hpf => ?_) (fun hpf => ?_)
    · refine lv_iconst (v := (0 : Int32)) hx hb dX10_hasSame_198 (by decide) ?_
      exact m_retzc C I hr hz 199 dX10_hasSame_199 (by decide) hpf
    refine lv_iconst (v := (1 : Int32)) hx hb dX10_hasSame_194 (by decide) ?_
    refine lv_goto (tgt := 199) hx hb dX10_hasSame_195 (by decide) ?_
    exact m_retzc C I hr hz 199 dX10_hasSame_199 (by decide) hpf
  have hC_152 : ∀ (n_152 : Nat), ∀ (x1 : Int32) (x2 : Int32) (x3 : Int32) (x4 : Int32) (S : mS) (H : Heap) (locs : List Loc), mV dC dI h cI cZ a s S H locs → ∀ ls : Array Slot, lv_has ls 7 [(0, .ref h), (1, .int x1), (2, .int x2), (3, .int x3), (4, .int x4)] → pf_hasSame_152 N (pf_hasSame_186 N) n_152 x1 x2 x3 x4 S = some (r, Sf) → W p l e (mRm 0) s m args below meth c H locs 0 0 (MQ below (mQ dC dI h cI cZ a sz r Sf) args s 0 0 (mAt h cI cZ a sz)) (F0 m 152 ls []) := by
    intro n_152
    induction n_152 with
    | zero =>
      intro x1 x2 x3 x4 S H locs I ls hl hpf
      rw [pf_hasSame_152] at hpf
      cases hpf
    | succ n_152 ih_152 =>
      have hC_178 : ∀ (t0 : Int32) (t1 : Int32) (x1 : Int32) (x3 : Int32) (x4 : Int32) (S : mS) (H : Heap) (locs : List Loc), mV dC dI h cI cZ a s S H locs → ∀ ls : Array Slot, lv_has ls 7 [(0, .ref h), (1, .int x1), (3, .int x3), (4, .int x4)] → pf_hasSame_178 N (pf_hasSame_152 N (pf_hasSame_186 N) n_152) t0 t1 x1 x3 x4 S = some (r, Sf) → W p l e (mRm 0) s m args below meth c H locs 0 0 (MQ below (mQ dC dI h cI cZ a sz r Sf) args s 0 0 (mAt h cI cZ a sz)) (F0 m 178 ls [.int t0, .int t1]) := by
        intro t0 t1 x1 x3 x4 S H locs I ls hl hpf
        unfold pf_hasSame_178 at hpf
        refine lv_isub hx hb dX10_hasSame_178 ?_
        refine m_isto_n hx hb (fun y1 => [(2, .int y1), (0, .ref h), (1, .int x1), (3, .int x3), (4, .int x4)]) 179 dX10_hasSame_179 rfl hl (by decide) (fun _ => rfl) hpf (fun y1 ls hl hpf => ?_)
        refine m_iinc (w := (1 : Int32)) hx hb (fun y2 => [(4, .int y2), (2, .int y1), (0, .ref h), (1, .int x1), (3, .int x3)]) 180 dX10_hasSame_180 hl (k := 4) rfl (by decide) (by decide) (fun _ => rfl) hpf (fun y2 ls hl hpf => ?_)
        refine lv_goto (tgt := 152) hx hb dX10_hasSame_183 (by decide) ?_
        exact ih_152 x1 y1 x3 y2 S H locs I ls (lv_sub hl [2, 3, 1, 4, 0] rfl) hpf
      intro x1 x2 x3 x4 S H locs I ls hl hpf
      rw [pf_hasSame_152] at hpf
      refine lv_iload hx hb dX10_hasSame_152 (lv_at hl 4 rfl) ?_
      refine lv_aload_n hx hb dX10_hasSame_154 rfl (lv_at hl 0 rfl) ?_
      refine m_geti C I mInt_62 kM_298 155 dX10_hasSame_155 ?_
      refine b_icmp_ge hx hb 186 158 dX10_hasSame_158 (by decide) hpf (fun hpf => ?_) (fun hpf => ?_)
      · exact hC_186 x2 x3 S H locs I ls (lv_sub hl [0, 2, 3] rfl) hpf
      refine lv_iload_n hx hb dX10_hasSame_161 rfl (lv_at hl 2 rfl) ?_
      refine lv_aload_n hx hb dX10_hasSame_162 rfl (lv_at hl 0 rfl) ?_
      refine m_getr C I mRef_63 kM_56 163 dX10_hasSame_163 ?_
      refine lv_iload hx hb dX10_hasSame_166 (lv_at hl 4 rfl) ?_
      refine m_iald C I mArr_63 168 dX10_hasSame_168 hpf (fun hpf => ?_)
      refine lv_iload_n hx hb dX10_hasSame_169 rfl (lv_at hl 1 rfl) ?_
      refine b_icmp_ne hx hb 177 170 dX10_hasSame_170 (by decide) hpf (fun hpf => ?_) (fun hpf => ?_)
      · refine lv_iconst (v := (0 : Int32)) hx hb dX10_hasSame_177 (by decide) ?_
        exact hC_178 (0 : Int32) x2 x1 x3 x4 S H locs I ls (lv_sub hl [0, 1, 3, 4] rfl) hpf
      refine lv_iconst (v := (1 : Int32)) hx hb dX10_hasSame_173 (by decide) ?_
      refine lv_goto (tgt := 178) hx hb dX10_hasSame_174 (by decide) ?_
      exact hC_178 (1 : Int32) x2 x1 x3 x4 S H locs I ls (lv_sub hl [0, 1, 3, 4] rfl) hpf
  have hC_149 : ∀ (x1 : Int32) (x2 : Int32) (x3 : Int32) (S : mS) (H : Heap) (locs : List Loc), mV dC dI h cI cZ a s S H locs → ∀ ls : Array Slot, lv_has ls 7 [(0, .ref h), (1, .int x1), (2, .int x2), (3, .int x3)] → pf_hasSame_149 N x1 x2 x3 S = some (r, Sf) → W p l e (mRm 0) s m args below meth c H locs 0 0 (MQ below (mQ dC dI h cI cZ a sz r Sf) args s 0 0 (mAt h cI cZ a sz)) (F0 m 149 ls []) := by
    intro x1 x2 x3 S H locs I ls hl hpf
    unfold pf_hasSame_149 at hpf
    refine lv_iconst (v := (0 : Int32)) hx hb dX10_hasSame_149 (by decide) ?_
    refine lv_istore (lv' := [(4, .int (0 : Int32)), (0, .ref h), (1, .int x1), (2, .int x2), (3, .int x3)]) hx hb dX10_hasSame_150 hl (by decide) rfl (fun ls hl => ?_)
    exact hC_152 N x1 x2 x3 (0 : Int32) S H locs I ls (lv_sub hl [1, 2, 3, 4, 0] rfl) hpf
  have hC_7 : ∀ (n_7 : Nat), ∀ (x1 : Int32) (x2 : Int32) (x3 : Int32) (x4 : Int32) (S : mS) (H : Heap) (locs : List Loc), mV dC dI h cI cZ a s S H locs → ∀ ls : Array Slot, lv_has ls 7 [(0, .ref h), (1, .int x1), (2, .int x2), (3, .int x3), (4, .int x4)] → pf_hasSame_7 N (pf_hasSame_149 N) n_7 x1 x2 x3 x4 S = some (r, Sf) → W p l e (mRm 0) s m args below meth c H locs 0 0 (MQ below (mQ dC dI h cI cZ a sz r Sf) args s 0 0 (mAt h cI cZ a sz)) (F0 m 7 ls []) := by
    intro n_7
    induction n_7 with
    | zero =>
      intro x1 x2 x3 x4 S H locs I ls hl hpf
      rw [pf_hasSame_7] at hpf
      cases hpf
    | succ n_7 ih_7 =>
      have hC_141 : ∀ (t0 : Int32) (t1 : Int32) (x1 : Int32) (x3 : Int32) (x4 : Int32) (S : mS) (H : Heap) (locs : List Loc), mV dC dI h cI cZ a s S H locs → ∀ ls : Array Slot, lv_has ls 7 [(0, .ref h), (1, .int x1), (3, .int x3), (4, .int x4)] → pf_hasSame_141 N (pf_hasSame_7 N (pf_hasSame_149 N) n_7) t0 t1 x1 x3 x4 S = some (r, Sf) → W p l e (mRm 0) s m args below meth c H locs 0 0 (MQ below (mQ dC dI h cI cZ a sz r Sf) args s 0 0 (mAt h cI cZ a sz)) (F0 m 141 ls [.int t0, .int t1]) := by
        intro t0 t1 x1 x3 x4 S H locs I ls hl hpf
        unfold pf_hasSame_141 at hpf
        refine lv_iadd hx hb dX10_hasSame_141 ?_
        refine m_isto_n hx hb (fun y1 => [(2, .int y1), (0, .ref h), (1, .int x1), (3, .int x3), (4, .int x4)]) 142 dX10_hasSame_142 rfl hl (by decide) (fun _ => rfl) hpf (fun y1 ls hl hpf => ?_)
        refine m_iinc (w := (1 : Int32)) hx hb (fun y2 => [(4, .int y2), (2, .int y1), (0, .ref h), (1, .int x1), (3, .int x3)]) 143 dX10_hasSame_143 hl (k := 4) rfl (by decide) (by decide) (fun _ => rfl) hpf (fun y2 ls hl hpf => ?_)
        refine lv_goto (tgt := 7) hx hb dX10_hasSame_146 (by decide) ?_
        exact ih_7 x1 y1 x3 y2 S H locs I ls (lv_sub hl [2, 3, 1, 4, 0] rfl) hpf
      have hC_123 : ∀ (t0 : Int32) (x1 : Int32) (x2 : Int32) (x4 : Int32) (S : mS) (H : Heap) (locs : List Loc), mV dC dI h cI cZ a s S H locs → ∀ ls : Array Slot, lv_has ls 7 [(0, .ref h), (1, .int x1), (2, .int x2), (4, .int x4)] → pf_hasSame_123 N (pf_hasSame_7 N (pf_hasSame_149 N) n_7) t0 x1 x2 x4 S = some (r, Sf) → W p l e (mRm 0) s m args below meth c H locs 0 0 (MQ below (mQ dC dI h cI cZ a sz r Sf) args s 0 0 (mAt h cI cZ a sz)) (F0 m 123 ls [.int t0]) := by
        intro t0 x1 x2 x4 S H locs I ls hl hpf
        unfold pf_hasSame_123 at hpf
        refine lv_istore_n (lv' := [(3, .int t0), (0, .ref h), (1, .int x1), (2, .int x2), (4, .int x4)]) hx hb dX10_hasSame_123 rfl hl (by decide) rfl (fun ls hl => ?_)
        refine lv_iload_n hx hb dX10_hasSame_124 rfl (lv_at hl 3 rfl) ?_
        refine lv_aload_n hx hb dX10_hasSame_125 rfl (lv_at hl 1 rfl) ?_
        refine m_getr C I mRef_48 kM_44 126 dX10_hasSame_126 ?_
        refine lv_iload hx hb dX10_hasSame_129 (lv_at hl 4 rfl) ?_
        refine m_iald C I mArr_48 131 dX10_hasSame_131 hpf (fun hpf => ?_)
        refine lv_iload_n hx hb dX10_hasSame_132 rfl (lv_at hl 2 rfl) ?_
        refine b_icmp_ne hx hb 140 133 dX10_hasSame_133 (by decide) hpf (fun hpf => ?_) (fun hpf => ?_)
        · refine lv_iconst (v := (0 : Int32)) hx hb dX10_hasSame_140 (by decide) ?_
          exact hC_141 (0 : Int32) x2 x1 t0 x4 S H locs I ls (lv_sub hl [1, 2, 0, 4] rfl) hpf
        refine lv_iconst (v := (1 : Int32)) hx hb dX10_hasSame_136 (by decide) ?_
        refine lv_goto (tgt := 141) hx hb dX10_hasSame_137 (by decide) ?_
        exact hC_141 (1 : Int32) x2 x1 t0 x4 S H locs I ls (lv_sub hl [1, 2, 0, 4] rfl) hpf
      have hC_109 : ∀ (x1 : Int32) (x2 : Int32) (x3 : Int32) (x4 : Int32) (x5 : Int32) (S : mS) (H : Heap) (locs : List Loc), mV dC dI h cI cZ a s S H locs → ∀ ls : Array Slot, lv_has ls 7 [(0, .ref h), (1, .int x1), (2, .int x2), (3, .int x3), (4, .int x4), (5, .int x5)] → pf_hasSame_109 N (pf_hasSame_7 N (pf_hasSame_149 N) n_7) x1 x2 x3 x4 x5 S = some (r, Sf) → W p l e (mRm 0) s m args below meth c H locs 0 0 (MQ below (mQ dC dI h cI cZ a sz r Sf) args s 0 0 (mAt h cI cZ a sz)) (F0 m 109 ls []) := by
        intro x1 x2 x3 x4 x5 S H locs I ls hl hpf
        unfold pf_hasSame_109 at hpf
        refine lv_iload_n hx hb dX10_hasSame_109 rfl (lv_at hl 3 rfl) ?_
        refine b_if_eq hx hb 122 110 dX10_hasSame_110 (by decide) hpf (fun hpf => ?_) (fun hpf => ?_)
        · refine lv_iconst (v := (0 : Int32)) hx hb dX10_hasSame_122 (by decide) ?_
          exact hC_123 (0 : Int32) x1 x2 x4 S H locs I ls (lv_sub hl [0, 1, 2, 4] rfl) hpf
        refine lv_iload hx hb dX10_hasSame_113 (lv_at hl 5 rfl) ?_
        refine b_if_eq hx hb 122 115 dX10_hasSame_115 (by decide) hpf (fun hpf => ?_) (fun hpf => ?_)
        · refine lv_iconst (v := (0 : Int32)) hx hb dX10_hasSame_122 (by decide) ?_
          exact hC_123 (0 : Int32) x1 x2 x4 S H locs I ls (lv_sub hl [0, 1, 2, 4] rfl) hpf
        refine lv_iconst (v := (1 : Int32)) hx hb dX10_hasSame_118 (by decide) ?_
        refine lv_goto (tgt := 123) hx hb dX10_hasSame_119 (by decide) ?_
        exact hC_123 (1 : Int32) x1 x2 x4 S H locs I ls (lv_sub hl [0, 1, 2, 4] rfl) hpf
      have hC_37 : ∀ (n_37 : Nat), ∀ (x1 : Int32) (x2 : Int32) (x3 : Int32) (x4 : Int32) (x5 : Int32) (x6 : Int32) (S : mS) (H : Heap) (locs : List Loc), mV dC dI h cI cZ a s S H locs → ∀ ls : Array Slot, lv_has ls 7 [(0, .ref h), (1, .int x1), (2, .int x2), (3, .int x3), (4, .int x4), (5, .int x5), (6, .int x6)] → pf_hasSame_37 N (pf_hasSame_109 N (pf_hasSame_7 N (pf_hasSame_149 N) n_7)) n_37 x1 x2 x3 x4 x5 x6 S = some (r, Sf) → W p l e (mRm 0) s m args below meth c H locs 0 0 (MQ below (mQ dC dI h cI cZ a sz r Sf) args s 0 0 (mAt h cI cZ a sz)) (F0 m 37 ls []) := by
        intro n_37
        induction n_37 with
        | zero =>
          intro x1 x2 x3 x4 x5 x6 S H locs I ls hl hpf
          rw [pf_hasSame_37] at hpf
          cases hpf
        | succ n_37 ih_37 =>
          have hC_101 : ∀ (t0 : Int32) (x1 : Int32) (x2 : Int32) (x3 : Int32) (x4 : Int32) (x6 : Int32) (S : mS) (H : Heap) (locs : List Loc), mV dC dI h cI cZ a s S H locs → ∀ ls : Array Slot, lv_has ls 7 [(0, .ref h), (1, .int x1), (2, .int x2), (3, .int x3), (4, .int x4), (6, .int x6)] → pf_hasSame_101 N (pf_hasSame_37 N (pf_hasSame_109 N (pf_hasSame_7 N (pf_hasSame_149 N) n_7)) n_37) t0 x1 x2 x3 x4 x6 S = some (r, Sf) → W p l e (mRm 0) s m args below meth c H locs 0 0 (MQ below (mQ dC dI h cI cZ a sz r Sf) args s 0 0 (mAt h cI cZ a sz)) (F0 m 101 ls [.int t0]) := by
            intro t0 x1 x2 x3 x4 x6 S H locs I ls hl hpf
            unfold pf_hasSame_101 at hpf
            refine lv_istore (lv' := [(5, .int t0), (0, .ref h), (1, .int x1), (2, .int x2), (3, .int x3), (4, .int x4), (6, .int x6)]) hx hb dX10_hasSame_101 hl (by decide) rfl (fun ls hl => ?_)
            refine m_iinc (w := (1 : Int32)) hx hb (fun y1 => [(6, .int y1), (5, .int t0), (0, .ref h), (1, .int x1), (2, .int x2), (3, .int x3), (4, .int x4)]) 103 dX10_hasSame_103 hl (k := 6) rfl (by decide) (by decide) (fun _ => rfl) hpf (fun y1 ls hl hpf => ?_)
            refine lv_goto (tgt := 37) hx hb dX10_hasSame_106 (by decide) ?_
            exact ih_37 x1 x2 x3 x4 t0 y1 S H locs I ls (lv_sub hl [2, 3, 4, 5, 6, 1, 0] rfl) hpf
          intro x1 x2 x3 x4 x5 x6 S H locs I ls hl hpf
          rw [pf_hasSame_37] at hpf
          refine lv_iload hx hb dX10_hasSame_37 (lv_at hl 6 rfl) ?_
          refine lv_aload_n hx hb dX10_hasSame_39 rfl (lv_at hl 0 rfl) ?_
          refine m_geti C I mInt_62 kM_298 40 dX10_hasSame_40 ?_
          refine b_icmp_ge hx hb 109 43 dX10_hasSame_43 (by decide) hpf (fun hpf => ?_) (fun hpf => ?_)
          · exact hC_109 x1 x2 x3 x4 x5 S H locs I ls (lv_sub hl [0, 1, 2, 3, 4, 5] rfl) hpf
          refine lv_iload hx hb dX10_hasSame_46 (lv_at hl 5 rfl) ?_
          refine b_if_ne hx hb 109 48 dX10_hasSame_48 (by decide) hpf (fun hpf => ?_) (fun hpf => ?_)
          · exact hC_109 x1 x2 x3 x4 x5 S H locs I ls (lv_sub hl [0, 1, 2, 3, 4, 5] rfl) hpf
          refine lv_aload_n hx hb dX10_hasSame_51 rfl (lv_at hl 0 rfl) ?_
          refine m_getr C I mRef_63 kM_56 52 dX10_hasSame_52 ?_
          refine lv_iload hx hb dX10_hasSame_55 (lv_at hl 6 rfl) ?_
          refine m_iald C I mArr_63 57 dX10_hasSame_57 hpf (fun hpf => ?_)
          refine lv_iload_n hx hb dX10_hasSame_58 rfl (lv_at hl 1 rfl) ?_
          refine b_icmp_ne hx hb 100 59 dX10_hasSame_59 (by decide) hpf (fun hpf => ?_) (fun hpf => ?_)
          · refine lv_iconst (v := (0 : Int32)) hx hb dX10_hasSame_100 (by decide) ?_
            exact hC_101 (0 : Int32) x1 x2 x3 x4 x6 S H locs I ls (lv_sub hl [0, 1, 2, 3, 4, 6] rfl) hpf
          refine lv_aload_n hx hb dX10_hasSame_62 rfl (lv_at hl 0 rfl) ?_
          refine m_getr C I mRef_64 kM_57 63 dX10_hasSame_63 ?_
          refine lv_iload hx hb dX10_hasSame_66 (lv_at hl 6 rfl) ?_
          refine m_iald C I mArr_64 68 dX10_hasSame_68 hpf (fun hpf => ?_)
          refine lv_aload_n hx hb dX10_hasSame_69 rfl (lv_at hl 0 rfl) ?_
          refine m_getr C I mRef_49 kM_45 70 dX10_hasSame_70 ?_
          refine lv_iload hx hb dX10_hasSame_73 (lv_at hl 4 rfl) ?_
          refine m_iald C I mArr_49 75 dX10_hasSame_75 hpf (fun hpf => ?_)
          refine b_icmp_ne hx hb 100 76 dX10_hasSame_76 (by decide) hpf (fun hpf => ?_) (fun hpf => ?_)
          · refine lv_iconst (v := (0 : Int32)) hx hb dX10_hasSame_100 (by decide) ?_
            exact hC_101 (0 : Int32) x1 x2 x3 x4 x6 S H locs I ls (lv_sub hl [0, 1, 2, 3, 4, 6] rfl) hpf
          refine lv_aload_n hx hb dX10_hasSame_79 rfl (lv_at hl 0 rfl) ?_
          refine m_getr C I mRef_65 kM_58 80 dX10_hasSame_80 ?_
          refine lv_iload hx hb dX10_hasSame_83 (lv_at hl 6 rfl) ?_
          refine m_iald C I mArr_65 85 dX10_hasSame_85 hpf (fun hpf => ?_)
          refine lv_aload_n hx hb dX10_hasSame_86 rfl (lv_at hl 0 rfl) ?_
          refine m_getr C I mRef_50 kM_46 87 dX10_hasSame_87 ?_
          refine lv_iload hx hb dX10_hasSame_90 (lv_at hl 4 rfl) ?_
          refine m_iald C I mArr_50 92 dX10_hasSame_92 hpf (fun hpf => ?_)
          refine b_icmp_ne hx hb 100 93 dX10_hasSame_93 (by decide) hpf (fun hpf => ?_) (fun hpf => ?_)
          · refine lv_iconst (v := (0 : Int32)) hx hb dX10_hasSame_100 (by decide) ?_
            exact hC_101 (0 : Int32) x1 x2 x3 x4 x6 S H locs I ls (lv_sub hl [0, 1, 2, 3, 4, 6] rfl) hpf
          refine lv_iconst (v := (1 : Int32)) hx hb dX10_hasSame_96 (by decide) ?_
          refine lv_goto (tgt := 101) hx hb dX10_hasSame_97 (by decide) ?_
          exact hC_101 (1 : Int32) x1 x2 x3 x4 x6 S H locs I ls (lv_sub hl [0, 1, 2, 3, 4, 6] rfl) hpf
      have hC_32 : ∀ (t0 : Int32) (x1 : Int32) (x2 : Int32) (x3 : Int32) (x4 : Int32) (S : mS) (H : Heap) (locs : List Loc), mV dC dI h cI cZ a s S H locs → ∀ ls : Array Slot, lv_has ls 7 [(0, .ref h), (1, .int x1), (2, .int x2), (3, .int x3), (4, .int x4)] → pf_hasSame_32 N (pf_hasSame_7 N (pf_hasSame_149 N) n_7) t0 x1 x2 x3 x4 S = some (r, Sf) → W p l e (mRm 0) s m args below meth c H locs 0 0 (MQ below (mQ dC dI h cI cZ a sz r Sf) args s 0 0 (mAt h cI cZ a sz)) (F0 m 32 ls [.int t0]) := by
        intro t0 x1 x2 x3 x4 S H locs I ls hl hpf
        unfold pf_hasSame_32 at hpf
        refine lv_istore (lv' := [(5, .int t0), (0, .ref h), (1, .int x1), (2, .int x2), (3, .int x3), (4, .int x4)]) hx hb dX10_hasSame_32 hl (by decide) rfl (fun ls hl => ?_)
        refine lv_iconst (v := (0 : Int32)) hx hb dX10_hasSame_34 (by decide) ?_
        refine lv_istore (lv' := [(6, .int (0 : Int32)), (5, .int t0), (0, .ref h), (1, .int x1), (2, .int x2), (3, .int x3), (4, .int x4)]) hx hb dX10_hasSame_35 hl (by decide) rfl (fun ls hl => ?_)
        exact hC_37 N x1 x2 x3 x4 t0 (0 : Int32) S H locs I ls (lv_sub hl [2, 3, 4, 5, 6, 1, 0] rfl) hpf
      intro x1 x2 x3 x4 S H locs I ls hl hpf
      rw [pf_hasSame_7] at hpf
      refine lv_iload hx hb dX10_hasSame_7 (lv_at hl 4 rfl) ?_
      refine lv_aload_n hx hb dX10_hasSame_9 rfl (lv_at hl 0 rfl) ?_
      refine m_geti C I mInt_47 kM_77 10 dX10_hasSame_10 ?_
      refine b_icmp_ge hx hb 149 13 dX10_hasSame_13 (by decide) hpf (fun hpf => ?_) (fun hpf => ?_)
      · exact hC_149 x1 x2 x3 S H locs I ls (lv_sub hl [0, 1, 2, 3] rfl) hpf
      refine lv_aload_n hx hb dX10_hasSame_16 rfl (lv_at hl 0 rfl) ?_
      refine m_getr C I mRef_48 kM_44 17 dX10_hasSame_17 ?_
      refine lv_iload hx hb dX10_hasSame_20 (lv_at hl 4 rfl) ?_
      refine m_iald C I mArr_48 22 dX10_hasSame_22 hpf (fun hpf => ?_)
      refine lv_iload_n hx hb dX10_hasSame_23 rfl (lv_at hl 1 rfl) ?_
      refine b_icmp_eq hx hb 31 24 dX10_hasSame_24 (by decide) hpf (fun hpf => ?_) (fun hpf => ?_)
      · refine lv_iconst (v := (0 : Int32)) hx hb dX10_hasSame_31 (by decide) ?_
        exact hC_32 (0 : Int32) x1 x2 x3 x4 S H locs I ls (lv_sub hl [0, 1, 2, 3, 4] rfl) hpf
      refine lv_iconst (v := (1 : Int32)) hx hb dX10_hasSame_27 (by decide) ?_
      refine lv_goto (tgt := 32) hx hb dX10_hasSame_28 (by decide) ?_
      exact hC_32 (1 : Int32) x1 x2 x3 x4 S H locs I ls (lv_sub hl [0, 1, 2, 3, 4] rfl) hpf
  refine lv_iconst (v := (0 : Int32)) hx hb dX10_hasSame_0 (by decide) ?_
  refine lv_istore_n (lv' := [(2, .int (0 : Int32)), (0, .ref h), (1, .int x1)]) hx hb dX10_hasSame_1 rfl hl (by decide) rfl (fun ls hl => ?_)
  refine lv_iconst (v := (1 : Int32)) hx hb dX10_hasSame_2 (by decide) ?_
  refine lv_istore_n (lv' := [(3, .int (1 : Int32)), (2, .int (0 : Int32)), (0, .ref h), (1, .int x1)]) hx hb dX10_hasSame_3 rfl hl (by decide) rfl (fun ls hl => ?_)
  refine lv_iconst (v := (0 : Int32)) hx hb dX10_hasSame_4 (by decide) ?_
  refine lv_istore (lv' := [(4, .int (0 : Int32)), (3, .int (1 : Int32)), (2, .int (0 : Int32)), (0, .ref h), (1, .int x1)]) hx hb dX10_hasSame_5 hl (by decide) rfl (fun ls hl => ?_)
  exact hC_7 N x1 (0 : Int32) (1 : Int32) (0 : Int32) S H locs I ls (lv_sub hl [3, 4, 2, 1, 0] rfl) hpf
-- ===== isAlike =====
def pf_isAlike_204 (N : Nat) (k_19 : Int32 → Int32 → mS → Option (Int32 × mS)) (x3 : Int32) (x4 : Int32) (S : mS) : Option (Int32 × mS) :=
    nm (x4 + (1 : Int32)) fun y1 =>
    k_19 x3 y1 S
def pf_isAlike_197 (N : Nat) (k_156 : Int32 → Int32 → Int32 → mS → Option (Int32 × mS)) (t0 : Int32) (x4 : Int32) (x5 : Int32) (S : mS) : Option (Int32 × mS) :=
    nm (x5 + (1 : Int32)) fun y1 =>
    k_156 t0 x4 y1 S
def pf_isAlike_156 (N : Nat) (k_204 : Int32 → Int32 → mS → Option (Int32 × mS)) : Nat → Int32 → Int32 → Int32 → mS → Option (Int32 × mS)
  | 0 => fun _ _ _ _ => none
  | n_156 + 1 => fun x3 x4 x5 S =>
    if (((330 : Int32) * x4) + (330 : Int32)) ≤ x5 then (
      k_204 x3 x4 S)
    else (
      if x3 = (0 : Int32) then (
        pf_isAlike_197 N (pf_isAlike_156 N k_204 n_156) (0 : Int32) x4 x5 S)
      else (
        gd x5 15840 <|
        gd x5 15840 <|
        if (S.2 51 x5.toNatClampNeg) = (S.2 66 x5.toNatClampNeg) then (
          pf_isAlike_197 N (pf_isAlike_156 N k_204 n_156) (1 : Int32) x4 x5 S)
        else (
          pf_isAlike_197 N (pf_isAlike_156 N k_204 n_156) (0 : Int32) x4 x5 S)))
def pf_isAlike_147 (N : Nat) (k_19 : Int32 → Int32 → mS → Option (Int32 × mS)) (t0 : Int32) (x4 : Int32) (S : mS) : Option (Int32 × mS) :=
    nm ((330 : Int32) * x4) fun y1 =>
    pf_isAlike_156 N (pf_isAlike_204 N k_19) N t0 x4 y1 S
def pf_isAlike_51 (N : Nat) (k_19 : Int32 → Int32 → mS → Option (Int32 × mS)) (t0 : Int32) (x4 : Int32) (S : mS) : Option (Int32 × mS) :=
    if t0 = (0 : Int32) then (
      pf_isAlike_204 N k_19 t0 x4 S)
    else (
      bd (pf_isLive N x4 S) fun v1 S2 =>
      if v1 = (0 : Int32) then (
        pf_isAlike_204 N k_19 t0 x4 S2)
      else (
        gd x4 48 <|
        gd x4 48 <|
        if (S2.2 40 x4.toNatClampNeg) = (S2.2 58 x4.toNatClampNeg) then (
          gd x4 48 <|
          gd x4 48 <|
          if (S2.2 45 x4.toNatClampNeg) = (S2.2 59 x4.toNatClampNeg) then (
            gd x4 48 <|
            gd x4 48 <|
            if (S2.2 46 x4.toNatClampNeg) = (S2.2 60 x4.toNatClampNeg) then (
              gd x4 48 <|
              gd x4 48 <|
              if (S2.2 43 x4.toNatClampNeg) = (S2.2 61 x4.toNatClampNeg) then (
                bd (pf_hasSame N x4 S2) fun v3 S4 =>
                if v3 = (0 : Int32) then (
                  pf_isAlike_147 N k_19 (0 : Int32) x4 S4)
                else (
                  pf_isAlike_147 N k_19 (1 : Int32) x4 S4))
              else (
                pf_isAlike_147 N k_19 (0 : Int32) x4 S2))
            else (
              pf_isAlike_147 N k_19 (0 : Int32) x4 S2))
          else (
            pf_isAlike_147 N k_19 (0 : Int32) x4 S2))
        else (
          pf_isAlike_147 N k_19 (0 : Int32) x4 S2)))
def pf_isAlike_19 (N : Nat) : Nat → Int32 → Int32 → mS → Option (Int32 × mS)
  | 0 => fun _ _ _ => none
  | n_19 + 1 => fun x3 x4 S =>
    if (48 : Int32) ≤ x4 then (
      zr x3 S)
    else (
      if x3 = (0 : Int32) then (
        pf_isAlike_51 N (pf_isAlike_19 N n_19) (0 : Int32) x4 S)
      else (
        bd (pf_isLive N x4 S) fun v1 S2 =>
        gd x4 48 <|
        if v1 = (S2.2 57 x4.toNatClampNeg) then (
          pf_isAlike_51 N (pf_isAlike_19 N n_19) (1 : Int32) x4 S2)
        else (
          pf_isAlike_51 N (pf_isAlike_19 N n_19) (0 : Int32) x4 S2)))
def pf_isAlike (N : Nat) (x1 : Int32) (x2 : Int32) (S : mS) : Option (Int32 × mS) :=
    bd (pf_lays N x1 S) fun v1 S2 =>
    bd (pf_keeps N S2) fun v3 S4 =>
    bd (pf_lays N x2 S4) fun v5 S6 =>
    pf_isAlike_19 N N (1 : Int32) (0 : Int32) S6
theorem fn_isAlike : mFnI yX10_isAlike cX10_isAlike 6 (some .boolean) 2 374 := ⟨kM_308, kM_309, kM_310, kM_307, rfl, by decide +kernel, by decide⟩
set_option maxRecDepth 100000 in
set_option maxHeartbeats 4000000 in
theorem c_isAlike (l : Launch) (N : Nat) (x1 : Int32) (x2 : Int32) : mMet l yX10_isAlike cX10_isAlike 6 .boolean 5 [.int x1, .int x2] (pf_isAlike N x1 x2) := by
  refine mStart (by decide +kernel) rfl (fun h => [(0, .ref h), (1, .int x1), (2, .int x2)]) (fun _ => Nat.le_of_ble_eq_true rfl) (fun _ => rfl) ?_
  intro dC dI h cI cZ a sz S r Sf hpf p e s m args below meth c C hr hz H locs I ls hl
  have hx := C.1
  have hb := C.2.1
  unfold pf_isAlike at hpf
  have hC_19 : ∀ (n_19 : Nat), ∀ (x3 : Int32) (x4 : Int32) (S : mS) (H : Heap) (locs : List Loc), mV dC dI h cI cZ a s S H locs → ∀ ls : Array Slot, lv_has ls 6 [(0, .ref h), (3, .int x3), (4, .int x4)] → pf_isAlike_19 N n_19 x3 x4 S = some (r, Sf) → W p l e (mRm 5) s m args below meth c H locs 0 0 (MQ below (mQ dC dI h cI cZ a sz r Sf) args s 0 0 (mAt h cI cZ a sz)) (F0 m 19 ls []) := by
    intro n_19
    induction n_19 with
    | zero =>
      intro x3 x4 S H locs I ls hl hpf
      rw [pf_isAlike_19] at hpf
      cases hpf
    | succ n_19 ih_19 =>
      have hC_204 : ∀ (x3 : Int32) (x4 : Int32) (S : mS) (H : Heap) (locs : List Loc), mV dC dI h cI cZ a s S H locs → ∀ ls : Array Slot, lv_has ls 6 [(0, .ref h), (3, .int x3), (4, .int x4)] → pf_isAlike_204 N (pf_isAlike_19 N n_19) x3 x4 S = some (r, Sf) → W p l e (mRm 5) s m args below meth c H locs 0 0 (MQ below (mQ dC dI h cI cZ a sz r Sf) args s 0 0 (mAt h cI cZ a sz)) (F0 m 204 ls []) := by
        intro x3 x4 S H locs I ls hl hpf
        unfold pf_isAlike_204 at hpf
        refine m_iinc (w := (1 : Int32)) hx hb (fun y1 => [(4, .int y1), (0, .ref h), (3, .int x3)]) 204 dX10_isAlike_204 hl (k := 2) rfl (by decide) (by decide) (fun _ => rfl) hpf (fun y1 ls hl hpf => ?_)
        refine lv_goto (tgt := 19) hx hb dX10_isAlike_207 (by decide) ?_
        exact ih_19 x3 y1 S H locs I ls (lv_sub hl [1, 2, 0] rfl) hpf
      have hC_156 : ∀ (n_156 : Nat), ∀ (x3 : Int32) (x4 : Int32) (x5 : Int32) (S : mS) (H : Heap) (locs : List Loc), mV dC dI h cI cZ a s S H locs → ∀ ls : Array Slot, lv_has ls 6 [(0, .ref h), (3, .int x3), (4, .int x4), (5, .int x5)] → pf_isAlike_156 N (pf_isAlike_204 N (pf_isAlike_19 N n_19)) n_156 x3 x4 x5 S = some (r, Sf) → W p l e (mRm 5) s m args below meth c H locs 0 0 (MQ below (mQ dC dI h cI cZ a sz r Sf) args s 0 0 (mAt h cI cZ a sz)) (F0 m 156 ls []) := by
        intro n_156
        induction n_156 with
        | zero =>
          intro x3 x4 x5 S H locs I ls hl hpf
          rw [pf_isAlike_156] at hpf
          cases hpf
        | succ n_156 ih_156 =>
          have hC_197 : ∀ (t0 : Int32) (x4 : Int32) (x5 : Int32) (S : mS) (H : Heap) (locs : List Loc), mV dC dI h cI cZ a s S H locs → ∀ ls : Array Slot, lv_has ls 6 [(0, .ref h), (4, .int x4), (5, .int x5)] → pf_isAlike_197 N (pf_isAlike_156 N (pf_isAlike_204 N (pf_isAlike_19 N n_19)) n_156) t0 x4 x5 S = some (r, Sf) → W p l e (mRm 5) s m args below meth c H locs 0 0 (MQ below (mQ dC dI h cI cZ a sz r Sf) args s 0 0 (mAt h cI cZ a sz)) (F0 m 197 ls [.int t0]) := by
            intro t0 x4 x5 S H locs I ls hl hpf
            unfold pf_isAlike_197 at hpf
            refine lv_istore_n (lv' := [(3, .int t0), (0, .ref h), (4, .int x4), (5, .int x5)]) hx hb dX10_isAlike_197 rfl hl (by decide) rfl (fun ls hl => ?_)
            refine m_iinc (w := (1 : Int32)) hx hb (fun y1 => [(5, .int y1), (3, .int t0), (0, .ref h), (4, .int x4)]) 198 dX10_isAlike_198 hl (k := 3) rfl (by decide) (by decide) (fun _ => rfl) hpf (fun y1 ls hl hpf => ?_)
            refine lv_goto (tgt := 156) hx hb dX10_isAlike_201 (by decide) ?_
            exact ih_156 t0 x4 y1 S H locs I ls (lv_sub hl [2, 1, 3, 0] rfl) hpf
          intro x3 x4 x5 S H locs I ls hl hpf
          rw [pf_isAlike_156] at hpf
          refine lv_iload hx hb dX10_isAlike_156 (lv_at hl 3 rfl) ?_
          refine lv_sipush (v := (330 : Int32)) hx hb dX10_isAlike_158 (by decide) ?_
          refine lv_iload hx hb dX10_isAlike_161 (lv_at hl 2 rfl) ?_
          refine lv_imul hx hb dX10_isAlike_163 ?_
          refine lv_sipush (v := (330 : Int32)) hx hb dX10_isAlike_164 (by decide) ?_
          refine lv_iadd hx hb dX10_isAlike_167 ?_
          refine b_icmp_ge hx hb 204 168 dX10_isAlike_168 (by decide) hpf (fun hpf => ?_) (fun hpf => ?_)
          · exact hC_204 x3 x4 S H locs I ls (lv_sub hl [0, 1, 2] rfl) hpf
          refine lv_iload_n hx hb dX10_isAlike_171 rfl (lv_at hl 1 rfl) ?_
          refine b_if_eq hx hb 196 172 dX10_isAlike_172 (by decide) hpf (fun hpf => ?_) (fun hpf => ?_)
          · refine lv_iconst (v := (0 : Int32)) hx hb dX10_isAlike_196 (by decide) ?_
            exact hC_197 (0 : Int32) x4 x5 S H locs I ls (lv_sub hl [0, 2, 3] rfl) hpf
          refine lv_aload_n hx hb dX10_isAlike_175 rfl (lv_at hl 0 rfl) ?_
          refine m_getr C I mRef_51 kM_47 176 dX10_isAlike_176 ?_
          refine lv_iload hx hb dX10_isAlike_179 (lv_at hl 3 rfl) ?_
          refine m_iald C I mArr_51 181 dX10_isAlike_181 hpf (fun hpf => ?_)
          refine lv_aload_n hx hb dX10_isAlike_182 rfl (lv_at hl 0 rfl) ?_
          refine m_getr C I mRef_66 kM_59 183 dX10_isAlike_183 ?_
          refine lv_iload hx hb dX10_isAlike_186 (lv_at hl 3 rfl) ?_
          refine m_iald C I mArr_66 188 dX10_isAlike_188 hpf (fun hpf => ?_)
          refine b_icmp_ne hx hb 196 189 dX10_isAlike_189 (by decide) hpf (fun hpf => ?_) (fun hpf => ?_)
          · refine lv_iconst (v := (0 : Int32)) hx hb dX10_isAlike_196 (by decide) ?_
            exact hC_197 (0 : Int32) x4 x5 S H locs I ls (lv_sub hl [0, 2, 3] rfl) hpf
          refine lv_iconst (v := (1 : Int32)) hx hb dX10_isAlike_192 (by decide) ?_
          refine lv_goto (tgt := 197) hx hb dX10_isAlike_193 (by decide) ?_
          exact hC_197 (1 : Int32) x4 x5 S H locs I ls (lv_sub hl [0, 2, 3] rfl) hpf
      have hC_147 : ∀ (t0 : Int32) (x4 : Int32) (S : mS) (H : Heap) (locs : List Loc), mV dC dI h cI cZ a s S H locs → ∀ ls : Array Slot, lv_has ls 6 [(0, .ref h), (4, .int x4)] → pf_isAlike_147 N (pf_isAlike_19 N n_19) t0 x4 S = some (r, Sf) → W p l e (mRm 5) s m args below meth c H locs 0 0 (MQ below (mQ dC dI h cI cZ a sz r Sf) args s 0 0 (mAt h cI cZ a sz)) (F0 m 147 ls [.int t0]) := by
        intro t0 x4 S H locs I ls hl hpf
        unfold pf_isAlike_147 at hpf
        refine lv_istore_n (lv' := [(3, .int t0), (0, .ref h), (4, .int x4)]) hx hb dX10_isAlike_147 rfl hl (by decide) rfl (fun ls hl => ?_)
        refine lv_sipush (v := (330 : Int32)) hx hb dX10_isAlike_148 (by decide) ?_
        refine lv_iload hx hb dX10_isAlike_151 (lv_at hl 2 rfl) ?_
        refine lv_imul hx hb dX10_isAlike_153 ?_
        refine m_isto hx hb (fun y1 => [(5, .int y1), (3, .int t0), (0, .ref h), (4, .int x4)]) 154 dX10_isAlike_154 hl (by decide) (fun _ => rfl) hpf (fun y1 ls hl hpf => ?_)
        exact hC_156 N t0 x4 y1 S H locs I ls (lv_sub hl [2, 1, 3, 0] rfl) hpf
      have hC_51 : ∀ (t0 : Int32) (x4 : Int32) (S : mS) (H : Heap) (locs : List Loc), mV dC dI h cI cZ a s S H locs → ∀ ls : Array Slot, lv_has ls 6 [(0, .ref h), (4, .int x4)] → pf_isAlike_51 N (pf_isAlike_19 N n_19) t0 x4 S = some (r, Sf) → W p l e (mRm 5) s m args below meth c H locs 0 0 (MQ below (mQ dC dI h cI cZ a sz r Sf) args s 0 0 (mAt h cI cZ a sz)) (F0 m 51 ls [.int t0]) := by
        intro t0 x4 S H locs I ls hl hpf
        unfold pf_isAlike_51 at hpf
        refine lv_istore_n (lv' := [(3, .int t0), (0, .ref h), (4, .int x4)]) hx hb dX10_isAlike_51 rfl hl (by decide) rfl (fun ls hl => ?_)
        refine lv_iload_n hx hb dX10_isAlike_52 rfl (lv_at hl 0 rfl) ?_
        refine b_if_eq hx hb 204 53 dX10_isAlike_53 (by decide) hpf (fun hpf => ?_) (fun hpf => ?_)
        · exact hC_204 t0 x4 S H locs I ls (lv_sub hl [1, 0, 2] rfl) hpf
        refine lv_aload_n hx hb dX10_isAlike_56 rfl (lv_at hl 1 rfl) ?_
        refine lv_iload hx hb dX10_isAlike_57 (lv_at hl 2 rfl) ?_
        refine m_callI (rest := []) (As := [.int x4]) C I fn_isLive (c_isLive l N x4) (by decide) 59 dX10_isAlike_59 rfl hl.1 rfl (Nat.le_of_ble_eq_true rfl) hpf (fun v1 S2 H locs I hpf => ?_)
        refine b_if_eq hx hb 204 62 dX10_isAlike_62 (by decide) hpf (fun hpf => ?_) (fun hpf => ?_)
        · exact hC_204 t0 x4 S2 H locs I ls (lv_sub hl [1, 0, 2] rfl) hpf
        refine lv_aload_n hx hb dX10_isAlike_65 rfl (lv_at hl 1 rfl) ?_
        refine m_getr C I mRef_40 kM_37 66 dX10_isAlike_66 ?_
        refine lv_iload hx hb dX10_isAlike_69 (lv_at hl 2 rfl) ?_
        refine m_iald C I mArr_40 71 dX10_isAlike_71 hpf (fun hpf => ?_)
        refine lv_aload_n hx hb dX10_isAlike_72 rfl (lv_at hl 1 rfl) ?_
        refine m_getr C I mRef_58 kM_52 73 dX10_isAlike_73 ?_
        refine lv_iload hx hb dX10_isAlike_76 (lv_at hl 2 rfl) ?_
        refine m_iald C I mArr_58 78 dX10_isAlike_78 hpf (fun hpf => ?_)
        refine b_icmp_ne hx hb 146 79 dX10_isAlike_79 (by decide) hpf (fun hpf => ?_) (fun hpf => ?_)
        · refine lv_iconst (v := (0 : Int32)) hx hb dX10_isAlike_146 (by decide) ?_
          exact hC_147 (0 : Int32) x4 S2 H locs I ls (lv_sub hl [1, 2] rfl) hpf
        refine lv_aload_n hx hb dX10_isAlike_82 rfl (lv_at hl 1 rfl) ?_
        refine m_getr C I mRef_45 kM_42 83 dX10_isAlike_83 ?_
        refine lv_iload hx hb dX10_isAlike_86 (lv_at hl 2 rfl) ?_
        refine m_iald C I mArr_45 88 dX10_isAlike_88 hpf (fun hpf => ?_)
        refine lv_aload_n hx hb dX10_isAlike_89 rfl (lv_at hl 1 rfl) ?_
        refine m_getr C I mRef_59 kM_53 90 dX10_isAlike_90 ?_
        refine lv_iload hx hb dX10_isAlike_93 (lv_at hl 2 rfl) ?_
        refine m_iald C I mArr_59 95 dX10_isAlike_95 hpf (fun hpf => ?_)
        refine b_icmp_ne hx hb 146 96 dX10_isAlike_96 (by decide) hpf (fun hpf => ?_) (fun hpf => ?_)
        · refine lv_iconst (v := (0 : Int32)) hx hb dX10_isAlike_146 (by decide) ?_
          exact hC_147 (0 : Int32) x4 S2 H locs I ls (lv_sub hl [1, 2] rfl) hpf
        refine lv_aload_n hx hb dX10_isAlike_99 rfl (lv_at hl 1 rfl) ?_
        refine m_getr C I mRef_46 kM_43 100 dX10_isAlike_100 ?_
        refine lv_iload hx hb dX10_isAlike_103 (lv_at hl 2 rfl) ?_
        refine m_iald C I mArr_46 105 dX10_isAlike_105 hpf (fun hpf => ?_)
        refine lv_aload_n hx hb dX10_isAlike_106 rfl (lv_at hl 1 rfl) ?_
        refine m_getr C I mRef_60 kM_54 107 dX10_isAlike_107 ?_
        refine lv_iload hx hb dX10_isAlike_110 (lv_at hl 2 rfl) ?_
        refine m_iald C I mArr_60 112 dX10_isAlike_112 hpf (fun hpf => ?_)
        refine b_icmp_ne hx hb 146 113 dX10_isAlike_113 (by decide) hpf (fun hpf => ?_) (fun hpf => ?_)
        · refine lv_iconst (v := (0 : Int32)) hx hb dX10_isAlike_146 (by decide) ?_
          exact hC_147 (0 : Int32) x4 S2 H locs I ls (lv_sub hl [1, 2] rfl) hpf
        refine lv_aload_n hx hb dX10_isAlike_116 rfl (lv_at hl 1 rfl) ?_
        refine m_getr C I mRef_43 kM_40 117 dX10_isAlike_117 ?_
        refine lv_iload hx hb dX10_isAlike_120 (lv_at hl 2 rfl) ?_
        refine m_iald C I mArr_43 122 dX10_isAlike_122 hpf (fun hpf => ?_)
        refine lv_aload_n hx hb dX10_isAlike_123 rfl (lv_at hl 1 rfl) ?_
        refine m_getr C I mRef_61 kM_55 124 dX10_isAlike_124 ?_
        refine lv_iload hx hb dX10_isAlike_127 (lv_at hl 2 rfl) ?_
        refine m_iald C I mArr_61 129 dX10_isAlike_129 hpf (fun hpf => ?_)
        refine b_icmp_ne hx hb 146 130 dX10_isAlike_130 (by decide) hpf (fun hpf => ?_) (fun hpf => ?_)
        · refine lv_iconst (v := (0 : Int32)) hx hb dX10_isAlike_146 (by decide) ?_
          exact hC_147 (0 : Int32) x4 S2 H locs I ls (lv_sub hl [1, 2] rfl) hpf
        refine lv_aload_n hx hb dX10_isAlike_133 rfl (lv_at hl 1 rfl) ?_
        refine lv_iload hx hb dX10_isAlike_134 (lv_at hl 2 rfl) ?_
        refine m_callI (rest := []) (As := [.int x4]) C I fn_hasSame (c_hasSame l N x4) (by decide) 136 dX10_isAlike_136 rfl hl.1 rfl (Nat.le_of_ble_eq_true rfl) hpf (fun v3 S4 H locs I hpf => ?_)
        refine b_if_eq hx hb 146 139 dX10_isAlike_139 (by decide) hpf (fun hpf => ?_) (fun hpf => ?_)
        · refine lv_iconst (v := (0 : Int32)) hx hb dX10_isAlike_146 (by decide) ?_
          exact hC_147 (0 : Int32) x4 S4 H locs I ls (lv_sub hl [1, 2] rfl) hpf
        refine lv_iconst (v := (1 : Int32)) hx hb dX10_isAlike_142 (by decide) ?_
        refine lv_goto (tgt := 147) hx hb dX10_isAlike_143 (by decide) ?_
        exact hC_147 (1 : Int32) x4 S4 H locs I ls (lv_sub hl [1, 2] rfl) hpf
      intro x3 x4 S H locs I ls hl hpf
      rw [pf_isAlike_19] at hpf
      refine lv_iload hx hb dX10_isAlike_19 (lv_at hl 2 rfl) ?_
      refine lv_bipush (v := (48 : Int32)) hx hb dX10_isAlike_21 (by decide) ?_
      refine b_icmp_ge hx hb 210 23 dX10_isAlike_23 (by decide) hpf (fun hpf => ?_) (fun hpf => ?_)
      · refine lv_iload_n hx hb dX10_isAlike_210 rfl (lv_at hl 1 rfl) ?_
        exact m_retz C I hr hz 211 dX10_isAlike_211 hpf
      refine lv_iload_n hx hb dX10_isAlike_26 rfl (lv_at hl 1 rfl) ?_
      refine b_if_eq hx hb 50 27 dX10_isAlike_27 (by decide) hpf (fun hpf => ?_) (fun hpf => ?_)
      · refine lv_iconst (v := (0 : Int32)) hx hb dX10_isAlike_50 (by decide) ?_
        exact hC_51 (0 : Int32) x4 S H locs I ls (lv_sub hl [0, 2] rfl) hpf
      refine lv_aload_n hx hb dX10_isAlike_30 rfl (lv_at hl 0 rfl) ?_
      refine lv_iload hx hb dX10_isAlike_31 (lv_at hl 2 rfl) ?_
      refine m_callI (rest := []) (As := [.int x4]) C I fn_isLive (c_isLive l N x4) (by decide) 33 dX10_isAlike_33 rfl hl.1 rfl (Nat.le_of_ble_eq_true rfl) hpf (fun v1 S2 H locs I hpf => ?_)
      refine lv_aload_n hx hb dX10_isAlike_36 rfl (lv_at hl 0 rfl) ?_
      refine m_getr C I mRef_57 kM_51 37 dX10_isAlike_37 ?_
      refine lv_iload hx hb dX10_isAlike_40 (lv_at hl 2 rfl) ?_
      refine m_zald C I mArr_57 42 dX10_isAlike_42 hpf (fun hpf => ?_)
      refine b_icmp_ne hx hb 50 43 dX10_isAlike_43 (by decide) hpf (fun hpf => ?_) (fun hpf => ?_)
      · refine lv_iconst (v := (0 : Int32)) hx hb dX10_isAlike_50 (by decide) ?_
        exact hC_51 (0 : Int32) x4 S2 H locs I ls (lv_sub hl [0, 2] rfl) hpf
      refine lv_iconst (v := (1 : Int32)) hx hb dX10_isAlike_46 (by decide) ?_
      refine lv_goto (tgt := 51) hx hb dX10_isAlike_47 (by decide) ?_
      exact hC_51 (1 : Int32) x4 S2 H locs I ls (lv_sub hl [0, 2] rfl) hpf
  refine lv_aload_n hx hb dX10_isAlike_0 rfl (lv_at hl 0 rfl) ?_
  refine lv_iload_n hx hb dX10_isAlike_1 rfl (lv_at hl 1 rfl) ?_
  refine m_callV (rest := []) (As := [.int x1]) C I fn_lays (c_lays l N x1) (by decide) 2 dX10_isAlike_2 rfl hl.1 rfl (Nat.le_of_ble_eq_true rfl) hpf (fun v1 S2 H locs I hpf => ?_)
  refine lv_aload_n hx hb dX10_isAlike_5 rfl (lv_at hl 0 rfl) ?_
  refine m_callV (rest := []) (As := []) C I fn_keeps (c_keeps l N ) (by decide) 6 dX10_isAlike_6 rfl hl.1 rfl (Nat.le_of_ble_eq_true rfl) hpf (fun v3 S4 H locs I hpf => ?_)
  refine lv_aload_n hx hb dX10_isAlike_9 rfl (lv_at hl 0 rfl) ?_
  refine lv_iload_n hx hb dX10_isAlike_10 rfl (lv_at hl 2 rfl) ?_
  refine m_callV (rest := []) (As := [.int x2]) C I fn_lays (c_lays l N x2) (by decide) 11 dX10_isAlike_11 rfl hl.1 rfl (Nat.le_of_ble_eq_true rfl) hpf (fun v5 S6 H locs I hpf => ?_)
  refine lv_iconst (v := (1 : Int32)) hx hb dX10_isAlike_14 (by decide) ?_
  refine lv_istore_n (lv' := [(3, .int (1 : Int32)), (0, .ref h), (1, .int x1), (2, .int x2)]) hx hb dX10_isAlike_15 rfl hl (by decide) rfl (fun ls hl => ?_)
  refine lv_iconst (v := (0 : Int32)) hx hb dX10_isAlike_16 (by decide) ?_
  refine lv_istore (lv' := [(4, .int (0 : Int32)), (3, .int (1 : Int32)), (0, .ref h), (1, .int x1), (2, .int x2)]) hx hb dX10_isAlike_17 hl (by decide) rfl (fun ls hl => ?_)
  exact hC_19 N (1 : Int32) (0 : Int32) S6 H locs I ls (lv_sub hl [2, 1, 0] rfl) hpf
-- ===== areAlike =====
def pf_areAlike_20 (N : Nat) (t0 : Int32) (x1 : Int32) (x2 : Int32) (S : mS) : Option (Int32 × mS) :=
    sv (mI S 0 t0) fun S1 =>
    if (S1.1 0) = (0 : Int32) then (
      bd (pf_isAlike N x1 x2 S1) fun v2 S3 =>
      if v2 = (0 : Int32) then (
        some ((0 : Int32), S3))
      else (
        some ((1 : Int32), S3)))
    else (
      some ((0 : Int32), S1))
def pf_areAlike (N : Nat) (x1 : Int32) (x2 : Int32) (S : mS) : Option (Int32 × mS) :=
    bs (pf_isMaster N x1) fun v1 =>
    if v1 = (0 : Int32) then (
      pf_areAlike_20 N (1 : Int32) x1 x2 S)
    else (
      bs (pf_isMaster N x2) fun v2 =>
      if v2 = (0 : Int32) then (
        pf_areAlike_20 N (1 : Int32) x1 x2 S)
      else (
        pf_areAlike_20 N (0 : Int32) x1 x2 S))

set_option maxRecDepth 100000 in
set_option maxHeartbeats 4000000 in
theorem c_areAlike (l : Launch) (N : Nat) (x1 : Int32) (x2 : Int32) : mMet l yX10_areAlike cX10_areAlike 3 .boolean 6 [.int x1, .int x2] (pf_areAlike N x1 x2) := by
  refine mStart (by decide +kernel) rfl (fun h => [(0, .ref h), (1, .int x1), (2, .int x2)]) (fun _ => Nat.le_of_ble_eq_true rfl) (fun _ => rfl) ?_
  intro dC dI h cI cZ a sz S r Sf hpf p e s m args below meth c C hr hz H locs I ls hl
  have hx := C.1
  have hb := C.2.1
  unfold pf_areAlike at hpf
  have hC_20 : ∀ (t0 : Int32) (x1 : Int32) (x2 : Int32) (S : mS) (H : Heap) (locs : List Loc), mV dC dI h cI cZ a s S H locs → ∀ ls : Array Slot, lv_has ls 3 [(0, .ref h), (1, .int x1), (2, .int x2)] → pf_areAlike_20 N t0 x1 x2 S = some (r, Sf) → W p l e (mRm 6) s m args below meth c H locs 0 0 (MQ below (mQ dC dI h cI cZ a sz r Sf) args s 0 0 (mAt h cI cZ a sz)) (F0 m 20 ls [.int t0, .ref h]) := by
    intro t0 x1 x2 S H locs I ls hl hpf
    unfold pf_areAlike_20 at hpf
    refine m_puti C I mInt_0 kM_62 20 dX10_areAlike_20 hpf (fun S1 H locs I hpf => ?_)
    refine lv_aload_n hx hb dX10_areAlike_23 rfl (lv_at hl 0 rfl) ?_
    refine m_geti C I mInt_0 kM_62 24 dX10_areAlike_24 ?_
    refine b_if_ne hx hb 43 27 dX10_areAlike_27 (by decide) hpf (fun hpf => ?_) (fun hpf => ?_)
    · refine lv_iconst (v := (0 : Int32)) hx hb dX10_areAlike_43 (by decide) ?_
      exact m_retzc C I hr hz 44 dX10_areAlike_44 (by decide) hpf
    refine lv_aload_n hx hb dX10_areAlike_30 rfl (lv_at hl 0 rfl) ?_
    refine lv_iload_n hx hb dX10_areAlike_31 rfl (lv_at hl 1 rfl) ?_
    refine lv_iload_n hx hb dX10_areAlike_32 rfl (lv_at hl 2 rfl) ?_
    refine m_callI (rest := []) (As := [.int x1, .int x2]) C I fn_isAlike (c_isAlike l N x1 x2) (by decide) 33 dX10_areAlike_33 rfl hl.1 rfl (Nat.le_of_ble_eq_true rfl) hpf (fun v2 S3 H locs I hpf => ?_)
    refine b_if_eq hx hb 43 36 dX10_areAlike_36 (by decide) hpf (fun hpf => ?_) (fun hpf => ?_)
    · refine lv_iconst (v := (0 : Int32)) hx hb dX10_areAlike_43 (by decide) ?_
      exact m_retzc C I hr hz 44 dX10_areAlike_44 (by decide) hpf
    refine lv_iconst (v := (1 : Int32)) hx hb dX10_areAlike_39 (by decide) ?_
    refine lv_goto (tgt := 44) hx hb dX10_areAlike_40 (by decide) ?_
    exact m_retzc C I hr hz 44 dX10_areAlike_44 (by decide) hpf
  refine lv_aload_n hx hb dX10_areAlike_0 rfl (lv_at hl 0 rfl) ?_
  refine lv_iload_n hx hb dX10_areAlike_1 rfl (lv_at hl 1 rfl) ?_
  refine m_callS (rest := [.ref h]) (As := [.int x1]) C I fn_isMaster (c_isMaster l N x1) (by decide) 2 dX10_areAlike_2 rfl hl.1 rfl (Nat.le_of_ble_eq_true rfl) hpf (fun v1 H locs I hpf => ?_)
  refine b_if_eq hx hb 19 5 dX10_areAlike_5 (by decide) hpf (fun hpf => ?_) (fun hpf => ?_)
  · refine lv_iconst (v := (1 : Int32)) hx hb dX10_areAlike_19 (by decide) ?_
    exact hC_20 (1 : Int32) x1 x2 S H locs I ls (lv_sub hl [0, 1, 2] rfl) hpf
  refine lv_iload_n hx hb dX10_areAlike_8 rfl (lv_at hl 2 rfl) ?_
  refine m_callS (rest := [.ref h]) (As := [.int x2]) C I fn_isMaster (c_isMaster l N x2) (by decide) 9 dX10_areAlike_9 rfl hl.1 rfl (Nat.le_of_ble_eq_true rfl) hpf (fun v2 H locs I hpf => ?_)
  refine b_if_eq hx hb 19 12 dX10_areAlike_12 (by decide) hpf (fun hpf => ?_) (fun hpf => ?_)
  · refine lv_iconst (v := (1 : Int32)) hx hb dX10_areAlike_19 (by decide) ?_
    exact hC_20 (1 : Int32) x1 x2 S H locs I ls (lv_sub hl [0, 1, 2] rfl) hpf
  refine lv_iconst (v := (0 : Int32)) hx hb dX10_areAlike_15 (by decide) ?_
  refine lv_goto (tgt := 20) hx hb dX10_areAlike_16 (by decide) ?_
  exact hC_20 (0 : Int32) x1 x2 S H locs I ls (lv_sub hl [0, 1, 2] rfl) hpf
