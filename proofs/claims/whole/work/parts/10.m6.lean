-- ===== sweep =====
def pf_sweep_132 (N : Nat) (k_22 : Int32 → Int32 → Int32 → mS → Option (Int32 × mS)) (t0 : Int32) (t1 : Int32) (x1 : Int32) (x3 : Int32) (S : mS) : Option (Int32 × mS) :=
    nm (t1 + t0) fun y1 =>
    nm (x3 + (1 : Int32)) fun y2 =>
    k_22 x1 y1 y2 S
def pf_sweep_120 (N : Nat) (k_22 : Int32 → Int32 → Int32 → mS → Option (Int32 × mS)) (t0 : Int32) (t1 : Int32) (x1 : Int32) (x2 : Int32) (x3 : Int32) (x4 : Int32) (S : mS) : Option (Int32 × mS) :=
    gd t1 192 <| sv (mA S 20 t1.toNatClampNeg (vp_nar .boolean t0)) fun S1 =>
    if x4 = (0 : Int32) then (
      pf_sweep_132 N k_22 (0 : Int32) x2 x1 x3 S1)
    else (
      pf_sweep_132 N k_22 (1 : Int32) x2 x1 x3 S1)
def pf_sweep_84 (N : Nat) (k_22 : Int32 → Int32 → Int32 → mS → Option (Int32 × mS)) (t0 : Int32) (x1 : Int32) (x2 : Int32) (x3 : Int32) (S : mS) : Option (Int32 × mS) :=
    gd (((48 : Int32) * x1) + x3) 192 <|
    if (S.2 20 (((48 : Int32) * x1) + x3).toNatClampNeg) = (0 : Int32) then (
      if t0 = (0 : Int32) then (
        pf_sweep_120 N k_22 (0 : Int32) (((48 : Int32) * x1) + x3) x1 x2 x3 t0 S)
      else (
        pf_sweep_120 N k_22 (1 : Int32) (((48 : Int32) * x1) + x3) x1 x2 x3 t0 S))
    else (
      pf_sweep_120 N k_22 (1 : Int32) (((48 : Int32) * x1) + x3) x1 x2 x3 t0 S)
def pf_sweep_22 (N : Nat) : Nat → Int32 → Int32 → Int32 → mS → Option (Int32 × mS)
  | 0 => fun _ _ _ _ => none
  | n_22 + 1 => fun x1 x2 x3 S =>
    if (S.1 21) ≤ x3 then (
      some (x2, S))
    else (
      bd (pf_isMarked N x1 x3 S) fun v1 S2 =>
      if v1 = (0 : Int32) then (
        pf_sweep_84 N (pf_sweep_22 N n_22) (0 : Int32) x1 x2 x3 S2)
      else (
        bd (pf_knowsDeleted N x1 (0 : Int32) x3 S2) fun v3 S4 =>
        if v3 = (0 : Int32) then (
          pf_sweep_84 N (pf_sweep_22 N n_22) (0 : Int32) x1 x2 x3 S4)
        else (
          bd (pf_knowsDeleted N x1 (1 : Int32) x3 S4) fun v5 S6 =>
          if v5 = (0 : Int32) then (
            pf_sweep_84 N (pf_sweep_22 N n_22) (0 : Int32) x1 x2 x3 S6)
          else (
            bd (pf_knowsDeleted N x1 (2 : Int32) x3 S6) fun v7 S8 =>
            if v7 = (0 : Int32) then (
              pf_sweep_84 N (pf_sweep_22 N n_22) (0 : Int32) x1 x2 x3 S8)
            else (
              bd (pf_knowsDeleted N x1 (3 : Int32) x3 S8) fun v9 S10 =>
              if v9 = (0 : Int32) then (
                pf_sweep_84 N (pf_sweep_22 N n_22) (0 : Int32) x1 x2 x3 S10)
              else (
                pf_sweep_84 N (pf_sweep_22 N n_22) (1 : Int32) x1 x2 x3 S10))))))
def pf_sweep (N : Nat) (x1 : Int32) (S : mS) : Option (Int32 × mS) :=
    sv (mI S 0 (0 : Int32)) fun S1 =>
    bs (pf_isMaster N x1) fun v2 =>
    if v2 = (0 : Int32) then (
      bd (pf_fails N (1 : Int32) S1) fun v3 S4 =>
      some (v3, S4))
    else (
      pf_sweep_22 N N x1 (0 : Int32) (0 : Int32) S1)

set_option maxRecDepth 100000 in
set_option maxHeartbeats 4000000 in
theorem c_sweep (l : Launch) (N : Nat) (x1 : Int32) : mMet l yX10_sweep cX10_sweep 5 .int 3 [.int x1] (pf_sweep N x1) := by
  refine mStart (by decide +kernel) rfl (fun h => [(0, .ref h), (1, .int x1)]) (fun _ => Nat.le_of_ble_eq_true rfl) (fun _ => rfl) ?_
  intro dC dI h cI cZ a sz S r Sf hpf p e s m args below meth c C hr hz H locs I ls hl
  have hx := C.1
  have hb := C.2.1
  unfold pf_sweep at hpf
  have hC_22 : ∀ (n_22 : Nat), ∀ (x1 : Int32) (x2 : Int32) (x3 : Int32) (S : mS) (H : Heap) (locs : List Loc), mV dC dI h cI cZ a s S H locs → ∀ ls : Array Slot, lv_has ls 5 [(0, .ref h), (1, .int x1), (2, .int x2), (3, .int x3)] → pf_sweep_22 N n_22 x1 x2 x3 S = some (r, Sf) → W p l e (mRm 3) s m args below meth c H locs 0 0 (MQ below (mQ dC dI h cI cZ a sz r Sf) args s 0 0 (mAt h cI cZ a sz)) (F0 m 22 ls []) := by
    intro n_22
    induction n_22 with
    | zero =>
      intro x1 x2 x3 S H locs I ls hl hpf
      rw [pf_sweep_22] at hpf
      cases hpf
    | succ n_22 ih_22 =>
      have hC_132 : ∀ (t0 : Int32) (t1 : Int32) (x1 : Int32) (x3 : Int32) (S : mS) (H : Heap) (locs : List Loc), mV dC dI h cI cZ a s S H locs → ∀ ls : Array Slot, lv_has ls 5 [(0, .ref h), (1, .int x1), (3, .int x3)] → pf_sweep_132 N (pf_sweep_22 N n_22) t0 t1 x1 x3 S = some (r, Sf) → W p l e (mRm 3) s m args below meth c H locs 0 0 (MQ below (mQ dC dI h cI cZ a sz r Sf) args s 0 0 (mAt h cI cZ a sz)) (F0 m 132 ls [.int t0, .int t1]) := by
        intro t0 t1 x1 x3 S H locs I ls hl hpf
        unfold pf_sweep_132 at hpf
        refine lv_iadd hx hb dX10_sweep_132 ?_
        refine m_isto_n hx hb (fun y1 => [(2, .int y1), (0, .ref h), (1, .int x1), (3, .int x3)]) 133 dX10_sweep_133 rfl hl (by decide) (fun _ => rfl) hpf (fun y1 ls hl hpf => ?_)
        refine m_iinc (w := (1 : Int32)) hx hb (fun y2 => [(3, .int y2), (2, .int y1), (0, .ref h), (1, .int x1)]) 134 dX10_sweep_134 hl (k := 3) rfl (by decide) (by decide) (fun _ => rfl) hpf (fun y2 ls hl hpf => ?_)
        refine lv_goto (tgt := 22) hx hb dX10_sweep_137 (by decide) ?_
        exact ih_22 x1 y1 y2 S H locs I ls (lv_sub hl [2, 3, 1, 0] rfl) hpf
      have hC_120 : ∀ (t0 : Int32) (t1 : Int32) (x1 : Int32) (x2 : Int32) (x3 : Int32) (x4 : Int32) (S : mS) (H : Heap) (locs : List Loc), mV dC dI h cI cZ a s S H locs → ∀ ls : Array Slot, lv_has ls 5 [(0, .ref h), (1, .int x1), (2, .int x2), (3, .int x3), (4, .int x4)] → pf_sweep_120 N (pf_sweep_22 N n_22) t0 t1 x1 x2 x3 x4 S = some (r, Sf) → W p l e (mRm 3) s m args below meth c H locs 0 0 (MQ below (mQ dC dI h cI cZ a sz r Sf) args s 0 0 (mAt h cI cZ a sz)) (F0 m 120 ls [.int t0, .int t1, .ref (a 20)]) := by
        intro t0 t1 x1 x2 x3 x4 S H locs I ls hl hpf
        unfold pf_sweep_120 at hpf
        refine m_zast C I mArr_20 120 dX10_sweep_120 hpf (fun S1 H locs I hpf => ?_)
        refine lv_iload_n hx hb dX10_sweep_121 rfl (lv_at hl 2 rfl) ?_
        refine lv_iload hx hb dX10_sweep_122 (lv_at hl 4 rfl) ?_
        refine b_if_eq hx hb 131 124 dX10_sweep_124 (by decide) hpf (fun hpf => ?_) (fun hpf => ?_)
        · refine lv_iconst (v := (0 : Int32)) hx hb dX10_sweep_131 (by decide) ?_
          exact hC_132 (0 : Int32) x2 x1 x3 S1 H locs I ls (lv_sub hl [0, 1, 3] rfl) hpf
        refine lv_iconst (v := (1 : Int32)) hx hb dX10_sweep_127 (by decide) ?_
        refine lv_goto (tgt := 132) hx hb dX10_sweep_128 (by decide) ?_
        exact hC_132 (1 : Int32) x2 x1 x3 S1 H locs I ls (lv_sub hl [0, 1, 3] rfl) hpf
      have hC_84 : ∀ (t0 : Int32) (x1 : Int32) (x2 : Int32) (x3 : Int32) (S : mS) (H : Heap) (locs : List Loc), mV dC dI h cI cZ a s S H locs → ∀ ls : Array Slot, lv_has ls 5 [(0, .ref h), (1, .int x1), (2, .int x2), (3, .int x3)] → pf_sweep_84 N (pf_sweep_22 N n_22) t0 x1 x2 x3 S = some (r, Sf) → W p l e (mRm 3) s m args below meth c H locs 0 0 (MQ below (mQ dC dI h cI cZ a sz r Sf) args s 0 0 (mAt h cI cZ a sz)) (F0 m 84 ls [.int t0]) := by
        intro t0 x1 x2 x3 S H locs I ls hl hpf
        unfold pf_sweep_84 at hpf
        refine lv_istore (lv' := [(4, .int t0), (0, .ref h), (1, .int x1), (2, .int x2), (3, .int x3)]) hx hb dX10_sweep_84 hl (by decide) rfl (fun ls hl => ?_)
        refine lv_aload_n hx hb dX10_sweep_86 rfl (lv_at hl 1 rfl) ?_
        refine m_getr C I mRef_20 kM_19 87 dX10_sweep_87 ?_
        refine lv_bipush (v := (48 : Int32)) hx hb dX10_sweep_90 (by decide) ?_
        refine lv_iload_n hx hb dX10_sweep_92 rfl (lv_at hl 2 rfl) ?_
        refine lv_imul hx hb dX10_sweep_93 ?_
        refine lv_iload_n hx hb dX10_sweep_94 rfl (lv_at hl 4 rfl) ?_
        refine lv_iadd hx hb dX10_sweep_95 ?_
        refine lv_aload_n hx hb dX10_sweep_96 rfl (lv_at hl 1 rfl) ?_
        refine m_getr C I mRef_20 kM_19 97 dX10_sweep_97 ?_
        refine lv_bipush (v := (48 : Int32)) hx hb dX10_sweep_100 (by decide) ?_
        refine lv_iload_n hx hb dX10_sweep_102 rfl (lv_at hl 2 rfl) ?_
        refine lv_imul hx hb dX10_sweep_103 ?_
        refine lv_iload_n hx hb dX10_sweep_104 rfl (lv_at hl 4 rfl) ?_
        refine lv_iadd hx hb dX10_sweep_105 ?_
        refine m_zald C I mArr_20 106 dX10_sweep_106 hpf (fun hpf => ?_)
        refine b_if_ne hx hb 115 107 dX10_sweep_107 (by decide) hpf (fun hpf => ?_) (fun hpf => ?_)
        · refine lv_iconst (v := (1 : Int32)) hx hb dX10_sweep_115 (by decide) ?_
          refine lv_goto (tgt := 120) hx hb dX10_sweep_116 (by decide) ?_
          exact hC_120 (1 : Int32) (((48 : Int32) * x1) + x3) x1 x2 x3 t0 S H locs I ls (lv_sub hl [1, 2, 3, 4, 0] rfl) hpf
        refine lv_iload hx hb dX10_sweep_110 (lv_at hl 0 rfl) ?_
        refine b_if_eq hx hb 119 112 dX10_sweep_112 (by decide) hpf (fun hpf => ?_) (fun hpf => ?_)
        · refine lv_iconst (v := (0 : Int32)) hx hb dX10_sweep_119 (by decide) ?_
          exact hC_120 (0 : Int32) (((48 : Int32) * x1) + x3) x1 x2 x3 t0 S H locs I ls (lv_sub hl [1, 2, 3, 4, 0] rfl) hpf
        refine lv_iconst (v := (1 : Int32)) hx hb dX10_sweep_115 (by decide) ?_
        refine lv_goto (tgt := 120) hx hb dX10_sweep_116 (by decide) ?_
        exact hC_120 (1 : Int32) (((48 : Int32) * x1) + x3) x1 x2 x3 t0 S H locs I ls (lv_sub hl [1, 2, 3, 4, 0] rfl) hpf
      intro x1 x2 x3 S H locs I ls hl hpf
      rw [pf_sweep_22] at hpf
      refine lv_iload_n hx hb dX10_sweep_22 rfl (lv_at hl 3 rfl) ?_
      refine lv_aload_n hx hb dX10_sweep_23 rfl (lv_at hl 0 rfl) ?_
      refine m_geti C I mInt_21 kM_20 24 dX10_sweep_24 ?_
      refine b_icmp_ge hx hb 140 27 dX10_sweep_27 (by decide) hpf (fun hpf => ?_) (fun hpf => ?_)
      · refine lv_iload_n hx hb dX10_sweep_140 rfl (lv_at hl 2 rfl) ?_
        exact m_reti C I hr hz 141 dX10_sweep_141 hpf
      refine lv_aload_n hx hb dX10_sweep_30 rfl (lv_at hl 0 rfl) ?_
      refine lv_iload_n hx hb dX10_sweep_31 rfl (lv_at hl 1 rfl) ?_
      refine lv_iload_n hx hb dX10_sweep_32 rfl (lv_at hl 3 rfl) ?_
      refine m_callI (rest := []) (As := [.int x1, .int x3]) C I fn_isMarked (c_isMarked l N x1 x3) (by decide) 33 dX10_sweep_33 rfl hl.1 rfl (Nat.le_of_ble_eq_true rfl) hpf (fun v1 S2 H locs I hpf => ?_)
      refine b_if_eq hx hb 83 36 dX10_sweep_36 (by decide) hpf (fun hpf => ?_) (fun hpf => ?_)
      · refine lv_iconst (v := (0 : Int32)) hx hb dX10_sweep_83 (by decide) ?_
        exact hC_84 (0 : Int32) x1 x2 x3 S2 H locs I ls (lv_sub hl [0, 1, 2, 3] rfl) hpf
      refine lv_aload_n hx hb dX10_sweep_39 rfl (lv_at hl 0 rfl) ?_
      refine lv_iload_n hx hb dX10_sweep_40 rfl (lv_at hl 1 rfl) ?_
      refine lv_iconst (v := (0 : Int32)) hx hb dX10_sweep_41 (by decide) ?_
      refine lv_iload_n hx hb dX10_sweep_42 rfl (lv_at hl 3 rfl) ?_
      refine m_callI (rest := []) (As := [.int x1, .int (0 : Int32), .int x3]) C I fn_knowsDeleted (c_knowsDeleted l N x1 (0 : Int32) x3) (by decide) 43 dX10_sweep_43 rfl hl.1 rfl (Nat.le_of_ble_eq_true rfl) hpf (fun v3 S4 H locs I hpf => ?_)
      refine b_if_eq hx hb 83 46 dX10_sweep_46 (by decide) hpf (fun hpf => ?_) (fun hpf => ?_)
      · refine lv_iconst (v := (0 : Int32)) hx hb dX10_sweep_83 (by decide) ?_
        exact hC_84 (0 : Int32) x1 x2 x3 S4 H locs I ls (lv_sub hl [0, 1, 2, 3] rfl) hpf
      refine lv_aload_n hx hb dX10_sweep_49 rfl (lv_at hl 0 rfl) ?_
      refine lv_iload_n hx hb dX10_sweep_50 rfl (lv_at hl 1 rfl) ?_
      refine lv_iconst (v := (1 : Int32)) hx hb dX10_sweep_51 (by decide) ?_
      refine lv_iload_n hx hb dX10_sweep_52 rfl (lv_at hl 3 rfl) ?_
      refine m_callI (rest := []) (As := [.int x1, .int (1 : Int32), .int x3]) C I fn_knowsDeleted (c_knowsDeleted l N x1 (1 : Int32) x3) (by decide) 53 dX10_sweep_53 rfl hl.1 rfl (Nat.le_of_ble_eq_true rfl) hpf (fun v5 S6 H locs I hpf => ?_)
      refine b_if_eq hx hb 83 56 dX10_sweep_56 (by decide) hpf (fun hpf => ?_) (fun hpf => ?_)
      · refine lv_iconst (v := (0 : Int32)) hx hb dX10_sweep_83 (by decide) ?_
        exact hC_84 (0 : Int32) x1 x2 x3 S6 H locs I ls (lv_sub hl [0, 1, 2, 3] rfl) hpf
      refine lv_aload_n hx hb dX10_sweep_59 rfl (lv_at hl 0 rfl) ?_
      refine lv_iload_n hx hb dX10_sweep_60 rfl (lv_at hl 1 rfl) ?_
      refine lv_iconst (v := (2 : Int32)) hx hb dX10_sweep_61 (by decide) ?_
      refine lv_iload_n hx hb dX10_sweep_62 rfl (lv_at hl 3 rfl) ?_
      refine m_callI (rest := []) (As := [.int x1, .int (2 : Int32), .int x3]) C I fn_knowsDeleted (c_knowsDeleted l N x1 (2 : Int32) x3) (by decide) 63 dX10_sweep_63 rfl hl.1 rfl (Nat.le_of_ble_eq_true rfl) hpf (fun v7 S8 H locs I hpf => ?_)
      refine b_if_eq hx hb 83 66 dX10_sweep_66 (by decide) hpf (fun hpf => ?_) (fun hpf => ?_)
      · refine lv_iconst (v := (0 : Int32)) hx hb dX10_sweep_83 (by decide) ?_
        exact hC_84 (0 : Int32) x1 x2 x3 S8 H locs I ls (lv_sub hl [0, 1, 2, 3] rfl) hpf
      refine lv_aload_n hx hb dX10_sweep_69 rfl (lv_at hl 0 rfl) ?_
      refine lv_iload_n hx hb dX10_sweep_70 rfl (lv_at hl 1 rfl) ?_
      refine lv_iconst (v := (3 : Int32)) hx hb dX10_sweep_71 (by decide) ?_
      refine lv_iload_n hx hb dX10_sweep_72 rfl (lv_at hl 3 rfl) ?_
      refine m_callI (rest := []) (As := [.int x1, .int (3 : Int32), .int x3]) C I fn_knowsDeleted (c_knowsDeleted l N x1 (3 : Int32) x3) (by decide) 73 dX10_sweep_73 rfl hl.1 rfl (Nat.le_of_ble_eq_true rfl) hpf (fun v9 S10 H locs I hpf => ?_)
      refine b_if_eq hx hb 83 76 dX10_sweep_76 (by decide) hpf (fun hpf => ?_) (fun hpf => ?_)
      · refine lv_iconst (v := (0 : Int32)) hx hb dX10_sweep_83 (by decide) ?_
        exact hC_84 (0 : Int32) x1 x2 x3 S10 H locs I ls (lv_sub hl [0, 1, 2, 3] rfl) hpf
      refine lv_iconst (v := (1 : Int32)) hx hb dX10_sweep_79 (by decide) ?_
      refine lv_goto (tgt := 84) hx hb dX10_sweep_80 (by decide) ?_
      exact hC_84 (1 : Int32) x1 x2 x3 S10 H locs I ls (lv_sub hl [0, 1, 2, 3] rfl) hpf
  refine lv_aload_n hx hb dX10_sweep_0 rfl (lv_at hl 0 rfl) ?_
  refine lv_iconst (v := (0 : Int32)) hx hb dX10_sweep_1 (by decide) ?_
  refine m_puti C I mInt_0 kM_62 2 dX10_sweep_2 hpf (fun S1 H locs I hpf => ?_)
  refine lv_iload_n hx hb dX10_sweep_5 rfl (lv_at hl 1 rfl) ?_
  refine m_callS (rest := []) (As := [.int x1]) C I fn_isMaster (c_isMaster l N x1) (by decide) 6 dX10_sweep_6 rfl hl.1 rfl (Nat.le_of_ble_eq_true rfl) hpf (fun v2 H locs I hpf => ?_)
  refine b_if_ne hx hb 18 9 dX10_sweep_9 (by decide) hpf (fun hpf => ?_) (fun hpf => ?_)
  · refine lv_iconst (v := (0 : Int32)) hx hb dX10_sweep_18 (by decide) ?_
    refine lv_istore_n (lv' := [(2, .int (0 : Int32)), (0, .ref h), (1, .int x1)]) hx hb dX10_sweep_19 rfl hl (by decide) rfl (fun ls hl => ?_)
    refine lv_iconst (v := (0 : Int32)) hx hb dX10_sweep_20 (by decide) ?_
    refine lv_istore_n (lv' := [(3, .int (0 : Int32)), (2, .int (0 : Int32)), (0, .ref h), (1, .int x1)]) hx hb dX10_sweep_21 rfl hl (by decide) rfl (fun ls hl => ?_)
    exact hC_22 N x1 (0 : Int32) (0 : Int32) S1 H locs I ls (lv_sub hl [2, 3, 1, 0] rfl) hpf
  refine lv_aload_n hx hb dX10_sweep_12 rfl (lv_at hl 0 rfl) ?_
  refine lv_iconst (v := (1 : Int32)) hx hb dX10_sweep_13 (by decide) ?_
  refine m_callI (rest := []) (As := [.int (1 : Int32)]) C I fn_fails (c_fails l N (1 : Int32)) (by decide) 14 dX10_sweep_14 rfl hl.1 rfl (Nat.le_of_ble_eq_true rfl) hpf (fun v3 S4 H locs I hpf => ?_)
  exact m_reti C I hr hz 17 dX10_sweep_17 hpf
-- ===== isCrowded =====
def pf_isCrowded (N : Nat) (S : mS) : Option (Int32 × mS) :=
    if (S.1 16) = (8 : Int32) then (
      some ((1 : Int32), S))
    else (
      if (S.1 11) = (15 : Int32) then (
        some ((1 : Int32), S))
      else (
        some ((0 : Int32), S)))
theorem fn_isCrowded : mFnI yX10_isCrowded cX10_isCrowded 1 (some .boolean) 0 322 := ⟨kM_227, kM_228, kM_229, kM_223, rfl, by decide +kernel, by decide⟩
set_option maxRecDepth 100000 in
set_option maxHeartbeats 4000000 in
theorem c_isCrowded (l : Launch) (N : Nat)  : mMet l yX10_isCrowded cX10_isCrowded 1 .boolean 0 [] (pf_isCrowded N ) := by
  refine mStart (by decide +kernel) rfl (fun h => [(0, .ref h)]) (fun _ => Nat.le_of_ble_eq_true rfl) (fun _ => rfl) ?_
  intro dC dI h cI cZ a sz S r Sf hpf p e s m args below meth c C hr hz H locs I ls hl
  have hx := C.1
  have hb := C.2.1
  unfold pf_isCrowded at hpf
  refine lv_aload_n hx hb dX10_isCrowded_0 rfl (lv_at hl 0 rfl) ?_
  refine m_geti C I mInt_16 kM_224 1 dX10_isCrowded_1 ?_
  refine lv_bipush (v := (8 : Int32)) hx hb dX10_isCrowded_4 (by decide) ?_
  refine b_icmp_eq hx hb 18 6 dX10_isCrowded_6 (by decide) hpf (fun hpf => ?_) (fun hpf => ?_)
  · refine lv_iconst (v := (1 : Int32)) hx hb dX10_isCrowded_18 (by decide) ?_
    refine lv_goto (tgt := 23) hx hb dX10_isCrowded_19 (by decide) ?_
    exact m_retzc C I hr hz 23 dX10_isCrowded_23 (by decide) hpf
  refine lv_aload_n hx hb dX10_isCrowded_9 rfl (lv_at hl 0 rfl) ?_
  refine m_geti C I mInt_11 kM_225 10 dX10_isCrowded_10 ?_
  refine lv_bipush (v := (15 : Int32)) hx hb dX10_isCrowded_13 (by decide) ?_
  refine b_icmp_ne hx hb 22 15 dX10_isCrowded_15 (by decide) hpf (fun hpf => ?_) (fun hpf => ?_)
  · refine lv_iconst (v := (0 : Int32)) hx hb dX10_isCrowded_22 (by decide) ?_
    exact m_retzc C I hr hz 23 dX10_isCrowded_23 (by decide) hpf
  refine lv_iconst (v := (1 : Int32)) hx hb dX10_isCrowded_18 (by decide) ?_
  refine lv_goto (tgt := 23) hx hb dX10_isCrowded_19 (by decide) ?_
  exact m_retzc C I hr hz 23 dX10_isCrowded_23 (by decide) hpf
-- ===== puts =====
def pf_puts (N : Nat) (x1 : Int32) (x2 : Int32) (x3 : Int32) (S : mS) : Option (Int32 × mS) :=
    gd (S.1 11) 15 <| sv (mA S 12 (S.1 11).toNatClampNeg x1) fun S1 =>
    gd (S1.1 11) 15 <| sv (mA S1 13 (S1.1 11).toNatClampNeg x2) fun S2 =>
    gd (S2.1 11) 15 <| sv (mA S2 14 (S2.1 11).toNatClampNeg x3) fun S3 =>
    gd (S3.1 16) 8 <| sv (mA S3 17 (S3.1 16).toNatClampNeg (S3.1 11)) fun S4 =>
    sv (mI S4 11 ((S4.1 11) + (1 : Int32))) fun S5 =>
    sv (mI S5 16 ((S5.1 16) + (1 : Int32))) fun S6 =>
    some (S6.1 16, S6)
theorem fn_puts : mFnI yX10_puts cX10_puts 4 (some .int) 3 325 := ⟨kM_230, kM_231, kM_232, kM_226, rfl, by decide +kernel, by decide⟩
set_option maxRecDepth 100000 in
set_option maxHeartbeats 4000000 in
theorem c_puts (l : Launch) (N : Nat) (x1 : Int32) (x2 : Int32) (x3 : Int32) : mMet l yX10_puts cX10_puts 4 .int 0 [.int x1, .int x2, .int x3] (pf_puts N x1 x2 x3) := by
  refine mStart (by decide +kernel) rfl (fun h => [(0, .ref h), (1, .int x1), (2, .int x2), (3, .int x3)]) (fun _ => Nat.le_of_ble_eq_true rfl) (fun _ => rfl) ?_
  intro dC dI h cI cZ a sz S r Sf hpf p e s m args below meth c C hr hz H locs I ls hl
  have hx := C.1
  have hb := C.2.1
  unfold pf_puts at hpf
  refine lv_aload_n hx hb dX10_puts_0 rfl (lv_at hl 0 rfl) ?_
  refine m_getr C I mRef_12 kM_12 1 dX10_puts_1 ?_
  refine lv_aload_n hx hb dX10_puts_4 rfl (lv_at hl 0 rfl) ?_
  refine m_geti C I mInt_11 kM_225 5 dX10_puts_5 ?_
  refine lv_iload_n hx hb dX10_puts_8 rfl (lv_at hl 1 rfl) ?_
  refine m_iast C I mArr_12 9 dX10_puts_9 hpf (fun S1 H locs I hpf => ?_)
  refine lv_aload_n hx hb dX10_puts_10 rfl (lv_at hl 0 rfl) ?_
  refine m_getr C I mRef_13 kM_13 11 dX10_puts_11 ?_
  refine lv_aload_n hx hb dX10_puts_14 rfl (lv_at hl 0 rfl) ?_
  refine m_geti C I mInt_11 kM_225 15 dX10_puts_15 ?_
  refine lv_iload_n hx hb dX10_puts_18 rfl (lv_at hl 2 rfl) ?_
  refine m_iast C I mArr_13 19 dX10_puts_19 hpf (fun S2 H locs I hpf => ?_)
  refine lv_aload_n hx hb dX10_puts_20 rfl (lv_at hl 0 rfl) ?_
  refine m_getr C I mRef_14 kM_14 21 dX10_puts_21 ?_
  refine lv_aload_n hx hb dX10_puts_24 rfl (lv_at hl 0 rfl) ?_
  refine m_geti C I mInt_11 kM_225 25 dX10_puts_25 ?_
  refine lv_iload_n hx hb dX10_puts_28 rfl (lv_at hl 3 rfl) ?_
  refine m_iast C I mArr_14 29 dX10_puts_29 hpf (fun S3 H locs I hpf => ?_)
  refine lv_aload_n hx hb dX10_puts_30 rfl (lv_at hl 0 rfl) ?_
  refine m_getr C I mRef_17 kM_16 31 dX10_puts_31 ?_
  refine lv_aload_n hx hb dX10_puts_34 rfl (lv_at hl 0 rfl) ?_
  refine m_geti C I mInt_16 kM_224 35 dX10_puts_35 ?_
  refine lv_aload_n hx hb dX10_puts_38 rfl (lv_at hl 0 rfl) ?_
  refine m_geti C I mInt_11 kM_225 39 dX10_puts_39 ?_
  refine m_iast C I mArr_17 42 dX10_puts_42 hpf (fun S4 H locs I hpf => ?_)
  refine lv_aload_n hx hb dX10_puts_43 rfl (lv_at hl 0 rfl) ?_
  refine lv_dup hx hb dX10_puts_44 rfl ?_
  refine m_geti C I mInt_11 kM_225 45 dX10_puts_45 ?_
  refine lv_iconst (v := (1 : Int32)) hx hb dX10_puts_48 (by decide) ?_
  refine lv_iadd hx hb dX10_puts_49 ?_
  refine m_puti C I mInt_11 kM_225 50 dX10_puts_50 hpf (fun S5 H locs I hpf => ?_)
  refine lv_aload_n hx hb dX10_puts_53 rfl (lv_at hl 0 rfl) ?_
  refine lv_dup hx hb dX10_puts_54 rfl ?_
  refine m_geti C I mInt_16 kM_224 55 dX10_puts_55 ?_
  refine lv_iconst (v := (1 : Int32)) hx hb dX10_puts_58 (by decide) ?_
  refine lv_iadd hx hb dX10_puts_59 ?_
  refine m_puti C I mInt_16 kM_224 60 dX10_puts_60 hpf (fun S6 H locs I hpf => ?_)
  refine lv_aload_n hx hb dX10_puts_63 rfl (lv_at hl 0 rfl) ?_
  refine m_geti C I mInt_16 kM_224 64 dX10_puts_64 ?_
  exact m_reti C I hr hz 67 dX10_puts_67 hpf
-- ===== equal =====
def pf_equal_36 (N : Nat) (t0 : Int32) (x1 : Int32) (x2 : Int32) (S : mS) : Option (Int32 × mS) :=
    sv (mI S 0 t0) fun S1 =>
    if (S1.1 0) ≤ (0 : Int32) then (
      bd (pf_puts N (0 : Int32) x1 x2 S1) fun v2 S3 =>
      some (v2, S3))
    else (
      some ((0 : Int32), S1))
def pf_equal (N : Nat) (x1 : Int32) (x2 : Int32) (S : mS) : Option (Int32 × mS) :=
    bd (pf_isAttribute N x1 S) fun v1 S2 =>
    if v1 = (0 : Int32) then (
      pf_equal_36 N (1 : Int32) x1 x2 S2)
    else (
      bs (pf_isValue N x2) fun v3 =>
      if v3 = (0 : Int32) then (
        pf_equal_36 N (2 : Int32) x1 x2 S2)
      else (
        bd (pf_isCrowded N S2) fun v4 S5 =>
        if v4 = (0 : Int32) then (
          pf_equal_36 N (0 : Int32) x1 x2 S5)
        else (
          pf_equal_36 N (3 : Int32) x1 x2 S5)))

set_option maxRecDepth 100000 in
set_option maxHeartbeats 4000000 in
theorem c_equal (l : Launch) (N : Nat) (x1 : Int32) (x2 : Int32) : mMet l yX10_equal cX10_equal 3 .int 2 [.int x1, .int x2] (pf_equal N x1 x2) := by
  refine mStart (by decide +kernel) rfl (fun h => [(0, .ref h), (1, .int x1), (2, .int x2)]) (fun _ => Nat.le_of_ble_eq_true rfl) (fun _ => rfl) ?_
  intro dC dI h cI cZ a sz S r Sf hpf p e s m args below meth c C hr hz H locs I ls hl
  have hx := C.1
  have hb := C.2.1
  unfold pf_equal at hpf
  have hC_36 : ∀ (t0 : Int32) (x1 : Int32) (x2 : Int32) (S : mS) (H : Heap) (locs : List Loc), mV dC dI h cI cZ a s S H locs → ∀ ls : Array Slot, lv_has ls 3 [(0, .ref h), (1, .int x1), (2, .int x2)] → pf_equal_36 N t0 x1 x2 S = some (r, Sf) → W p l e (mRm 2) s m args below meth c H locs 0 0 (MQ below (mQ dC dI h cI cZ a sz r Sf) args s 0 0 (mAt h cI cZ a sz)) (F0 m 36 ls [.int t0, .ref h]) := by
    intro t0 x1 x2 S H locs I ls hl hpf
    unfold pf_equal_36 at hpf
    refine m_puti C I mInt_0 kM_62 36 dX10_equal_36 hpf (fun S1 H locs I hpf => ?_)
    refine lv_aload_n hx hb dX10_equal_39 rfl (lv_at hl 0 rfl) ?_
    refine m_geti C I mInt_0 kM_62 40 dX10_equal_40 ?_
    refine b_if_le hx hb 50 43 dX10_equal_43 (by decide) hpf (fun hpf => ?_) (fun hpf => ?_)
    · refine lv_aload_n hx hb dX10_equal_50 rfl (lv_at hl 0 rfl) ?_
      refine lv_iconst (v := (0 : Int32)) hx hb dX10_equal_51 (by decide) ?_
      refine lv_iload_n hx hb dX10_equal_52 rfl (lv_at hl 1 rfl) ?_
      refine lv_iload_n hx hb dX10_equal_53 rfl (lv_at hl 2 rfl) ?_
      refine m_callI (rest := []) (As := [.int (0 : Int32), .int x1, .int x2]) C I fn_puts (c_puts l N (0 : Int32) x1 x2) (by decide) 54 dX10_equal_54 rfl hl.1 rfl (Nat.le_of_ble_eq_true rfl) hpf (fun v2 S3 H locs I hpf => ?_)
      exact m_reti C I hr hz 57 dX10_equal_57 hpf
    refine lv_iconst (v := (0 : Int32)) hx hb dX10_equal_46 (by decide) ?_
    refine lv_goto (tgt := 57) hx hb dX10_equal_47 (by decide) ?_
    exact m_reti C I hr hz 57 dX10_equal_57 hpf
  refine lv_aload_n hx hb dX10_equal_0 rfl (lv_at hl 0 rfl) ?_
  refine lv_aload_n hx hb dX10_equal_1 rfl (lv_at hl 0 rfl) ?_
  refine lv_iload_n hx hb dX10_equal_2 rfl (lv_at hl 1 rfl) ?_
  refine m_callI (rest := [.ref h]) (As := [.int x1]) C I fn_isAttribute (c_isAttribute l N x1) (by decide) 3 dX10_equal_3 rfl hl.1 rfl (Nat.le_of_ble_eq_true rfl) hpf (fun v1 S2 H locs I hpf => ?_)
  refine b_if_ne hx hb 13 6 dX10_equal_6 (by decide) hpf (fun hpf => ?_) (fun hpf => ?_)
  · refine lv_iload_n hx hb dX10_equal_13 rfl (lv_at hl 2 rfl) ?_
    refine m_callS (rest := [.ref h]) (As := [.int x2]) C I fn_isValue (c_isValue l N x2) (by decide) 14 dX10_equal_14 rfl hl.1 rfl (Nat.le_of_ble_eq_true rfl) hpf (fun v3 H locs I hpf => ?_)
    refine b_if_ne hx hb 24 17 dX10_equal_17 (by decide) hpf (fun hpf => ?_) (fun hpf => ?_)
    · refine lv_aload_n hx hb dX10_equal_24 rfl (lv_at hl 0 rfl) ?_
      refine m_callI (rest := [.ref h]) (As := []) C I fn_isCrowded (c_isCrowded l N ) (by decide) 25 dX10_equal_25 rfl hl.1 rfl (Nat.le_of_ble_eq_true rfl) hpf (fun v4 S5 H locs I hpf => ?_)
      refine b_if_eq hx hb 35 28 dX10_equal_28 (by decide) hpf (fun hpf => ?_) (fun hpf => ?_)
      · refine lv_iconst (v := (0 : Int32)) hx hb dX10_equal_35 (by decide) ?_
        exact hC_36 (0 : Int32) x1 x2 S5 H locs I ls (lv_sub hl [0, 1, 2] rfl) hpf
      refine lv_iconst (v := (3 : Int32)) hx hb dX10_equal_31 (by decide) ?_
      refine lv_goto (tgt := 36) hx hb dX10_equal_32 (by decide) ?_
      exact hC_36 (3 : Int32) x1 x2 S5 H locs I ls (lv_sub hl [0, 1, 2] rfl) hpf
    refine lv_iconst (v := (2 : Int32)) hx hb dX10_equal_20 (by decide) ?_
    refine lv_goto (tgt := 36) hx hb dX10_equal_21 (by decide) ?_
    exact hC_36 (2 : Int32) x1 x2 S2 H locs I ls (lv_sub hl [0, 1, 2] rfl) hpf
  refine lv_iconst (v := (1 : Int32)) hx hb dX10_equal_9 (by decide) ?_
  refine lv_goto (tgt := 36) hx hb dX10_equal_10 (by decide) ?_
  exact hC_36 (1 : Int32) x1 x2 S2 H locs I ls (lv_sub hl [0, 1, 2] rfl) hpf
-- ===== atLeast =====
def pf_atLeast_36 (N : Nat) (t0 : Int32) (x1 : Int32) (x2 : Int32) (S : mS) : Option (Int32 × mS) :=
    sv (mI S 0 t0) fun S1 =>
    if (S1.1 0) ≤ (0 : Int32) then (
      bd (pf_puts N (1 : Int32) x1 x2 S1) fun v2 S3 =>
      some (v2, S3))
    else (
      some ((0 : Int32), S1))
def pf_atLeast (N : Nat) (x1 : Int32) (x2 : Int32) (S : mS) : Option (Int32 × mS) :=
    bd (pf_isAttribute N x1 S) fun v1 S2 =>
    if v1 = (0 : Int32) then (
      pf_atLeast_36 N (1 : Int32) x1 x2 S2)
    else (
      bs (pf_isValue N x2) fun v3 =>
      if v3 = (0 : Int32) then (
        pf_atLeast_36 N (2 : Int32) x1 x2 S2)
      else (
        bd (pf_isCrowded N S2) fun v4 S5 =>
        if v4 = (0 : Int32) then (
          pf_atLeast_36 N (0 : Int32) x1 x2 S5)
        else (
          pf_atLeast_36 N (3 : Int32) x1 x2 S5)))

set_option maxRecDepth 100000 in
set_option maxHeartbeats 4000000 in
theorem c_atLeast (l : Launch) (N : Nat) (x1 : Int32) (x2 : Int32) : mMet l yX10_atLeast cX10_atLeast 3 .int 2 [.int x1, .int x2] (pf_atLeast N x1 x2) := by
  refine mStart (by decide +kernel) rfl (fun h => [(0, .ref h), (1, .int x1), (2, .int x2)]) (fun _ => Nat.le_of_ble_eq_true rfl) (fun _ => rfl) ?_
  intro dC dI h cI cZ a sz S r Sf hpf p e s m args below meth c C hr hz H locs I ls hl
  have hx := C.1
  have hb := C.2.1
  unfold pf_atLeast at hpf
  have hC_36 : ∀ (t0 : Int32) (x1 : Int32) (x2 : Int32) (S : mS) (H : Heap) (locs : List Loc), mV dC dI h cI cZ a s S H locs → ∀ ls : Array Slot, lv_has ls 3 [(0, .ref h), (1, .int x1), (2, .int x2)] → pf_atLeast_36 N t0 x1 x2 S = some (r, Sf) → W p l e (mRm 2) s m args below meth c H locs 0 0 (MQ below (mQ dC dI h cI cZ a sz r Sf) args s 0 0 (mAt h cI cZ a sz)) (F0 m 36 ls [.int t0, .ref h]) := by
    intro t0 x1 x2 S H locs I ls hl hpf
    unfold pf_atLeast_36 at hpf
    refine m_puti C I mInt_0 kM_62 36 dX10_atLeast_36 hpf (fun S1 H locs I hpf => ?_)
    refine lv_aload_n hx hb dX10_atLeast_39 rfl (lv_at hl 0 rfl) ?_
    refine m_geti C I mInt_0 kM_62 40 dX10_atLeast_40 ?_
    refine b_if_le hx hb 50 43 dX10_atLeast_43 (by decide) hpf (fun hpf => ?_) (fun hpf => ?_)
    · refine lv_aload_n hx hb dX10_atLeast_50 rfl (lv_at hl 0 rfl) ?_
      refine lv_iconst (v := (1 : Int32)) hx hb dX10_atLeast_51 (by decide) ?_
      refine lv_iload_n hx hb dX10_atLeast_52 rfl (lv_at hl 1 rfl) ?_
      refine lv_iload_n hx hb dX10_atLeast_53 rfl (lv_at hl 2 rfl) ?_
      refine m_callI (rest := []) (As := [.int (1 : Int32), .int x1, .int x2]) C I fn_puts (c_puts l N (1 : Int32) x1 x2) (by decide) 54 dX10_atLeast_54 rfl hl.1 rfl (Nat.le_of_ble_eq_true rfl) hpf (fun v2 S3 H locs I hpf => ?_)
      exact m_reti C I hr hz 57 dX10_atLeast_57 hpf
    refine lv_iconst (v := (0 : Int32)) hx hb dX10_atLeast_46 (by decide) ?_
    refine lv_goto (tgt := 57) hx hb dX10_atLeast_47 (by decide) ?_
    exact m_reti C I hr hz 57 dX10_atLeast_57 hpf
  refine lv_aload_n hx hb dX10_atLeast_0 rfl (lv_at hl 0 rfl) ?_
  refine lv_aload_n hx hb dX10_atLeast_1 rfl (lv_at hl 0 rfl) ?_
  refine lv_iload_n hx hb dX10_atLeast_2 rfl (lv_at hl 1 rfl) ?_
  refine m_callI (rest := [.ref h]) (As := [.int x1]) C I fn_isAttribute (c_isAttribute l N x1) (by decide) 3 dX10_atLeast_3 rfl hl.1 rfl (Nat.le_of_ble_eq_true rfl) hpf (fun v1 S2 H locs I hpf => ?_)
  refine b_if_ne hx hb 13 6 dX10_atLeast_6 (by decide) hpf (fun hpf => ?_) (fun hpf => ?_)
  · refine lv_iload_n hx hb dX10_atLeast_13 rfl (lv_at hl 2 rfl) ?_
    refine m_callS (rest := [.ref h]) (As := [.int x2]) C I fn_isValue (c_isValue l N x2) (by decide) 14 dX10_atLeast_14 rfl hl.1 rfl (Nat.le_of_ble_eq_true rfl) hpf (fun v3 H locs I hpf => ?_)
    refine b_if_ne hx hb 24 17 dX10_atLeast_17 (by decide) hpf (fun hpf => ?_) (fun hpf => ?_)
    · refine lv_aload_n hx hb dX10_atLeast_24 rfl (lv_at hl 0 rfl) ?_
      refine m_callI (rest := [.ref h]) (As := []) C I fn_isCrowded (c_isCrowded l N ) (by decide) 25 dX10_atLeast_25 rfl hl.1 rfl (Nat.le_of_ble_eq_true rfl) hpf (fun v4 S5 H locs I hpf => ?_)
      refine b_if_eq hx hb 35 28 dX10_atLeast_28 (by decide) hpf (fun hpf => ?_) (fun hpf => ?_)
      · refine lv_iconst (v := (0 : Int32)) hx hb dX10_atLeast_35 (by decide) ?_
        exact hC_36 (0 : Int32) x1 x2 S5 H locs I ls (lv_sub hl [0, 1, 2] rfl) hpf
      refine lv_iconst (v := (3 : Int32)) hx hb dX10_atLeast_31 (by decide) ?_
      refine lv_goto (tgt := 36) hx hb dX10_atLeast_32 (by decide) ?_
      exact hC_36 (3 : Int32) x1 x2 S5 H locs I ls (lv_sub hl [0, 1, 2] rfl) hpf
    refine lv_iconst (v := (2 : Int32)) hx hb dX10_atLeast_20 (by decide) ?_
    refine lv_goto (tgt := 36) hx hb dX10_atLeast_21 (by decide) ?_
    exact hC_36 (2 : Int32) x1 x2 S2 H locs I ls (lv_sub hl [0, 1, 2] rfl) hpf
  refine lv_iconst (v := (1 : Int32)) hx hb dX10_atLeast_9 (by decide) ?_
  refine lv_goto (tgt := 36) hx hb dX10_atLeast_10 (by decide) ?_
  exact hC_36 (1 : Int32) x1 x2 S2 H locs I ls (lv_sub hl [0, 1, 2] rfl) hpf
-- ===== has =====
def pf_has_25 (N : Nat) (t0 : Int32) (x1 : Int32) (S : mS) : Option (Int32 × mS) :=
    sv (mI S 0 t0) fun S1 =>
    if (S1.1 0) ≤ (0 : Int32) then (
      bd (pf_puts N (2 : Int32) x1 (0 : Int32) S1) fun v2 S3 =>
      some (v2, S3))
    else (
      some ((0 : Int32), S1))
def pf_has (N : Nat) (x1 : Int32) (S : mS) : Option (Int32 × mS) :=
    bd (pf_isAttribute N x1 S) fun v1 S2 =>
    if v1 = (0 : Int32) then (
      pf_has_25 N (1 : Int32) x1 S2)
    else (
      bd (pf_isCrowded N S2) fun v3 S4 =>
      if v3 = (0 : Int32) then (
        pf_has_25 N (0 : Int32) x1 S4)
      else (
        pf_has_25 N (2 : Int32) x1 S4))

set_option maxRecDepth 100000 in
set_option maxHeartbeats 4000000 in
theorem c_has (l : Launch) (N : Nat) (x1 : Int32) : mMet l yX10_has cX10_has 2 .int 2 [.int x1] (pf_has N x1) := by
  refine mStart (by decide +kernel) rfl (fun h => [(0, .ref h), (1, .int x1)]) (fun _ => Nat.le_of_ble_eq_true rfl) (fun _ => rfl) ?_
  intro dC dI h cI cZ a sz S r Sf hpf p e s m args below meth c C hr hz H locs I ls hl
  have hx := C.1
  have hb := C.2.1
  unfold pf_has at hpf
  have hC_25 : ∀ (t0 : Int32) (x1 : Int32) (S : mS) (H : Heap) (locs : List Loc), mV dC dI h cI cZ a s S H locs → ∀ ls : Array Slot, lv_has ls 2 [(0, .ref h), (1, .int x1)] → pf_has_25 N t0 x1 S = some (r, Sf) → W p l e (mRm 2) s m args below meth c H locs 0 0 (MQ below (mQ dC dI h cI cZ a sz r Sf) args s 0 0 (mAt h cI cZ a sz)) (F0 m 25 ls [.int t0, .ref h]) := by
    intro t0 x1 S H locs I ls hl hpf
    unfold pf_has_25 at hpf
    refine m_puti C I mInt_0 kM_62 25 dX10_has_25 hpf (fun S1 H locs I hpf => ?_)
    refine lv_aload_n hx hb dX10_has_28 rfl (lv_at hl 0 rfl) ?_
    refine m_geti C I mInt_0 kM_62 29 dX10_has_29 ?_
    refine b_if_le hx hb 39 32 dX10_has_32 (by decide) hpf (fun hpf => ?_) (fun hpf => ?_)
    · refine lv_aload_n hx hb dX10_has_39 rfl (lv_at hl 0 rfl) ?_
      refine lv_iconst (v := (2 : Int32)) hx hb dX10_has_40 (by decide) ?_
      refine lv_iload_n hx hb dX10_has_41 rfl (lv_at hl 1 rfl) ?_
      refine lv_iconst (v := (0 : Int32)) hx hb dX10_has_42 (by decide) ?_
      refine m_callI (rest := []) (As := [.int (2 : Int32), .int x1, .int (0 : Int32)]) C I fn_puts (c_puts l N (2 : Int32) x1 (0 : Int32)) (by decide) 43 dX10_has_43 rfl hl.1 rfl (Nat.le_of_ble_eq_true rfl) hpf (fun v2 S3 H locs I hpf => ?_)
      exact m_reti C I hr hz 46 dX10_has_46 hpf
    refine lv_iconst (v := (0 : Int32)) hx hb dX10_has_35 (by decide) ?_
    refine lv_goto (tgt := 46) hx hb dX10_has_36 (by decide) ?_
    exact m_reti C I hr hz 46 dX10_has_46 hpf
  refine lv_aload_n hx hb dX10_has_0 rfl (lv_at hl 0 rfl) ?_
  refine lv_aload_n hx hb dX10_has_1 rfl (lv_at hl 0 rfl) ?_
  refine lv_iload_n hx hb dX10_has_2 rfl (lv_at hl 1 rfl) ?_
  refine m_callI (rest := [.ref h]) (As := [.int x1]) C I fn_isAttribute (c_isAttribute l N x1) (by decide) 3 dX10_has_3 rfl hl.1 rfl (Nat.le_of_ble_eq_true rfl) hpf (fun v1 S2 H locs I hpf => ?_)
  refine b_if_ne hx hb 13 6 dX10_has_6 (by decide) hpf (fun hpf => ?_) (fun hpf => ?_)
  · refine lv_aload_n hx hb dX10_has_13 rfl (lv_at hl 0 rfl) ?_
    refine m_callI (rest := [.ref h]) (As := []) C I fn_isCrowded (c_isCrowded l N ) (by decide) 14 dX10_has_14 rfl hl.1 rfl (Nat.le_of_ble_eq_true rfl) hpf (fun v3 S4 H locs I hpf => ?_)
    refine b_if_eq hx hb 24 17 dX10_has_17 (by decide) hpf (fun hpf => ?_) (fun hpf => ?_)
    · refine lv_iconst (v := (0 : Int32)) hx hb dX10_has_24 (by decide) ?_
      exact hC_25 (0 : Int32) x1 S4 H locs I ls (lv_sub hl [0, 1] rfl) hpf
    refine lv_iconst (v := (2 : Int32)) hx hb dX10_has_20 (by decide) ?_
    refine lv_goto (tgt := 25) hx hb dX10_has_21 (by decide) ?_
    exact hC_25 (2 : Int32) x1 S4 H locs I ls (lv_sub hl [0, 1] rfl) hpf
  refine lv_iconst (v := (1 : Int32)) hx hb dX10_has_9 (by decide) ?_
  refine lv_goto (tgt := 25) hx hb dX10_has_10 (by decide) ?_
  exact hC_25 (1 : Int32) x1 S2 H locs I ls (lv_sub hl [0, 1] rfl) hpf
-- ===== ofClass =====
def pf_ofClass_25 (N : Nat) (t0 : Int32) (x1 : Int32) (S : mS) : Option (Int32 × mS) :=
    sv (mI S 0 t0) fun S1 =>
    if (S1.1 0) ≤ (0 : Int32) then (
      bd (pf_puts N (3 : Int32) x1 (0 : Int32) S1) fun v2 S3 =>
      some (v2, S3))
    else (
      some ((0 : Int32), S1))
def pf_ofClass (N : Nat) (x1 : Int32) (S : mS) : Option (Int32 × mS) :=
    bd (pf_isClass N x1 S) fun v1 S2 =>
    if v1 = (0 : Int32) then (
      pf_ofClass_25 N (1 : Int32) x1 S2)
    else (
      bd (pf_isCrowded N S2) fun v3 S4 =>
      if v3 = (0 : Int32) then (
        pf_ofClass_25 N (0 : Int32) x1 S4)
      else (
        pf_ofClass_25 N (2 : Int32) x1 S4))

set_option maxRecDepth 100000 in
set_option maxHeartbeats 4000000 in
theorem c_ofClass (l : Launch) (N : Nat) (x1 : Int32) : mMet l yX10_ofClass cX10_ofClass 2 .int 2 [.int x1] (pf_ofClass N x1) := by
  refine mStart (by decide +kernel) rfl (fun h => [(0, .ref h), (1, .int x1)]) (fun _ => Nat.le_of_ble_eq_true rfl) (fun _ => rfl) ?_
  intro dC dI h cI cZ a sz S r Sf hpf p e s m args below meth c C hr hz H locs I ls hl
  have hx := C.1
  have hb := C.2.1
  unfold pf_ofClass at hpf
  have hC_25 : ∀ (t0 : Int32) (x1 : Int32) (S : mS) (H : Heap) (locs : List Loc), mV dC dI h cI cZ a s S H locs → ∀ ls : Array Slot, lv_has ls 2 [(0, .ref h), (1, .int x1)] → pf_ofClass_25 N t0 x1 S = some (r, Sf) → W p l e (mRm 2) s m args below meth c H locs 0 0 (MQ below (mQ dC dI h cI cZ a sz r Sf) args s 0 0 (mAt h cI cZ a sz)) (F0 m 25 ls [.int t0, .ref h]) := by
    intro t0 x1 S H locs I ls hl hpf
    unfold pf_ofClass_25 at hpf
    refine m_puti C I mInt_0 kM_62 25 dX10_ofClass_25 hpf (fun S1 H locs I hpf => ?_)
    refine lv_aload_n hx hb dX10_ofClass_28 rfl (lv_at hl 0 rfl) ?_
    refine m_geti C I mInt_0 kM_62 29 dX10_ofClass_29 ?_
    refine b_if_le hx hb 39 32 dX10_ofClass_32 (by decide) hpf (fun hpf => ?_) (fun hpf => ?_)
    · refine lv_aload_n hx hb dX10_ofClass_39 rfl (lv_at hl 0 rfl) ?_
      refine lv_iconst (v := (3 : Int32)) hx hb dX10_ofClass_40 (by decide) ?_
      refine lv_iload_n hx hb dX10_ofClass_41 rfl (lv_at hl 1 rfl) ?_
      refine lv_iconst (v := (0 : Int32)) hx hb dX10_ofClass_42 (by decide) ?_
      refine m_callI (rest := []) (As := [.int (3 : Int32), .int x1, .int (0 : Int32)]) C I fn_puts (c_puts l N (3 : Int32) x1 (0 : Int32)) (by decide) 43 dX10_ofClass_43 rfl hl.1 rfl (Nat.le_of_ble_eq_true rfl) hpf (fun v2 S3 H locs I hpf => ?_)
      exact m_reti C I hr hz 46 dX10_ofClass_46 hpf
    refine lv_iconst (v := (0 : Int32)) hx hb dX10_ofClass_35 (by decide) ?_
    refine lv_goto (tgt := 46) hx hb dX10_ofClass_36 (by decide) ?_
    exact m_reti C I hr hz 46 dX10_ofClass_46 hpf
  refine lv_aload_n hx hb dX10_ofClass_0 rfl (lv_at hl 0 rfl) ?_
  refine lv_aload_n hx hb dX10_ofClass_1 rfl (lv_at hl 0 rfl) ?_
  refine lv_iload_n hx hb dX10_ofClass_2 rfl (lv_at hl 1 rfl) ?_
  refine m_callI (rest := [.ref h]) (As := [.int x1]) C I fn_isClass (c_isClass l N x1) (by decide) 3 dX10_ofClass_3 rfl hl.1 rfl (Nat.le_of_ble_eq_true rfl) hpf (fun v1 S2 H locs I hpf => ?_)
  refine b_if_ne hx hb 13 6 dX10_ofClass_6 (by decide) hpf (fun hpf => ?_) (fun hpf => ?_)
  · refine lv_aload_n hx hb dX10_ofClass_13 rfl (lv_at hl 0 rfl) ?_
    refine m_callI (rest := [.ref h]) (As := []) C I fn_isCrowded (c_isCrowded l N ) (by decide) 14 dX10_ofClass_14 rfl hl.1 rfl (Nat.le_of_ble_eq_true rfl) hpf (fun v3 S4 H locs I hpf => ?_)
    refine b_if_eq hx hb 24 17 dX10_ofClass_17 (by decide) hpf (fun hpf => ?_) (fun hpf => ?_)
    · refine lv_iconst (v := (0 : Int32)) hx hb dX10_ofClass_24 (by decide) ?_
      exact hC_25 (0 : Int32) x1 S4 H locs I ls (lv_sub hl [0, 1] rfl) hpf
    refine lv_iconst (v := (2 : Int32)) hx hb dX10_ofClass_20 (by decide) ?_
    refine lv_goto (tgt := 25) hx hb dX10_ofClass_21 (by decide) ?_
    exact hC_25 (2 : Int32) x1 S4 H locs I ls (lv_sub hl [0, 1] rfl) hpf
  refine lv_iconst (v := (1 : Int32)) hx hb dX10_ofClass_9 (by decide) ?_
  refine lv_goto (tgt := 25) hx hb dX10_ofClass_10 (by decide) ?_
  exact hC_25 (1 : Int32) x1 S2 H locs I ls (lv_sub hl [0, 1] rfl) hpf
-- ===== combine =====
def pf_combine_55 (N : Nat) (t0 : Int32) (S : mS) : Option (Int32 × mS) :=
    gd (S.1 16) 8 <|
    gd ((S.1 16) + (1 : Int32)) 8 <|
    bd (pf_puts N t0 (S.2 17 (S.1 16).toNatClampNeg) (S.2 17 ((S.1 16) + (1 : Int32)).toNatClampNeg) S) fun v1 S2 =>
    some (v1, S2)
def pf_combine_23 (N : Nat) (t0 : Int32) (x1 : Int32) (S : mS) : Option (Int32 × mS) :=
    sv (mI S 0 t0) fun S1 =>
    if (S1.1 0) ≤ (0 : Int32) then (
      sv (mI S1 16 ((S1.1 16) - (2 : Int32))) fun S2 =>
      if x1 = (0 : Int32) then (
        pf_combine_55 N (5 : Int32) S2)
      else (
        pf_combine_55 N (4 : Int32) S2))
    else (
      some ((0 : Int32), S1))
def pf_combine (N : Nat) (x1 : Int32) (S : mS) : Option (Int32 × mS) :=
    if (S.1 16) < (2 : Int32) then (
      pf_combine_23 N (1 : Int32) x1 S)
    else (
      if (S.1 11) = (15 : Int32) then (
        pf_combine_23 N (1 : Int32) x1 S)
      else (
        pf_combine_23 N (0 : Int32) x1 S))

set_option maxRecDepth 100000 in
set_option maxHeartbeats 4000000 in
theorem c_combine (l : Launch) (N : Nat) (x1 : Int32) : mMet l yX10_combine cX10_combine 2 .int 1 [.int x1] (pf_combine N x1) := by
  refine mStart (by decide +kernel) rfl (fun h => [(0, .ref h), (1, .int x1)]) (fun _ => Nat.le_of_ble_eq_true rfl) (fun _ => rfl) ?_
  intro dC dI h cI cZ a sz S r Sf hpf p e s m args below meth c C hr hz H locs I ls hl
  have hx := C.1
  have hb := C.2.1
  unfold pf_combine at hpf
  have hC_55 : ∀ (t0 : Int32) (S : mS) (H : Heap) (locs : List Loc), mV dC dI h cI cZ a s S H locs → ∀ ls : Array Slot, lv_has ls 2 [(0, .ref h)] → pf_combine_55 N t0 S = some (r, Sf) → W p l e (mRm 1) s m args below meth c H locs 0 0 (MQ below (mQ dC dI h cI cZ a sz r Sf) args s 0 0 (mAt h cI cZ a sz)) (F0 m 55 ls [.int t0, .ref h]) := by
    intro t0 S H locs I ls hl hpf
    unfold pf_combine_55 at hpf
    refine lv_aload_n hx hb dX10_combine_55 rfl (lv_at hl 0 rfl) ?_
    refine m_getr C I mRef_17 kM_16 56 dX10_combine_56 ?_
    refine lv_aload_n hx hb dX10_combine_59 rfl (lv_at hl 0 rfl) ?_
    refine m_geti C I mInt_16 kM_224 60 dX10_combine_60 ?_
    refine m_iald C I mArr_17 63 dX10_combine_63 hpf (fun hpf => ?_)
    refine lv_aload_n hx hb dX10_combine_64 rfl (lv_at hl 0 rfl) ?_
    refine m_getr C I mRef_17 kM_16 65 dX10_combine_65 ?_
    refine lv_aload_n hx hb dX10_combine_68 rfl (lv_at hl 0 rfl) ?_
    refine m_geti C I mInt_16 kM_224 69 dX10_combine_69 ?_
    refine lv_iconst (v := (1 : Int32)) hx hb dX10_combine_72 (by decide) ?_
    refine lv_iadd hx hb dX10_combine_73 ?_
    refine m_iald C I mArr_17 74 dX10_combine_74 hpf (fun hpf => ?_)
    refine m_callI (rest := []) (As := [.int t0, .int (S.2 17 (S.1 16).toNatClampNeg), .int (S.2 17 ((S.1 16) + (1 : Int32)).toNatClampNeg)]) C I fn_puts (c_puts l N t0 (S.2 17 (S.1 16).toNatClampNeg) (S.2 17 ((S.1 16) + (1 : Int32)).toNatClampNeg)) (by decide) 75 dX10_combine_75 rfl hl.1 rfl (Nat.le_of_ble_eq_true rfl) hpf (fun v1 S2 H locs I hpf => ?_)
    exact m_reti C I hr hz 78 dX10_combine_78 hpf
  have hC_23 : ∀ (t0 : Int32) (x1 : Int32) (S : mS) (H : Heap) (locs : List Loc), mV dC dI h cI cZ a s S H locs → ∀ ls : Array Slot, lv_has ls 2 [(0, .ref h), (1, .int x1)] → pf_combine_23 N t0 x1 S = some (r, Sf) → W p l e (mRm 1) s m args below meth c H locs 0 0 (MQ below (mQ dC dI h cI cZ a sz r Sf) args s 0 0 (mAt h cI cZ a sz)) (F0 m 23 ls [.int t0, .ref h]) := by
    intro t0 x1 S H locs I ls hl hpf
    unfold pf_combine_23 at hpf
    refine m_puti C I mInt_0 kM_62 23 dX10_combine_23 hpf (fun S1 H locs I hpf => ?_)
    refine lv_aload_n hx hb dX10_combine_26 rfl (lv_at hl 0 rfl) ?_
    refine m_geti C I mInt_0 kM_62 27 dX10_combine_27 ?_
    refine b_if_le hx hb 35 30 dX10_combine_30 (by decide) hpf (fun hpf => ?_) (fun hpf => ?_)
    · refine lv_aload_n hx hb dX10_combine_35 rfl (lv_at hl 0 rfl) ?_
      refine lv_dup hx hb dX10_combine_36 rfl ?_
      refine m_geti C I mInt_16 kM_224 37 dX10_combine_37 ?_
      refine lv_iconst (v := (2 : Int32)) hx hb dX10_combine_40 (by decide) ?_
      refine lv_isub hx hb dX10_combine_41 ?_
      refine m_puti C I mInt_16 kM_224 42 dX10_combine_42 hpf (fun S2 H locs I hpf => ?_)
      refine lv_aload_n hx hb dX10_combine_45 rfl (lv_at hl 0 rfl) ?_
      refine lv_iload_n hx hb dX10_combine_46 rfl (lv_at hl 1 rfl) ?_
      refine b_if_eq hx hb 54 47 dX10_combine_47 (by decide) hpf (fun hpf => ?_) (fun hpf => ?_)
      · refine lv_iconst (v := (5 : Int32)) hx hb dX10_combine_54 (by decide) ?_
        exact hC_55 (5 : Int32) S2 H locs I ls (lv_sub hl [0] rfl) hpf
      refine lv_iconst (v := (4 : Int32)) hx hb dX10_combine_50 (by decide) ?_
      refine lv_goto (tgt := 55) hx hb dX10_combine_51 (by decide) ?_
      exact hC_55 (4 : Int32) S2 H locs I ls (lv_sub hl [0] rfl) hpf
    refine lv_iconst (v := (0 : Int32)) hx hb dX10_combine_33 (by decide) ?_
    exact m_reti C I hr hz 34 dX10_combine_34 hpf
  refine lv_aload_n hx hb dX10_combine_0 rfl (lv_at hl 0 rfl) ?_
  refine lv_aload_n hx hb dX10_combine_1 rfl (lv_at hl 0 rfl) ?_
  refine m_geti C I mInt_16 kM_224 2 dX10_combine_2 ?_
  refine lv_iconst (v := (2 : Int32)) hx hb dX10_combine_5 (by decide) ?_
  refine b_icmp_lt hx hb 18 6 dX10_combine_6 (by decide) hpf (fun hpf => ?_) (fun hpf => ?_)
  · refine lv_iconst (v := (1 : Int32)) hx hb dX10_combine_18 (by decide) ?_
    refine lv_goto (tgt := 23) hx hb dX10_combine_19 (by decide) ?_
    exact hC_23 (1 : Int32) x1 S H locs I ls (lv_sub hl [0, 1] rfl) hpf
  refine lv_aload_n hx hb dX10_combine_9 rfl (lv_at hl 0 rfl) ?_
  refine m_geti C I mInt_11 kM_225 10 dX10_combine_10 ?_
  refine lv_bipush (v := (15 : Int32)) hx hb dX10_combine_13 (by decide) ?_
  refine b_icmp_ne hx hb 22 15 dX10_combine_15 (by decide) hpf (fun hpf => ?_) (fun hpf => ?_)
  · refine lv_iconst (v := (0 : Int32)) hx hb dX10_combine_22 (by decide) ?_
    exact hC_23 (0 : Int32) x1 S H locs I ls (lv_sub hl [0, 1] rfl) hpf
  refine lv_iconst (v := (1 : Int32)) hx hb dX10_combine_18 (by decide) ?_
  refine lv_goto (tgt := 23) hx hb dX10_combine_19 (by decide) ?_
  exact hC_23 (1 : Int32) x1 S H locs I ls (lv_sub hl [0, 1] rfl) hpf
-- ===== not =====
def pf_not_22 (N : Nat) (t0 : Int32) (S : mS) : Option (Int32 × mS) :=
    sv (mI S 0 t0) fun S1 =>
    if (S1.1 0) ≤ (0 : Int32) then (
      sv (mI S1 16 ((S1.1 16) - (1 : Int32))) fun S2 =>
      gd (S2.1 16) 8 <|
      bd (pf_puts N (6 : Int32) (S2.2 17 (S2.1 16).toNatClampNeg) (0 : Int32) S2) fun v3 S4 =>
      some (v3, S4))
    else (
      some ((0 : Int32), S1))
def pf_not (N : Nat) (S : mS) : Option (Int32 × mS) :=
    if (S.1 16) = (0 : Int32) then (
      pf_not_22 N (1 : Int32) S)
    else (
      if (S.1 11) = (15 : Int32) then (
        pf_not_22 N (1 : Int32) S)
      else (
        pf_not_22 N (0 : Int32) S))

set_option maxRecDepth 100000 in
set_option maxHeartbeats 4000000 in
theorem c_not (l : Launch) (N : Nat)  : mMet l yX10_not cX10_not 1 .int 1 [] (pf_not N ) := by
  refine mStart (by decide +kernel) rfl (fun h => [(0, .ref h)]) (fun _ => Nat.le_of_ble_eq_true rfl) (fun _ => rfl) ?_
  intro dC dI h cI cZ a sz S r Sf hpf p e s m args below meth c C hr hz H locs I ls hl
  have hx := C.1
  have hb := C.2.1
  unfold pf_not at hpf
  have hC_22 : ∀ (t0 : Int32) (S : mS) (H : Heap) (locs : List Loc), mV dC dI h cI cZ a s S H locs → ∀ ls : Array Slot, lv_has ls 1 [(0, .ref h)] → pf_not_22 N t0 S = some (r, Sf) → W p l e (mRm 1) s m args below meth c H locs 0 0 (MQ below (mQ dC dI h cI cZ a sz r Sf) args s 0 0 (mAt h cI cZ a sz)) (F0 m 22 ls [.int t0, .ref h]) := by
    intro t0 S H locs I ls hl hpf
    unfold pf_not_22 at hpf
    refine m_puti C I mInt_0 kM_62 22 dX10_not_22 hpf (fun S1 H locs I hpf => ?_)
    refine lv_aload_n hx hb dX10_not_25 rfl (lv_at hl 0 rfl) ?_
    refine m_geti C I mInt_0 kM_62 26 dX10_not_26 ?_
    refine b_if_le hx hb 34 29 dX10_not_29 (by decide) hpf (fun hpf => ?_) (fun hpf => ?_)
    · refine lv_aload_n hx hb dX10_not_34 rfl (lv_at hl 0 rfl) ?_
      refine lv_dup hx hb dX10_not_35 rfl ?_
      refine m_geti C I mInt_16 kM_224 36 dX10_not_36 ?_
      refine lv_iconst (v := (1 : Int32)) hx hb dX10_not_39 (by decide) ?_
      refine lv_isub hx hb dX10_not_40 ?_
      refine m_puti C I mInt_16 kM_224 41 dX10_not_41 hpf (fun S2 H locs I hpf => ?_)
      refine lv_aload_n hx hb dX10_not_44 rfl (lv_at hl 0 rfl) ?_
      refine lv_bipush (v := (6 : Int32)) hx hb dX10_not_45 (by decide) ?_
      refine lv_aload_n hx hb dX10_not_47 rfl (lv_at hl 0 rfl) ?_
      refine m_getr C I mRef_17 kM_16 48 dX10_not_48 ?_
      refine lv_aload_n hx hb dX10_not_51 rfl (lv_at hl 0 rfl) ?_
      refine m_geti C I mInt_16 kM_224 52 dX10_not_52 ?_
      refine m_iald C I mArr_17 55 dX10_not_55 hpf (fun hpf => ?_)
      refine lv_iconst (v := (0 : Int32)) hx hb dX10_not_56 (by decide) ?_
      refine m_callI (rest := []) (As := [.int (6 : Int32), .int (S2.2 17 (S2.1 16).toNatClampNeg), .int (0 : Int32)]) C I fn_puts (c_puts l N (6 : Int32) (S2.2 17 (S2.1 16).toNatClampNeg) (0 : Int32)) (by decide) 57 dX10_not_57 rfl hl.1 rfl (Nat.le_of_ble_eq_true rfl) hpf (fun v3 S4 H locs I hpf => ?_)
      exact m_reti C I hr hz 60 dX10_not_60 hpf
    refine lv_iconst (v := (0 : Int32)) hx hb dX10_not_32 (by decide) ?_
    exact m_reti C I hr hz 33 dX10_not_33 hpf
  refine lv_aload_n hx hb dX10_not_0 rfl (lv_at hl 0 rfl) ?_
  refine lv_aload_n hx hb dX10_not_1 rfl (lv_at hl 0 rfl) ?_
  refine m_geti C I mInt_16 kM_224 2 dX10_not_2 ?_
  refine b_if_eq hx hb 17 5 dX10_not_5 (by decide) hpf (fun hpf => ?_) (fun hpf => ?_)
  · refine lv_iconst (v := (1 : Int32)) hx hb dX10_not_17 (by decide) ?_
    refine lv_goto (tgt := 22) hx hb dX10_not_18 (by decide) ?_
    exact hC_22 (1 : Int32) S H locs I ls (lv_sub hl [0] rfl) hpf
  refine lv_aload_n hx hb dX10_not_8 rfl (lv_at hl 0 rfl) ?_
  refine m_geti C I mInt_11 kM_225 9 dX10_not_9 ?_
  refine lv_bipush (v := (15 : Int32)) hx hb dX10_not_12 (by decide) ?_
  refine b_icmp_ne hx hb 21 14 dX10_not_14 (by decide) hpf (fun hpf => ?_) (fun hpf => ?_)
  · refine lv_iconst (v := (0 : Int32)) hx hb dX10_not_21 (by decide) ?_
    exact hC_22 (0 : Int32) S H locs I ls (lv_sub hl [0] rfl) hpf
  refine lv_iconst (v := (1 : Int32)) hx hb dX10_not_17 (by decide) ?_
  refine lv_goto (tgt := 22) hx hb dX10_not_18 (by decide) ?_
  exact hC_22 (1 : Int32) S H locs I ls (lv_sub hl [0] rfl) hpf
-- ===== wipe =====
def pf_wipe (N : Nat) (S : mS) : Option (Int32 × mS) :=
    sv (mI S 0 (0 : Int32)) fun S1 =>
    nm (S1.1 11) fun y2 =>
    sv (mI S1 11 (0 : Int32)) fun S3 =>
    sv (mI S3 16 (0 : Int32)) fun S4 =>
    some (y2, S4)

set_option maxRecDepth 100000 in
set_option maxHeartbeats 4000000 in
theorem c_wipe (l : Launch) (N : Nat)  : mMet l yX10_wipe cX10_wipe 2 .int 0 [] (pf_wipe N ) := by
  refine mStart (by decide +kernel) rfl (fun h => [(0, .ref h)]) (fun _ => Nat.le_of_ble_eq_true rfl) (fun _ => rfl) ?_
  intro dC dI h cI cZ a sz S r Sf hpf p e s m args below meth c C hr hz H locs I ls hl
  have hx := C.1
  have hb := C.2.1
  unfold pf_wipe at hpf
  refine lv_aload_n hx hb dX10_wipe_0 rfl (lv_at hl 0 rfl) ?_
  refine lv_iconst (v := (0 : Int32)) hx hb dX10_wipe_1 (by decide) ?_
  refine m_puti C I mInt_0 kM_62 2 dX10_wipe_2 hpf (fun S1 H locs I hpf => ?_)
  refine lv_aload_n hx hb dX10_wipe_5 rfl (lv_at hl 0 rfl) ?_
  refine m_geti C I mInt_11 kM_225 6 dX10_wipe_6 ?_
  refine m_isto_n hx hb (fun y2 => [(1, .int y2), (0, .ref h)]) 9 dX10_wipe_9 rfl hl (by decide) (fun _ => rfl) hpf (fun y2 ls hl hpf => ?_)
  refine lv_aload_n hx hb dX10_wipe_10 rfl (lv_at hl 1 rfl) ?_
  refine lv_iconst (v := (0 : Int32)) hx hb dX10_wipe_11 (by decide) ?_
  refine m_puti C I mInt_11 kM_225 12 dX10_wipe_12 hpf (fun S3 H locs I hpf => ?_)
  refine lv_aload_n hx hb dX10_wipe_15 rfl (lv_at hl 1 rfl) ?_
  refine lv_iconst (v := (0 : Int32)) hx hb dX10_wipe_16 (by decide) ?_
  refine m_puti C I mInt_16 kM_224 17 dX10_wipe_17 hpf (fun S4 H locs I hpf => ?_)
  refine lv_iload_n hx hb dX10_wipe_20 rfl (lv_at hl 0 rfl) ?_
  exact m_reti C I hr hz 21 dX10_wipe_21 hpf
-- ===== isClassOf =====
def pf_isClassOf_27 (N : Nat) (x2 : Int32) (x3 : Int32) (S : mS) : Option (Int32 × mS) :=
    if x3 = x2 then (
      some ((1 : Int32), S))
    else (
      some ((0 : Int32), S))
def pf_isClassOf_7 (N : Nat) (k_27 : Int32 → Int32 → mS → Option (Int32 × mS)) : Nat → Int32 → Int32 → mS → Option (Int32 × mS)
  | 0 => fun _ _ _ => none
  | n_7 + 1 => fun x2 x3 S =>
    if x3 = (-1 : Int32) then (
      k_27 x2 x3 S)
    else (
      if x3 = x2 then (
        k_27 x2 x3 S)
      else (
        gd x3 8 <|
        nm (S.2 5 x3.toNatClampNeg) fun y1 =>
        pf_isClassOf_7 N k_27 n_7 x2 y1 S))
def pf_isClassOf (N : Nat) (x1 : Int32) (x2 : Int32) (S : mS) : Option (Int32 × mS) :=
    gd x1 48 <|
    nm (S.2 40 x1.toNatClampNeg) fun y1 =>
    pf_isClassOf_7 N (pf_isClassOf_27 N) N x2 y1 S
theorem fn_isClassOf : mFnI yX10_isClassOf cX10_isClassOf 4 (some .boolean) 2 331 := ⟨kM_245, kM_246, kM_247, kM_240, rfl, by decide +kernel, by decide⟩
set_option maxRecDepth 100000 in
set_option maxHeartbeats 4000000 in
theorem c_isClassOf (l : Launch) (N : Nat) (x1 : Int32) (x2 : Int32) : mMet l yX10_isClassOf cX10_isClassOf 4 .boolean 0 [.int x1, .int x2] (pf_isClassOf N x1 x2) := by
  refine mStart (by decide +kernel) rfl (fun h => [(0, .ref h), (1, .int x1), (2, .int x2)]) (fun _ => Nat.le_of_ble_eq_true rfl) (fun _ => rfl) ?_
  intro dC dI h cI cZ a sz S r Sf hpf p e s m args below meth c C hr hz H locs I ls hl
  have hx := C.1
  have hb := C.2.1
  unfold pf_isClassOf at hpf
  have hC_27 : ∀ (x2 : Int32) (x3 : Int32) (S : mS) (H : Heap) (locs : List Loc), mV dC dI h cI cZ a s S H locs → ∀ ls : Array Slot, lv_has ls 4 [(0, .ref h), (2, .int x2), (3, .int x3)] → pf_isClassOf_27 N x2 x3 S = some (r, Sf) → W p l e (mRm 0) s m args below meth c H locs 0 0 (MQ below (mQ dC dI h cI cZ a sz r Sf) args s 0 0 (mAt h cI cZ a sz)) (F0 m 27 ls []) := by
    intro x2 x3 S H locs I ls hl hpf
    unfold pf_isClassOf_27 at hpf
    refine lv_iload_n hx hb dX10_isClassOf_27 rfl (lv_at hl 2 rfl) ?_
    refine lv_iload_n hx hb dX10_isClassOf_28 rfl (lv_at hl 1 rfl) ?_
    refine b_icmp_ne hx hb 36 29 dX10_isClassOf_29 (by decide) hpf (fun hpf => ?_) (fun hpf => ?_)
    · refine lv_iconst (v := (0 : Int32)) hx hb dX10_isClassOf_36 (by decide) ?_
      exact m_retzc C I hr hz 37 dX10_isClassOf_37 (by decide) hpf
    refine lv_iconst (v := (1 : Int32)) hx hb dX10_isClassOf_32 (by decide) ?_
    refine lv_goto (tgt := 37) hx hb dX10_isClassOf_33 (by decide) ?_
    exact m_retzc C I hr hz 37 dX10_isClassOf_37 (by decide) hpf
  have hC_7 : ∀ (n_7 : Nat), ∀ (x2 : Int32) (x3 : Int32) (S : mS) (H : Heap) (locs : List Loc), mV dC dI h cI cZ a s S H locs → ∀ ls : Array Slot, lv_has ls 4 [(0, .ref h), (2, .int x2), (3, .int x3)] → pf_isClassOf_7 N (pf_isClassOf_27 N) n_7 x2 x3 S = some (r, Sf) → W p l e (mRm 0) s m args below meth c H locs 0 0 (MQ below (mQ dC dI h cI cZ a sz r Sf) args s 0 0 (mAt h cI cZ a sz)) (F0 m 7 ls []) := by
    intro n_7
    induction n_7 with
    | zero =>
      intro x2 x3 S H locs I ls hl hpf
      rw [pf_isClassOf_7] at hpf
      cases hpf
    | succ n_7 ih_7 =>
      intro x2 x3 S H locs I ls hl hpf
      rw [pf_isClassOf_7] at hpf
      refine lv_iload_n hx hb dX10_isClassOf_7 rfl (lv_at hl 2 rfl) ?_
      refine lv_iconst (v := (-1 : Int32)) hx hb dX10_isClassOf_8 (by decide) ?_
      refine b_icmp_eq hx hb 27 9 dX10_isClassOf_9 (by decide) hpf (fun hpf => ?_) (fun hpf => ?_)
      · exact hC_27 x2 x3 S H locs I ls (lv_sub hl [0, 1, 2] rfl) hpf
      refine lv_iload_n hx hb dX10_isClassOf_12 rfl (lv_at hl 2 rfl) ?_
      refine lv_iload_n hx hb dX10_isClassOf_13 rfl (lv_at hl 1 rfl) ?_
      refine b_icmp_eq hx hb 27 14 dX10_isClassOf_14 (by decide) hpf (fun hpf => ?_) (fun hpf => ?_)
      · exact hC_27 x2 x3 S H locs I ls (lv_sub hl [0, 1, 2] rfl) hpf
      refine lv_aload_n hx hb dX10_isClassOf_17 rfl (lv_at hl 0 rfl) ?_
      refine m_getr C I mRef_5 kM_7 18 dX10_isClassOf_18 ?_
      refine lv_iload_n hx hb dX10_isClassOf_21 rfl (lv_at hl 2 rfl) ?_
      refine m_iald C I mArr_5 22 dX10_isClassOf_22 hpf (fun hpf => ?_)
      refine m_isto_n hx hb (fun y1 => [(3, .int y1), (0, .ref h), (2, .int x2)]) 23 dX10_isClassOf_23 rfl hl (by decide) (fun _ => rfl) hpf (fun y1 ls hl hpf => ?_)
      refine lv_goto (tgt := 7) hx hb dX10_isClassOf_24 (by decide) ?_
      exact ih_7 x2 y1 S H locs I ls (lv_sub hl [1, 2, 0] rfl) hpf
  refine lv_aload_n hx hb dX10_isClassOf_0 rfl (lv_at hl 0 rfl) ?_
  refine m_getr C I mRef_40 kM_37 1 dX10_isClassOf_1 ?_
  refine lv_iload_n hx hb dX10_isClassOf_4 rfl (lv_at hl 1 rfl) ?_
  refine m_iald C I mArr_40 5 dX10_isClassOf_5 hpf (fun hpf => ?_)
  refine m_isto_n hx hb (fun y1 => [(3, .int y1), (0, .ref h), (1, .int x1), (2, .int x2)]) 6 dX10_isClassOf_6 rfl hl (by decide) (fun _ => rfl) hpf (fun y1 ls hl hpf => ?_)
  exact hC_7 N x2 y1 S H locs I ls (lv_sub hl [1, 3, 0] rfl) hpf
-- ===== isAsMuch =====
def pf_isAsMuch_68 (N : Nat) (k_6 : Int32 → Int32 → Int32 → Int32 → Int32 → mS → Option (Int32 × mS)) (t0 : Int32) (x1 : Int32) (x2 : Int32) (x3 : Int32) (x5 : Int32) (S : mS) : Option (Int32 × mS) :=
    nm (x5 + (1 : Int32)) fun y1 =>
    k_6 x1 x2 x3 t0 y1 S
def pf_isAsMuch_6 (N : Nat) : Nat → Int32 → Int32 → Int32 → Int32 → Int32 → mS → Option (Int32 × mS)
  | 0 => fun _ _ _ _ _ _ => none
  | n_6 + 1 => fun x1 x2 x3 x4 x5 S =>
    if (S.1 47) ≤ x5 then (
      zr x4 S)
    else (
      if x4 = (0 : Int32) then (
        gd x5 900 <|
        if (S.2 48 x5.toNatClampNeg) = x1 then (
          gd x5 900 <|
          if (S.2 49 x5.toNatClampNeg) = x2 then (
            gd x5 900 <|
            bd (pf_key N x2 (S.2 50 x5.toNatClampNeg) S) fun v1 S2 =>
            bd (pf_key N x2 x3 S2) fun v3 S4 =>
            if v1 < v3 then (
              pf_isAsMuch_68 N (pf_isAsMuch_6 N n_6) (0 : Int32) x1 x2 x3 x5 S4)
            else (
              pf_isAsMuch_68 N (pf_isAsMuch_6 N n_6) (1 : Int32) x1 x2 x3 x5 S4))
          else (
            pf_isAsMuch_68 N (pf_isAsMuch_6 N n_6) (0 : Int32) x1 x2 x3 x5 S))
        else (
          pf_isAsMuch_68 N (pf_isAsMuch_6 N n_6) (0 : Int32) x1 x2 x3 x5 S))
      else (
        pf_isAsMuch_68 N (pf_isAsMuch_6 N n_6) (1 : Int32) x1 x2 x3 x5 S))
def pf_isAsMuch (N : Nat) (x1 : Int32) (x2 : Int32) (x3 : Int32) (S : mS) : Option (Int32 × mS) :=
    pf_isAsMuch_6 N N x1 x2 x3 (0 : Int32) (0 : Int32) S
theorem fn_isAsMuch : mFnI yX10_isAsMuch cX10_isAsMuch 6 (some .boolean) 3 328 := ⟨kM_242, kM_243, kM_244, kM_241, rfl, by decide +kernel, by decide⟩
set_option maxRecDepth 100000 in
set_option maxHeartbeats 4000000 in
theorem c_isAsMuch (l : Launch) (N : Nat) (x1 : Int32) (x2 : Int32) (x3 : Int32) : mMet l yX10_isAsMuch cX10_isAsMuch 6 .boolean 1 [.int x1, .int x2, .int x3] (pf_isAsMuch N x1 x2 x3) := by
  refine mStart (by decide +kernel) rfl (fun h => [(0, .ref h), (1, .int x1), (2, .int x2), (3, .int x3)]) (fun _ => Nat.le_of_ble_eq_true rfl) (fun _ => rfl) ?_
  intro dC dI h cI cZ a sz S r Sf hpf p e s m args below meth c C hr hz H locs I ls hl
  have hx := C.1
  have hb := C.2.1
  unfold pf_isAsMuch at hpf
  have hC_6 : ∀ (n_6 : Nat), ∀ (x1 : Int32) (x2 : Int32) (x3 : Int32) (x4 : Int32) (x5 : Int32) (S : mS) (H : Heap) (locs : List Loc), mV dC dI h cI cZ a s S H locs → ∀ ls : Array Slot, lv_has ls 6 [(0, .ref h), (1, .int x1), (2, .int x2), (3, .int x3), (4, .int x4), (5, .int x5)] → pf_isAsMuch_6 N n_6 x1 x2 x3 x4 x5 S = some (r, Sf) → W p l e (mRm 1) s m args below meth c H locs 0 0 (MQ below (mQ dC dI h cI cZ a sz r Sf) args s 0 0 (mAt h cI cZ a sz)) (F0 m 6 ls []) := by
    intro n_6
    induction n_6 with
    | zero =>
      intro x1 x2 x3 x4 x5 S H locs I ls hl hpf
      rw [pf_isAsMuch_6] at hpf
      cases hpf
    | succ n_6 ih_6 =>
      have hC_68 : ∀ (t0 : Int32) (x1 : Int32) (x2 : Int32) (x3 : Int32) (x5 : Int32) (S : mS) (H : Heap) (locs : List Loc), mV dC dI h cI cZ a s S H locs → ∀ ls : Array Slot, lv_has ls 6 [(0, .ref h), (1, .int x1), (2, .int x2), (3, .int x3), (5, .int x5)] → pf_isAsMuch_68 N (pf_isAsMuch_6 N n_6) t0 x1 x2 x3 x5 S = some (r, Sf) → W p l e (mRm 1) s m args below meth c H locs 0 0 (MQ below (mQ dC dI h cI cZ a sz r Sf) args s 0 0 (mAt h cI cZ a sz)) (F0 m 68 ls [.int t0]) := by
        intro t0 x1 x2 x3 x5 S H locs I ls hl hpf
        unfold pf_isAsMuch_68 at hpf
        refine lv_istore (lv' := [(4, .int t0), (0, .ref h), (1, .int x1), (2, .int x2), (3, .int x3), (5, .int x5)]) hx hb dX10_isAsMuch_68 hl (by decide) rfl (fun ls hl => ?_)
        refine m_iinc (w := (1 : Int32)) hx hb (fun y1 => [(5, .int y1), (4, .int t0), (0, .ref h), (1, .int x1), (2, .int x2), (3, .int x3)]) 70 dX10_isAsMuch_70 hl (k := 5) rfl (by decide) (by decide) (fun _ => rfl) hpf (fun y1 ls hl hpf => ?_)
        refine lv_goto (tgt := 6) hx hb dX10_isAsMuch_73 (by decide) ?_
        exact ih_6 x1 x2 x3 t0 y1 S H locs I ls (lv_sub hl [2, 3, 4, 5, 1, 0] rfl) hpf
      intro x1 x2 x3 x4 x5 S H locs I ls hl hpf
      rw [pf_isAsMuch_6] at hpf
      refine lv_iload hx hb dX10_isAsMuch_6 (lv_at hl 5 rfl) ?_
      refine lv_aload_n hx hb dX10_isAsMuch_8 rfl (lv_at hl 0 rfl) ?_
      refine m_geti C I mInt_47 kM_77 9 dX10_isAsMuch_9 ?_
      refine b_icmp_ge hx hb 76 12 dX10_isAsMuch_12 (by decide) hpf (fun hpf => ?_) (fun hpf => ?_)
      · refine lv_iload hx hb dX10_isAsMuch_76 (lv_at hl 4 rfl) ?_
        exact m_retz C I hr hz 78 dX10_isAsMuch_78 hpf
      refine lv_iload hx hb dX10_isAsMuch_15 (lv_at hl 4 rfl) ?_
      refine b_if_ne hx hb 63 17 dX10_isAsMuch_17 (by decide) hpf (fun hpf => ?_) (fun hpf => ?_)
      · refine lv_iconst (v := (1 : Int32)) hx hb dX10_isAsMuch_63 (by decide) ?_
        refine lv_goto (tgt := 68) hx hb dX10_isAsMuch_64 (by decide) ?_
        exact hC_68 (1 : Int32) x1 x2 x3 x5 S H locs I ls (lv_sub hl [0, 1, 2, 3, 5] rfl) hpf
      refine lv_aload_n hx hb dX10_isAsMuch_20 rfl (lv_at hl 0 rfl) ?_
      refine m_getr C I mRef_48 kM_44 21 dX10_isAsMuch_21 ?_
      refine lv_iload hx hb dX10_isAsMuch_24 (lv_at hl 5 rfl) ?_
      refine m_iald C I mArr_48 26 dX10_isAsMuch_26 hpf (fun hpf => ?_)
      refine lv_iload_n hx hb dX10_isAsMuch_27 rfl (lv_at hl 1 rfl) ?_
      refine b_icmp_ne hx hb 67 28 dX10_isAsMuch_28 (by decide) hpf (fun hpf => ?_) (fun hpf => ?_)
      · refine lv_iconst (v := (0 : Int32)) hx hb dX10_isAsMuch_67 (by decide) ?_
        exact hC_68 (0 : Int32) x1 x2 x3 x5 S H locs I ls (lv_sub hl [0, 1, 2, 3, 5] rfl) hpf
      refine lv_aload_n hx hb dX10_isAsMuch_31 rfl (lv_at hl 0 rfl) ?_
      refine m_getr C I mRef_49 kM_45 32 dX10_isAsMuch_32 ?_
      refine lv_iload hx hb dX10_isAsMuch_35 (lv_at hl 5 rfl) ?_
      refine m_iald C I mArr_49 37 dX10_isAsMuch_37 hpf (fun hpf => ?_)
      refine lv_iload_n hx hb dX10_isAsMuch_38 rfl (lv_at hl 2 rfl) ?_
      refine b_icmp_ne hx hb 67 39 dX10_isAsMuch_39 (by decide) hpf (fun hpf => ?_) (fun hpf => ?_)
      · refine lv_iconst (v := (0 : Int32)) hx hb dX10_isAsMuch_67 (by decide) ?_
        exact hC_68 (0 : Int32) x1 x2 x3 x5 S H locs I ls (lv_sub hl [0, 1, 2, 3, 5] rfl) hpf
      refine lv_aload_n hx hb dX10_isAsMuch_42 rfl (lv_at hl 0 rfl) ?_
      refine lv_iload_n hx hb dX10_isAsMuch_43 rfl (lv_at hl 2 rfl) ?_
      refine lv_aload_n hx hb dX10_isAsMuch_44 rfl (lv_at hl 0 rfl) ?_
      refine m_getr C I mRef_50 kM_46 45 dX10_isAsMuch_45 ?_
      refine lv_iload hx hb dX10_isAsMuch_48 (lv_at hl 5 rfl) ?_
      refine m_iald C I mArr_50 50 dX10_isAsMuch_50 hpf (fun hpf => ?_)
      refine m_callI (rest := []) (As := [.int x2, .int (S.2 50 x5.toNatClampNeg)]) C I fn_key (c_key l N x2 (S.2 50 x5.toNatClampNeg)) (by decide) 51 dX10_isAsMuch_51 rfl hl.1 rfl (Nat.le_of_ble_eq_true rfl) hpf (fun v1 S2 H locs I hpf => ?_)
      refine lv_aload_n hx hb dX10_isAsMuch_54 rfl (lv_at hl 0 rfl) ?_
      refine lv_iload_n hx hb dX10_isAsMuch_55 rfl (lv_at hl 2 rfl) ?_
      refine lv_iload_n hx hb dX10_isAsMuch_56 rfl (lv_at hl 3 rfl) ?_
      refine m_callI (rest := [.int v1]) (As := [.int x2, .int x3]) C I fn_key (c_key l N x2 x3) (by decide) 57 dX10_isAsMuch_57 rfl hl.1 rfl (Nat.le_of_ble_eq_true rfl) hpf (fun v3 S4 H locs I hpf => ?_)
      refine b_icmp_lt hx hb 67 60 dX10_isAsMuch_60 (by decide) hpf (fun hpf => ?_) (fun hpf => ?_)
      · refine lv_iconst (v := (0 : Int32)) hx hb dX10_isAsMuch_67 (by decide) ?_
        exact hC_68 (0 : Int32) x1 x2 x3 x5 S4 H locs I ls (lv_sub hl [0, 1, 2, 3, 5] rfl) hpf
      refine lv_iconst (v := (1 : Int32)) hx hb dX10_isAsMuch_63 (by decide) ?_
      refine lv_goto (tgt := 68) hx hb dX10_isAsMuch_64 (by decide) ?_
      exact hC_68 (1 : Int32) x1 x2 x3 x5 S4 H locs I ls (lv_sub hl [0, 1, 2, 3, 5] rfl) hpf
  refine lv_iconst (v := (0 : Int32)) hx hb dX10_isAsMuch_0 (by decide) ?_
  refine lv_istore (lv' := [(4, .int (0 : Int32)), (0, .ref h), (1, .int x1), (2, .int x2), (3, .int x3)]) hx hb dX10_isAsMuch_1 hl (by decide) rfl (fun ls hl => ?_)
  refine lv_iconst (v := (0 : Int32)) hx hb dX10_isAsMuch_3 (by decide) ?_
  refine lv_istore (lv' := [(5, .int (0 : Int32)), (4, .int (0 : Int32)), (0, .ref h), (1, .int x1), (2, .int x2), (3, .int x3)]) hx hb dX10_isAsMuch_4 hl (by decide) rfl (fun ls hl => ?_)
  exact hC_6 N x1 x2 x3 (0 : Int32) (0 : Int32) S H locs I ls (lv_sub hl [2, 3, 4, 5, 1, 0] rfl) hpf
