-- ===== follow =====
def pf_follow_163 (N : Nat) (S : mS) : Option (Int32 × mS) :=
    some (S.1 52, S)
def pf_follow_157 (N : Nat) (k_70 : Int32 → Int32 → Int32 → mS → Option (Int32 × mS)) (x1 : Int32) (x3 : Int32) (S : mS) : Option (Int32 × mS) :=
    k_70 x1 x3 (0 : Int32) S
def pf_follow_151 (N : Nat) (k_70 : Int32 → Int32 → Int32 → mS → Option (Int32 × mS)) (x1 : Int32) (x3 : Int32) (x5 : Int32) (S : mS) : Option (Int32 × mS) :=
    bd (pf_waits N x5 S) fun v1 S2 =>
    pf_follow_157 N k_70 x1 x3 S2
def pf_follow_130 (N : Nat) (k_70 : Int32 → Int32 → Int32 → mS → Option (Int32 × mS)) (x1 : Int32) (x3 : Int32) (x4 : Int32) (x5 : Int32) (S : mS) : Option (Int32 × mS) :=
    if x5 = (-1 : Int32) then (
      pf_follow_157 N k_70 x1 x3 S)
    else (
      if x3 = (2 : Int32) then (
        pf_follow_151 N k_70 x1 x3 x5 S)
      else (
        if x3 = (1 : Int32) then (
          if x4 = (0 : Int32) then (
            pf_follow_157 N k_70 x1 x3 S)
          else (
            pf_follow_151 N k_70 x1 x3 x5 S))
        else (
          pf_follow_157 N k_70 x1 x3 S)))
def pf_follow_118 (N : Nat) (k_70 : Int32 → Int32 → Int32 → mS → Option (Int32 × mS)) (x1 : Int32) (x3 : Int32) (x4 : Int32) (x5 : Int32) (S : mS) : Option (Int32 × mS) :=
    gd x1 4 <|
    bd (pf_looks N x5 (S.2 18 x1.toNatClampNeg) S) fun v1 S2 =>
    pf_follow_130 N k_70 x1 x3 x4 x5 S2
def pf_follow_70 (N : Nat) (k_163 : mS → Option (Int32 × mS)) : Nat → Int32 → Int32 → Int32 → mS → Option (Int32 × mS)
  | 0 => fun _ _ _ _ => none
  | n_70 + 1 => fun x1 x3 x4 S =>
    if (S.1 54) ≤ (0 : Int32) then (
      k_163 S)
    else (
      sv (mI S 54 ((S.1 54) - (1 : Int32))) fun S1 =>
      gd (S1.1 54) 400 <|
      bd (pf_arrives N (S1.2 55 (S1.1 54).toNatClampNeg) S1) fun v2 S3 =>
      if v2 = (-1 : Int32) then (
        pf_follow_130 N (pf_follow_70 N k_163 n_70) x1 x3 x4 v2 S3)
      else (
        if x3 = (1 : Int32) then (
          if x4 = (0 : Int32) then (
            pf_follow_118 N (pf_follow_70 N k_163 n_70) x1 x3 x4 v2 S3)
          else (
            pf_follow_130 N (pf_follow_70 N k_163 n_70) x1 x3 x4 v2 S3))
        else (
          pf_follow_118 N (pf_follow_70 N k_163 n_70) x1 x3 x4 v2 S3)))
def pf_follow_45 (N : Nat) (x1 : Int32) (x2 : Int32) (x3 : Int32) (S : mS) : Option (Int32 × mS) :=
    sv (mI S 52 (0 : Int32)) fun S1 =>
    gd (0 : Int32) 400 <| sv (mA S1 55 (0 : Int32).toNatClampNeg (((100 : Int32) * x1) + x2)) fun S2 =>
    sv (mI S2 54 (1 : Int32)) fun S3 =>
    pf_follow_70 N (pf_follow_163 N) N x1 x3 (1 : Int32) S3
def pf_follow_23 (N : Nat) (k_45 : Int32 → Int32 → Int32 → mS → Option (Int32 × mS)) : Nat → Int32 → Int32 → Int32 → Int32 → mS → Option (Int32 × mS)
  | 0 => fun _ _ _ _ _ => none
  | n_23 + 1 => fun x1 x2 x3 x4 S =>
    if (192 : Int32) ≤ x4 then (
      k_45 x1 x2 x3 S)
    else (
      gd x4 192 <| sv (mA S 56 x4.toNatClampNeg (vp_nar .boolean (0 : Int32))) fun S1 =>
      nm (x4 + (1 : Int32)) fun y2 =>
      pf_follow_23 N k_45 n_23 x1 x2 x3 y2 S1)
def pf_follow (N : Nat) (x1 : Int32) (x2 : Int32) (x3 : Int32) (S : mS) : Option (Int32 × mS) :=
    bd (pf_refusesSearch N x1 x2 x3 S) fun v1 S2 =>
    sv (mI S2 0 v1) fun S3 =>
    if (S3.1 0) ≤ (0 : Int32) then (
      pf_follow_23 N (pf_follow_45 N) N x1 x2 x3 (0 : Int32) S3)
    else (
      some ((0 : Int32), S3))

set_option maxRecDepth 100000 in
set_option maxHeartbeats 4000000 in
theorem c_follow (l : Launch) (N : Nat) (x1 : Int32) (x2 : Int32) (x3 : Int32) : mMet l yX10_follow cX10_follow 6 .int 7 [.int x1, .int x2, .int x3] (pf_follow N x1 x2 x3) := by
  refine mStart (by decide +kernel) rfl (fun h => [(0, .ref h), (1, .int x1), (2, .int x2), (3, .int x3)]) (fun _ => Nat.le_of_ble_eq_true rfl) (fun _ => rfl) ?_
  intro dC dI h cI cZ a sz S r Sf hpf p e s m args below meth c C hr hz H locs I ls hl
  have hx := C.1
  have hb := C.2.1
  unfold pf_follow at hpf
  have hC_163 : ∀ (S : mS) (H : Heap) (locs : List Loc), mV dC dI h cI cZ a s S H locs → ∀ ls : Array Slot, lv_has ls 6 [(0, .ref h)] → pf_follow_163 N S = some (r, Sf) → W p l e (mRm 7) s m args below meth c H locs 0 0 (MQ below (mQ dC dI h cI cZ a sz r Sf) args s 0 0 (mAt h cI cZ a sz)) (F0 m 163 ls []) := by
    intro S H locs I ls hl hpf
    unfold pf_follow_163 at hpf
    refine lv_aload_n hx hb dX10_follow_163 rfl (lv_at hl 0 rfl) ?_
    refine m_geti C I mInt_52 kM_258 164 dX10_follow_164 ?_
    exact m_reti C I hr hz 167 dX10_follow_167 hpf
  have hC_70 : ∀ (n_70 : Nat), ∀ (x1 : Int32) (x3 : Int32) (x4 : Int32) (S : mS) (H : Heap) (locs : List Loc), mV dC dI h cI cZ a s S H locs → ∀ ls : Array Slot, lv_has ls 6 [(0, .ref h), (1, .int x1), (3, .int x3), (4, .int x4)] → pf_follow_70 N (pf_follow_163 N) n_70 x1 x3 x4 S = some (r, Sf) → W p l e (mRm 7) s m args below meth c H locs 0 0 (MQ below (mQ dC dI h cI cZ a sz r Sf) args s 0 0 (mAt h cI cZ a sz)) (F0 m 70 ls []) := by
    intro n_70
    induction n_70 with
    | zero =>
      intro x1 x3 x4 S H locs I ls hl hpf
      rw [pf_follow_70] at hpf
      cases hpf
    | succ n_70 ih_70 =>
      have hC_157 : ∀ (x1 : Int32) (x3 : Int32) (S : mS) (H : Heap) (locs : List Loc), mV dC dI h cI cZ a s S H locs → ∀ ls : Array Slot, lv_has ls 6 [(0, .ref h), (1, .int x1), (3, .int x3)] → pf_follow_157 N (pf_follow_70 N (pf_follow_163 N) n_70) x1 x3 S = some (r, Sf) → W p l e (mRm 7) s m args below meth c H locs 0 0 (MQ below (mQ dC dI h cI cZ a sz r Sf) args s 0 0 (mAt h cI cZ a sz)) (F0 m 157 ls []) := by
        intro x1 x3 S H locs I ls hl hpf
        unfold pf_follow_157 at hpf
        refine lv_iconst (v := (0 : Int32)) hx hb dX10_follow_157 (by decide) ?_
        refine lv_istore (lv' := [(4, .int (0 : Int32)), (0, .ref h), (1, .int x1), (3, .int x3)]) hx hb dX10_follow_158 hl (by decide) rfl (fun ls hl => ?_)
        refine lv_goto (tgt := 70) hx hb dX10_follow_160 (by decide) ?_
        exact ih_70 x1 x3 (0 : Int32) S H locs I ls (lv_sub hl [1, 2, 3, 0] rfl) hpf
      have hC_151 : ∀ (x1 : Int32) (x3 : Int32) (x5 : Int32) (S : mS) (H : Heap) (locs : List Loc), mV dC dI h cI cZ a s S H locs → ∀ ls : Array Slot, lv_has ls 6 [(0, .ref h), (1, .int x1), (3, .int x3), (5, .int x5)] → pf_follow_151 N (pf_follow_70 N (pf_follow_163 N) n_70) x1 x3 x5 S = some (r, Sf) → W p l e (mRm 7) s m args below meth c H locs 0 0 (MQ below (mQ dC dI h cI cZ a sz r Sf) args s 0 0 (mAt h cI cZ a sz)) (F0 m 151 ls []) := by
        intro x1 x3 x5 S H locs I ls hl hpf
        unfold pf_follow_151 at hpf
        refine lv_aload_n hx hb dX10_follow_151 rfl (lv_at hl 0 rfl) ?_
        refine lv_iload hx hb dX10_follow_152 (lv_at hl 3 rfl) ?_
        refine m_callV (rest := []) (As := [.int x5]) C I fn_waits (c_waits l N x5) (by decide) 154 dX10_follow_154 rfl hl.1 rfl (Nat.le_of_ble_eq_true rfl) hpf (fun v1 S2 H locs I hpf => ?_)
        exact hC_157 x1 x3 S2 H locs I ls (lv_sub hl [0, 1, 2] rfl) hpf
      have hC_130 : ∀ (x1 : Int32) (x3 : Int32) (x4 : Int32) (x5 : Int32) (S : mS) (H : Heap) (locs : List Loc), mV dC dI h cI cZ a s S H locs → ∀ ls : Array Slot, lv_has ls 6 [(0, .ref h), (1, .int x1), (3, .int x3), (4, .int x4), (5, .int x5)] → pf_follow_130 N (pf_follow_70 N (pf_follow_163 N) n_70) x1 x3 x4 x5 S = some (r, Sf) → W p l e (mRm 7) s m args below meth c H locs 0 0 (MQ below (mQ dC dI h cI cZ a sz r Sf) args s 0 0 (mAt h cI cZ a sz)) (F0 m 130 ls []) := by
        intro x1 x3 x4 x5 S H locs I ls hl hpf
        unfold pf_follow_130 at hpf
        refine lv_iload hx hb dX10_follow_130 (lv_at hl 4 rfl) ?_
        refine lv_iconst (v := (-1 : Int32)) hx hb dX10_follow_132 (by decide) ?_
        refine b_icmp_eq hx hb 157 133 dX10_follow_133 (by decide) hpf (fun hpf => ?_) (fun hpf => ?_)
        · exact hC_157 x1 x3 S H locs I ls (lv_sub hl [0, 1, 2] rfl) hpf
        refine lv_iload_n hx hb dX10_follow_136 rfl (lv_at hl 2 rfl) ?_
        refine lv_iconst (v := (2 : Int32)) hx hb dX10_follow_137 (by decide) ?_
        refine b_icmp_eq hx hb 151 138 dX10_follow_138 (by decide) hpf (fun hpf => ?_) (fun hpf => ?_)
        · exact hC_151 x1 x3 x5 S H locs I ls (lv_sub hl [0, 1, 2, 4] rfl) hpf
        refine lv_iload_n hx hb dX10_follow_141 rfl (lv_at hl 2 rfl) ?_
        refine lv_iconst (v := (1 : Int32)) hx hb dX10_follow_142 (by decide) ?_
        refine b_icmp_ne hx hb 157 143 dX10_follow_143 (by decide) hpf (fun hpf => ?_) (fun hpf => ?_)
        · exact hC_157 x1 x3 S H locs I ls (lv_sub hl [0, 1, 2] rfl) hpf
        refine lv_iload hx hb dX10_follow_146 (lv_at hl 3 rfl) ?_
        refine b_if_eq hx hb 157 148 dX10_follow_148 (by decide) hpf (fun hpf => ?_) (fun hpf => ?_)
        · exact hC_157 x1 x3 S H locs I ls (lv_sub hl [0, 1, 2] rfl) hpf
        exact hC_151 x1 x3 x5 S H locs I ls (lv_sub hl [0, 1, 2, 4] rfl) hpf
      have hC_118 : ∀ (x1 : Int32) (x3 : Int32) (x4 : Int32) (x5 : Int32) (S : mS) (H : Heap) (locs : List Loc), mV dC dI h cI cZ a s S H locs → ∀ ls : Array Slot, lv_has ls 6 [(0, .ref h), (1, .int x1), (3, .int x3), (4, .int x4), (5, .int x5)] → pf_follow_118 N (pf_follow_70 N (pf_follow_163 N) n_70) x1 x3 x4 x5 S = some (r, Sf) → W p l e (mRm 7) s m args below meth c H locs 0 0 (MQ below (mQ dC dI h cI cZ a sz r Sf) args s 0 0 (mAt h cI cZ a sz)) (F0 m 118 ls []) := by
        intro x1 x3 x4 x5 S H locs I ls hl hpf
        unfold pf_follow_118 at hpf
        refine lv_aload_n hx hb dX10_follow_118 rfl (lv_at hl 0 rfl) ?_
        refine lv_iload hx hb dX10_follow_119 (lv_at hl 4 rfl) ?_
        refine lv_aload_n hx hb dX10_follow_121 rfl (lv_at hl 0 rfl) ?_
        refine m_getr C I mRef_18 kM_17 122 dX10_follow_122 ?_
        refine lv_iload_n hx hb dX10_follow_125 rfl (lv_at hl 1 rfl) ?_
        refine m_iald C I mArr_18 126 dX10_follow_126 hpf (fun hpf => ?_)
        refine m_callV (rest := []) (As := [.int x5, .int (S.2 18 x1.toNatClampNeg)]) C I fn_looks (c_looks l N x5 (S.2 18 x1.toNatClampNeg)) (by decide) 127 dX10_follow_127 rfl hl.1 rfl (Nat.le_of_ble_eq_true rfl) hpf (fun v1 S2 H locs I hpf => ?_)
        exact hC_130 x1 x3 x4 x5 S2 H locs I ls (lv_sub hl [0, 1, 2, 3, 4] rfl) hpf
      intro x1 x3 x4 S H locs I ls hl hpf
      rw [pf_follow_70] at hpf
      refine lv_aload_n hx hb dX10_follow_70 rfl (lv_at hl 0 rfl) ?_
      refine m_geti C I mInt_54 kM_270 71 dX10_follow_71 ?_
      refine b_if_le hx hb 163 74 dX10_follow_74 (by decide) hpf (fun hpf => ?_) (fun hpf => ?_)
      · exact hC_163 S H locs I ls (lv_sub hl [0] rfl) hpf
      refine lv_aload_n hx hb dX10_follow_77 rfl (lv_at hl 0 rfl) ?_
      refine lv_dup hx hb dX10_follow_78 rfl ?_
      refine m_geti C I mInt_54 kM_270 79 dX10_follow_79 ?_
      refine lv_iconst (v := (1 : Int32)) hx hb dX10_follow_82 (by decide) ?_
      refine lv_isub hx hb dX10_follow_83 ?_
      refine m_puti C I mInt_54 kM_270 84 dX10_follow_84 hpf (fun S1 H locs I hpf => ?_)
      refine lv_aload_n hx hb dX10_follow_87 rfl (lv_at hl 0 rfl) ?_
      refine lv_aload_n hx hb dX10_follow_88 rfl (lv_at hl 0 rfl) ?_
      refine m_getr C I mRef_55 kM_49 89 dX10_follow_89 ?_
      refine lv_aload_n hx hb dX10_follow_92 rfl (lv_at hl 0 rfl) ?_
      refine m_geti C I mInt_54 kM_270 93 dX10_follow_93 ?_
      refine m_iald C I mArr_55 96 dX10_follow_96 hpf (fun hpf => ?_)
      refine m_callI (rest := []) (As := [.int (S1.2 55 (S1.1 54).toNatClampNeg)]) C I fn_arrives (c_arrives l N (S1.2 55 (S1.1 54).toNatClampNeg)) (by decide) 97 dX10_follow_97 rfl hl.1 rfl (Nat.le_of_ble_eq_true rfl) hpf (fun v2 S3 H locs I hpf => ?_)
      refine lv_istore (lv' := [(5, .int v2), (0, .ref h), (1, .int x1), (3, .int x3), (4, .int x4)]) hx hb dX10_follow_100 hl (by decide) rfl (fun ls hl => ?_)
      refine lv_iload hx hb dX10_follow_102 (lv_at hl 0 rfl) ?_
      refine lv_iconst (v := (-1 : Int32)) hx hb dX10_follow_104 (by decide) ?_
      refine b_icmp_eq hx hb 130 105 dX10_follow_105 (by decide) hpf (fun hpf => ?_) (fun hpf => ?_)
      · exact hC_130 x1 x3 x4 v2 S3 H locs I ls (lv_sub hl [1, 2, 3, 4, 0] rfl) hpf
      refine lv_iload_n hx hb dX10_follow_108 rfl (lv_at hl 3 rfl) ?_
      refine lv_iconst (v := (1 : Int32)) hx hb dX10_follow_109 (by decide) ?_
      refine b_icmp_ne hx hb 118 110 dX10_follow_110 (by decide) hpf (fun hpf => ?_) (fun hpf => ?_)
      · exact hC_118 x1 x3 x4 v2 S3 H locs I ls (lv_sub hl [1, 2, 3, 4, 0] rfl) hpf
      refine lv_iload hx hb dX10_follow_113 (lv_at hl 4 rfl) ?_
      refine b_if_ne hx hb 130 115 dX10_follow_115 (by decide) hpf (fun hpf => ?_) (fun hpf => ?_)
      · exact hC_130 x1 x3 x4 v2 S3 H locs I ls (lv_sub hl [1, 2, 3, 4, 0] rfl) hpf
      exact hC_118 x1 x3 x4 v2 S3 H locs I ls (lv_sub hl [1, 2, 3, 4, 0] rfl) hpf
  have hC_45 : ∀ (x1 : Int32) (x2 : Int32) (x3 : Int32) (S : mS) (H : Heap) (locs : List Loc), mV dC dI h cI cZ a s S H locs → ∀ ls : Array Slot, lv_has ls 6 [(0, .ref h), (1, .int x1), (2, .int x2), (3, .int x3)] → pf_follow_45 N x1 x2 x3 S = some (r, Sf) → W p l e (mRm 7) s m args below meth c H locs 0 0 (MQ below (mQ dC dI h cI cZ a sz r Sf) args s 0 0 (mAt h cI cZ a sz)) (F0 m 45 ls []) := by
    intro x1 x2 x3 S H locs I ls hl hpf
    unfold pf_follow_45 at hpf
    refine lv_aload_n hx hb dX10_follow_45 rfl (lv_at hl 0 rfl) ?_
    refine lv_iconst (v := (0 : Int32)) hx hb dX10_follow_46 (by decide) ?_
    refine m_puti C I mInt_52 kM_258 47 dX10_follow_47 hpf (fun S1 H locs I hpf => ?_)
    refine lv_aload_n hx hb dX10_follow_50 rfl (lv_at hl 0 rfl) ?_
    refine m_getr C I mRef_55 kM_49 51 dX10_follow_51 ?_
    refine lv_iconst (v := (0 : Int32)) hx hb dX10_follow_54 (by decide) ?_
    refine lv_bipush (v := (100 : Int32)) hx hb dX10_follow_55 (by decide) ?_
    refine lv_iload_n hx hb dX10_follow_57 rfl (lv_at hl 1 rfl) ?_
    refine lv_imul hx hb dX10_follow_58 ?_
    refine lv_iload_n hx hb dX10_follow_59 rfl (lv_at hl 2 rfl) ?_
    refine lv_iadd hx hb dX10_follow_60 ?_
    refine m_iast C I mArr_55 61 dX10_follow_61 hpf (fun S2 H locs I hpf => ?_)
    refine lv_aload_n hx hb dX10_follow_62 rfl (lv_at hl 0 rfl) ?_
    refine lv_iconst (v := (1 : Int32)) hx hb dX10_follow_63 (by decide) ?_
    refine m_puti C I mInt_54 kM_270 64 dX10_follow_64 hpf (fun S3 H locs I hpf => ?_)
    refine lv_iconst (v := (1 : Int32)) hx hb dX10_follow_67 (by decide) ?_
    refine lv_istore (lv' := [(4, .int (1 : Int32)), (0, .ref h), (1, .int x1), (2, .int x2), (3, .int x3)]) hx hb dX10_follow_68 hl (by decide) rfl (fun ls hl => ?_)
    exact hC_70 N x1 x3 (1 : Int32) S3 H locs I ls (lv_sub hl [1, 2, 4, 0] rfl) hpf
  have hC_23 : ∀ (n_23 : Nat), ∀ (x1 : Int32) (x2 : Int32) (x3 : Int32) (x4 : Int32) (S : mS) (H : Heap) (locs : List Loc), mV dC dI h cI cZ a s S H locs → ∀ ls : Array Slot, lv_has ls 6 [(0, .ref h), (1, .int x1), (2, .int x2), (3, .int x3), (4, .int x4)] → pf_follow_23 N (pf_follow_45 N) n_23 x1 x2 x3 x4 S = some (r, Sf) → W p l e (mRm 7) s m args below meth c H locs 0 0 (MQ below (mQ dC dI h cI cZ a sz r Sf) args s 0 0 (mAt h cI cZ a sz)) (F0 m 23 ls []) := by
    intro n_23
    induction n_23 with
    | zero =>
      intro x1 x2 x3 x4 S H locs I ls hl hpf
      rw [pf_follow_23] at hpf
      cases hpf
    | succ n_23 ih_23 =>
      intro x1 x2 x3 x4 S H locs I ls hl hpf
      rw [pf_follow_23] at hpf
      refine lv_iload hx hb dX10_follow_23 (lv_at hl 4 rfl) ?_
      refine lv_sipush (v := (192 : Int32)) hx hb dX10_follow_25 (by decide) ?_
      refine b_icmp_ge hx hb 45 28 dX10_follow_28 (by decide) hpf (fun hpf => ?_) (fun hpf => ?_)
      · exact hC_45 x1 x2 x3 S H locs I ls (lv_sub hl [0, 1, 2, 3] rfl) hpf
      refine lv_aload_n hx hb dX10_follow_31 rfl (lv_at hl 0 rfl) ?_
      refine m_getr C I mRef_56 kM_50 32 dX10_follow_32 ?_
      refine lv_iload hx hb dX10_follow_35 (lv_at hl 4 rfl) ?_
      refine lv_iconst (v := (0 : Int32)) hx hb dX10_follow_37 (by decide) ?_
      refine m_zast C I mArr_56 38 dX10_follow_38 hpf (fun S1 H locs I hpf => ?_)
      refine m_iinc (w := (1 : Int32)) hx hb (fun y2 => [(4, .int y2), (0, .ref h), (1, .int x1), (2, .int x2), (3, .int x3)]) 39 dX10_follow_39 hl (k := 4) rfl (by decide) (by decide) (fun _ => rfl) hpf (fun y2 ls hl hpf => ?_)
      refine lv_goto (tgt := 23) hx hb dX10_follow_42 (by decide) ?_
      exact ih_23 x1 x2 x3 y2 S1 H locs I ls (lv_sub hl [1, 2, 3, 4, 0] rfl) hpf
  refine lv_aload_n hx hb dX10_follow_0 rfl (lv_at hl 0 rfl) ?_
  refine lv_aload_n hx hb dX10_follow_1 rfl (lv_at hl 0 rfl) ?_
  refine lv_iload_n hx hb dX10_follow_2 rfl (lv_at hl 1 rfl) ?_
  refine lv_iload_n hx hb dX10_follow_3 rfl (lv_at hl 2 rfl) ?_
  refine lv_iload_n hx hb dX10_follow_4 rfl (lv_at hl 3 rfl) ?_
  refine m_callI (rest := [.ref h]) (As := [.int x1, .int x2, .int x3]) C I fn_refusesSearch (c_refusesSearch l N x1 x2 x3) (by decide) 5 dX10_follow_5 rfl hl.1 rfl (Nat.le_of_ble_eq_true rfl) hpf (fun v1 S2 H locs I hpf => ?_)
  refine m_puti C I mInt_0 kM_62 8 dX10_follow_8 hpf (fun S3 H locs I hpf => ?_)
  refine lv_aload_n hx hb dX10_follow_11 rfl (lv_at hl 0 rfl) ?_
  refine m_geti C I mInt_0 kM_62 12 dX10_follow_12 ?_
  refine b_if_le hx hb 20 15 dX10_follow_15 (by decide) hpf (fun hpf => ?_) (fun hpf => ?_)
  · refine lv_iconst (v := (0 : Int32)) hx hb dX10_follow_20 (by decide) ?_
    refine lv_istore (lv' := [(4, .int (0 : Int32)), (0, .ref h), (1, .int x1), (2, .int x2), (3, .int x3)]) hx hb dX10_follow_21 hl (by decide) rfl (fun ls hl => ?_)
    exact hC_23 N x1 x2 x3 (0 : Int32) S3 H locs I ls (lv_sub hl [1, 2, 3, 4, 0] rfl) hpf
  refine lv_iconst (v := (0 : Int32)) hx hb dX10_follow_18 (by decide) ?_
  exact m_reti C I hr hz 19 dX10_follow_19 hpf
-- ===== found =====
def pf_found (N : Nat) (x1 : Int32) (S : mS) : Option (Int32 × mS) :=
    sv (mI S 0 (0 : Int32)) fun S1 =>
    bs (pf_in N x1 (0 : Int32) ((S1.1 52) - (1 : Int32))) fun v2 =>
    if v2 = (0 : Int32) then (
      bd (pf_fails N (1 : Int32) S1) fun v3 S4 =>
      some (v3, S4))
    else (
      gd x1 192 <|
      some (S1.2 53 x1.toNatClampNeg, S1))

set_option maxRecDepth 100000 in
set_option maxHeartbeats 4000000 in
theorem c_found (l : Launch) (N : Nat) (x1 : Int32) : mMet l yX10_found cX10_found 2 .int 1 [.int x1] (pf_found N x1) := by
  refine mStart (by decide +kernel) rfl (fun h => [(0, .ref h), (1, .int x1)]) (fun _ => Nat.le_of_ble_eq_true rfl) (fun _ => rfl) ?_
  intro dC dI h cI cZ a sz S r Sf hpf p e s m args below meth c C hr hz H locs I ls hl
  have hx := C.1
  have hb := C.2.1
  unfold pf_found at hpf
  refine lv_aload_n hx hb dX10_found_0 rfl (lv_at hl 0 rfl) ?_
  refine lv_iconst (v := (0 : Int32)) hx hb dX10_found_1 (by decide) ?_
  refine m_puti C I mInt_0 kM_62 2 dX10_found_2 hpf (fun S1 H locs I hpf => ?_)
  refine lv_iload_n hx hb dX10_found_5 rfl (lv_at hl 1 rfl) ?_
  refine lv_iconst (v := (0 : Int32)) hx hb dX10_found_6 (by decide) ?_
  refine lv_aload_n hx hb dX10_found_7 rfl (lv_at hl 0 rfl) ?_
  refine m_geti C I mInt_52 kM_258 8 dX10_found_8 ?_
  refine lv_iconst (v := (1 : Int32)) hx hb dX10_found_11 (by decide) ?_
  refine lv_isub hx hb dX10_found_12 ?_
  refine m_callS (rest := []) (As := [.int x1, .int (0 : Int32), .int ((S1.1 52) - (1 : Int32))]) C I fn_in (c_in l N x1 (0 : Int32) ((S1.1 52) - (1 : Int32))) (by decide) 13 dX10_found_13 rfl hl.1 rfl (Nat.le_of_ble_eq_true rfl) hpf (fun v2 H locs I hpf => ?_)
  refine b_if_eq hx hb 28 16 dX10_found_16 (by decide) hpf (fun hpf => ?_) (fun hpf => ?_)
  · refine lv_aload_n hx hb dX10_found_28 rfl (lv_at hl 0 rfl) ?_
    refine lv_iconst (v := (1 : Int32)) hx hb dX10_found_29 (by decide) ?_
    refine m_callI (rest := []) (As := [.int (1 : Int32)]) C I fn_fails (c_fails l N (1 : Int32)) (by decide) 30 dX10_found_30 rfl hl.1 rfl (Nat.le_of_ble_eq_true rfl) hpf (fun v3 S4 H locs I hpf => ?_)
    exact m_reti C I hr hz 33 dX10_found_33 hpf
  refine lv_aload_n hx hb dX10_found_19 rfl (lv_at hl 0 rfl) ?_
  refine m_getr C I mRef_53 kM_48 20 dX10_found_20 ?_
  refine lv_iload_n hx hb dX10_found_23 rfl (lv_at hl 1 rfl) ?_
  refine m_iald C I mArr_53 24 dX10_found_24 hpf (fun hpf => ?_)
  refine lv_goto (tgt := 33) hx hb dX10_found_25 (by decide) ?_
  exact m_reti C I hr hz 33 dX10_found_33 hpf
-- ===== live =====
def pf_live_47 (N : Nat) (k_27 : Int32 → Int32 → mS → Option (Int32 × mS)) (t0 : Int32) (t1 : Int32) (x3 : Int32) (S : mS) : Option (Int32 × mS) :=
    nm (t1 + t0) fun y1 =>
    nm (x3 + (1 : Int32)) fun y2 =>
    k_27 y1 y2 S
def pf_live_27 (N : Nat) : Nat → Int32 → Int32 → mS → Option (Int32 × mS)
  | 0 => fun _ _ _ => none
  | n_27 + 1 => fun x2 x3 S =>
    if (48 : Int32) ≤ x3 then (
      some (x2, S))
    else (
      bd (pf_isLive N x3 S) fun v1 S2 =>
      if v1 = (0 : Int32) then (
        pf_live_47 N (pf_live_27 N n_27) (0 : Int32) x2 x3 S2)
      else (
        pf_live_47 N (pf_live_27 N n_27) (1 : Int32) x2 x3 S2))
def pf_live (N : Nat) (x1 : Int32) (S : mS) : Option (Int32 × mS) :=
    sv (mI S 0 (0 : Int32)) fun S1 =>
    bs (pf_isMaster N x1) fun v2 =>
    if v2 = (0 : Int32) then (
      bd (pf_fails N (1 : Int32) S1) fun v5 S6 =>
      some (v5, S6))
    else (
      bd (pf_lays N x1 S1) fun v3 S4 =>
      pf_live_27 N N (0 : Int32) (0 : Int32) S4)

set_option maxRecDepth 100000 in
set_option maxHeartbeats 4000000 in
theorem c_live (l : Launch) (N : Nat) (x1 : Int32) : mMet l yX10_live cX10_live 4 .int 5 [.int x1] (pf_live N x1) := by
  refine mStart (by decide +kernel) rfl (fun h => [(0, .ref h), (1, .int x1)]) (fun _ => Nat.le_of_ble_eq_true rfl) (fun _ => rfl) ?_
  intro dC dI h cI cZ a sz S r Sf hpf p e s m args below meth c C hr hz H locs I ls hl
  have hx := C.1
  have hb := C.2.1
  unfold pf_live at hpf
  have hC_27 : ∀ (n_27 : Nat), ∀ (x2 : Int32) (x3 : Int32) (S : mS) (H : Heap) (locs : List Loc), mV dC dI h cI cZ a s S H locs → ∀ ls : Array Slot, lv_has ls 4 [(0, .ref h), (2, .int x2), (3, .int x3)] → pf_live_27 N n_27 x2 x3 S = some (r, Sf) → W p l e (mRm 5) s m args below meth c H locs 0 0 (MQ below (mQ dC dI h cI cZ a sz r Sf) args s 0 0 (mAt h cI cZ a sz)) (F0 m 27 ls []) := by
    intro n_27
    induction n_27 with
    | zero =>
      intro x2 x3 S H locs I ls hl hpf
      rw [pf_live_27] at hpf
      cases hpf
    | succ n_27 ih_27 =>
      have hC_47 : ∀ (t0 : Int32) (t1 : Int32) (x3 : Int32) (S : mS) (H : Heap) (locs : List Loc), mV dC dI h cI cZ a s S H locs → ∀ ls : Array Slot, lv_has ls 4 [(0, .ref h), (3, .int x3)] → pf_live_47 N (pf_live_27 N n_27) t0 t1 x3 S = some (r, Sf) → W p l e (mRm 5) s m args below meth c H locs 0 0 (MQ below (mQ dC dI h cI cZ a sz r Sf) args s 0 0 (mAt h cI cZ a sz)) (F0 m 47 ls [.int t0, .int t1]) := by
        intro t0 t1 x3 S H locs I ls hl hpf
        unfold pf_live_47 at hpf
        refine lv_iadd hx hb dX10_live_47 ?_
        refine m_isto_n hx hb (fun y1 => [(2, .int y1), (0, .ref h), (3, .int x3)]) 48 dX10_live_48 rfl hl (by decide) (fun _ => rfl) hpf (fun y1 ls hl hpf => ?_)
        refine m_iinc (w := (1 : Int32)) hx hb (fun y2 => [(3, .int y2), (2, .int y1), (0, .ref h)]) 49 dX10_live_49 hl (k := 2) rfl (by decide) (by decide) (fun _ => rfl) hpf (fun y2 ls hl hpf => ?_)
        refine lv_goto (tgt := 27) hx hb dX10_live_52 (by decide) ?_
        exact ih_27 y1 y2 S H locs I ls (lv_sub hl [2, 1, 0] rfl) hpf
      intro x2 x3 S H locs I ls hl hpf
      rw [pf_live_27] at hpf
      refine lv_iload_n hx hb dX10_live_27 rfl (lv_at hl 2 rfl) ?_
      refine lv_bipush (v := (48 : Int32)) hx hb dX10_live_28 (by decide) ?_
      refine b_icmp_ge hx hb 55 30 dX10_live_30 (by decide) hpf (fun hpf => ?_) (fun hpf => ?_)
      · refine lv_iload_n hx hb dX10_live_55 rfl (lv_at hl 1 rfl) ?_
        exact m_reti C I hr hz 56 dX10_live_56 hpf
      refine lv_iload_n hx hb dX10_live_33 rfl (lv_at hl 1 rfl) ?_
      refine lv_aload_n hx hb dX10_live_34 rfl (lv_at hl 0 rfl) ?_
      refine lv_iload_n hx hb dX10_live_35 rfl (lv_at hl 2 rfl) ?_
      refine m_callI (rest := [.int x2]) (As := [.int x3]) C I fn_isLive (c_isLive l N x3) (by decide) 36 dX10_live_36 rfl hl.1 rfl (Nat.le_of_ble_eq_true rfl) hpf (fun v1 S2 H locs I hpf => ?_)
      refine b_if_eq hx hb 46 39 dX10_live_39 (by decide) hpf (fun hpf => ?_) (fun hpf => ?_)
      · refine lv_iconst (v := (0 : Int32)) hx hb dX10_live_46 (by decide) ?_
        exact hC_47 (0 : Int32) x2 x3 S2 H locs I ls (lv_sub hl [0, 2] rfl) hpf
      refine lv_iconst (v := (1 : Int32)) hx hb dX10_live_42 (by decide) ?_
      refine lv_goto (tgt := 47) hx hb dX10_live_43 (by decide) ?_
      exact hC_47 (1 : Int32) x2 x3 S2 H locs I ls (lv_sub hl [0, 2] rfl) hpf
  refine lv_aload_n hx hb dX10_live_0 rfl (lv_at hl 0 rfl) ?_
  refine lv_iconst (v := (0 : Int32)) hx hb dX10_live_1 (by decide) ?_
  refine m_puti C I mInt_0 kM_62 2 dX10_live_2 hpf (fun S1 H locs I hpf => ?_)
  refine lv_iload_n hx hb dX10_live_5 rfl (lv_at hl 1 rfl) ?_
  refine m_callS (rest := []) (As := [.int x1]) C I fn_isMaster (c_isMaster l N x1) (by decide) 6 dX10_live_6 rfl hl.1 rfl (Nat.le_of_ble_eq_true rfl) hpf (fun v2 H locs I hpf => ?_)
  refine b_if_ne hx hb 18 9 dX10_live_9 (by decide) hpf (fun hpf => ?_) (fun hpf => ?_)
  · refine lv_aload_n hx hb dX10_live_18 rfl (lv_at hl 0 rfl) ?_
    refine lv_iload_n hx hb dX10_live_19 rfl (lv_at hl 1 rfl) ?_
    refine m_callV (rest := []) (As := [.int x1]) C I fn_lays (c_lays l N x1) (by decide) 20 dX10_live_20 rfl hl.1 rfl (Nat.le_of_ble_eq_true rfl) hpf (fun v3 S4 H locs I hpf => ?_)
    refine lv_iconst (v := (0 : Int32)) hx hb dX10_live_23 (by decide) ?_
    refine lv_istore_n (lv' := [(2, .int (0 : Int32)), (0, .ref h), (1, .int x1)]) hx hb dX10_live_24 rfl hl (by decide) rfl (fun ls hl => ?_)
    refine lv_iconst (v := (0 : Int32)) hx hb dX10_live_25 (by decide) ?_
    refine lv_istore_n (lv' := [(3, .int (0 : Int32)), (2, .int (0 : Int32)), (0, .ref h), (1, .int x1)]) hx hb dX10_live_26 rfl hl (by decide) rfl (fun ls hl => ?_)
    exact hC_27 N (0 : Int32) (0 : Int32) S4 H locs I ls (lv_sub hl [2, 1, 0] rfl) hpf
  refine lv_aload_n hx hb dX10_live_12 rfl (lv_at hl 0 rfl) ?_
  refine lv_iconst (v := (1 : Int32)) hx hb dX10_live_13 (by decide) ?_
  refine m_callI (rest := []) (As := [.int (1 : Int32)]) C I fn_fails (c_fails l N (1 : Int32)) (by decide) 14 dX10_live_14 rfl hl.1 rfl (Nat.le_of_ble_eq_true rfl) hpf (fun v5 S6 H locs I hpf => ?_)
  exact m_reti C I hr hz 17 dX10_live_17 hpf
-- ===== parentOf =====
def pf_parentOf (N : Nat) (x1 : Int32) (x2 : Int32) (S : mS) : Option (Int32 × mS) :=
    sv (mI S 0 (0 : Int32)) fun S1 =>
    bd (pf_isAt N x1 x2 S1) fun v2 S3 =>
    if v2 = (0 : Int32) then (
      bd (pf_fails N (1 : Int32) S3) fun v4 S5 =>
      some (v4, S5))
    else (
      gd x2 48 <|
      some (S3.2 45 x2.toNatClampNeg, S3))

set_option maxRecDepth 100000 in
set_option maxHeartbeats 4000000 in
theorem c_parentOf (l : Launch) (N : Nat) (x1 : Int32) (x2 : Int32) : mMet l yX10_parentOf cX10_parentOf 3 .int 6 [.int x1, .int x2] (pf_parentOf N x1 x2) := by
  refine mStart (by decide +kernel) rfl (fun h => [(0, .ref h), (1, .int x1), (2, .int x2)]) (fun _ => Nat.le_of_ble_eq_true rfl) (fun _ => rfl) ?_
  intro dC dI h cI cZ a sz S r Sf hpf p e s m args below meth c C hr hz H locs I ls hl
  have hx := C.1
  have hb := C.2.1
  unfold pf_parentOf at hpf
  refine lv_aload_n hx hb dX10_parentOf_0 rfl (lv_at hl 0 rfl) ?_
  refine lv_iconst (v := (0 : Int32)) hx hb dX10_parentOf_1 (by decide) ?_
  refine m_puti C I mInt_0 kM_62 2 dX10_parentOf_2 hpf (fun S1 H locs I hpf => ?_)
  refine lv_aload_n hx hb dX10_parentOf_5 rfl (lv_at hl 0 rfl) ?_
  refine lv_iload_n hx hb dX10_parentOf_6 rfl (lv_at hl 1 rfl) ?_
  refine lv_iload_n hx hb dX10_parentOf_7 rfl (lv_at hl 2 rfl) ?_
  refine m_callI (rest := []) (As := [.int x1, .int x2]) C I fn_isAt (c_isAt l N x1 x2) (by decide) 8 dX10_parentOf_8 rfl hl.1 rfl (Nat.le_of_ble_eq_true rfl) hpf (fun v2 S3 H locs I hpf => ?_)
  refine b_if_eq hx hb 23 11 dX10_parentOf_11 (by decide) hpf (fun hpf => ?_) (fun hpf => ?_)
  · refine lv_aload_n hx hb dX10_parentOf_23 rfl (lv_at hl 0 rfl) ?_
    refine lv_iconst (v := (1 : Int32)) hx hb dX10_parentOf_24 (by decide) ?_
    refine m_callI (rest := []) (As := [.int (1 : Int32)]) C I fn_fails (c_fails l N (1 : Int32)) (by decide) 25 dX10_parentOf_25 rfl hl.1 rfl (Nat.le_of_ble_eq_true rfl) hpf (fun v4 S5 H locs I hpf => ?_)
    exact m_reti C I hr hz 28 dX10_parentOf_28 hpf
  refine lv_aload_n hx hb dX10_parentOf_14 rfl (lv_at hl 0 rfl) ?_
  refine m_getr C I mRef_45 kM_42 15 dX10_parentOf_15 ?_
  refine lv_iload_n hx hb dX10_parentOf_18 rfl (lv_at hl 2 rfl) ?_
  refine m_iald C I mArr_45 19 dX10_parentOf_19 hpf (fun hpf => ?_)
  refine lv_goto (tgt := 28) hx hb dX10_parentOf_20 (by decide) ?_
  exact m_reti C I hr hz 28 dX10_parentOf_28 hpf
-- ===== parentAnew =====
def pf_parentAnew (N : Nat) (x1 : Int32) (x2 : Int32) (S : mS) : Option (Int32 × mS) :=
    sv (mI S 0 (0 : Int32)) fun S1 =>
    bd (pf_isAt N x1 x2 S1) fun v2 S3 =>
    if v2 = (0 : Int32) then (
      bd (pf_fails N (1 : Int32) S3) fun v4 S5 =>
      some (v4, S5))
    else (
      gd x2 48 <|
      some (S3.2 45 x2.toNatClampNeg, S3))

set_option maxRecDepth 100000 in
set_option maxHeartbeats 4000000 in
theorem c_parentAnew (l : Launch) (N : Nat) (x1 : Int32) (x2 : Int32) : mMet l yX10_parentAnew cX10_parentAnew 3 .int 6 [.int x1, .int x2] (pf_parentAnew N x1 x2) := by
  refine mStart (by decide +kernel) rfl (fun h => [(0, .ref h), (1, .int x1), (2, .int x2)]) (fun _ => Nat.le_of_ble_eq_true rfl) (fun _ => rfl) ?_
  intro dC dI h cI cZ a sz S r Sf hpf p e s m args below meth c C hr hz H locs I ls hl
  have hx := C.1
  have hb := C.2.1
  unfold pf_parentAnew at hpf
  refine lv_aload_n hx hb dX10_parentAnew_0 rfl (lv_at hl 0 rfl) ?_
  refine lv_iconst (v := (0 : Int32)) hx hb dX10_parentAnew_1 (by decide) ?_
  refine m_puti C I mInt_0 kM_62 2 dX10_parentAnew_2 hpf (fun S1 H locs I hpf => ?_)
  refine lv_aload_n hx hb dX10_parentAnew_5 rfl (lv_at hl 0 rfl) ?_
  refine lv_iload_n hx hb dX10_parentAnew_6 rfl (lv_at hl 1 rfl) ?_
  refine lv_iload_n hx hb dX10_parentAnew_7 rfl (lv_at hl 2 rfl) ?_
  refine m_callI (rest := []) (As := [.int x1, .int x2]) C I fn_isAt (c_isAt l N x1 x2) (by decide) 8 dX10_parentAnew_8 rfl hl.1 rfl (Nat.le_of_ble_eq_true rfl) hpf (fun v2 S3 H locs I hpf => ?_)
  refine b_if_eq hx hb 23 11 dX10_parentAnew_11 (by decide) hpf (fun hpf => ?_) (fun hpf => ?_)
  · refine lv_aload_n hx hb dX10_parentAnew_23 rfl (lv_at hl 0 rfl) ?_
    refine lv_iconst (v := (1 : Int32)) hx hb dX10_parentAnew_24 (by decide) ?_
    refine m_callI (rest := []) (As := [.int (1 : Int32)]) C I fn_fails (c_fails l N (1 : Int32)) (by decide) 25 dX10_parentAnew_25 rfl hl.1 rfl (Nat.le_of_ble_eq_true rfl) hpf (fun v4 S5 H locs I hpf => ?_)
    exact m_reti C I hr hz 28 dX10_parentAnew_28 hpf
  refine lv_aload_n hx hb dX10_parentAnew_14 rfl (lv_at hl 0 rfl) ?_
  refine m_getr C I mRef_45 kM_42 15 dX10_parentAnew_15 ?_
  refine lv_iload_n hx hb dX10_parentAnew_18 rfl (lv_at hl 2 rfl) ?_
  refine m_iald C I mArr_45 19 dX10_parentAnew_19 hpf (fun hpf => ?_)
  refine lv_goto (tgt := 28) hx hb dX10_parentAnew_20 (by decide) ?_
  exact m_reti C I hr hz 28 dX10_parentAnew_28 hpf
-- ===== nameOf =====
def pf_nameOf (N : Nat) (x1 : Int32) (x2 : Int32) (S : mS) : Option (Int32 × mS) :=
    sv (mI S 0 (0 : Int32)) fun S1 =>
    bd (pf_isAt N x1 x2 S1) fun v2 S3 =>
    if v2 = (0 : Int32) then (
      bd (pf_fails N (1 : Int32) S3) fun v4 S5 =>
      some (v4, S5))
    else (
      gd x2 48 <|
      some (S3.2 46 x2.toNatClampNeg, S3))

set_option maxRecDepth 100000 in
set_option maxHeartbeats 4000000 in
theorem c_nameOf (l : Launch) (N : Nat) (x1 : Int32) (x2 : Int32) : mMet l yX10_nameOf cX10_nameOf 3 .int 6 [.int x1, .int x2] (pf_nameOf N x1 x2) := by
  refine mStart (by decide +kernel) rfl (fun h => [(0, .ref h), (1, .int x1), (2, .int x2)]) (fun _ => Nat.le_of_ble_eq_true rfl) (fun _ => rfl) ?_
  intro dC dI h cI cZ a sz S r Sf hpf p e s m args below meth c C hr hz H locs I ls hl
  have hx := C.1
  have hb := C.2.1
  unfold pf_nameOf at hpf
  refine lv_aload_n hx hb dX10_nameOf_0 rfl (lv_at hl 0 rfl) ?_
  refine lv_iconst (v := (0 : Int32)) hx hb dX10_nameOf_1 (by decide) ?_
  refine m_puti C I mInt_0 kM_62 2 dX10_nameOf_2 hpf (fun S1 H locs I hpf => ?_)
  refine lv_aload_n hx hb dX10_nameOf_5 rfl (lv_at hl 0 rfl) ?_
  refine lv_iload_n hx hb dX10_nameOf_6 rfl (lv_at hl 1 rfl) ?_
  refine lv_iload_n hx hb dX10_nameOf_7 rfl (lv_at hl 2 rfl) ?_
  refine m_callI (rest := []) (As := [.int x1, .int x2]) C I fn_isAt (c_isAt l N x1 x2) (by decide) 8 dX10_nameOf_8 rfl hl.1 rfl (Nat.le_of_ble_eq_true rfl) hpf (fun v2 S3 H locs I hpf => ?_)
  refine b_if_eq hx hb 23 11 dX10_nameOf_11 (by decide) hpf (fun hpf => ?_) (fun hpf => ?_)
  · refine lv_aload_n hx hb dX10_nameOf_23 rfl (lv_at hl 0 rfl) ?_
    refine lv_iconst (v := (1 : Int32)) hx hb dX10_nameOf_24 (by decide) ?_
    refine m_callI (rest := []) (As := [.int (1 : Int32)]) C I fn_fails (c_fails l N (1 : Int32)) (by decide) 25 dX10_nameOf_25 rfl hl.1 rfl (Nat.le_of_ble_eq_true rfl) hpf (fun v4 S5 H locs I hpf => ?_)
    exact m_reti C I hr hz 28 dX10_nameOf_28 hpf
  refine lv_aload_n hx hb dX10_nameOf_14 rfl (lv_at hl 0 rfl) ?_
  refine m_getr C I mRef_46 kM_43 15 dX10_nameOf_15 ?_
  refine lv_iload_n hx hb dX10_nameOf_18 rfl (lv_at hl 2 rfl) ?_
  refine m_iald C I mArr_46 19 dX10_nameOf_19 hpf (fun hpf => ?_)
  refine lv_goto (tgt := 28) hx hb dX10_nameOf_20 (by decide) ?_
  exact m_reti C I hr hz 28 dX10_nameOf_28 hpf
-- ===== valueAt =====
def pf_valueAt_27 (N : Nat) (S : mS) : Option (Int32 × mS) :=
    bd (pf_fails N (1 : Int32) S) fun v1 S2 =>
    some (v1, S2)
def pf_valueAt_160 (N : Nat) (x5 : Int32) (S : mS) : Option (Int32 × mS) :=
    if x5 = (1000 : Int32) then (
      some ((-1 : Int32), S))
    else (
      some (x5, S))
def pf_valueAt_150 (N : Nat) (k_39 : Int32 → Int32 → Int32 → Int32 → Int32 → mS → Option (Int32 × mS)) (x2 : Int32) (x3 : Int32) (x4 : Int32) (x6 : Int32) (x7 : Int32) (S : mS) : Option (Int32 × mS) :=
    nm (x6 + (1 : Int32)) fun y1 =>
    k_39 x2 x3 x4 x7 y1 S
def pf_valueAt_142 (N : Nat) (k_63 : Int32 → Int32 → Int32 → Int32 → Int32 → Int32 → Int32 → mS → Option (Int32 × mS)) (t0 : Int32) (x2 : Int32) (x3 : Int32) (x4 : Int32) (x5 : Int32) (x6 : Int32) (x8 : Int32) (S : mS) : Option (Int32 × mS) :=
    nm (x8 + (1 : Int32)) fun y1 =>
    k_63 x2 x3 x4 x5 x6 t0 y1 S
def pf_valueAt_123 (N : Nat) (k_63 : Int32 → Int32 → Int32 → Int32 → Int32 → Int32 → Int32 → mS → Option (Int32 × mS)) (t0 : Int32) (x2 : Int32) (x3 : Int32) (x4 : Int32) (x5 : Int32) (x6 : Int32) (x7 : Int32) (x8 : Int32) (S : mS) : Option (Int32 × mS) :=
    if t0 = (0 : Int32) then (
      pf_valueAt_142 N k_63 x7 x2 x3 x4 x5 x6 x8 S)
    else (
      gd x8 900 <|
      pf_valueAt_142 N k_63 (S.2 50 x8.toNatClampNeg) x2 x3 x4 x5 x6 x8 S)
def pf_valueAt_63 (N : Nat) (k_150 : Int32 → Int32 → Int32 → Int32 → Int32 → mS → Option (Int32 × mS)) : Nat → Int32 → Int32 → Int32 → Int32 → Int32 → Int32 → Int32 → mS → Option (Int32 × mS)
  | 0 => fun _ _ _ _ _ _ _ _ => none
  | n_63 + 1 => fun x2 x3 x4 x5 x6 x7 x8 S =>
    if (S.1 47) ≤ x8 then (
      k_150 x2 x3 x4 x6 x7 S)
    else (
      gd x8 900 <|
      if (S.2 48 x8.toNatClampNeg) = x2 then (
        gd x8 900 <|
        if (S.2 49 x8.toNatClampNeg) = x3 then (
          gd x8 900 <|
          if (S.2 50 x8.toNatClampNeg) ≤ x5 then (
            pf_valueAt_123 N (pf_valueAt_63 N k_150 n_63) (0 : Int32) x2 x3 x4 x5 x6 x7 x8 S)
          else (
            gd x8 900 <|
            if x7 ≤ (S.2 50 x8.toNatClampNeg) then (
              pf_valueAt_123 N (pf_valueAt_63 N k_150 n_63) (0 : Int32) x2 x3 x4 x5 x6 x7 x8 S)
            else (
              pf_valueAt_123 N (pf_valueAt_63 N k_150 n_63) (1 : Int32) x2 x3 x4 x5 x6 x7 x8 S)))
        else (
          pf_valueAt_123 N (pf_valueAt_63 N k_150 n_63) (0 : Int32) x2 x3 x4 x5 x6 x7 x8 S))
      else (
        pf_valueAt_123 N (pf_valueAt_63 N k_150 n_63) (0 : Int32) x2 x3 x4 x5 x6 x7 x8 S))
def pf_valueAt_39 (N : Nat) (k_160 : Int32 → mS → Option (Int32 × mS)) : Nat → Int32 → Int32 → Int32 → Int32 → Int32 → mS → Option (Int32 × mS)
  | 0 => fun _ _ _ _ _ _ => none
  | n_39 + 1 => fun x2 x3 x4 x5 x6 S =>
    if x4 < x6 then (
      k_160 x5 S)
    else (
      if (S.1 47) < x6 then (
        k_160 x5 S)
      else (
        pf_valueAt_63 N (pf_valueAt_150 N (pf_valueAt_39 N k_160 n_39)) N x2 x3 x4 x5 x6 (1000 : Int32) (0 : Int32) S))
def pf_valueAt (N : Nat) (x1 : Int32) (x2 : Int32) (x3 : Int32) (x4 : Int32) (S : mS) : Option (Int32 × mS) :=
    sv (mI S 0 (0 : Int32)) fun S1 =>
    bd (pf_isAt N x1 x2 S1) fun v2 S3 =>
    if v2 = (0 : Int32) then (
      pf_valueAt_27 N S3)
    else (
      bd (pf_isAttribute N x3 S3) fun v4 S5 =>
      if v4 = (0 : Int32) then (
        pf_valueAt_27 N S5)
      else (
        if (0 : Int32) ≤ x4 then (
          pf_valueAt_39 N (pf_valueAt_160 N) N x2 x3 x4 (-1 : Int32) (0 : Int32) S5)
        else (
          pf_valueAt_27 N S5)))

set_option maxRecDepth 100000 in
set_option maxHeartbeats 4000000 in
theorem c_valueAt (l : Launch) (N : Nat) (x1 : Int32) (x2 : Int32) (x3 : Int32) (x4 : Int32) : mMet l yX10_valueAt cX10_valueAt 10 .int 6 [.int x1, .int x2, .int x3, .int x4] (pf_valueAt N x1 x2 x3 x4) := by
  refine mStart (by decide +kernel) rfl (fun h => [(0, .ref h), (1, .int x1), (2, .int x2), (3, .int x3), (4, .int x4)]) (fun _ => Nat.le_of_ble_eq_true rfl) (fun _ => rfl) ?_
  intro dC dI h cI cZ a sz S r Sf hpf p e s m args below meth c C hr hz H locs I ls hl
  have hx := C.1
  have hb := C.2.1
  unfold pf_valueAt at hpf
  have hC_27 : ∀ (S : mS) (H : Heap) (locs : List Loc), mV dC dI h cI cZ a s S H locs → ∀ ls : Array Slot, lv_has ls 10 [(0, .ref h)] → pf_valueAt_27 N S = some (r, Sf) → W p l e (mRm 6) s m args below meth c H locs 0 0 (MQ below (mQ dC dI h cI cZ a sz r Sf) args s 0 0 (mAt h cI cZ a sz)) (F0 m 27 ls []) := by
    intro S H locs I ls hl hpf
    unfold pf_valueAt_27 at hpf
    refine lv_aload_n hx hb dX10_valueAt_27 rfl (lv_at hl 0 rfl) ?_
    refine lv_iconst (v := (1 : Int32)) hx hb dX10_valueAt_28 (by decide) ?_
    refine m_callI (rest := []) (As := [.int (1 : Int32)]) C I fn_fails (c_fails l N (1 : Int32)) (by decide) 29 dX10_valueAt_29 rfl hl.1 rfl (Nat.le_of_ble_eq_true rfl) hpf (fun v1 S2 H locs I hpf => ?_)
    exact m_reti C I hr hz 32 dX10_valueAt_32 hpf
  have hC_160 : ∀ (x5 : Int32) (S : mS) (H : Heap) (locs : List Loc), mV dC dI h cI cZ a s S H locs → ∀ ls : Array Slot, lv_has ls 10 [(0, .ref h), (5, .int x5)] → pf_valueAt_160 N x5 S = some (r, Sf) → W p l e (mRm 6) s m args below meth c H locs 0 0 (MQ below (mQ dC dI h cI cZ a sz r Sf) args s 0 0 (mAt h cI cZ a sz)) (F0 m 160 ls []) := by
    intro x5 S H locs I ls hl hpf
    unfold pf_valueAt_160 at hpf
    refine lv_iload hx hb dX10_valueAt_160 (lv_at hl 1 rfl) ?_
    refine lv_sipush (v := (1000 : Int32)) hx hb dX10_valueAt_162 (by decide) ?_
    refine b_icmp_ne hx hb 172 165 dX10_valueAt_165 (by decide) hpf (fun hpf => ?_) (fun hpf => ?_)
    · refine lv_iload hx hb dX10_valueAt_172 (lv_at hl 1 rfl) ?_
      exact m_reti C I hr hz 174 dX10_valueAt_174 hpf
    refine lv_iconst (v := (-1 : Int32)) hx hb dX10_valueAt_168 (by decide) ?_
    refine lv_goto (tgt := 174) hx hb dX10_valueAt_169 (by decide) ?_
    exact m_reti C I hr hz 174 dX10_valueAt_174 hpf
  have hC_39 : ∀ (n_39 : Nat), ∀ (x2 : Int32) (x3 : Int32) (x4 : Int32) (x5 : Int32) (x6 : Int32) (S : mS) (H : Heap) (locs : List Loc), mV dC dI h cI cZ a s S H locs → ∀ ls : Array Slot, lv_has ls 10 [(0, .ref h), (2, .int x2), (3, .int x3), (4, .int x4), (5, .int x5), (6, .int x6)] → pf_valueAt_39 N (pf_valueAt_160 N) n_39 x2 x3 x4 x5 x6 S = some (r, Sf) → W p l e (mRm 6) s m args below meth c H locs 0 0 (MQ below (mQ dC dI h cI cZ a sz r Sf) args s 0 0 (mAt h cI cZ a sz)) (F0 m 39 ls []) := by
    intro n_39
    induction n_39 with
    | zero =>
      intro x2 x3 x4 x5 x6 S H locs I ls hl hpf
      rw [pf_valueAt_39] at hpf
      cases hpf
    | succ n_39 ih_39 =>
      have hC_150 : ∀ (x2 : Int32) (x3 : Int32) (x4 : Int32) (x6 : Int32) (x7 : Int32) (S : mS) (H : Heap) (locs : List Loc), mV dC dI h cI cZ a s S H locs → ∀ ls : Array Slot, lv_has ls 10 [(0, .ref h), (2, .int x2), (3, .int x3), (4, .int x4), (6, .int x6), (7, .int x7)] → pf_valueAt_150 N (pf_valueAt_39 N (pf_valueAt_160 N) n_39) x2 x3 x4 x6 x7 S = some (r, Sf) → W p l e (mRm 6) s m args below meth c H locs 0 0 (MQ below (mQ dC dI h cI cZ a sz r Sf) args s 0 0 (mAt h cI cZ a sz)) (F0 m 150 ls []) := by
        intro x2 x3 x4 x6 x7 S H locs I ls hl hpf
        unfold pf_valueAt_150 at hpf
        refine lv_iload hx hb dX10_valueAt_150 (lv_at hl 5 rfl) ?_
        refine lv_istore (lv' := [(5, .int x7), (0, .ref h), (2, .int x2), (3, .int x3), (4, .int x4), (6, .int x6), (7, .int x7)]) hx hb dX10_valueAt_152 hl (by decide) rfl (fun ls hl => ?_)
        refine m_iinc (w := (1 : Int32)) hx hb (fun y1 => [(6, .int y1), (5, .int x7), (0, .ref h), (2, .int x2), (3, .int x3), (4, .int x4), (7, .int x7)]) 154 dX10_valueAt_154 hl (k := 5) rfl (by decide) (by decide) (fun _ => rfl) hpf (fun y1 ls hl hpf => ?_)
        refine lv_goto (tgt := 39) hx hb dX10_valueAt_157 (by decide) ?_
        exact ih_39 x2 x3 x4 x7 y1 S H locs I ls (lv_sub hl [2, 3, 4, 5, 1, 0] rfl) hpf
      have hC_63 : ∀ (n_63 : Nat), ∀ (x2 : Int32) (x3 : Int32) (x4 : Int32) (x5 : Int32) (x6 : Int32) (x7 : Int32) (x8 : Int32) (S : mS) (H : Heap) (locs : List Loc), mV dC dI h cI cZ a s S H locs → ∀ ls : Array Slot, lv_has ls 10 [(0, .ref h), (2, .int x2), (3, .int x3), (4, .int x4), (5, .int x5), (6, .int x6), (7, .int x7), (8, .int x8)] → pf_valueAt_63 N (pf_valueAt_150 N (pf_valueAt_39 N (pf_valueAt_160 N) n_39)) n_63 x2 x3 x4 x5 x6 x7 x8 S = some (r, Sf) → W p l e (mRm 6) s m args below meth c H locs 0 0 (MQ below (mQ dC dI h cI cZ a sz r Sf) args s 0 0 (mAt h cI cZ a sz)) (F0 m 63 ls []) := by
        intro n_63
        induction n_63 with
        | zero =>
          intro x2 x3 x4 x5 x6 x7 x8 S H locs I ls hl hpf
          rw [pf_valueAt_63] at hpf
          cases hpf
        | succ n_63 ih_63 =>
          have hC_142 : ∀ (t0 : Int32) (x2 : Int32) (x3 : Int32) (x4 : Int32) (x5 : Int32) (x6 : Int32) (x8 : Int32) (S : mS) (H : Heap) (locs : List Loc), mV dC dI h cI cZ a s S H locs → ∀ ls : Array Slot, lv_has ls 10 [(0, .ref h), (2, .int x2), (3, .int x3), (4, .int x4), (5, .int x5), (6, .int x6), (8, .int x8)] → pf_valueAt_142 N (pf_valueAt_63 N (pf_valueAt_150 N (pf_valueAt_39 N (pf_valueAt_160 N) n_39)) n_63) t0 x2 x3 x4 x5 x6 x8 S = some (r, Sf) → W p l e (mRm 6) s m args below meth c H locs 0 0 (MQ below (mQ dC dI h cI cZ a sz r Sf) args s 0 0 (mAt h cI cZ a sz)) (F0 m 142 ls [.int t0]) := by
            intro t0 x2 x3 x4 x5 x6 x8 S H locs I ls hl hpf
            unfold pf_valueAt_142 at hpf
            refine lv_istore (lv' := [(7, .int t0), (0, .ref h), (2, .int x2), (3, .int x3), (4, .int x4), (5, .int x5), (6, .int x6), (8, .int x8)]) hx hb dX10_valueAt_142 hl (by decide) rfl (fun ls hl => ?_)
            refine m_iinc (w := (1 : Int32)) hx hb (fun y1 => [(8, .int y1), (7, .int t0), (0, .ref h), (2, .int x2), (3, .int x3), (4, .int x4), (5, .int x5), (6, .int x6)]) 144 dX10_valueAt_144 hl (k := 7) rfl (by decide) (by decide) (fun _ => rfl) hpf (fun y1 ls hl hpf => ?_)
            refine lv_goto (tgt := 63) hx hb dX10_valueAt_147 (by decide) ?_
            exact ih_63 x2 x3 x4 x5 x6 t0 y1 S H locs I ls (lv_sub hl [2, 3, 4, 5, 6, 7, 1, 0] rfl) hpf
          have hC_123 : ∀ (t0 : Int32) (x2 : Int32) (x3 : Int32) (x4 : Int32) (x5 : Int32) (x6 : Int32) (x7 : Int32) (x8 : Int32) (S : mS) (H : Heap) (locs : List Loc), mV dC dI h cI cZ a s S H locs → ∀ ls : Array Slot, lv_has ls 10 [(0, .ref h), (2, .int x2), (3, .int x3), (4, .int x4), (5, .int x5), (6, .int x6), (7, .int x7), (8, .int x8)] → pf_valueAt_123 N (pf_valueAt_63 N (pf_valueAt_150 N (pf_valueAt_39 N (pf_valueAt_160 N) n_39)) n_63) t0 x2 x3 x4 x5 x6 x7 x8 S = some (r, Sf) → W p l e (mRm 6) s m args below meth c H locs 0 0 (MQ below (mQ dC dI h cI cZ a sz r Sf) args s 0 0 (mAt h cI cZ a sz)) (F0 m 123 ls [.int t0]) := by
            intro t0 x2 x3 x4 x5 x6 x7 x8 S H locs I ls hl hpf
            unfold pf_valueAt_123 at hpf
            refine lv_istore (lv' := [(9, .int t0), (0, .ref h), (2, .int x2), (3, .int x3), (4, .int x4), (5, .int x5), (6, .int x6), (7, .int x7), (8, .int x8)]) hx hb dX10_valueAt_123 hl (by decide) rfl (fun ls hl => ?_)
            refine lv_iload hx hb dX10_valueAt_125 (lv_at hl 0 rfl) ?_
            refine b_if_eq hx hb 140 127 dX10_valueAt_127 (by decide) hpf (fun hpf => ?_) (fun hpf => ?_)
            · refine lv_iload hx hb dX10_valueAt_140 (lv_at hl 7 rfl) ?_
              exact hC_142 x7 x2 x3 x4 x5 x6 x8 S H locs I ls (lv_sub hl [1, 2, 3, 4, 5, 6, 8] rfl) hpf
            refine lv_aload_n hx hb dX10_valueAt_130 rfl (lv_at hl 1 rfl) ?_
            refine m_getr C I mRef_50 kM_46 131 dX10_valueAt_131 ?_
            refine lv_iload hx hb dX10_valueAt_134 (lv_at hl 8 rfl) ?_
            refine m_iald C I mArr_50 136 dX10_valueAt_136 hpf (fun hpf => ?_)
            refine lv_goto (tgt := 142) hx hb dX10_valueAt_137 (by decide) ?_
            exact hC_142 (S.2 50 x8.toNatClampNeg) x2 x3 x4 x5 x6 x8 S H locs I ls (lv_sub hl [1, 2, 3, 4, 5, 6, 8] rfl) hpf
          intro x2 x3 x4 x5 x6 x7 x8 S H locs I ls hl hpf
          rw [pf_valueAt_63] at hpf
          refine lv_iload hx hb dX10_valueAt_63 (lv_at hl 7 rfl) ?_
          refine lv_aload_n hx hb dX10_valueAt_65 rfl (lv_at hl 0 rfl) ?_
          refine m_geti C I mInt_47 kM_77 66 dX10_valueAt_66 ?_
          refine b_icmp_ge hx hb 150 69 dX10_valueAt_69 (by decide) hpf (fun hpf => ?_) (fun hpf => ?_)
          · exact hC_150 x2 x3 x4 x6 x7 S H locs I ls (lv_sub hl [0, 1, 2, 3, 5, 6] rfl) hpf
          refine lv_aload_n hx hb dX10_valueAt_72 rfl (lv_at hl 0 rfl) ?_
          refine m_getr C I mRef_48 kM_44 73 dX10_valueAt_73 ?_
          refine lv_iload hx hb dX10_valueAt_76 (lv_at hl 7 rfl) ?_
          refine m_iald C I mArr_48 78 dX10_valueAt_78 hpf (fun hpf => ?_)
          refine lv_iload_n hx hb dX10_valueAt_79 rfl (lv_at hl 1 rfl) ?_
          refine b_icmp_ne hx hb 122 80 dX10_valueAt_80 (by decide) hpf (fun hpf => ?_) (fun hpf => ?_)
          · refine lv_iconst (v := (0 : Int32)) hx hb dX10_valueAt_122 (by decide) ?_
            exact hC_123 (0 : Int32) x2 x3 x4 x5 x6 x7 x8 S H locs I ls (lv_sub hl [0, 1, 2, 3, 4, 5, 6, 7] rfl) hpf
          refine lv_aload_n hx hb dX10_valueAt_83 rfl (lv_at hl 0 rfl) ?_
          refine m_getr C I mRef_49 kM_45 84 dX10_valueAt_84 ?_
          refine lv_iload hx hb dX10_valueAt_87 (lv_at hl 7 rfl) ?_
          refine m_iald C I mArr_49 89 dX10_valueAt_89 hpf (fun hpf => ?_)
          refine lv_iload_n hx hb dX10_valueAt_90 rfl (lv_at hl 2 rfl) ?_
          refine b_icmp_ne hx hb 122 91 dX10_valueAt_91 (by decide) hpf (fun hpf => ?_) (fun hpf => ?_)
          · refine lv_iconst (v := (0 : Int32)) hx hb dX10_valueAt_122 (by decide) ?_
            exact hC_123 (0 : Int32) x2 x3 x4 x5 x6 x7 x8 S H locs I ls (lv_sub hl [0, 1, 2, 3, 4, 5, 6, 7] rfl) hpf
          refine lv_aload_n hx hb dX10_valueAt_94 rfl (lv_at hl 0 rfl) ?_
          refine m_getr C I mRef_50 kM_46 95 dX10_valueAt_95 ?_
          refine lv_iload hx hb dX10_valueAt_98 (lv_at hl 7 rfl) ?_
          refine m_iald C I mArr_50 100 dX10_valueAt_100 hpf (fun hpf => ?_)
          refine lv_iload hx hb dX10_valueAt_101 (lv_at hl 4 rfl) ?_
          refine b_icmp_le hx hb 122 103 dX10_valueAt_103 (by decide) hpf (fun hpf => ?_) (fun hpf => ?_)
          · refine lv_iconst (v := (0 : Int32)) hx hb dX10_valueAt_122 (by decide) ?_
            exact hC_123 (0 : Int32) x2 x3 x4 x5 x6 x7 x8 S H locs I ls (lv_sub hl [0, 1, 2, 3, 4, 5, 6, 7] rfl) hpf
          refine lv_aload_n hx hb dX10_valueAt_106 rfl (lv_at hl 0 rfl) ?_
          refine m_getr C I mRef_50 kM_46 107 dX10_valueAt_107 ?_
          refine lv_iload hx hb dX10_valueAt_110 (lv_at hl 7 rfl) ?_
          refine m_iald C I mArr_50 112 dX10_valueAt_112 hpf (fun hpf => ?_)
          refine lv_iload hx hb dX10_valueAt_113 (lv_at hl 6 rfl) ?_
          refine b_icmp_ge hx hb 122 115 dX10_valueAt_115 (by decide) hpf (fun hpf => ?_) (fun hpf => ?_)
          · refine lv_iconst (v := (0 : Int32)) hx hb dX10_valueAt_122 (by decide) ?_
            exact hC_123 (0 : Int32) x2 x3 x4 x5 x6 x7 x8 S H locs I ls (lv_sub hl [0, 1, 2, 3, 4, 5, 6, 7] rfl) hpf
          refine lv_iconst (v := (1 : Int32)) hx hb dX10_valueAt_118 (by decide) ?_
          refine lv_goto (tgt := 123) hx hb dX10_valueAt_119 (by decide) ?_
          exact hC_123 (1 : Int32) x2 x3 x4 x5 x6 x7 x8 S H locs I ls (lv_sub hl [0, 1, 2, 3, 4, 5, 6, 7] rfl) hpf
      intro x2 x3 x4 x5 x6 S H locs I ls hl hpf
      rw [pf_valueAt_39] at hpf
      refine lv_iload hx hb dX10_valueAt_39 (lv_at hl 5 rfl) ?_
      refine lv_iload hx hb dX10_valueAt_41 (lv_at hl 3 rfl) ?_
      refine b_icmp_gt hx hb 160 43 dX10_valueAt_43 (by decide) hpf (fun hpf => ?_) (fun hpf => ?_)
      · exact hC_160 x5 S H locs I ls (lv_sub hl [0, 4] rfl) hpf
      refine lv_iload hx hb dX10_valueAt_46 (lv_at hl 5 rfl) ?_
      refine lv_aload_n hx hb dX10_valueAt_48 rfl (lv_at hl 0 rfl) ?_
      refine m_geti C I mInt_47 kM_77 49 dX10_valueAt_49 ?_
      refine b_icmp_gt hx hb 160 52 dX10_valueAt_52 (by decide) hpf (fun hpf => ?_) (fun hpf => ?_)
      · exact hC_160 x5 S H locs I ls (lv_sub hl [0, 4] rfl) hpf
      refine lv_sipush (v := (1000 : Int32)) hx hb dX10_valueAt_55 (by decide) ?_
      refine lv_istore (lv' := [(7, .int (1000 : Int32)), (0, .ref h), (2, .int x2), (3, .int x3), (4, .int x4), (5, .int x5), (6, .int x6)]) hx hb dX10_valueAt_58 hl (by decide) rfl (fun ls hl => ?_)
      refine lv_iconst (v := (0 : Int32)) hx hb dX10_valueAt_60 (by decide) ?_
      refine lv_istore (lv' := [(8, .int (0 : Int32)), (7, .int (1000 : Int32)), (0, .ref h), (2, .int x2), (3, .int x3), (4, .int x4), (5, .int x5), (6, .int x6)]) hx hb dX10_valueAt_61 hl (by decide) rfl (fun ls hl => ?_)
      exact hC_63 N x2 x3 x4 x5 x6 (1000 : Int32) (0 : Int32) S H locs I ls (lv_sub hl [2, 3, 4, 5, 6, 7, 1, 0] rfl) hpf
  refine lv_aload_n hx hb dX10_valueAt_0 rfl (lv_at hl 0 rfl) ?_
  refine lv_iconst (v := (0 : Int32)) hx hb dX10_valueAt_1 (by decide) ?_
  refine m_puti C I mInt_0 kM_62 2 dX10_valueAt_2 hpf (fun S1 H locs I hpf => ?_)
  refine lv_aload_n hx hb dX10_valueAt_5 rfl (lv_at hl 0 rfl) ?_
  refine lv_iload_n hx hb dX10_valueAt_6 rfl (lv_at hl 1 rfl) ?_
  refine lv_iload_n hx hb dX10_valueAt_7 rfl (lv_at hl 2 rfl) ?_
  refine m_callI (rest := []) (As := [.int x1, .int x2]) C I fn_isAt (c_isAt l N x1 x2) (by decide) 8 dX10_valueAt_8 rfl hl.1 rfl (Nat.le_of_ble_eq_true rfl) hpf (fun v2 S3 H locs I hpf => ?_)
  refine b_if_eq hx hb 27 11 dX10_valueAt_11 (by decide) hpf (fun hpf => ?_) (fun hpf => ?_)
  · exact hC_27 S3 H locs I ls (lv_sub hl [0] rfl) hpf
  refine lv_aload_n hx hb dX10_valueAt_14 rfl (lv_at hl 0 rfl) ?_
  refine lv_iload_n hx hb dX10_valueAt_15 rfl (lv_at hl 3 rfl) ?_
  refine m_callI (rest := []) (As := [.int x3]) C I fn_isAttribute (c_isAttribute l N x3) (by decide) 16 dX10_valueAt_16 rfl hl.1 rfl (Nat.le_of_ble_eq_true rfl) hpf (fun v4 S5 H locs I hpf => ?_)
  refine b_if_eq hx hb 27 19 dX10_valueAt_19 (by decide) hpf (fun hpf => ?_) (fun hpf => ?_)
  · exact hC_27 S5 H locs I ls (lv_sub hl [0] rfl) hpf
  refine lv_iload hx hb dX10_valueAt_22 (lv_at hl 4 rfl) ?_
  refine b_if_ge hx hb 33 24 dX10_valueAt_24 (by decide) hpf (fun hpf => ?_) (fun hpf => ?_)
  · refine lv_iconst (v := (-1 : Int32)) hx hb dX10_valueAt_33 (by decide) ?_
    refine lv_istore (lv' := [(5, .int (-1 : Int32)), (0, .ref h), (1, .int x1), (2, .int x2), (3, .int x3), (4, .int x4)]) hx hb dX10_valueAt_34 hl (by decide) rfl (fun ls hl => ?_)
    refine lv_iconst (v := (0 : Int32)) hx hb dX10_valueAt_36 (by decide) ?_
    refine lv_istore (lv' := [(6, .int (0 : Int32)), (5, .int (-1 : Int32)), (0, .ref h), (1, .int x1), (2, .int x2), (3, .int x3), (4, .int x4)]) hx hb dX10_valueAt_37 hl (by decide) rfl (fun ls hl => ?_)
    exact hC_39 N x2 x3 x4 (-1 : Int32) (0 : Int32) S5 H locs I ls (lv_sub hl [2, 4, 5, 6, 1, 0] rfl) hpf
  exact hC_27 S5 H locs I ls (lv_sub hl [0] rfl) hpf
-- ===== valuesAnew =====
def pf_valuesAnew_31 (N : Nat) (S : mS) : Option (Int32 × mS) :=
    bd (pf_fails N (1 : Int32) S) fun v1 S2 =>
    some (v1, S2)
def pf_valuesAnew (N : Nat) (x1 : Int32) (x2 : Int32) (x3 : Int32) (S : mS) : Option (Int32 × mS) :=
    sv (mI S 0 (0 : Int32)) fun S1 =>
    bd (pf_isAt N x1 x2 S1) fun v2 S3 =>
    if v2 = (0 : Int32) then (
      pf_valuesAnew_31 N S3)
    else (
      bd (pf_isAttribute N x3 S3) fun v4 S5 =>
      if v4 = (0 : Int32) then (
        pf_valuesAnew_31 N S5)
      else (
        bd (pf_countOf N x2 x3 S5) fun v6 S7 =>
        some (v6, S7)))

set_option maxRecDepth 100000 in
set_option maxHeartbeats 4000000 in
theorem c_valuesAnew (l : Launch) (N : Nat) (x1 : Int32) (x2 : Int32) (x3 : Int32) : mMet l yX10_valuesAnew cX10_valuesAnew 4 .int 6 [.int x1, .int x2, .int x3] (pf_valuesAnew N x1 x2 x3) := by
  refine mStart (by decide +kernel) rfl (fun h => [(0, .ref h), (1, .int x1), (2, .int x2), (3, .int x3)]) (fun _ => Nat.le_of_ble_eq_true rfl) (fun _ => rfl) ?_
  intro dC dI h cI cZ a sz S r Sf hpf p e s m args below meth c C hr hz H locs I ls hl
  have hx := C.1
  have hb := C.2.1
  unfold pf_valuesAnew at hpf
  have hC_31 : ∀ (S : mS) (H : Heap) (locs : List Loc), mV dC dI h cI cZ a s S H locs → ∀ ls : Array Slot, lv_has ls 4 [(0, .ref h)] → pf_valuesAnew_31 N S = some (r, Sf) → W p l e (mRm 6) s m args below meth c H locs 0 0 (MQ below (mQ dC dI h cI cZ a sz r Sf) args s 0 0 (mAt h cI cZ a sz)) (F0 m 31 ls []) := by
    intro S H locs I ls hl hpf
    unfold pf_valuesAnew_31 at hpf
    refine lv_aload_n hx hb dX10_valuesAnew_31 rfl (lv_at hl 0 rfl) ?_
    refine lv_iconst (v := (1 : Int32)) hx hb dX10_valuesAnew_32 (by decide) ?_
    refine m_callI (rest := []) (As := [.int (1 : Int32)]) C I fn_fails (c_fails l N (1 : Int32)) (by decide) 33 dX10_valuesAnew_33 rfl hl.1 rfl (Nat.le_of_ble_eq_true rfl) hpf (fun v1 S2 H locs I hpf => ?_)
    exact m_reti C I hr hz 36 dX10_valuesAnew_36 hpf
  refine lv_aload_n hx hb dX10_valuesAnew_0 rfl (lv_at hl 0 rfl) ?_
  refine lv_iconst (v := (0 : Int32)) hx hb dX10_valuesAnew_1 (by decide) ?_
  refine m_puti C I mInt_0 kM_62 2 dX10_valuesAnew_2 hpf (fun S1 H locs I hpf => ?_)
  refine lv_aload_n hx hb dX10_valuesAnew_5 rfl (lv_at hl 0 rfl) ?_
  refine lv_iload_n hx hb dX10_valuesAnew_6 rfl (lv_at hl 1 rfl) ?_
  refine lv_iload_n hx hb dX10_valuesAnew_7 rfl (lv_at hl 2 rfl) ?_
  refine m_callI (rest := []) (As := [.int x1, .int x2]) C I fn_isAt (c_isAt l N x1 x2) (by decide) 8 dX10_valuesAnew_8 rfl hl.1 rfl (Nat.le_of_ble_eq_true rfl) hpf (fun v2 S3 H locs I hpf => ?_)
  refine b_if_eq hx hb 31 11 dX10_valuesAnew_11 (by decide) hpf (fun hpf => ?_) (fun hpf => ?_)
  · exact hC_31 S3 H locs I ls (lv_sub hl [0] rfl) hpf
  refine lv_aload_n hx hb dX10_valuesAnew_14 rfl (lv_at hl 0 rfl) ?_
  refine lv_iload_n hx hb dX10_valuesAnew_15 rfl (lv_at hl 3 rfl) ?_
  refine m_callI (rest := []) (As := [.int x3]) C I fn_isAttribute (c_isAttribute l N x3) (by decide) 16 dX10_valuesAnew_16 rfl hl.1 rfl (Nat.le_of_ble_eq_true rfl) hpf (fun v4 S5 H locs I hpf => ?_)
  refine b_if_eq hx hb 31 19 dX10_valuesAnew_19 (by decide) hpf (fun hpf => ?_) (fun hpf => ?_)
  · exact hC_31 S5 H locs I ls (lv_sub hl [0] rfl) hpf
  refine lv_aload_n hx hb dX10_valuesAnew_22 rfl (lv_at hl 0 rfl) ?_
  refine lv_iload_n hx hb dX10_valuesAnew_23 rfl (lv_at hl 2 rfl) ?_
  refine lv_iload_n hx hb dX10_valuesAnew_24 rfl (lv_at hl 3 rfl) ?_
  refine m_callI (rest := []) (As := [.int x2, .int x3]) C I fn_countOf (c_countOf l N x2 x3) (by decide) 25 dX10_valuesAnew_25 rfl hl.1 rfl (Nat.le_of_ble_eq_true rfl) hpf (fun v6 S7 H locs I hpf => ?_)
  refine lv_goto (tgt := 36) hx hb dX10_valuesAnew_28 (by decide) ?_
  exact m_reti C I hr hz 36 dX10_valuesAnew_36 hpf
-- ===== linkOf =====
def pf_linkOf (N : Nat) (x1 : Int32) (x2 : Int32) (S : mS) : Option (Int32 × mS) :=
    sv (mI S 0 (0 : Int32)) fun S1 =>
    bd (pf_isAt N x1 x2 S1) fun v2 S3 =>
    if v2 = (0 : Int32) then (
      bd (pf_fails N (1 : Int32) S3) fun v4 S5 =>
      some (v4, S5))
    else (
      gd x2 48 <|
      some (S3.2 43 x2.toNatClampNeg, S3))

set_option maxRecDepth 100000 in
set_option maxHeartbeats 4000000 in
theorem c_linkOf (l : Launch) (N : Nat) (x1 : Int32) (x2 : Int32) : mMet l yX10_linkOf cX10_linkOf 3 .int 6 [.int x1, .int x2] (pf_linkOf N x1 x2) := by
  refine mStart (by decide +kernel) rfl (fun h => [(0, .ref h), (1, .int x1), (2, .int x2)]) (fun _ => Nat.le_of_ble_eq_true rfl) (fun _ => rfl) ?_
  intro dC dI h cI cZ a sz S r Sf hpf p e s m args below meth c C hr hz H locs I ls hl
  have hx := C.1
  have hb := C.2.1
  unfold pf_linkOf at hpf
  refine lv_aload_n hx hb dX10_linkOf_0 rfl (lv_at hl 0 rfl) ?_
  refine lv_iconst (v := (0 : Int32)) hx hb dX10_linkOf_1 (by decide) ?_
  refine m_puti C I mInt_0 kM_62 2 dX10_linkOf_2 hpf (fun S1 H locs I hpf => ?_)
  refine lv_aload_n hx hb dX10_linkOf_5 rfl (lv_at hl 0 rfl) ?_
  refine lv_iload_n hx hb dX10_linkOf_6 rfl (lv_at hl 1 rfl) ?_
  refine lv_iload_n hx hb dX10_linkOf_7 rfl (lv_at hl 2 rfl) ?_
  refine m_callI (rest := []) (As := [.int x1, .int x2]) C I fn_isAt (c_isAt l N x1 x2) (by decide) 8 dX10_linkOf_8 rfl hl.1 rfl (Nat.le_of_ble_eq_true rfl) hpf (fun v2 S3 H locs I hpf => ?_)
  refine b_if_eq hx hb 23 11 dX10_linkOf_11 (by decide) hpf (fun hpf => ?_) (fun hpf => ?_)
  · refine lv_aload_n hx hb dX10_linkOf_23 rfl (lv_at hl 0 rfl) ?_
    refine lv_iconst (v := (1 : Int32)) hx hb dX10_linkOf_24 (by decide) ?_
    refine m_callI (rest := []) (As := [.int (1 : Int32)]) C I fn_fails (c_fails l N (1 : Int32)) (by decide) 25 dX10_linkOf_25 rfl hl.1 rfl (Nat.le_of_ble_eq_true rfl) hpf (fun v4 S5 H locs I hpf => ?_)
    exact m_reti C I hr hz 28 dX10_linkOf_28 hpf
  refine lv_aload_n hx hb dX10_linkOf_14 rfl (lv_at hl 0 rfl) ?_
  refine m_getr C I mRef_43 kM_40 15 dX10_linkOf_15 ?_
  refine lv_iload_n hx hb dX10_linkOf_18 rfl (lv_at hl 2 rfl) ?_
  refine m_iald C I mArr_43 19 dX10_linkOf_19 hpf (fun hpf => ?_)
  refine lv_goto (tgt := 28) hx hb dX10_linkOf_20 (by decide) ?_
  exact m_reti C I hr hz 28 dX10_linkOf_28 hpf
-- ===== may =====
def pf_may_34 (N : Nat) (t0 : Int32) (x2 : Int32) (x3 : Int32) (x4 : Int32) (S : mS) : Option (Int32 × mS) :=
    sv (mI S 0 t0) fun S1 =>
    if (S1.1 0) = (0 : Int32) then (
      bd (pf_mayDo N x2 x3 x4 S1) fun v2 S3 =>
      if v2 = (0 : Int32) then (
        some ((0 : Int32), S3))
      else (
        some ((1 : Int32), S3)))
    else (
      some ((0 : Int32), S1))
def pf_may (N : Nat) (x1 : Int32) (x2 : Int32) (x3 : Int32) (x4 : Int32) (S : mS) : Option (Int32 × mS) :=
    bd (pf_isAt N x1 x3 S) fun v1 S2 =>
    if v1 = (0 : Int32) then (
      pf_may_34 N (1 : Int32) x2 x3 x4 S2)
    else (
      bs (pf_in N x2 (0 : Int32) (5 : Int32)) fun v3 =>
      if v3 = (0 : Int32) then (
        pf_may_34 N (1 : Int32) x2 x3 x4 S2)
      else (
        bs (pf_in N x4 (0 : Int32) (1 : Int32)) fun v4 =>
        if v4 = (0 : Int32) then (
          pf_may_34 N (1 : Int32) x2 x3 x4 S2)
        else (
          pf_may_34 N (0 : Int32) x2 x3 x4 S2)))

set_option maxRecDepth 100000 in
set_option maxHeartbeats 4000000 in
theorem c_may (l : Launch) (N : Nat) (x1 : Int32) (x2 : Int32) (x3 : Int32) (x4 : Int32) : mMet l yX10_may cX10_may 5 .boolean 6 [.int x1, .int x2, .int x3, .int x4] (pf_may N x1 x2 x3 x4) := by
  refine mStart (by decide +kernel) rfl (fun h => [(0, .ref h), (1, .int x1), (2, .int x2), (3, .int x3), (4, .int x4)]) (fun _ => Nat.le_of_ble_eq_true rfl) (fun _ => rfl) ?_
  intro dC dI h cI cZ a sz S r Sf hpf p e s m args below meth c C hr hz H locs I ls hl
  have hx := C.1
  have hb := C.2.1
  unfold pf_may at hpf
  have hC_34 : ∀ (t0 : Int32) (x2 : Int32) (x3 : Int32) (x4 : Int32) (S : mS) (H : Heap) (locs : List Loc), mV dC dI h cI cZ a s S H locs → ∀ ls : Array Slot, lv_has ls 5 [(0, .ref h), (2, .int x2), (3, .int x3), (4, .int x4)] → pf_may_34 N t0 x2 x3 x4 S = some (r, Sf) → W p l e (mRm 6) s m args below meth c H locs 0 0 (MQ below (mQ dC dI h cI cZ a sz r Sf) args s 0 0 (mAt h cI cZ a sz)) (F0 m 34 ls [.int t0, .ref h]) := by
    intro t0 x2 x3 x4 S H locs I ls hl hpf
    unfold pf_may_34 at hpf
    refine m_puti C I mInt_0 kM_62 34 dX10_may_34 hpf (fun S1 H locs I hpf => ?_)
    refine lv_aload_n hx hb dX10_may_37 rfl (lv_at hl 0 rfl) ?_
    refine m_geti C I mInt_0 kM_62 38 dX10_may_38 ?_
    refine b_if_ne hx hb 59 41 dX10_may_41 (by decide) hpf (fun hpf => ?_) (fun hpf => ?_)
    · refine lv_iconst (v := (0 : Int32)) hx hb dX10_may_59 (by decide) ?_
      exact m_retzc C I hr hz 60 dX10_may_60 (by decide) hpf
    refine lv_aload_n hx hb dX10_may_44 rfl (lv_at hl 0 rfl) ?_
    refine lv_iload_n hx hb dX10_may_45 rfl (lv_at hl 1 rfl) ?_
    refine lv_iload_n hx hb dX10_may_46 rfl (lv_at hl 2 rfl) ?_
    refine lv_iload hx hb dX10_may_47 (lv_at hl 3 rfl) ?_
    refine m_callI (rest := []) (As := [.int x2, .int x3, .int x4]) C I fn_mayDo (c_mayDo l N x2 x3 x4) (by decide) 49 dX10_may_49 rfl hl.1 rfl (Nat.le_of_ble_eq_true rfl) hpf (fun v2 S3 H locs I hpf => ?_)
    refine b_if_eq hx hb 59 52 dX10_may_52 (by decide) hpf (fun hpf => ?_) (fun hpf => ?_)
    · refine lv_iconst (v := (0 : Int32)) hx hb dX10_may_59 (by decide) ?_
      exact m_retzc C I hr hz 60 dX10_may_60 (by decide) hpf
    refine lv_iconst (v := (1 : Int32)) hx hb dX10_may_55 (by decide) ?_
    refine lv_goto (tgt := 60) hx hb dX10_may_56 (by decide) ?_
    exact m_retzc C I hr hz 60 dX10_may_60 (by decide) hpf
  refine lv_aload_n hx hb dX10_may_0 rfl (lv_at hl 0 rfl) ?_
  refine lv_aload_n hx hb dX10_may_1 rfl (lv_at hl 0 rfl) ?_
  refine lv_iload_n hx hb dX10_may_2 rfl (lv_at hl 1 rfl) ?_
  refine lv_iload_n hx hb dX10_may_3 rfl (lv_at hl 3 rfl) ?_
  refine m_callI (rest := [.ref h]) (As := [.int x1, .int x3]) C I fn_isAt (c_isAt l N x1 x3) (by decide) 4 dX10_may_4 rfl hl.1 rfl (Nat.le_of_ble_eq_true rfl) hpf (fun v1 S2 H locs I hpf => ?_)
  refine b_if_eq hx hb 33 7 dX10_may_7 (by decide) hpf (fun hpf => ?_) (fun hpf => ?_)
  · refine lv_iconst (v := (1 : Int32)) hx hb dX10_may_33 (by decide) ?_
    exact hC_34 (1 : Int32) x2 x3 x4 S2 H locs I ls (lv_sub hl [0, 2, 3, 4] rfl) hpf
  refine lv_iload_n hx hb dX10_may_10 rfl (lv_at hl 2 rfl) ?_
  refine lv_iconst (v := (0 : Int32)) hx hb dX10_may_11 (by decide) ?_
  refine lv_iconst (v := (5 : Int32)) hx hb dX10_may_12 (by decide) ?_
  refine m_callS (rest := [.ref h]) (As := [.int x2, .int (0 : Int32), .int (5 : Int32)]) C I fn_in (c_in l N x2 (0 : Int32) (5 : Int32)) (by decide) 13 dX10_may_13 rfl hl.1 rfl (Nat.le_of_ble_eq_true rfl) hpf (fun v3 H locs I hpf => ?_)
  refine b_if_eq hx hb 33 16 dX10_may_16 (by decide) hpf (fun hpf => ?_) (fun hpf => ?_)
  · refine lv_iconst (v := (1 : Int32)) hx hb dX10_may_33 (by decide) ?_
    exact hC_34 (1 : Int32) x2 x3 x4 S2 H locs I ls (lv_sub hl [0, 2, 3, 4] rfl) hpf
  refine lv_iload hx hb dX10_may_19 (lv_at hl 4 rfl) ?_
  refine lv_iconst (v := (0 : Int32)) hx hb dX10_may_21 (by decide) ?_
  refine lv_iconst (v := (1 : Int32)) hx hb dX10_may_22 (by decide) ?_
  refine m_callS (rest := [.ref h]) (As := [.int x4, .int (0 : Int32), .int (1 : Int32)]) C I fn_in (c_in l N x4 (0 : Int32) (1 : Int32)) (by decide) 23 dX10_may_23 rfl hl.1 rfl (Nat.le_of_ble_eq_true rfl) hpf (fun v4 H locs I hpf => ?_)
  refine b_if_eq hx hb 33 26 dX10_may_26 (by decide) hpf (fun hpf => ?_) (fun hpf => ?_)
  · refine lv_iconst (v := (1 : Int32)) hx hb dX10_may_33 (by decide) ?_
    exact hC_34 (1 : Int32) x2 x3 x4 S2 H locs I ls (lv_sub hl [0, 2, 3, 4] rfl) hpf
  refine lv_iconst (v := (0 : Int32)) hx hb dX10_may_29 (by decide) ?_
  refine lv_goto (tgt := 34) hx hb dX10_may_30 (by decide) ?_
  exact hC_34 (0 : Int32) x2 x3 x4 S2 H locs I ls (lv_sub hl [0, 2, 3, 4] rfl) hpf
-- ===== childAt =====
def pf_childAt_31 (N : Nat) (S : mS) : Option (Int32 × mS) :=
    bd (pf_fails N (1 : Int32) S) fun v1 S2 =>
    some (v1, S2)
def pf_childAt_182 (N : Nat) (k_51 : Int32 → Int32 → Int32 → Int32 → Int32 → mS → Option (Int32 × mS)) (t0 : Int32) (x2 : Int32) (x3 : Int32) (x4 : Int32) (x6 : Int32) (S : mS) : Option (Int32 × mS) :=
    nm (x6 + (1 : Int32)) fun y1 =>
    k_51 x2 x3 x4 t0 y1 S
def pf_childAt_159 (N : Nat) (k_51 : Int32 → Int32 → Int32 → Int32 → Int32 → mS → Option (Int32 × mS)) (x2 : Int32) (x3 : Int32) (x6 : Int32) (x7 : Int32) (S : mS) : Option (Int32 × mS) :=
    if x7 = (-1 : Int32) then (
      pf_childAt_182 N k_51 (1000 : Int32) x2 x3 x7 x6 S)
    else (
      gd x7 48 <|
      pf_childAt_182 N k_51 (S.2 46 x7.toNatClampNeg) x2 x3 x7 x6 S)
def pf_childAt_151 (N : Nat) (k_70 : Int32 → Int32 → Int32 → Int32 → Int32 → Int32 → mS → Option (Int32 × mS)) (t0 : Int32) (x2 : Int32) (x3 : Int32) (x5 : Int32) (x6 : Int32) (x8 : Int32) (S : mS) : Option (Int32 × mS) :=
    nm (x8 + (1 : Int32)) fun y1 =>
    k_70 x2 x3 x5 x6 t0 y1 S
def pf_childAt_114 (N : Nat) (k_70 : Int32 → Int32 → Int32 → Int32 → Int32 → Int32 → mS → Option (Int32 × mS)) (t0 : Int32) (x2 : Int32) (x3 : Int32) (x5 : Int32) (x6 : Int32) (x7 : Int32) (x8 : Int32) (S : mS) : Option (Int32 × mS) :=
    if t0 = (0 : Int32) then (
      pf_childAt_151 N k_70 x7 x2 x3 x5 x6 x8 S)
    else (
      if x7 = (-1 : Int32) then (
        pf_childAt_151 N k_70 x8 x2 x3 x5 x6 x8 S)
      else (
        gd x8 48 <|
        gd x7 48 <|
        if (S.2 46 x7.toNatClampNeg) ≤ (S.2 46 x8.toNatClampNeg) then (
          pf_childAt_151 N k_70 x7 x2 x3 x5 x6 x8 S)
        else (
          pf_childAt_151 N k_70 x8 x2 x3 x5 x6 x8 S)))
def pf_childAt_70 (N : Nat) (k_159 : Int32 → Int32 → Int32 → Int32 → mS → Option (Int32 × mS)) : Nat → Int32 → Int32 → Int32 → Int32 → Int32 → Int32 → mS → Option (Int32 × mS)
  | 0 => fun _ _ _ _ _ _ _ => none
  | n_70 + 1 => fun x2 x3 x5 x6 x7 x8 S =>
    if (48 : Int32) ≤ x8 then (
      k_159 x2 x3 x6 x7 S)
    else (
      bd (pf_isLive N x8 S) fun v1 S2 =>
      if v1 = (0 : Int32) then (
        pf_childAt_114 N (pf_childAt_70 N k_159 n_70) (0 : Int32) x2 x3 x5 x6 x7 x8 S2)
      else (
        gd x8 48 <|
        if (S2.2 45 x8.toNatClampNeg) = x2 then (
          gd x8 48 <|
          if (S2.2 46 x8.toNatClampNeg) ≤ x5 then (
            pf_childAt_114 N (pf_childAt_70 N k_159 n_70) (0 : Int32) x2 x3 x5 x6 x7 x8 S2)
          else (
            pf_childAt_114 N (pf_childAt_70 N k_159 n_70) (1 : Int32) x2 x3 x5 x6 x7 x8 S2))
        else (
          pf_childAt_114 N (pf_childAt_70 N k_159 n_70) (0 : Int32) x2 x3 x5 x6 x7 x8 S2)))
def pf_childAt_51 (N : Nat) : Nat → Int32 → Int32 → Int32 → Int32 → Int32 → mS → Option (Int32 × mS)
  | 0 => fun _ _ _ _ _ _ => none
  | n_51 + 1 => fun x2 x3 x4 x5 x6 S =>
    if x3 < x6 then (
      some (x4, S))
    else (
      if (48 : Int32) < x6 then (
        some (x4, S))
      else (
        pf_childAt_70 N (pf_childAt_159 N (pf_childAt_51 N n_51)) N x2 x3 x5 x6 (-1 : Int32) (1 : Int32) S))
def pf_childAt_27 (N : Nat) (x1 : Int32) (x2 : Int32) (x3 : Int32) (S : mS) : Option (Int32 × mS) :=
    if (0 : Int32) ≤ x3 then (
      bd (pf_lays N x1 S) fun v1 S2 =>
      pf_childAt_51 N N x2 x3 (-1 : Int32) (-1 : Int32) (0 : Int32) S2)
    else (
      pf_childAt_31 N S)
def pf_childAt (N : Nat) (x1 : Int32) (x2 : Int32) (x3 : Int32) (S : mS) : Option (Int32 × mS) :=
    sv (mI S 0 (0 : Int32)) fun S1 =>
    bs (pf_isMaster N x1) fun v2 =>
    if v2 = (0 : Int32) then (
      pf_childAt_31 N S1)
    else (
      if x2 = (-2 : Int32) then (
        pf_childAt_27 N x1 x2 x3 S1)
      else (
        bd (pf_isAt N x1 x2 S1) fun v3 S4 =>
        if v3 = (0 : Int32) then (
          pf_childAt_31 N S4)
        else (
          pf_childAt_27 N x1 x2 x3 S4)))

set_option maxRecDepth 100000 in
set_option maxHeartbeats 4000000 in
theorem c_childAt (l : Launch) (N : Nat) (x1 : Int32) (x2 : Int32) (x3 : Int32) : mMet l yX10_childAt cX10_childAt 10 .int 6 [.int x1, .int x2, .int x3] (pf_childAt N x1 x2 x3) := by
  refine mStart (by decide +kernel) rfl (fun h => [(0, .ref h), (1, .int x1), (2, .int x2), (3, .int x3)]) (fun _ => Nat.le_of_ble_eq_true rfl) (fun _ => rfl) ?_
  intro dC dI h cI cZ a sz S r Sf hpf p e s m args below meth c C hr hz H locs I ls hl
  have hx := C.1
  have hb := C.2.1
  unfold pf_childAt at hpf
  have hC_31 : ∀ (S : mS) (H : Heap) (locs : List Loc), mV dC dI h cI cZ a s S H locs → ∀ ls : Array Slot, lv_has ls 10 [(0, .ref h)] → pf_childAt_31 N S = some (r, Sf) → W p l e (mRm 6) s m args below meth c H locs 0 0 (MQ below (mQ dC dI h cI cZ a sz r Sf) args s 0 0 (mAt h cI cZ a sz)) (F0 m 31 ls []) := by
    intro S H locs I ls hl hpf
    unfold pf_childAt_31 at hpf
    refine lv_aload_n hx hb dX10_childAt_31 rfl (lv_at hl 0 rfl) ?_
    refine lv_iconst (v := (1 : Int32)) hx hb dX10_childAt_32 (by decide) ?_
    refine m_callI (rest := []) (As := [.int (1 : Int32)]) C I fn_fails (c_fails l N (1 : Int32)) (by decide) 33 dX10_childAt_33 rfl hl.1 rfl (Nat.le_of_ble_eq_true rfl) hpf (fun v1 S2 H locs I hpf => ?_)
    exact m_reti C I hr hz 36 dX10_childAt_36 hpf
  have hC_51 : ∀ (n_51 : Nat), ∀ (x2 : Int32) (x3 : Int32) (x4 : Int32) (x5 : Int32) (x6 : Int32) (S : mS) (H : Heap) (locs : List Loc), mV dC dI h cI cZ a s S H locs → ∀ ls : Array Slot, lv_has ls 10 [(0, .ref h), (2, .int x2), (3, .int x3), (4, .int x4), (5, .int x5), (6, .int x6)] → pf_childAt_51 N n_51 x2 x3 x4 x5 x6 S = some (r, Sf) → W p l e (mRm 6) s m args below meth c H locs 0 0 (MQ below (mQ dC dI h cI cZ a sz r Sf) args s 0 0 (mAt h cI cZ a sz)) (F0 m 51 ls []) := by
    intro n_51
    induction n_51 with
    | zero =>
      intro x2 x3 x4 x5 x6 S H locs I ls hl hpf
      rw [pf_childAt_51] at hpf
      cases hpf
    | succ n_51 ih_51 =>
      have hC_182 : ∀ (t0 : Int32) (x2 : Int32) (x3 : Int32) (x4 : Int32) (x6 : Int32) (S : mS) (H : Heap) (locs : List Loc), mV dC dI h cI cZ a s S H locs → ∀ ls : Array Slot, lv_has ls 10 [(0, .ref h), (2, .int x2), (3, .int x3), (4, .int x4), (6, .int x6)] → pf_childAt_182 N (pf_childAt_51 N n_51) t0 x2 x3 x4 x6 S = some (r, Sf) → W p l e (mRm 6) s m args below meth c H locs 0 0 (MQ below (mQ dC dI h cI cZ a sz r Sf) args s 0 0 (mAt h cI cZ a sz)) (F0 m 182 ls [.int t0]) := by
        intro t0 x2 x3 x4 x6 S H locs I ls hl hpf
        unfold pf_childAt_182 at hpf
        refine lv_istore (lv' := [(5, .int t0), (0, .ref h), (2, .int x2), (3, .int x3), (4, .int x4), (6, .int x6)]) hx hb dX10_childAt_182 hl (by decide) rfl (fun ls hl => ?_)
        refine m_iinc (w := (1 : Int32)) hx hb (fun y1 => [(6, .int y1), (5, .int t0), (0, .ref h), (2, .int x2), (3, .int x3), (4, .int x4)]) 184 dX10_childAt_184 hl (k := 5) rfl (by decide) (by decide) (fun _ => rfl) hpf (fun y1 ls hl hpf => ?_)
        refine lv_goto (tgt := 51) hx hb dX10_childAt_187 (by decide) ?_
        exact ih_51 x2 x3 x4 t0 y1 S H locs I ls (lv_sub hl [2, 3, 4, 5, 1, 0] rfl) hpf
      have hC_159 : ∀ (x2 : Int32) (x3 : Int32) (x6 : Int32) (x7 : Int32) (S : mS) (H : Heap) (locs : List Loc), mV dC dI h cI cZ a s S H locs → ∀ ls : Array Slot, lv_has ls 10 [(0, .ref h), (2, .int x2), (3, .int x3), (6, .int x6), (7, .int x7)] → pf_childAt_159 N (pf_childAt_51 N n_51) x2 x3 x6 x7 S = some (r, Sf) → W p l e (mRm 6) s m args below meth c H locs 0 0 (MQ below (mQ dC dI h cI cZ a sz r Sf) args s 0 0 (mAt h cI cZ a sz)) (F0 m 159 ls []) := by
        intro x2 x3 x6 x7 S H locs I ls hl hpf
        unfold pf_childAt_159 at hpf
        refine lv_iload hx hb dX10_childAt_159 (lv_at hl 4 rfl) ?_
        refine lv_istore (lv' := [(4, .int x7), (0, .ref h), (2, .int x2), (3, .int x3), (6, .int x6), (7, .int x7)]) hx hb dX10_childAt_161 hl (by decide) rfl (fun ls hl => ?_)
        refine lv_iload hx hb dX10_childAt_163 (lv_at hl 5 rfl) ?_
        refine lv_iconst (v := (-1 : Int32)) hx hb dX10_childAt_165 (by decide) ?_
        refine b_icmp_ne hx hb 175 166 dX10_childAt_166 (by decide) hpf (fun hpf => ?_) (fun hpf => ?_)
        · refine lv_aload_n hx hb dX10_childAt_175 rfl (lv_at hl 1 rfl) ?_
          refine m_getr C I mRef_46 kM_43 176 dX10_childAt_176 ?_
          refine lv_iload hx hb dX10_childAt_179 (lv_at hl 5 rfl) ?_
          refine m_iald C I mArr_46 181 dX10_childAt_181 hpf (fun hpf => ?_)
          exact hC_182 (S.2 46 x7.toNatClampNeg) x2 x3 x7 x6 S H locs I ls (lv_sub hl [1, 2, 3, 0, 4] rfl) hpf
        refine lv_sipush (v := (1000 : Int32)) hx hb dX10_childAt_169 (by decide) ?_
        refine lv_goto (tgt := 182) hx hb dX10_childAt_172 (by decide) ?_
        exact hC_182 (1000 : Int32) x2 x3 x7 x6 S H locs I ls (lv_sub hl [1, 2, 3, 0, 4] rfl) hpf
      have hC_70 : ∀ (n_70 : Nat), ∀ (x2 : Int32) (x3 : Int32) (x5 : Int32) (x6 : Int32) (x7 : Int32) (x8 : Int32) (S : mS) (H : Heap) (locs : List Loc), mV dC dI h cI cZ a s S H locs → ∀ ls : Array Slot, lv_has ls 10 [(0, .ref h), (2, .int x2), (3, .int x3), (5, .int x5), (6, .int x6), (7, .int x7), (8, .int x8)] → pf_childAt_70 N (pf_childAt_159 N (pf_childAt_51 N n_51)) n_70 x2 x3 x5 x6 x7 x8 S = some (r, Sf) → W p l e (mRm 6) s m args below meth c H locs 0 0 (MQ below (mQ dC dI h cI cZ a sz r Sf) args s 0 0 (mAt h cI cZ a sz)) (F0 m 70 ls []) := by
        intro n_70
        induction n_70 with
        | zero =>
          intro x2 x3 x5 x6 x7 x8 S H locs I ls hl hpf
          rw [pf_childAt_70] at hpf
          cases hpf
        | succ n_70 ih_70 =>
          have hC_151 : ∀ (t0 : Int32) (x2 : Int32) (x3 : Int32) (x5 : Int32) (x6 : Int32) (x8 : Int32) (S : mS) (H : Heap) (locs : List Loc), mV dC dI h cI cZ a s S H locs → ∀ ls : Array Slot, lv_has ls 10 [(0, .ref h), (2, .int x2), (3, .int x3), (5, .int x5), (6, .int x6), (8, .int x8)] → pf_childAt_151 N (pf_childAt_70 N (pf_childAt_159 N (pf_childAt_51 N n_51)) n_70) t0 x2 x3 x5 x6 x8 S = some (r, Sf) → W p l e (mRm 6) s m args below meth c H locs 0 0 (MQ below (mQ dC dI h cI cZ a sz r Sf) args s 0 0 (mAt h cI cZ a sz)) (F0 m 151 ls [.int t0]) := by
            intro t0 x2 x3 x5 x6 x8 S H locs I ls hl hpf
            unfold pf_childAt_151 at hpf
            refine lv_istore (lv' := [(7, .int t0), (0, .ref h), (2, .int x2), (3, .int x3), (5, .int x5), (6, .int x6), (8, .int x8)]) hx hb dX10_childAt_151 hl (by decide) rfl (fun ls hl => ?_)
            refine m_iinc (w := (1 : Int32)) hx hb (fun y1 => [(8, .int y1), (7, .int t0), (0, .ref h), (2, .int x2), (3, .int x3), (5, .int x5), (6, .int x6)]) 153 dX10_childAt_153 hl (k := 6) rfl (by decide) (by decide) (fun _ => rfl) hpf (fun y1 ls hl hpf => ?_)
            refine lv_goto (tgt := 70) hx hb dX10_childAt_156 (by decide) ?_
            exact ih_70 x2 x3 x5 x6 t0 y1 S H locs I ls (lv_sub hl [2, 3, 4, 5, 6, 1, 0] rfl) hpf
          have hC_114 : ∀ (t0 : Int32) (x2 : Int32) (x3 : Int32) (x5 : Int32) (x6 : Int32) (x7 : Int32) (x8 : Int32) (S : mS) (H : Heap) (locs : List Loc), mV dC dI h cI cZ a s S H locs → ∀ ls : Array Slot, lv_has ls 10 [(0, .ref h), (2, .int x2), (3, .int x3), (5, .int x5), (6, .int x6), (7, .int x7), (8, .int x8)] → pf_childAt_114 N (pf_childAt_70 N (pf_childAt_159 N (pf_childAt_51 N n_51)) n_70) t0 x2 x3 x5 x6 x7 x8 S = some (r, Sf) → W p l e (mRm 6) s m args below meth c H locs 0 0 (MQ below (mQ dC dI h cI cZ a sz r Sf) args s 0 0 (mAt h cI cZ a sz)) (F0 m 114 ls [.int t0]) := by
            intro t0 x2 x3 x5 x6 x7 x8 S H locs I ls hl hpf
            unfold pf_childAt_114 at hpf
            refine lv_istore (lv' := [(9, .int t0), (0, .ref h), (2, .int x2), (3, .int x3), (5, .int x5), (6, .int x6), (7, .int x7), (8, .int x8)]) hx hb dX10_childAt_114 hl (by decide) rfl (fun ls hl => ?_)
            refine lv_iload hx hb dX10_childAt_116 (lv_at hl 0 rfl) ?_
            refine b_if_eq hx hb 149 118 dX10_childAt_118 (by decide) hpf (fun hpf => ?_) (fun hpf => ?_)
            · refine lv_iload hx hb dX10_childAt_149 (lv_at hl 6 rfl) ?_
              exact hC_151 x7 x2 x3 x5 x6 x8 S H locs I ls (lv_sub hl [1, 2, 3, 4, 5, 7] rfl) hpf
            refine lv_iload hx hb dX10_childAt_121 (lv_at hl 6 rfl) ?_
            refine lv_iconst (v := (-1 : Int32)) hx hb dX10_childAt_123 (by decide) ?_
            refine b_icmp_eq hx hb 144 124 dX10_childAt_124 (by decide) hpf (fun hpf => ?_) (fun hpf => ?_)
            · refine lv_iload hx hb dX10_childAt_144 (lv_at hl 7 rfl) ?_
              refine lv_goto (tgt := 151) hx hb dX10_childAt_146 (by decide) ?_
              exact hC_151 x8 x2 x3 x5 x6 x8 S H locs I ls (lv_sub hl [1, 2, 3, 4, 5, 7] rfl) hpf
            refine lv_aload_n hx hb dX10_childAt_127 rfl (lv_at hl 1 rfl) ?_
            refine m_getr C I mRef_46 kM_43 128 dX10_childAt_128 ?_
            refine lv_iload hx hb dX10_childAt_131 (lv_at hl 7 rfl) ?_
            refine m_iald C I mArr_46 133 dX10_childAt_133 hpf (fun hpf => ?_)
            refine lv_aload_n hx hb dX10_childAt_134 rfl (lv_at hl 1 rfl) ?_
            refine m_getr C I mRef_46 kM_43 135 dX10_childAt_135 ?_
            refine lv_iload hx hb dX10_childAt_138 (lv_at hl 6 rfl) ?_
            refine m_iald C I mArr_46 140 dX10_childAt_140 hpf (fun hpf => ?_)
            refine b_icmp_ge hx hb 149 141 dX10_childAt_141 (by decide) hpf (fun hpf => ?_) (fun hpf => ?_)
            · refine lv_iload hx hb dX10_childAt_149 (lv_at hl 6 rfl) ?_
              exact hC_151 x7 x2 x3 x5 x6 x8 S H locs I ls (lv_sub hl [1, 2, 3, 4, 5, 7] rfl) hpf
            refine lv_iload hx hb dX10_childAt_144 (lv_at hl 7 rfl) ?_
            refine lv_goto (tgt := 151) hx hb dX10_childAt_146 (by decide) ?_
            exact hC_151 x8 x2 x3 x5 x6 x8 S H locs I ls (lv_sub hl [1, 2, 3, 4, 5, 7] rfl) hpf
          intro x2 x3 x5 x6 x7 x8 S H locs I ls hl hpf
          rw [pf_childAt_70] at hpf
          refine lv_iload hx hb dX10_childAt_70 (lv_at hl 6 rfl) ?_
          refine lv_bipush (v := (48 : Int32)) hx hb dX10_childAt_72 (by decide) ?_
          refine b_icmp_ge hx hb 159 74 dX10_childAt_74 (by decide) hpf (fun hpf => ?_) (fun hpf => ?_)
          · exact hC_159 x2 x3 x6 x7 S H locs I ls (lv_sub hl [0, 1, 2, 4, 5] rfl) hpf
          refine lv_aload_n hx hb dX10_childAt_77 rfl (lv_at hl 0 rfl) ?_
          refine lv_iload hx hb dX10_childAt_78 (lv_at hl 6 rfl) ?_
          refine m_callI (rest := []) (As := [.int x8]) C I fn_isLive (c_isLive l N x8) (by decide) 80 dX10_childAt_80 rfl hl.1 rfl (Nat.le_of_ble_eq_true rfl) hpf (fun v1 S2 H locs I hpf => ?_)
          refine b_if_eq hx hb 113 83 dX10_childAt_83 (by decide) hpf (fun hpf => ?_) (fun hpf => ?_)
          · refine lv_iconst (v := (0 : Int32)) hx hb dX10_childAt_113 (by decide) ?_
            exact hC_114 (0 : Int32) x2 x3 x5 x6 x7 x8 S2 H locs I ls (lv_sub hl [0, 1, 2, 3, 4, 5, 6] rfl) hpf
          refine lv_aload_n hx hb dX10_childAt_86 rfl (lv_at hl 0 rfl) ?_
          refine m_getr C I mRef_45 kM_42 87 dX10_childAt_87 ?_
          refine lv_iload hx hb dX10_childAt_90 (lv_at hl 6 rfl) ?_
          refine m_iald C I mArr_45 92 dX10_childAt_92 hpf (fun hpf => ?_)
          refine lv_iload_n hx hb dX10_childAt_93 rfl (lv_at hl 1 rfl) ?_
          refine b_icmp_ne hx hb 113 94 dX10_childAt_94 (by decide) hpf (fun hpf => ?_) (fun hpf => ?_)
          · refine lv_iconst (v := (0 : Int32)) hx hb dX10_childAt_113 (by decide) ?_
            exact hC_114 (0 : Int32) x2 x3 x5 x6 x7 x8 S2 H locs I ls (lv_sub hl [0, 1, 2, 3, 4, 5, 6] rfl) hpf
          refine lv_aload_n hx hb dX10_childAt_97 rfl (lv_at hl 0 rfl) ?_
          refine m_getr C I mRef_46 kM_43 98 dX10_childAt_98 ?_
          refine lv_iload hx hb dX10_childAt_101 (lv_at hl 6 rfl) ?_
          refine m_iald C I mArr_46 103 dX10_childAt_103 hpf (fun hpf => ?_)
          refine lv_iload hx hb dX10_childAt_104 (lv_at hl 3 rfl) ?_
          refine b_icmp_le hx hb 113 106 dX10_childAt_106 (by decide) hpf (fun hpf => ?_) (fun hpf => ?_)
          · refine lv_iconst (v := (0 : Int32)) hx hb dX10_childAt_113 (by decide) ?_
            exact hC_114 (0 : Int32) x2 x3 x5 x6 x7 x8 S2 H locs I ls (lv_sub hl [0, 1, 2, 3, 4, 5, 6] rfl) hpf
          refine lv_iconst (v := (1 : Int32)) hx hb dX10_childAt_109 (by decide) ?_
          refine lv_goto (tgt := 114) hx hb dX10_childAt_110 (by decide) ?_
          exact hC_114 (1 : Int32) x2 x3 x5 x6 x7 x8 S2 H locs I ls (lv_sub hl [0, 1, 2, 3, 4, 5, 6] rfl) hpf
      intro x2 x3 x4 x5 x6 S H locs I ls hl hpf
      rw [pf_childAt_51] at hpf
      refine lv_iload hx hb dX10_childAt_51 (lv_at hl 5 rfl) ?_
      refine lv_iload_n hx hb dX10_childAt_53 rfl (lv_at hl 2 rfl) ?_
      refine b_icmp_gt hx hb 190 54 dX10_childAt_54 (by decide) hpf (fun hpf => ?_) (fun hpf => ?_)
      · refine lv_iload hx hb dX10_childAt_190 (lv_at hl 3 rfl) ?_
        exact m_reti C I hr hz 192 dX10_childAt_192 hpf
      refine lv_iload hx hb dX10_childAt_57 (lv_at hl 5 rfl) ?_
      refine lv_bipush (v := (48 : Int32)) hx hb dX10_childAt_59 (by decide) ?_
      refine b_icmp_gt hx hb 190 61 dX10_childAt_61 (by decide) hpf (fun hpf => ?_) (fun hpf => ?_)
      · refine lv_iload hx hb dX10_childAt_190 (lv_at hl 3 rfl) ?_
        exact m_reti C I hr hz 192 dX10_childAt_192 hpf
      refine lv_iconst (v := (-1 : Int32)) hx hb dX10_childAt_64 (by decide) ?_
      refine lv_istore (lv' := [(7, .int (-1 : Int32)), (0, .ref h), (2, .int x2), (3, .int x3), (4, .int x4), (5, .int x5), (6, .int x6)]) hx hb dX10_childAt_65 hl (by decide) rfl (fun ls hl => ?_)
      refine lv_iconst (v := (1 : Int32)) hx hb dX10_childAt_67 (by decide) ?_
      refine lv_istore (lv' := [(8, .int (1 : Int32)), (7, .int (-1 : Int32)), (0, .ref h), (2, .int x2), (3, .int x3), (4, .int x4), (5, .int x5), (6, .int x6)]) hx hb dX10_childAt_68 hl (by decide) rfl (fun ls hl => ?_)
      exact hC_70 N x2 x3 x5 x6 (-1 : Int32) (1 : Int32) S H locs I ls (lv_sub hl [2, 3, 4, 6, 7, 1, 0] rfl) hpf
  have hC_27 : ∀ (x1 : Int32) (x2 : Int32) (x3 : Int32) (S : mS) (H : Heap) (locs : List Loc), mV dC dI h cI cZ a s S H locs → ∀ ls : Array Slot, lv_has ls 10 [(0, .ref h), (1, .int x1), (2, .int x2), (3, .int x3)] → pf_childAt_27 N x1 x2 x3 S = some (r, Sf) → W p l e (mRm 6) s m args below meth c H locs 0 0 (MQ below (mQ dC dI h cI cZ a sz r Sf) args s 0 0 (mAt h cI cZ a sz)) (F0 m 27 ls []) := by
    intro x1 x2 x3 S H locs I ls hl hpf
    unfold pf_childAt_27 at hpf
    refine lv_iload_n hx hb dX10_childAt_27 rfl (lv_at hl 3 rfl) ?_
    refine b_if_ge hx hb 37 28 dX10_childAt_28 (by decide) hpf (fun hpf => ?_) (fun hpf => ?_)
    · refine lv_aload_n hx hb dX10_childAt_37 rfl (lv_at hl 0 rfl) ?_
      refine lv_iload_n hx hb dX10_childAt_38 rfl (lv_at hl 1 rfl) ?_
      refine m_callV (rest := []) (As := [.int x1]) C I fn_lays (c_lays l N x1) (by decide) 39 dX10_childAt_39 rfl hl.1 rfl (Nat.le_of_ble_eq_true rfl) hpf (fun v1 S2 H locs I hpf => ?_)
      refine lv_iconst (v := (-1 : Int32)) hx hb dX10_childAt_42 (by decide) ?_
      refine lv_istore (lv' := [(4, .int (-1 : Int32)), (0, .ref h), (1, .int x1), (2, .int x2), (3, .int x3)]) hx hb dX10_childAt_43 hl (by decide) rfl (fun ls hl => ?_)
      refine lv_iconst (v := (-1 : Int32)) hx hb dX10_childAt_45 (by decide) ?_
      refine lv_istore (lv' := [(5, .int (-1 : Int32)), (4, .int (-1 : Int32)), (0, .ref h), (1, .int x1), (2, .int x2), (3, .int x3)]) hx hb dX10_childAt_46 hl (by decide) rfl (fun ls hl => ?_)
      refine lv_iconst (v := (0 : Int32)) hx hb dX10_childAt_48 (by decide) ?_
      refine lv_istore (lv' := [(6, .int (0 : Int32)), (5, .int (-1 : Int32)), (4, .int (-1 : Int32)), (0, .ref h), (1, .int x1), (2, .int x2), (3, .int x3)]) hx hb dX10_childAt_49 hl (by decide) rfl (fun ls hl => ?_)
      exact hC_51 N x2 x3 (-1 : Int32) (-1 : Int32) (0 : Int32) S2 H locs I ls (lv_sub hl [3, 5, 6, 2, 1, 0] rfl) hpf
    exact hC_31 S H locs I ls (lv_sub hl [0] rfl) hpf
  refine lv_aload_n hx hb dX10_childAt_0 rfl (lv_at hl 0 rfl) ?_
  refine lv_iconst (v := (0 : Int32)) hx hb dX10_childAt_1 (by decide) ?_
  refine m_puti C I mInt_0 kM_62 2 dX10_childAt_2 hpf (fun S1 H locs I hpf => ?_)
  refine lv_iload_n hx hb dX10_childAt_5 rfl (lv_at hl 1 rfl) ?_
  refine m_callS (rest := []) (As := [.int x1]) C I fn_isMaster (c_isMaster l N x1) (by decide) 6 dX10_childAt_6 rfl hl.1 rfl (Nat.le_of_ble_eq_true rfl) hpf (fun v2 H locs I hpf => ?_)
  refine b_if_eq hx hb 31 9 dX10_childAt_9 (by decide) hpf (fun hpf => ?_) (fun hpf => ?_)
  · exact hC_31 S1 H locs I ls (lv_sub hl [0] rfl) hpf
  refine lv_iload_n hx hb dX10_childAt_12 rfl (lv_at hl 2 rfl) ?_
  refine lv_bipush (v := (-2 : Int32)) hx hb dX10_childAt_13 (by decide) ?_
  refine b_icmp_eq hx hb 27 15 dX10_childAt_15 (by decide) hpf (fun hpf => ?_) (fun hpf => ?_)
  · exact hC_27 x1 x2 x3 S1 H locs I ls (lv_sub hl [0, 1, 2, 3] rfl) hpf
  refine lv_aload_n hx hb dX10_childAt_18 rfl (lv_at hl 0 rfl) ?_
  refine lv_iload_n hx hb dX10_childAt_19 rfl (lv_at hl 1 rfl) ?_
  refine lv_iload_n hx hb dX10_childAt_20 rfl (lv_at hl 2 rfl) ?_
  refine m_callI (rest := []) (As := [.int x1, .int x2]) C I fn_isAt (c_isAt l N x1 x2) (by decide) 21 dX10_childAt_21 rfl hl.1 rfl (Nat.le_of_ble_eq_true rfl) hpf (fun v3 S4 H locs I hpf => ?_)
  refine b_if_eq hx hb 31 24 dX10_childAt_24 (by decide) hpf (fun hpf => ?_) (fun hpf => ?_)
  · exact hC_31 S4 H locs I ls (lv_sub hl [0] rfl) hpf
  exact hC_27 x1 x2 x3 S4 H locs I ls (lv_sub hl [0, 1, 2, 3] rfl) hpf
-- ===== isIncomplete =====
def pf_isIncomplete_48 (N : Nat) (k_4 : Int32 → Int32 → Int32 → mS → Option (Int32 × mS)) (t0 : Int32) (x1 : Int32) (x3 : Int32) (S : mS) : Option (Int32 × mS) :=
    nm (x3 + (1 : Int32)) fun y1 =>
    k_4 x1 t0 y1 S
def pf_isIncomplete_4 (N : Nat) : Nat → Int32 → Int32 → Int32 → mS → Option (Int32 × mS)
  | 0 => fun _ _ _ _ => none
  | n_4 + 1 => fun x1 x2 x3 S =>
    if (S.1 1) ≤ x3 then (
      zr x2 S)
    else (
      if x2 = (0 : Int32) then (
        gd x1 48 <|
        bd (pf_requiredBy N (S.2 40 x1.toNatClampNeg) S) fun v1 S2 =>
        if ((v1 >>> (x3 &&& 31)) &&& (1 : Int32)) = (1 : Int32) then (
          bd (pf_countOf N x1 x3 S2) fun v3 S4 =>
          if v3 = (0 : Int32) then (
            pf_isIncomplete_48 N (pf_isIncomplete_4 N n_4) (1 : Int32) x1 x3 S4)
          else (
            pf_isIncomplete_48 N (pf_isIncomplete_4 N n_4) (0 : Int32) x1 x3 S4))
        else (
          pf_isIncomplete_48 N (pf_isIncomplete_4 N n_4) (0 : Int32) x1 x3 S2))
      else (
        pf_isIncomplete_48 N (pf_isIncomplete_4 N n_4) (1 : Int32) x1 x3 S))
def pf_isIncomplete (N : Nat) (x1 : Int32) (S : mS) : Option (Int32 × mS) :=
    pf_isIncomplete_4 N N x1 (0 : Int32) (0 : Int32) S
theorem fn_isIncomplete : mFnI yX10_isIncomplete cX10_isIncomplete 4 (some .boolean) 1 362 := ⟨kM_292, kM_293, kM_294, kM_291, rfl, by decide +kernel, by decide⟩
set_option maxRecDepth 100000 in
set_option maxHeartbeats 4000000 in
theorem c_isIncomplete (l : Launch) (N : Nat) (x1 : Int32) : mMet l yX10_isIncomplete cX10_isIncomplete 4 .boolean 1 [.int x1] (pf_isIncomplete N x1) := by
  refine mStart (by decide +kernel) rfl (fun h => [(0, .ref h), (1, .int x1)]) (fun _ => Nat.le_of_ble_eq_true rfl) (fun _ => rfl) ?_
  intro dC dI h cI cZ a sz S r Sf hpf p e s m args below meth c C hr hz H locs I ls hl
  have hx := C.1
  have hb := C.2.1
  unfold pf_isIncomplete at hpf
  have hC_4 : ∀ (n_4 : Nat), ∀ (x1 : Int32) (x2 : Int32) (x3 : Int32) (S : mS) (H : Heap) (locs : List Loc), mV dC dI h cI cZ a s S H locs → ∀ ls : Array Slot, lv_has ls 4 [(0, .ref h), (1, .int x1), (2, .int x2), (3, .int x3)] → pf_isIncomplete_4 N n_4 x1 x2 x3 S = some (r, Sf) → W p l e (mRm 1) s m args below meth c H locs 0 0 (MQ below (mQ dC dI h cI cZ a sz r Sf) args s 0 0 (mAt h cI cZ a sz)) (F0 m 4 ls []) := by
    intro n_4
    induction n_4 with
    | zero =>
      intro x1 x2 x3 S H locs I ls hl hpf
      rw [pf_isIncomplete_4] at hpf
      cases hpf
    | succ n_4 ih_4 =>
      have hC_48 : ∀ (t0 : Int32) (x1 : Int32) (x3 : Int32) (S : mS) (H : Heap) (locs : List Loc), mV dC dI h cI cZ a s S H locs → ∀ ls : Array Slot, lv_has ls 4 [(0, .ref h), (1, .int x1), (3, .int x3)] → pf_isIncomplete_48 N (pf_isIncomplete_4 N n_4) t0 x1 x3 S = some (r, Sf) → W p l e (mRm 1) s m args below meth c H locs 0 0 (MQ below (mQ dC dI h cI cZ a sz r Sf) args s 0 0 (mAt h cI cZ a sz)) (F0 m 48 ls [.int t0]) := by
        intro t0 x1 x3 S H locs I ls hl hpf
        unfold pf_isIncomplete_48 at hpf
        refine lv_istore_n (lv' := [(2, .int t0), (0, .ref h), (1, .int x1), (3, .int x3)]) hx hb dX10_isIncomplete_48 rfl hl (by decide) rfl (fun ls hl => ?_)
        refine m_iinc (w := (1 : Int32)) hx hb (fun y1 => [(3, .int y1), (2, .int t0), (0, .ref h), (1, .int x1)]) 49 dX10_isIncomplete_49 hl (k := 3) rfl (by decide) (by decide) (fun _ => rfl) hpf (fun y1 ls hl hpf => ?_)
        refine lv_goto (tgt := 4) hx hb dX10_isIncomplete_52 (by decide) ?_
        exact ih_4 x1 t0 y1 S H locs I ls (lv_sub hl [2, 3, 1, 0] rfl) hpf
      intro x1 x2 x3 S H locs I ls hl hpf
      rw [pf_isIncomplete_4] at hpf
      refine lv_iload_n hx hb dX10_isIncomplete_4 rfl (lv_at hl 3 rfl) ?_
      refine lv_aload_n hx hb dX10_isIncomplete_5 rfl (lv_at hl 0 rfl) ?_
      refine m_geti C I mInt_1 kM_70 6 dX10_isIncomplete_6 ?_
      refine b_icmp_ge hx hb 55 9 dX10_isIncomplete_9 (by decide) hpf (fun hpf => ?_) (fun hpf => ?_)
      · refine lv_iload_n hx hb dX10_isIncomplete_55 rfl (lv_at hl 2 rfl) ?_
        exact m_retz C I hr hz 56 dX10_isIncomplete_56 hpf
      refine lv_iload_n hx hb dX10_isIncomplete_12 rfl (lv_at hl 2 rfl) ?_
      refine b_if_ne hx hb 43 13 dX10_isIncomplete_13 (by decide) hpf (fun hpf => ?_) (fun hpf => ?_)
      · refine lv_iconst (v := (1 : Int32)) hx hb dX10_isIncomplete_43 (by decide) ?_
        refine lv_goto (tgt := 48) hx hb dX10_isIncomplete_44 (by decide) ?_
        exact hC_48 (1 : Int32) x1 x3 S H locs I ls (lv_sub hl [0, 1, 3] rfl) hpf
      refine lv_aload_n hx hb dX10_isIncomplete_16 rfl (lv_at hl 0 rfl) ?_
      refine lv_aload_n hx hb dX10_isIncomplete_17 rfl (lv_at hl 0 rfl) ?_
      refine m_getr C I mRef_40 kM_37 18 dX10_isIncomplete_18 ?_
      refine lv_iload_n hx hb dX10_isIncomplete_21 rfl (lv_at hl 1 rfl) ?_
      refine m_iald C I mArr_40 22 dX10_isIncomplete_22 hpf (fun hpf => ?_)
      refine m_callI (rest := []) (As := [.int (S.2 40 x1.toNatClampNeg)]) C I fn_requiredBy (c_requiredBy l N (S.2 40 x1.toNatClampNeg)) (by decide) 23 dX10_isIncomplete_23 rfl hl.1 rfl (Nat.le_of_ble_eq_true rfl) hpf (fun v1 S2 H locs I hpf => ?_)
      refine lv_iload_n hx hb dX10_isIncomplete_26 rfl (lv_at hl 3 rfl) ?_
      refine lv_ishr hx hb dX10_isIncomplete_27 ?_
      refine lv_iconst (v := (1 : Int32)) hx hb dX10_isIncomplete_28 (by decide) ?_
      refine lv_iand hx hb dX10_isIncomplete_29 ?_
      refine lv_iconst (v := (1 : Int32)) hx hb dX10_isIncomplete_30 (by decide) ?_
      refine b_icmp_ne hx hb 47 31 dX10_isIncomplete_31 (by decide) hpf (fun hpf => ?_) (fun hpf => ?_)
      · refine lv_iconst (v := (0 : Int32)) hx hb dX10_isIncomplete_47 (by decide) ?_
        exact hC_48 (0 : Int32) x1 x3 S2 H locs I ls (lv_sub hl [0, 1, 3] rfl) hpf
      refine lv_aload_n hx hb dX10_isIncomplete_34 rfl (lv_at hl 0 rfl) ?_
      refine lv_iload_n hx hb dX10_isIncomplete_35 rfl (lv_at hl 1 rfl) ?_
      refine lv_iload_n hx hb dX10_isIncomplete_36 rfl (lv_at hl 3 rfl) ?_
      refine m_callI (rest := []) (As := [.int x1, .int x3]) C I fn_countOf (c_countOf l N x1 x3) (by decide) 37 dX10_isIncomplete_37 rfl hl.1 rfl (Nat.le_of_ble_eq_true rfl) hpf (fun v3 S4 H locs I hpf => ?_)
      refine b_if_ne hx hb 47 40 dX10_isIncomplete_40 (by decide) hpf (fun hpf => ?_) (fun hpf => ?_)
      · refine lv_iconst (v := (0 : Int32)) hx hb dX10_isIncomplete_47 (by decide) ?_
        exact hC_48 (0 : Int32) x1 x3 S4 H locs I ls (lv_sub hl [0, 1, 3] rfl) hpf
      refine lv_iconst (v := (1 : Int32)) hx hb dX10_isIncomplete_43 (by decide) ?_
      refine lv_goto (tgt := 48) hx hb dX10_isIncomplete_44 (by decide) ?_
      exact hC_48 (1 : Int32) x1 x3 S4 H locs I ls (lv_sub hl [0, 1, 3] rfl) hpf
  refine lv_iconst (v := (0 : Int32)) hx hb dX10_isIncomplete_0 (by decide) ?_
  refine lv_istore_n (lv' := [(2, .int (0 : Int32)), (0, .ref h), (1, .int x1)]) hx hb dX10_isIncomplete_1 rfl hl (by decide) rfl (fun ls hl => ?_)
  refine lv_iconst (v := (0 : Int32)) hx hb dX10_isIncomplete_2 (by decide) ?_
  refine lv_istore_n (lv' := [(3, .int (0 : Int32)), (2, .int (0 : Int32)), (0, .ref h), (1, .int x1)]) hx hb dX10_isIncomplete_3 rfl hl (by decide) rfl (fun ls hl => ?_)
  exact hC_4 N x1 (0 : Int32) (0 : Int32) S H locs I ls (lv_sub hl [2, 3, 1, 0] rfl) hpf
