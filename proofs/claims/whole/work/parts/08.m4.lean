-- ===== add =====
def pf_add_22 (N : Nat) (S : mS) : Option (Int32 × mS) :=
    bd (pf_fails N (1 : Int32) S) fun v1 S2 =>
    some (v1, S2)
def pf_add_89 (N : Nat) (S : mS) : Option (Int32 × mS) :=
    bd (pf_fails N (3 : Int32) S) fun v1 S2 =>
    some (v1, S2)
def pf_add_182 (N : Nat) (x5 : Int32) (S : mS) : Option (Int32 × mS) :=
    gd x5 250 <| sv (mA S 33 x5.toNatClampNeg (S.1 31)) fun S1 =>
    sv (mI S1 8 (0 : Int32)) fun S2 =>
    sv (mI S2 21 ((S2.1 21) + (1 : Int32))) fun S3 =>
    some ((S3.1 21) - (1 : Int32), S3)
def pf_add_125 (N : Nat) (k_182 : Int32 → mS → Option (Int32 × mS)) : Nat → Int32 → Int32 → mS → Option (Int32 × mS)
  | 0 => fun _ _ _ => none
  | n_125 + 1 => fun x5 x6 S =>
    if (S.1 8) ≤ x6 then (
      k_182 x5 S)
    else (
      gd x6 12 <|
      gd (S.1 31) 600 <| sv (mA S 34 (S.1 31).toNatClampNeg (S.2 9 x6.toNatClampNeg)) fun S1 =>
      gd x6 12 <|
      gd (S1.1 31) 600 <| sv (mA S1 35 (S1.1 31).toNatClampNeg (S1.2 10 x6.toNatClampNeg)) fun S2 =>
      sv (mI S2 31 ((S2.1 31) + (1 : Int32))) fun S3 =>
      nm (x6 + (1 : Int32)) fun y4 =>
      pf_add_125 N k_182 n_125 x5 y4 S3)
def pf_add (N : Nat) (x1 : Int32) (x2 : Int32) (x3 : Int32) (x4 : Int32) (S : mS) : Option (Int32 × mS) :=
    sv (mI S 0 (0 : Int32)) fun S1 =>
    bd (pf_isAt N x1 x2 S1) fun v2 S3 =>
    if v2 = (0 : Int32) then (
      pf_add_22 N S3)
    else (
      bd (pf_isClass N x3 S3) fun v4 S5 =>
      if v4 = (0 : Int32) then (
        pf_add_22 N S5)
      else (
        bs (pf_in N x4 (0 : Int32) (99 : Int32)) fun v6 =>
        if v6 = (0 : Int32) then (
          bd (pf_fails N (2 : Int32) S5) fun v18 S19 =>
          some (v18, S19))
        else (
          if (S5.1 21) = (48 : Int32) then (
            pf_add_89 N S5)
          else (
            bd (pf_isFull N S5) fun v7 S8 =>
            if v7 = (0 : Int32) then (
              bd (pf_mayWrite N x1 x2 S8) fun v9 S10 =>
              if v9 = (0 : Int32) then (
                pf_add_89 N S10)
              else (
                bd (pf_isNamed N x2 (-1 : Int32) x4 S10) fun v11 S12 =>
                if v11 = (0 : Int32) then (
                  bd (pf_isDrafted N x3 S12) fun v13 S14 =>
                  if v13 = (0 : Int32) then (
                    pf_add_89 N S14)
                  else (
                    bd (pf_makes N x1 (0 : Int32) (S14.1 21) x3 x2 x4 S14) fun v15 S16 =>
                    gd v15 250 <| sv (mA S16 32 v15.toNatClampNeg (S16.1 31)) fun S17 =>
                    pf_add_125 N (pf_add_182 N) N v15 (0 : Int32) S17))
                else (
                  pf_add_89 N S12)))
            else (
              pf_add_89 N S8)))))

set_option maxRecDepth 100000 in
set_option maxHeartbeats 4000000 in
theorem c_add (l : Launch) (N : Nat) (x1 : Int32) (x2 : Int32) (x3 : Int32) (x4 : Int32) : mMet l yX10_add cX10_add 7 .int 6 [.int x1, .int x2, .int x3, .int x4] (pf_add N x1 x2 x3 x4) := by
  refine mStart (by decide +kernel) rfl (fun h => [(0, .ref h), (1, .int x1), (2, .int x2), (3, .int x3), (4, .int x4)]) (fun _ => Nat.le_of_ble_eq_true rfl) (fun _ => rfl) ?_
  intro dC dI h cI cZ a sz S r Sf hpf p e s m args below meth c C hr hz H locs I ls hl
  have hx := C.1
  have hb := C.2.1
  unfold pf_add at hpf
  have hC_22 : ∀ (S : mS) (H : Heap) (locs : List Loc), mV dC dI h cI cZ a s S H locs → ∀ ls : Array Slot, lv_has ls 7 [(0, .ref h)] → pf_add_22 N S = some (r, Sf) → W p l e (mRm 6) s m args below meth c H locs 0 0 (MQ below (mQ dC dI h cI cZ a sz r Sf) args s 0 0 (mAt h cI cZ a sz)) (F0 m 22 ls []) := by
    intro S H locs I ls hl hpf
    unfold pf_add_22 at hpf
    refine lv_aload_n hx hb dX10_add_22 rfl (lv_at hl 0 rfl) ?_
    refine lv_iconst (v := (1 : Int32)) hx hb dX10_add_23 (by decide) ?_
    refine m_callI (rest := []) (As := [.int (1 : Int32)]) C I fn_fails (c_fails l N (1 : Int32)) (by decide) 24 dX10_add_24 rfl hl.1 rfl (Nat.le_of_ble_eq_true rfl) hpf (fun v1 S2 H locs I hpf => ?_)
    exact m_reti C I hr hz 27 dX10_add_27 hpf
  have hC_89 : ∀ (S : mS) (H : Heap) (locs : List Loc), mV dC dI h cI cZ a s S H locs → ∀ ls : Array Slot, lv_has ls 7 [(0, .ref h)] → pf_add_89 N S = some (r, Sf) → W p l e (mRm 6) s m args below meth c H locs 0 0 (MQ below (mQ dC dI h cI cZ a sz r Sf) args s 0 0 (mAt h cI cZ a sz)) (F0 m 89 ls []) := by
    intro S H locs I ls hl hpf
    unfold pf_add_89 at hpf
    refine lv_aload_n hx hb dX10_add_89 rfl (lv_at hl 0 rfl) ?_
    refine lv_iconst (v := (3 : Int32)) hx hb dX10_add_90 (by decide) ?_
    refine m_callI (rest := []) (As := [.int (3 : Int32)]) C I fn_fails (c_fails l N (3 : Int32)) (by decide) 91 dX10_add_91 rfl hl.1 rfl (Nat.le_of_ble_eq_true rfl) hpf (fun v1 S2 H locs I hpf => ?_)
    exact m_reti C I hr hz 94 dX10_add_94 hpf
  have hC_182 : ∀ (x5 : Int32) (S : mS) (H : Heap) (locs : List Loc), mV dC dI h cI cZ a s S H locs → ∀ ls : Array Slot, lv_has ls 7 [(0, .ref h), (5, .int x5)] → pf_add_182 N x5 S = some (r, Sf) → W p l e (mRm 6) s m args below meth c H locs 0 0 (MQ below (mQ dC dI h cI cZ a sz r Sf) args s 0 0 (mAt h cI cZ a sz)) (F0 m 182 ls []) := by
    intro x5 S H locs I ls hl hpf
    unfold pf_add_182 at hpf
    refine lv_aload_n hx hb dX10_add_182 rfl (lv_at hl 0 rfl) ?_
    refine m_getr C I mRef_33 kM_30 183 dX10_add_183 ?_
    refine lv_iload hx hb dX10_add_186 (lv_at hl 1 rfl) ?_
    refine lv_aload_n hx hb dX10_add_188 rfl (lv_at hl 0 rfl) ?_
    refine m_geti C I mInt_31 kM_159 189 dX10_add_189 ?_
    refine m_iast C I mArr_33 192 dX10_add_192 hpf (fun S1 H locs I hpf => ?_)
    refine lv_aload_n hx hb dX10_add_193 rfl (lv_at hl 0 rfl) ?_
    refine lv_iconst (v := (0 : Int32)) hx hb dX10_add_194 (by decide) ?_
    refine m_puti C I mInt_8 kM_145 195 dX10_add_195 hpf (fun S2 H locs I hpf => ?_)
    refine lv_aload_n hx hb dX10_add_198 rfl (lv_at hl 0 rfl) ?_
    refine lv_dup hx hb dX10_add_199 rfl ?_
    refine m_geti C I mInt_21 kM_20 200 dX10_add_200 ?_
    refine lv_iconst (v := (1 : Int32)) hx hb dX10_add_203 (by decide) ?_
    refine lv_iadd hx hb dX10_add_204 ?_
    refine m_puti C I mInt_21 kM_20 205 dX10_add_205 hpf (fun S3 H locs I hpf => ?_)
    refine lv_aload_n hx hb dX10_add_208 rfl (lv_at hl 0 rfl) ?_
    refine m_geti C I mInt_21 kM_20 209 dX10_add_209 ?_
    refine lv_iconst (v := (1 : Int32)) hx hb dX10_add_212 (by decide) ?_
    refine lv_isub hx hb dX10_add_213 ?_
    exact m_reti C I hr hz 214 dX10_add_214 hpf
  have hC_125 : ∀ (n_125 : Nat), ∀ (x5 : Int32) (x6 : Int32) (S : mS) (H : Heap) (locs : List Loc), mV dC dI h cI cZ a s S H locs → ∀ ls : Array Slot, lv_has ls 7 [(0, .ref h), (5, .int x5), (6, .int x6)] → pf_add_125 N (pf_add_182 N) n_125 x5 x6 S = some (r, Sf) → W p l e (mRm 6) s m args below meth c H locs 0 0 (MQ below (mQ dC dI h cI cZ a sz r Sf) args s 0 0 (mAt h cI cZ a sz)) (F0 m 125 ls []) := by
    intro n_125
    induction n_125 with
    | zero =>
      intro x5 x6 S H locs I ls hl hpf
      rw [pf_add_125] at hpf
      cases hpf
    | succ n_125 ih_125 =>
      intro x5 x6 S H locs I ls hl hpf
      rw [pf_add_125] at hpf
      refine lv_iload hx hb dX10_add_125 (lv_at hl 2 rfl) ?_
      refine lv_aload_n hx hb dX10_add_127 rfl (lv_at hl 0 rfl) ?_
      refine m_geti C I mInt_8 kM_145 128 dX10_add_128 ?_
      refine b_icmp_ge hx hb 182 131 dX10_add_131 (by decide) hpf (fun hpf => ?_) (fun hpf => ?_)
      · exact hC_182 x5 S H locs I ls (lv_sub hl [0, 1] rfl) hpf
      refine lv_aload_n hx hb dX10_add_134 rfl (lv_at hl 0 rfl) ?_
      refine m_getr C I mRef_34 kM_31 135 dX10_add_135 ?_
      refine lv_aload_n hx hb dX10_add_138 rfl (lv_at hl 0 rfl) ?_
      refine m_geti C I mInt_31 kM_159 139 dX10_add_139 ?_
      refine lv_aload_n hx hb dX10_add_142 rfl (lv_at hl 0 rfl) ?_
      refine m_getr C I mRef_9 kM_10 143 dX10_add_143 ?_
      refine lv_iload hx hb dX10_add_146 (lv_at hl 2 rfl) ?_
      refine m_iald C I mArr_9 148 dX10_add_148 hpf (fun hpf => ?_)
      refine m_iast C I mArr_34 149 dX10_add_149 hpf (fun S1 H locs I hpf => ?_)
      refine lv_aload_n hx hb dX10_add_150 rfl (lv_at hl 0 rfl) ?_
      refine m_getr C I mRef_35 kM_32 151 dX10_add_151 ?_
      refine lv_aload_n hx hb dX10_add_154 rfl (lv_at hl 0 rfl) ?_
      refine m_geti C I mInt_31 kM_159 155 dX10_add_155 ?_
      refine lv_aload_n hx hb dX10_add_158 rfl (lv_at hl 0 rfl) ?_
      refine m_getr C I mRef_10 kM_11 159 dX10_add_159 ?_
      refine lv_iload hx hb dX10_add_162 (lv_at hl 2 rfl) ?_
      refine m_iald C I mArr_10 164 dX10_add_164 hpf (fun hpf => ?_)
      refine m_iast C I mArr_35 165 dX10_add_165 hpf (fun S2 H locs I hpf => ?_)
      refine lv_aload_n hx hb dX10_add_166 rfl (lv_at hl 0 rfl) ?_
      refine lv_dup hx hb dX10_add_167 rfl ?_
      refine m_geti C I mInt_31 kM_159 168 dX10_add_168 ?_
      refine lv_iconst (v := (1 : Int32)) hx hb dX10_add_171 (by decide) ?_
      refine lv_iadd hx hb dX10_add_172 ?_
      refine m_puti C I mInt_31 kM_159 173 dX10_add_173 hpf (fun S3 H locs I hpf => ?_)
      refine m_iinc (w := (1 : Int32)) hx hb (fun y4 => [(6, .int y4), (0, .ref h), (5, .int x5)]) 176 dX10_add_176 hl (k := 2) rfl (by decide) (by decide) (fun _ => rfl) hpf (fun y4 ls hl hpf => ?_)
      refine lv_goto (tgt := 125) hx hb dX10_add_179 (by decide) ?_
      exact ih_125 x5 y4 S3 H locs I ls (lv_sub hl [1, 2, 0] rfl) hpf
  refine lv_aload_n hx hb dX10_add_0 rfl (lv_at hl 0 rfl) ?_
  refine lv_iconst (v := (0 : Int32)) hx hb dX10_add_1 (by decide) ?_
  refine m_puti C I mInt_0 kM_62 2 dX10_add_2 hpf (fun S1 H locs I hpf => ?_)
  refine lv_aload_n hx hb dX10_add_5 rfl (lv_at hl 0 rfl) ?_
  refine lv_iload_n hx hb dX10_add_6 rfl (lv_at hl 1 rfl) ?_
  refine lv_iload_n hx hb dX10_add_7 rfl (lv_at hl 2 rfl) ?_
  refine m_callI (rest := []) (As := [.int x1, .int x2]) C I fn_isAt (c_isAt l N x1 x2) (by decide) 8 dX10_add_8 rfl hl.1 rfl (Nat.le_of_ble_eq_true rfl) hpf (fun v2 S3 H locs I hpf => ?_)
  refine b_if_eq hx hb 22 11 dX10_add_11 (by decide) hpf (fun hpf => ?_) (fun hpf => ?_)
  · exact hC_22 S3 H locs I ls (lv_sub hl [0] rfl) hpf
  refine lv_aload_n hx hb dX10_add_14 rfl (lv_at hl 0 rfl) ?_
  refine lv_iload_n hx hb dX10_add_15 rfl (lv_at hl 3 rfl) ?_
  refine m_callI (rest := []) (As := [.int x3]) C I fn_isClass (c_isClass l N x3) (by decide) 16 dX10_add_16 rfl hl.1 rfl (Nat.le_of_ble_eq_true rfl) hpf (fun v4 S5 H locs I hpf => ?_)
  refine b_if_ne hx hb 28 19 dX10_add_19 (by decide) hpf (fun hpf => ?_) (fun hpf => ?_)
  · refine lv_iload hx hb dX10_add_28 (lv_at hl 4 rfl) ?_
    refine lv_iconst (v := (0 : Int32)) hx hb dX10_add_30 (by decide) ?_
    refine lv_bipush (v := (99 : Int32)) hx hb dX10_add_31 (by decide) ?_
    refine m_callS (rest := []) (As := [.int x4, .int (0 : Int32), .int (99 : Int32)]) C I fn_in (c_in l N x4 (0 : Int32) (99 : Int32)) (by decide) 33 dX10_add_33 rfl hl.1 rfl (Nat.le_of_ble_eq_true rfl) hpf (fun v6 H locs I hpf => ?_)
    refine b_if_ne hx hb 45 36 dX10_add_36 (by decide) hpf (fun hpf => ?_) (fun hpf => ?_)
    · refine lv_aload_n hx hb dX10_add_45 rfl (lv_at hl 0 rfl) ?_
      refine m_geti C I mInt_21 kM_20 46 dX10_add_46 ?_
      refine lv_bipush (v := (48 : Int32)) hx hb dX10_add_49 (by decide) ?_
      refine b_icmp_eq hx hb 89 51 dX10_add_51 (by decide) hpf (fun hpf => ?_) (fun hpf => ?_)
      · exact hC_89 S5 H locs I ls (lv_sub hl [0] rfl) hpf
      refine lv_aload_n hx hb dX10_add_54 rfl (lv_at hl 0 rfl) ?_
      refine m_callI (rest := []) (As := []) C I fn_isFull (c_isFull l N ) (by decide) 55 dX10_add_55 rfl hl.1 rfl (Nat.le_of_ble_eq_true rfl) hpf (fun v7 S8 H locs I hpf => ?_)
      refine b_if_ne hx hb 89 58 dX10_add_58 (by decide) hpf (fun hpf => ?_) (fun hpf => ?_)
      · exact hC_89 S8 H locs I ls (lv_sub hl [0] rfl) hpf
      refine lv_aload_n hx hb dX10_add_61 rfl (lv_at hl 0 rfl) ?_
      refine lv_iload_n hx hb dX10_add_62 rfl (lv_at hl 1 rfl) ?_
      refine lv_iload_n hx hb dX10_add_63 rfl (lv_at hl 2 rfl) ?_
      refine m_callI (rest := []) (As := [.int x1, .int x2]) C I fn_mayWrite (c_mayWrite l N x1 x2) (by decide) 64 dX10_add_64 rfl hl.1 rfl (Nat.le_of_ble_eq_true rfl) hpf (fun v9 S10 H locs I hpf => ?_)
      refine b_if_eq hx hb 89 67 dX10_add_67 (by decide) hpf (fun hpf => ?_) (fun hpf => ?_)
      · exact hC_89 S10 H locs I ls (lv_sub hl [0] rfl) hpf
      refine lv_aload_n hx hb dX10_add_70 rfl (lv_at hl 0 rfl) ?_
      refine lv_iload_n hx hb dX10_add_71 rfl (lv_at hl 2 rfl) ?_
      refine lv_iconst (v := (-1 : Int32)) hx hb dX10_add_72 (by decide) ?_
      refine lv_iload hx hb dX10_add_73 (lv_at hl 4 rfl) ?_
      refine m_callI (rest := []) (As := [.int x2, .int (-1 : Int32), .int x4]) C I fn_isNamed (c_isNamed l N x2 (-1 : Int32) x4) (by decide) 75 dX10_add_75 rfl hl.1 rfl (Nat.le_of_ble_eq_true rfl) hpf (fun v11 S12 H locs I hpf => ?_)
      refine b_if_ne hx hb 89 78 dX10_add_78 (by decide) hpf (fun hpf => ?_) (fun hpf => ?_)
      · exact hC_89 S12 H locs I ls (lv_sub hl [0] rfl) hpf
      refine lv_aload_n hx hb dX10_add_81 rfl (lv_at hl 0 rfl) ?_
      refine lv_iload_n hx hb dX10_add_82 rfl (lv_at hl 3 rfl) ?_
      refine m_callI (rest := []) (As := [.int x3]) C I fn_isDrafted (c_isDrafted l N x3) (by decide) 83 dX10_add_83 rfl hl.1 rfl (Nat.le_of_ble_eq_true rfl) hpf (fun v13 S14 H locs I hpf => ?_)
      refine b_if_ne hx hb 95 86 dX10_add_86 (by decide) hpf (fun hpf => ?_) (fun hpf => ?_)
      · refine lv_aload_n hx hb dX10_add_95 rfl (lv_at hl 0 rfl) ?_
        refine lv_iload_n hx hb dX10_add_96 rfl (lv_at hl 1 rfl) ?_
        refine lv_iconst (v := (0 : Int32)) hx hb dX10_add_97 (by decide) ?_
        refine lv_aload_n hx hb dX10_add_98 rfl (lv_at hl 0 rfl) ?_
        refine m_geti C I mInt_21 kM_20 99 dX10_add_99 ?_
        refine lv_iload_n hx hb dX10_add_102 rfl (lv_at hl 3 rfl) ?_
        refine lv_iload_n hx hb dX10_add_103 rfl (lv_at hl 2 rfl) ?_
        refine lv_iload hx hb dX10_add_104 (lv_at hl 4 rfl) ?_
        refine m_callI (rest := []) (As := [.int x1, .int (0 : Int32), .int (S14.1 21), .int x3, .int x2, .int x4]) C I fn_makes (c_makes l N x1 (0 : Int32) (S14.1 21) x3 x2 x4) (by decide) 106 dX10_add_106 rfl hl.1 rfl (Nat.le_of_ble_eq_true rfl) hpf (fun v15 S16 H locs I hpf => ?_)
        refine lv_istore (lv' := [(5, .int v15), (0, .ref h), (1, .int x1), (2, .int x2), (3, .int x3), (4, .int x4)]) hx hb dX10_add_109 hl (by decide) rfl (fun ls hl => ?_)
        refine lv_aload_n hx hb dX10_add_111 rfl (lv_at hl 1 rfl) ?_
        refine m_getr C I mRef_32 kM_29 112 dX10_add_112 ?_
        refine lv_iload hx hb dX10_add_115 (lv_at hl 0 rfl) ?_
        refine lv_aload_n hx hb dX10_add_117 rfl (lv_at hl 1 rfl) ?_
        refine m_geti C I mInt_31 kM_159 118 dX10_add_118 ?_
        refine m_iast C I mArr_32 121 dX10_add_121 hpf (fun S17 H locs I hpf => ?_)
        refine lv_iconst (v := (0 : Int32)) hx hb dX10_add_122 (by decide) ?_
        refine lv_istore (lv' := [(6, .int (0 : Int32)), (5, .int v15), (0, .ref h), (1, .int x1), (2, .int x2), (3, .int x3), (4, .int x4)]) hx hb dX10_add_123 hl (by decide) rfl (fun ls hl => ?_)
        exact hC_125 N v15 (0 : Int32) S17 H locs I ls (lv_sub hl [2, 1, 0] rfl) hpf
      exact hC_89 S14 H locs I ls (lv_sub hl [0] rfl) hpf
    refine lv_aload_n hx hb dX10_add_39 rfl (lv_at hl 0 rfl) ?_
    refine lv_iconst (v := (2 : Int32)) hx hb dX10_add_40 (by decide) ?_
    refine m_callI (rest := []) (As := [.int (2 : Int32)]) C I fn_fails (c_fails l N (2 : Int32)) (by decide) 41 dX10_add_41 rfl hl.1 rfl (Nat.le_of_ble_eq_true rfl) hpf (fun v18 S19 H locs I hpf => ?_)
    exact m_reti C I hr hz 44 dX10_add_44 hpf
  exact hC_22 S5 H locs I ls (lv_sub hl [0] rfl) hpf
-- ===== refuses =====
def pf_refuses (N : Nat) (x1 : Int32) (x2 : Int32) (x3 : Int32) (x4 : Int32) (S : mS) : Option (Int32 × mS) :=
    bd (pf_isAt N x1 x2 S) fun v1 S2 =>
    if v1 = (0 : Int32) then (
      some ((1 : Int32), S2))
    else (
      if x2 = (0 : Int32) then (
        some ((1 : Int32), S2))
      else (
        bd (pf_isAttribute N x3 S2) fun v3 S4 =>
        if v3 = (0 : Int32) then (
          some ((1 : Int32), S4))
        else (
          bs (pf_isValue N x4) fun v5 =>
          if v5 = (0 : Int32) then (
            some ((2 : Int32), S4))
          else (
            bd (pf_isFull N S4) fun v6 S7 =>
            if v6 = (0 : Int32) then (
              bd (pf_mayWrite N x1 x2 S7) fun v8 S9 =>
              if v8 = (0 : Int32) then (
                some ((3 : Int32), S9))
              else (
                some ((0 : Int32), S9)))
            else (
              some ((3 : Int32), S7))))))
theorem fn_refuses : mFnI yX10_refuses cX10_refuses 5 (some .int) 4 294 := ⟨kM_187, kM_188, kM_189, kM_182, rfl, by decide +kernel, by decide⟩
set_option maxRecDepth 100000 in
set_option maxHeartbeats 4000000 in
theorem c_refuses (l : Launch) (N : Nat) (x1 : Int32) (x2 : Int32) (x3 : Int32) (x4 : Int32) : mMet l yX10_refuses cX10_refuses 5 .int 6 [.int x1, .int x2, .int x3, .int x4] (pf_refuses N x1 x2 x3 x4) := by
  refine mStart (by decide +kernel) rfl (fun h => [(0, .ref h), (1, .int x1), (2, .int x2), (3, .int x3), (4, .int x4)]) (fun _ => Nat.le_of_ble_eq_true rfl) (fun _ => rfl) ?_
  intro dC dI h cI cZ a sz S r Sf hpf p e s m args below meth c C hr hz H locs I ls hl
  have hx := C.1
  have hb := C.2.1
  unfold pf_refuses at hpf
  refine lv_aload_n hx hb dX10_refuses_0 rfl (lv_at hl 0 rfl) ?_
  refine lv_iload_n hx hb dX10_refuses_1 rfl (lv_at hl 1 rfl) ?_
  refine lv_iload_n hx hb dX10_refuses_2 rfl (lv_at hl 2 rfl) ?_
  refine m_callI (rest := []) (As := [.int x1, .int x2]) C I fn_isAt (c_isAt l N x1 x2) (by decide) 3 dX10_refuses_3 rfl hl.1 rfl (Nat.le_of_ble_eq_true rfl) hpf (fun v1 S2 H locs I hpf => ?_)
  refine b_if_eq hx hb 21 6 dX10_refuses_6 (by decide) hpf (fun hpf => ?_) (fun hpf => ?_)
  · refine lv_iconst (v := (1 : Int32)) hx hb dX10_refuses_21 (by decide) ?_
    exact m_reti C I hr hz 22 dX10_refuses_22 hpf
  refine lv_iload_n hx hb dX10_refuses_9 rfl (lv_at hl 2 rfl) ?_
  refine b_if_eq hx hb 21 10 dX10_refuses_10 (by decide) hpf (fun hpf => ?_) (fun hpf => ?_)
  · refine lv_iconst (v := (1 : Int32)) hx hb dX10_refuses_21 (by decide) ?_
    exact m_reti C I hr hz 22 dX10_refuses_22 hpf
  refine lv_aload_n hx hb dX10_refuses_13 rfl (lv_at hl 0 rfl) ?_
  refine lv_iload_n hx hb dX10_refuses_14 rfl (lv_at hl 3 rfl) ?_
  refine m_callI (rest := []) (As := [.int x3]) C I fn_isAttribute (c_isAttribute l N x3) (by decide) 15 dX10_refuses_15 rfl hl.1 rfl (Nat.le_of_ble_eq_true rfl) hpf (fun v3 S4 H locs I hpf => ?_)
  refine b_if_ne hx hb 23 18 dX10_refuses_18 (by decide) hpf (fun hpf => ?_) (fun hpf => ?_)
  · refine lv_iload hx hb dX10_refuses_23 (lv_at hl 4 rfl) ?_
    refine m_callS (rest := []) (As := [.int x4]) C I fn_isValue (c_isValue l N x4) (by decide) 25 dX10_refuses_25 rfl hl.1 rfl (Nat.le_of_ble_eq_true rfl) hpf (fun v5 H locs I hpf => ?_)
    refine b_if_ne hx hb 35 28 dX10_refuses_28 (by decide) hpf (fun hpf => ?_) (fun hpf => ?_)
    · refine lv_aload_n hx hb dX10_refuses_35 rfl (lv_at hl 0 rfl) ?_
      refine m_callI (rest := []) (As := []) C I fn_isFull (c_isFull l N ) (by decide) 36 dX10_refuses_36 rfl hl.1 rfl (Nat.le_of_ble_eq_true rfl) hpf (fun v6 S7 H locs I hpf => ?_)
      refine b_if_ne hx hb 51 39 dX10_refuses_39 (by decide) hpf (fun hpf => ?_) (fun hpf => ?_)
      · refine lv_iconst (v := (3 : Int32)) hx hb dX10_refuses_51 (by decide) ?_
        refine lv_goto (tgt := 56) hx hb dX10_refuses_52 (by decide) ?_
        exact m_reti C I hr hz 56 dX10_refuses_56 hpf
      refine lv_aload_n hx hb dX10_refuses_42 rfl (lv_at hl 0 rfl) ?_
      refine lv_iload_n hx hb dX10_refuses_43 rfl (lv_at hl 1 rfl) ?_
      refine lv_iload_n hx hb dX10_refuses_44 rfl (lv_at hl 2 rfl) ?_
      refine m_callI (rest := []) (As := [.int x1, .int x2]) C I fn_mayWrite (c_mayWrite l N x1 x2) (by decide) 45 dX10_refuses_45 rfl hl.1 rfl (Nat.le_of_ble_eq_true rfl) hpf (fun v8 S9 H locs I hpf => ?_)
      refine b_if_ne hx hb 55 48 dX10_refuses_48 (by decide) hpf (fun hpf => ?_) (fun hpf => ?_)
      · refine lv_iconst (v := (0 : Int32)) hx hb dX10_refuses_55 (by decide) ?_
        exact m_reti C I hr hz 56 dX10_refuses_56 hpf
      refine lv_iconst (v := (3 : Int32)) hx hb dX10_refuses_51 (by decide) ?_
      refine lv_goto (tgt := 56) hx hb dX10_refuses_52 (by decide) ?_
      exact m_reti C I hr hz 56 dX10_refuses_56 hpf
    refine lv_iconst (v := (2 : Int32)) hx hb dX10_refuses_31 (by decide) ?_
    refine lv_goto (tgt := 56) hx hb dX10_refuses_32 (by decide) ?_
    exact m_reti C I hr hz 56 dX10_refuses_56 hpf
  refine lv_iconst (v := (1 : Int32)) hx hb dX10_refuses_21 (by decide) ?_
  exact m_reti C I hr hz 22 dX10_refuses_22 hpf
-- ===== valuesBehind =====
def pf_valuesBehind (N : Nat) (x1 : Int32) (x2 : Int32) (x3 : Int32) (S : mS) : Option (Int32 × mS) :=
    bd (pf_lays N x1 S) fun v1 S2 =>
    bd (pf_countOf N x2 x3 S2) fun v3 S4 =>
    some (v3, S4)
theorem fn_valuesBehind : mFnI yX10_valuesBehind cX10_valuesBehind 4 (some .int) 3 297 := ⟨kM_190, kM_191, kM_192, kM_186, rfl, by decide +kernel, by decide⟩
set_option maxRecDepth 100000 in
set_option maxHeartbeats 4000000 in
theorem c_valuesBehind (l : Launch) (N : Nat) (x1 : Int32) (x2 : Int32) (x3 : Int32) : mMet l yX10_valuesBehind cX10_valuesBehind 4 .int 5 [.int x1, .int x2, .int x3] (pf_valuesBehind N x1 x2 x3) := by
  refine mStart (by decide +kernel) rfl (fun h => [(0, .ref h), (1, .int x1), (2, .int x2), (3, .int x3)]) (fun _ => Nat.le_of_ble_eq_true rfl) (fun _ => rfl) ?_
  intro dC dI h cI cZ a sz S r Sf hpf p e s m args below meth c C hr hz H locs I ls hl
  have hx := C.1
  have hb := C.2.1
  unfold pf_valuesBehind at hpf
  refine lv_aload_n hx hb dX10_valuesBehind_0 rfl (lv_at hl 0 rfl) ?_
  refine lv_iload_n hx hb dX10_valuesBehind_1 rfl (lv_at hl 1 rfl) ?_
  refine m_callV (rest := []) (As := [.int x1]) C I fn_lays (c_lays l N x1) (by decide) 2 dX10_valuesBehind_2 rfl hl.1 rfl (Nat.le_of_ble_eq_true rfl) hpf (fun v1 S2 H locs I hpf => ?_)
  refine lv_aload_n hx hb dX10_valuesBehind_5 rfl (lv_at hl 0 rfl) ?_
  refine lv_iload_n hx hb dX10_valuesBehind_6 rfl (lv_at hl 2 rfl) ?_
  refine lv_iload_n hx hb dX10_valuesBehind_7 rfl (lv_at hl 3 rfl) ?_
  refine m_callI (rest := []) (As := [.int x2, .int x3]) C I fn_countOf (c_countOf l N x2 x3) (by decide) 8 dX10_valuesBehind_8 rfl hl.1 rfl (Nat.le_of_ble_eq_true rfl) hpf (fun v3 S4 H locs I hpf => ?_)
  exact m_reti C I hr hz 11 dX10_valuesBehind_11 hpf
-- ===== addValue =====
def pf_addValue_68 (N : Nat) (S : mS) : Option (Int32 × mS) :=
    bd (pf_fails N (3 : Int32) S) fun v1 S2 =>
    some (v1, S2)
def pf_addValue_74 (N : Nat) (x1 : Int32) (x2 : Int32) (x3 : Int32) (x4 : Int32) (S : mS) : Option (Int32 × mS) :=
    bd (pf_makes N x1 (1 : Int32) x2 x3 x4 (0 : Int32) S) fun v1 S2 =>
    bd (pf_valuesBehind N x1 x2 x3 S2) fun v3 S4 =>
    some (v3, S4)
def pf_addValue (N : Nat) (x1 : Int32) (x2 : Int32) (x3 : Int32) (x4 : Int32) (S : mS) : Option (Int32 × mS) :=
    bd (pf_refuses N x1 x2 x3 x4 S) fun v1 S2 =>
    sv (mI S2 0 v1) fun S3 =>
    if (S3.1 0) ≤ (0 : Int32) then (
      gd x2 48 <|
      bd (pf_allowedBy N (S3.2 40 x2.toNatClampNeg) S3) fun v4 S5 =>
      if ((v4 >>> (x3 &&& 31)) &&& (1 : Int32)) = (0 : Int32) then (
        pf_addValue_68 N S5)
      else (
        bd (pf_hasMatch N x2 x3 x4 S5) fun v6 S7 =>
        if v6 = (0 : Int32) then (
          gd x3 10 <|
          if (S7.2 2 x3.toNatClampNeg) = (0 : Int32) then (
            pf_addValue_74 N x1 x2 x3 x4 S7)
          else (
            bd (pf_countOf N x2 x3 S7) fun v8 S9 =>
            if v8 ≤ (0 : Int32) then (
              pf_addValue_74 N x1 x2 x3 x4 S9)
            else (
              pf_addValue_68 N S9)))
        else (
          pf_addValue_68 N S7)))
    else (
      some ((0 : Int32), S3))

set_option maxRecDepth 100000 in
set_option maxHeartbeats 4000000 in
theorem c_addValue (l : Launch) (N : Nat) (x1 : Int32) (x2 : Int32) (x3 : Int32) (x4 : Int32) : mMet l yX10_addValue cX10_addValue 6 .int 7 [.int x1, .int x2, .int x3, .int x4] (pf_addValue N x1 x2 x3 x4) := by
  refine mStart (by decide +kernel) rfl (fun h => [(0, .ref h), (1, .int x1), (2, .int x2), (3, .int x3), (4, .int x4)]) (fun _ => Nat.le_of_ble_eq_true rfl) (fun _ => rfl) ?_
  intro dC dI h cI cZ a sz S r Sf hpf p e s m args below meth c C hr hz H locs I ls hl
  have hx := C.1
  have hb := C.2.1
  unfold pf_addValue at hpf
  have hC_68 : ∀ (S : mS) (H : Heap) (locs : List Loc), mV dC dI h cI cZ a s S H locs → ∀ ls : Array Slot, lv_has ls 6 [(0, .ref h)] → pf_addValue_68 N S = some (r, Sf) → W p l e (mRm 7) s m args below meth c H locs 0 0 (MQ below (mQ dC dI h cI cZ a sz r Sf) args s 0 0 (mAt h cI cZ a sz)) (F0 m 68 ls []) := by
    intro S H locs I ls hl hpf
    unfold pf_addValue_68 at hpf
    refine lv_aload_n hx hb dX10_addValue_68 rfl (lv_at hl 0 rfl) ?_
    refine lv_iconst (v := (3 : Int32)) hx hb dX10_addValue_69 (by decide) ?_
    refine m_callI (rest := []) (As := [.int (3 : Int32)]) C I fn_fails (c_fails l N (3 : Int32)) (by decide) 70 dX10_addValue_70 rfl hl.1 rfl (Nat.le_of_ble_eq_true rfl) hpf (fun v1 S2 H locs I hpf => ?_)
    exact m_reti C I hr hz 73 dX10_addValue_73 hpf
  have hC_74 : ∀ (x1 : Int32) (x2 : Int32) (x3 : Int32) (x4 : Int32) (S : mS) (H : Heap) (locs : List Loc), mV dC dI h cI cZ a s S H locs → ∀ ls : Array Slot, lv_has ls 6 [(0, .ref h), (1, .int x1), (2, .int x2), (3, .int x3), (4, .int x4)] → pf_addValue_74 N x1 x2 x3 x4 S = some (r, Sf) → W p l e (mRm 7) s m args below meth c H locs 0 0 (MQ below (mQ dC dI h cI cZ a sz r Sf) args s 0 0 (mAt h cI cZ a sz)) (F0 m 74 ls []) := by
    intro x1 x2 x3 x4 S H locs I ls hl hpf
    unfold pf_addValue_74 at hpf
    refine lv_aload_n hx hb dX10_addValue_74 rfl (lv_at hl 0 rfl) ?_
    refine lv_iload_n hx hb dX10_addValue_75 rfl (lv_at hl 1 rfl) ?_
    refine lv_iconst (v := (1 : Int32)) hx hb dX10_addValue_76 (by decide) ?_
    refine lv_iload_n hx hb dX10_addValue_77 rfl (lv_at hl 2 rfl) ?_
    refine lv_iload_n hx hb dX10_addValue_78 rfl (lv_at hl 3 rfl) ?_
    refine lv_iload hx hb dX10_addValue_79 (lv_at hl 4 rfl) ?_
    refine lv_iconst (v := (0 : Int32)) hx hb dX10_addValue_81 (by decide) ?_
    refine m_callI (rest := []) (As := [.int x1, .int (1 : Int32), .int x2, .int x3, .int x4, .int (0 : Int32)]) C I fn_makes (c_makes l N x1 (1 : Int32) x2 x3 x4 (0 : Int32)) (by decide) 82 dX10_addValue_82 rfl hl.1 rfl (Nat.le_of_ble_eq_true rfl) hpf (fun v1 S2 H locs I hpf => ?_)
    refine lv_istore (lv' := [(5, .int v1), (0, .ref h), (1, .int x1), (2, .int x2), (3, .int x3), (4, .int x4)]) hx hb dX10_addValue_85 hl (by decide) rfl (fun ls hl => ?_)
    refine lv_aload_n hx hb dX10_addValue_87 rfl (lv_at hl 1 rfl) ?_
    refine lv_iload_n hx hb dX10_addValue_88 rfl (lv_at hl 2 rfl) ?_
    refine lv_iload_n hx hb dX10_addValue_89 rfl (lv_at hl 3 rfl) ?_
    refine lv_iload_n hx hb dX10_addValue_90 rfl (lv_at hl 4 rfl) ?_
    refine m_callI (rest := []) (As := [.int x1, .int x2, .int x3]) C I fn_valuesBehind (c_valuesBehind l N x1 x2 x3) (by decide) 91 dX10_addValue_91 rfl hl.1 rfl (Nat.le_of_ble_eq_true rfl) hpf (fun v3 S4 H locs I hpf => ?_)
    exact m_reti C I hr hz 94 dX10_addValue_94 hpf
  refine lv_aload_n hx hb dX10_addValue_0 rfl (lv_at hl 0 rfl) ?_
  refine lv_aload_n hx hb dX10_addValue_1 rfl (lv_at hl 0 rfl) ?_
  refine lv_iload_n hx hb dX10_addValue_2 rfl (lv_at hl 1 rfl) ?_
  refine lv_iload_n hx hb dX10_addValue_3 rfl (lv_at hl 2 rfl) ?_
  refine lv_iload_n hx hb dX10_addValue_4 rfl (lv_at hl 3 rfl) ?_
  refine lv_iload hx hb dX10_addValue_5 (lv_at hl 4 rfl) ?_
  refine m_callI (rest := [.ref h]) (As := [.int x1, .int x2, .int x3, .int x4]) C I fn_refuses (c_refuses l N x1 x2 x3 x4) (by decide) 7 dX10_addValue_7 rfl hl.1 rfl (Nat.le_of_ble_eq_true rfl) hpf (fun v1 S2 H locs I hpf => ?_)
  refine m_puti C I mInt_0 kM_62 10 dX10_addValue_10 hpf (fun S3 H locs I hpf => ?_)
  refine lv_aload_n hx hb dX10_addValue_13 rfl (lv_at hl 0 rfl) ?_
  refine m_geti C I mInt_0 kM_62 14 dX10_addValue_14 ?_
  refine b_if_le hx hb 22 17 dX10_addValue_17 (by decide) hpf (fun hpf => ?_) (fun hpf => ?_)
  · refine lv_aload_n hx hb dX10_addValue_22 rfl (lv_at hl 0 rfl) ?_
    refine lv_aload_n hx hb dX10_addValue_23 rfl (lv_at hl 0 rfl) ?_
    refine m_getr C I mRef_40 kM_37 24 dX10_addValue_24 ?_
    refine lv_iload_n hx hb dX10_addValue_27 rfl (lv_at hl 2 rfl) ?_
    refine m_iald C I mArr_40 28 dX10_addValue_28 hpf (fun hpf => ?_)
    refine m_callI (rest := []) (As := [.int (S3.2 40 x2.toNatClampNeg)]) C I fn_allowedBy (c_allowedBy l N (S3.2 40 x2.toNatClampNeg)) (by decide) 29 dX10_addValue_29 rfl hl.1 rfl (Nat.le_of_ble_eq_true rfl) hpf (fun v4 S5 H locs I hpf => ?_)
    refine lv_iload_n hx hb dX10_addValue_32 rfl (lv_at hl 3 rfl) ?_
    refine lv_ishr hx hb dX10_addValue_33 ?_
    refine lv_iconst (v := (1 : Int32)) hx hb dX10_addValue_34 (by decide) ?_
    refine lv_iand hx hb dX10_addValue_35 ?_
    refine b_if_eq hx hb 68 36 dX10_addValue_36 (by decide) hpf (fun hpf => ?_) (fun hpf => ?_)
    · exact hC_68 S5 H locs I ls (lv_sub hl [0] rfl) hpf
    refine lv_aload_n hx hb dX10_addValue_39 rfl (lv_at hl 0 rfl) ?_
    refine lv_iload_n hx hb dX10_addValue_40 rfl (lv_at hl 2 rfl) ?_
    refine lv_iload_n hx hb dX10_addValue_41 rfl (lv_at hl 3 rfl) ?_
    refine lv_iload hx hb dX10_addValue_42 (lv_at hl 4 rfl) ?_
    refine m_callI (rest := []) (As := [.int x2, .int x3, .int x4]) C I fn_hasMatch (c_hasMatch l N x2 x3 x4) (by decide) 44 dX10_addValue_44 rfl hl.1 rfl (Nat.le_of_ble_eq_true rfl) hpf (fun v6 S7 H locs I hpf => ?_)
    refine b_if_ne hx hb 68 47 dX10_addValue_47 (by decide) hpf (fun hpf => ?_) (fun hpf => ?_)
    · exact hC_68 S7 H locs I ls (lv_sub hl [0] rfl) hpf
    refine lv_aload_n hx hb dX10_addValue_50 rfl (lv_at hl 0 rfl) ?_
    refine m_getr C I mRef_2 kM_4 51 dX10_addValue_51 ?_
    refine lv_iload_n hx hb dX10_addValue_54 rfl (lv_at hl 3 rfl) ?_
    refine m_zald C I mArr_2 55 dX10_addValue_55 hpf (fun hpf => ?_)
    refine b_if_eq hx hb 74 56 dX10_addValue_56 (by decide) hpf (fun hpf => ?_) (fun hpf => ?_)
    · exact hC_74 x1 x2 x3 x4 S7 H locs I ls (lv_sub hl [0, 1, 2, 3, 4] rfl) hpf
    refine lv_aload_n hx hb dX10_addValue_59 rfl (lv_at hl 0 rfl) ?_
    refine lv_iload_n hx hb dX10_addValue_60 rfl (lv_at hl 2 rfl) ?_
    refine lv_iload_n hx hb dX10_addValue_61 rfl (lv_at hl 3 rfl) ?_
    refine m_callI (rest := []) (As := [.int x2, .int x3]) C I fn_countOf (c_countOf l N x2 x3) (by decide) 62 dX10_addValue_62 rfl hl.1 rfl (Nat.le_of_ble_eq_true rfl) hpf (fun v8 S9 H locs I hpf => ?_)
    refine b_if_le hx hb 74 65 dX10_addValue_65 (by decide) hpf (fun hpf => ?_) (fun hpf => ?_)
    · exact hC_74 x1 x2 x3 x4 S9 H locs I ls (lv_sub hl [0, 1, 2, 3, 4] rfl) hpf
    exact hC_68 S9 H locs I ls (lv_sub hl [0] rfl) hpf
  refine lv_iconst (v := (0 : Int32)) hx hb dX10_addValue_20 (by decide) ?_
  exact m_reti C I hr hz 21 dX10_addValue_21 hpf
-- ===== removeValue =====
def pf_removeValue_73 (N : Nat) (S : mS) : Option (Int32 × mS) :=
    bd (pf_fails N (3 : Int32) S) fun v1 S2 =>
    some (v1, S2)
def pf_removeValue_55 (N : Nat) (t0 : Int32) (x1 : Int32) (x2 : Int32) (x3 : Int32) (x4 : Int32) (S : mS) : Option (Int32 × mS) :=
    bd (pf_hasMatch N x2 x3 x4 S) fun v1 S2 =>
    if v1 = (0 : Int32) then (
      pf_removeValue_73 N S2)
    else (
      if t0 = (0 : Int32) then (
        bd (pf_makes N x1 (2 : Int32) x2 x3 x4 (0 : Int32) S2) fun v3 S4 =>
        bd (pf_valuesBehind N x1 x2 x3 S4) fun v5 S6 =>
        some (v5, S6))
      else (
        pf_removeValue_73 N S2))
def pf_removeValue (N : Nat) (x1 : Int32) (x2 : Int32) (x3 : Int32) (x4 : Int32) (S : mS) : Option (Int32 × mS) :=
    bd (pf_refuses N x1 x2 x3 x4 S) fun v1 S2 =>
    sv (mI S2 0 v1) fun S3 =>
    if (S3.1 0) ≤ (0 : Int32) then (
      gd x2 48 <|
      bd (pf_requiredBy N (S3.2 40 x2.toNatClampNeg) S3) fun v4 S5 =>
      if ((v4 >>> (x3 &&& 31)) &&& (1 : Int32)) = (1 : Int32) then (
        bd (pf_countOf N x2 x3 S5) fun v6 S7 =>
        if (2 : Int32) ≤ v6 then (
          pf_removeValue_55 N (0 : Int32) x1 x2 x3 x4 S7)
        else (
          pf_removeValue_55 N (1 : Int32) x1 x2 x3 x4 S7))
      else (
        pf_removeValue_55 N (0 : Int32) x1 x2 x3 x4 S5))
    else (
      some ((0 : Int32), S3))

set_option maxRecDepth 100000 in
set_option maxHeartbeats 4000000 in
theorem c_removeValue (l : Launch) (N : Nat) (x1 : Int32) (x2 : Int32) (x3 : Int32) (x4 : Int32) : mMet l yX10_removeValue cX10_removeValue 7 .int 7 [.int x1, .int x2, .int x3, .int x4] (pf_removeValue N x1 x2 x3 x4) := by
  refine mStart (by decide +kernel) rfl (fun h => [(0, .ref h), (1, .int x1), (2, .int x2), (3, .int x3), (4, .int x4)]) (fun _ => Nat.le_of_ble_eq_true rfl) (fun _ => rfl) ?_
  intro dC dI h cI cZ a sz S r Sf hpf p e s m args below meth c C hr hz H locs I ls hl
  have hx := C.1
  have hb := C.2.1
  unfold pf_removeValue at hpf
  have hC_73 : ∀ (S : mS) (H : Heap) (locs : List Loc), mV dC dI h cI cZ a s S H locs → ∀ ls : Array Slot, lv_has ls 7 [(0, .ref h)] → pf_removeValue_73 N S = some (r, Sf) → W p l e (mRm 7) s m args below meth c H locs 0 0 (MQ below (mQ dC dI h cI cZ a sz r Sf) args s 0 0 (mAt h cI cZ a sz)) (F0 m 73 ls []) := by
    intro S H locs I ls hl hpf
    unfold pf_removeValue_73 at hpf
    refine lv_aload_n hx hb dX10_removeValue_73 rfl (lv_at hl 0 rfl) ?_
    refine lv_iconst (v := (3 : Int32)) hx hb dX10_removeValue_74 (by decide) ?_
    refine m_callI (rest := []) (As := [.int (3 : Int32)]) C I fn_fails (c_fails l N (3 : Int32)) (by decide) 75 dX10_removeValue_75 rfl hl.1 rfl (Nat.le_of_ble_eq_true rfl) hpf (fun v1 S2 H locs I hpf => ?_)
    exact m_reti C I hr hz 78 dX10_removeValue_78 hpf
  have hC_55 : ∀ (t0 : Int32) (x1 : Int32) (x2 : Int32) (x3 : Int32) (x4 : Int32) (S : mS) (H : Heap) (locs : List Loc), mV dC dI h cI cZ a s S H locs → ∀ ls : Array Slot, lv_has ls 7 [(0, .ref h), (1, .int x1), (2, .int x2), (3, .int x3), (4, .int x4)] → pf_removeValue_55 N t0 x1 x2 x3 x4 S = some (r, Sf) → W p l e (mRm 7) s m args below meth c H locs 0 0 (MQ below (mQ dC dI h cI cZ a sz r Sf) args s 0 0 (mAt h cI cZ a sz)) (F0 m 55 ls [.int t0]) := by
    intro t0 x1 x2 x3 x4 S H locs I ls hl hpf
    unfold pf_removeValue_55 at hpf
    refine lv_istore (lv' := [(5, .int t0), (0, .ref h), (1, .int x1), (2, .int x2), (3, .int x3), (4, .int x4)]) hx hb dX10_removeValue_55 hl (by decide) rfl (fun ls hl => ?_)
    refine lv_aload_n hx hb dX10_removeValue_57 rfl (lv_at hl 1 rfl) ?_
    refine lv_iload_n hx hb dX10_removeValue_58 rfl (lv_at hl 3 rfl) ?_
    refine lv_iload_n hx hb dX10_removeValue_59 rfl (lv_at hl 4 rfl) ?_
    refine lv_iload hx hb dX10_removeValue_60 (lv_at hl 5 rfl) ?_
    refine m_callI (rest := []) (As := [.int x2, .int x3, .int x4]) C I fn_hasMatch (c_hasMatch l N x2 x3 x4) (by decide) 62 dX10_removeValue_62 rfl hl.1 rfl (Nat.le_of_ble_eq_true rfl) hpf (fun v1 S2 H locs I hpf => ?_)
    refine b_if_eq hx hb 73 65 dX10_removeValue_65 (by decide) hpf (fun hpf => ?_) (fun hpf => ?_)
    · exact hC_73 S2 H locs I ls (lv_sub hl [1] rfl) hpf
    refine lv_iload hx hb dX10_removeValue_68 (lv_at hl 0 rfl) ?_
    refine b_if_eq hx hb 79 70 dX10_removeValue_70 (by decide) hpf (fun hpf => ?_) (fun hpf => ?_)
    · refine lv_aload_n hx hb dX10_removeValue_79 rfl (lv_at hl 1 rfl) ?_
      refine lv_iload_n hx hb dX10_removeValue_80 rfl (lv_at hl 2 rfl) ?_
      refine lv_iconst (v := (2 : Int32)) hx hb dX10_removeValue_81 (by decide) ?_
      refine lv_iload_n hx hb dX10_removeValue_82 rfl (lv_at hl 3 rfl) ?_
      refine lv_iload_n hx hb dX10_removeValue_83 rfl (lv_at hl 4 rfl) ?_
      refine lv_iload hx hb dX10_removeValue_84 (lv_at hl 5 rfl) ?_
      refine lv_iconst (v := (0 : Int32)) hx hb dX10_removeValue_86 (by decide) ?_
      refine m_callI (rest := []) (As := [.int x1, .int (2 : Int32), .int x2, .int x3, .int x4, .int (0 : Int32)]) C I fn_makes (c_makes l N x1 (2 : Int32) x2 x3 x4 (0 : Int32)) (by decide) 87 dX10_removeValue_87 rfl hl.1 rfl (Nat.le_of_ble_eq_true rfl) hpf (fun v3 S4 H locs I hpf => ?_)
      refine lv_istore (lv' := [(6, .int v3), (5, .int t0), (0, .ref h), (1, .int x1), (2, .int x2), (3, .int x3), (4, .int x4)]) hx hb dX10_removeValue_90 hl (by decide) rfl (fun ls hl => ?_)
      refine lv_aload_n hx hb dX10_removeValue_92 rfl (lv_at hl 2 rfl) ?_
      refine lv_iload_n hx hb dX10_removeValue_93 rfl (lv_at hl 3 rfl) ?_
      refine lv_iload_n hx hb dX10_removeValue_94 rfl (lv_at hl 4 rfl) ?_
      refine lv_iload_n hx hb dX10_removeValue_95 rfl (lv_at hl 5 rfl) ?_
      refine m_callI (rest := []) (As := [.int x1, .int x2, .int x3]) C I fn_valuesBehind (c_valuesBehind l N x1 x2 x3) (by decide) 96 dX10_removeValue_96 rfl hl.1 rfl (Nat.le_of_ble_eq_true rfl) hpf (fun v5 S6 H locs I hpf => ?_)
      exact m_reti C I hr hz 99 dX10_removeValue_99 hpf
    exact hC_73 S2 H locs I ls (lv_sub hl [1] rfl) hpf
  refine lv_aload_n hx hb dX10_removeValue_0 rfl (lv_at hl 0 rfl) ?_
  refine lv_aload_n hx hb dX10_removeValue_1 rfl (lv_at hl 0 rfl) ?_
  refine lv_iload_n hx hb dX10_removeValue_2 rfl (lv_at hl 1 rfl) ?_
  refine lv_iload_n hx hb dX10_removeValue_3 rfl (lv_at hl 2 rfl) ?_
  refine lv_iload_n hx hb dX10_removeValue_4 rfl (lv_at hl 3 rfl) ?_
  refine lv_iload hx hb dX10_removeValue_5 (lv_at hl 4 rfl) ?_
  refine m_callI (rest := [.ref h]) (As := [.int x1, .int x2, .int x3, .int x4]) C I fn_refuses (c_refuses l N x1 x2 x3 x4) (by decide) 7 dX10_removeValue_7 rfl hl.1 rfl (Nat.le_of_ble_eq_true rfl) hpf (fun v1 S2 H locs I hpf => ?_)
  refine m_puti C I mInt_0 kM_62 10 dX10_removeValue_10 hpf (fun S3 H locs I hpf => ?_)
  refine lv_aload_n hx hb dX10_removeValue_13 rfl (lv_at hl 0 rfl) ?_
  refine m_geti C I mInt_0 kM_62 14 dX10_removeValue_14 ?_
  refine b_if_le hx hb 22 17 dX10_removeValue_17 (by decide) hpf (fun hpf => ?_) (fun hpf => ?_)
  · refine lv_aload_n hx hb dX10_removeValue_22 rfl (lv_at hl 0 rfl) ?_
    refine lv_aload_n hx hb dX10_removeValue_23 rfl (lv_at hl 0 rfl) ?_
    refine m_getr C I mRef_40 kM_37 24 dX10_removeValue_24 ?_
    refine lv_iload_n hx hb dX10_removeValue_27 rfl (lv_at hl 2 rfl) ?_
    refine m_iald C I mArr_40 28 dX10_removeValue_28 hpf (fun hpf => ?_)
    refine m_callI (rest := []) (As := [.int (S3.2 40 x2.toNatClampNeg)]) C I fn_requiredBy (c_requiredBy l N (S3.2 40 x2.toNatClampNeg)) (by decide) 29 dX10_removeValue_29 rfl hl.1 rfl (Nat.le_of_ble_eq_true rfl) hpf (fun v4 S5 H locs I hpf => ?_)
    refine lv_iload_n hx hb dX10_removeValue_32 rfl (lv_at hl 3 rfl) ?_
    refine lv_ishr hx hb dX10_removeValue_33 ?_
    refine lv_iconst (v := (1 : Int32)) hx hb dX10_removeValue_34 (by decide) ?_
    refine lv_iand hx hb dX10_removeValue_35 ?_
    refine lv_iconst (v := (1 : Int32)) hx hb dX10_removeValue_36 (by decide) ?_
    refine b_icmp_ne hx hb 54 37 dX10_removeValue_37 (by decide) hpf (fun hpf => ?_) (fun hpf => ?_)
    · refine lv_iconst (v := (0 : Int32)) hx hb dX10_removeValue_54 (by decide) ?_
      exact hC_55 (0 : Int32) x1 x2 x3 x4 S5 H locs I ls (lv_sub hl [0, 1, 2, 3, 4] rfl) hpf
    refine lv_aload_n hx hb dX10_removeValue_40 rfl (lv_at hl 0 rfl) ?_
    refine lv_iload_n hx hb dX10_removeValue_41 rfl (lv_at hl 2 rfl) ?_
    refine lv_iload_n hx hb dX10_removeValue_42 rfl (lv_at hl 3 rfl) ?_
    refine m_callI (rest := []) (As := [.int x2, .int x3]) C I fn_countOf (c_countOf l N x2 x3) (by decide) 43 dX10_removeValue_43 rfl hl.1 rfl (Nat.le_of_ble_eq_true rfl) hpf (fun v6 S7 H locs I hpf => ?_)
    refine lv_iconst (v := (2 : Int32)) hx hb dX10_removeValue_46 (by decide) ?_
    refine b_icmp_ge hx hb 54 47 dX10_removeValue_47 (by decide) hpf (fun hpf => ?_) (fun hpf => ?_)
    · refine lv_iconst (v := (0 : Int32)) hx hb dX10_removeValue_54 (by decide) ?_
      exact hC_55 (0 : Int32) x1 x2 x3 x4 S7 H locs I ls (lv_sub hl [0, 1, 2, 3, 4] rfl) hpf
    refine lv_iconst (v := (1 : Int32)) hx hb dX10_removeValue_50 (by decide) ?_
    refine lv_goto (tgt := 55) hx hb dX10_removeValue_51 (by decide) ?_
    exact hC_55 (1 : Int32) x1 x2 x3 x4 S7 H locs I ls (lv_sub hl [0, 1, 2, 3, 4] rfl) hpf
  refine lv_iconst (v := (0 : Int32)) hx hb dX10_removeValue_20 (by decide) ?_
  exact m_reti C I hr hz 21 dX10_removeValue_21 hpf
-- ===== replace =====
def pf_replace (N : Nat) (x1 : Int32) (x2 : Int32) (x3 : Int32) (x4 : Int32) (S : mS) : Option (Int32 × mS) :=
    bd (pf_refuses N x1 x2 x3 x4 S) fun v1 S2 =>
    sv (mI S2 0 v1) fun S3 =>
    if (S3.1 0) ≤ (0 : Int32) then (
      gd x2 48 <|
      bd (pf_allowedBy N (S3.2 40 x2.toNatClampNeg) S3) fun v4 S5 =>
      if ((v4 >>> (x3 &&& 31)) &&& (1 : Int32)) = (0 : Int32) then (
        bd (pf_fails N (3 : Int32) S5) fun v10 S11 =>
        some (v10, S11))
      else (
        bd (pf_countOf N x2 x3 S5) fun v6 S7 =>
        bd (pf_makes N x1 (3 : Int32) x2 x3 x4 (0 : Int32) S7) fun v8 S9 =>
        some (v6, S9)))
    else (
      some ((0 : Int32), S3))

set_option maxRecDepth 100000 in
set_option maxHeartbeats 4000000 in
theorem c_replace (l : Launch) (N : Nat) (x1 : Int32) (x2 : Int32) (x3 : Int32) (x4 : Int32) : mMet l yX10_replace cX10_replace 7 .int 7 [.int x1, .int x2, .int x3, .int x4] (pf_replace N x1 x2 x3 x4) := by
  refine mStart (by decide +kernel) rfl (fun h => [(0, .ref h), (1, .int x1), (2, .int x2), (3, .int x3), (4, .int x4)]) (fun _ => Nat.le_of_ble_eq_true rfl) (fun _ => rfl) ?_
  intro dC dI h cI cZ a sz S r Sf hpf p e s m args below meth c C hr hz H locs I ls hl
  have hx := C.1
  have hb := C.2.1
  unfold pf_replace at hpf
  refine lv_aload_n hx hb dX10_replace_0 rfl (lv_at hl 0 rfl) ?_
  refine lv_aload_n hx hb dX10_replace_1 rfl (lv_at hl 0 rfl) ?_
  refine lv_iload_n hx hb dX10_replace_2 rfl (lv_at hl 1 rfl) ?_
  refine lv_iload_n hx hb dX10_replace_3 rfl (lv_at hl 2 rfl) ?_
  refine lv_iload_n hx hb dX10_replace_4 rfl (lv_at hl 3 rfl) ?_
  refine lv_iload hx hb dX10_replace_5 (lv_at hl 4 rfl) ?_
  refine m_callI (rest := [.ref h]) (As := [.int x1, .int x2, .int x3, .int x4]) C I fn_refuses (c_refuses l N x1 x2 x3 x4) (by decide) 7 dX10_replace_7 rfl hl.1 rfl (Nat.le_of_ble_eq_true rfl) hpf (fun v1 S2 H locs I hpf => ?_)
  refine m_puti C I mInt_0 kM_62 10 dX10_replace_10 hpf (fun S3 H locs I hpf => ?_)
  refine lv_aload_n hx hb dX10_replace_13 rfl (lv_at hl 0 rfl) ?_
  refine m_geti C I mInt_0 kM_62 14 dX10_replace_14 ?_
  refine b_if_le hx hb 22 17 dX10_replace_17 (by decide) hpf (fun hpf => ?_) (fun hpf => ?_)
  · refine lv_aload_n hx hb dX10_replace_22 rfl (lv_at hl 0 rfl) ?_
    refine lv_aload_n hx hb dX10_replace_23 rfl (lv_at hl 0 rfl) ?_
    refine m_getr C I mRef_40 kM_37 24 dX10_replace_24 ?_
    refine lv_iload_n hx hb dX10_replace_27 rfl (lv_at hl 2 rfl) ?_
    refine m_iald C I mArr_40 28 dX10_replace_28 hpf (fun hpf => ?_)
    refine m_callI (rest := []) (As := [.int (S3.2 40 x2.toNatClampNeg)]) C I fn_allowedBy (c_allowedBy l N (S3.2 40 x2.toNatClampNeg)) (by decide) 29 dX10_replace_29 rfl hl.1 rfl (Nat.le_of_ble_eq_true rfl) hpf (fun v4 S5 H locs I hpf => ?_)
    refine lv_iload_n hx hb dX10_replace_32 rfl (lv_at hl 3 rfl) ?_
    refine lv_ishr hx hb dX10_replace_33 ?_
    refine lv_iconst (v := (1 : Int32)) hx hb dX10_replace_34 (by decide) ?_
    refine lv_iand hx hb dX10_replace_35 ?_
    refine b_if_ne hx hb 45 36 dX10_replace_36 (by decide) hpf (fun hpf => ?_) (fun hpf => ?_)
    · refine lv_aload_n hx hb dX10_replace_45 rfl (lv_at hl 0 rfl) ?_
      refine lv_iload_n hx hb dX10_replace_46 rfl (lv_at hl 2 rfl) ?_
      refine lv_iload_n hx hb dX10_replace_47 rfl (lv_at hl 3 rfl) ?_
      refine m_callI (rest := []) (As := [.int x2, .int x3]) C I fn_countOf (c_countOf l N x2 x3) (by decide) 48 dX10_replace_48 rfl hl.1 rfl (Nat.le_of_ble_eq_true rfl) hpf (fun v6 S7 H locs I hpf => ?_)
      refine lv_istore (lv' := [(5, .int v6), (0, .ref h), (1, .int x1), (2, .int x2), (3, .int x3), (4, .int x4)]) hx hb dX10_replace_51 hl (by decide) rfl (fun ls hl => ?_)
      refine lv_aload_n hx hb dX10_replace_53 rfl (lv_at hl 1 rfl) ?_
      refine lv_iload_n hx hb dX10_replace_54 rfl (lv_at hl 2 rfl) ?_
      refine lv_iconst (v := (3 : Int32)) hx hb dX10_replace_55 (by decide) ?_
      refine lv_iload_n hx hb dX10_replace_56 rfl (lv_at hl 3 rfl) ?_
      refine lv_iload_n hx hb dX10_replace_57 rfl (lv_at hl 4 rfl) ?_
      refine lv_iload hx hb dX10_replace_58 (lv_at hl 5 rfl) ?_
      refine lv_iconst (v := (0 : Int32)) hx hb dX10_replace_60 (by decide) ?_
      refine m_callI (rest := []) (As := [.int x1, .int (3 : Int32), .int x2, .int x3, .int x4, .int (0 : Int32)]) C I fn_makes (c_makes l N x1 (3 : Int32) x2 x3 x4 (0 : Int32)) (by decide) 61 dX10_replace_61 rfl hl.1 rfl (Nat.le_of_ble_eq_true rfl) hpf (fun v8 S9 H locs I hpf => ?_)
      refine lv_istore (lv' := [(6, .int v8), (5, .int v6), (0, .ref h), (1, .int x1), (2, .int x2), (3, .int x3), (4, .int x4)]) hx hb dX10_replace_64 hl (by decide) rfl (fun ls hl => ?_)
      refine lv_iload hx hb dX10_replace_66 (lv_at hl 1 rfl) ?_
      exact m_reti C I hr hz 68 dX10_replace_68 hpf
    refine lv_aload_n hx hb dX10_replace_39 rfl (lv_at hl 0 rfl) ?_
    refine lv_iconst (v := (3 : Int32)) hx hb dX10_replace_40 (by decide) ?_
    refine m_callI (rest := []) (As := [.int (3 : Int32)]) C I fn_fails (c_fails l N (3 : Int32)) (by decide) 41 dX10_replace_41 rfl hl.1 rfl (Nat.le_of_ble_eq_true rfl) hpf (fun v10 S11 H locs I hpf => ?_)
    exact m_reti C I hr hz 44 dX10_replace_44 hpf
  refine lv_iconst (v := (0 : Int32)) hx hb dX10_replace_20 (by decide) ?_
  exact m_reti C I hr hz 21 dX10_replace_21 hpf
-- ===== rename =====
def pf_rename_18 (N : Nat) (S : mS) : Option (Int32 × mS) :=
    bd (pf_fails N (1 : Int32) S) fun v1 S2 =>
    some (v1, S2)
def pf_rename_71 (N : Nat) (S : mS) : Option (Int32 × mS) :=
    bd (pf_fails N (3 : Int32) S) fun v1 S2 =>
    some (v1, S2)
def pf_rename (N : Nat) (x1 : Int32) (x2 : Int32) (x3 : Int32) (S : mS) : Option (Int32 × mS) :=
    sv (mI S 0 (0 : Int32)) fun S1 =>
    bd (pf_isAt N x1 x2 S1) fun v2 S3 =>
    if v2 = (0 : Int32) then (
      pf_rename_18 N S3)
    else (
      if x2 = (0 : Int32) then (
        pf_rename_18 N S3)
      else (
        bs (pf_in N x3 (0 : Int32) (99 : Int32)) fun v4 =>
        if v4 = (0 : Int32) then (
          bd (pf_fails N (2 : Int32) S3) fun v14 S15 =>
          some (v14, S15))
        else (
          bd (pf_isFull N S3) fun v5 S6 =>
          if v5 = (0 : Int32) then (
            bd (pf_mayWrite N x1 x2 S6) fun v7 S8 =>
            if v7 = (0 : Int32) then (
              pf_rename_71 N S8)
            else (
              gd x2 48 <|
              bd (pf_isNamed N (S8.2 45 x2.toNatClampNeg) x2 x3 S8) fun v9 S10 =>
              if v9 = (0 : Int32) then (
                gd x2 48 <|
                nm (S10.2 46 x2.toNatClampNeg) fun y11 =>
                bd (pf_makes N x1 (4 : Int32) x2 x3 (0 : Int32) (0 : Int32) S10) fun v12 S13 =>
                some (y11, S13))
              else (
                pf_rename_71 N S10)))
          else (
            pf_rename_71 N S6))))

set_option maxRecDepth 100000 in
set_option maxHeartbeats 4000000 in
theorem c_rename (l : Launch) (N : Nat) (x1 : Int32) (x2 : Int32) (x3 : Int32) : mMet l yX10_rename cX10_rename 6 .int 6 [.int x1, .int x2, .int x3] (pf_rename N x1 x2 x3) := by
  refine mStart (by decide +kernel) rfl (fun h => [(0, .ref h), (1, .int x1), (2, .int x2), (3, .int x3)]) (fun _ => Nat.le_of_ble_eq_true rfl) (fun _ => rfl) ?_
  intro dC dI h cI cZ a sz S r Sf hpf p e s m args below meth c C hr hz H locs I ls hl
  have hx := C.1
  have hb := C.2.1
  unfold pf_rename at hpf
  have hC_18 : ∀ (S : mS) (H : Heap) (locs : List Loc), mV dC dI h cI cZ a s S H locs → ∀ ls : Array Slot, lv_has ls 6 [(0, .ref h)] → pf_rename_18 N S = some (r, Sf) → W p l e (mRm 6) s m args below meth c H locs 0 0 (MQ below (mQ dC dI h cI cZ a sz r Sf) args s 0 0 (mAt h cI cZ a sz)) (F0 m 18 ls []) := by
    intro S H locs I ls hl hpf
    unfold pf_rename_18 at hpf
    refine lv_aload_n hx hb dX10_rename_18 rfl (lv_at hl 0 rfl) ?_
    refine lv_iconst (v := (1 : Int32)) hx hb dX10_rename_19 (by decide) ?_
    refine m_callI (rest := []) (As := [.int (1 : Int32)]) C I fn_fails (c_fails l N (1 : Int32)) (by decide) 20 dX10_rename_20 rfl hl.1 rfl (Nat.le_of_ble_eq_true rfl) hpf (fun v1 S2 H locs I hpf => ?_)
    exact m_reti C I hr hz 23 dX10_rename_23 hpf
  have hC_71 : ∀ (S : mS) (H : Heap) (locs : List Loc), mV dC dI h cI cZ a s S H locs → ∀ ls : Array Slot, lv_has ls 6 [(0, .ref h)] → pf_rename_71 N S = some (r, Sf) → W p l e (mRm 6) s m args below meth c H locs 0 0 (MQ below (mQ dC dI h cI cZ a sz r Sf) args s 0 0 (mAt h cI cZ a sz)) (F0 m 71 ls []) := by
    intro S H locs I ls hl hpf
    unfold pf_rename_71 at hpf
    refine lv_aload_n hx hb dX10_rename_71 rfl (lv_at hl 0 rfl) ?_
    refine lv_iconst (v := (3 : Int32)) hx hb dX10_rename_72 (by decide) ?_
    refine m_callI (rest := []) (As := [.int (3 : Int32)]) C I fn_fails (c_fails l N (3 : Int32)) (by decide) 73 dX10_rename_73 rfl hl.1 rfl (Nat.le_of_ble_eq_true rfl) hpf (fun v1 S2 H locs I hpf => ?_)
    exact m_reti C I hr hz 76 dX10_rename_76 hpf
  refine lv_aload_n hx hb dX10_rename_0 rfl (lv_at hl 0 rfl) ?_
  refine lv_iconst (v := (0 : Int32)) hx hb dX10_rename_1 (by decide) ?_
  refine m_puti C I mInt_0 kM_62 2 dX10_rename_2 hpf (fun S1 H locs I hpf => ?_)
  refine lv_aload_n hx hb dX10_rename_5 rfl (lv_at hl 0 rfl) ?_
  refine lv_iload_n hx hb dX10_rename_6 rfl (lv_at hl 1 rfl) ?_
  refine lv_iload_n hx hb dX10_rename_7 rfl (lv_at hl 2 rfl) ?_
  refine m_callI (rest := []) (As := [.int x1, .int x2]) C I fn_isAt (c_isAt l N x1 x2) (by decide) 8 dX10_rename_8 rfl hl.1 rfl (Nat.le_of_ble_eq_true rfl) hpf (fun v2 S3 H locs I hpf => ?_)
  refine b_if_eq hx hb 18 11 dX10_rename_11 (by decide) hpf (fun hpf => ?_) (fun hpf => ?_)
  · exact hC_18 S3 H locs I ls (lv_sub hl [0] rfl) hpf
  refine lv_iload_n hx hb dX10_rename_14 rfl (lv_at hl 2 rfl) ?_
  refine b_if_ne hx hb 24 15 dX10_rename_15 (by decide) hpf (fun hpf => ?_) (fun hpf => ?_)
  · refine lv_iload_n hx hb dX10_rename_24 rfl (lv_at hl 3 rfl) ?_
    refine lv_iconst (v := (0 : Int32)) hx hb dX10_rename_25 (by decide) ?_
    refine lv_bipush (v := (99 : Int32)) hx hb dX10_rename_26 (by decide) ?_
    refine m_callS (rest := []) (As := [.int x3, .int (0 : Int32), .int (99 : Int32)]) C I fn_in (c_in l N x3 (0 : Int32) (99 : Int32)) (by decide) 28 dX10_rename_28 rfl hl.1 rfl (Nat.le_of_ble_eq_true rfl) hpf (fun v4 H locs I hpf => ?_)
    refine b_if_ne hx hb 40 31 dX10_rename_31 (by decide) hpf (fun hpf => ?_) (fun hpf => ?_)
    · refine lv_aload_n hx hb dX10_rename_40 rfl (lv_at hl 0 rfl) ?_
      refine m_callI (rest := []) (As := []) C I fn_isFull (c_isFull l N ) (by decide) 41 dX10_rename_41 rfl hl.1 rfl (Nat.le_of_ble_eq_true rfl) hpf (fun v5 S6 H locs I hpf => ?_)
      refine b_if_ne hx hb 71 44 dX10_rename_44 (by decide) hpf (fun hpf => ?_) (fun hpf => ?_)
      · exact hC_71 S6 H locs I ls (lv_sub hl [0] rfl) hpf
      refine lv_aload_n hx hb dX10_rename_47 rfl (lv_at hl 0 rfl) ?_
      refine lv_iload_n hx hb dX10_rename_48 rfl (lv_at hl 1 rfl) ?_
      refine lv_iload_n hx hb dX10_rename_49 rfl (lv_at hl 2 rfl) ?_
      refine m_callI (rest := []) (As := [.int x1, .int x2]) C I fn_mayWrite (c_mayWrite l N x1 x2) (by decide) 50 dX10_rename_50 rfl hl.1 rfl (Nat.le_of_ble_eq_true rfl) hpf (fun v7 S8 H locs I hpf => ?_)
      refine b_if_eq hx hb 71 53 dX10_rename_53 (by decide) hpf (fun hpf => ?_) (fun hpf => ?_)
      · exact hC_71 S8 H locs I ls (lv_sub hl [0] rfl) hpf
      refine lv_aload_n hx hb dX10_rename_56 rfl (lv_at hl 0 rfl) ?_
      refine lv_aload_n hx hb dX10_rename_57 rfl (lv_at hl 0 rfl) ?_
      refine m_getr C I mRef_45 kM_42 58 dX10_rename_58 ?_
      refine lv_iload_n hx hb dX10_rename_61 rfl (lv_at hl 2 rfl) ?_
      refine m_iald C I mArr_45 62 dX10_rename_62 hpf (fun hpf => ?_)
      refine lv_iload_n hx hb dX10_rename_63 rfl (lv_at hl 2 rfl) ?_
      refine lv_iload_n hx hb dX10_rename_64 rfl (lv_at hl 3 rfl) ?_
      refine m_callI (rest := []) (As := [.int (S8.2 45 x2.toNatClampNeg), .int x2, .int x3]) C I fn_isNamed (c_isNamed l N (S8.2 45 x2.toNatClampNeg) x2 x3) (by decide) 65 dX10_rename_65 rfl hl.1 rfl (Nat.le_of_ble_eq_true rfl) hpf (fun v9 S10 H locs I hpf => ?_)
      refine b_if_eq hx hb 77 68 dX10_rename_68 (by decide) hpf (fun hpf => ?_) (fun hpf => ?_)
      · refine lv_aload_n hx hb dX10_rename_77 rfl (lv_at hl 0 rfl) ?_
        refine m_getr C I mRef_46 kM_43 78 dX10_rename_78 ?_
        refine lv_iload_n hx hb dX10_rename_81 rfl (lv_at hl 2 rfl) ?_
        refine m_iald C I mArr_46 82 dX10_rename_82 hpf (fun hpf => ?_)
        refine m_isto hx hb (fun y11 => [(4, .int y11), (0, .ref h), (1, .int x1), (2, .int x2), (3, .int x3)]) 83 dX10_rename_83 hl (by decide) (fun _ => rfl) hpf (fun y11 ls hl hpf => ?_)
        refine lv_aload_n hx hb dX10_rename_85 rfl (lv_at hl 1 rfl) ?_
        refine lv_iload_n hx hb dX10_rename_86 rfl (lv_at hl 2 rfl) ?_
        refine lv_iconst (v := (4 : Int32)) hx hb dX10_rename_87 (by decide) ?_
        refine lv_iload_n hx hb dX10_rename_88 rfl (lv_at hl 3 rfl) ?_
        refine lv_iload_n hx hb dX10_rename_89 rfl (lv_at hl 4 rfl) ?_
        refine lv_iconst (v := (0 : Int32)) hx hb dX10_rename_90 (by decide) ?_
        refine lv_iconst (v := (0 : Int32)) hx hb dX10_rename_91 (by decide) ?_
        refine m_callI (rest := []) (As := [.int x1, .int (4 : Int32), .int x2, .int x3, .int (0 : Int32), .int (0 : Int32)]) C I fn_makes (c_makes l N x1 (4 : Int32) x2 x3 (0 : Int32) (0 : Int32)) (by decide) 92 dX10_rename_92 rfl hl.1 rfl (Nat.le_of_ble_eq_true rfl) hpf (fun v12 S13 H locs I hpf => ?_)
        refine lv_istore (lv' := [(5, .int v12), (4, .int y11), (0, .ref h), (1, .int x1), (2, .int x2), (3, .int x3)]) hx hb dX10_rename_95 hl (by decide) rfl (fun ls hl => ?_)
        refine lv_iload hx hb dX10_rename_97 (lv_at hl 1 rfl) ?_
        exact m_reti C I hr hz 99 dX10_rename_99 hpf
      exact hC_71 S10 H locs I ls (lv_sub hl [0] rfl) hpf
    refine lv_aload_n hx hb dX10_rename_34 rfl (lv_at hl 0 rfl) ?_
    refine lv_iconst (v := (2 : Int32)) hx hb dX10_rename_35 (by decide) ?_
    refine m_callI (rest := []) (As := [.int (2 : Int32)]) C I fn_fails (c_fails l N (2 : Int32)) (by decide) 36 dX10_rename_36 rfl hl.1 rfl (Nat.le_of_ble_eq_true rfl) hpf (fun v14 S15 H locs I hpf => ?_)
    exact m_reti C I hr hz 39 dX10_rename_39 hpf
  exact hC_18 S3 H locs I ls (lv_sub hl [0] rfl) hpf
-- ===== move =====
def pf_move_26 (N : Nat) (S : mS) : Option (Int32 × mS) :=
    bd (pf_fails N (1 : Int32) S) fun v1 S2 =>
    some (v1, S2)
def pf_move_81 (N : Nat) (S : mS) : Option (Int32 × mS) :=
    bd (pf_fails N (2 : Int32) S) fun v1 S2 =>
    some (v1, S2)
def pf_move (N : Nat) (x1 : Int32) (x2 : Int32) (x3 : Int32) (S : mS) : Option (Int32 × mS) :=
    sv (mI S 0 (0 : Int32)) fun S1 =>
    bd (pf_isAt N x1 x2 S1) fun v2 S3 =>
    if v2 = (0 : Int32) then (
      pf_move_26 N S3)
    else (
      if x2 = (0 : Int32) then (
        pf_move_26 N S3)
      else (
        bd (pf_isLive N x3 S3) fun v4 S5 =>
        if v4 = (0 : Int32) then (
          pf_move_26 N S5)
        else (
          bd (pf_isFull N S5) fun v6 S7 =>
          if v6 = (0 : Int32) then (
            bd (pf_mayWrite N x1 x2 S7) fun v8 S9 =>
            if v8 = (0 : Int32) then (
              pf_move_81 N S9)
            else (
              bd (pf_mayWrite N x1 x3 S9) fun v10 S11 =>
              if v10 = (0 : Int32) then (
                pf_move_81 N S11)
              else (
                bd (pf_isUp N x2 x3 S11) fun v12 S13 =>
                if v12 = (0 : Int32) then (
                  gd x2 48 <|
                  bd (pf_isNamed N x3 x2 (S13.2 42 x2.toNatClampNeg) S13) fun v14 S15 =>
                  if v14 = (0 : Int32) then (
                    gd x2 48 <|
                    nm (S15.2 45 x2.toNatClampNeg) fun y16 =>
                    bd (pf_makes N x1 (7 : Int32) x2 x3 (0 : Int32) (0 : Int32) S15) fun v17 S18 =>
                    some (y16, S18))
                  else (
                    pf_move_81 N S15))
                else (
                  pf_move_81 N S13))))
          else (
            pf_move_81 N S7))))

set_option maxRecDepth 100000 in
set_option maxHeartbeats 4000000 in
theorem c_move (l : Launch) (N : Nat) (x1 : Int32) (x2 : Int32) (x3 : Int32) : mMet l yX10_move cX10_move 6 .int 6 [.int x1, .int x2, .int x3] (pf_move N x1 x2 x3) := by
  refine mStart (by decide +kernel) rfl (fun h => [(0, .ref h), (1, .int x1), (2, .int x2), (3, .int x3)]) (fun _ => Nat.le_of_ble_eq_true rfl) (fun _ => rfl) ?_
  intro dC dI h cI cZ a sz S r Sf hpf p e s m args below meth c C hr hz H locs I ls hl
  have hx := C.1
  have hb := C.2.1
  unfold pf_move at hpf
  have hC_26 : ∀ (S : mS) (H : Heap) (locs : List Loc), mV dC dI h cI cZ a s S H locs → ∀ ls : Array Slot, lv_has ls 6 [(0, .ref h)] → pf_move_26 N S = some (r, Sf) → W p l e (mRm 6) s m args below meth c H locs 0 0 (MQ below (mQ dC dI h cI cZ a sz r Sf) args s 0 0 (mAt h cI cZ a sz)) (F0 m 26 ls []) := by
    intro S H locs I ls hl hpf
    unfold pf_move_26 at hpf
    refine lv_aload_n hx hb dX10_move_26 rfl (lv_at hl 0 rfl) ?_
    refine lv_iconst (v := (1 : Int32)) hx hb dX10_move_27 (by decide) ?_
    refine m_callI (rest := []) (As := [.int (1 : Int32)]) C I fn_fails (c_fails l N (1 : Int32)) (by decide) 28 dX10_move_28 rfl hl.1 rfl (Nat.le_of_ble_eq_true rfl) hpf (fun v1 S2 H locs I hpf => ?_)
    exact m_reti C I hr hz 31 dX10_move_31 hpf
  have hC_81 : ∀ (S : mS) (H : Heap) (locs : List Loc), mV dC dI h cI cZ a s S H locs → ∀ ls : Array Slot, lv_has ls 6 [(0, .ref h)] → pf_move_81 N S = some (r, Sf) → W p l e (mRm 6) s m args below meth c H locs 0 0 (MQ below (mQ dC dI h cI cZ a sz r Sf) args s 0 0 (mAt h cI cZ a sz)) (F0 m 81 ls []) := by
    intro S H locs I ls hl hpf
    unfold pf_move_81 at hpf
    refine lv_aload_n hx hb dX10_move_81 rfl (lv_at hl 0 rfl) ?_
    refine lv_iconst (v := (2 : Int32)) hx hb dX10_move_82 (by decide) ?_
    refine m_callI (rest := []) (As := [.int (2 : Int32)]) C I fn_fails (c_fails l N (2 : Int32)) (by decide) 83 dX10_move_83 rfl hl.1 rfl (Nat.le_of_ble_eq_true rfl) hpf (fun v1 S2 H locs I hpf => ?_)
    exact m_reti C I hr hz 86 dX10_move_86 hpf
  refine lv_aload_n hx hb dX10_move_0 rfl (lv_at hl 0 rfl) ?_
  refine lv_iconst (v := (0 : Int32)) hx hb dX10_move_1 (by decide) ?_
  refine m_puti C I mInt_0 kM_62 2 dX10_move_2 hpf (fun S1 H locs I hpf => ?_)
  refine lv_aload_n hx hb dX10_move_5 rfl (lv_at hl 0 rfl) ?_
  refine lv_iload_n hx hb dX10_move_6 rfl (lv_at hl 1 rfl) ?_
  refine lv_iload_n hx hb dX10_move_7 rfl (lv_at hl 2 rfl) ?_
  refine m_callI (rest := []) (As := [.int x1, .int x2]) C I fn_isAt (c_isAt l N x1 x2) (by decide) 8 dX10_move_8 rfl hl.1 rfl (Nat.le_of_ble_eq_true rfl) hpf (fun v2 S3 H locs I hpf => ?_)
  refine b_if_eq hx hb 26 11 dX10_move_11 (by decide) hpf (fun hpf => ?_) (fun hpf => ?_)
  · exact hC_26 S3 H locs I ls (lv_sub hl [0] rfl) hpf
  refine lv_iload_n hx hb dX10_move_14 rfl (lv_at hl 2 rfl) ?_
  refine b_if_eq hx hb 26 15 dX10_move_15 (by decide) hpf (fun hpf => ?_) (fun hpf => ?_)
  · exact hC_26 S3 H locs I ls (lv_sub hl [0] rfl) hpf
  refine lv_aload_n hx hb dX10_move_18 rfl (lv_at hl 0 rfl) ?_
  refine lv_iload_n hx hb dX10_move_19 rfl (lv_at hl 3 rfl) ?_
  refine m_callI (rest := []) (As := [.int x3]) C I fn_isLive (c_isLive l N x3) (by decide) 20 dX10_move_20 rfl hl.1 rfl (Nat.le_of_ble_eq_true rfl) hpf (fun v4 S5 H locs I hpf => ?_)
  refine b_if_ne hx hb 32 23 dX10_move_23 (by decide) hpf (fun hpf => ?_) (fun hpf => ?_)
  · refine lv_aload_n hx hb dX10_move_32 rfl (lv_at hl 0 rfl) ?_
    refine m_callI (rest := []) (As := []) C I fn_isFull (c_isFull l N ) (by decide) 33 dX10_move_33 rfl hl.1 rfl (Nat.le_of_ble_eq_true rfl) hpf (fun v6 S7 H locs I hpf => ?_)
    refine b_if_ne hx hb 81 36 dX10_move_36 (by decide) hpf (fun hpf => ?_) (fun hpf => ?_)
    · exact hC_81 S7 H locs I ls (lv_sub hl [0] rfl) hpf
    refine lv_aload_n hx hb dX10_move_39 rfl (lv_at hl 0 rfl) ?_
    refine lv_iload_n hx hb dX10_move_40 rfl (lv_at hl 1 rfl) ?_
    refine lv_iload_n hx hb dX10_move_41 rfl (lv_at hl 2 rfl) ?_
    refine m_callI (rest := []) (As := [.int x1, .int x2]) C I fn_mayWrite (c_mayWrite l N x1 x2) (by decide) 42 dX10_move_42 rfl hl.1 rfl (Nat.le_of_ble_eq_true rfl) hpf (fun v8 S9 H locs I hpf => ?_)
    refine b_if_eq hx hb 81 45 dX10_move_45 (by decide) hpf (fun hpf => ?_) (fun hpf => ?_)
    · exact hC_81 S9 H locs I ls (lv_sub hl [0] rfl) hpf
    refine lv_aload_n hx hb dX10_move_48 rfl (lv_at hl 0 rfl) ?_
    refine lv_iload_n hx hb dX10_move_49 rfl (lv_at hl 1 rfl) ?_
    refine lv_iload_n hx hb dX10_move_50 rfl (lv_at hl 3 rfl) ?_
    refine m_callI (rest := []) (As := [.int x1, .int x3]) C I fn_mayWrite (c_mayWrite l N x1 x3) (by decide) 51 dX10_move_51 rfl hl.1 rfl (Nat.le_of_ble_eq_true rfl) hpf (fun v10 S11 H locs I hpf => ?_)
    refine b_if_eq hx hb 81 54 dX10_move_54 (by decide) hpf (fun hpf => ?_) (fun hpf => ?_)
    · exact hC_81 S11 H locs I ls (lv_sub hl [0] rfl) hpf
    refine lv_aload_n hx hb dX10_move_57 rfl (lv_at hl 0 rfl) ?_
    refine lv_iload_n hx hb dX10_move_58 rfl (lv_at hl 2 rfl) ?_
    refine lv_iload_n hx hb dX10_move_59 rfl (lv_at hl 3 rfl) ?_
    refine m_callI (rest := []) (As := [.int x2, .int x3]) C I fn_isUp (c_isUp l N x2 x3) (by decide) 60 dX10_move_60 rfl hl.1 rfl (Nat.le_of_ble_eq_true rfl) hpf (fun v12 S13 H locs I hpf => ?_)
    refine b_if_ne hx hb 81 63 dX10_move_63 (by decide) hpf (fun hpf => ?_) (fun hpf => ?_)
    · exact hC_81 S13 H locs I ls (lv_sub hl [0] rfl) hpf
    refine lv_aload_n hx hb dX10_move_66 rfl (lv_at hl 0 rfl) ?_
    refine lv_iload_n hx hb dX10_move_67 rfl (lv_at hl 3 rfl) ?_
    refine lv_iload_n hx hb dX10_move_68 rfl (lv_at hl 2 rfl) ?_
    refine lv_aload_n hx hb dX10_move_69 rfl (lv_at hl 0 rfl) ?_
    refine m_getr C I mRef_42 kM_39 70 dX10_move_70 ?_
    refine lv_iload_n hx hb dX10_move_73 rfl (lv_at hl 2 rfl) ?_
    refine m_iald C I mArr_42 74 dX10_move_74 hpf (fun hpf => ?_)
    refine m_callI (rest := []) (As := [.int x3, .int x2, .int (S13.2 42 x2.toNatClampNeg)]) C I fn_isNamed (c_isNamed l N x3 x2 (S13.2 42 x2.toNatClampNeg)) (by decide) 75 dX10_move_75 rfl hl.1 rfl (Nat.le_of_ble_eq_true rfl) hpf (fun v14 S15 H locs I hpf => ?_)
    refine b_if_eq hx hb 87 78 dX10_move_78 (by decide) hpf (fun hpf => ?_) (fun hpf => ?_)
    · refine lv_aload_n hx hb dX10_move_87 rfl (lv_at hl 0 rfl) ?_
      refine m_getr C I mRef_45 kM_42 88 dX10_move_88 ?_
      refine lv_iload_n hx hb dX10_move_91 rfl (lv_at hl 2 rfl) ?_
      refine m_iald C I mArr_45 92 dX10_move_92 hpf (fun hpf => ?_)
      refine m_isto hx hb (fun y16 => [(4, .int y16), (0, .ref h), (1, .int x1), (2, .int x2), (3, .int x3)]) 93 dX10_move_93 hl (by decide) (fun _ => rfl) hpf (fun y16 ls hl hpf => ?_)
      refine lv_aload_n hx hb dX10_move_95 rfl (lv_at hl 1 rfl) ?_
      refine lv_iload_n hx hb dX10_move_96 rfl (lv_at hl 2 rfl) ?_
      refine lv_bipush (v := (7 : Int32)) hx hb dX10_move_97 (by decide) ?_
      refine lv_iload_n hx hb dX10_move_99 rfl (lv_at hl 3 rfl) ?_
      refine lv_iload_n hx hb dX10_move_100 rfl (lv_at hl 4 rfl) ?_
      refine lv_iconst (v := (0 : Int32)) hx hb dX10_move_101 (by decide) ?_
      refine lv_iconst (v := (0 : Int32)) hx hb dX10_move_102 (by decide) ?_
      refine m_callI (rest := []) (As := [.int x1, .int (7 : Int32), .int x2, .int x3, .int (0 : Int32), .int (0 : Int32)]) C I fn_makes (c_makes l N x1 (7 : Int32) x2 x3 (0 : Int32) (0 : Int32)) (by decide) 103 dX10_move_103 rfl hl.1 rfl (Nat.le_of_ble_eq_true rfl) hpf (fun v17 S18 H locs I hpf => ?_)
      refine lv_istore (lv' := [(5, .int v17), (4, .int y16), (0, .ref h), (1, .int x1), (2, .int x2), (3, .int x3)]) hx hb dX10_move_106 hl (by decide) rfl (fun ls hl => ?_)
      refine lv_iload hx hb dX10_move_108 (lv_at hl 1 rfl) ?_
      exact m_reti C I hr hz 110 dX10_move_110 hpf
    exact hC_81 S15 H locs I ls (lv_sub hl [0] rfl) hpf
  exact hC_26 S5 H locs I ls (lv_sub hl [0] rfl) hpf
-- ===== isEmpty =====
def pf_isEmpty_37 (N : Nat) (k_4 : Int32 → Int32 → Int32 → mS → Option (Int32 × mS)) (t0 : Int32) (x1 : Int32) (x3 : Int32) (S : mS) : Option (Int32 × mS) :=
    nm (x3 + (1 : Int32)) fun y1 =>
    k_4 x1 t0 y1 S
def pf_isEmpty_4 (N : Nat) : Nat → Int32 → Int32 → Int32 → mS → Option (Int32 × mS)
  | 0 => fun _ _ _ _ => none
  | n_4 + 1 => fun x1 x2 x3 S =>
    if (48 : Int32) ≤ x3 then (
      zr x2 S)
    else (
      if x2 = (0 : Int32) then (
        pf_isEmpty_37 N (pf_isEmpty_4 N n_4) (0 : Int32) x1 x3 S)
      else (
        bd (pf_isLive N x3 S) fun v1 S2 =>
        if v1 = (0 : Int32) then (
          pf_isEmpty_37 N (pf_isEmpty_4 N n_4) (1 : Int32) x1 x3 S2)
        else (
          gd x3 48 <|
          if (S2.2 45 x3.toNatClampNeg) = x1 then (
            pf_isEmpty_37 N (pf_isEmpty_4 N n_4) (0 : Int32) x1 x3 S2)
          else (
            pf_isEmpty_37 N (pf_isEmpty_4 N n_4) (1 : Int32) x1 x3 S2))))
def pf_isEmpty (N : Nat) (x1 : Int32) (S : mS) : Option (Int32 × mS) :=
    pf_isEmpty_4 N N x1 (1 : Int32) (1 : Int32) S
theorem fn_isEmpty : mFnI yX10_isEmpty cX10_isEmpty 4 (some .boolean) 1 301 := ⟨kM_208, kM_209, kM_210, kM_198, rfl, by decide +kernel, by decide⟩
set_option maxRecDepth 100000 in
set_option maxHeartbeats 4000000 in
theorem c_isEmpty (l : Launch) (N : Nat) (x1 : Int32) : mMet l yX10_isEmpty cX10_isEmpty 4 .boolean 2 [.int x1] (pf_isEmpty N x1) := by
  refine mStart (by decide +kernel) rfl (fun h => [(0, .ref h), (1, .int x1)]) (fun _ => Nat.le_of_ble_eq_true rfl) (fun _ => rfl) ?_
  intro dC dI h cI cZ a sz S r Sf hpf p e s m args below meth c C hr hz H locs I ls hl
  have hx := C.1
  have hb := C.2.1
  unfold pf_isEmpty at hpf
  have hC_4 : ∀ (n_4 : Nat), ∀ (x1 : Int32) (x2 : Int32) (x3 : Int32) (S : mS) (H : Heap) (locs : List Loc), mV dC dI h cI cZ a s S H locs → ∀ ls : Array Slot, lv_has ls 4 [(0, .ref h), (1, .int x1), (2, .int x2), (3, .int x3)] → pf_isEmpty_4 N n_4 x1 x2 x3 S = some (r, Sf) → W p l e (mRm 2) s m args below meth c H locs 0 0 (MQ below (mQ dC dI h cI cZ a sz r Sf) args s 0 0 (mAt h cI cZ a sz)) (F0 m 4 ls []) := by
    intro n_4
    induction n_4 with
    | zero =>
      intro x1 x2 x3 S H locs I ls hl hpf
      rw [pf_isEmpty_4] at hpf
      cases hpf
    | succ n_4 ih_4 =>
      have hC_37 : ∀ (t0 : Int32) (x1 : Int32) (x3 : Int32) (S : mS) (H : Heap) (locs : List Loc), mV dC dI h cI cZ a s S H locs → ∀ ls : Array Slot, lv_has ls 4 [(0, .ref h), (1, .int x1), (3, .int x3)] → pf_isEmpty_37 N (pf_isEmpty_4 N n_4) t0 x1 x3 S = some (r, Sf) → W p l e (mRm 2) s m args below meth c H locs 0 0 (MQ below (mQ dC dI h cI cZ a sz r Sf) args s 0 0 (mAt h cI cZ a sz)) (F0 m 37 ls [.int t0]) := by
        intro t0 x1 x3 S H locs I ls hl hpf
        unfold pf_isEmpty_37 at hpf
        refine lv_istore_n (lv' := [(2, .int t0), (0, .ref h), (1, .int x1), (3, .int x3)]) hx hb dX10_isEmpty_37 rfl hl (by decide) rfl (fun ls hl => ?_)
        refine m_iinc (w := (1 : Int32)) hx hb (fun y1 => [(3, .int y1), (2, .int t0), (0, .ref h), (1, .int x1)]) 38 dX10_isEmpty_38 hl (k := 3) rfl (by decide) (by decide) (fun _ => rfl) hpf (fun y1 ls hl hpf => ?_)
        refine lv_goto (tgt := 4) hx hb dX10_isEmpty_41 (by decide) ?_
        exact ih_4 x1 t0 y1 S H locs I ls (lv_sub hl [2, 3, 1, 0] rfl) hpf
      intro x1 x2 x3 S H locs I ls hl hpf
      rw [pf_isEmpty_4] at hpf
      refine lv_iload_n hx hb dX10_isEmpty_4 rfl (lv_at hl 3 rfl) ?_
      refine lv_bipush (v := (48 : Int32)) hx hb dX10_isEmpty_5 (by decide) ?_
      refine b_icmp_ge hx hb 44 7 dX10_isEmpty_7 (by decide) hpf (fun hpf => ?_) (fun hpf => ?_)
      · refine lv_iload_n hx hb dX10_isEmpty_44 rfl (lv_at hl 2 rfl) ?_
        exact m_retz C I hr hz 45 dX10_isEmpty_45 hpf
      refine lv_iload_n hx hb dX10_isEmpty_10 rfl (lv_at hl 2 rfl) ?_
      refine b_if_eq hx hb 36 11 dX10_isEmpty_11 (by decide) hpf (fun hpf => ?_) (fun hpf => ?_)
      · refine lv_iconst (v := (0 : Int32)) hx hb dX10_isEmpty_36 (by decide) ?_
        exact hC_37 (0 : Int32) x1 x3 S H locs I ls (lv_sub hl [0, 1, 3] rfl) hpf
      refine lv_aload_n hx hb dX10_isEmpty_14 rfl (lv_at hl 0 rfl) ?_
      refine lv_iload_n hx hb dX10_isEmpty_15 rfl (lv_at hl 3 rfl) ?_
      refine m_callI (rest := []) (As := [.int x3]) C I fn_isLive (c_isLive l N x3) (by decide) 16 dX10_isEmpty_16 rfl hl.1 rfl (Nat.le_of_ble_eq_true rfl) hpf (fun v1 S2 H locs I hpf => ?_)
      refine b_if_eq hx hb 32 19 dX10_isEmpty_19 (by decide) hpf (fun hpf => ?_) (fun hpf => ?_)
      · refine lv_iconst (v := (1 : Int32)) hx hb dX10_isEmpty_32 (by decide) ?_
        refine lv_goto (tgt := 37) hx hb dX10_isEmpty_33 (by decide) ?_
        exact hC_37 (1 : Int32) x1 x3 S2 H locs I ls (lv_sub hl [0, 1, 3] rfl) hpf
      refine lv_aload_n hx hb dX10_isEmpty_22 rfl (lv_at hl 0 rfl) ?_
      refine m_getr C I mRef_45 kM_42 23 dX10_isEmpty_23 ?_
      refine lv_iload_n hx hb dX10_isEmpty_26 rfl (lv_at hl 3 rfl) ?_
      refine m_iald C I mArr_45 27 dX10_isEmpty_27 hpf (fun hpf => ?_)
      refine lv_iload_n hx hb dX10_isEmpty_28 rfl (lv_at hl 1 rfl) ?_
      refine b_icmp_eq hx hb 36 29 dX10_isEmpty_29 (by decide) hpf (fun hpf => ?_) (fun hpf => ?_)
      · refine lv_iconst (v := (0 : Int32)) hx hb dX10_isEmpty_36 (by decide) ?_
        exact hC_37 (0 : Int32) x1 x3 S2 H locs I ls (lv_sub hl [0, 1, 3] rfl) hpf
      refine lv_iconst (v := (1 : Int32)) hx hb dX10_isEmpty_32 (by decide) ?_
      refine lv_goto (tgt := 37) hx hb dX10_isEmpty_33 (by decide) ?_
      exact hC_37 (1 : Int32) x1 x3 S2 H locs I ls (lv_sub hl [0, 1, 3] rfl) hpf
  refine lv_iconst (v := (1 : Int32)) hx hb dX10_isEmpty_0 (by decide) ?_
  refine lv_istore_n (lv' := [(2, .int (1 : Int32)), (0, .ref h), (1, .int x1)]) hx hb dX10_isEmpty_1 rfl hl (by decide) rfl (fun ls hl => ?_)
  refine lv_iconst (v := (1 : Int32)) hx hb dX10_isEmpty_2 (by decide) ?_
  refine lv_istore_n (lv' := [(3, .int (1 : Int32)), (2, .int (1 : Int32)), (0, .ref h), (1, .int x1)]) hx hb dX10_isEmpty_3 rfl hl (by decide) rfl (fun ls hl => ?_)
  exact hC_4 N x1 (1 : Int32) (1 : Int32) S H locs I ls (lv_sub hl [2, 3, 1, 0] rfl) hpf
