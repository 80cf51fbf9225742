-- ===== fits =====
def pf_fits_219 (N : Nat) (S : mS) : Option (Int32 × mS) :=
    gd (0 : Int32) 8 <|
    gd (S.2 17 (0 : Int32).toNatClampNeg) 15 <|
    zr (S.2 15 (S.2 17 (0 : Int32).toNatClampNeg).toNatClampNeg) S
def pf_fits_213 (N : Nat) (k_2 : Int32 → Int32 → mS → Option (Int32 × mS)) (x1 : Int32) (x2 : Int32) (S : mS) : Option (Int32 × mS) :=
    nm (x2 + (1 : Int32)) fun y1 =>
    k_2 x1 y1 S
def pf_fits_114 (N : Nat) (k_2 : Int32 → Int32 → mS → Option (Int32 × mS)) (t0 : Int32) (t1 : Int32) (x1 : Int32) (x2 : Int32) (S : mS) : Option (Int32 × mS) :=
    gd t1 15 <| sv (mA S 15 t1.toNatClampNeg (vp_nar .boolean t0)) fun S1 =>
    pf_fits_213 N k_2 x1 x2 S1
def pf_fits_212 (N : Nat) (k_2 : Int32 → Int32 → mS → Option (Int32 × mS)) (t0 : Int32) (t1 : Int32) (x1 : Int32) (x2 : Int32) (S : mS) : Option (Int32 × mS) :=
    gd t1 15 <| sv (mA S 15 t1.toNatClampNeg (vp_nar .boolean t0)) fun S1 =>
    pf_fits_213 N k_2 x1 x2 S1
def pf_fits_2 (N : Nat) (k_219 : mS → Option (Int32 × mS)) : Nat → Int32 → Int32 → mS → Option (Int32 × mS)
  | 0 => fun _ _ _ => none
  | n_2 + 1 => fun x1 x2 S =>
    if (S.1 11) ≤ x2 then (
      k_219 S)
    else (
      gd x2 15 <|
      nm (S.2 13 x2.toNatClampNeg) fun y1 =>
      gd x2 15 <|
      nm (S.2 14 x2.toNatClampNeg) fun y2 =>
      gd x2 15 <|
      if (4 : Int32) ≤ (S.2 12 x2.toNatClampNeg) then (
        gd x2 15 <|
        if (S.2 12 x2.toNatClampNeg) = (6 : Int32) then (
          gd y1 15 <|
          if (S.2 15 y1.toNatClampNeg) = (0 : Int32) then (
            pf_fits_212 N (pf_fits_2 N k_219 n_2) (1 : Int32) x2 x1 x2 S)
          else (
            pf_fits_212 N (pf_fits_2 N k_219 n_2) (0 : Int32) x2 x1 x2 S))
        else (
          gd x2 15 <|
          if (S.2 12 x2.toNatClampNeg) = (4 : Int32) then (
            gd y1 15 <|
            if (S.2 15 y1.toNatClampNeg) = (0 : Int32) then (
              pf_fits_212 N (pf_fits_2 N k_219 n_2) (0 : Int32) x2 x1 x2 S)
            else (
              gd y2 15 <|
              if (S.2 15 y2.toNatClampNeg) = (0 : Int32) then (
                pf_fits_212 N (pf_fits_2 N k_219 n_2) (0 : Int32) x2 x1 x2 S)
              else (
                pf_fits_212 N (pf_fits_2 N k_219 n_2) (1 : Int32) x2 x1 x2 S)))
          else (
            gd y1 15 <|
            if (S.2 15 y1.toNatClampNeg) = (0 : Int32) then (
              gd y2 15 <|
              if (S.2 15 y2.toNatClampNeg) = (0 : Int32) then (
                pf_fits_212 N (pf_fits_2 N k_219 n_2) (0 : Int32) x2 x1 x2 S)
              else (
                pf_fits_212 N (pf_fits_2 N k_219 n_2) (1 : Int32) x2 x1 x2 S))
            else (
              pf_fits_212 N (pf_fits_2 N k_219 n_2) (1 : Int32) x2 x1 x2 S))))
      else (
        gd x2 15 <|
        if (S.2 12 x2.toNatClampNeg) = (0 : Int32) then (
          bd (pf_hasMatch N x1 y1 y2 S) fun v9 S10 =>
          pf_fits_114 N (pf_fits_2 N k_219 n_2) v9 x2 x1 x2 S10)
        else (
          gd x2 15 <|
          if (S.2 12 x2.toNatClampNeg) = (1 : Int32) then (
            bd (pf_isAsMuch N x1 y1 y2 S) fun v7 S8 =>
            pf_fits_114 N (pf_fits_2 N k_219 n_2) v7 x2 x1 x2 S8)
          else (
            gd x2 15 <|
            if (S.2 12 x2.toNatClampNeg) = (2 : Int32) then (
              bd (pf_countOf N x1 y1 S) fun v5 S6 =>
              if v5 ≤ (0 : Int32) then (
                pf_fits_114 N (pf_fits_2 N k_219 n_2) (0 : Int32) x2 x1 x2 S6)
              else (
                pf_fits_114 N (pf_fits_2 N k_219 n_2) (1 : Int32) x2 x1 x2 S6))
            else (
              bd (pf_isClassOf N x1 y1 S) fun v3 S4 =>
              pf_fits_114 N (pf_fits_2 N k_219 n_2) v3 x2 x1 x2 S4)))))
def pf_fits (N : Nat) (x1 : Int32) (S : mS) : Option (Int32 × mS) :=
    pf_fits_2 N (pf_fits_219 N) N x1 (0 : Int32) S
theorem fn_fits : mFnI yX10_fits cX10_fits 5 (some .boolean) 1 337 := ⟨kM_254, kM_255, kM_256, kM_248, rfl, by decide +kernel, by decide⟩
set_option maxRecDepth 100000 in
set_option maxHeartbeats 4000000 in
theorem c_fits (l : Launch) (N : Nat) (x1 : Int32) : mMet l yX10_fits cX10_fits 5 .boolean 2 [.int x1] (pf_fits N x1) := by
  refine mStart (by decide +kernel) rfl (fun h => [(0, .ref h), (1, .int x1)]) (fun _ => Nat.le_of_ble_eq_true rfl) (fun _ => rfl) ?_
  intro dC dI h cI cZ a sz S r Sf hpf p e s m args below meth c C hr hz H locs I ls hl
  have hx := C.1
  have hb := C.2.1
  unfold pf_fits at hpf
  have hC_219 : ∀ (S : mS) (H : Heap) (locs : List Loc), mV dC dI h cI cZ a s S H locs → ∀ ls : Array Slot, lv_has ls 5 [(0, .ref h)] → pf_fits_219 N S = some (r, Sf) → W p l e (mRm 2) s m args below meth c H locs 0 0 (MQ below (mQ dC dI h cI cZ a sz r Sf) args s 0 0 (mAt h cI cZ a sz)) (F0 m 219 ls []) := by
    intro S H locs I ls hl hpf
    unfold pf_fits_219 at hpf
    refine lv_aload_n hx hb dX10_fits_219 rfl (lv_at hl 0 rfl) ?_
    refine m_getr C I mRef_15 kM_15 220 dX10_fits_220 ?_
    refine lv_aload_n hx hb dX10_fits_223 rfl (lv_at hl 0 rfl) ?_
    refine m_getr C I mRef_17 kM_16 224 dX10_fits_224 ?_
    refine lv_iconst (v := (0 : Int32)) hx hb dX10_fits_227 (by decide) ?_
    refine m_iald C I mArr_17 228 dX10_fits_228 hpf (fun hpf => ?_)
    refine m_zald C I mArr_15 229 dX10_fits_229 hpf (fun hpf => ?_)
    exact m_retz C I hr hz 230 dX10_fits_230 hpf
  have hC_2 : ∀ (n_2 : Nat), ∀ (x1 : Int32) (x2 : Int32) (S : mS) (H : Heap) (locs : List Loc), mV dC dI h cI cZ a s S H locs → ∀ ls : Array Slot, lv_has ls 5 [(0, .ref h), (1, .int x1), (2, .int x2)] → pf_fits_2 N (pf_fits_219 N) n_2 x1 x2 S = some (r, Sf) → W p l e (mRm 2) s m args below meth c H locs 0 0 (MQ below (mQ dC dI h cI cZ a sz r Sf) args s 0 0 (mAt h cI cZ a sz)) (F0 m 2 ls []) := by
    intro n_2
    induction n_2 with
    | zero =>
      intro x1 x2 S H locs I ls hl hpf
      rw [pf_fits_2] at hpf
      cases hpf
    | succ n_2 ih_2 =>
      have hC_213 : ∀ (x1 : Int32) (x2 : Int32) (S : mS) (H : Heap) (locs : List Loc), mV dC dI h cI cZ a s S H locs → ∀ ls : Array Slot, lv_has ls 5 [(0, .ref h), (1, .int x1), (2, .int x2)] → pf_fits_213 N (pf_fits_2 N (pf_fits_219 N) n_2) x1 x2 S = some (r, Sf) → W p l e (mRm 2) s m args below meth c H locs 0 0 (MQ below (mQ dC dI h cI cZ a sz r Sf) args s 0 0 (mAt h cI cZ a sz)) (F0 m 213 ls []) := by
        intro x1 x2 S H locs I ls hl hpf
        unfold pf_fits_213 at hpf
        refine m_iinc (w := (1 : Int32)) hx hb (fun y1 => [(2, .int y1), (0, .ref h), (1, .int x1)]) 213 dX10_fits_213 hl (k := 2) rfl (by decide) (by decide) (fun _ => rfl) hpf (fun y1 ls hl hpf => ?_)
        refine lv_goto (tgt := 2) hx hb dX10_fits_216 (by decide) ?_
        exact ih_2 x1 y1 S H locs I ls (lv_sub hl [1, 2, 0] rfl) hpf
      have hC_114 : ∀ (t0 : Int32) (t1 : Int32) (x1 : Int32) (x2 : Int32) (S : mS) (H : Heap) (locs : List Loc), mV dC dI h cI cZ a s S H locs → ∀ ls : Array Slot, lv_has ls 5 [(0, .ref h), (1, .int x1), (2, .int x2)] → pf_fits_114 N (pf_fits_2 N (pf_fits_219 N) n_2) t0 t1 x1 x2 S = some (r, Sf) → W p l e (mRm 2) s m args below meth c H locs 0 0 (MQ below (mQ dC dI h cI cZ a sz r Sf) args s 0 0 (mAt h cI cZ a sz)) (F0 m 114 ls [.int t0, .int t1, .ref (a 15)]) := by
        intro t0 t1 x1 x2 S H locs I ls hl hpf
        unfold pf_fits_114 at hpf
        refine m_zast C I mArr_15 114 dX10_fits_114 hpf (fun S1 H locs I hpf => ?_)
        refine lv_goto (tgt := 213) hx hb dX10_fits_115 (by decide) ?_
        exact hC_213 x1 x2 S1 H locs I ls (lv_sub hl [0, 1, 2] rfl) hpf
      have hC_212 : ∀ (t0 : Int32) (t1 : Int32) (x1 : Int32) (x2 : Int32) (S : mS) (H : Heap) (locs : List Loc), mV dC dI h cI cZ a s S H locs → ∀ ls : Array Slot, lv_has ls 5 [(0, .ref h), (1, .int x1), (2, .int x2)] → pf_fits_212 N (pf_fits_2 N (pf_fits_219 N) n_2) t0 t1 x1 x2 S = some (r, Sf) → W p l e (mRm 2) s m args below meth c H locs 0 0 (MQ below (mQ dC dI h cI cZ a sz r Sf) args s 0 0 (mAt h cI cZ a sz)) (F0 m 212 ls [.int t0, .int t1, .ref (a 15)]) := by
        intro t0 t1 x1 x2 S H locs I ls hl hpf
        unfold pf_fits_212 at hpf
        refine m_zast C I mArr_15 212 dX10_fits_212 hpf (fun S1 H locs I hpf => ?_)
        exact hC_213 x1 x2 S1 H locs I ls (lv_sub hl [0, 1, 2] rfl) hpf
      intro x1 x2 S H locs I ls hl hpf
      rw [pf_fits_2] at hpf
      refine lv_iload_n hx hb dX10_fits_2 rfl (lv_at hl 2 rfl) ?_
      refine lv_aload_n hx hb dX10_fits_3 rfl (lv_at hl 0 rfl) ?_
      refine m_geti C I mInt_11 kM_225 4 dX10_fits_4 ?_
      refine b_icmp_ge hx hb 219 7 dX10_fits_7 (by decide) hpf (fun hpf => ?_) (fun hpf => ?_)
      · exact hC_219 S H locs I ls (lv_sub hl [0] rfl) hpf
      refine lv_aload_n hx hb dX10_fits_10 rfl (lv_at hl 0 rfl) ?_
      refine m_getr C I mRef_13 kM_13 11 dX10_fits_11 ?_
      refine lv_iload_n hx hb dX10_fits_14 rfl (lv_at hl 2 rfl) ?_
      refine m_iald C I mArr_13 15 dX10_fits_15 hpf (fun hpf => ?_)
      refine m_isto_n hx hb (fun y1 => [(3, .int y1), (0, .ref h), (1, .int x1), (2, .int x2)]) 16 dX10_fits_16 rfl hl (by decide) (fun _ => rfl) hpf (fun y1 ls hl hpf => ?_)
      refine lv_aload_n hx hb dX10_fits_17 rfl (lv_at hl 1 rfl) ?_
      refine m_getr C I mRef_14 kM_14 18 dX10_fits_18 ?_
      refine lv_iload_n hx hb dX10_fits_21 rfl (lv_at hl 3 rfl) ?_
      refine m_iald C I mArr_14 22 dX10_fits_22 hpf (fun hpf => ?_)
      refine m_isto hx hb (fun y2 => [(4, .int y2), (3, .int y1), (0, .ref h), (1, .int x1), (2, .int x2)]) 23 dX10_fits_23 hl (by decide) (fun _ => rfl) hpf (fun y2 ls hl hpf => ?_)
      refine lv_aload_n hx hb dX10_fits_25 rfl (lv_at hl 2 rfl) ?_
      refine m_getr C I mRef_12 kM_12 26 dX10_fits_26 ?_
      refine lv_iload_n hx hb dX10_fits_29 rfl (lv_at hl 4 rfl) ?_
      refine m_iald C I mArr_12 30 dX10_fits_30 hpf (fun hpf => ?_)
      refine lv_iconst (v := (4 : Int32)) hx hb dX10_fits_31 (by decide) ?_
      refine b_icmp_ge hx hb 118 32 dX10_fits_32 (by decide) hpf (fun hpf => ?_) (fun hpf => ?_)
      · refine lv_aload_n hx hb dX10_fits_118 rfl (lv_at hl 2 rfl) ?_
        refine m_getr C I mRef_15 kM_15 119 dX10_fits_119 ?_
        refine lv_iload_n hx hb dX10_fits_122 rfl (lv_at hl 4 rfl) ?_
        refine lv_aload_n hx hb dX10_fits_123 rfl (lv_at hl 2 rfl) ?_
        refine m_getr C I mRef_12 kM_12 124 dX10_fits_124 ?_
        refine lv_iload_n hx hb dX10_fits_127 rfl (lv_at hl 4 rfl) ?_
        refine m_iald C I mArr_12 128 dX10_fits_128 hpf (fun hpf => ?_)
        refine lv_bipush (v := (6 : Int32)) hx hb dX10_fits_129 (by decide) ?_
        refine b_icmp_ne hx hb 151 131 dX10_fits_131 (by decide) hpf (fun hpf => ?_) (fun hpf => ?_)
        · refine lv_aload_n hx hb dX10_fits_151 rfl (lv_at hl 2 rfl) ?_
          refine m_getr C I mRef_12 kM_12 152 dX10_fits_152 ?_
          refine lv_iload_n hx hb dX10_fits_155 rfl (lv_at hl 4 rfl) ?_
          refine m_iald C I mArr_12 156 dX10_fits_156 hpf (fun hpf => ?_)
          refine lv_iconst (v := (4 : Int32)) hx hb dX10_fits_157 (by decide) ?_
          refine b_icmp_ne hx hb 188 158 dX10_fits_158 (by decide) hpf (fun hpf => ?_) (fun hpf => ?_)
          · refine lv_aload_n hx hb dX10_fits_188 rfl (lv_at hl 2 rfl) ?_
            refine m_getr C I mRef_15 kM_15 189 dX10_fits_189 ?_
            refine lv_iload_n hx hb dX10_fits_192 rfl (lv_at hl 1 rfl) ?_
            refine m_zald C I mArr_15 193 dX10_fits_193 hpf (fun hpf => ?_)
            refine b_if_ne hx hb 207 194 dX10_fits_194 (by decide) hpf (fun hpf => ?_) (fun hpf => ?_)
            · refine lv_iconst (v := (1 : Int32)) hx hb dX10_fits_207 (by decide) ?_
              refine lv_goto (tgt := 212) hx hb dX10_fits_208 (by decide) ?_
              exact hC_212 (1 : Int32) x2 x1 x2 S H locs I ls (lv_sub hl [2, 3, 4] rfl) hpf
            refine lv_aload_n hx hb dX10_fits_197 rfl (lv_at hl 2 rfl) ?_
            refine m_getr C I mRef_15 kM_15 198 dX10_fits_198 ?_
            refine lv_iload hx hb dX10_fits_201 (lv_at hl 0 rfl) ?_
            refine m_zald C I mArr_15 203 dX10_fits_203 hpf (fun hpf => ?_)
            refine b_if_eq hx hb 211 204 dX10_fits_204 (by decide) hpf (fun hpf => ?_) (fun hpf => ?_)
            · refine lv_iconst (v := (0 : Int32)) hx hb dX10_fits_211 (by decide) ?_
              exact hC_212 (0 : Int32) x2 x1 x2 S H locs I ls (lv_sub hl [2, 3, 4] rfl) hpf
            refine lv_iconst (v := (1 : Int32)) hx hb dX10_fits_207 (by decide) ?_
            refine lv_goto (tgt := 212) hx hb dX10_fits_208 (by decide) ?_
            exact hC_212 (1 : Int32) x2 x1 x2 S H locs I ls (lv_sub hl [2, 3, 4] rfl) hpf
          refine lv_aload_n hx hb dX10_fits_161 rfl (lv_at hl 2 rfl) ?_
          refine m_getr C I mRef_15 kM_15 162 dX10_fits_162 ?_
          refine lv_iload_n hx hb dX10_fits_165 rfl (lv_at hl 1 rfl) ?_
          refine m_zald C I mArr_15 166 dX10_fits_166 hpf (fun hpf => ?_)
          refine b_if_eq hx hb 184 167 dX10_fits_167 (by decide) hpf (fun hpf => ?_) (fun hpf => ?_)
          · refine lv_iconst (v := (0 : Int32)) hx hb dX10_fits_184 (by decide) ?_
            refine lv_goto (tgt := 212) hx hb dX10_fits_185 (by decide) ?_
            exact hC_212 (0 : Int32) x2 x1 x2 S H locs I ls (lv_sub hl [2, 3, 4] rfl) hpf
          refine lv_aload_n hx hb dX10_fits_170 rfl (lv_at hl 2 rfl) ?_
          refine m_getr C I mRef_15 kM_15 171 dX10_fits_171 ?_
          refine lv_iload hx hb dX10_fits_174 (lv_at hl 0 rfl) ?_
          refine m_zald C I mArr_15 176 dX10_fits_176 hpf (fun hpf => ?_)
          refine b_if_eq hx hb 184 177 dX10_fits_177 (by decide) hpf (fun hpf => ?_) (fun hpf => ?_)
          · refine lv_iconst (v := (0 : Int32)) hx hb dX10_fits_184 (by decide) ?_
            refine lv_goto (tgt := 212) hx hb dX10_fits_185 (by decide) ?_
            exact hC_212 (0 : Int32) x2 x1 x2 S H locs I ls (lv_sub hl [2, 3, 4] rfl) hpf
          refine lv_iconst (v := (1 : Int32)) hx hb dX10_fits_180 (by decide) ?_
          refine lv_goto (tgt := 212) hx hb dX10_fits_181 (by decide) ?_
          exact hC_212 (1 : Int32) x2 x1 x2 S H locs I ls (lv_sub hl [2, 3, 4] rfl) hpf
        refine lv_aload_n hx hb dX10_fits_134 rfl (lv_at hl 2 rfl) ?_
        refine m_getr C I mRef_15 kM_15 135 dX10_fits_135 ?_
        refine lv_iload_n hx hb dX10_fits_138 rfl (lv_at hl 1 rfl) ?_
        refine m_zald C I mArr_15 139 dX10_fits_139 hpf (fun hpf => ?_)
        refine b_if_ne hx hb 147 140 dX10_fits_140 (by decide) hpf (fun hpf => ?_) (fun hpf => ?_)
        · refine lv_iconst (v := (0 : Int32)) hx hb dX10_fits_147 (by decide) ?_
          refine lv_goto (tgt := 212) hx hb dX10_fits_148 (by decide) ?_
          exact hC_212 (0 : Int32) x2 x1 x2 S H locs I ls (lv_sub hl [2, 3, 4] rfl) hpf
        refine lv_iconst (v := (1 : Int32)) hx hb dX10_fits_143 (by decide) ?_
        refine lv_goto (tgt := 212) hx hb dX10_fits_144 (by decide) ?_
        exact hC_212 (1 : Int32) x2 x1 x2 S H locs I ls (lv_sub hl [2, 3, 4] rfl) hpf
      refine lv_aload_n hx hb dX10_fits_35 rfl (lv_at hl 2 rfl) ?_
      refine m_getr C I mRef_15 kM_15 36 dX10_fits_36 ?_
      refine lv_iload_n hx hb dX10_fits_39 rfl (lv_at hl 4 rfl) ?_
      refine lv_aload_n hx hb dX10_fits_40 rfl (lv_at hl 2 rfl) ?_
      refine m_getr C I mRef_12 kM_12 41 dX10_fits_41 ?_
      refine lv_iload_n hx hb dX10_fits_44 rfl (lv_at hl 4 rfl) ?_
      refine m_iald C I mArr_12 45 dX10_fits_45 hpf (fun hpf => ?_)
      refine b_if_ne hx hb 60 46 dX10_fits_46 (by decide) hpf (fun hpf => ?_) (fun hpf => ?_)
      · refine lv_aload_n hx hb dX10_fits_60 rfl (lv_at hl 2 rfl) ?_
        refine m_getr C I mRef_12 kM_12 61 dX10_fits_61 ?_
        refine lv_iload_n hx hb dX10_fits_64 rfl (lv_at hl 4 rfl) ?_
        refine m_iald C I mArr_12 65 dX10_fits_65 hpf (fun hpf => ?_)
        refine lv_iconst (v := (1 : Int32)) hx hb dX10_fits_66 (by decide) ?_
        refine b_icmp_ne hx hb 81 67 dX10_fits_67 (by decide) hpf (fun hpf => ?_) (fun hpf => ?_)
        · refine lv_aload_n hx hb dX10_fits_81 rfl (lv_at hl 2 rfl) ?_
          refine m_getr C I mRef_12 kM_12 82 dX10_fits_82 ?_
          refine lv_iload_n hx hb dX10_fits_85 rfl (lv_at hl 4 rfl) ?_
          refine m_iald C I mArr_12 86 dX10_fits_86 hpf (fun hpf => ?_)
          refine lv_iconst (v := (2 : Int32)) hx hb dX10_fits_87 (by decide) ?_
          refine b_icmp_ne hx hb 108 88 dX10_fits_88 (by decide) hpf (fun hpf => ?_) (fun hpf => ?_)
          · refine lv_aload_n hx hb dX10_fits_108 rfl (lv_at hl 2 rfl) ?_
            refine lv_iload_n hx hb dX10_fits_109 rfl (lv_at hl 3 rfl) ?_
            refine lv_iload_n hx hb dX10_fits_110 rfl (lv_at hl 1 rfl) ?_
            refine m_callI (rest := [.int x2, .ref (a 15)]) (As := [.int x1, .int y1]) C I fn_isClassOf (c_isClassOf l N x1 y1) (by decide) 111 dX10_fits_111 rfl hl.1 rfl (Nat.le_of_ble_eq_true rfl) hpf (fun v3 S4 H locs I hpf => ?_)
            exact hC_114 v3 x2 x1 x2 S4 H locs I ls (lv_sub hl [2, 3, 4] rfl) hpf
          refine lv_aload_n hx hb dX10_fits_91 rfl (lv_at hl 2 rfl) ?_
          refine lv_iload_n hx hb dX10_fits_92 rfl (lv_at hl 3 rfl) ?_
          refine lv_iload_n hx hb dX10_fits_93 rfl (lv_at hl 1 rfl) ?_
          refine m_callI (rest := [.int x2, .ref (a 15)]) (As := [.int x1, .int y1]) C I fn_countOf (c_countOf l N x1 y1) (by decide) 94 dX10_fits_94 rfl hl.1 rfl (Nat.le_of_ble_eq_true rfl) hpf (fun v5 S6 H locs I hpf => ?_)
          refine b_if_le hx hb 104 97 dX10_fits_97 (by decide) hpf (fun hpf => ?_) (fun hpf => ?_)
          · refine lv_iconst (v := (0 : Int32)) hx hb dX10_fits_104 (by decide) ?_
            refine lv_goto (tgt := 114) hx hb dX10_fits_105 (by decide) ?_
            exact hC_114 (0 : Int32) x2 x1 x2 S6 H locs I ls (lv_sub hl [2, 3, 4] rfl) hpf
          refine lv_iconst (v := (1 : Int32)) hx hb dX10_fits_100 (by decide) ?_
          refine lv_goto (tgt := 114) hx hb dX10_fits_101 (by decide) ?_
          exact hC_114 (1 : Int32) x2 x1 x2 S6 H locs I ls (lv_sub hl [2, 3, 4] rfl) hpf
        refine lv_aload_n hx hb dX10_fits_70 rfl (lv_at hl 2 rfl) ?_
        refine lv_iload_n hx hb dX10_fits_71 rfl (lv_at hl 3 rfl) ?_
        refine lv_iload_n hx hb dX10_fits_72 rfl (lv_at hl 1 rfl) ?_
        refine lv_iload hx hb dX10_fits_73 (lv_at hl 0 rfl) ?_
        refine m_callI (rest := [.int x2, .ref (a 15)]) (As := [.int x1, .int y1, .int y2]) C I fn_isAsMuch (c_isAsMuch l N x1 y1 y2) (by decide) 75 dX10_fits_75 rfl hl.1 rfl (Nat.le_of_ble_eq_true rfl) hpf (fun v7 S8 H locs I hpf => ?_)
        refine lv_goto (tgt := 114) hx hb dX10_fits_78 (by decide) ?_
        exact hC_114 v7 x2 x1 x2 S8 H locs I ls (lv_sub hl [2, 3, 4] rfl) hpf
      refine lv_aload_n hx hb dX10_fits_49 rfl (lv_at hl 2 rfl) ?_
      refine lv_iload_n hx hb dX10_fits_50 rfl (lv_at hl 3 rfl) ?_
      refine lv_iload_n hx hb dX10_fits_51 rfl (lv_at hl 1 rfl) ?_
      refine lv_iload hx hb dX10_fits_52 (lv_at hl 0 rfl) ?_
      refine m_callI (rest := [.int x2, .ref (a 15)]) (As := [.int x1, .int y1, .int y2]) C I fn_hasMatch (c_hasMatch l N x1 y1 y2) (by decide) 54 dX10_fits_54 rfl hl.1 rfl (Nat.le_of_ble_eq_true rfl) hpf (fun v9 S10 H locs I hpf => ?_)
      refine lv_goto (tgt := 114) hx hb dX10_fits_57 (by decide) ?_
      exact hC_114 v9 x2 x1 x2 S10 H locs I ls (lv_sub hl [2, 3, 4] rfl) hpf
  refine lv_iconst (v := (0 : Int32)) hx hb dX10_fits_0 (by decide) ?_
  refine lv_istore_n (lv' := [(2, .int (0 : Int32)), (0, .ref h), (1, .int x1)]) hx hb dX10_fits_1 rfl hl (by decide) rfl (fun ls hl => ?_)
  exact hC_2 N x1 (0 : Int32) S H locs I ls (lv_sub hl [1, 2, 0] rfl) hpf
-- ===== isBeneath =====
def pf_isBeneath_21 (N : Nat) (x2 : Int32) (x3 : Int32) (S : mS) : Option (Int32 × mS) :=
    if x3 = x2 then (
      some ((1 : Int32), S))
    else (
      some ((0 : Int32), S))
def pf_isBeneath_2 (N : Nat) (k_21 : Int32 → Int32 → mS → Option (Int32 × mS)) : Nat → Int32 → Int32 → mS → Option (Int32 × mS)
  | 0 => fun _ _ _ => none
  | n_2 + 1 => fun x2 x3 S =>
    if x3 < (0 : Int32) then (
      k_21 x2 x3 S)
    else (
      if x3 = x2 then (
        k_21 x2 x3 S)
      else (
        gd x3 48 <|
        nm (S.2 45 x3.toNatClampNeg) fun y1 =>
        pf_isBeneath_2 N k_21 n_2 x2 y1 S))
def pf_isBeneath (N : Nat) (x1 : Int32) (x2 : Int32) (S : mS) : Option (Int32 × mS) :=
    pf_isBeneath_2 N (pf_isBeneath_21 N) N x2 x1 S
theorem fn_isBeneath : mFnI yX10_isBeneath cX10_isBeneath 4 (some .boolean) 2 334 := ⟨kM_251, kM_252, kM_253, kM_249, rfl, by decide +kernel, by decide⟩
set_option maxRecDepth 100000 in
set_option maxHeartbeats 4000000 in
theorem c_isBeneath (l : Launch) (N : Nat) (x1 : Int32) (x2 : Int32) : mMet l yX10_isBeneath cX10_isBeneath 4 .boolean 0 [.int x1, .int x2] (pf_isBeneath N x1 x2) := by
  refine mStart (by decide +kernel) rfl (fun h => [(0, .ref h), (1, .int x1), (2, .int x2)]) (fun _ => Nat.le_of_ble_eq_true rfl) (fun _ => rfl) ?_
  intro dC dI h cI cZ a sz S r Sf hpf p e s m args below meth c C hr hz H locs I ls hl
  have hx := C.1
  have hb := C.2.1
  unfold pf_isBeneath at hpf
  have hC_21 : ∀ (x2 : Int32) (x3 : Int32) (S : mS) (H : Heap) (locs : List Loc), mV dC dI h cI cZ a s S H locs → ∀ ls : Array Slot, lv_has ls 4 [(0, .ref h), (2, .int x2), (3, .int x3)] → pf_isBeneath_21 N x2 x3 S = some (r, Sf) → W p l e (mRm 0) s m args below meth c H locs 0 0 (MQ below (mQ dC dI h cI cZ a sz r Sf) args s 0 0 (mAt h cI cZ a sz)) (F0 m 21 ls []) := by
    intro x2 x3 S H locs I ls hl hpf
    unfold pf_isBeneath_21 at hpf
    refine lv_iload_n hx hb dX10_isBeneath_21 rfl (lv_at hl 2 rfl) ?_
    refine lv_iload_n hx hb dX10_isBeneath_22 rfl (lv_at hl 1 rfl) ?_
    refine b_icmp_ne hx hb 30 23 dX10_isBeneath_23 (by decide) hpf (fun hpf => ?_) (fun hpf => ?_)
    · refine lv_iconst (v := (0 : Int32)) hx hb dX10_isBeneath_30 (by decide) ?_
      exact m_retzc C I hr hz 31 dX10_isBeneath_31 (by decide) hpf
    refine lv_iconst (v := (1 : Int32)) hx hb dX10_isBeneath_26 (by decide) ?_
    refine lv_goto (tgt := 31) hx hb dX10_isBeneath_27 (by decide) ?_
    exact m_retzc C I hr hz 31 dX10_isBeneath_31 (by decide) hpf
  have hC_2 : ∀ (n_2 : Nat), ∀ (x2 : Int32) (x3 : Int32) (S : mS) (H : Heap) (locs : List Loc), mV dC dI h cI cZ a s S H locs → ∀ ls : Array Slot, lv_has ls 4 [(0, .ref h), (2, .int x2), (3, .int x3)] → pf_isBeneath_2 N (pf_isBeneath_21 N) n_2 x2 x3 S = some (r, Sf) → W p l e (mRm 0) s m args below meth c H locs 0 0 (MQ below (mQ dC dI h cI cZ a sz r Sf) args s 0 0 (mAt h cI cZ a sz)) (F0 m 2 ls []) := by
    intro n_2
    induction n_2 with
    | zero =>
      intro x2 x3 S H locs I ls hl hpf
      rw [pf_isBeneath_2] at hpf
      cases hpf
    | succ n_2 ih_2 =>
      intro x2 x3 S H locs I ls hl hpf
      rw [pf_isBeneath_2] at hpf
      refine lv_iload_n hx hb dX10_isBeneath_2 rfl (lv_at hl 2 rfl) ?_
      refine b_if_lt hx hb 21 3 dX10_isBeneath_3 (by decide) hpf (fun hpf => ?_) (fun hpf => ?_)
      · exact hC_21 x2 x3 S H locs I ls (lv_sub hl [0, 1, 2] rfl) hpf
      refine lv_iload_n hx hb dX10_isBeneath_6 rfl (lv_at hl 2 rfl) ?_
      refine lv_iload_n hx hb dX10_isBeneath_7 rfl (lv_at hl 1 rfl) ?_
      refine b_icmp_eq hx hb 21 8 dX10_isBeneath_8 (by decide) hpf (fun hpf => ?_) (fun hpf => ?_)
      · exact hC_21 x2 x3 S H locs I ls (lv_sub hl [0, 1, 2] rfl) hpf
      refine lv_aload_n hx hb dX10_isBeneath_11 rfl (lv_at hl 0 rfl) ?_
      refine m_getr C I mRef_45 kM_42 12 dX10_isBeneath_12 ?_
      refine lv_iload_n hx hb dX10_isBeneath_15 rfl (lv_at hl 2 rfl) ?_
      refine m_iald C I mArr_45 16 dX10_isBeneath_16 hpf (fun hpf => ?_)
      refine m_isto_n hx hb (fun y1 => [(3, .int y1), (0, .ref h), (2, .int x2)]) 17 dX10_isBeneath_17 rfl hl (by decide) (fun _ => rfl) hpf (fun y1 ls hl hpf => ?_)
      refine lv_goto (tgt := 2) hx hb dX10_isBeneath_18 (by decide) ?_
      exact ih_2 x2 y1 S H locs I ls (lv_sub hl [1, 2, 0] rfl) hpf
  refine lv_iload_n hx hb dX10_isBeneath_0 rfl (lv_at hl 1 rfl) ?_
  refine lv_istore_n (lv' := [(3, .int x1), (0, .ref h), (1, .int x1), (2, .int x2)]) hx hb dX10_isBeneath_1 rfl hl (by decide) rfl (fun ls hl => ?_)
  exact hC_2 N x2 x1 S H locs I ls (lv_sub hl [1, 3, 0] rfl) hpf
-- ===== refusesSearch =====
def pf_refusesSearch (N : Nat) (x1 : Int32) (x2 : Int32) (x3 : Int32) (S : mS) : Option (Int32 × mS) :=
    bd (pf_isAt N x1 x2 S) fun v1 S2 =>
    if v1 = (0 : Int32) then (
      some ((1 : Int32), S2))
    else (
      bs (pf_in N x3 (0 : Int32) (2 : Int32)) fun v3 =>
      if v3 = (0 : Int32) then (
        some ((1 : Int32), S2))
      else (
        if (S2.1 16) = (1 : Int32) then (
          some ((0 : Int32), S2))
        else (
          some ((2 : Int32), S2))))
theorem fn_refusesSearch : mFnI yX10_refusesSearch cX10_refusesSearch 4 (some .int) 3 340 := ⟨kM_259, kM_260, kM_261, kM_250, rfl, by decide +kernel, by decide⟩
set_option maxRecDepth 100000 in
set_option maxHeartbeats 4000000 in
theorem c_refusesSearch (l : Launch) (N : Nat) (x1 : Int32) (x2 : Int32) (x3 : Int32) : mMet l yX10_refusesSearch cX10_refusesSearch 4 .int 6 [.int x1, .int x2, .int x3] (pf_refusesSearch N x1 x2 x3) := by
  refine mStart (by decide +kernel) rfl (fun h => [(0, .ref h), (1, .int x1), (2, .int x2), (3, .int x3)]) (fun _ => Nat.le_of_ble_eq_true rfl) (fun _ => rfl) ?_
  intro dC dI h cI cZ a sz S r Sf hpf p e s m args below meth c C hr hz H locs I ls hl
  have hx := C.1
  have hb := C.2.1
  unfold pf_refusesSearch at hpf
  refine lv_aload_n hx hb dX10_refusesSearch_0 rfl (lv_at hl 0 rfl) ?_
  refine lv_iload_n hx hb dX10_refusesSearch_1 rfl (lv_at hl 1 rfl) ?_
  refine lv_iload_n hx hb dX10_refusesSearch_2 rfl (lv_at hl 2 rfl) ?_
  refine m_callI (rest := []) (As := [.int x1, .int x2]) C I fn_isAt (c_isAt l N x1 x2) (by decide) 3 dX10_refusesSearch_3 rfl hl.1 rfl (Nat.le_of_ble_eq_true rfl) hpf (fun v1 S2 H locs I hpf => ?_)
  refine b_if_eq hx hb 18 6 dX10_refusesSearch_6 (by decide) hpf (fun hpf => ?_) (fun hpf => ?_)
  · refine lv_iconst (v := (1 : Int32)) hx hb dX10_refusesSearch_18 (by decide) ?_
    refine lv_goto (tgt := 35) hx hb dX10_refusesSearch_19 (by decide) ?_
    exact m_reti C I hr hz 35 dX10_refusesSearch_35 hpf
  refine lv_iload_n hx hb dX10_refusesSearch_9 rfl (lv_at hl 3 rfl) ?_
  refine lv_iconst (v := (0 : Int32)) hx hb dX10_refusesSearch_10 (by decide) ?_
  refine lv_iconst (v := (2 : Int32)) hx hb dX10_refusesSearch_11 (by decide) ?_
  refine m_callS (rest := []) (As := [.int x3, .int (0 : Int32), .int (2 : Int32)]) C I fn_in (c_in l N x3 (0 : Int32) (2 : Int32)) (by decide) 12 dX10_refusesSearch_12 rfl hl.1 rfl (Nat.le_of_ble_eq_true rfl) hpf (fun v3 H locs I hpf => ?_)
  refine b_if_ne hx hb 22 15 dX10_refusesSearch_15 (by decide) hpf (fun hpf => ?_) (fun hpf => ?_)
  · refine lv_aload_n hx hb dX10_refusesSearch_22 rfl (lv_at hl 0 rfl) ?_
    refine m_geti C I mInt_16 kM_224 23 dX10_refusesSearch_23 ?_
    refine lv_iconst (v := (1 : Int32)) hx hb dX10_refusesSearch_26 (by decide) ?_
    refine b_icmp_eq hx hb 34 27 dX10_refusesSearch_27 (by decide) hpf (fun hpf => ?_) (fun hpf => ?_)
    · refine lv_iconst (v := (0 : Int32)) hx hb dX10_refusesSearch_34 (by decide) ?_
      exact m_reti C I hr hz 35 dX10_refusesSearch_35 hpf
    refine lv_iconst (v := (2 : Int32)) hx hb dX10_refusesSearch_30 (by decide) ?_
    refine lv_goto (tgt := 35) hx hb dX10_refusesSearch_31 (by decide) ?_
    exact m_reti C I hr hz 35 dX10_refusesSearch_35 hpf
  refine lv_iconst (v := (1 : Int32)) hx hb dX10_refusesSearch_18 (by decide) ?_
  refine lv_goto (tgt := 35) hx hb dX10_refusesSearch_19 (by decide) ?_
  exact m_reti C I hr hz 35 dX10_refusesSearch_35 hpf
-- ===== isFound =====
def pf_isFound_48 (N : Nat) (t0 : Int32) (x1 : Int32) (x2 : Int32) (S : mS) : Option (Int32 × mS) :=
    bd (pf_isLive N x2 S) fun v1 S2 =>
    if v1 = (0 : Int32) then (
      some ((0 : Int32), S2))
    else (
      if t0 = (0 : Int32) then (
        some ((0 : Int32), S2))
      else (
        bd (pf_fits N x2 S2) fun v3 S4 =>
        if v3 = (0 : Int32) then (
          some ((0 : Int32), S4))
        else (
          gd x1 4 <|
          bd (pf_mayDo N (S4.2 18 x1.toNatClampNeg) x2 (0 : Int32) S4) fun v5 S6 =>
          if v5 = (0 : Int32) then (
            some ((0 : Int32), S6))
          else (
            some ((1 : Int32), S6)))))
def pf_isFound (N : Nat) (x1 : Int32) (x2 : Int32) (x3 : Int32) (x4 : Int32) (S : mS) : Option (Int32 × mS) :=
    if x4 = (0 : Int32) then (
      if x2 = x3 then (
        pf_isFound_48 N (1 : Int32) x1 x2 S)
      else (
        pf_isFound_48 N (0 : Int32) x1 x2 S))
    else (
      if x4 = (1 : Int32) then (
        gd x2 48 <|
        if (S.2 45 x2.toNatClampNeg) = x3 then (
          pf_isFound_48 N (1 : Int32) x1 x2 S)
        else (
          pf_isFound_48 N (0 : Int32) x1 x2 S))
      else (
        bd (pf_isBeneath N x2 x3 S) fun v1 S2 =>
        pf_isFound_48 N v1 x1 x2 S2))
theorem fn_isFound : mFnI yX10_isFound cX10_isFound 6 (some .boolean) 4 346 := ⟨kM_262, kM_263, kM_264, kM_257, rfl, by decide +kernel, by decide⟩
set_option maxRecDepth 100000 in
set_option maxHeartbeats 4000000 in
theorem c_isFound (l : Launch) (N : Nat) (x1 : Int32) (x2 : Int32) (x3 : Int32) (x4 : Int32) : mMet l yX10_isFound cX10_isFound 6 .boolean 5 [.int x1, .int x2, .int x3, .int x4] (pf_isFound N x1 x2 x3 x4) := by
  refine mStart (by decide +kernel) rfl (fun h => [(0, .ref h), (1, .int x1), (2, .int x2), (3, .int x3), (4, .int x4)]) (fun _ => Nat.le_of_ble_eq_true rfl) (fun _ => rfl) ?_
  intro dC dI h cI cZ a sz S r Sf hpf p e s m args below meth c C hr hz H locs I ls hl
  have hx := C.1
  have hb := C.2.1
  unfold pf_isFound at hpf
  have hC_48 : ∀ (t0 : Int32) (x1 : Int32) (x2 : Int32) (S : mS) (H : Heap) (locs : List Loc), mV dC dI h cI cZ a s S H locs → ∀ ls : Array Slot, lv_has ls 6 [(0, .ref h), (1, .int x1), (2, .int x2)] → pf_isFound_48 N t0 x1 x2 S = some (r, Sf) → W p l e (mRm 5) s m args below meth c H locs 0 0 (MQ below (mQ dC dI h cI cZ a sz r Sf) args s 0 0 (mAt h cI cZ a sz)) (F0 m 48 ls [.int t0]) := by
    intro t0 x1 x2 S H locs I ls hl hpf
    unfold pf_isFound_48 at hpf
    refine lv_istore (lv' := [(5, .int t0), (0, .ref h), (1, .int x1), (2, .int x2)]) hx hb dX10_isFound_48 hl (by decide) rfl (fun ls hl => ?_)
    refine lv_aload_n hx hb dX10_isFound_50 rfl (lv_at hl 1 rfl) ?_
    refine lv_iload_n hx hb dX10_isFound_51 rfl (lv_at hl 3 rfl) ?_
    refine m_callI (rest := []) (As := [.int x2]) C I fn_isLive (c_isLive l N x2) (by decide) 52 dX10_isFound_52 rfl hl.1 rfl (Nat.le_of_ble_eq_true rfl) hpf (fun v1 S2 H locs I hpf => ?_)
    refine b_if_eq hx hb 90 55 dX10_isFound_55 (by decide) hpf (fun hpf => ?_) (fun hpf => ?_)
    · refine lv_iconst (v := (0 : Int32)) hx hb dX10_isFound_90 (by decide) ?_
      exact m_retzc C I hr hz 91 dX10_isFound_91 (by decide) hpf
    refine lv_iload hx hb dX10_isFound_58 (lv_at hl 0 rfl) ?_
    refine b_if_eq hx hb 90 60 dX10_isFound_60 (by decide) hpf (fun hpf => ?_) (fun hpf => ?_)
    · refine lv_iconst (v := (0 : Int32)) hx hb dX10_isFound_90 (by decide) ?_
      exact m_retzc C I hr hz 91 dX10_isFound_91 (by decide) hpf
    refine lv_aload_n hx hb dX10_isFound_63 rfl (lv_at hl 1 rfl) ?_
    refine lv_iload_n hx hb dX10_isFound_64 rfl (lv_at hl 3 rfl) ?_
    refine m_callI (rest := []) (As := [.int x2]) C I fn_fits (c_fits l N x2) (by decide) 65 dX10_isFound_65 rfl hl.1 rfl (Nat.le_of_ble_eq_true rfl) hpf (fun v3 S4 H locs I hpf => ?_)
    refine b_if_eq hx hb 90 68 dX10_isFound_68 (by decide) hpf (fun hpf => ?_) (fun hpf => ?_)
    · refine lv_iconst (v := (0 : Int32)) hx hb dX10_isFound_90 (by decide) ?_
      exact m_retzc C I hr hz 91 dX10_isFound_91 (by decide) hpf
    refine lv_aload_n hx hb dX10_isFound_71 rfl (lv_at hl 1 rfl) ?_
    refine lv_aload_n hx hb dX10_isFound_72 rfl (lv_at hl 1 rfl) ?_
    refine m_getr C I mRef_18 kM_17 73 dX10_isFound_73 ?_
    refine lv_iload_n hx hb dX10_isFound_76 rfl (lv_at hl 2 rfl) ?_
    refine m_iald C I mArr_18 77 dX10_isFound_77 hpf (fun hpf => ?_)
    refine lv_iload_n hx hb dX10_isFound_78 rfl (lv_at hl 3 rfl) ?_
    refine lv_iconst (v := (0 : Int32)) hx hb dX10_isFound_79 (by decide) ?_
    refine m_callI (rest := []) (As := [.int (S4.2 18 x1.toNatClampNeg), .int x2, .int (0 : Int32)]) C I fn_mayDo (c_mayDo l N (S4.2 18 x1.toNatClampNeg) x2 (0 : Int32)) (by decide) 80 dX10_isFound_80 rfl hl.1 rfl (Nat.le_of_ble_eq_true rfl) hpf (fun v5 S6 H locs I hpf => ?_)
    refine b_if_eq hx hb 90 83 dX10_isFound_83 (by decide) hpf (fun hpf => ?_) (fun hpf => ?_)
    · refine lv_iconst (v := (0 : Int32)) hx hb dX10_isFound_90 (by decide) ?_
      exact m_retzc C I hr hz 91 dX10_isFound_91 (by decide) hpf
    refine lv_iconst (v := (1 : Int32)) hx hb dX10_isFound_86 (by decide) ?_
    refine lv_goto (tgt := 91) hx hb dX10_isFound_87 (by decide) ?_
    exact m_retzc C I hr hz 91 dX10_isFound_91 (by decide) hpf
  refine lv_iload hx hb dX10_isFound_0 (lv_at hl 4 rfl) ?_
  refine b_if_ne hx hb 18 2 dX10_isFound_2 (by decide) hpf (fun hpf => ?_) (fun hpf => ?_)
  · refine lv_iload hx hb dX10_isFound_18 (lv_at hl 4 rfl) ?_
    refine lv_iconst (v := (1 : Int32)) hx hb dX10_isFound_20 (by decide) ?_
    refine b_icmp_ne hx hb 42 21 dX10_isFound_21 (by decide) hpf (fun hpf => ?_) (fun hpf => ?_)
    · refine lv_aload_n hx hb dX10_isFound_42 rfl (lv_at hl 0 rfl) ?_
      refine lv_iload_n hx hb dX10_isFound_43 rfl (lv_at hl 2 rfl) ?_
      refine lv_iload_n hx hb dX10_isFound_44 rfl (lv_at hl 3 rfl) ?_
      refine m_callI (rest := []) (As := [.int x2, .int x3]) C I fn_isBeneath (c_isBeneath l N x2 x3) (by decide) 45 dX10_isFound_45 rfl hl.1 rfl (Nat.le_of_ble_eq_true rfl) hpf (fun v1 S2 H locs I hpf => ?_)
      exact hC_48 v1 x1 x2 S2 H locs I ls (lv_sub hl [0, 1, 2] rfl) hpf
    refine lv_aload_n hx hb dX10_isFound_24 rfl (lv_at hl 0 rfl) ?_
    refine m_getr C I mRef_45 kM_42 25 dX10_isFound_25 ?_
    refine lv_iload_n hx hb dX10_isFound_28 rfl (lv_at hl 2 rfl) ?_
    refine m_iald C I mArr_45 29 dX10_isFound_29 hpf (fun hpf => ?_)
    refine lv_iload_n hx hb dX10_isFound_30 rfl (lv_at hl 3 rfl) ?_
    refine b_icmp_ne hx hb 38 31 dX10_isFound_31 (by decide) hpf (fun hpf => ?_) (fun hpf => ?_)
    · refine lv_iconst (v := (0 : Int32)) hx hb dX10_isFound_38 (by decide) ?_
      refine lv_goto (tgt := 48) hx hb dX10_isFound_39 (by decide) ?_
      exact hC_48 (0 : Int32) x1 x2 S H locs I ls (lv_sub hl [0, 1, 2] rfl) hpf
    refine lv_iconst (v := (1 : Int32)) hx hb dX10_isFound_34 (by decide) ?_
    refine lv_goto (tgt := 48) hx hb dX10_isFound_35 (by decide) ?_
    exact hC_48 (1 : Int32) x1 x2 S H locs I ls (lv_sub hl [0, 1, 2] rfl) hpf
  refine lv_iload_n hx hb dX10_isFound_5 rfl (lv_at hl 2 rfl) ?_
  refine lv_iload_n hx hb dX10_isFound_6 rfl (lv_at hl 3 rfl) ?_
  refine b_icmp_ne hx hb 14 7 dX10_isFound_7 (by decide) hpf (fun hpf => ?_) (fun hpf => ?_)
  · refine lv_iconst (v := (0 : Int32)) hx hb dX10_isFound_14 (by decide) ?_
    refine lv_goto (tgt := 48) hx hb dX10_isFound_15 (by decide) ?_
    exact hC_48 (0 : Int32) x1 x2 S H locs I ls (lv_sub hl [0, 1, 2] rfl) hpf
  refine lv_iconst (v := (1 : Int32)) hx hb dX10_isFound_10 (by decide) ?_
  refine lv_goto (tgt := 48) hx hb dX10_isFound_11 (by decide) ?_
  exact hC_48 (1 : Int32) x1 x2 S H locs I ls (lv_sub hl [0, 1, 2] rfl) hpf
-- ===== search =====
def pf_search_79 (N : Nat) (S : mS) : Option (Int32 × mS) :=
    some (S.1 52, S)
def pf_search_73 (N : Nat) (k_28 : Int32 → Int32 → Int32 → Int32 → mS → Option (Int32 × mS)) (x1 : Int32) (x2 : Int32) (x3 : Int32) (x4 : Int32) (S : mS) : Option (Int32 × mS) :=
    nm (x4 + (1 : Int32)) fun y1 =>
    k_28 x1 x2 x3 y1 S
def pf_search_28 (N : Nat) (k_79 : mS → Option (Int32 × mS)) : Nat → Int32 → Int32 → Int32 → Int32 → mS → Option (Int32 × mS)
  | 0 => fun _ _ _ _ _ => none
  | n_28 + 1 => fun x1 x2 x3 x4 S =>
    if (48 : Int32) ≤ x4 then (
      k_79 S)
    else (
      bd (pf_isFound N x1 x4 x2 x3 S) fun v1 S2 =>
      if v1 = (0 : Int32) then (
        pf_search_73 N (pf_search_28 N k_79 n_28) x1 x2 x3 x4 S2)
      else (
        gd (S2.1 52) 192 <| sv (mA S2 53 (S2.1 52).toNatClampNeg (((100 : Int32) * x1) + x4)) fun S3 =>
        sv (mI S3 52 ((S3.1 52) + (1 : Int32))) fun S4 =>
        pf_search_73 N (pf_search_28 N k_79 n_28) x1 x2 x3 x4 S4))
def pf_search (N : Nat) (x1 : Int32) (x2 : Int32) (x3 : Int32) (S : mS) : Option (Int32 × mS) :=
    bd (pf_refusesSearch N x1 x2 x3 S) fun v1 S2 =>
    sv (mI S2 0 v1) fun S3 =>
    if (S3.1 0) ≤ (0 : Int32) then (
      sv (mI S3 52 (0 : Int32)) fun S4 =>
      pf_search_28 N (pf_search_79 N) N x1 x2 x3 (0 : Int32) S4)
    else (
      some ((0 : Int32), S3))

set_option maxRecDepth 100000 in
set_option maxHeartbeats 4000000 in
theorem c_search (l : Launch) (N : Nat) (x1 : Int32) (x2 : Int32) (x3 : Int32) : mMet l yX10_search cX10_search 5 .int 7 [.int x1, .int x2, .int x3] (pf_search N x1 x2 x3) := by
  refine mStart (by decide +kernel) rfl (fun h => [(0, .ref h), (1, .int x1), (2, .int x2), (3, .int x3)]) (fun _ => Nat.le_of_ble_eq_true rfl) (fun _ => rfl) ?_
  intro dC dI h cI cZ a sz S r Sf hpf p e s m args below meth c C hr hz H locs I ls hl
  have hx := C.1
  have hb := C.2.1
  unfold pf_search at hpf
  have hC_79 : ∀ (S : mS) (H : Heap) (locs : List Loc), mV dC dI h cI cZ a s S H locs → ∀ ls : Array Slot, lv_has ls 5 [(0, .ref h)] → pf_search_79 N S = some (r, Sf) → W p l e (mRm 7) s m args below meth c H locs 0 0 (MQ below (mQ dC dI h cI cZ a sz r Sf) args s 0 0 (mAt h cI cZ a sz)) (F0 m 79 ls []) := by
    intro S H locs I ls hl hpf
    unfold pf_search_79 at hpf
    refine lv_aload_n hx hb dX10_search_79 rfl (lv_at hl 0 rfl) ?_
    refine m_geti C I mInt_52 kM_258 80 dX10_search_80 ?_
    exact m_reti C I hr hz 83 dX10_search_83 hpf
  have hC_28 : ∀ (n_28 : Nat), ∀ (x1 : Int32) (x2 : Int32) (x3 : Int32) (x4 : Int32) (S : mS) (H : Heap) (locs : List Loc), mV dC dI h cI cZ a s S H locs → ∀ ls : Array Slot, lv_has ls 5 [(0, .ref h), (1, .int x1), (2, .int x2), (3, .int x3), (4, .int x4)] → pf_search_28 N (pf_search_79 N) n_28 x1 x2 x3 x4 S = some (r, Sf) → W p l e (mRm 7) s m args below meth c H locs 0 0 (MQ below (mQ dC dI h cI cZ a sz r Sf) args s 0 0 (mAt h cI cZ a sz)) (F0 m 28 ls []) := by
    intro n_28
    induction n_28 with
    | zero =>
      intro x1 x2 x3 x4 S H locs I ls hl hpf
      rw [pf_search_28] at hpf
      cases hpf
    | succ n_28 ih_28 =>
      have hC_73 : ∀ (x1 : Int32) (x2 : Int32) (x3 : Int32) (x4 : Int32) (S : mS) (H : Heap) (locs : List Loc), mV dC dI h cI cZ a s S H locs → ∀ ls : Array Slot, lv_has ls 5 [(0, .ref h), (1, .int x1), (2, .int x2), (3, .int x3), (4, .int x4)] → pf_search_73 N (pf_search_28 N (pf_search_79 N) n_28) x1 x2 x3 x4 S = some (r, Sf) → W p l e (mRm 7) s m args below meth c H locs 0 0 (MQ below (mQ dC dI h cI cZ a sz r Sf) args s 0 0 (mAt h cI cZ a sz)) (F0 m 73 ls []) := by
        intro x1 x2 x3 x4 S H locs I ls hl hpf
        unfold pf_search_73 at hpf
        refine m_iinc (w := (1 : Int32)) hx hb (fun y1 => [(4, .int y1), (0, .ref h), (1, .int x1), (2, .int x2), (3, .int x3)]) 73 dX10_search_73 hl (k := 4) rfl (by decide) (by decide) (fun _ => rfl) hpf (fun y1 ls hl hpf => ?_)
        refine lv_goto (tgt := 28) hx hb dX10_search_76 (by decide) ?_
        exact ih_28 x1 x2 x3 y1 S H locs I ls (lv_sub hl [1, 2, 3, 4, 0] rfl) hpf
      intro x1 x2 x3 x4 S H locs I ls hl hpf
      rw [pf_search_28] at hpf
      refine lv_iload hx hb dX10_search_28 (lv_at hl 4 rfl) ?_
      refine lv_bipush (v := (48 : Int32)) hx hb dX10_search_30 (by decide) ?_
      refine b_icmp_ge hx hb 79 32 dX10_search_32 (by decide) hpf (fun hpf => ?_) (fun hpf => ?_)
      · exact hC_79 S H locs I ls (lv_sub hl [0] rfl) hpf
      refine lv_aload_n hx hb dX10_search_35 rfl (lv_at hl 0 rfl) ?_
      refine lv_iload_n hx hb dX10_search_36 rfl (lv_at hl 1 rfl) ?_
      refine lv_iload hx hb dX10_search_37 (lv_at hl 4 rfl) ?_
      refine lv_iload_n hx hb dX10_search_39 rfl (lv_at hl 2 rfl) ?_
      refine lv_iload_n hx hb dX10_search_40 rfl (lv_at hl 3 rfl) ?_
      refine m_callI (rest := []) (As := [.int x1, .int x4, .int x2, .int x3]) C I fn_isFound (c_isFound l N x1 x4 x2 x3) (by decide) 41 dX10_search_41 rfl hl.1 rfl (Nat.le_of_ble_eq_true rfl) hpf (fun v1 S2 H locs I hpf => ?_)
      refine b_if_eq hx hb 73 44 dX10_search_44 (by decide) hpf (fun hpf => ?_) (fun hpf => ?_)
      · exact hC_73 x1 x2 x3 x4 S2 H locs I ls (lv_sub hl [0, 1, 2, 3, 4] rfl) hpf
      refine lv_aload_n hx hb dX10_search_47 rfl (lv_at hl 0 rfl) ?_
      refine m_getr C I mRef_53 kM_48 48 dX10_search_48 ?_
      refine lv_aload_n hx hb dX10_search_51 rfl (lv_at hl 0 rfl) ?_
      refine m_geti C I mInt_52 kM_258 52 dX10_search_52 ?_
      refine lv_bipush (v := (100 : Int32)) hx hb dX10_search_55 (by decide) ?_
      refine lv_iload_n hx hb dX10_search_57 rfl (lv_at hl 1 rfl) ?_
      refine lv_imul hx hb dX10_search_58 ?_
      refine lv_iload hx hb dX10_search_59 (lv_at hl 4 rfl) ?_
      refine lv_iadd hx hb dX10_search_61 ?_
      refine m_iast C I mArr_53 62 dX10_search_62 hpf (fun S3 H locs I hpf => ?_)
      refine lv_aload_n hx hb dX10_search_63 rfl (lv_at hl 0 rfl) ?_
      refine lv_dup hx hb dX10_search_64 rfl ?_
      refine m_geti C I mInt_52 kM_258 65 dX10_search_65 ?_
      refine lv_iconst (v := (1 : Int32)) hx hb dX10_search_68 (by decide) ?_
      refine lv_iadd hx hb dX10_search_69 ?_
      refine m_puti C I mInt_52 kM_258 70 dX10_search_70 hpf (fun S4 H locs I hpf => ?_)
      exact hC_73 x1 x2 x3 x4 S4 H locs I ls (lv_sub hl [0, 1, 2, 3, 4] rfl) hpf
  refine lv_aload_n hx hb dX10_search_0 rfl (lv_at hl 0 rfl) ?_
  refine lv_aload_n hx hb dX10_search_1 rfl (lv_at hl 0 rfl) ?_
  refine lv_iload_n hx hb dX10_search_2 rfl (lv_at hl 1 rfl) ?_
  refine lv_iload_n hx hb dX10_search_3 rfl (lv_at hl 2 rfl) ?_
  refine lv_iload_n hx hb dX10_search_4 rfl (lv_at hl 3 rfl) ?_
  refine m_callI (rest := [.ref h]) (As := [.int x1, .int x2, .int x3]) C I fn_refusesSearch (c_refusesSearch l N x1 x2 x3) (by decide) 5 dX10_search_5 rfl hl.1 rfl (Nat.le_of_ble_eq_true rfl) hpf (fun v1 S2 H locs I hpf => ?_)
  refine m_puti C I mInt_0 kM_62 8 dX10_search_8 hpf (fun S3 H locs I hpf => ?_)
  refine lv_aload_n hx hb dX10_search_11 rfl (lv_at hl 0 rfl) ?_
  refine m_geti C I mInt_0 kM_62 12 dX10_search_12 ?_
  refine b_if_le hx hb 20 15 dX10_search_15 (by decide) hpf (fun hpf => ?_) (fun hpf => ?_)
  · refine lv_aload_n hx hb dX10_search_20 rfl (lv_at hl 0 rfl) ?_
    refine lv_iconst (v := (0 : Int32)) hx hb dX10_search_21 (by decide) ?_
    refine m_puti C I mInt_52 kM_258 22 dX10_search_22 hpf (fun S4 H locs I hpf => ?_)
    refine lv_iconst (v := (0 : Int32)) hx hb dX10_search_25 (by decide) ?_
    refine lv_istore (lv' := [(4, .int (0 : Int32)), (0, .ref h), (1, .int x1), (2, .int x2), (3, .int x3)]) hx hb dX10_search_26 hl (by decide) rfl (fun ls hl => ?_)
    exact hC_28 N x1 x2 x3 (0 : Int32) S4 H locs I ls (lv_sub hl [1, 2, 3, 4, 0] rfl) hpf
  refine lv_iconst (v := (0 : Int32)) hx hb dX10_search_18 (by decide) ?_
  exact m_reti C I hr hz 19 dX10_search_19 hpf
-- ===== searchByWalk =====
def pf_searchByWalk_52 (N : Nat) (k_26 : Int32 → Int32 → Int32 → Int32 → Int32 → mS → Option (Int32 × mS)) (t0 : Int32) (t1 : Int32) (x1 : Int32) (x2 : Int32) (x3 : Int32) (x5 : Int32) (S : mS) : Option (Int32 × mS) :=
    nm (t1 + t0) fun y1 =>
    nm (x5 + (1 : Int32)) fun y2 =>
    k_26 x1 x2 x3 y1 y2 S
def pf_searchByWalk_26 (N : Nat) : Nat → Int32 → Int32 → Int32 → Int32 → Int32 → mS → Option (Int32 × mS)
  | 0 => fun _ _ _ _ _ _ => none
  | n_26 + 1 => fun x1 x2 x3 x4 x5 S =>
    if (48 : Int32) ≤ x5 then (
      some (x4, S))
    else (
      bd (pf_isFound N x1 x5 x2 x3 S) fun v1 S2 =>
      if v1 = (0 : Int32) then (
        pf_searchByWalk_52 N (pf_searchByWalk_26 N n_26) (0 : Int32) x4 x1 x2 x3 x5 S2)
      else (
        pf_searchByWalk_52 N (pf_searchByWalk_26 N n_26) (1 : Int32) x4 x1 x2 x3 x5 S2))
def pf_searchByWalk (N : Nat) (x1 : Int32) (x2 : Int32) (x3 : Int32) (S : mS) : Option (Int32 × mS) :=
    bd (pf_refusesSearch N x1 x2 x3 S) fun v1 S2 =>
    sv (mI S2 0 v1) fun S3 =>
    if (S3.1 0) ≤ (0 : Int32) then (
      pf_searchByWalk_26 N N x1 x2 x3 (0 : Int32) (0 : Int32) S3)
    else (
      some ((0 : Int32), S3))

set_option maxRecDepth 100000 in
set_option maxHeartbeats 4000000 in
theorem c_searchByWalk (l : Launch) (N : Nat) (x1 : Int32) (x2 : Int32) (x3 : Int32) : mMet l yX10_searchByWalk cX10_searchByWalk 6 .int 7 [.int x1, .int x2, .int x3] (pf_searchByWalk N x1 x2 x3) := by
  refine mStart (by decide +kernel) rfl (fun h => [(0, .ref h), (1, .int x1), (2, .int x2), (3, .int x3)]) (fun _ => Nat.le_of_ble_eq_true rfl) (fun _ => rfl) ?_
  intro dC dI h cI cZ a sz S r Sf hpf p e s m args below meth c C hr hz H locs I ls hl
  have hx := C.1
  have hb := C.2.1
  unfold pf_searchByWalk at hpf
  have hC_26 : ∀ (n_26 : Nat), ∀ (x1 : Int32) (x2 : Int32) (x3 : Int32) (x4 : Int32) (x5 : Int32) (S : mS) (H : Heap) (locs : List Loc), mV dC dI h cI cZ a s S H locs → ∀ ls : Array Slot, lv_has ls 6 [(0, .ref h), (1, .int x1), (2, .int x2), (3, .int x3), (4, .int x4), (5, .int x5)] → pf_searchByWalk_26 N n_26 x1 x2 x3 x4 x5 S = some (r, Sf) → W p l e (mRm 7) s m args below meth c H locs 0 0 (MQ below (mQ dC dI h cI cZ a sz r Sf) args s 0 0 (mAt h cI cZ a sz)) (F0 m 26 ls []) := by
    intro n_26
    induction n_26 with
    | zero =>
      intro x1 x2 x3 x4 x5 S H locs I ls hl hpf
      rw [pf_searchByWalk_26] at hpf
      cases hpf
    | succ n_26 ih_26 =>
      have hC_52 : ∀ (t0 : Int32) (t1 : Int32) (x1 : Int32) (x2 : Int32) (x3 : Int32) (x5 : Int32) (S : mS) (H : Heap) (locs : List Loc), mV dC dI h cI cZ a s S H locs → ∀ ls : Array Slot, lv_has ls 6 [(0, .ref h), (1, .int x1), (2, .int x2), (3, .int x3), (5, .int x5)] → pf_searchByWalk_52 N (pf_searchByWalk_26 N n_26) t0 t1 x1 x2 x3 x5 S = some (r, Sf) → W p l e (mRm 7) s m args below meth c H locs 0 0 (MQ below (mQ dC dI h cI cZ a sz r Sf) args s 0 0 (mAt h cI cZ a sz)) (F0 m 52 ls [.int t0, .int t1]) := by
        intro t0 t1 x1 x2 x3 x5 S H locs I ls hl hpf
        unfold pf_searchByWalk_52 at hpf
        refine lv_iadd hx hb dX10_searchByWalk_52 ?_
        refine m_isto hx hb (fun y1 => [(4, .int y1), (0, .ref h), (1, .int x1), (2, .int x2), (3, .int x3), (5, .int x5)]) 53 dX10_searchByWalk_53 hl (by decide) (fun _ => rfl) hpf (fun y1 ls hl hpf => ?_)
        refine m_iinc (w := (1 : Int32)) hx hb (fun y2 => [(5, .int y2), (4, .int y1), (0, .ref h), (1, .int x1), (2, .int x2), (3, .int x3)]) 55 dX10_searchByWalk_55 hl (k := 5) rfl (by decide) (by decide) (fun _ => rfl) hpf (fun y2 ls hl hpf => ?_)
        refine lv_goto (tgt := 26) hx hb dX10_searchByWalk_58 (by decide) ?_
        exact ih_26 x1 x2 x3 y1 y2 S H locs I ls (lv_sub hl [2, 3, 4, 5, 1, 0] rfl) hpf
      intro x1 x2 x3 x4 x5 S H locs I ls hl hpf
      rw [pf_searchByWalk_26] at hpf
      refine lv_iload hx hb dX10_searchByWalk_26 (lv_at hl 5 rfl) ?_
      refine lv_bipush (v := (48 : Int32)) hx hb dX10_searchByWalk_28 (by decide) ?_
      refine b_icmp_ge hx hb 61 30 dX10_searchByWalk_30 (by decide) hpf (fun hpf => ?_) (fun hpf => ?_)
      · refine lv_iload hx hb dX10_searchByWalk_61 (lv_at hl 4 rfl) ?_
        exact m_reti C I hr hz 63 dX10_searchByWalk_63 hpf
      refine lv_iload hx hb dX10_searchByWalk_33 (lv_at hl 4 rfl) ?_
      refine lv_aload_n hx hb dX10_searchByWalk_35 rfl (lv_at hl 0 rfl) ?_
      refine lv_iload_n hx hb dX10_searchByWalk_36 rfl (lv_at hl 1 rfl) ?_
      refine lv_iload hx hb dX10_searchByWalk_37 (lv_at hl 5 rfl) ?_
      refine lv_iload_n hx hb dX10_searchByWalk_39 rfl (lv_at hl 2 rfl) ?_
      refine lv_iload_n hx hb dX10_searchByWalk_40 rfl (lv_at hl 3 rfl) ?_
      refine m_callI (rest := [.int x4]) (As := [.int x1, .int x5, .int x2, .int x3]) C I fn_isFound (c_isFound l N x1 x5 x2 x3) (by decide) 41 dX10_searchByWalk_41 rfl hl.1 rfl (Nat.le_of_ble_eq_true rfl) hpf (fun v1 S2 H locs I hpf => ?_)
      refine b_if_eq hx hb 51 44 dX10_searchByWalk_44 (by decide) hpf (fun hpf => ?_) (fun hpf => ?_)
      · refine lv_iconst (v := (0 : Int32)) hx hb dX10_searchByWalk_51 (by decide) ?_
        exact hC_52 (0 : Int32) x4 x1 x2 x3 x5 S2 H locs I ls (lv_sub hl [0, 1, 2, 3, 5] rfl) hpf
      refine lv_iconst (v := (1 : Int32)) hx hb dX10_searchByWalk_47 (by decide) ?_
      refine lv_goto (tgt := 52) hx hb dX10_searchByWalk_48 (by decide) ?_
      exact hC_52 (1 : Int32) x4 x1 x2 x3 x5 S2 H locs I ls (lv_sub hl [0, 1, 2, 3, 5] rfl) hpf
  refine lv_aload_n hx hb dX10_searchByWalk_0 rfl (lv_at hl 0 rfl) ?_
  refine lv_aload_n hx hb dX10_searchByWalk_1 rfl (lv_at hl 0 rfl) ?_
  refine lv_iload_n hx hb dX10_searchByWalk_2 rfl (lv_at hl 1 rfl) ?_
  refine lv_iload_n hx hb dX10_searchByWalk_3 rfl (lv_at hl 2 rfl) ?_
  refine lv_iload_n hx hb dX10_searchByWalk_4 rfl (lv_at hl 3 rfl) ?_
  refine m_callI (rest := [.ref h]) (As := [.int x1, .int x2, .int x3]) C I fn_refusesSearch (c_refusesSearch l N x1 x2 x3) (by decide) 5 dX10_searchByWalk_5 rfl hl.1 rfl (Nat.le_of_ble_eq_true rfl) hpf (fun v1 S2 H locs I hpf => ?_)
  refine m_puti C I mInt_0 kM_62 8 dX10_searchByWalk_8 hpf (fun S3 H locs I hpf => ?_)
  refine lv_aload_n hx hb dX10_searchByWalk_11 rfl (lv_at hl 0 rfl) ?_
  refine m_geti C I mInt_0 kM_62 12 dX10_searchByWalk_12 ?_
  refine b_if_le hx hb 20 15 dX10_searchByWalk_15 (by decide) hpf (fun hpf => ?_) (fun hpf => ?_)
  · refine lv_iconst (v := (0 : Int32)) hx hb dX10_searchByWalk_20 (by decide) ?_
    refine lv_istore (lv' := [(4, .int (0 : Int32)), (0, .ref h), (1, .int x1), (2, .int x2), (3, .int x3)]) hx hb dX10_searchByWalk_21 hl (by decide) rfl (fun ls hl => ?_)
    refine lv_iconst (v := (0 : Int32)) hx hb dX10_searchByWalk_23 (by decide) ?_
    refine lv_istore (lv' := [(5, .int (0 : Int32)), (4, .int (0 : Int32)), (0, .ref h), (1, .int x1), (2, .int x2), (3, .int x3)]) hx hb dX10_searchByWalk_24 hl (by decide) rfl (fun ls hl => ?_)
    exact hC_26 N x1 x2 x3 (0 : Int32) (0 : Int32) S3 H locs I ls (lv_sub hl [2, 3, 4, 5, 1, 0] rfl) hpf
  refine lv_iconst (v := (0 : Int32)) hx hb dX10_searchByWalk_18 (by decide) ?_
  exact m_reti C I hr hz 19 dX10_searchByWalk_19 hpf
-- ===== arrives =====
def pf_arrives_59 (N : Nat) (x2 : Int32) (x3 : Int32) (S : mS) : Option (Int32 × mS) :=
    some (((100 : Int32) * x2) + x3, S)
def pf_arrives_112 (N : Nat) (k_15 : Int32 → Int32 → mS → Option (Int32 × mS)) (t0 : Int32) (x2 : Int32) (S : mS) : Option (Int32 × mS) :=
    bd (pf_lays N x2 S) fun v1 S2 =>
    k_15 x2 t0 S2
def pf_arrives_90 (N : Nat) (k_15 : Int32 → Int32 → mS → Option (Int32 × mS)) (t0 : Int32) (x3 : Int32) (S : mS) : Option (Int32 × mS) :=
    gd x3 48 <|
    if (S.2 43 x3.toNatClampNeg) < (100 : Int32) then (
      gd x3 48 <|
      pf_arrives_112 N k_15 (S.2 43 x3.toNatClampNeg) t0 S)
    else (
      pf_arrives_112 N k_15 x3 t0 S)
def pf_arrives_15 (N : Nat) (k_59 : Int32 → Int32 → mS → Option (Int32 × mS)) : Nat → Int32 → Int32 → mS → Option (Int32 × mS)
  | 0 => fun _ _ _ => none
  | n_15 + 1 => fun x2 x3 S =>
    bd (pf_isLive N x3 S) fun v1 S2 =>
    if v1 = (0 : Int32) then (
      some ((-1 : Int32), S2))
    else (
      gd (((48 : Int32) * x2) + x3) 192 <|
      if (S2.2 56 (((48 : Int32) * x2) + x3).toNatClampNeg) = (0 : Int32) then (
        gd (((48 : Int32) * x2) + x3) 192 <| sv (mA S2 56 (((48 : Int32) * x2) + x3).toNatClampNeg (vp_nar .boolean (1 : Int32))) fun S3 =>
        gd x3 48 <|
        if (S3.2 43 x3.toNatClampNeg) = (-1 : Int32) then (
          k_59 x2 x3 S3)
        else (
          gd x3 48 <|
          if (S3.2 43 x3.toNatClampNeg) < (100 : Int32) then (
            pf_arrives_90 N (pf_arrives_15 N k_59 n_15) x2 x3 S3)
          else (
            gd x3 48 <|
            pf_arrives_90 N (pf_arrives_15 N k_59 n_15) ((S3.2 43 x3.toNatClampNeg) - (100 : Int32)) x3 S3)))
      else (
        some ((-1 : Int32), S2)))
def pf_arrives (N : Nat) (x1 : Int32) (S : mS) : Option (Int32 × mS) :=
    nm (x1 / (100 : Int32)) fun y1 =>
    nm (x1 - x1 / (100 : Int32) * (100 : Int32)) fun y2 =>
    bd (pf_lays N y1 S) fun v3 S4 =>
    pf_arrives_15 N (pf_arrives_59 N) N y1 y2 S4
theorem fn_arrives : mFnI yX10_arrives cX10_arrives 4 (some .int) 1 353 := ⟨kM_271, kM_272, kM_273, kM_267, rfl, by decide +kernel, by decide⟩
set_option maxRecDepth 100000 in
set_option maxHeartbeats 4000000 in
theorem c_arrives (l : Launch) (N : Nat) (x1 : Int32) : mMet l yX10_arrives cX10_arrives 4 .int 5 [.int x1] (pf_arrives N x1) := by
  refine mStart (by decide +kernel) rfl (fun h => [(0, .ref h), (1, .int x1)]) (fun _ => Nat.le_of_ble_eq_true rfl) (fun _ => rfl) ?_
  intro dC dI h cI cZ a sz S r Sf hpf p e s m args below meth c C hr hz H locs I ls hl
  have hx := C.1
  have hb := C.2.1
  unfold pf_arrives at hpf
  have hC_59 : ∀ (x2 : Int32) (x3 : Int32) (S : mS) (H : Heap) (locs : List Loc), mV dC dI h cI cZ a s S H locs → ∀ ls : Array Slot, lv_has ls 4 [(0, .ref h), (2, .int x2), (3, .int x3)] → pf_arrives_59 N x2 x3 S = some (r, Sf) → W p l e (mRm 5) s m args below meth c H locs 0 0 (MQ below (mQ dC dI h cI cZ a sz r Sf) args s 0 0 (mAt h cI cZ a sz)) (F0 m 59 ls []) := by
    intro x2 x3 S H locs I ls hl hpf
    unfold pf_arrives_59 at hpf
    refine lv_bipush (v := (100 : Int32)) hx hb dX10_arrives_59 (by decide) ?_
    refine lv_iload_n hx hb dX10_arrives_61 rfl (lv_at hl 1 rfl) ?_
    refine lv_imul hx hb dX10_arrives_62 ?_
    refine lv_iload_n hx hb dX10_arrives_63 rfl (lv_at hl 2 rfl) ?_
    refine lv_iadd hx hb dX10_arrives_64 ?_
    exact m_reti C I hr hz 65 dX10_arrives_65 hpf
  have hC_15 : ∀ (n_15 : Nat), ∀ (x2 : Int32) (x3 : Int32) (S : mS) (H : Heap) (locs : List Loc), mV dC dI h cI cZ a s S H locs → ∀ ls : Array Slot, lv_has ls 4 [(0, .ref h), (2, .int x2), (3, .int x3)] → pf_arrives_15 N (pf_arrives_59 N) n_15 x2 x3 S = some (r, Sf) → W p l e (mRm 5) s m args below meth c H locs 0 0 (MQ below (mQ dC dI h cI cZ a sz r Sf) args s 0 0 (mAt h cI cZ a sz)) (F0 m 15 ls []) := by
    intro n_15
    induction n_15 with
    | zero =>
      intro x2 x3 S H locs I ls hl hpf
      rw [pf_arrives_15] at hpf
      cases hpf
    | succ n_15 ih_15 =>
      have hC_112 : ∀ (t0 : Int32) (x2 : Int32) (S : mS) (H : Heap) (locs : List Loc), mV dC dI h cI cZ a s S H locs → ∀ ls : Array Slot, lv_has ls 4 [(0, .ref h), (2, .int x2)] → pf_arrives_112 N (pf_arrives_15 N (pf_arrives_59 N) n_15) t0 x2 S = some (r, Sf) → W p l e (mRm 5) s m args below meth c H locs 0 0 (MQ below (mQ dC dI h cI cZ a sz r Sf) args s 0 0 (mAt h cI cZ a sz)) (F0 m 112 ls [.int t0]) := by
        intro t0 x2 S H locs I ls hl hpf
        unfold pf_arrives_112 at hpf
        refine lv_istore_n (lv' := [(3, .int t0), (0, .ref h), (2, .int x2)]) hx hb dX10_arrives_112 rfl hl (by decide) rfl (fun ls hl => ?_)
        refine lv_aload_n hx hb dX10_arrives_113 rfl (lv_at hl 1 rfl) ?_
        refine lv_iload_n hx hb dX10_arrives_114 rfl (lv_at hl 2 rfl) ?_
        refine m_callV (rest := []) (As := [.int x2]) C I fn_lays (c_lays l N x2) (by decide) 115 dX10_arrives_115 rfl hl.1 rfl (Nat.le_of_ble_eq_true rfl) hpf (fun v1 S2 H locs I hpf => ?_)
        refine lv_goto (tgt := 15) hx hb dX10_arrives_118 (by decide) ?_
        exact ih_15 x2 t0 S2 H locs I ls (lv_sub hl [1, 2, 0] rfl) hpf
      have hC_90 : ∀ (t0 : Int32) (x3 : Int32) (S : mS) (H : Heap) (locs : List Loc), mV dC dI h cI cZ a s S H locs → ∀ ls : Array Slot, lv_has ls 4 [(0, .ref h), (3, .int x3)] → pf_arrives_90 N (pf_arrives_15 N (pf_arrives_59 N) n_15) t0 x3 S = some (r, Sf) → W p l e (mRm 5) s m args below meth c H locs 0 0 (MQ below (mQ dC dI h cI cZ a sz r Sf) args s 0 0 (mAt h cI cZ a sz)) (F0 m 90 ls [.int t0]) := by
        intro t0 x3 S H locs I ls hl hpf
        unfold pf_arrives_90 at hpf
        refine lv_istore_n (lv' := [(2, .int t0), (0, .ref h), (3, .int x3)]) hx hb dX10_arrives_90 rfl hl (by decide) rfl (fun ls hl => ?_)
        refine lv_aload_n hx hb dX10_arrives_91 rfl (lv_at hl 1 rfl) ?_
        refine m_getr C I mRef_43 kM_40 92 dX10_arrives_92 ?_
        refine lv_iload_n hx hb dX10_arrives_95 rfl (lv_at hl 2 rfl) ?_
        refine m_iald C I mArr_43 96 dX10_arrives_96 hpf (fun hpf => ?_)
        refine lv_bipush (v := (100 : Int32)) hx hb dX10_arrives_97 (by decide) ?_
        refine b_icmp_lt hx hb 106 99 dX10_arrives_99 (by decide) hpf (fun hpf => ?_) (fun hpf => ?_)
        · refine lv_aload_n hx hb dX10_arrives_106 rfl (lv_at hl 1 rfl) ?_
          refine m_getr C I mRef_43 kM_40 107 dX10_arrives_107 ?_
          refine lv_iload_n hx hb dX10_arrives_110 rfl (lv_at hl 2 rfl) ?_
          refine m_iald C I mArr_43 111 dX10_arrives_111 hpf (fun hpf => ?_)
          exact hC_112 (S.2 43 x3.toNatClampNeg) t0 S H locs I ls (lv_sub hl [1, 0] rfl) hpf
        refine lv_iload_n hx hb dX10_arrives_102 rfl (lv_at hl 2 rfl) ?_
        refine lv_goto (tgt := 112) hx hb dX10_arrives_103 (by decide) ?_
        exact hC_112 x3 t0 S H locs I ls (lv_sub hl [1, 0] rfl) hpf
      intro x2 x3 S H locs I ls hl hpf
      rw [pf_arrives_15] at hpf
      refine lv_aload_n hx hb dX10_arrives_15 rfl (lv_at hl 0 rfl) ?_
      refine lv_iload_n hx hb dX10_arrives_16 rfl (lv_at hl 2 rfl) ?_
      refine m_callI (rest := []) (As := [.int x3]) C I fn_isLive (c_isLive l N x3) (by decide) 17 dX10_arrives_17 rfl hl.1 rfl (Nat.le_of_ble_eq_true rfl) hpf (fun v1 S2 H locs I hpf => ?_)
      refine b_if_eq hx hb 121 20 dX10_arrives_20 (by decide) hpf (fun hpf => ?_) (fun hpf => ?_)
      · refine lv_iconst (v := (-1 : Int32)) hx hb dX10_arrives_121 (by decide) ?_
        exact m_reti C I hr hz 122 dX10_arrives_122 hpf
      refine lv_aload_n hx hb dX10_arrives_23 rfl (lv_at hl 0 rfl) ?_
      refine m_getr C I mRef_56 kM_50 24 dX10_arrives_24 ?_
      refine lv_bipush (v := (48 : Int32)) hx hb dX10_arrives_27 (by decide) ?_
      refine lv_iload_n hx hb dX10_arrives_29 rfl (lv_at hl 1 rfl) ?_
      refine lv_imul hx hb dX10_arrives_30 ?_
      refine lv_iload_n hx hb dX10_arrives_31 rfl (lv_at hl 2 rfl) ?_
      refine lv_iadd hx hb dX10_arrives_32 ?_
      refine m_zald C I mArr_56 33 dX10_arrives_33 hpf (fun hpf => ?_)
      refine b_if_ne hx hb 121 34 dX10_arrives_34 (by decide) hpf (fun hpf => ?_) (fun hpf => ?_)
      · refine lv_iconst (v := (-1 : Int32)) hx hb dX10_arrives_121 (by decide) ?_
        exact m_reti C I hr hz 122 dX10_arrives_122 hpf
      refine lv_aload_n hx hb dX10_arrives_37 rfl (lv_at hl 0 rfl) ?_
      refine m_getr C I mRef_56 kM_50 38 dX10_arrives_38 ?_
      refine lv_bipush (v := (48 : Int32)) hx hb dX10_arrives_41 (by decide) ?_
      refine lv_iload_n hx hb dX10_arrives_43 rfl (lv_at hl 1 rfl) ?_
      refine lv_imul hx hb dX10_arrives_44 ?_
      refine lv_iload_n hx hb dX10_arrives_45 rfl (lv_at hl 2 rfl) ?_
      refine lv_iadd hx hb dX10_arrives_46 ?_
      refine lv_iconst (v := (1 : Int32)) hx hb dX10_arrives_47 (by decide) ?_
      refine m_zast C I mArr_56 48 dX10_arrives_48 hpf (fun S3 H locs I hpf => ?_)
      refine lv_aload_n hx hb dX10_arrives_49 rfl (lv_at hl 0 rfl) ?_
      refine m_getr C I mRef_43 kM_40 50 dX10_arrives_50 ?_
      refine lv_iload_n hx hb dX10_arrives_53 rfl (lv_at hl 2 rfl) ?_
      refine m_iald C I mArr_43 54 dX10_arrives_54 hpf (fun hpf => ?_)
      refine lv_iconst (v := (-1 : Int32)) hx hb dX10_arrives_55 (by decide) ?_
      refine b_icmp_ne hx hb 66 56 dX10_arrives_56 (by decide) hpf (fun hpf => ?_) (fun hpf => ?_)
      · refine lv_aload_n hx hb dX10_arrives_66 rfl (lv_at hl 0 rfl) ?_
        refine m_getr C I mRef_43 kM_40 67 dX10_arrives_67 ?_
        refine lv_iload_n hx hb dX10_arrives_70 rfl (lv_at hl 2 rfl) ?_
        refine m_iald C I mArr_43 71 dX10_arrives_71 hpf (fun hpf => ?_)
        refine lv_bipush (v := (100 : Int32)) hx hb dX10_arrives_72 (by decide) ?_
        refine b_icmp_lt hx hb 89 74 dX10_arrives_74 (by decide) hpf (fun hpf => ?_) (fun hpf => ?_)
        · refine lv_iload_n hx hb dX10_arrives_89 rfl (lv_at hl 1 rfl) ?_
          exact hC_90 x2 x3 S3 H locs I ls (lv_sub hl [0, 2] rfl) hpf
        refine lv_aload_n hx hb dX10_arrives_77 rfl (lv_at hl 0 rfl) ?_
        refine m_getr C I mRef_43 kM_40 78 dX10_arrives_78 ?_
        refine lv_iload_n hx hb dX10_arrives_81 rfl (lv_at hl 2 rfl) ?_
        refine m_iald C I mArr_43 82 dX10_arrives_82 hpf (fun hpf => ?_)
        refine lv_bipush (v := (100 : Int32)) hx hb dX10_arrives_83 (by decide) ?_
        refine lv_isub hx hb dX10_arrives_85 ?_
        refine lv_goto (tgt := 90) hx hb dX10_arrives_86 (by decide) ?_
        exact hC_90 ((S3.2 43 x3.toNatClampNeg) - (100 : Int32)) x3 S3 H locs I ls (lv_sub hl [0, 2] rfl) hpf
      exact hC_59 x2 x3 S3 H locs I ls (lv_sub hl [0, 1, 2] rfl) hpf
  refine lv_iload_n hx hb dX10_arrives_0 rfl (lv_at hl 1 rfl) ?_
  refine lv_bipush (v := (100 : Int32)) hx hb dX10_arrives_1 (by decide) ?_
  refine lv_idiv hx hb dX10_arrives_3 (by decide) ?_
  refine m_isto_n hx hb (fun y1 => [(2, .int y1), (0, .ref h), (1, .int x1)]) 4 dX10_arrives_4 rfl hl (by decide) (fun _ => rfl) hpf (fun y1 ls hl hpf => ?_)
  refine lv_iload_n hx hb dX10_arrives_5 rfl (lv_at hl 2 rfl) ?_
  refine lv_bipush (v := (100 : Int32)) hx hb dX10_arrives_6 (by decide) ?_
  refine lv_irem hx hb dX10_arrives_8 (by decide) ?_
  refine m_isto_n hx hb (fun y2 => [(3, .int y2), (2, .int y1), (0, .ref h), (1, .int x1)]) 9 dX10_arrives_9 rfl hl (by decide) (fun _ => rfl) hpf (fun y2 ls hl hpf => ?_)
  refine lv_aload_n hx hb dX10_arrives_10 rfl (lv_at hl 2 rfl) ?_
  refine lv_iload_n hx hb dX10_arrives_11 rfl (lv_at hl 1 rfl) ?_
  refine m_callV (rest := []) (As := [.int y1]) C I fn_lays (c_lays l N y1) (by decide) 12 dX10_arrives_12 rfl hl.1 rfl (Nat.le_of_ble_eq_true rfl) hpf (fun v3 S4 H locs I hpf => ?_)
  exact hC_15 N y1 y2 S4 H locs I ls (lv_sub hl [2, 1, 0] rfl) hpf
-- ===== looks =====
def pf_looks (N : Nat) (x1 : Int32) (x2 : Int32) (S : mS) : Option (Int32 × mS) :=
    bd (pf_fits N (x1 - x1 / (100 : Int32) * (100 : Int32)) S) fun v1 S2 =>
    if v1 = (0 : Int32) then (
      some ((0 : Int32), S2))
    else (
      bd (pf_mayDo N x2 (x1 - x1 / (100 : Int32) * (100 : Int32)) (0 : Int32) S2) fun v3 S4 =>
      if v3 = (0 : Int32) then (
        some ((0 : Int32), S4))
      else (
        gd (S4.1 52) 192 <| sv (mA S4 53 (S4.1 52).toNatClampNeg x1) fun S5 =>
        sv (mI S5 52 ((S5.1 52) + (1 : Int32))) fun S6 =>
        some ((0 : Int32), S6)))
theorem fn_looks : mFnI yX10_looks cX10_looks 3 none 2 356 := ⟨kM_274, kM_275, kM_276, kM_268, rfl, by decide +kernel, by decide⟩
set_option maxRecDepth 100000 in
set_option maxHeartbeats 4000000 in
theorem c_looks (l : Launch) (N : Nat) (x1 : Int32) (x2 : Int32) : mMetV l yX10_looks cX10_looks 3 5 [.int x1, .int x2] (pf_looks N x1 x2) := by
  refine mStartV (by decide +kernel) rfl (fun h => [(0, .ref h), (1, .int x1), (2, .int x2)]) (fun _ => Nat.le_of_ble_eq_true rfl) (fun _ => rfl) ?_
  intro dC dI h cI cZ a sz S r Sf hpf p e s m args below meth c C hr hz H locs I ls hl
  have hx := C.1
  have hb := C.2.1
  unfold pf_looks at hpf
  refine lv_aload_n hx hb dX10_looks_0 rfl (lv_at hl 0 rfl) ?_
  refine lv_iload_n hx hb dX10_looks_1 rfl (lv_at hl 1 rfl) ?_
  refine lv_bipush (v := (100 : Int32)) hx hb dX10_looks_2 (by decide) ?_
  refine lv_irem hx hb dX10_looks_4 (by decide) ?_
  refine m_callI (rest := []) (As := [.int (x1 - x1 / (100 : Int32) * (100 : Int32))]) C I fn_fits (c_fits l N (x1 - x1 / (100 : Int32) * (100 : Int32))) (by decide) 5 dX10_looks_5 rfl hl.1 rfl (Nat.le_of_ble_eq_true rfl) hpf (fun v1 S2 H locs I hpf => ?_)
  refine b_if_eq hx hb 44 8 dX10_looks_8 (by decide) hpf (fun hpf => ?_) (fun hpf => ?_)
  · exact m_retv C I hr hz 44 dX10_looks_44 hpf
  refine lv_aload_n hx hb dX10_looks_11 rfl (lv_at hl 0 rfl) ?_
  refine lv_iload_n hx hb dX10_looks_12 rfl (lv_at hl 2 rfl) ?_
  refine lv_iload_n hx hb dX10_looks_13 rfl (lv_at hl 1 rfl) ?_
  refine lv_bipush (v := (100 : Int32)) hx hb dX10_looks_14 (by decide) ?_
  refine lv_irem hx hb dX10_looks_16 (by decide) ?_
  refine lv_iconst (v := (0 : Int32)) hx hb dX10_looks_17 (by decide) ?_
  refine m_callI (rest := []) (As := [.int x2, .int (x1 - x1 / (100 : Int32) * (100 : Int32)), .int (0 : Int32)]) C I fn_mayDo (c_mayDo l N x2 (x1 - x1 / (100 : Int32) * (100 : Int32)) (0 : Int32)) (by decide) 18 dX10_looks_18 rfl hl.1 rfl (Nat.le_of_ble_eq_true rfl) hpf (fun v3 S4 H locs I hpf => ?_)
  refine b_if_eq hx hb 44 21 dX10_looks_21 (by decide) hpf (fun hpf => ?_) (fun hpf => ?_)
  · exact m_retv C I hr hz 44 dX10_looks_44 hpf
  refine lv_aload_n hx hb dX10_looks_24 rfl (lv_at hl 0 rfl) ?_
  refine m_getr C I mRef_53 kM_48 25 dX10_looks_25 ?_
  refine lv_aload_n hx hb dX10_looks_28 rfl (lv_at hl 0 rfl) ?_
  refine m_geti C I mInt_52 kM_258 29 dX10_looks_29 ?_
  refine lv_iload_n hx hb dX10_looks_32 rfl (lv_at hl 1 rfl) ?_
  refine m_iast C I mArr_53 33 dX10_looks_33 hpf (fun S5 H locs I hpf => ?_)
  refine lv_aload_n hx hb dX10_looks_34 rfl (lv_at hl 0 rfl) ?_
  refine lv_dup hx hb dX10_looks_35 rfl ?_
  refine m_geti C I mInt_52 kM_258 36 dX10_looks_36 ?_
  refine lv_iconst (v := (1 : Int32)) hx hb dX10_looks_39 (by decide) ?_
  refine lv_iadd hx hb dX10_looks_40 ?_
  refine m_puti C I mInt_52 kM_258 41 dX10_looks_41 hpf (fun S6 H locs I hpf => ?_)
  exact m_retv C I hr hz 44 dX10_looks_44 hpf
-- ===== waits =====
def pf_waits_119 (N : Nat) (k_7 : Int32 → Int32 → Int32 → mS → Option (Int32 × mS)) (x1 : Int32) (x2 : Int32) (x3 : Int32) (S : mS) : Option (Int32 × mS) :=
    nm (x3 + (1 : Int32)) fun y1 =>
    k_7 x1 x2 y1 S
def pf_waits_94 (N : Nat) (k_7 : Int32 → Int32 → Int32 → mS → Option (Int32 × mS)) (x1 : Int32) (x2 : Int32) (x3 : Int32) (x4 : Int32) (S : mS) : Option (Int32 × mS) :=
    gd x4 400 <| sv (mA S 55 x4.toNatClampNeg ((x1 - (x1 - x1 / (100 : Int32) * (100 : Int32))) + x3)) fun S1 =>
    sv (mI S1 54 ((S1.1 54) + (1 : Int32))) fun S2 =>
    pf_waits_119 N k_7 x1 x2 x3 S2
def pf_waits_40 (N : Nat) (k_94 : Int32 → Int32 → Int32 → Int32 → mS → Option (Int32 × mS)) : Nat → Int32 → Int32 → Int32 → Int32 → mS → Option (Int32 × mS)
  | 0 => fun _ _ _ _ _ => none
  | n_40 + 1 => fun x1 x2 x3 x4 S =>
    if x4 ≤ x2 then (
      k_94 x1 x2 x3 x4 S)
    else (
      gd (x4 - (1 : Int32)) 400 <|
      gd ((S.2 55 (x4 - (1 : Int32)).toNatClampNeg) - (S.2 55 (x4 - (1 : Int32)).toNatClampNeg) / (100 : Int32) * (100 : Int32)) 48 <|
      gd x3 48 <|
      if (S.2 46 x3.toNatClampNeg) ≤ (S.2 46 ((S.2 55 (x4 - (1 : Int32)).toNatClampNeg) - (S.2 55 (x4 - (1 : Int32)).toNatClampNeg) / (100 : Int32) * (100 : Int32)).toNatClampNeg) then (
        k_94 x1 x2 x3 x4 S)
      else (
        gd (x4 - (1 : Int32)) 400 <|
        gd x4 400 <| sv (mA S 55 x4.toNatClampNeg (S.2 55 (x4 - (1 : Int32)).toNatClampNeg)) fun S1 =>
        nm (x4 + (-1 : Int32)) fun y2 =>
        pf_waits_40 N k_94 n_40 x1 x2 x3 y2 S1))
def pf_waits_7 (N : Nat) : Nat → Int32 → Int32 → Int32 → mS → Option (Int32 × mS)
  | 0 => fun _ _ _ _ => none
  | n_7 + 1 => fun x1 x2 x3 S =>
    if (48 : Int32) ≤ x3 then (
      some ((0 : Int32), S))
    else (
      bd (pf_isLive N x3 S) fun v1 S2 =>
      if v1 = (0 : Int32) then (
        pf_waits_119 N (pf_waits_7 N n_7) x1 x2 x3 S2)
      else (
        gd x3 48 <|
        if (S2.2 45 x3.toNatClampNeg) = (x1 - x1 / (100 : Int32) * (100 : Int32)) then (
          nm (S2.1 54) fun y3 =>
          pf_waits_40 N (pf_waits_94 N (pf_waits_7 N n_7)) N x1 x2 x3 y3 S2)
        else (
          pf_waits_119 N (pf_waits_7 N n_7) x1 x2 x3 S2)))
def pf_waits (N : Nat) (x1 : Int32) (S : mS) : Option (Int32 × mS) :=
    nm (S.1 54) fun y1 =>
    pf_waits_7 N N x1 y1 (1 : Int32) S
theorem fn_waits : mFnI yX10_waits cX10_waits 5 none 1 359 := ⟨kM_277, kM_278, kM_279, kM_269, rfl, by decide +kernel, by decide⟩
set_option maxRecDepth 100000 in
set_option maxHeartbeats 4000000 in
theorem c_waits (l : Launch) (N : Nat) (x1 : Int32) : mMetV l yX10_waits cX10_waits 5 2 [.int x1] (pf_waits N x1) := by
  refine mStartV (by decide +kernel) rfl (fun h => [(0, .ref h), (1, .int x1)]) (fun _ => Nat.le_of_ble_eq_true rfl) (fun _ => rfl) ?_
  intro dC dI h cI cZ a sz S r Sf hpf p e s m args below meth c C hr hz H locs I ls hl
  have hx := C.1
  have hb := C.2.1
  unfold pf_waits at hpf
  have hC_7 : ∀ (n_7 : Nat), ∀ (x1 : Int32) (x2 : Int32) (x3 : Int32) (S : mS) (H : Heap) (locs : List Loc), mV dC dI h cI cZ a s S H locs → ∀ ls : Array Slot, lv_has ls 5 [(0, .ref h), (1, .int x1), (2, .int x2), (3, .int x3)] → pf_waits_7 N n_7 x1 x2 x3 S = some (r, Sf) → W p l e (mRm 2) s m args below meth c H locs 0 0 (MQ below (mQv dC dI h cI cZ a sz Sf) args s 0 0 (mAt h cI cZ a sz)) (F0 m 7 ls []) := by
    intro n_7
    induction n_7 with
    | zero =>
      intro x1 x2 x3 S H locs I ls hl hpf
      rw [pf_waits_7] at hpf
      cases hpf
    | succ n_7 ih_7 =>
      have hC_119 : ∀ (x1 : Int32) (x2 : Int32) (x3 : Int32) (S : mS) (H : Heap) (locs : List Loc), mV dC dI h cI cZ a s S H locs → ∀ ls : Array Slot, lv_has ls 5 [(0, .ref h), (1, .int x1), (2, .int x2), (3, .int x3)] → pf_waits_119 N (pf_waits_7 N n_7) x1 x2 x3 S = some (r, Sf) → W p l e (mRm 2) s m args below meth c H locs 0 0 (MQ below (mQv dC dI h cI cZ a sz Sf) args s 0 0 (mAt h cI cZ a sz)) (F0 m 119 ls []) := by
        intro x1 x2 x3 S H locs I ls hl hpf
        unfold pf_waits_119 at hpf
        refine m_iinc (w := (1 : Int32)) hx hb (fun y1 => [(3, .int y1), (0, .ref h), (1, .int x1), (2, .int x2)]) 119 dX10_waits_119 hl (k := 3) rfl (by decide) (by decide) (fun _ => rfl) hpf (fun y1 ls hl hpf => ?_)
        refine lv_goto (tgt := 7) hx hb dX10_waits_122 (by decide) ?_
        exact ih_7 x1 x2 y1 S H locs I ls (lv_sub hl [1, 2, 3, 0] rfl) hpf
      have hC_94 : ∀ (x1 : Int32) (x2 : Int32) (x3 : Int32) (x4 : Int32) (S : mS) (H : Heap) (locs : List Loc), mV dC dI h cI cZ a s S H locs → ∀ ls : Array Slot, lv_has ls 5 [(0, .ref h), (1, .int x1), (2, .int x2), (3, .int x3), (4, .int x4)] → pf_waits_94 N (pf_waits_7 N n_7) x1 x2 x3 x4 S = some (r, Sf) → W p l e (mRm 2) s m args below meth c H locs 0 0 (MQ below (mQv dC dI h cI cZ a sz Sf) args s 0 0 (mAt h cI cZ a sz)) (F0 m 94 ls []) := by
        intro x1 x2 x3 x4 S H locs I ls hl hpf
        unfold pf_waits_94 at hpf
        refine lv_aload_n hx hb dX10_waits_94 rfl (lv_at hl 0 rfl) ?_
        refine m_getr C I mRef_55 kM_49 95 dX10_waits_95 ?_
        refine lv_iload hx hb dX10_waits_98 (lv_at hl 4 rfl) ?_
        refine lv_iload_n hx hb dX10_waits_100 rfl (lv_at hl 1 rfl) ?_
        refine lv_iload_n hx hb dX10_waits_101 rfl (lv_at hl 1 rfl) ?_
        refine lv_bipush (v := (100 : Int32)) hx hb dX10_waits_102 (by decide) ?_
        refine lv_irem hx hb dX10_waits_104 (by decide) ?_
        refine lv_isub hx hb dX10_waits_105 ?_
        refine lv_iload_n hx hb dX10_waits_106 rfl (lv_at hl 3 rfl) ?_
        refine lv_iadd hx hb dX10_waits_107 ?_
        refine m_iast C I mArr_55 108 dX10_waits_108 hpf (fun S1 H locs I hpf => ?_)
        refine lv_aload_n hx hb dX10_waits_109 rfl (lv_at hl 0 rfl) ?_
        refine lv_dup hx hb dX10_waits_110 rfl ?_
        refine m_geti C I mInt_54 kM_270 111 dX10_waits_111 ?_
        refine lv_iconst (v := (1 : Int32)) hx hb dX10_waits_114 (by decide) ?_
        refine lv_iadd hx hb dX10_waits_115 ?_
        refine m_puti C I mInt_54 kM_270 116 dX10_waits_116 hpf (fun S2 H locs I hpf => ?_)
        exact hC_119 x1 x2 x3 S2 H locs I ls (lv_sub hl [0, 1, 2, 3] rfl) hpf
      have hC_40 : ∀ (n_40 : Nat), ∀ (x1 : Int32) (x2 : Int32) (x3 : Int32) (x4 : Int32) (S : mS) (H : Heap) (locs : List Loc), mV dC dI h cI cZ a s S H locs → ∀ ls : Array Slot, lv_has ls 5 [(0, .ref h), (1, .int x1), (2, .int x2), (3, .int x3), (4, .int x4)] → pf_waits_40 N (pf_waits_94 N (pf_waits_7 N n_7)) n_40 x1 x2 x3 x4 S = some (r, Sf) → W p l e (mRm 2) s m args below meth c H locs 0 0 (MQ below (mQv dC dI h cI cZ a sz Sf) args s 0 0 (mAt h cI cZ a sz)) (F0 m 40 ls []) := by
        intro n_40
        induction n_40 with
        | zero =>
          intro x1 x2 x3 x4 S H locs I ls hl hpf
          rw [pf_waits_40] at hpf
          cases hpf
        | succ n_40 ih_40 =>
          intro x1 x2 x3 x4 S H locs I ls hl hpf
          rw [pf_waits_40] at hpf
          refine lv_iload hx hb dX10_waits_40 (lv_at hl 4 rfl) ?_
          refine lv_iload_n hx hb dX10_waits_42 rfl (lv_at hl 2 rfl) ?_
          refine b_icmp_le hx hb 94 43 dX10_waits_43 (by decide) hpf (fun hpf => ?_) (fun hpf => ?_)
          · exact hC_94 x1 x2 x3 x4 S H locs I ls (lv_sub hl [0, 1, 2, 3, 4] rfl) hpf
          refine lv_aload_n hx hb dX10_waits_46 rfl (lv_at hl 0 rfl) ?_
          refine m_getr C I mRef_46 kM_43 47 dX10_waits_47 ?_
          refine lv_aload_n hx hb dX10_waits_50 rfl (lv_at hl 0 rfl) ?_
          refine m_getr C I mRef_55 kM_49 51 dX10_waits_51 ?_
          refine lv_iload hx hb dX10_waits_54 (lv_at hl 4 rfl) ?_
          refine lv_iconst (v := (1 : Int32)) hx hb dX10_waits_56 (by decide) ?_
          refine lv_isub hx hb dX10_waits_57 ?_
          refine m_iald C I mArr_55 58 dX10_waits_58 hpf (fun hpf => ?_)
          refine lv_bipush (v := (100 : Int32)) hx hb dX10_waits_59 (by decide) ?_
          refine lv_irem hx hb dX10_waits_61 (by decide) ?_
          refine m_iald C I mArr_46 62 dX10_waits_62 hpf (fun hpf => ?_)
          refine lv_aload_n hx hb dX10_waits_63 rfl (lv_at hl 0 rfl) ?_
          refine m_getr C I mRef_46 kM_43 64 dX10_waits_64 ?_
          refine lv_iload_n hx hb dX10_waits_67 rfl (lv_at hl 3 rfl) ?_
          refine m_iald C I mArr_46 68 dX10_waits_68 hpf (fun hpf => ?_)
          refine b_icmp_ge hx hb 94 69 dX10_waits_69 (by decide) hpf (fun hpf => ?_) (fun hpf => ?_)
          · exact hC_94 x1 x2 x3 x4 S H locs I ls (lv_sub hl [0, 1, 2, 3, 4] rfl) hpf
          refine lv_aload_n hx hb dX10_waits_72 rfl (lv_at hl 0 rfl) ?_
          refine m_getr C I mRef_55 kM_49 73 dX10_waits_73 ?_
          refine lv_iload hx hb dX10_waits_76 (lv_at hl 4 rfl) ?_
          refine lv_aload_n hx hb dX10_waits_78 rfl (lv_at hl 0 rfl) ?_
          refine m_getr C I mRef_55 kM_49 79 dX10_waits_79 ?_
          refine lv_iload hx hb dX10_waits_82 (lv_at hl 4 rfl) ?_
          refine lv_iconst (v := (1 : Int32)) hx hb dX10_waits_84 (by decide) ?_
          refine lv_isub hx hb dX10_waits_85 ?_
          refine m_iald C I mArr_55 86 dX10_waits_86 hpf (fun hpf => ?_)
          refine m_iast C I mArr_55 87 dX10_waits_87 hpf (fun S1 H locs I hpf => ?_)
          refine m_iinc (w := (-1 : Int32)) hx hb (fun y2 => [(4, .int y2), (0, .ref h), (1, .int x1), (2, .int x2), (3, .int x3)]) 88 dX10_waits_88 hl (k := 4) rfl (by decide) (by decide) (fun _ => rfl) hpf (fun y2 ls hl hpf => ?_)
          refine lv_goto (tgt := 40) hx hb dX10_waits_91 (by decide) ?_
          exact ih_40 x1 x2 x3 y2 S1 H locs I ls (lv_sub hl [1, 2, 3, 4, 0] rfl) hpf
      intro x1 x2 x3 S H locs I ls hl hpf
      rw [pf_waits_7] at hpf
      refine lv_iload_n hx hb dX10_waits_7 rfl (lv_at hl 3 rfl) ?_
      refine lv_bipush (v := (48 : Int32)) hx hb dX10_waits_8 (by decide) ?_
      refine b_icmp_ge hx hb 125 10 dX10_waits_10 (by decide) hpf (fun hpf => ?_) (fun hpf => ?_)
      · exact m_retv C I hr hz 125 dX10_waits_125 hpf
      refine lv_aload_n hx hb dX10_waits_13 rfl (lv_at hl 0 rfl) ?_
      refine lv_iload_n hx hb dX10_waits_14 rfl (lv_at hl 3 rfl) ?_
      refine m_callI (rest := []) (As := [.int x3]) C I fn_isLive (c_isLive l N x3) (by decide) 15 dX10_waits_15 rfl hl.1 rfl (Nat.le_of_ble_eq_true rfl) hpf (fun v1 S2 H locs I hpf => ?_)
      refine b_if_eq hx hb 119 18 dX10_waits_18 (by decide) hpf (fun hpf => ?_) (fun hpf => ?_)
      · exact hC_119 x1 x2 x3 S2 H locs I ls (lv_sub hl [0, 1, 2, 3] rfl) hpf
      refine lv_aload_n hx hb dX10_waits_21 rfl (lv_at hl 0 rfl) ?_
      refine m_getr C I mRef_45 kM_42 22 dX10_waits_22 ?_
      refine lv_iload_n hx hb dX10_waits_25 rfl (lv_at hl 3 rfl) ?_
      refine m_iald C I mArr_45 26 dX10_waits_26 hpf (fun hpf => ?_)
      refine lv_iload_n hx hb dX10_waits_27 rfl (lv_at hl 1 rfl) ?_
      refine lv_bipush (v := (100 : Int32)) hx hb dX10_waits_28 (by decide) ?_
      refine lv_irem hx hb dX10_waits_30 (by decide) ?_
      refine b_icmp_ne hx hb 119 31 dX10_waits_31 (by decide) hpf (fun hpf => ?_) (fun hpf => ?_)
      · exact hC_119 x1 x2 x3 S2 H locs I ls (lv_sub hl [0, 1, 2, 3] rfl) hpf
      refine lv_aload_n hx hb dX10_waits_34 rfl (lv_at hl 0 rfl) ?_
      refine m_geti C I mInt_54 kM_270 35 dX10_waits_35 ?_
      refine m_isto hx hb (fun y3 => [(4, .int y3), (0, .ref h), (1, .int x1), (2, .int x2), (3, .int x3)]) 38 dX10_waits_38 hl (by decide) (fun _ => rfl) hpf (fun y3 ls hl hpf => ?_)
      exact hC_40 N x1 x2 x3 y3 S2 H locs I ls (lv_sub hl [1, 2, 3, 4, 0] rfl) hpf
  refine lv_aload_n hx hb dX10_waits_0 rfl (lv_at hl 0 rfl) ?_
  refine m_geti C I mInt_54 kM_270 1 dX10_waits_1 ?_
  refine m_isto_n hx hb (fun y1 => [(2, .int y1), (0, .ref h), (1, .int x1)]) 4 dX10_waits_4 rfl hl (by decide) (fun _ => rfl) hpf (fun y1 ls hl hpf => ?_)
  refine lv_iconst (v := (1 : Int32)) hx hb dX10_waits_5 (by decide) ?_
  refine lv_istore_n (lv' := [(3, .int (1 : Int32)), (2, .int y1), (0, .ref h), (1, .int x1)]) hx hb dX10_waits_6 rfl hl (by decide) rfl (fun ls hl => ?_)
  exact hC_7 N x1 y1 (1 : Int32) S H locs I ls (lv_sub hl [2, 3, 1, 0] rfl) hpf
