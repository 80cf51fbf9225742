-- ===== mayDo =====
def pf_mayDo_50 (N : Nat) (x1 : Int32) (x3 : Int32) (x4 : Int32) (S : mS) : Option (Int32 × mS) :=
    if x1 = (0 : Int32) then (
      some ((1 : Int32), S))
    else (
      if x4 = (0 : Int32) then (
        if x3 = (0 : Int32) then (
          some ((1 : Int32), S))
        else (
          some ((0 : Int32), S)))
      else (
        if x4 = (1 : Int32) then (
          some ((1 : Int32), S))
        else (
          some ((0 : Int32), S))))
def pf_mayDo_9 (N : Nat) (k_50 : Int32 → Int32 → Int32 → mS → Option (Int32 × mS)) : Nat → Int32 → Int32 → Int32 → Int32 → Int32 → mS → Option (Int32 × mS)
  | 0 => fun _ _ _ _ _ _ => none
  | n_9 + 1 => fun x1 x3 x4 x5 x6 S =>
    if x6 < (0 : Int32) then (
      k_50 x1 x3 x4 S)
    else (
      if x4 = (0 : Int32) then (
        if x1 ≤ (0 : Int32) then (
          k_50 x1 x3 x4 S)
        else (
          bd (pf_decides N x1 x6 x5 x3 S) fun v1 S2 =>
          nm (x5 + (1 : Int32)) fun y3 =>
          gd x6 48 <|
          nm (S2.2 45 x6.toNatClampNeg) fun y4 =>
          pf_mayDo_9 N k_50 n_9 x1 x3 v1 y3 y4 S2))
      else (
        k_50 x1 x3 x4 S))
def pf_mayDo (N : Nat) (x1 : Int32) (x2 : Int32) (x3 : Int32) (S : mS) : Option (Int32 × mS) :=
    pf_mayDo_9 N (pf_mayDo_50 N) N x1 x3 (0 : Int32) (0 : Int32) x2 S
theorem fn_mayDo : mFnI yX10_mayDo cX10_mayDo 7 (some .boolean) 3 243 := ⟨kM_132, kM_133, kM_134, kM_131, rfl, by decide +kernel, by decide⟩
set_option maxRecDepth 100000 in
set_option maxHeartbeats 4000000 in
theorem c_mayDo (l : Launch) (N : Nat) (x1 : Int32) (x2 : Int32) (x3 : Int32) : mMet l yX10_mayDo cX10_mayDo 7 .boolean 4 [.int x1, .int x2, .int x3] (pf_mayDo N x1 x2 x3) := by
  refine mStart (by decide +kernel) rfl (fun h => [(0, .ref h), (1, .int x1), (2, .int x2), (3, .int x3)]) (fun _ => Nat.le_of_ble_eq_true rfl) (fun _ => rfl) ?_
  intro dC dI h cI cZ a sz S r Sf hpf p e s m args below meth c C hr hz H locs I ls hl
  have hx := C.1
  have hb := C.2.1
  unfold pf_mayDo at hpf
  have hC_50 : ∀ (x1 : Int32) (x3 : Int32) (x4 : Int32) (S : mS) (H : Heap) (locs : List Loc), mV dC dI h cI cZ a s S H locs → ∀ ls : Array Slot, lv_has ls 7 [(0, .ref h), (1, .int x1), (3, .int x3), (4, .int x4)] → pf_mayDo_50 N x1 x3 x4 S = some (r, Sf) → W p l e (mRm 4) s m args below meth c H locs 0 0 (MQ below (mQ dC dI h cI cZ a sz r Sf) args s 0 0 (mAt h cI cZ a sz)) (F0 m 50 ls []) := by
    intro x1 x3 x4 S H locs I ls hl hpf
    unfold pf_mayDo_50 at hpf
    refine lv_iload_n hx hb dX10_mayDo_50 rfl (lv_at hl 1 rfl) ?_
    refine b_if_eq hx hb 72 51 dX10_mayDo_51 (by decide) hpf (fun hpf => ?_) (fun hpf => ?_)
    · refine lv_iconst (v := (1 : Int32)) hx hb dX10_mayDo_72 (by decide) ?_
      refine lv_goto (tgt := 77) hx hb dX10_mayDo_73 (by decide) ?_
      exact m_retzc C I hr hz 77 dX10_mayDo_77 (by decide) hpf
    refine lv_iload hx hb dX10_mayDo_54 (lv_at hl 3 rfl) ?_
    refine b_if_ne hx hb 66 56 dX10_mayDo_56 (by decide) hpf (fun hpf => ?_) (fun hpf => ?_)
    · refine lv_iload hx hb dX10_mayDo_66 (lv_at hl 3 rfl) ?_
      refine lv_iconst (v := (1 : Int32)) hx hb dX10_mayDo_68 (by decide) ?_
      refine b_icmp_ne hx hb 76 69 dX10_mayDo_69 (by decide) hpf (fun hpf => ?_) (fun hpf => ?_)
      · refine lv_iconst (v := (0 : Int32)) hx hb dX10_mayDo_76 (by decide) ?_
        exact m_retzc C I hr hz 77 dX10_mayDo_77 (by decide) hpf
      refine lv_iconst (v := (1 : Int32)) hx hb dX10_mayDo_72 (by decide) ?_
      refine lv_goto (tgt := 77) hx hb dX10_mayDo_73 (by decide) ?_
      exact m_retzc C I hr hz 77 dX10_mayDo_77 (by decide) hpf
    refine lv_iload_n hx hb dX10_mayDo_59 rfl (lv_at hl 2 rfl) ?_
    refine b_if_ne hx hb 76 60 dX10_mayDo_60 (by decide) hpf (fun hpf => ?_) (fun hpf => ?_)
    · refine lv_iconst (v := (0 : Int32)) hx hb dX10_mayDo_76 (by decide) ?_
      exact m_retzc C I hr hz 77 dX10_mayDo_77 (by decide) hpf
    refine lv_goto (tgt := 72) hx hb dX10_mayDo_63 (by decide) ?_
    refine lv_iconst (v := (1 : Int32)) hx hb dX10_mayDo_72 (by decide) ?_
    refine lv_goto (tgt := 77) hx hb dX10_mayDo_73 (by decide) ?_
    exact m_retzc C I hr hz 77 dX10_mayDo_77 (by decide) hpf
  have hC_9 : ∀ (n_9 : Nat), ∀ (x1 : Int32) (x3 : Int32) (x4 : Int32) (x5 : Int32) (x6 : Int32) (S : mS) (H : Heap) (locs : List Loc), mV dC dI h cI cZ a s S H locs → ∀ ls : Array Slot, lv_has ls 7 [(0, .ref h), (1, .int x1), (3, .int x3), (4, .int x4), (5, .int x5), (6, .int x6)] → pf_mayDo_9 N (pf_mayDo_50 N) n_9 x1 x3 x4 x5 x6 S = some (r, Sf) → W p l e (mRm 4) s m args below meth c H locs 0 0 (MQ below (mQ dC dI h cI cZ a sz r Sf) args s 0 0 (mAt h cI cZ a sz)) (F0 m 9 ls []) := by
    intro n_9
    induction n_9 with
    | zero =>
      intro x1 x3 x4 x5 x6 S H locs I ls hl hpf
      rw [pf_mayDo_9] at hpf
      cases hpf
    | succ n_9 ih_9 =>
      intro x1 x3 x4 x5 x6 S H locs I ls hl hpf
      rw [pf_mayDo_9] at hpf
      refine lv_iload hx hb dX10_mayDo_9 (lv_at hl 5 rfl) ?_
      refine b_if_lt hx hb 50 11 dX10_mayDo_11 (by decide) hpf (fun hpf => ?_) (fun hpf => ?_)
      · exact hC_50 x1 x3 x4 S H locs I ls (lv_sub hl [0, 1, 2, 3] rfl) hpf
      refine lv_iload hx hb dX10_mayDo_14 (lv_at hl 3 rfl) ?_
      refine b_if_ne hx hb 50 16 dX10_mayDo_16 (by decide) hpf (fun hpf => ?_) (fun hpf => ?_)
      · exact hC_50 x1 x3 x4 S H locs I ls (lv_sub hl [0, 1, 2, 3] rfl) hpf
      refine lv_iload_n hx hb dX10_mayDo_19 rfl (lv_at hl 1 rfl) ?_
      refine b_if_le hx hb 50 20 dX10_mayDo_20 (by decide) hpf (fun hpf => ?_) (fun hpf => ?_)
      · exact hC_50 x1 x3 x4 S H locs I ls (lv_sub hl [0, 1, 2, 3] rfl) hpf
      refine lv_aload_n hx hb dX10_mayDo_23 rfl (lv_at hl 0 rfl) ?_
      refine lv_iload_n hx hb dX10_mayDo_24 rfl (lv_at hl 1 rfl) ?_
      refine lv_iload hx hb dX10_mayDo_25 (lv_at hl 5 rfl) ?_
      refine lv_iload hx hb dX10_mayDo_27 (lv_at hl 4 rfl) ?_
      refine lv_iload_n hx hb dX10_mayDo_29 rfl (lv_at hl 2 rfl) ?_
      refine m_callI (rest := []) (As := [.int x1, .int x6, .int x5, .int x3]) C I fn_decides (c_decides l N x1 x6 x5 x3) (by decide) 30 dX10_mayDo_30 rfl hl.1 rfl (Nat.le_of_ble_eq_true rfl) hpf (fun v1 S2 H locs I hpf => ?_)
      refine lv_istore (lv' := [(4, .int v1), (0, .ref h), (1, .int x1), (3, .int x3), (5, .int x5), (6, .int x6)]) hx hb dX10_mayDo_33 hl (by decide) rfl (fun ls hl => ?_)
      refine m_iinc (w := (1 : Int32)) hx hb (fun y3 => [(5, .int y3), (4, .int v1), (0, .ref h), (1, .int x1), (3, .int x3), (6, .int x6)]) 35 dX10_mayDo_35 hl (k := 4) rfl (by decide) (by decide) (fun _ => rfl) hpf (fun y3 ls hl hpf => ?_)
      refine lv_aload_n hx hb dX10_mayDo_38 rfl (lv_at hl 2 rfl) ?_
      refine m_getr C I mRef_45 kM_42 39 dX10_mayDo_39 ?_
      refine lv_iload hx hb dX10_mayDo_42 (lv_at hl 5 rfl) ?_
      refine m_iald C I mArr_45 44 dX10_mayDo_44 hpf (fun hpf => ?_)
      refine m_isto hx hb (fun y4 => [(6, .int y4), (5, .int y3), (4, .int v1), (0, .ref h), (1, .int x1), (3, .int x3)]) 45 dX10_mayDo_45 hl (by decide) (fun _ => rfl) hpf (fun y4 ls hl hpf => ?_)
      refine lv_goto (tgt := 9) hx hb dX10_mayDo_47 (by decide) ?_
      exact ih_9 x1 x3 v1 y3 y4 S2 H locs I ls (lv_sub hl [3, 4, 5, 2, 1, 0] rfl) hpf
  refine lv_iconst (v := (0 : Int32)) hx hb dX10_mayDo_0 (by decide) ?_
  refine lv_istore (lv' := [(4, .int (0 : Int32)), (0, .ref h), (1, .int x1), (2, .int x2), (3, .int x3)]) hx hb dX10_mayDo_1 hl (by decide) rfl (fun ls hl => ?_)
  refine lv_iconst (v := (0 : Int32)) hx hb dX10_mayDo_3 (by decide) ?_
  refine lv_istore (lv' := [(5, .int (0 : Int32)), (4, .int (0 : Int32)), (0, .ref h), (1, .int x1), (2, .int x2), (3, .int x3)]) hx hb dX10_mayDo_4 hl (by decide) rfl (fun ls hl => ?_)
  refine lv_iload_n hx hb dX10_mayDo_6 rfl (lv_at hl 4 rfl) ?_
  refine lv_istore (lv' := [(6, .int x2), (5, .int (0 : Int32)), (4, .int (0 : Int32)), (0, .ref h), (1, .int x1), (2, .int x2), (3, .int x3)]) hx hb dX10_mayDo_7 hl (by decide) rfl (fun ls hl => ?_)
  exact hC_9 N x1 x3 (0 : Int32) (0 : Int32) x2 S H locs I ls (lv_sub hl [3, 4, 6, 2, 1, 0] rfl) hpf
-- ===== mayWrite =====
def pf_mayWrite (N : Nat) (x1 : Int32) (x2 : Int32) (S : mS) : Option (Int32 × mS) :=
    gd x1 4 <|
    bd (pf_mayDo N (S.2 18 x1.toNatClampNeg) x2 (1 : Int32) S) fun v1 S2 =>
    zr v1 S2
theorem fn_mayWrite : mFnI yX10_mayWrite cX10_mayWrite 3 (some .boolean) 2 275 := ⟨kM_169, kM_170, kM_171, kM_135, rfl, by decide +kernel, by decide⟩
set_option maxRecDepth 100000 in
set_option maxHeartbeats 4000000 in
theorem c_mayWrite (l : Launch) (N : Nat) (x1 : Int32) (x2 : Int32) : mMet l yX10_mayWrite cX10_mayWrite 3 .boolean 5 [.int x1, .int x2] (pf_mayWrite N x1 x2) := by
  refine mStart (by decide +kernel) rfl (fun h => [(0, .ref h), (1, .int x1), (2, .int x2)]) (fun _ => Nat.le_of_ble_eq_true rfl) (fun _ => rfl) ?_
  intro dC dI h cI cZ a sz S r Sf hpf p e s m args below meth c C hr hz H locs I ls hl
  have hx := C.1
  have hb := C.2.1
  unfold pf_mayWrite at hpf
  refine lv_aload_n hx hb dX10_mayWrite_0 rfl (lv_at hl 0 rfl) ?_
  refine lv_aload_n hx hb dX10_mayWrite_1 rfl (lv_at hl 0 rfl) ?_
  refine m_getr C I mRef_18 kM_17 2 dX10_mayWrite_2 ?_
  refine lv_iload_n hx hb dX10_mayWrite_5 rfl (lv_at hl 1 rfl) ?_
  refine m_iald C I mArr_18 6 dX10_mayWrite_6 hpf (fun hpf => ?_)
  refine lv_iload_n hx hb dX10_mayWrite_7 rfl (lv_at hl 2 rfl) ?_
  refine lv_iconst (v := (1 : Int32)) hx hb dX10_mayWrite_8 (by decide) ?_
  refine m_callI (rest := []) (As := [.int (S.2 18 x1.toNatClampNeg), .int x2, .int (1 : Int32)]) C I fn_mayDo (c_mayDo l N (S.2 18 x1.toNatClampNeg) x2 (1 : Int32)) (by decide) 9 dX10_mayWrite_9 rfl hl.1 rfl (Nat.le_of_ble_eq_true rfl) hpf (fun v1 S2 H locs I hpf => ?_)
  exact m_retz C I hr hz 12 dX10_mayWrite_12 hpf
-- ===== makes =====
def pf_makes_238 (N : Nat) (x1 : Int32) (x8 : Int32) (x9 : Int32) (S : mS) : Option (Int32 × mS) :=
    gd x9 250 <| sv (mA S 36 x9.toNatClampNeg x8) fun S1 =>
    sv (mI S1 22 ((S1.1 22) + (1 : Int32))) fun S2 =>
    gd ((21 : Int32) * x1) 64 <|
    gd ((21 : Int32) * x1) 64 <| sv (mA S2 19 ((21 : Int32) * x1).toNatClampNeg ((S2.2 19 ((21 : Int32) * x1).toNatClampNeg) + (1 : Int32))) fun S3 =>
    sv (mI S3 37 (-1 : Int32)) fun S4 =>
    some (x8, S4)
def pf_makes_216 (N : Nat) (k_145 : Int32 → Int32 → Int32 → mS → Option (Int32 × mS)) (x1 : Int32) (x8 : Int32) (x9 : Int32) (S : mS) : Option (Int32 × mS) :=
    gd (x9 - (1 : Int32)) 250 <|
    gd x9 250 <| sv (mA S 36 x9.toNatClampNeg (S.2 36 (x9 - (1 : Int32)).toNatClampNeg)) fun S1 =>
    nm (x9 + (-1 : Int32)) fun y2 =>
    k_145 x1 x8 y2 S1
def pf_makes_145 (N : Nat) (k_238 : Int32 → Int32 → Int32 → mS → Option (Int32 × mS)) : Nat → Int32 → Int32 → Int32 → mS → Option (Int32 × mS)
  | 0 => fun _ _ _ _ => none
  | n_145 + 1 => fun x1 x8 x9 S =>
    if x9 ≤ (0 : Int32) then (
      k_238 x1 x8 x9 S)
    else (
      gd (x9 - (1 : Int32)) 250 <|
      gd (S.2 36 (x9 - (1 : Int32)).toNatClampNeg) 250 <|
      gd x8 250 <|
      if (S.2 23 x8.toNatClampNeg) < (S.2 23 (S.2 36 (x9 - (1 : Int32)).toNatClampNeg).toNatClampNeg) then (
        pf_makes_216 N (pf_makes_145 N k_238 n_145) x1 x8 x9 S)
      else (
        gd (x9 - (1 : Int32)) 250 <|
        gd (S.2 36 (x9 - (1 : Int32)).toNatClampNeg) 250 <|
        gd x8 250 <|
        if (S.2 23 (S.2 36 (x9 - (1 : Int32)).toNatClampNeg).toNatClampNeg) = (S.2 23 x8.toNatClampNeg) then (
          gd (x9 - (1 : Int32)) 250 <|
          gd (S.2 36 (x9 - (1 : Int32)).toNatClampNeg) 250 <|
          if (S.2 24 (S.2 36 (x9 - (1 : Int32)).toNatClampNeg).toNatClampNeg) ≤ x1 then (
            k_238 x1 x8 x9 S)
          else (
            pf_makes_216 N (pf_makes_145 N k_238 n_145) x1 x8 x9 S))
        else (
          k_238 x1 x8 x9 S)))
def pf_makes_57 (N : Nat) (x1 : Int32) (x2 : Int32) (x3 : Int32) (x4 : Int32) (x5 : Int32) (x6 : Int32) (x7 : Int32) (S : mS) : Option (Int32 × mS) :=
    nm (S.1 22) fun y1 =>
    gd y1 250 <| sv (mA S 23 y1.toNatClampNeg (x7 + (1 : Int32))) fun S2 =>
    gd y1 250 <| sv (mA S2 24 y1.toNatClampNeg x1) fun S3 =>
    gd ((21 : Int32) * x1) 64 <|
    gd y1 250 <| sv (mA S3 25 y1.toNatClampNeg (S3.2 19 ((21 : Int32) * x1).toNatClampNeg)) fun S4 =>
    gd y1 250 <| sv (mA S4 26 y1.toNatClampNeg x2) fun S5 =>
    gd y1 250 <| sv (mA S5 27 y1.toNatClampNeg x3) fun S6 =>
    gd y1 250 <| sv (mA S6 28 y1.toNatClampNeg x4) fun S7 =>
    gd y1 250 <| sv (mA S7 29 y1.toNatClampNeg x5) fun S8 =>
    gd y1 250 <| sv (mA S8 30 y1.toNatClampNeg x6) fun S9 =>
    pf_makes_145 N (pf_makes_238 N) N x1 y1 y1 S9
def pf_makes_49 (N : Nat) (k_6 : Int32 → Int32 → Int32 → Int32 → Int32 → Int32 → Int32 → Int32 → mS → Option (Int32 × mS)) (t0 : Int32) (x1 : Int32) (x2 : Int32) (x3 : Int32) (x4 : Int32) (x5 : Int32) (x6 : Int32) (x8 : Int32) (S : mS) : Option (Int32 × mS) :=
    nm (x8 + (1 : Int32)) fun y1 =>
    k_6 x1 x2 x3 x4 x5 x6 t0 y1 S
def pf_makes_6 (N : Nat) (k_57 : Int32 → Int32 → Int32 → Int32 → Int32 → Int32 → Int32 → mS → Option (Int32 × mS)) : Nat → Int32 → Int32 → Int32 → Int32 → Int32 → Int32 → Int32 → Int32 → mS → Option (Int32 × mS)
  | 0 => fun _ _ _ _ _ _ _ _ _ => none
  | n_6 + 1 => fun x1 x2 x3 x4 x5 x6 x7 x8 S =>
    if (S.1 22) ≤ x8 then (
      k_57 x1 x2 x3 x4 x5 x6 x7 S)
    else (
      bd (pf_isKnown N x1 x8 S) fun v1 S2 =>
      if v1 = (0 : Int32) then (
        pf_makes_49 N (pf_makes_6 N k_57 n_6) x7 x1 x2 x3 x4 x5 x6 x8 S2)
      else (
        gd x8 250 <|
        if (S2.2 23 x8.toNatClampNeg) ≤ x7 then (
          pf_makes_49 N (pf_makes_6 N k_57 n_6) x7 x1 x2 x3 x4 x5 x6 x8 S2)
        else (
          gd x8 250 <|
          pf_makes_49 N (pf_makes_6 N k_57 n_6) (S2.2 23 x8.toNatClampNeg) x1 x2 x3 x4 x5 x6 x8 S2)))
def pf_makes (N : Nat) (x1 : Int32) (x2 : Int32) (x3 : Int32) (x4 : Int32) (x5 : Int32) (x6 : Int32) (S : mS) : Option (Int32 × mS) :=
    pf_makes_6 N (pf_makes_57 N) N x1 x2 x3 x4 x5 x6 (0 : Int32) (0 : Int32) S
theorem fn_makes : mFnI yX10_makes cX10_makes 10 (some .int) 6 284 := ⟨kM_178, kM_179, kM_180, kM_136, rfl, by decide +kernel, by decide⟩
set_option maxRecDepth 100000 in
set_option maxHeartbeats 4000000 in
theorem c_makes (l : Launch) (N : Nat) (x1 : Int32) (x2 : Int32) (x3 : Int32) (x4 : Int32) (x5 : Int32) (x6 : Int32) : mMet l yX10_makes cX10_makes 10 .int 1 [.int x1, .int x2, .int x3, .int x4, .int x5, .int x6] (pf_makes N x1 x2 x3 x4 x5 x6) := by
  refine mStart (by decide +kernel) rfl (fun h => [(0, .ref h), (1, .int x1), (2, .int x2), (3, .int x3), (4, .int x4), (5, .int x5), (6, .int x6)]) (fun _ => Nat.le_of_ble_eq_true rfl) (fun _ => rfl) ?_
  intro dC dI h cI cZ a sz S r Sf hpf p e s m args below meth c C hr hz H locs I ls hl
  have hx := C.1
  have hb := C.2.1
  unfold pf_makes at hpf
  have hC_238 : ∀ (x1 : Int32) (x8 : Int32) (x9 : Int32) (S : mS) (H : Heap) (locs : List Loc), mV dC dI h cI cZ a s S H locs → ∀ ls : Array Slot, lv_has ls 10 [(0, .ref h), (1, .int x1), (8, .int x8), (9, .int x9)] → pf_makes_238 N x1 x8 x9 S = some (r, Sf) → W p l e (mRm 1) s m args below meth c H locs 0 0 (MQ below (mQ dC dI h cI cZ a sz r Sf) args s 0 0 (mAt h cI cZ a sz)) (F0 m 238 ls []) := by
    intro x1 x8 x9 S H locs I ls hl hpf
    unfold pf_makes_238 at hpf
    refine lv_aload_n hx hb dX10_makes_238 rfl (lv_at hl 0 rfl) ?_
    refine m_getr C I mRef_36 kM_33 239 dX10_makes_239 ?_
    refine lv_iload hx hb dX10_makes_242 (lv_at hl 3 rfl) ?_
    refine lv_iload hx hb dX10_makes_244 (lv_at hl 2 rfl) ?_
    refine m_iast C I mArr_36 246 dX10_makes_246 hpf (fun S1 H locs I hpf => ?_)
    refine lv_aload_n hx hb dX10_makes_247 rfl (lv_at hl 0 rfl) ?_
    refine lv_dup hx hb dX10_makes_248 rfl ?_
    refine m_geti C I mInt_22 kM_98 249 dX10_makes_249 ?_
    refine lv_iconst (v := (1 : Int32)) hx hb dX10_makes_252 (by decide) ?_
    refine lv_iadd hx hb dX10_makes_253 ?_
    refine m_puti C I mInt_22 kM_98 254 dX10_makes_254 hpf (fun S2 H locs I hpf => ?_)
    refine lv_aload_n hx hb dX10_makes_257 rfl (lv_at hl 0 rfl) ?_
    refine m_getr C I mRef_19 kM_18 258 dX10_makes_258 ?_
    refine lv_bipush (v := (21 : Int32)) hx hb dX10_makes_261 (by decide) ?_
    refine lv_iload_n hx hb dX10_makes_263 rfl (lv_at hl 1 rfl) ?_
    refine lv_imul hx hb dX10_makes_264 ?_
    refine lv_dup2_11 hx hb dX10_makes_265 rfl rfl ?_
    refine m_iald C I mArr_19 266 dX10_makes_266 hpf (fun hpf => ?_)
    refine lv_iconst (v := (1 : Int32)) hx hb dX10_makes_267 (by decide) ?_
    refine lv_iadd hx hb dX10_makes_268 ?_
    refine m_iast C I mArr_19 269 dX10_makes_269 hpf (fun S3 H locs I hpf => ?_)
    refine lv_aload_n hx hb dX10_makes_270 rfl (lv_at hl 0 rfl) ?_
    refine lv_iconst (v := (-1 : Int32)) hx hb dX10_makes_271 (by decide) ?_
    refine m_puti C I mInt_37 kM_34 272 dX10_makes_272 hpf (fun S4 H locs I hpf => ?_)
    refine lv_iload hx hb dX10_makes_275 (lv_at hl 2 rfl) ?_
    exact m_reti C I hr hz 277 dX10_makes_277 hpf
  have hC_145 : ∀ (n_145 : Nat), ∀ (x1 : Int32) (x8 : Int32) (x9 : Int32) (S : mS) (H : Heap) (locs : List Loc), mV dC dI h cI cZ a s S H locs → ∀ ls : Array Slot, lv_has ls 10 [(0, .ref h), (1, .int x1), (8, .int x8), (9, .int x9)] → pf_makes_145 N (pf_makes_238 N) n_145 x1 x8 x9 S = some (r, Sf) → W p l e (mRm 1) s m args below meth c H locs 0 0 (MQ below (mQ dC dI h cI cZ a sz r Sf) args s 0 0 (mAt h cI cZ a sz)) (F0 m 145 ls []) := by
    intro n_145
    induction n_145 with
    | zero =>
      intro x1 x8 x9 S H locs I ls hl hpf
      rw [pf_makes_145] at hpf
      cases hpf
    | succ n_145 ih_145 =>
      have hC_216 : ∀ (x1 : Int32) (x8 : Int32) (x9 : Int32) (S : mS) (H : Heap) (locs : List Loc), mV dC dI h cI cZ a s S H locs → ∀ ls : Array Slot, lv_has ls 10 [(0, .ref h), (1, .int x1), (8, .int x8), (9, .int x9)] → pf_makes_216 N (pf_makes_145 N (pf_makes_238 N) n_145) x1 x8 x9 S = some (r, Sf) → W p l e (mRm 1) s m args below meth c H locs 0 0 (MQ below (mQ dC dI h cI cZ a sz r Sf) args s 0 0 (mAt h cI cZ a sz)) (F0 m 216 ls []) := by
        intro x1 x8 x9 S H locs I ls hl hpf
        unfold pf_makes_216 at hpf
        refine lv_aload_n hx hb dX10_makes_216 rfl (lv_at hl 0 rfl) ?_
        refine m_getr C I mRef_36 kM_33 217 dX10_makes_217 ?_
        refine lv_iload hx hb dX10_makes_220 (lv_at hl 3 rfl) ?_
        refine lv_aload_n hx hb dX10_makes_222 rfl (lv_at hl 0 rfl) ?_
        refine m_getr C I mRef_36 kM_33 223 dX10_makes_223 ?_
        refine lv_iload hx hb dX10_makes_226 (lv_at hl 3 rfl) ?_
        refine lv_iconst (v := (1 : Int32)) hx hb dX10_makes_228 (by decide) ?_
        refine lv_isub hx hb dX10_makes_229 ?_
        refine m_iald C I mArr_36 230 dX10_makes_230 hpf (fun hpf => ?_)
        refine m_iast C I mArr_36 231 dX10_makes_231 hpf (fun S1 H locs I hpf => ?_)
        refine m_iinc (w := (-1 : Int32)) hx hb (fun y2 => [(9, .int y2), (0, .ref h), (1, .int x1), (8, .int x8)]) 232 dX10_makes_232 hl (k := 3) rfl (by decide) (by decide) (fun _ => rfl) hpf (fun y2 ls hl hpf => ?_)
        refine lv_goto (tgt := 145) hx hb dX10_makes_235 (by decide) ?_
        exact ih_145 x1 x8 y2 S1 H locs I ls (lv_sub hl [1, 2, 3, 0] rfl) hpf
      intro x1 x8 x9 S H locs I ls hl hpf
      rw [pf_makes_145] at hpf
      refine lv_iload hx hb dX10_makes_145 (lv_at hl 3 rfl) ?_
      refine b_if_le hx hb 238 147 dX10_makes_147 (by decide) hpf (fun hpf => ?_) (fun hpf => ?_)
      · exact hC_238 x1 x8 x9 S H locs I ls (lv_sub hl [0, 1, 2, 3] rfl) hpf
      refine lv_aload_n hx hb dX10_makes_150 rfl (lv_at hl 0 rfl) ?_
      refine m_getr C I mRef_23 kM_21 151 dX10_makes_151 ?_
      refine lv_aload_n hx hb dX10_makes_154 rfl (lv_at hl 0 rfl) ?_
      refine m_getr C I mRef_36 kM_33 155 dX10_makes_155 ?_
      refine lv_iload hx hb dX10_makes_158 (lv_at hl 3 rfl) ?_
      refine lv_iconst (v := (1 : Int32)) hx hb dX10_makes_160 (by decide) ?_
      refine lv_isub hx hb dX10_makes_161 ?_
      refine m_iald C I mArr_36 162 dX10_makes_162 hpf (fun hpf => ?_)
      refine m_iald C I mArr_23 163 dX10_makes_163 hpf (fun hpf => ?_)
      refine lv_aload_n hx hb dX10_makes_164 rfl (lv_at hl 0 rfl) ?_
      refine m_getr C I mRef_23 kM_21 165 dX10_makes_165 ?_
      refine lv_iload hx hb dX10_makes_168 (lv_at hl 2 rfl) ?_
      refine m_iald C I mArr_23 170 dX10_makes_170 hpf (fun hpf => ?_)
      refine b_icmp_gt hx hb 216 171 dX10_makes_171 (by decide) hpf (fun hpf => ?_) (fun hpf => ?_)
      · exact hC_216 x1 x8 x9 S H locs I ls (lv_sub hl [0, 1, 2, 3] rfl) hpf
      refine lv_aload_n hx hb dX10_makes_174 rfl (lv_at hl 0 rfl) ?_
      refine m_getr C I mRef_23 kM_21 175 dX10_makes_175 ?_
      refine lv_aload_n hx hb dX10_makes_178 rfl (lv_at hl 0 rfl) ?_
      refine m_getr C I mRef_36 kM_33 179 dX10_makes_179 ?_
      refine lv_iload hx hb dX10_makes_182 (lv_at hl 3 rfl) ?_
      refine lv_iconst (v := (1 : Int32)) hx hb dX10_makes_184 (by decide) ?_
      refine lv_isub hx hb dX10_makes_185 ?_
      refine m_iald C I mArr_36 186 dX10_makes_186 hpf (fun hpf => ?_)
      refine m_iald C I mArr_23 187 dX10_makes_187 hpf (fun hpf => ?_)
      refine lv_aload_n hx hb dX10_makes_188 rfl (lv_at hl 0 rfl) ?_
      refine m_getr C I mRef_23 kM_21 189 dX10_makes_189 ?_
      refine lv_iload hx hb dX10_makes_192 (lv_at hl 2 rfl) ?_
      refine m_iald C I mArr_23 194 dX10_makes_194 hpf (fun hpf => ?_)
      refine b_icmp_ne hx hb 238 195 dX10_makes_195 (by decide) hpf (fun hpf => ?_) (fun hpf => ?_)
      · exact hC_238 x1 x8 x9 S H locs I ls (lv_sub hl [0, 1, 2, 3] rfl) hpf
      refine lv_aload_n hx hb dX10_makes_198 rfl (lv_at hl 0 rfl) ?_
      refine m_getr C I mRef_24 kM_22 199 dX10_makes_199 ?_
      refine lv_aload_n hx hb dX10_makes_202 rfl (lv_at hl 0 rfl) ?_
      refine m_getr C I mRef_36 kM_33 203 dX10_makes_203 ?_
      refine lv_iload hx hb dX10_makes_206 (lv_at hl 3 rfl) ?_
      refine lv_iconst (v := (1 : Int32)) hx hb dX10_makes_208 (by decide) ?_
      refine lv_isub hx hb dX10_makes_209 ?_
      refine m_iald C I mArr_36 210 dX10_makes_210 hpf (fun hpf => ?_)
      refine m_iald C I mArr_24 211 dX10_makes_211 hpf (fun hpf => ?_)
      refine lv_iload_n hx hb dX10_makes_212 rfl (lv_at hl 1 rfl) ?_
      refine b_icmp_le hx hb 238 213 dX10_makes_213 (by decide) hpf (fun hpf => ?_) (fun hpf => ?_)
      · exact hC_238 x1 x8 x9 S H locs I ls (lv_sub hl [0, 1, 2, 3] rfl) hpf
      exact hC_216 x1 x8 x9 S H locs I ls (lv_sub hl [0, 1, 2, 3] rfl) hpf
  have hC_57 : ∀ (x1 : Int32) (x2 : Int32) (x3 : Int32) (x4 : Int32) (x5 : Int32) (x6 : Int32) (x7 : Int32) (S : mS) (H : Heap) (locs : List Loc), mV dC dI h cI cZ a s S H locs → ∀ ls : Array Slot, lv_has ls 10 [(0, .ref h), (1, .int x1), (2, .int x2), (3, .int x3), (4, .int x4), (5, .int x5), (6, .int x6), (7, .int x7)] → pf_makes_57 N x1 x2 x3 x4 x5 x6 x7 S = some (r, Sf) → W p l e (mRm 1) s m args below meth c H locs 0 0 (MQ below (mQ dC dI h cI cZ a sz r Sf) args s 0 0 (mAt h cI cZ a sz)) (F0 m 57 ls []) := by
    intro x1 x2 x3 x4 x5 x6 x7 S H locs I ls hl hpf
    unfold pf_makes_57 at hpf
    refine lv_aload_n hx hb dX10_makes_57 rfl (lv_at hl 0 rfl) ?_
    refine m_geti C I mInt_22 kM_98 58 dX10_makes_58 ?_
    refine m_isto hx hb (fun y1 => [(8, .int y1), (0, .ref h), (1, .int x1), (2, .int x2), (3, .int x3), (4, .int x4), (5, .int x5), (6, .int x6), (7, .int x7)]) 61 dX10_makes_61 hl (by decide) (fun _ => rfl) hpf (fun y1 ls hl hpf => ?_)
    refine lv_aload_n hx hb dX10_makes_63 rfl (lv_at hl 1 rfl) ?_
    refine m_getr C I mRef_23 kM_21 64 dX10_makes_64 ?_
    refine lv_iload hx hb dX10_makes_67 (lv_at hl 0 rfl) ?_
    refine lv_iload hx hb dX10_makes_69 (lv_at hl 8 rfl) ?_
    refine lv_iconst (v := (1 : Int32)) hx hb dX10_makes_71 (by decide) ?_
    refine lv_iadd hx hb dX10_makes_72 ?_
    refine m_iast C I mArr_23 73 dX10_makes_73 hpf (fun S2 H locs I hpf => ?_)
    refine lv_aload_n hx hb dX10_makes_74 rfl (lv_at hl 1 rfl) ?_
    refine m_getr C I mRef_24 kM_22 75 dX10_makes_75 ?_
    refine lv_iload hx hb dX10_makes_78 (lv_at hl 0 rfl) ?_
    refine lv_iload_n hx hb dX10_makes_80 rfl (lv_at hl 2 rfl) ?_
    refine m_iast C I mArr_24 81 dX10_makes_81 hpf (fun S3 H locs I hpf => ?_)
    refine lv_aload_n hx hb dX10_makes_82 rfl (lv_at hl 1 rfl) ?_
    refine m_getr C I mRef_25 kM_23 83 dX10_makes_83 ?_
    refine lv_iload hx hb dX10_makes_86 (lv_at hl 0 rfl) ?_
    refine lv_aload_n hx hb dX10_makes_88 rfl (lv_at hl 1 rfl) ?_
    refine m_getr C I mRef_19 kM_18 89 dX10_makes_89 ?_
    refine lv_bipush (v := (21 : Int32)) hx hb dX10_makes_92 (by decide) ?_
    refine lv_iload_n hx hb dX10_makes_94 rfl (lv_at hl 2 rfl) ?_
    refine lv_imul hx hb dX10_makes_95 ?_
    refine m_iald C I mArr_19 96 dX10_makes_96 hpf (fun hpf => ?_)
    refine m_iast C I mArr_25 97 dX10_makes_97 hpf (fun S4 H locs I hpf => ?_)
    refine lv_aload_n hx hb dX10_makes_98 rfl (lv_at hl 1 rfl) ?_
    refine m_getr C I mRef_26 kM_24 99 dX10_makes_99 ?_
    refine lv_iload hx hb dX10_makes_102 (lv_at hl 0 rfl) ?_
    refine lv_iload_n hx hb dX10_makes_104 rfl (lv_at hl 3 rfl) ?_
    refine m_iast C I mArr_26 105 dX10_makes_105 hpf (fun S5 H locs I hpf => ?_)
    refine lv_aload_n hx hb dX10_makes_106 rfl (lv_at hl 1 rfl) ?_
    refine m_getr C I mRef_27 kM_25 107 dX10_makes_107 ?_
    refine lv_iload hx hb dX10_makes_110 (lv_at hl 0 rfl) ?_
    refine lv_iload_n hx hb dX10_makes_112 rfl (lv_at hl 4 rfl) ?_
    refine m_iast C I mArr_27 113 dX10_makes_113 hpf (fun S6 H locs I hpf => ?_)
    refine lv_aload_n hx hb dX10_makes_114 rfl (lv_at hl 1 rfl) ?_
    refine m_getr C I mRef_28 kM_26 115 dX10_makes_115 ?_
    refine lv_iload hx hb dX10_makes_118 (lv_at hl 0 rfl) ?_
    refine lv_iload hx hb dX10_makes_120 (lv_at hl 5 rfl) ?_
    refine m_iast C I mArr_28 122 dX10_makes_122 hpf (fun S7 H locs I hpf => ?_)
    refine lv_aload_n hx hb dX10_makes_123 rfl (lv_at hl 1 rfl) ?_
    refine m_getr C I mRef_29 kM_27 124 dX10_makes_124 ?_
    refine lv_iload hx hb dX10_makes_127 (lv_at hl 0 rfl) ?_
    refine lv_iload hx hb dX10_makes_129 (lv_at hl 6 rfl) ?_
    refine m_iast C I mArr_29 131 dX10_makes_131 hpf (fun S8 H locs I hpf => ?_)
    refine lv_aload_n hx hb dX10_makes_132 rfl (lv_at hl 1 rfl) ?_
    refine m_getr C I mRef_30 kM_28 133 dX10_makes_133 ?_
    refine lv_iload hx hb dX10_makes_136 (lv_at hl 0 rfl) ?_
    refine lv_iload hx hb dX10_makes_138 (lv_at hl 7 rfl) ?_
    refine m_iast C I mArr_30 140 dX10_makes_140 hpf (fun S9 H locs I hpf => ?_)
    refine lv_iload hx hb dX10_makes_141 (lv_at hl 0 rfl) ?_
    refine lv_istore (lv' := [(9, .int y1), (8, .int y1), (0, .ref h), (1, .int x1), (2, .int x2), (3, .int x3), (4, .int x4), (5, .int x5), (6, .int x6), (7, .int x7)]) hx hb dX10_makes_143 hl (by decide) rfl (fun ls hl => ?_)
    exact hC_145 N x1 y1 y1 S9 H locs I ls (lv_sub hl [2, 3, 1, 0] rfl) hpf
  have hC_6 : ∀ (n_6 : Nat), ∀ (x1 : Int32) (x2 : Int32) (x3 : Int32) (x4 : Int32) (x5 : Int32) (x6 : Int32) (x7 : Int32) (x8 : Int32) (S : mS) (H : Heap) (locs : List Loc), mV dC dI h cI cZ a s S H locs → ∀ ls : Array Slot, lv_has ls 10 [(0, .ref h), (1, .int x1), (2, .int x2), (3, .int x3), (4, .int x4), (5, .int x5), (6, .int x6), (7, .int x7), (8, .int x8)] → pf_makes_6 N (pf_makes_57 N) n_6 x1 x2 x3 x4 x5 x6 x7 x8 S = some (r, Sf) → W p l e (mRm 1) s m args below meth c H locs 0 0 (MQ below (mQ dC dI h cI cZ a sz r Sf) args s 0 0 (mAt h cI cZ a sz)) (F0 m 6 ls []) := by
    intro n_6
    induction n_6 with
    | zero =>
      intro x1 x2 x3 x4 x5 x6 x7 x8 S H locs I ls hl hpf
      rw [pf_makes_6] at hpf
      cases hpf
    | succ n_6 ih_6 =>
      have hC_49 : ∀ (t0 : Int32) (x1 : Int32) (x2 : Int32) (x3 : Int32) (x4 : Int32) (x5 : Int32) (x6 : Int32) (x8 : Int32) (S : mS) (H : Heap) (locs : List Loc), mV dC dI h cI cZ a s S H locs → ∀ ls : Array Slot, lv_has ls 10 [(0, .ref h), (1, .int x1), (2, .int x2), (3, .int x3), (4, .int x4), (5, .int x5), (6, .int x6), (8, .int x8)] → pf_makes_49 N (pf_makes_6 N (pf_makes_57 N) n_6) t0 x1 x2 x3 x4 x5 x6 x8 S = some (r, Sf) → W p l e (mRm 1) s m args below meth c H locs 0 0 (MQ below (mQ dC dI h cI cZ a sz r Sf) args s 0 0 (mAt h cI cZ a sz)) (F0 m 49 ls [.int t0]) := by
        intro t0 x1 x2 x3 x4 x5 x6 x8 S H locs I ls hl hpf
        unfold pf_makes_49 at hpf
        refine lv_istore (lv' := [(7, .int t0), (0, .ref h), (1, .int x1), (2, .int x2), (3, .int x3), (4, .int x4), (5, .int x5), (6, .int x6), (8, .int x8)]) hx hb dX10_makes_49 hl (by decide) rfl (fun ls hl => ?_)
        refine m_iinc (w := (1 : Int32)) hx hb (fun y1 => [(8, .int y1), (7, .int t0), (0, .ref h), (1, .int x1), (2, .int x2), (3, .int x3), (4, .int x4), (5, .int x5), (6, .int x6)]) 51 dX10_makes_51 hl (k := 8) rfl (by decide) (by decide) (fun _ => rfl) hpf (fun y1 ls hl hpf => ?_)
        refine lv_goto (tgt := 6) hx hb dX10_makes_54 (by decide) ?_
        exact ih_6 x1 x2 x3 x4 x5 x6 t0 y1 S H locs I ls (lv_sub hl [2, 3, 4, 5, 6, 7, 8, 1, 0] rfl) hpf
      intro x1 x2 x3 x4 x5 x6 x7 x8 S H locs I ls hl hpf
      rw [pf_makes_6] at hpf
      refine lv_iload hx hb dX10_makes_6 (lv_at hl 8 rfl) ?_
      refine lv_aload_n hx hb dX10_makes_8 rfl (lv_at hl 0 rfl) ?_
      refine m_geti C I mInt_22 kM_98 9 dX10_makes_9 ?_
      refine b_icmp_ge hx hb 57 12 dX10_makes_12 (by decide) hpf (fun hpf => ?_) (fun hpf => ?_)
      · exact hC_57 x1 x2 x3 x4 x5 x6 x7 S H locs I ls (lv_sub hl [0, 1, 2, 3, 4, 5, 6, 7] rfl) hpf
      refine lv_aload_n hx hb dX10_makes_15 rfl (lv_at hl 0 rfl) ?_
      refine lv_iload_n hx hb dX10_makes_16 rfl (lv_at hl 1 rfl) ?_
      refine lv_iload hx hb dX10_makes_17 (lv_at hl 8 rfl) ?_
      refine m_callI (rest := []) (As := [.int x1, .int x8]) C I fn_isKnown (c_isKnown l N x1 x8) (by decide) 19 dX10_makes_19 rfl hl.1 rfl (Nat.le_of_ble_eq_true rfl) hpf (fun v1 S2 H locs I hpf => ?_)
      refine b_if_eq hx hb 47 22 dX10_makes_22 (by decide) hpf (fun hpf => ?_) (fun hpf => ?_)
      · refine lv_iload hx hb dX10_makes_47 (lv_at hl 7 rfl) ?_
        exact hC_49 x7 x1 x2 x3 x4 x5 x6 x8 S2 H locs I ls (lv_sub hl [0, 1, 2, 3, 4, 5, 6, 8] rfl) hpf
      refine lv_aload_n hx hb dX10_makes_25 rfl (lv_at hl 0 rfl) ?_
      refine m_getr C I mRef_23 kM_21 26 dX10_makes_26 ?_
      refine lv_iload hx hb dX10_makes_29 (lv_at hl 8 rfl) ?_
      refine m_iald C I mArr_23 31 dX10_makes_31 hpf (fun hpf => ?_)
      refine lv_iload hx hb dX10_makes_32 (lv_at hl 7 rfl) ?_
      refine b_icmp_le hx hb 47 34 dX10_makes_34 (by decide) hpf (fun hpf => ?_) (fun hpf => ?_)
      · refine lv_iload hx hb dX10_makes_47 (lv_at hl 7 rfl) ?_
        exact hC_49 x7 x1 x2 x3 x4 x5 x6 x8 S2 H locs I ls (lv_sub hl [0, 1, 2, 3, 4, 5, 6, 8] rfl) hpf
      refine lv_aload_n hx hb dX10_makes_37 rfl (lv_at hl 0 rfl) ?_
      refine m_getr C I mRef_23 kM_21 38 dX10_makes_38 ?_
      refine lv_iload hx hb dX10_makes_41 (lv_at hl 8 rfl) ?_
      refine m_iald C I mArr_23 43 dX10_makes_43 hpf (fun hpf => ?_)
      refine lv_goto (tgt := 49) hx hb dX10_makes_44 (by decide) ?_
      exact hC_49 (S2.2 23 x8.toNatClampNeg) x1 x2 x3 x4 x5 x6 x8 S2 H locs I ls (lv_sub hl [0, 1, 2, 3, 4, 5, 6, 8] rfl) hpf
  refine lv_iconst (v := (0 : Int32)) hx hb dX10_makes_0 (by decide) ?_
  refine lv_istore (lv' := [(7, .int (0 : Int32)), (0, .ref h), (1, .int x1), (2, .int x2), (3, .int x3), (4, .int x4), (5, .int x5), (6, .int x6)]) hx hb dX10_makes_1 hl (by decide) rfl (fun ls hl => ?_)
  refine lv_iconst (v := (0 : Int32)) hx hb dX10_makes_3 (by decide) ?_
  refine lv_istore (lv' := [(8, .int (0 : Int32)), (7, .int (0 : Int32)), (0, .ref h), (1, .int x1), (2, .int x2), (3, .int x3), (4, .int x4), (5, .int x5), (6, .int x6)]) hx hb dX10_makes_4 hl (by decide) rfl (fun ls hl => ?_)
  exact hC_6 N x1 x2 x3 x4 x5 x6 (0 : Int32) (0 : Int32) S H locs I ls (lv_sub hl [2, 3, 4, 5, 6, 7, 8, 1, 0] rfl) hpf
-- ===== isFull =====
def pf_isFull (N : Nat) (S : mS) : Option (Int32 × mS) :=
    if (S.1 22) = (250 : Int32) then (
      some ((1 : Int32), S))
    else (
      some ((0 : Int32), S))
theorem fn_isFull : mFnI yX10_isFull cX10_isFull 1 (some .boolean) 0 271 := ⟨kM_166, kM_167, kM_168, kM_137, rfl, by decide +kernel, by decide⟩
set_option maxRecDepth 100000 in
set_option maxHeartbeats 4000000 in
theorem c_isFull (l : Launch) (N : Nat)  : mMet l yX10_isFull cX10_isFull 1 .boolean 0 [] (pf_isFull N ) := by
  refine mStart (by decide +kernel) rfl (fun h => [(0, .ref h)]) (fun _ => Nat.le_of_ble_eq_true rfl) (fun _ => rfl) ?_
  intro dC dI h cI cZ a sz S r Sf hpf p e s m args below meth c C hr hz H locs I ls hl
  have hx := C.1
  have hb := C.2.1
  unfold pf_isFull at hpf
  refine lv_aload_n hx hb dX10_isFull_0 rfl (lv_at hl 0 rfl) ?_
  refine m_geti C I mInt_22 kM_98 1 dX10_isFull_1 ?_
  refine lv_sipush (v := (250 : Int32)) hx hb dX10_isFull_4 (by decide) ?_
  refine b_icmp_ne hx hb 14 7 dX10_isFull_7 (by decide) hpf (fun hpf => ?_) (fun hpf => ?_)
  · refine lv_iconst (v := (0 : Int32)) hx hb dX10_isFull_14 (by decide) ?_
    exact m_retzc C I hr hz 15 dX10_isFull_15 (by decide) hpf
  refine lv_iconst (v := (1 : Int32)) hx hb dX10_isFull_10 (by decide) ?_
  refine lv_goto (tgt := 15) hx hb dX10_isFull_11 (by decide) ?_
  exact m_retzc C I hr hz 15 dX10_isFull_15 (by decide) hpf
-- ===== attribute =====
def pf_attribute (N : Nat) (x1 : Int32) (x2 : Int32) (S : mS) : Option (Int32 × mS) :=
    sv (mI S 0 (0 : Int32)) fun S1 =>
    if (S1.1 1) = (10 : Int32) then (
      bd (pf_fails N (1 : Int32) S1) fun v5 S6 =>
      some (v5, S6))
    else (
      gd (S1.1 1) 10 <| sv (mA S1 2 (S1.1 1).toNatClampNeg (vp_nar .boolean x1)) fun S2 =>
      gd (S2.1 1) 10 <| sv (mA S2 3 (S2.1 1).toNatClampNeg (vp_nar .boolean x2)) fun S3 =>
      sv (mI S3 1 ((S3.1 1) + (1 : Int32))) fun S4 =>
      some ((S4.1 1) - (1 : Int32), S4))

set_option maxRecDepth 100000 in
set_option maxHeartbeats 4000000 in
theorem c_attribute (l : Launch) (N : Nat) (x1 : Int32) (x2 : Int32) : mMet l yX10_attribute cX10_attribute 3 .int 1 [.int x1, .int x2] (pf_attribute N x1 x2) := by
  refine mStart (by decide +kernel) rfl (fun h => [(0, .ref h), (1, .int x1), (2, .int x2)]) (fun _ => Nat.le_of_ble_eq_true rfl) (fun _ => rfl) ?_
  intro dC dI h cI cZ a sz S r Sf hpf p e s m args below meth c C hr hz H locs I ls hl
  have hx := C.1
  have hb := C.2.1
  unfold pf_attribute at hpf
  refine lv_aload_n hx hb dX10_attribute_0 rfl (lv_at hl 0 rfl) ?_
  refine lv_iconst (v := (0 : Int32)) hx hb dX10_attribute_1 (by decide) ?_
  refine m_puti C I mInt_0 kM_62 2 dX10_attribute_2 hpf (fun S1 H locs I hpf => ?_)
  refine lv_aload_n hx hb dX10_attribute_5 rfl (lv_at hl 0 rfl) ?_
  refine m_geti C I mInt_1 kM_70 6 dX10_attribute_6 ?_
  refine lv_bipush (v := (10 : Int32)) hx hb dX10_attribute_9 (by decide) ?_
  refine b_icmp_ne hx hb 20 11 dX10_attribute_11 (by decide) hpf (fun hpf => ?_) (fun hpf => ?_)
  · refine lv_aload_n hx hb dX10_attribute_20 rfl (lv_at hl 0 rfl) ?_
    refine m_getr C I mRef_2 kM_4 21 dX10_attribute_21 ?_
    refine lv_aload_n hx hb dX10_attribute_24 rfl (lv_at hl 0 rfl) ?_
    refine m_geti C I mInt_1 kM_70 25 dX10_attribute_25 ?_
    refine lv_iload_n hx hb dX10_attribute_28 rfl (lv_at hl 1 rfl) ?_
    refine m_zast C I mArr_2 29 dX10_attribute_29 hpf (fun S2 H locs I hpf => ?_)
    refine lv_aload_n hx hb dX10_attribute_30 rfl (lv_at hl 0 rfl) ?_
    refine m_getr C I mRef_3 kM_5 31 dX10_attribute_31 ?_
    refine lv_aload_n hx hb dX10_attribute_34 rfl (lv_at hl 0 rfl) ?_
    refine m_geti C I mInt_1 kM_70 35 dX10_attribute_35 ?_
    refine lv_iload_n hx hb dX10_attribute_38 rfl (lv_at hl 2 rfl) ?_
    refine m_zast C I mArr_3 39 dX10_attribute_39 hpf (fun S3 H locs I hpf => ?_)
    refine lv_aload_n hx hb dX10_attribute_40 rfl (lv_at hl 0 rfl) ?_
    refine lv_dup hx hb dX10_attribute_41 rfl ?_
    refine m_geti C I mInt_1 kM_70 42 dX10_attribute_42 ?_
    refine lv_iconst (v := (1 : Int32)) hx hb dX10_attribute_45 (by decide) ?_
    refine lv_iadd hx hb dX10_attribute_46 ?_
    refine m_puti C I mInt_1 kM_70 47 dX10_attribute_47 hpf (fun S4 H locs I hpf => ?_)
    refine lv_aload_n hx hb dX10_attribute_50 rfl (lv_at hl 0 rfl) ?_
    refine m_geti C I mInt_1 kM_70 51 dX10_attribute_51 ?_
    refine lv_iconst (v := (1 : Int32)) hx hb dX10_attribute_54 (by decide) ?_
    refine lv_isub hx hb dX10_attribute_55 ?_
    exact m_reti C I hr hz 56 dX10_attribute_56 hpf
  refine lv_aload_n hx hb dX10_attribute_14 rfl (lv_at hl 0 rfl) ?_
  refine lv_iconst (v := (1 : Int32)) hx hb dX10_attribute_15 (by decide) ?_
  refine m_callI (rest := []) (As := [.int (1 : Int32)]) C I fn_fails (c_fails l N (1 : Int32)) (by decide) 16 dX10_attribute_16 rfl hl.1 rfl (Nat.le_of_ble_eq_true rfl) hpf (fun v5 S6 H locs I hpf => ?_)
  exact m_reti C I hr hz 19 dX10_attribute_19 hpf
-- ===== objectClass =====
def pf_objectClass_37 (N : Nat) (S : mS) : Option (Int32 × mS) :=
    bd (pf_fails N (1 : Int32) S) fun v1 S2 =>
    some (v1, S2)
def pf_objectClass (N : Nat) (x1 : Int32) (x2 : Int32) (x3 : Int32) (S : mS) : Option (Int32 × mS) :=
    sv (mI S 0 (0 : Int32)) fun S1 =>
    bs (pf_in N x1 (-1 : Int32) ((S1.1 4) - (1 : Int32))) fun v2 =>
    if v2 = (0 : Int32) then (
      pf_objectClass_37 N S1)
    else (
      if (x2 >>> ((S1.1 1) &&& 31)) = (0 : Int32) then (
        if (x3 >>> ((S1.1 1) &&& 31)) = (0 : Int32) then (
          if (S1.1 4) = (8 : Int32) then (
            bd (pf_fails N (2 : Int32) S1) fun v7 S8 =>
            some (v7, S8))
          else (
            gd (S1.1 4) 8 <| sv (mA S1 5 (S1.1 4).toNatClampNeg x1) fun S3 =>
            gd (S3.1 4) 8 <| sv (mA S3 6 (S3.1 4).toNatClampNeg x2) fun S4 =>
            gd (S4.1 4) 8 <| sv (mA S4 7 (S4.1 4).toNatClampNeg x3) fun S5 =>
            sv (mI S5 4 ((S5.1 4) + (1 : Int32))) fun S6 =>
            some ((S6.1 4) - (1 : Int32), S6)))
        else (
          pf_objectClass_37 N S1))
      else (
        pf_objectClass_37 N S1))

set_option maxRecDepth 100000 in
set_option maxHeartbeats 4000000 in
theorem c_objectClass (l : Launch) (N : Nat) (x1 : Int32) (x2 : Int32) (x3 : Int32) : mMet l yX10_objectClass cX10_objectClass 4 .int 1 [.int x1, .int x2, .int x3] (pf_objectClass N x1 x2 x3) := by
  refine mStart (by decide +kernel) rfl (fun h => [(0, .ref h), (1, .int x1), (2, .int x2), (3, .int x3)]) (fun _ => Nat.le_of_ble_eq_true rfl) (fun _ => rfl) ?_
  intro dC dI h cI cZ a sz S r Sf hpf p e s m args below meth c C hr hz H locs I ls hl
  have hx := C.1
  have hb := C.2.1
  unfold pf_objectClass at hpf
  have hC_37 : ∀ (S : mS) (H : Heap) (locs : List Loc), mV dC dI h cI cZ a s S H locs → ∀ ls : Array Slot, lv_has ls 4 [(0, .ref h)] → pf_objectClass_37 N S = some (r, Sf) → W p l e (mRm 1) s m args below meth c H locs 0 0 (MQ below (mQ dC dI h cI cZ a sz r Sf) args s 0 0 (mAt h cI cZ a sz)) (F0 m 37 ls []) := by
    intro S H locs I ls hl hpf
    unfold pf_objectClass_37 at hpf
    refine lv_aload_n hx hb dX10_objectClass_37 rfl (lv_at hl 0 rfl) ?_
    refine lv_iconst (v := (1 : Int32)) hx hb dX10_objectClass_38 (by decide) ?_
    refine m_callI (rest := []) (As := [.int (1 : Int32)]) C I fn_fails (c_fails l N (1 : Int32)) (by decide) 39 dX10_objectClass_39 rfl hl.1 rfl (Nat.le_of_ble_eq_true rfl) hpf (fun v1 S2 H locs I hpf => ?_)
    exact m_reti C I hr hz 42 dX10_objectClass_42 hpf
  refine lv_aload_n hx hb dX10_objectClass_0 rfl (lv_at hl 0 rfl) ?_
  refine lv_iconst (v := (0 : Int32)) hx hb dX10_objectClass_1 (by decide) ?_
  refine m_puti C I mInt_0 kM_62 2 dX10_objectClass_2 hpf (fun S1 H locs I hpf => ?_)
  refine lv_iload_n hx hb dX10_objectClass_5 rfl (lv_at hl 1 rfl) ?_
  refine lv_iconst (v := (-1 : Int32)) hx hb dX10_objectClass_6 (by decide) ?_
  refine lv_aload_n hx hb dX10_objectClass_7 rfl (lv_at hl 0 rfl) ?_
  refine m_geti C I mInt_4 kM_72 8 dX10_objectClass_8 ?_
  refine lv_iconst (v := (1 : Int32)) hx hb dX10_objectClass_11 (by decide) ?_
  refine lv_isub hx hb dX10_objectClass_12 ?_
  refine m_callS (rest := []) (As := [.int x1, .int (-1 : Int32), .int ((S1.1 4) - (1 : Int32))]) C I fn_in (c_in l N x1 (-1 : Int32) ((S1.1 4) - (1 : Int32))) (by decide) 13 dX10_objectClass_13 rfl hl.1 rfl (Nat.le_of_ble_eq_true rfl) hpf (fun v2 H locs I hpf => ?_)
  refine b_if_eq hx hb 37 16 dX10_objectClass_16 (by decide) hpf (fun hpf => ?_) (fun hpf => ?_)
  · exact hC_37 S1 H locs I ls (lv_sub hl [0] rfl) hpf
  refine lv_iload_n hx hb dX10_objectClass_19 rfl (lv_at hl 2 rfl) ?_
  refine lv_aload_n hx hb dX10_objectClass_20 rfl (lv_at hl 0 rfl) ?_
  refine m_geti C I mInt_1 kM_70 21 dX10_objectClass_21 ?_
  refine lv_ishr hx hb dX10_objectClass_24 ?_
  refine b_if_ne hx hb 37 25 dX10_objectClass_25 (by decide) hpf (fun hpf => ?_) (fun hpf => ?_)
  · exact hC_37 S1 H locs I ls (lv_sub hl [0] rfl) hpf
  refine lv_iload_n hx hb dX10_objectClass_28 rfl (lv_at hl 3 rfl) ?_
  refine lv_aload_n hx hb dX10_objectClass_29 rfl (lv_at hl 0 rfl) ?_
  refine m_geti C I mInt_1 kM_70 30 dX10_objectClass_30 ?_
  refine lv_ishr hx hb dX10_objectClass_33 ?_
  refine b_if_eq hx hb 43 34 dX10_objectClass_34 (by decide) hpf (fun hpf => ?_) (fun hpf => ?_)
  · refine lv_aload_n hx hb dX10_objectClass_43 rfl (lv_at hl 0 rfl) ?_
    refine m_geti C I mInt_4 kM_72 44 dX10_objectClass_44 ?_
    refine lv_bipush (v := (8 : Int32)) hx hb dX10_objectClass_47 (by decide) ?_
    refine b_icmp_ne hx hb 58 49 dX10_objectClass_49 (by decide) hpf (fun hpf => ?_) (fun hpf => ?_)
    · refine lv_aload_n hx hb dX10_objectClass_58 rfl (lv_at hl 0 rfl) ?_
      refine m_getr C I mRef_5 kM_7 59 dX10_objectClass_59 ?_
      refine lv_aload_n hx hb dX10_objectClass_62 rfl (lv_at hl 0 rfl) ?_
      refine m_geti C I mInt_4 kM_72 63 dX10_objectClass_63 ?_
      refine lv_iload_n hx hb dX10_objectClass_66 rfl (lv_at hl 1 rfl) ?_
      refine m_iast C I mArr_5 67 dX10_objectClass_67 hpf (fun S3 H locs I hpf => ?_)
      refine lv_aload_n hx hb dX10_objectClass_68 rfl (lv_at hl 0 rfl) ?_
      refine m_getr C I mRef_6 kM_8 69 dX10_objectClass_69 ?_
      refine lv_aload_n hx hb dX10_objectClass_72 rfl (lv_at hl 0 rfl) ?_
      refine m_geti C I mInt_4 kM_72 73 dX10_objectClass_73 ?_
      refine lv_iload_n hx hb dX10_objectClass_76 rfl (lv_at hl 2 rfl) ?_
      refine m_iast C I mArr_6 77 dX10_objectClass_77 hpf (fun S4 H locs I hpf => ?_)
      refine lv_aload_n hx hb dX10_objectClass_78 rfl (lv_at hl 0 rfl) ?_
      refine m_getr C I mRef_7 kM_9 79 dX10_objectClass_79 ?_
      refine lv_aload_n hx hb dX10_objectClass_82 rfl (lv_at hl 0 rfl) ?_
      refine m_geti C I mInt_4 kM_72 83 dX10_objectClass_83 ?_
      refine lv_iload_n hx hb dX10_objectClass_86 rfl (lv_at hl 3 rfl) ?_
      refine m_iast C I mArr_7 87 dX10_objectClass_87 hpf (fun S5 H locs I hpf => ?_)
      refine lv_aload_n hx hb dX10_objectClass_88 rfl (lv_at hl 0 rfl) ?_
      refine lv_dup hx hb dX10_objectClass_89 rfl ?_
      refine m_geti C I mInt_4 kM_72 90 dX10_objectClass_90 ?_
      refine lv_iconst (v := (1 : Int32)) hx hb dX10_objectClass_93 (by decide) ?_
      refine lv_iadd hx hb dX10_objectClass_94 ?_
      refine m_puti C I mInt_4 kM_72 95 dX10_objectClass_95 hpf (fun S6 H locs I hpf => ?_)
      refine lv_aload_n hx hb dX10_objectClass_98 rfl (lv_at hl 0 rfl) ?_
      refine m_geti C I mInt_4 kM_72 99 dX10_objectClass_99 ?_
      refine lv_iconst (v := (1 : Int32)) hx hb dX10_objectClass_102 (by decide) ?_
      refine lv_isub hx hb dX10_objectClass_103 ?_
      exact m_reti C I hr hz 104 dX10_objectClass_104 hpf
    refine lv_aload_n hx hb dX10_objectClass_52 rfl (lv_at hl 0 rfl) ?_
    refine lv_iconst (v := (2 : Int32)) hx hb dX10_objectClass_53 (by decide) ?_
    refine m_callI (rest := []) (As := [.int (2 : Int32)]) C I fn_fails (c_fails l N (2 : Int32)) (by decide) 54 dX10_objectClass_54 rfl hl.1 rfl (Nat.le_of_ble_eq_true rfl) hpf (fun v7 S8 H locs I hpf => ?_)
    exact m_reti C I hr hz 57 dX10_objectClass_57 hpf
  exact hC_37 S1 H locs I ls (lv_sub hl [0] rfl) hpf
-- ===== serve =====
def pf_serve_21 (N : Nat) (S : mS) : Option (Int32 × mS) :=
    bd (pf_fails N (1 : Int32) S) fun v1 S2 =>
    some (v1, S2)
def pf_serve (N : Nat) (x1 : Int32) (x2 : Int32) (S : mS) : Option (Int32 × mS) :=
    sv (mI S 0 (0 : Int32)) fun S1 =>
    bs (pf_isMaster N x1) fun v2 =>
    if v2 = (0 : Int32) then (
      pf_serve_21 N S1)
    else (
      bs (pf_in N x2 (0 : Int32) (5 : Int32)) fun v3 =>
      if v3 = (0 : Int32) then (
        pf_serve_21 N S1)
      else (
        gd x1 4 <|
        nm (S1.2 18 x1.toNatClampNeg) fun y4 =>
        gd x1 4 <| sv (mA S1 18 x1.toNatClampNeg x2) fun S5 =>
        some (y4, S5)))

set_option maxRecDepth 100000 in
set_option maxHeartbeats 4000000 in
theorem c_serve (l : Launch) (N : Nat) (x1 : Int32) (x2 : Int32) : mMet l yX10_serve cX10_serve 4 .int 2 [.int x1, .int x2] (pf_serve N x1 x2) := by
  refine mStart (by decide +kernel) rfl (fun h => [(0, .ref h), (1, .int x1), (2, .int x2)]) (fun _ => Nat.le_of_ble_eq_true rfl) (fun _ => rfl) ?_
  intro dC dI h cI cZ a sz S r Sf hpf p e s m args below meth c C hr hz H locs I ls hl
  have hx := C.1
  have hb := C.2.1
  unfold pf_serve at hpf
  have hC_21 : ∀ (S : mS) (H : Heap) (locs : List Loc), mV dC dI h cI cZ a s S H locs → ∀ ls : Array Slot, lv_has ls 4 [(0, .ref h)] → pf_serve_21 N S = some (r, Sf) → W p l e (mRm 2) s m args below meth c H locs 0 0 (MQ below (mQ dC dI h cI cZ a sz r Sf) args s 0 0 (mAt h cI cZ a sz)) (F0 m 21 ls []) := by
    intro S H locs I ls hl hpf
    unfold pf_serve_21 at hpf
    refine lv_aload_n hx hb dX10_serve_21 rfl (lv_at hl 0 rfl) ?_
    refine lv_iconst (v := (1 : Int32)) hx hb dX10_serve_22 (by decide) ?_
    refine m_callI (rest := []) (As := [.int (1 : Int32)]) C I fn_fails (c_fails l N (1 : Int32)) (by decide) 23 dX10_serve_23 rfl hl.1 rfl (Nat.le_of_ble_eq_true rfl) hpf (fun v1 S2 H locs I hpf => ?_)
    exact m_reti C I hr hz 26 dX10_serve_26 hpf
  refine lv_aload_n hx hb dX10_serve_0 rfl (lv_at hl 0 rfl) ?_
  refine lv_iconst (v := (0 : Int32)) hx hb dX10_serve_1 (by decide) ?_
  refine m_puti C I mInt_0 kM_62 2 dX10_serve_2 hpf (fun S1 H locs I hpf => ?_)
  refine lv_iload_n hx hb dX10_serve_5 rfl (lv_at hl 1 rfl) ?_
  refine m_callS (rest := []) (As := [.int x1]) C I fn_isMaster (c_isMaster l N x1) (by decide) 6 dX10_serve_6 rfl hl.1 rfl (Nat.le_of_ble_eq_true rfl) hpf (fun v2 H locs I hpf => ?_)
  refine b_if_eq hx hb 21 9 dX10_serve_9 (by decide) hpf (fun hpf => ?_) (fun hpf => ?_)
  · exact hC_21 S1 H locs I ls (lv_sub hl [0] rfl) hpf
  refine lv_iload_n hx hb dX10_serve_12 rfl (lv_at hl 2 rfl) ?_
  refine lv_iconst (v := (0 : Int32)) hx hb dX10_serve_13 (by decide) ?_
  refine lv_iconst (v := (5 : Int32)) hx hb dX10_serve_14 (by decide) ?_
  refine m_callS (rest := []) (As := [.int x2, .int (0 : Int32), .int (5 : Int32)]) C I fn_in (c_in l N x2 (0 : Int32) (5 : Int32)) (by decide) 15 dX10_serve_15 rfl hl.1 rfl (Nat.le_of_ble_eq_true rfl) hpf (fun v3 H locs I hpf => ?_)
  refine b_if_ne hx hb 27 18 dX10_serve_18 (by decide) hpf (fun hpf => ?_) (fun hpf => ?_)
  · refine lv_aload_n hx hb dX10_serve_27 rfl (lv_at hl 0 rfl) ?_
    refine m_getr C I mRef_18 kM_17 28 dX10_serve_28 ?_
    refine lv_iload_n hx hb dX10_serve_31 rfl (lv_at hl 1 rfl) ?_
    refine m_iald C I mArr_18 32 dX10_serve_32 hpf (fun hpf => ?_)
    refine m_isto_n hx hb (fun y4 => [(3, .int y4), (0, .ref h), (1, .int x1), (2, .int x2)]) 33 dX10_serve_33 rfl hl (by decide) (fun _ => rfl) hpf (fun y4 ls hl hpf => ?_)
    refine lv_aload_n hx hb dX10_serve_34 rfl (lv_at hl 1 rfl) ?_
    refine m_getr C I mRef_18 kM_17 35 dX10_serve_35 ?_
    refine lv_iload_n hx hb dX10_serve_38 rfl (lv_at hl 2 rfl) ?_
    refine lv_iload_n hx hb dX10_serve_39 rfl (lv_at hl 3 rfl) ?_
    refine m_iast C I mArr_18 40 dX10_serve_40 hpf (fun S5 H locs I hpf => ?_)
    refine lv_iload_n hx hb dX10_serve_41 rfl (lv_at hl 0 rfl) ?_
    exact m_reti C I hr hz 42 dX10_serve_42 hpf
  exact hC_21 S1 H locs I ls (lv_sub hl [0] rfl) hpf
-- ===== draft =====
def pf_draft (N : Nat) (x1 : Int32) (x2 : Int32) (S : mS) : Option (Int32 × mS) :=
    sv (mI S 0 (0 : Int32)) fun S1 =>
    bd (pf_isAttribute N x1 S1) fun v2 S3 =>
    if v2 = (0 : Int32) then (
      bd (pf_fails N (1 : Int32) S3) fun v12 S13 =>
      some (v12, S13))
    else (
      bs (pf_isValue N x2) fun v4 =>
      if v4 = (0 : Int32) then (
        bd (pf_fails N (2 : Int32) S3) fun v10 S11 =>
        some (v10, S11))
      else (
        if (S3.1 8) = (12 : Int32) then (
          bd (pf_fails N (3 : Int32) S3) fun v8 S9 =>
          some (v8, S9))
        else (
          gd (S3.1 8) 12 <| sv (mA S3 9 (S3.1 8).toNatClampNeg x1) fun S5 =>
          gd (S5.1 8) 12 <| sv (mA S5 10 (S5.1 8).toNatClampNeg x2) fun S6 =>
          sv (mI S6 8 ((S6.1 8) + (1 : Int32))) fun S7 =>
          some (S7.1 8, S7))))

set_option maxRecDepth 100000 in
set_option maxHeartbeats 4000000 in
theorem c_draft (l : Launch) (N : Nat) (x1 : Int32) (x2 : Int32) : mMet l yX10_draft cX10_draft 3 .int 2 [.int x1, .int x2] (pf_draft N x1 x2) := by
  refine mStart (by decide +kernel) rfl (fun h => [(0, .ref h), (1, .int x1), (2, .int x2)]) (fun _ => Nat.le_of_ble_eq_true rfl) (fun _ => rfl) ?_
  intro dC dI h cI cZ a sz S r Sf hpf p e s m args below meth c C hr hz H locs I ls hl
  have hx := C.1
  have hb := C.2.1
  unfold pf_draft at hpf
  refine lv_aload_n hx hb dX10_draft_0 rfl (lv_at hl 0 rfl) ?_
  refine lv_iconst (v := (0 : Int32)) hx hb dX10_draft_1 (by decide) ?_
  refine m_puti C I mInt_0 kM_62 2 dX10_draft_2 hpf (fun S1 H locs I hpf => ?_)
  refine lv_aload_n hx hb dX10_draft_5 rfl (lv_at hl 0 rfl) ?_
  refine lv_iload_n hx hb dX10_draft_6 rfl (lv_at hl 1 rfl) ?_
  refine m_callI (rest := []) (As := [.int x1]) C I fn_isAttribute (c_isAttribute l N x1) (by decide) 7 dX10_draft_7 rfl hl.1 rfl (Nat.le_of_ble_eq_true rfl) hpf (fun v2 S3 H locs I hpf => ?_)
  refine b_if_ne hx hb 19 10 dX10_draft_10 (by decide) hpf (fun hpf => ?_) (fun hpf => ?_)
  · refine lv_iload_n hx hb dX10_draft_19 rfl (lv_at hl 2 rfl) ?_
    refine m_callS (rest := []) (As := [.int x2]) C I fn_isValue (c_isValue l N x2) (by decide) 20 dX10_draft_20 rfl hl.1 rfl (Nat.le_of_ble_eq_true rfl) hpf (fun v4 H locs I hpf => ?_)
    refine b_if_ne hx hb 32 23 dX10_draft_23 (by decide) hpf (fun hpf => ?_) (fun hpf => ?_)
    · refine lv_aload_n hx hb dX10_draft_32 rfl (lv_at hl 0 rfl) ?_
      refine m_geti C I mInt_8 kM_145 33 dX10_draft_33 ?_
      refine lv_bipush (v := (12 : Int32)) hx hb dX10_draft_36 (by decide) ?_
      refine b_icmp_ne hx hb 47 38 dX10_draft_38 (by decide) hpf (fun hpf => ?_) (fun hpf => ?_)
      · refine lv_aload_n hx hb dX10_draft_47 rfl (lv_at hl 0 rfl) ?_
        refine m_getr C I mRef_9 kM_10 48 dX10_draft_48 ?_
        refine lv_aload_n hx hb dX10_draft_51 rfl (lv_at hl 0 rfl) ?_
        refine m_geti C I mInt_8 kM_145 52 dX10_draft_52 ?_
        refine lv_iload_n hx hb dX10_draft_55 rfl (lv_at hl 1 rfl) ?_
        refine m_iast C I mArr_9 56 dX10_draft_56 hpf (fun S5 H locs I hpf => ?_)
        refine lv_aload_n hx hb dX10_draft_57 rfl (lv_at hl 0 rfl) ?_
        refine m_getr C I mRef_10 kM_11 58 dX10_draft_58 ?_
        refine lv_aload_n hx hb dX10_draft_61 rfl (lv_at hl 0 rfl) ?_
        refine m_geti C I mInt_8 kM_145 62 dX10_draft_62 ?_
        refine lv_iload_n hx hb dX10_draft_65 rfl (lv_at hl 2 rfl) ?_
        refine m_iast C I mArr_10 66 dX10_draft_66 hpf (fun S6 H locs I hpf => ?_)
        refine lv_aload_n hx hb dX10_draft_67 rfl (lv_at hl 0 rfl) ?_
        refine lv_dup hx hb dX10_draft_68 rfl ?_
        refine m_geti C I mInt_8 kM_145 69 dX10_draft_69 ?_
        refine lv_iconst (v := (1 : Int32)) hx hb dX10_draft_72 (by decide) ?_
        refine lv_iadd hx hb dX10_draft_73 ?_
        refine m_puti C I mInt_8 kM_145 74 dX10_draft_74 hpf (fun S7 H locs I hpf => ?_)
        refine lv_aload_n hx hb dX10_draft_77 rfl (lv_at hl 0 rfl) ?_
        refine m_geti C I mInt_8 kM_145 78 dX10_draft_78 ?_
        exact m_reti C I hr hz 81 dX10_draft_81 hpf
      refine lv_aload_n hx hb dX10_draft_41 rfl (lv_at hl 0 rfl) ?_
      refine lv_iconst (v := (3 : Int32)) hx hb dX10_draft_42 (by decide) ?_
      refine m_callI (rest := []) (As := [.int (3 : Int32)]) C I fn_fails (c_fails l N (3 : Int32)) (by decide) 43 dX10_draft_43 rfl hl.1 rfl (Nat.le_of_ble_eq_true rfl) hpf (fun v8 S9 H locs I hpf => ?_)
      exact m_reti C I hr hz 46 dX10_draft_46 hpf
    refine lv_aload_n hx hb dX10_draft_26 rfl (lv_at hl 0 rfl) ?_
    refine lv_iconst (v := (2 : Int32)) hx hb dX10_draft_27 (by decide) ?_
    refine m_callI (rest := []) (As := [.int (2 : Int32)]) C I fn_fails (c_fails l N (2 : Int32)) (by decide) 28 dX10_draft_28 rfl hl.1 rfl (Nat.le_of_ble_eq_true rfl) hpf (fun v10 S11 H locs I hpf => ?_)
    exact m_reti C I hr hz 31 dX10_draft_31 hpf
  refine lv_aload_n hx hb dX10_draft_13 rfl (lv_at hl 0 rfl) ?_
  refine lv_iconst (v := (1 : Int32)) hx hb dX10_draft_14 (by decide) ?_
  refine m_callI (rest := []) (As := [.int (1 : Int32)]) C I fn_fails (c_fails l N (1 : Int32)) (by decide) 15 dX10_draft_15 rfl hl.1 rfl (Nat.le_of_ble_eq_true rfl) hpf (fun v12 S13 H locs I hpf => ?_)
  exact m_reti C I hr hz 18 dX10_draft_18 hpf
-- ===== undraft =====
def pf_undraft (N : Nat) (S : mS) : Option (Int32 × mS) :=
    sv (mI S 0 (0 : Int32)) fun S1 =>
    nm (S1.1 8) fun y2 =>
    sv (mI S1 8 (0 : Int32)) fun S3 =>
    some (y2, S3)

set_option maxRecDepth 100000 in
set_option maxHeartbeats 4000000 in
theorem c_undraft (l : Launch) (N : Nat)  : mMet l yX10_undraft cX10_undraft 2 .int 0 [] (pf_undraft N ) := by
  refine mStart (by decide +kernel) rfl (fun h => [(0, .ref h)]) (fun _ => Nat.le_of_ble_eq_true rfl) (fun _ => rfl) ?_
  intro dC dI h cI cZ a sz S r Sf hpf p e s m args below meth c C hr hz H locs I ls hl
  have hx := C.1
  have hb := C.2.1
  unfold pf_undraft at hpf
  refine lv_aload_n hx hb dX10_undraft_0 rfl (lv_at hl 0 rfl) ?_
  refine lv_iconst (v := (0 : Int32)) hx hb dX10_undraft_1 (by decide) ?_
  refine m_puti C I mInt_0 kM_62 2 dX10_undraft_2 hpf (fun S1 H locs I hpf => ?_)
  refine lv_aload_n hx hb dX10_undraft_5 rfl (lv_at hl 0 rfl) ?_
  refine m_geti C I mInt_8 kM_145 6 dX10_undraft_6 ?_
  refine m_isto_n hx hb (fun y2 => [(1, .int y2), (0, .ref h)]) 9 dX10_undraft_9 rfl hl (by decide) (fun _ => rfl) hpf (fun y2 ls hl hpf => ?_)
  refine lv_aload_n hx hb dX10_undraft_10 rfl (lv_at hl 1 rfl) ?_
  refine lv_iconst (v := (0 : Int32)) hx hb dX10_undraft_11 (by decide) ?_
  refine m_puti C I mInt_8 kM_145 12 dX10_undraft_12 hpf (fun S3 H locs I hpf => ?_)
  refine lv_iload_n hx hb dX10_undraft_15 rfl (lv_at hl 0 rfl) ?_
  exact m_reti C I hr hz 16 dX10_undraft_16 hpf
-- ===== isDrafted =====
def pf_isDrafted_139 (N : Nat) (x1 : Int32) (x2 : Int32) (x3 : Int32) (S : mS) : Option (Int32 × mS) :=
    if x2 = (0 : Int32) then (
      some ((0 : Int32), S))
    else (
      bd (pf_requiredBy N x1 S) fun v1 S2 =>
      if (v1 &&& (x3 ^^^ (-1 : Int32))) = (0 : Int32) then (
        some ((1 : Int32), S2))
      else (
        some ((0 : Int32), S2)))
def pf_isDrafted_126 (N : Nat) (k_7 : Int32 → Int32 → Int32 → Int32 → mS → Option (Int32 × mS)) (x1 : Int32) (x2 : Int32) (x3 : Int32) (x4 : Int32) (x5 : Int32) (S : mS) : Option (Int32 × mS) :=
    nm (x3 ||| ((1 : Int32) <<< (x5 &&& 31))) fun y1 =>
    nm (x4 + (1 : Int32)) fun y2 =>
    k_7 x1 x2 y1 y2 S
def pf_isDrafted_119 (N : Nat) (k_52 : Int32 → Int32 → Int32 → Int32 → Int32 → Int32 → mS → Option (Int32 × mS)) (t0 : Int32) (x1 : Int32) (x3 : Int32) (x4 : Int32) (x5 : Int32) (x6 : Int32) (S : mS) : Option (Int32 × mS) :=
    nm (x6 + (1 : Int32)) fun y1 =>
    k_52 x1 t0 x3 x4 x5 y1 S
def pf_isDrafted_52 (N : Nat) (k_126 : Int32 → Int32 → Int32 → Int32 → Int32 → mS → Option (Int32 × mS)) : Nat → Int32 → Int32 → Int32 → Int32 → Int32 → Int32 → mS → Option (Int32 × mS)
  | 0 => fun _ _ _ _ _ _ _ => none
  | n_52 + 1 => fun x1 x2 x3 x4 x5 x6 S =>
    if x4 ≤ x6 then (
      k_126 x1 x2 x3 x4 x5 S)
    else (
      if x2 = (0 : Int32) then (
        pf_isDrafted_119 N (pf_isDrafted_52 N k_126 n_52) (0 : Int32) x1 x3 x4 x5 x6 S)
      else (
        gd x6 12 <|
        if (S.2 9 x6.toNatClampNeg) = x5 then (
          gd x5 10 <|
          if (S.2 2 x5.toNatClampNeg) = (0 : Int32) then (
            gd x6 12 <|
            bd (pf_key N x5 (S.2 10 x6.toNatClampNeg) S) fun v1 S2 =>
            gd x4 12 <|
            bd (pf_key N x5 (S2.2 10 x4.toNatClampNeg) S2) fun v3 S4 =>
            if v1 = v3 then (
              pf_isDrafted_119 N (pf_isDrafted_52 N k_126 n_52) (0 : Int32) x1 x3 x4 x5 x6 S4)
            else (
              pf_isDrafted_119 N (pf_isDrafted_52 N k_126 n_52) (1 : Int32) x1 x3 x4 x5 x6 S4))
          else (
            pf_isDrafted_119 N (pf_isDrafted_52 N k_126 n_52) (0 : Int32) x1 x3 x4 x5 x6 S))
        else (
          pf_isDrafted_119 N (pf_isDrafted_52 N k_126 n_52) (1 : Int32) x1 x3 x4 x5 x6 S)))
def pf_isDrafted_48 (N : Nat) (k_7 : Int32 → Int32 → Int32 → Int32 → mS → Option (Int32 × mS)) (t0 : Int32) (x1 : Int32) (x3 : Int32) (x4 : Int32) (x5 : Int32) (S : mS) : Option (Int32 × mS) :=
    pf_isDrafted_52 N (pf_isDrafted_126 N k_7) N x1 t0 x3 x4 x5 (0 : Int32) S
def pf_isDrafted_7 (N : Nat) (k_139 : Int32 → Int32 → Int32 → mS → Option (Int32 × mS)) : Nat → Int32 → Int32 → Int32 → Int32 → mS → Option (Int32 × mS)
  | 0 => fun _ _ _ _ _ => none
  | n_7 + 1 => fun x1 x2 x3 x4 S =>
    if (S.1 8) ≤ x4 then (
      k_139 x1 x2 x3 S)
    else (
      gd x4 12 <|
      nm (S.2 9 x4.toNatClampNeg) fun y1 =>
      if x2 = (0 : Int32) then (
        pf_isDrafted_48 N (pf_isDrafted_7 N k_139 n_7) (0 : Int32) x1 x3 x4 y1 S)
      else (
        bd (pf_allowedBy N x1 S) fun v2 S3 =>
        if ((v2 >>> (y1 &&& 31)) &&& (1 : Int32)) = (1 : Int32) then (
          pf_isDrafted_48 N (pf_isDrafted_7 N k_139 n_7) (1 : Int32) x1 x3 x4 y1 S3)
        else (
          pf_isDrafted_48 N (pf_isDrafted_7 N k_139 n_7) (0 : Int32) x1 x3 x4 y1 S3)))
def pf_isDrafted (N : Nat) (x1 : Int32) (S : mS) : Option (Int32 × mS) :=
    pf_isDrafted_7 N (pf_isDrafted_139 N) N x1 (1 : Int32) (0 : Int32) (0 : Int32) S
theorem fn_isDrafted : mFnI yX10_isDrafted cX10_isDrafted 7 (some .boolean) 1 281 := ⟨kM_175, kM_176, kM_177, kM_152, rfl, by decide +kernel, by decide⟩
set_option maxRecDepth 100000 in
set_option maxHeartbeats 4000000 in
theorem c_isDrafted (l : Launch) (N : Nat) (x1 : Int32) : mMet l yX10_isDrafted cX10_isDrafted 7 .boolean 1 [.int x1] (pf_isDrafted N x1) := by
  refine mStart (by decide +kernel) rfl (fun h => [(0, .ref h), (1, .int x1)]) (fun _ => Nat.le_of_ble_eq_true rfl) (fun _ => rfl) ?_
  intro dC dI h cI cZ a sz S r Sf hpf p e s m args below meth c C hr hz H locs I ls hl
  have hx := C.1
  have hb := C.2.1
  unfold pf_isDrafted at hpf
  have hC_139 : ∀ (x1 : Int32) (x2 : Int32) (x3 : Int32) (S : mS) (H : Heap) (locs : List Loc), mV dC dI h cI cZ a s S H locs → ∀ ls : Array Slot, lv_has ls 7 [(0, .ref h), (1, .int x1), (2, .int x2), (3, .int x3)] → pf_isDrafted_139 N x1 x2 x3 S = some (r, Sf) → W p l e (mRm 1) s m args below meth c H locs 0 0 (MQ below (mQ dC dI h cI cZ a sz r Sf) args s 0 0 (mAt h cI cZ a sz)) (F0 m 139 ls []) := by
    intro x1 x2 x3 S H locs I ls hl hpf
    unfold pf_isDrafted_139 at hpf
    refine lv_iload_n hx hb dX10_isDrafted_139 rfl (lv_at hl 2 rfl) ?_
    refine b_if_eq hx hb 159 140 dX10_isDrafted_140 (by decide) hpf (fun hpf => ?_) (fun hpf => ?_)
    · refine lv_iconst (v := (0 : Int32)) hx hb dX10_isDrafted_159 (by decide) ?_
      exact m_retzc C I hr hz 160 dX10_isDrafted_160 (by decide) hpf
    refine lv_aload_n hx hb dX10_isDrafted_143 rfl (lv_at hl 0 rfl) ?_
    refine lv_iload_n hx hb dX10_isDrafted_144 rfl (lv_at hl 1 rfl) ?_
    refine m_callI (rest := []) (As := [.int x1]) C I fn_requiredBy (c_requiredBy l N x1) (by decide) 145 dX10_isDrafted_145 rfl hl.1 rfl (Nat.le_of_ble_eq_true rfl) hpf (fun v1 S2 H locs I hpf => ?_)
    refine lv_iload_n hx hb dX10_isDrafted_148 rfl (lv_at hl 3 rfl) ?_
    refine lv_iconst (v := (-1 : Int32)) hx hb dX10_isDrafted_149 (by decide) ?_
    refine lv_ixor hx hb dX10_isDrafted_150 ?_
    refine lv_iand hx hb dX10_isDrafted_151 ?_
    refine b_if_ne hx hb 159 152 dX10_isDrafted_152 (by decide) hpf (fun hpf => ?_) (fun hpf => ?_)
    · refine lv_iconst (v := (0 : Int32)) hx hb dX10_isDrafted_159 (by decide) ?_
      exact m_retzc C I hr hz 160 dX10_isDrafted_160 (by decide) hpf
    refine lv_iconst (v := (1 : Int32)) hx hb dX10_isDrafted_155 (by decide) ?_
    refine lv_goto (tgt := 160) hx hb dX10_isDrafted_156 (by decide) ?_
    exact m_retzc C I hr hz 160 dX10_isDrafted_160 (by decide) hpf
  have hC_7 : ∀ (n_7 : Nat), ∀ (x1 : Int32) (x2 : Int32) (x3 : Int32) (x4 : Int32) (S : mS) (H : Heap) (locs : List Loc), mV dC dI h cI cZ a s S H locs → ∀ ls : Array Slot, lv_has ls 7 [(0, .ref h), (1, .int x1), (2, .int x2), (3, .int x3), (4, .int x4)] → pf_isDrafted_7 N (pf_isDrafted_139 N) n_7 x1 x2 x3 x4 S = some (r, Sf) → W p l e (mRm 1) s m args below meth c H locs 0 0 (MQ below (mQ dC dI h cI cZ a sz r Sf) args s 0 0 (mAt h cI cZ a sz)) (F0 m 7 ls []) := by
    intro n_7
    induction n_7 with
    | zero =>
      intro x1 x2 x3 x4 S H locs I ls hl hpf
      rw [pf_isDrafted_7] at hpf
      cases hpf
    | succ n_7 ih_7 =>
      have hC_126 : ∀ (x1 : Int32) (x2 : Int32) (x3 : Int32) (x4 : Int32) (x5 : Int32) (S : mS) (H : Heap) (locs : List Loc), mV dC dI h cI cZ a s S H locs → ∀ ls : Array Slot, lv_has ls 7 [(0, .ref h), (1, .int x1), (2, .int x2), (3, .int x3), (4, .int x4), (5, .int x5)] → pf_isDrafted_126 N (pf_isDrafted_7 N (pf_isDrafted_139 N) n_7) x1 x2 x3 x4 x5 S = some (r, Sf) → W p l e (mRm 1) s m args below meth c H locs 0 0 (MQ below (mQ dC dI h cI cZ a sz r Sf) args s 0 0 (mAt h cI cZ a sz)) (F0 m 126 ls []) := by
        intro x1 x2 x3 x4 x5 S H locs I ls hl hpf
        unfold pf_isDrafted_126 at hpf
        refine lv_iload_n hx hb dX10_isDrafted_126 rfl (lv_at hl 3 rfl) ?_
        refine lv_iconst (v := (1 : Int32)) hx hb dX10_isDrafted_127 (by decide) ?_
        refine lv_iload hx hb dX10_isDrafted_128 (lv_at hl 5 rfl) ?_
        refine lv_ishl hx hb dX10_isDrafted_130 ?_
        refine lv_ior hx hb dX10_isDrafted_131 ?_
        refine m_isto_n hx hb (fun y1 => [(3, .int y1), (0, .ref h), (1, .int x1), (2, .int x2), (4, .int x4), (5, .int x5)]) 132 dX10_isDrafted_132 rfl hl (by decide) (fun _ => rfl) hpf (fun y1 ls hl hpf => ?_)
        refine m_iinc (w := (1 : Int32)) hx hb (fun y2 => [(4, .int y2), (3, .int y1), (0, .ref h), (1, .int x1), (2, .int x2), (5, .int x5)]) 133 dX10_isDrafted_133 hl (k := 4) rfl (by decide) (by decide) (fun _ => rfl) hpf (fun y2 ls hl hpf => ?_)
        refine lv_goto (tgt := 7) hx hb dX10_isDrafted_136 (by decide) ?_
        exact ih_7 x1 x2 y1 y2 S H locs I ls (lv_sub hl [2, 3, 4, 1, 0] rfl) hpf
      have hC_52 : ∀ (n_52 : Nat), ∀ (x1 : Int32) (x2 : Int32) (x3 : Int32) (x4 : Int32) (x5 : Int32) (x6 : Int32) (S : mS) (H : Heap) (locs : List Loc), mV dC dI h cI cZ a s S H locs → ∀ ls : Array Slot, lv_has ls 7 [(0, .ref h), (1, .int x1), (2, .int x2), (3, .int x3), (4, .int x4), (5, .int x5), (6, .int x6)] → pf_isDrafted_52 N (pf_isDrafted_126 N (pf_isDrafted_7 N (pf_isDrafted_139 N) n_7)) n_52 x1 x2 x3 x4 x5 x6 S = some (r, Sf) → W p l e (mRm 1) s m args below meth c H locs 0 0 (MQ below (mQ dC dI h cI cZ a sz r Sf) args s 0 0 (mAt h cI cZ a sz)) (F0 m 52 ls []) := by
        intro n_52
        induction n_52 with
        | zero =>
          intro x1 x2 x3 x4 x5 x6 S H locs I ls hl hpf
          rw [pf_isDrafted_52] at hpf
          cases hpf
        | succ n_52 ih_52 =>
          have hC_119 : ∀ (t0 : Int32) (x1 : Int32) (x3 : Int32) (x4 : Int32) (x5 : Int32) (x6 : Int32) (S : mS) (H : Heap) (locs : List Loc), mV dC dI h cI cZ a s S H locs → ∀ ls : Array Slot, lv_has ls 7 [(0, .ref h), (1, .int x1), (3, .int x3), (4, .int x4), (5, .int x5), (6, .int x6)] → pf_isDrafted_119 N (pf_isDrafted_52 N (pf_isDrafted_126 N (pf_isDrafted_7 N (pf_isDrafted_139 N) n_7)) n_52) t0 x1 x3 x4 x5 x6 S = some (r, Sf) → W p l e (mRm 1) s m args below meth c H locs 0 0 (MQ below (mQ dC dI h cI cZ a sz r Sf) args s 0 0 (mAt h cI cZ a sz)) (F0 m 119 ls [.int t0]) := by
            intro t0 x1 x3 x4 x5 x6 S H locs I ls hl hpf
            unfold pf_isDrafted_119 at hpf
            refine lv_istore_n (lv' := [(2, .int t0), (0, .ref h), (1, .int x1), (3, .int x3), (4, .int x4), (5, .int x5), (6, .int x6)]) hx hb dX10_isDrafted_119 rfl hl (by decide) rfl (fun ls hl => ?_)
            refine m_iinc (w := (1 : Int32)) hx hb (fun y1 => [(6, .int y1), (2, .int t0), (0, .ref h), (1, .int x1), (3, .int x3), (4, .int x4), (5, .int x5)]) 120 dX10_isDrafted_120 hl (k := 6) rfl (by decide) (by decide) (fun _ => rfl) hpf (fun y1 ls hl hpf => ?_)
            refine lv_goto (tgt := 52) hx hb dX10_isDrafted_123 (by decide) ?_
            exact ih_52 x1 t0 x3 x4 x5 y1 S H locs I ls (lv_sub hl [2, 3, 1, 4, 5, 6, 0] rfl) hpf
          intro x1 x2 x3 x4 x5 x6 S H locs I ls hl hpf
          rw [pf_isDrafted_52] at hpf
          refine lv_iload hx hb dX10_isDrafted_52 (lv_at hl 6 rfl) ?_
          refine lv_iload hx hb dX10_isDrafted_54 (lv_at hl 4 rfl) ?_
          refine b_icmp_ge hx hb 126 56 dX10_isDrafted_56 (by decide) hpf (fun hpf => ?_) (fun hpf => ?_)
          · exact hC_126 x1 x2 x3 x4 x5 S H locs I ls (lv_sub hl [0, 1, 2, 3, 4, 5] rfl) hpf
          refine lv_iload_n hx hb dX10_isDrafted_59 rfl (lv_at hl 2 rfl) ?_
          refine b_if_eq hx hb 118 60 dX10_isDrafted_60 (by decide) hpf (fun hpf => ?_) (fun hpf => ?_)
          · refine lv_iconst (v := (0 : Int32)) hx hb dX10_isDrafted_118 (by decide) ?_
            exact hC_119 (0 : Int32) x1 x3 x4 x5 x6 S H locs I ls (lv_sub hl [0, 1, 3, 4, 5, 6] rfl) hpf
          refine lv_aload_n hx hb dX10_isDrafted_63 rfl (lv_at hl 0 rfl) ?_
          refine m_getr C I mRef_9 kM_10 64 dX10_isDrafted_64 ?_
          refine lv_iload hx hb dX10_isDrafted_67 (lv_at hl 6 rfl) ?_
          refine m_iald C I mArr_9 69 dX10_isDrafted_69 hpf (fun hpf => ?_)
          refine lv_iload hx hb dX10_isDrafted_70 (lv_at hl 5 rfl) ?_
          refine b_icmp_ne hx hb 114 72 dX10_isDrafted_72 (by decide) hpf (fun hpf => ?_) (fun hpf => ?_)
          · refine lv_iconst (v := (1 : Int32)) hx hb dX10_isDrafted_114 (by decide) ?_
            refine lv_goto (tgt := 119) hx hb dX10_isDrafted_115 (by decide) ?_
            exact hC_119 (1 : Int32) x1 x3 x4 x5 x6 S H locs I ls (lv_sub hl [0, 1, 3, 4, 5, 6] rfl) hpf
          refine lv_aload_n hx hb dX10_isDrafted_75 rfl (lv_at hl 0 rfl) ?_
          refine m_getr C I mRef_2 kM_4 76 dX10_isDrafted_76 ?_
          refine lv_iload hx hb dX10_isDrafted_79 (lv_at hl 5 rfl) ?_
          refine m_zald C I mArr_2 81 dX10_isDrafted_81 hpf (fun hpf => ?_)
          refine b_if_ne hx hb 118 82 dX10_isDrafted_82 (by decide) hpf (fun hpf => ?_) (fun hpf => ?_)
          · refine lv_iconst (v := (0 : Int32)) hx hb dX10_isDrafted_118 (by decide) ?_
            exact hC_119 (0 : Int32) x1 x3 x4 x5 x6 S H locs I ls (lv_sub hl [0, 1, 3, 4, 5, 6] rfl) hpf
          refine lv_aload_n hx hb dX10_isDrafted_85 rfl (lv_at hl 0 rfl) ?_
          refine lv_iload hx hb dX10_isDrafted_86 (lv_at hl 5 rfl) ?_
          refine lv_aload_n hx hb dX10_isDrafted_88 rfl (lv_at hl 0 rfl) ?_
          refine m_getr C I mRef_10 kM_11 89 dX10_isDrafted_89 ?_
          refine lv_iload hx hb dX10_isDrafted_92 (lv_at hl 6 rfl) ?_
          refine m_iald C I mArr_10 94 dX10_isDrafted_94 hpf (fun hpf => ?_)
          refine m_callI (rest := []) (As := [.int x5, .int (S.2 10 x6.toNatClampNeg)]) C I fn_key (c_key l N x5 (S.2 10 x6.toNatClampNeg)) (by decide) 95 dX10_isDrafted_95 rfl hl.1 rfl (Nat.le_of_ble_eq_true rfl) hpf (fun v1 S2 H locs I hpf => ?_)
          refine lv_aload_n hx hb dX10_isDrafted_98 rfl (lv_at hl 0 rfl) ?_
          refine lv_iload hx hb dX10_isDrafted_99 (lv_at hl 5 rfl) ?_
          refine lv_aload_n hx hb dX10_isDrafted_101 rfl (lv_at hl 0 rfl) ?_
          refine m_getr C I mRef_10 kM_11 102 dX10_isDrafted_102 ?_
          refine lv_iload hx hb dX10_isDrafted_105 (lv_at hl 4 rfl) ?_
          refine m_iald C I mArr_10 107 dX10_isDrafted_107 hpf (fun hpf => ?_)
          refine m_callI (rest := [.int v1]) (As := [.int x5, .int (S2.2 10 x4.toNatClampNeg)]) C I fn_key (c_key l N x5 (S2.2 10 x4.toNatClampNeg)) (by decide) 108 dX10_isDrafted_108 rfl hl.1 rfl (Nat.le_of_ble_eq_true rfl) hpf (fun v3 S4 H locs I hpf => ?_)
          refine b_icmp_eq hx hb 118 111 dX10_isDrafted_111 (by decide) hpf (fun hpf => ?_) (fun hpf => ?_)
          · refine lv_iconst (v := (0 : Int32)) hx hb dX10_isDrafted_118 (by decide) ?_
            exact hC_119 (0 : Int32) x1 x3 x4 x5 x6 S4 H locs I ls (lv_sub hl [0, 1, 3, 4, 5, 6] rfl) hpf
          refine lv_iconst (v := (1 : Int32)) hx hb dX10_isDrafted_114 (by decide) ?_
          refine lv_goto (tgt := 119) hx hb dX10_isDrafted_115 (by decide) ?_
          exact hC_119 (1 : Int32) x1 x3 x4 x5 x6 S4 H locs I ls (lv_sub hl [0, 1, 3, 4, 5, 6] rfl) hpf
      have hC_48 : ∀ (t0 : Int32) (x1 : Int32) (x3 : Int32) (x4 : Int32) (x5 : Int32) (S : mS) (H : Heap) (locs : List Loc), mV dC dI h cI cZ a s S H locs → ∀ ls : Array Slot, lv_has ls 7 [(0, .ref h), (1, .int x1), (3, .int x3), (4, .int x4), (5, .int x5)] → pf_isDrafted_48 N (pf_isDrafted_7 N (pf_isDrafted_139 N) n_7) t0 x1 x3 x4 x5 S = some (r, Sf) → W p l e (mRm 1) s m args below meth c H locs 0 0 (MQ below (mQ dC dI h cI cZ a sz r Sf) args s 0 0 (mAt h cI cZ a sz)) (F0 m 48 ls [.int t0]) := by
        intro t0 x1 x3 x4 x5 S H locs I ls hl hpf
        unfold pf_isDrafted_48 at hpf
        refine lv_istore_n (lv' := [(2, .int t0), (0, .ref h), (1, .int x1), (3, .int x3), (4, .int x4), (5, .int x5)]) hx hb dX10_isDrafted_48 rfl hl (by decide) rfl (fun ls hl => ?_)
        refine lv_iconst (v := (0 : Int32)) hx hb dX10_isDrafted_49 (by decide) ?_
        refine lv_istore (lv' := [(6, .int (0 : Int32)), (2, .int t0), (0, .ref h), (1, .int x1), (3, .int x3), (4, .int x4), (5, .int x5)]) hx hb dX10_isDrafted_50 hl (by decide) rfl (fun ls hl => ?_)
        exact hC_52 N x1 t0 x3 x4 x5 (0 : Int32) S H locs I ls (lv_sub hl [2, 3, 1, 4, 5, 6, 0] rfl) hpf
      intro x1 x2 x3 x4 S H locs I ls hl hpf
      rw [pf_isDrafted_7] at hpf
      refine lv_iload hx hb dX10_isDrafted_7 (lv_at hl 4 rfl) ?_
      refine lv_aload_n hx hb dX10_isDrafted_9 rfl (lv_at hl 0 rfl) ?_
      refine m_geti C I mInt_8 kM_145 10 dX10_isDrafted_10 ?_
      refine b_icmp_ge hx hb 139 13 dX10_isDrafted_13 (by decide) hpf (fun hpf => ?_) (fun hpf => ?_)
      · exact hC_139 x1 x2 x3 S H locs I ls (lv_sub hl [0, 1, 2, 3] rfl) hpf
      refine lv_aload_n hx hb dX10_isDrafted_16 rfl (lv_at hl 0 rfl) ?_
      refine m_getr C I mRef_9 kM_10 17 dX10_isDrafted_17 ?_
      refine lv_iload hx hb dX10_isDrafted_20 (lv_at hl 4 rfl) ?_
      refine m_iald C I mArr_9 22 dX10_isDrafted_22 hpf (fun hpf => ?_)
      refine m_isto hx hb (fun y1 => [(5, .int y1), (0, .ref h), (1, .int x1), (2, .int x2), (3, .int x3), (4, .int x4)]) 23 dX10_isDrafted_23 hl (by decide) (fun _ => rfl) hpf (fun y1 ls hl hpf => ?_)
      refine lv_iload_n hx hb dX10_isDrafted_25 rfl (lv_at hl 3 rfl) ?_
      refine b_if_eq hx hb 47 26 dX10_isDrafted_26 (by decide) hpf (fun hpf => ?_) (fun hpf => ?_)
      · refine lv_iconst (v := (0 : Int32)) hx hb dX10_isDrafted_47 (by decide) ?_
        exact hC_48 (0 : Int32) x1 x3 x4 y1 S H locs I ls (lv_sub hl [1, 2, 4, 5, 0] rfl) hpf
      refine lv_aload_n hx hb dX10_isDrafted_29 rfl (lv_at hl 1 rfl) ?_
      refine lv_iload_n hx hb dX10_isDrafted_30 rfl (lv_at hl 2 rfl) ?_
      refine m_callI (rest := []) (As := [.int x1]) C I fn_allowedBy (c_allowedBy l N x1) (by decide) 31 dX10_isDrafted_31 rfl hl.1 rfl (Nat.le_of_ble_eq_true rfl) hpf (fun v2 S3 H locs I hpf => ?_)
      refine lv_iload hx hb dX10_isDrafted_34 (lv_at hl 0 rfl) ?_
      refine lv_ishr hx hb dX10_isDrafted_36 ?_
      refine lv_iconst (v := (1 : Int32)) hx hb dX10_isDrafted_37 (by decide) ?_
      refine lv_iand hx hb dX10_isDrafted_38 ?_
      refine lv_iconst (v := (1 : Int32)) hx hb dX10_isDrafted_39 (by decide) ?_
      refine b_icmp_ne hx hb 47 40 dX10_isDrafted_40 (by decide) hpf (fun hpf => ?_) (fun hpf => ?_)
      · refine lv_iconst (v := (0 : Int32)) hx hb dX10_isDrafted_47 (by decide) ?_
        exact hC_48 (0 : Int32) x1 x3 x4 y1 S3 H locs I ls (lv_sub hl [1, 2, 4, 5, 0] rfl) hpf
      refine lv_iconst (v := (1 : Int32)) hx hb dX10_isDrafted_43 (by decide) ?_
      refine lv_goto (tgt := 48) hx hb dX10_isDrafted_44 (by decide) ?_
      exact hC_48 (1 : Int32) x1 x3 x4 y1 S3 H locs I ls (lv_sub hl [1, 2, 4, 5, 0] rfl) hpf
  refine lv_iconst (v := (1 : Int32)) hx hb dX10_isDrafted_0 (by decide) ?_
  refine lv_istore_n (lv' := [(2, .int (1 : Int32)), (0, .ref h), (1, .int x1)]) hx hb dX10_isDrafted_1 rfl hl (by decide) rfl (fun ls hl => ?_)
  refine lv_iconst (v := (0 : Int32)) hx hb dX10_isDrafted_2 (by decide) ?_
  refine lv_istore_n (lv' := [(3, .int (0 : Int32)), (2, .int (1 : Int32)), (0, .ref h), (1, .int x1)]) hx hb dX10_isDrafted_3 rfl hl (by decide) rfl (fun ls hl => ?_)
  refine lv_iconst (v := (0 : Int32)) hx hb dX10_isDrafted_4 (by decide) ?_
  refine lv_istore (lv' := [(4, .int (0 : Int32)), (3, .int (0 : Int32)), (2, .int (1 : Int32)), (0, .ref h), (1, .int x1)]) hx hb dX10_isDrafted_5 hl (by decide) rfl (fun ls hl => ?_)
  exact hC_7 N x1 (1 : Int32) (0 : Int32) (0 : Int32) S H locs I ls (lv_sub hl [3, 4, 2, 1, 0] rfl) hpf
