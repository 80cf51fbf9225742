-- ===== thrown =====
def pf_thrown (N : Nat) (S : mS) : Option (Int32 × mS) :=
    some (S.1 0, S)

set_option maxRecDepth 100000 in
set_option maxHeartbeats 4000000 in
theorem c_thrown (l : Launch) (N : Nat)  : mMet l yX10_thrown cX10_thrown 1 .int 0 [] (pf_thrown N ) := by
  refine mStart (by decide +kernel) rfl (fun h => [(0, .ref h)]) (fun _ => Nat.le_of_ble_eq_true rfl) (fun _ => rfl) ?_
  intro dC dI h cI cZ a sz S r Sf hpf p e s m args below meth c C hr hz H locs I ls hl
  have hx := C.1
  have hb := C.2.1
  unfold pf_thrown at hpf
  refine lv_aload_n hx hb dX10_thrown_0 rfl (lv_at hl 0 rfl) ?_
  refine m_geti C I mInt_0 kM_62 1 dX10_thrown_1 ?_
  exact m_reti C I hr hz 4 dX10_thrown_4 hpf
-- ===== fails =====
def pf_fails (N : Nat) (x1 : Int32) (S : mS) : Option (Int32 × mS) :=
    sv (mI S 0 x1) fun S1 =>
    some ((0 : Int32), S1)
theorem fn_fails : mFnI yX10_fails cX10_fails 2 (some .int) 1 246 := ⟨kM_139, kM_140, kM_141, kM_63, rfl, by decide +kernel, by decide⟩
set_option maxRecDepth 100000 in
set_option maxHeartbeats 4000000 in
theorem c_fails (l : Launch) (N : Nat) (x1 : Int32) : mMet l yX10_fails cX10_fails 2 .int 0 [.int x1] (pf_fails N x1) := by
  refine mStart (by decide +kernel) rfl (fun h => [(0, .ref h), (1, .int x1)]) (fun _ => Nat.le_of_ble_eq_true rfl) (fun _ => rfl) ?_
  intro dC dI h cI cZ a sz S r Sf hpf p e s m args below meth c C hr hz H locs I ls hl
  have hx := C.1
  have hb := C.2.1
  unfold pf_fails at hpf
  refine lv_aload_n hx hb dX10_fails_0 rfl (lv_at hl 0 rfl) ?_
  refine lv_iload_n hx hb dX10_fails_1 rfl (lv_at hl 1 rfl) ?_
  refine m_puti C I mInt_0 kM_62 2 dX10_fails_2 hpf (fun S1 H locs I hpf => ?_)
  refine lv_iconst (v := (0 : Int32)) hx hb dX10_fails_5 (by decide) ?_
  exact m_reti C I hr hz 6 dX10_fails_6 hpf
-- ===== in =====
def pf_in (N : Nat) (x0 : Int32) (x1 : Int32) (x2 : Int32) : Option Int32 :=
    if x0 < x1 then (
      some (0 : Int32))
    else (
      if x2 < x0 then (
        some (0 : Int32))
      else (
        some (1 : Int32)))
theorem fn_in : mFnS yX10_in cX10_in 3 (some .boolean) 3 180 := ⟨kM_66, kM_67, kM_64, rfl, by decide +kernel, by decide⟩
set_option maxRecDepth 100000 in
set_option maxHeartbeats 4000000 in
theorem c_in (l : Launch) (N : Nat) (x0 : Int32) (x1 : Int32) (x2 : Int32) : mMetS l yX10_in cX10_in 3 .boolean 0 [.int x0, .int x1, .int x2] (pf_in N x0 x1 x2) := by
  refine mStartS (by decide +kernel) rfl [(0, .int x0), (1, .int x1), (2, .int x2)] (Nat.le_of_ble_eq_true rfl) rfl ?_
  intro r hpf p e s m args below meth c C hr H locs hS ls hl
  have hx := C.1
  have hb := C.2.1
  unfold pf_in at hpf
  refine lv_iload_n hx hb dX10_in_0 rfl (lv_at hl 0 rfl) ?_
  refine lv_iload_n hx hb dX10_in_1 rfl (lv_at hl 1 rfl) ?_
  refine b_icmp_lt hx hb 14 2 dX10_in_2 (by decide) hpf (fun hpf => ?_) (fun hpf => ?_)
  · refine lv_iconst (v := (0 : Int32)) hx hb dX10_in_14 (by decide) ?_
    exact ms_ret C hS hr 15 dX10_in_15 (by decide) hpf
  refine lv_iload_n hx hb dX10_in_5 rfl (lv_at hl 0 rfl) ?_
  refine lv_iload_n hx hb dX10_in_6 rfl (lv_at hl 2 rfl) ?_
  refine b_icmp_gt hx hb 14 7 dX10_in_7 (by decide) hpf (fun hpf => ?_) (fun hpf => ?_)
  · refine lv_iconst (v := (0 : Int32)) hx hb dX10_in_14 (by decide) ?_
    exact ms_ret C hS hr 15 dX10_in_15 (by decide) hpf
  refine lv_iconst (v := (1 : Int32)) hx hb dX10_in_10 (by decide) ?_
  refine lv_goto (tgt := 15) hx hb dX10_in_11 (by decide) ?_
  exact ms_ret C hS hr 15 dX10_in_15 (by decide) hpf
-- ===== isMaster =====
def pf_isMaster (N : Nat) (x0 : Int32) : Option Int32 :=
    bs (pf_in N x0 (0 : Int32) (3 : Int32)) fun v1 =>
    zs v1
theorem fn_isMaster : mFnS yX10_isMaster cX10_isMaster 1 (some .boolean) 1 226 := ⟨kM_109, kM_110, kM_65, rfl, by decide +kernel, by decide⟩
set_option maxRecDepth 100000 in
set_option maxHeartbeats 4000000 in
theorem c_isMaster (l : Launch) (N : Nat) (x0 : Int32) : mMetS l yX10_isMaster cX10_isMaster 1 .boolean 1 [.int x0] (pf_isMaster N x0) := by
  refine mStartS (by decide +kernel) rfl [(0, .int x0)] (Nat.le_of_ble_eq_true rfl) rfl ?_
  intro r hpf p e s m args below meth c C hr H locs hS ls hl
  have hx := C.1
  have hb := C.2.1
  unfold pf_isMaster at hpf
  refine lv_iload_n hx hb dX10_isMaster_0 rfl (lv_at hl 0 rfl) ?_
  refine lv_iconst (v := (0 : Int32)) hx hb dX10_isMaster_1 (by decide) ?_
  refine lv_iconst (v := (3 : Int32)) hx hb dX10_isMaster_2 (by decide) ?_
  refine ms_call (rest := []) (As := [.int x0, .int (0 : Int32), .int (3 : Int32)]) C hS fn_in (c_in l N x0 (0 : Int32) (3 : Int32)) (by decide) 3 dX10_isMaster_3 rfl hl.1 rfl (Nat.le_of_ble_eq_true rfl) hpf (fun v1 H locs hS hpf => ?_)
  exact ms_retz C hS hr 6 dX10_isMaster_6 hpf
-- ===== isAttribute =====
def pf_isAttribute (N : Nat) (x1 : Int32) (S : mS) : Option (Int32 × mS) :=
    bs (pf_in N x1 (0 : Int32) ((S.1 1) - (1 : Int32))) fun v1 =>
    zr v1 S
theorem fn_isAttribute : mFnI yX10_isAttribute cX10_isAttribute 2 (some .boolean) 1 250 := ⟨kM_146, kM_147, kM_148, kM_69, rfl, by decide +kernel, by decide⟩
set_option maxRecDepth 100000 in
set_option maxHeartbeats 4000000 in
theorem c_isAttribute (l : Launch) (N : Nat) (x1 : Int32) : mMet l yX10_isAttribute cX10_isAttribute 2 .boolean 1 [.int x1] (pf_isAttribute N x1) := by
  refine mStart (by decide +kernel) rfl (fun h => [(0, .ref h), (1, .int x1)]) (fun _ => Nat.le_of_ble_eq_true rfl) (fun _ => rfl) ?_
  intro dC dI h cI cZ a sz S r Sf hpf p e s m args below meth c C hr hz H locs I ls hl
  have hx := C.1
  have hb := C.2.1
  unfold pf_isAttribute at hpf
  refine lv_iload_n hx hb dX10_isAttribute_0 rfl (lv_at hl 1 rfl) ?_
  refine lv_iconst (v := (0 : Int32)) hx hb dX10_isAttribute_1 (by decide) ?_
  refine lv_aload_n hx hb dX10_isAttribute_2 rfl (lv_at hl 0 rfl) ?_
  refine m_geti C I mInt_1 kM_70 3 dX10_isAttribute_3 ?_
  refine lv_iconst (v := (1 : Int32)) hx hb dX10_isAttribute_6 (by decide) ?_
  refine lv_isub hx hb dX10_isAttribute_7 ?_
  refine m_callS (rest := []) (As := [.int x1, .int (0 : Int32), .int ((S.1 1) - (1 : Int32))]) C I fn_in (c_in l N x1 (0 : Int32) ((S.1 1) - (1 : Int32))) (by decide) 8 dX10_isAttribute_8 rfl hl.1 rfl (Nat.le_of_ble_eq_true rfl) hpf (fun v1 H locs I hpf => ?_)
  exact m_retz C I hr hz 11 dX10_isAttribute_11 hpf
-- ===== isClass =====
def pf_isClass (N : Nat) (x1 : Int32) (S : mS) : Option (Int32 × mS) :=
    bs (pf_in N x1 (0 : Int32) ((S.1 4) - (1 : Int32))) fun v1 =>
    zr v1 S
theorem fn_isClass : mFnI yX10_isClass cX10_isClass 2 (some .boolean) 1 268 := ⟨kM_163, kM_164, kM_165, kM_71, rfl, by decide +kernel, by decide⟩
set_option maxRecDepth 100000 in
set_option maxHeartbeats 4000000 in
theorem c_isClass (l : Launch) (N : Nat) (x1 : Int32) : mMet l yX10_isClass cX10_isClass 2 .boolean 1 [.int x1] (pf_isClass N x1) := by
  refine mStart (by decide +kernel) rfl (fun h => [(0, .ref h), (1, .int x1)]) (fun _ => Nat.le_of_ble_eq_true rfl) (fun _ => rfl) ?_
  intro dC dI h cI cZ a sz S r Sf hpf p e s m args below meth c C hr hz H locs I ls hl
  have hx := C.1
  have hb := C.2.1
  unfold pf_isClass at hpf
  refine lv_iload_n hx hb dX10_isClass_0 rfl (lv_at hl 1 rfl) ?_
  refine lv_iconst (v := (0 : Int32)) hx hb dX10_isClass_1 (by decide) ?_
  refine lv_aload_n hx hb dX10_isClass_2 rfl (lv_at hl 0 rfl) ?_
  refine m_geti C I mInt_4 kM_72 3 dX10_isClass_3 ?_
  refine lv_iconst (v := (1 : Int32)) hx hb dX10_isClass_6 (by decide) ?_
  refine lv_isub hx hb dX10_isClass_7 ?_
  refine m_callS (rest := []) (As := [.int x1, .int (0 : Int32), .int ((S.1 4) - (1 : Int32))]) C I fn_in (c_in l N x1 (0 : Int32) ((S.1 4) - (1 : Int32))) (by decide) 8 dX10_isClass_8 rfl hl.1 rfl (Nat.le_of_ble_eq_true rfl) hpf (fun v1 H locs I hpf => ?_)
  exact m_retz C I hr hz 11 dX10_isClass_11 hpf
-- ===== isValue =====
def pf_isValue (N : Nat) (x0 : Int32) : Option Int32 :=
    bs (pf_in N x0 (0 : Int32) (999 : Int32)) fun v1 =>
    zs v1
theorem fn_isValue : mFnS yX10_isValue cX10_isValue 1 (some .boolean) 1 253 := ⟨kM_149, kM_150, kM_73, rfl, by decide +kernel, by decide⟩
set_option maxRecDepth 100000 in
set_option maxHeartbeats 4000000 in
theorem c_isValue (l : Launch) (N : Nat) (x0 : Int32) : mMetS l yX10_isValue cX10_isValue 1 .boolean 1 [.int x0] (pf_isValue N x0) := by
  refine mStartS (by decide +kernel) rfl [(0, .int x0)] (Nat.le_of_ble_eq_true rfl) rfl ?_
  intro r hpf p e s m args below meth c C hr H locs hS ls hl
  have hx := C.1
  have hb := C.2.1
  unfold pf_isValue at hpf
  refine lv_iload_n hx hb dX10_isValue_0 rfl (lv_at hl 0 rfl) ?_
  refine lv_iconst (v := (0 : Int32)) hx hb dX10_isValue_1 (by decide) ?_
  refine lv_sipush (v := (999 : Int32)) hx hb dX10_isValue_2 (by decide) ?_
  refine ms_call (rest := []) (As := [.int x0, .int (0 : Int32), .int (999 : Int32)]) C hS fn_in (c_in l N x0 (0 : Int32) (999 : Int32)) (by decide) 5 dX10_isValue_5 rfl hl.1 rfl (Nat.le_of_ble_eq_true rfl) hpf (fun v1 H locs hS hpf => ?_)
  exact ms_retz C hS hr 8 dX10_isValue_8 hpf
-- ===== key =====
def pf_key (N : Nat) (x1 : Int32) (x2 : Int32) (S : mS) : Option (Int32 × mS) :=
    gd x1 10 <|
    if (S.2 3 x1.toNatClampNeg) = (0 : Int32) then (
      some (x2, S))
    else (
      some (x2 / (10 : Int32), S))
theorem fn_key : mFnI yX10_key cX10_key 3 (some .int) 2 193 := ⟨kM_78, kM_79, kM_80, kM_74, rfl, by decide +kernel, by decide⟩
set_option maxRecDepth 100000 in
set_option maxHeartbeats 4000000 in
theorem c_key (l : Launch) (N : Nat) (x1 : Int32) (x2 : Int32) : mMet l yX10_key cX10_key 3 .int 0 [.int x1, .int x2] (pf_key N x1 x2) := by
  refine mStart (by decide +kernel) rfl (fun h => [(0, .ref h), (1, .int x1), (2, .int x2)]) (fun _ => Nat.le_of_ble_eq_true rfl) (fun _ => rfl) ?_
  intro dC dI h cI cZ a sz S r Sf hpf p e s m args below meth c C hr hz H locs I ls hl
  have hx := C.1
  have hb := C.2.1
  unfold pf_key at hpf
  refine lv_aload_n hx hb dX10_key_0 rfl (lv_at hl 0 rfl) ?_
  refine m_getr C I mRef_3 kM_5 1 dX10_key_1 ?_
  refine lv_iload_n hx hb dX10_key_4 rfl (lv_at hl 1 rfl) ?_
  refine m_zald C I mArr_3 5 dX10_key_5 hpf (fun hpf => ?_)
  refine b_if_eq hx hb 16 6 dX10_key_6 (by decide) hpf (fun hpf => ?_) (fun hpf => ?_)
  · refine lv_iload_n hx hb dX10_key_16 rfl (lv_at hl 2 rfl) ?_
    exact m_reti C I hr hz 17 dX10_key_17 hpf
  refine lv_iload_n hx hb dX10_key_9 rfl (lv_at hl 2 rfl) ?_
  refine lv_bipush (v := (10 : Int32)) hx hb dX10_key_10 (by decide) ?_
  refine lv_idiv hx hb dX10_key_12 (by decide) ?_
  refine lv_goto (tgt := 17) hx hb dX10_key_13 (by decide) ?_
  exact m_reti C I hr hz 17 dX10_key_17 hpf
-- ===== isKnown =====
def pf_isKnown (N : Nat) (x1 : Int32) (x2 : Int32) (S : mS) : Option (Int32 × mS) :=
    gd x2 250 <|
    gd x2 250 <|
    gd (((20 : Int32) * x1) + (S.2 24 x2.toNatClampNeg)) 64 <|
    if (S.2 19 (((20 : Int32) * x1) + (S.2 24 x2.toNatClampNeg)).toNatClampNeg) ≤ (S.2 25 x2.toNatClampNeg) then (
      some ((0 : Int32), S))
    else (
      some ((1 : Int32), S))
theorem fn_isKnown : mFnI yX10_isKnown cX10_isKnown 3 (some .boolean) 2 215 := ⟨kM_99, kM_100, kM_101, kM_75, rfl, by decide +kernel, by decide⟩
set_option maxRecDepth 100000 in
set_option maxHeartbeats 4000000 in
theorem c_isKnown (l : Launch) (N : Nat) (x1 : Int32) (x2 : Int32) : mMet l yX10_isKnown cX10_isKnown 3 .boolean 0 [.int x1, .int x2] (pf_isKnown N x1 x2) := by
  refine mStart (by decide +kernel) rfl (fun h => [(0, .ref h), (1, .int x1), (2, .int x2)]) (fun _ => Nat.le_of_ble_eq_true rfl) (fun _ => rfl) ?_
  intro dC dI h cI cZ a sz S r Sf hpf p e s m args below meth c C hr hz H locs I ls hl
  have hx := C.1
  have hb := C.2.1
  unfold pf_isKnown at hpf
  refine lv_aload_n hx hb dX10_isKnown_0 rfl (lv_at hl 0 rfl) ?_
  refine m_getr C I mRef_25 kM_23 1 dX10_isKnown_1 ?_
  refine lv_iload_n hx hb dX10_isKnown_4 rfl (lv_at hl 2 rfl) ?_
  refine m_iald C I mArr_25 5 dX10_isKnown_5 hpf (fun hpf => ?_)
  refine lv_aload_n hx hb dX10_isKnown_6 rfl (lv_at hl 0 rfl) ?_
  refine m_getr C I mRef_19 kM_18 7 dX10_isKnown_7 ?_
  refine lv_bipush (v := (20 : Int32)) hx hb dX10_isKnown_10 (by decide) ?_
  refine lv_iload_n hx hb dX10_isKnown_12 rfl (lv_at hl 1 rfl) ?_
  refine lv_imul hx hb dX10_isKnown_13 ?_
  refine lv_aload_n hx hb dX10_isKnown_14 rfl (lv_at hl 0 rfl) ?_
  refine m_getr C I mRef_24 kM_22 15 dX10_isKnown_15 ?_
  refine lv_iload_n hx hb dX10_isKnown_18 rfl (lv_at hl 2 rfl) ?_
  refine m_iald C I mArr_24 19 dX10_isKnown_19 hpf (fun hpf => ?_)
  refine lv_iadd hx hb dX10_isKnown_20 ?_
  refine m_iald C I mArr_19 21 dX10_isKnown_21 hpf (fun hpf => ?_)
  refine b_icmp_ge hx hb 29 22 dX10_isKnown_22 (by decide) hpf (fun hpf => ?_) (fun hpf => ?_)
  · refine lv_iconst (v := (0 : Int32)) hx hb dX10_isKnown_29 (by decide) ?_
    exact m_retzc C I hr hz 30 dX10_isKnown_30 (by decide) hpf
  refine lv_iconst (v := (1 : Int32)) hx hb dX10_isKnown_25 (by decide) ?_
  refine lv_goto (tgt := 30) hx hb dX10_isKnown_26 (by decide) ?_
  exact m_retzc C I hr hz 30 dX10_isKnown_30 (by decide) hpf
-- ===== drops =====
def pf_drops_133 (N : Nat) (x5 : Int32) (S : mS) : Option (Int32 × mS) :=
    sv (mI S 47 x5) fun S1 =>
    some ((0 : Int32), S1)
def pf_drops_124 (N : Nat) (k_6 : Int32 → Int32 → Int32 → Int32 → Int32 → Int32 → mS → Option (Int32 × mS)) (t0 : Int32) (t1 : Int32) (x1 : Int32) (x2 : Int32) (x3 : Int32) (x4 : Int32) (x6 : Int32) (S : mS) : Option (Int32 × mS) :=
    nm (t1 + t0) fun y1 =>
    nm (x6 + (1 : Int32)) fun y2 =>
    k_6 x1 x2 x3 x4 y1 y2 S
def pf_drops_68 (N : Nat) (k_6 : Int32 → Int32 → Int32 → Int32 → Int32 → Int32 → mS → Option (Int32 × mS)) (t0 : Int32) (x1 : Int32) (x2 : Int32) (x3 : Int32) (x4 : Int32) (x5 : Int32) (x6 : Int32) (S : mS) : Option (Int32 × mS) :=
    gd x6 900 <|
    gd x5 900 <| sv (mA S 48 x5.toNatClampNeg (S.2 48 x6.toNatClampNeg)) fun S1 =>
    gd x6 900 <|
    gd x5 900 <| sv (mA S1 49 x5.toNatClampNeg (S1.2 49 x6.toNatClampNeg)) fun S2 =>
    gd x6 900 <|
    gd x5 900 <| sv (mA S2 50 x5.toNatClampNeg (S2.2 50 x6.toNatClampNeg)) fun S3 =>
    if t0 = (0 : Int32) then (
      pf_drops_124 N k_6 (1 : Int32) x5 x1 x2 x3 x4 x6 S3)
    else (
      pf_drops_124 N k_6 (0 : Int32) x5 x1 x2 x3 x4 x6 S3)
def pf_drops_6 (N : Nat) (k_133 : Int32 → mS → Option (Int32 × mS)) : Nat → Int32 → Int32 → Int32 → Int32 → Int32 → Int32 → mS → Option (Int32 × mS)
  | 0 => fun _ _ _ _ _ _ _ => none
  | n_6 + 1 => fun x1 x2 x3 x4 x5 x6 S =>
    if (S.1 47) ≤ x6 then (
      k_133 x5 S)
    else (
      gd x6 900 <|
      if (S.2 48 x6.toNatClampNeg) = x1 then (
        gd x6 900 <|
        if (S.2 49 x6.toNatClampNeg) = x2 then (
          if x3 = (0 : Int32) then (
            gd x6 900 <|
            bd (pf_key N x2 (S.2 50 x6.toNatClampNeg) S) fun v1 S2 =>
            bd (pf_key N x2 x4 S2) fun v3 S4 =>
            if v1 = v3 then (
              pf_drops_68 N (pf_drops_6 N k_133 n_6) (1 : Int32) x1 x2 x3 x4 x5 x6 S4)
            else (
              pf_drops_68 N (pf_drops_6 N k_133 n_6) (0 : Int32) x1 x2 x3 x4 x5 x6 S4))
          else (
            pf_drops_68 N (pf_drops_6 N k_133 n_6) (1 : Int32) x1 x2 x3 x4 x5 x6 S))
        else (
          pf_drops_68 N (pf_drops_6 N k_133 n_6) (0 : Int32) x1 x2 x3 x4 x5 x6 S))
      else (
        pf_drops_68 N (pf_drops_6 N k_133 n_6) (0 : Int32) x1 x2 x3 x4 x5 x6 S))
def pf_drops (N : Nat) (x1 : Int32) (x2 : Int32) (x3 : Int32) (x4 : Int32) (S : mS) : Option (Int32 × mS) :=
    pf_drops_6 N (pf_drops_133 N) N x1 x2 x3 x4 (0 : Int32) (0 : Int32) S
theorem fn_drops : mFnI yX10_drops cX10_drops 8 none 4 197 := ⟨kM_83, kM_84, kM_85, kM_76, rfl, by decide +kernel, by decide⟩
set_option maxRecDepth 100000 in
set_option maxHeartbeats 4000000 in
theorem c_drops (l : Launch) (N : Nat) (x1 : Int32) (x2 : Int32) (x3 : Int32) (x4 : Int32) : mMetV l yX10_drops cX10_drops 8 1 [.int x1, .int x2, .int x3, .int x4] (pf_drops N x1 x2 x3 x4) := by
  refine mStartV (by decide +kernel) rfl (fun h => [(0, .ref h), (1, .int x1), (2, .int x2), (3, .int x3), (4, .int x4)]) (fun _ => Nat.le_of_ble_eq_true rfl) (fun _ => rfl) ?_
  intro dC dI h cI cZ a sz S r Sf hpf p e s m args below meth c C hr hz H locs I ls hl
  have hx := C.1
  have hb := C.2.1
  unfold pf_drops at hpf
  have hC_133 : ∀ (x5 : Int32) (S : mS) (H : Heap) (locs : List Loc), mV dC dI h cI cZ a s S H locs → ∀ ls : Array Slot, lv_has ls 8 [(0, .ref h), (5, .int x5)] → pf_drops_133 N x5 S = some (r, Sf) → W p l e (mRm 1) s m args below meth c H locs 0 0 (MQ below (mQv dC dI h cI cZ a sz Sf) args s 0 0 (mAt h cI cZ a sz)) (F0 m 133 ls []) := by
    intro x5 S H locs I ls hl hpf
    unfold pf_drops_133 at hpf
    refine lv_aload_n hx hb dX10_drops_133 rfl (lv_at hl 0 rfl) ?_
    refine lv_iload hx hb dX10_drops_134 (lv_at hl 1 rfl) ?_
    refine m_puti C I mInt_47 kM_77 136 dX10_drops_136 hpf (fun S1 H locs I hpf => ?_)
    exact m_retv C I hr hz 139 dX10_drops_139 hpf
  have hC_6 : ∀ (n_6 : Nat), ∀ (x1 : Int32) (x2 : Int32) (x3 : Int32) (x4 : Int32) (x5 : Int32) (x6 : Int32) (S : mS) (H : Heap) (locs : List Loc), mV dC dI h cI cZ a s S H locs → ∀ ls : Array Slot, lv_has ls 8 [(0, .ref h), (1, .int x1), (2, .int x2), (3, .int x3), (4, .int x4), (5, .int x5), (6, .int x6)] → pf_drops_6 N (pf_drops_133 N) n_6 x1 x2 x3 x4 x5 x6 S = some (r, Sf) → W p l e (mRm 1) s m args below meth c H locs 0 0 (MQ below (mQv dC dI h cI cZ a sz Sf) args s 0 0 (mAt h cI cZ a sz)) (F0 m 6 ls []) := by
    intro n_6
    induction n_6 with
    | zero =>
      intro x1 x2 x3 x4 x5 x6 S H locs I ls hl hpf
      rw [pf_drops_6] at hpf
      cases hpf
    | succ n_6 ih_6 =>
      have hC_124 : ∀ (t0 : Int32) (t1 : Int32) (x1 : Int32) (x2 : Int32) (x3 : Int32) (x4 : Int32) (x6 : Int32) (S : mS) (H : Heap) (locs : List Loc), mV dC dI h cI cZ a s S H locs → ∀ ls : Array Slot, lv_has ls 8 [(0, .ref h), (1, .int x1), (2, .int x2), (3, .int x3), (4, .int x4), (6, .int x6)] → pf_drops_124 N (pf_drops_6 N (pf_drops_133 N) n_6) t0 t1 x1 x2 x3 x4 x6 S = some (r, Sf) → W p l e (mRm 1) s m args below meth c H locs 0 0 (MQ below (mQv dC dI h cI cZ a sz Sf) args s 0 0 (mAt h cI cZ a sz)) (F0 m 124 ls [.int t0, .int t1]) := by
        intro t0 t1 x1 x2 x3 x4 x6 S H locs I ls hl hpf
        unfold pf_drops_124 at hpf
        refine lv_iadd hx hb dX10_drops_124 ?_
        refine m_isto hx hb (fun y1 => [(5, .int y1), (0, .ref h), (1, .int x1), (2, .int x2), (3, .int x3), (4, .int x4), (6, .int x6)]) 125 dX10_drops_125 hl (by decide) (fun _ => rfl) hpf (fun y1 ls hl hpf => ?_)
        refine m_iinc (w := (1 : Int32)) hx hb (fun y2 => [(6, .int y2), (5, .int y1), (0, .ref h), (1, .int x1), (2, .int x2), (3, .int x3), (4, .int x4)]) 127 dX10_drops_127 hl (k := 6) rfl (by decide) (by decide) (fun _ => rfl) hpf (fun y2 ls hl hpf => ?_)
        refine lv_goto (tgt := 6) hx hb dX10_drops_130 (by decide) ?_
        exact ih_6 x1 x2 x3 x4 y1 y2 S H locs I ls (lv_sub hl [2, 3, 4, 5, 6, 1, 0] rfl) hpf
      have hC_68 : ∀ (t0 : Int32) (x1 : Int32) (x2 : Int32) (x3 : Int32) (x4 : Int32) (x5 : Int32) (x6 : Int32) (S : mS) (H : Heap) (locs : List Loc), mV dC dI h cI cZ a s S H locs → ∀ ls : Array Slot, lv_has ls 8 [(0, .ref h), (1, .int x1), (2, .int x2), (3, .int x3), (4, .int x4), (5, .int x5), (6, .int x6)] → pf_drops_68 N (pf_drops_6 N (pf_drops_133 N) n_6) t0 x1 x2 x3 x4 x5 x6 S = some (r, Sf) → W p l e (mRm 1) s m args below meth c H locs 0 0 (MQ below (mQv dC dI h cI cZ a sz Sf) args s 0 0 (mAt h cI cZ a sz)) (F0 m 68 ls [.int t0]) := by
        intro t0 x1 x2 x3 x4 x5 x6 S H locs I ls hl hpf
        unfold pf_drops_68 at hpf
        refine lv_istore (lv' := [(7, .int t0), (0, .ref h), (1, .int x1), (2, .int x2), (3, .int x3), (4, .int x4), (5, .int x5), (6, .int x6)]) hx hb dX10_drops_68 hl (by decide) rfl (fun ls hl => ?_)
        refine lv_aload_n hx hb dX10_drops_70 rfl (lv_at hl 1 rfl) ?_
        refine m_getr C I mRef_48 kM_44 71 dX10_drops_71 ?_
        refine lv_iload hx hb dX10_drops_74 (lv_at hl 6 rfl) ?_
        refine lv_aload_n hx hb dX10_drops_76 rfl (lv_at hl 1 rfl) ?_
        refine m_getr C I mRef_48 kM_44 77 dX10_drops_77 ?_
        refine lv_iload hx hb dX10_drops_80 (lv_at hl 7 rfl) ?_
        refine m_iald C I mArr_48 82 dX10_drops_82 hpf (fun hpf => ?_)
        refine m_iast C I mArr_48 83 dX10_drops_83 hpf (fun S1 H locs I hpf => ?_)
        refine lv_aload_n hx hb dX10_drops_84 rfl (lv_at hl 1 rfl) ?_
        refine m_getr C I mRef_49 kM_45 85 dX10_drops_85 ?_
        refine lv_iload hx hb dX10_drops_88 (lv_at hl 6 rfl) ?_
        refine lv_aload_n hx hb dX10_drops_90 rfl (lv_at hl 1 rfl) ?_
        refine m_getr C I mRef_49 kM_45 91 dX10_drops_91 ?_
        refine lv_iload hx hb dX10_drops_94 (lv_at hl 7 rfl) ?_
        refine m_iald C I mArr_49 96 dX10_drops_96 hpf (fun hpf => ?_)
        refine m_iast C I mArr_49 97 dX10_drops_97 hpf (fun S2 H locs I hpf => ?_)
        refine lv_aload_n hx hb dX10_drops_98 rfl (lv_at hl 1 rfl) ?_
        refine m_getr C I mRef_50 kM_46 99 dX10_drops_99 ?_
        refine lv_iload hx hb dX10_drops_102 (lv_at hl 6 rfl) ?_
        refine lv_aload_n hx hb dX10_drops_104 rfl (lv_at hl 1 rfl) ?_
        refine m_getr C I mRef_50 kM_46 105 dX10_drops_105 ?_
        refine lv_iload hx hb dX10_drops_108 (lv_at hl 7 rfl) ?_
        refine m_iald C I mArr_50 110 dX10_drops_110 hpf (fun hpf => ?_)
        refine m_iast C I mArr_50 111 dX10_drops_111 hpf (fun S3 H locs I hpf => ?_)
        refine lv_iload hx hb dX10_drops_112 (lv_at hl 6 rfl) ?_
        refine lv_iload hx hb dX10_drops_114 (lv_at hl 0 rfl) ?_
        refine b_if_eq hx hb 123 116 dX10_drops_116 (by decide) hpf (fun hpf => ?_) (fun hpf => ?_)
        · refine lv_iconst (v := (1 : Int32)) hx hb dX10_drops_123 (by decide) ?_
          exact hC_124 (1 : Int32) x5 x1 x2 x3 x4 x6 S3 H locs I ls (lv_sub hl [1, 2, 3, 4, 5, 7] rfl) hpf
        refine lv_iconst (v := (0 : Int32)) hx hb dX10_drops_119 (by decide) ?_
        refine lv_goto (tgt := 124) hx hb dX10_drops_120 (by decide) ?_
        exact hC_124 (0 : Int32) x5 x1 x2 x3 x4 x6 S3 H locs I ls (lv_sub hl [1, 2, 3, 4, 5, 7] rfl) hpf
      intro x1 x2 x3 x4 x5 x6 S H locs I ls hl hpf
      rw [pf_drops_6] at hpf
      refine lv_iload hx hb dX10_drops_6 (lv_at hl 6 rfl) ?_
      refine lv_aload_n hx hb dX10_drops_8 rfl (lv_at hl 0 rfl) ?_
      refine m_geti C I mInt_47 kM_77 9 dX10_drops_9 ?_
      refine b_icmp_ge hx hb 133 12 dX10_drops_12 (by decide) hpf (fun hpf => ?_) (fun hpf => ?_)
      · exact hC_133 x5 S H locs I ls (lv_sub hl [0, 5] rfl) hpf
      refine lv_aload_n hx hb dX10_drops_15 rfl (lv_at hl 0 rfl) ?_
      refine m_getr C I mRef_48 kM_44 16 dX10_drops_16 ?_
      refine lv_iload hx hb dX10_drops_19 (lv_at hl 6 rfl) ?_
      refine m_iald C I mArr_48 21 dX10_drops_21 hpf (fun hpf => ?_)
      refine lv_iload_n hx hb dX10_drops_22 rfl (lv_at hl 1 rfl) ?_
      refine b_icmp_ne hx hb 67 23 dX10_drops_23 (by decide) hpf (fun hpf => ?_) (fun hpf => ?_)
      · refine lv_iconst (v := (0 : Int32)) hx hb dX10_drops_67 (by decide) ?_
        exact hC_68 (0 : Int32) x1 x2 x3 x4 x5 x6 S H locs I ls (lv_sub hl [0, 1, 2, 3, 4, 5, 6] rfl) hpf
      refine lv_aload_n hx hb dX10_drops_26 rfl (lv_at hl 0 rfl) ?_
      refine m_getr C I mRef_49 kM_45 27 dX10_drops_27 ?_
      refine lv_iload hx hb dX10_drops_30 (lv_at hl 6 rfl) ?_
      refine m_iald C I mArr_49 32 dX10_drops_32 hpf (fun hpf => ?_)
      refine lv_iload_n hx hb dX10_drops_33 rfl (lv_at hl 2 rfl) ?_
      refine b_icmp_ne hx hb 67 34 dX10_drops_34 (by decide) hpf (fun hpf => ?_) (fun hpf => ?_)
      · refine lv_iconst (v := (0 : Int32)) hx hb dX10_drops_67 (by decide) ?_
        exact hC_68 (0 : Int32) x1 x2 x3 x4 x5 x6 S H locs I ls (lv_sub hl [0, 1, 2, 3, 4, 5, 6] rfl) hpf
      refine lv_iload_n hx hb dX10_drops_37 rfl (lv_at hl 3 rfl) ?_
      refine b_if_ne hx hb 63 38 dX10_drops_38 (by decide) hpf (fun hpf => ?_) (fun hpf => ?_)
      · refine lv_iconst (v := (1 : Int32)) hx hb dX10_drops_63 (by decide) ?_
        refine lv_goto (tgt := 68) hx hb dX10_drops_64 (by decide) ?_
        exact hC_68 (1 : Int32) x1 x2 x3 x4 x5 x6 S H locs I ls (lv_sub hl [0, 1, 2, 3, 4, 5, 6] rfl) hpf
      refine lv_aload_n hx hb dX10_drops_41 rfl (lv_at hl 0 rfl) ?_
      refine lv_iload_n hx hb dX10_drops_42 rfl (lv_at hl 2 rfl) ?_
      refine lv_aload_n hx hb dX10_drops_43 rfl (lv_at hl 0 rfl) ?_
      refine m_getr C I mRef_50 kM_46 44 dX10_drops_44 ?_
      refine lv_iload hx hb dX10_drops_47 (lv_at hl 6 rfl) ?_
      refine m_iald C I mArr_50 49 dX10_drops_49 hpf (fun hpf => ?_)
      refine m_callI (rest := []) (As := [.int x2, .int (S.2 50 x6.toNatClampNeg)]) C I fn_key (c_key l N x2 (S.2 50 x6.toNatClampNeg)) (by decide) 50 dX10_drops_50 rfl hl.1 rfl (Nat.le_of_ble_eq_true rfl) hpf (fun v1 S2 H locs I hpf => ?_)
      refine lv_aload_n hx hb dX10_drops_53 rfl (lv_at hl 0 rfl) ?_
      refine lv_iload_n hx hb dX10_drops_54 rfl (lv_at hl 2 rfl) ?_
      refine lv_iload hx hb dX10_drops_55 (lv_at hl 4 rfl) ?_
      refine m_callI (rest := [.int v1]) (As := [.int x2, .int x4]) C I fn_key (c_key l N x2 x4) (by decide) 57 dX10_drops_57 rfl hl.1 rfl (Nat.le_of_ble_eq_true rfl) hpf (fun v3 S4 H locs I hpf => ?_)
      refine b_icmp_ne hx hb 67 60 dX10_drops_60 (by decide) hpf (fun hpf => ?_) (fun hpf => ?_)
      · refine lv_iconst (v := (0 : Int32)) hx hb dX10_drops_67 (by decide) ?_
        exact hC_68 (0 : Int32) x1 x2 x3 x4 x5 x6 S4 H locs I ls (lv_sub hl [0, 1, 2, 3, 4, 5, 6] rfl) hpf
      refine lv_iconst (v := (1 : Int32)) hx hb dX10_drops_63 (by decide) ?_
      refine lv_goto (tgt := 68) hx hb dX10_drops_64 (by decide) ?_
      exact hC_68 (1 : Int32) x1 x2 x3 x4 x5 x6 S4 H locs I ls (lv_sub hl [0, 1, 2, 3, 4, 5, 6] rfl) hpf
  refine lv_iconst (v := (0 : Int32)) hx hb dX10_drops_0 (by decide) ?_
  refine lv_istore (lv' := [(5, .int (0 : Int32)), (0, .ref h), (1, .int x1), (2, .int x2), (3, .int x3), (4, .int x4)]) hx hb dX10_drops_1 hl (by decide) rfl (fun ls hl => ?_)
  refine lv_iconst (v := (0 : Int32)) hx hb dX10_drops_3 (by decide) ?_
  refine lv_istore (lv' := [(6, .int (0 : Int32)), (5, .int (0 : Int32)), (0, .ref h), (1, .int x1), (2, .int x2), (3, .int x3), (4, .int x4)]) hx hb dX10_drops_4 hl (by decide) rfl (fun ls hl => ?_)
  exact hC_6 N x1 x2 x3 x4 (0 : Int32) (0 : Int32) S H locs I ls (lv_sub hl [2, 3, 4, 5, 6, 1, 0] rfl) hpf
-- ===== comes =====
def pf_comes (N : Nat) (x1 : Int32) (x2 : Int32) (x3 : Int32) (S : mS) : Option (Int32 × mS) :=
    gd (S.1 47) 900 <| sv (mA S 48 (S.1 47).toNatClampNeg x1) fun S1 =>
    gd (S1.1 47) 900 <| sv (mA S1 49 (S1.1 47).toNatClampNeg x2) fun S2 =>
    gd (S2.1 47) 900 <| sv (mA S2 50 (S2.1 47).toNatClampNeg x3) fun S3 =>
    sv (mI S3 47 ((S3.1 47) + (1 : Int32))) fun S4 =>
    some ((0 : Int32), S4)
theorem fn_comes : mFnI yX10_comes cX10_comes 4 none 3 201 := ⟨kM_86, kM_87, kM_88, kM_81, rfl, by decide +kernel, by decide⟩
set_option maxRecDepth 100000 in
set_option maxHeartbeats 4000000 in
theorem c_comes (l : Launch) (N : Nat) (x1 : Int32) (x2 : Int32) (x3 : Int32) : mMetV l yX10_comes cX10_comes 4 0 [.int x1, .int x2, .int x3] (pf_comes N x1 x2 x3) := by
  refine mStartV (by decide +kernel) rfl (fun h => [(0, .ref h), (1, .int x1), (2, .int x2), (3, .int x3)]) (fun _ => Nat.le_of_ble_eq_true rfl) (fun _ => rfl) ?_
  intro dC dI h cI cZ a sz S r Sf hpf p e s m args below meth c C hr hz H locs I ls hl
  have hx := C.1
  have hb := C.2.1
  unfold pf_comes at hpf
  refine lv_aload_n hx hb dX10_comes_0 rfl (lv_at hl 0 rfl) ?_
  refine m_getr C I mRef_48 kM_44 1 dX10_comes_1 ?_
  refine lv_aload_n hx hb dX10_comes_4 rfl (lv_at hl 0 rfl) ?_
  refine m_geti C I mInt_47 kM_77 5 dX10_comes_5 ?_
  refine lv_iload_n hx hb dX10_comes_8 rfl (lv_at hl 1 rfl) ?_
  refine m_iast C I mArr_48 9 dX10_comes_9 hpf (fun S1 H locs I hpf => ?_)
  refine lv_aload_n hx hb dX10_comes_10 rfl (lv_at hl 0 rfl) ?_
  refine m_getr C I mRef_49 kM_45 11 dX10_comes_11 ?_
  refine lv_aload_n hx hb dX10_comes_14 rfl (lv_at hl 0 rfl) ?_
  refine m_geti C I mInt_47 kM_77 15 dX10_comes_15 ?_
  refine lv_iload_n hx hb dX10_comes_18 rfl (lv_at hl 2 rfl) ?_
  refine m_iast C I mArr_49 19 dX10_comes_19 hpf (fun S2 H locs I hpf => ?_)
  refine lv_aload_n hx hb dX10_comes_20 rfl (lv_at hl 0 rfl) ?_
  refine m_getr C I mRef_50 kM_46 21 dX10_comes_21 ?_
  refine lv_aload_n hx hb dX10_comes_24 rfl (lv_at hl 0 rfl) ?_
  refine m_geti C I mInt_47 kM_77 25 dX10_comes_25 ?_
  refine lv_iload_n hx hb dX10_comes_28 rfl (lv_at hl 3 rfl) ?_
  refine m_iast C I mArr_50 29 dX10_comes_29 hpf (fun S3 H locs I hpf => ?_)
  refine lv_aload_n hx hb dX10_comes_30 rfl (lv_at hl 0 rfl) ?_
  refine lv_dup hx hb dX10_comes_31 rfl ?_
  refine m_geti C I mInt_47 kM_77 32 dX10_comes_32 ?_
  refine lv_iconst (v := (1 : Int32)) hx hb dX10_comes_35 (by decide) ?_
  refine lv_iadd hx hb dX10_comes_36 ?_
  refine m_puti C I mInt_47 kM_77 37 dX10_comes_37 hpf (fun S4 H locs I hpf => ?_)
  exact m_retv C I hr hz 40 dX10_comes_40 hpf
-- ===== takesValue =====
def pf_takesValue (N : Nat) (x1 : Int32) (x2 : Int32) (x3 : Int32) (S : mS) : Option (Int32 × mS) :=
    gd x2 10 <|
    bd (pf_drops N x1 x2 (S.2 2 x2.toNatClampNeg) x3 S) fun v1 S2 =>
    bd (pf_comes N x1 x2 x3 S2) fun v3 S4 =>
    some ((0 : Int32), S4)
theorem fn_takesValue : mFnI yX10_takesValue cX10_takesValue 4 none 3 205 := ⟨kM_90, kM_91, kM_92, kM_82, rfl, by decide +kernel, by decide⟩
set_option maxRecDepth 100000 in
set_option maxHeartbeats 4000000 in
theorem c_takesValue (l : Launch) (N : Nat) (x1 : Int32) (x2 : Int32) (x3 : Int32) : mMetV l yX10_takesValue cX10_takesValue 4 2 [.int x1, .int x2, .int x3] (pf_takesValue N x1 x2 x3) := by
  refine mStartV (by decide +kernel) rfl (fun h => [(0, .ref h), (1, .int x1), (2, .int x2), (3, .int x3)]) (fun _ => Nat.le_of_ble_eq_true rfl) (fun _ => rfl) ?_
  intro dC dI h cI cZ a sz S r Sf hpf p e s m args below meth c C hr hz H locs I ls hl
  have hx := C.1
  have hb := C.2.1
  unfold pf_takesValue at hpf
  refine lv_aload_n hx hb dX10_takesValue_0 rfl (lv_at hl 0 rfl) ?_
  refine lv_iload_n hx hb dX10_takesValue_1 rfl (lv_at hl 1 rfl) ?_
  refine lv_iload_n hx hb dX10_takesValue_2 rfl (lv_at hl 2 rfl) ?_
  refine lv_aload_n hx hb dX10_takesValue_3 rfl (lv_at hl 0 rfl) ?_
  refine m_getr C I mRef_2 kM_4 4 dX10_takesValue_4 ?_
  refine lv_iload_n hx hb dX10_takesValue_7 rfl (lv_at hl 2 rfl) ?_
  refine m_zald C I mArr_2 8 dX10_takesValue_8 hpf (fun hpf => ?_)
  refine lv_iload_n hx hb dX10_takesValue_9 rfl (lv_at hl 3 rfl) ?_
  refine m_callV (rest := []) (As := [.int x1, .int x2, .int (S.2 2 x2.toNatClampNeg), .int x3]) C I fn_drops (c_drops l N x1 x2 (S.2 2 x2.toNatClampNeg) x3) (by decide) 10 dX10_takesValue_10 rfl hl.1 rfl (Nat.le_of_ble_eq_true rfl) hpf (fun v1 S2 H locs I hpf => ?_)
  refine lv_aload_n hx hb dX10_takesValue_13 rfl (lv_at hl 0 rfl) ?_
  refine lv_iload_n hx hb dX10_takesValue_14 rfl (lv_at hl 1 rfl) ?_
  refine lv_iload_n hx hb dX10_takesValue_15 rfl (lv_at hl 2 rfl) ?_
  refine lv_iload_n hx hb dX10_takesValue_16 rfl (lv_at hl 3 rfl) ?_
  refine m_callV (rest := []) (As := [.int x1, .int x2, .int x3]) C I fn_comes (c_comes l N x1 x2 x3) (by decide) 17 dX10_takesValue_17 rfl hl.1 rfl (Nat.le_of_ble_eq_true rfl) hpf (fun v3 S4 H locs I hpf => ?_)
  exact m_retv C I hr hz 20 dX10_takesValue_20 hpf
-- ===== isUp =====
def pf_isUp_22 (N : Nat) (x1 : Int32) (x3 : Int32) (S : mS) : Option (Int32 × mS) :=
    if x3 = x1 then (
      some ((1 : Int32), S))
    else (
      some ((0 : Int32), S))
def pf_isUp_2 (N : Nat) (k_22 : Int32 → Int32 → mS → Option (Int32 × mS)) : Nat → Int32 → Int32 → mS → Option (Int32 × mS)
  | 0 => fun _ _ _ => none
  | n_2 + 1 => fun x1 x3 S =>
    if x3 = (-1 : Int32) then (
      k_22 x1 x3 S)
    else (
      if x3 = x1 then (
        k_22 x1 x3 S)
      else (
        gd x3 48 <|
        nm (S.2 41 x3.toNatClampNeg) fun y1 =>
        pf_isUp_2 N k_22 n_2 x1 y1 S))
def pf_isUp (N : Nat) (x1 : Int32) (x2 : Int32) (S : mS) : Option (Int32 × mS) :=
    pf_isUp_2 N (pf_isUp_22 N) N x1 x2 S
theorem fn_isUp : mFnI yX10_isUp cX10_isUp 4 (some .boolean) 2 208 := ⟨kM_93, kM_94, kM_95, kM_89, rfl, by decide +kernel, by decide⟩
set_option maxRecDepth 100000 in
set_option maxHeartbeats 4000000 in
theorem c_isUp (l : Launch) (N : Nat) (x1 : Int32) (x2 : Int32) : mMet l yX10_isUp cX10_isUp 4 .boolean 0 [.int x1, .int x2] (pf_isUp N x1 x2) := by
  refine mStart (by decide +kernel) rfl (fun h => [(0, .ref h), (1, .int x1), (2, .int x2)]) (fun _ => Nat.le_of_ble_eq_true rfl) (fun _ => rfl) ?_
  intro dC dI h cI cZ a sz S r Sf hpf p e s m args below meth c C hr hz H locs I ls hl
  have hx := C.1
  have hb := C.2.1
  unfold pf_isUp at hpf
  have hC_22 : ∀ (x1 : Int32) (x3 : Int32) (S : mS) (H : Heap) (locs : List Loc), mV dC dI h cI cZ a s S H locs → ∀ ls : Array Slot, lv_has ls 4 [(0, .ref h), (1, .int x1), (3, .int x3)] → pf_isUp_22 N x1 x3 S = some (r, Sf) → W p l e (mRm 0) s m args below meth c H locs 0 0 (MQ below (mQ dC dI h cI cZ a sz r Sf) args s 0 0 (mAt h cI cZ a sz)) (F0 m 22 ls []) := by
    intro x1 x3 S H locs I ls hl hpf
    unfold pf_isUp_22 at hpf
    refine lv_iload_n hx hb dX10_isUp_22 rfl (lv_at hl 2 rfl) ?_
    refine lv_iload_n hx hb dX10_isUp_23 rfl (lv_at hl 1 rfl) ?_
    refine b_icmp_ne hx hb 31 24 dX10_isUp_24 (by decide) hpf (fun hpf => ?_) (fun hpf => ?_)
    · refine lv_iconst (v := (0 : Int32)) hx hb dX10_isUp_31 (by decide) ?_
      exact m_retzc C I hr hz 32 dX10_isUp_32 (by decide) hpf
    refine lv_iconst (v := (1 : Int32)) hx hb dX10_isUp_27 (by decide) ?_
    refine lv_goto (tgt := 32) hx hb dX10_isUp_28 (by decide) ?_
    exact m_retzc C I hr hz 32 dX10_isUp_32 (by decide) hpf
  have hC_2 : ∀ (n_2 : Nat), ∀ (x1 : Int32) (x3 : Int32) (S : mS) (H : Heap) (locs : List Loc), mV dC dI h cI cZ a s S H locs → ∀ ls : Array Slot, lv_has ls 4 [(0, .ref h), (1, .int x1), (3, .int x3)] → pf_isUp_2 N (pf_isUp_22 N) n_2 x1 x3 S = some (r, Sf) → W p l e (mRm 0) s m args below meth c H locs 0 0 (MQ below (mQ dC dI h cI cZ a sz r Sf) args s 0 0 (mAt h cI cZ a sz)) (F0 m 2 ls []) := by
    intro n_2
    induction n_2 with
    | zero =>
      intro x1 x3 S H locs I ls hl hpf
      rw [pf_isUp_2] at hpf
      cases hpf
    | succ n_2 ih_2 =>
      intro x1 x3 S H locs I ls hl hpf
      rw [pf_isUp_2] at hpf
      refine lv_iload_n hx hb dX10_isUp_2 rfl (lv_at hl 2 rfl) ?_
      refine lv_iconst (v := (-1 : Int32)) hx hb dX10_isUp_3 (by decide) ?_
      refine b_icmp_eq hx hb 22 4 dX10_isUp_4 (by decide) hpf (fun hpf => ?_) (fun hpf => ?_)
      · exact hC_22 x1 x3 S H locs I ls (lv_sub hl [0, 1, 2] rfl) hpf
      refine lv_iload_n hx hb dX10_isUp_7 rfl (lv_at hl 2 rfl) ?_
      refine lv_iload_n hx hb dX10_isUp_8 rfl (lv_at hl 1 rfl) ?_
      refine b_icmp_eq hx hb 22 9 dX10_isUp_9 (by decide) hpf (fun hpf => ?_) (fun hpf => ?_)
      · exact hC_22 x1 x3 S H locs I ls (lv_sub hl [0, 1, 2] rfl) hpf
      refine lv_aload_n hx hb dX10_isUp_12 rfl (lv_at hl 0 rfl) ?_
      refine m_getr C I mRef_41 kM_38 13 dX10_isUp_13 ?_
      refine lv_iload_n hx hb dX10_isUp_16 rfl (lv_at hl 2 rfl) ?_
      refine m_iald C I mArr_41 17 dX10_isUp_17 hpf (fun hpf => ?_)
      refine m_isto_n hx hb (fun y1 => [(3, .int y1), (0, .ref h), (1, .int x1)]) 18 dX10_isUp_18 rfl hl (by decide) (fun _ => rfl) hpf (fun y1 ls hl hpf => ?_)
      refine lv_goto (tgt := 2) hx hb dX10_isUp_19 (by decide) ?_
      exact ih_2 x1 y1 S H locs I ls (lv_sub hl [1, 2, 0] rfl) hpf
  refine lv_iload_n hx hb dX10_isUp_0 rfl (lv_at hl 2 rfl) ?_
  refine lv_istore_n (lv' := [(3, .int x2), (0, .ref h), (1, .int x1), (2, .int x2)]) hx hb dX10_isUp_1 rfl hl (by decide) rfl (fun ls hl => ?_)
  exact hC_2 N x1 x2 S H locs I ls (lv_sub hl [1, 2, 0] rfl) hpf
-- ===== does =====
def pf_does_74 (N : Nat) : Nat → Int32 → Int32 → Int32 → mS → Option (Int32 × mS)
  | 0 => fun _ _ _ _ => none
  | n_74 + 1 => fun x1 x3 x4 S =>
    gd x1 250 <|
    if (S.2 33 x1.toNatClampNeg) ≤ x4 then (
      some ((0 : Int32), S))
    else (
      gd x4 600 <|
      gd x4 600 <|
      bd (pf_takesValue N x3 (S.2 34 x4.toNatClampNeg) (S.2 35 x4.toNatClampNeg) S) fun v1 S2 =>
      nm (x4 + (1 : Int32)) fun y3 =>
      pf_does_74 N n_74 x1 x3 y3 S2)
def pf_does_354 (N : Nat) (t0 : Int32) (t1 : Int32) (S : mS) : Option (Int32 × mS) :=
    gd t1 48 <| sv (mA S 41 t1.toNatClampNeg t0) fun S1 =>
    some ((0 : Int32), S1)
def pf_does (N : Nat) (x1 : Int32) (x2 : Int32) (S : mS) : Option (Int32 × mS) :=
    gd x1 250 <|
    nm (S.2 27 x1.toNatClampNeg) fun y1 =>
    gd x1 250 <|
    if (S.2 26 x1.toNatClampNeg) = (0 : Int32) then (
      gd y1 48 <| sv (mA S 38 y1.toNatClampNeg (vp_nar .boolean (1 : Int32))) fun S16 =>
      gd y1 48 <| sv (mA S16 44 y1.toNatClampNeg x2) fun S17 =>
      gd x1 250 <|
      gd y1 48 <| sv (mA S17 40 y1.toNatClampNeg (S17.2 28 x1.toNatClampNeg)) fun S18 =>
      gd x1 250 <|
      gd y1 48 <| sv (mA S18 41 y1.toNatClampNeg (S18.2 29 x1.toNatClampNeg)) fun S19 =>
      gd x1 250 <|
      gd y1 48 <| sv (mA S19 42 y1.toNatClampNeg (S19.2 30 x1.toNatClampNeg)) fun S20 =>
      gd x1 250 <|
      nm (S20.2 32 x1.toNatClampNeg) fun y21 =>
      pf_does_74 N N x1 y1 y21 S20)
    else (
      gd x1 250 <|
      if (S.2 26 x1.toNatClampNeg) = (1 : Int32) then (
        gd x1 250 <|
        gd x1 250 <|
        bd (pf_takesValue N y1 (S.2 28 x1.toNatClampNeg) (S.2 29 x1.toNatClampNeg) S) fun v14 S15 =>
        some ((0 : Int32), S15))
      else (
        gd x1 250 <|
        if (S.2 26 x1.toNatClampNeg) = (2 : Int32) then (
          gd x1 250 <|
          gd x1 250 <|
          bd (pf_drops N y1 (S.2 28 x1.toNatClampNeg) (0 : Int32) (S.2 29 x1.toNatClampNeg) S) fun v12 S13 =>
          some ((0 : Int32), S13))
        else (
          gd x1 250 <|
          if (S.2 26 x1.toNatClampNeg) = (3 : Int32) then (
            gd x1 250 <|
            gd x1 250 <|
            bd (pf_drops N y1 (S.2 28 x1.toNatClampNeg) (1 : Int32) (S.2 29 x1.toNatClampNeg) S) fun v8 S9 =>
            gd x1 250 <|
            gd x1 250 <|
            bd (pf_comes N y1 (S9.2 28 x1.toNatClampNeg) (S9.2 29 x1.toNatClampNeg) S9) fun v10 S11 =>
            some ((0 : Int32), S11))
          else (
            gd x1 250 <|
            if (S.2 26 x1.toNatClampNeg) = (4 : Int32) then (
              gd x1 250 <|
              gd y1 48 <| sv (mA S 42 y1.toNatClampNeg (S.2 28 x1.toNatClampNeg)) fun S7 =>
              some ((0 : Int32), S7))
            else (
              gd x1 250 <|
              if (S.2 26 x1.toNatClampNeg) = (5 : Int32) then (
                gd x1 250 <|
                gd y1 48 <| sv (mA S 43 y1.toNatClampNeg (S.2 28 x1.toNatClampNeg)) fun S6 =>
                some ((0 : Int32), S6))
              else (
                gd x1 250 <|
                if (S.2 26 x1.toNatClampNeg) = (6 : Int32) then (
                  gd x1 250 <|
                  gd x1 250 <|
                  gd (((330 : Int32) * y1) + (S.2 28 x1.toNatClampNeg)) 15840 <| sv (mA S 51 (((330 : Int32) * y1) + (S.2 28 x1.toNatClampNeg)).toNatClampNeg (S.2 29 x1.toNatClampNeg)) fun S5 =>
                  some ((0 : Int32), S5))
                else (
                  gd x1 250 <|
                  if (S.2 26 x1.toNatClampNeg) = (7 : Int32) then (
                    gd x1 250 <|
                    bd (pf_isUp N y1 (S.2 28 x1.toNatClampNeg) S) fun v3 S4 =>
                    if v3 = (0 : Int32) then (
                      gd x1 250 <|
                      pf_does_354 N (S4.2 28 x1.toNatClampNeg) y1 S4)
                    else (
                      gd y1 48 <|
                      pf_does_354 N (S4.2 41 y1.toNatClampNeg) y1 S4))
                  else (
                    gd y1 48 <| sv (mA S 39 y1.toNatClampNeg (vp_nar .boolean (1 : Int32))) fun S2 =>
                    some ((0 : Int32), S2)))))))))
theorem fn_does : mFnI yX10_does cX10_does 5 none 2 218 := ⟨kM_102, kM_103, kM_104, kM_96, rfl, by decide +kernel, by decide⟩
set_option maxRecDepth 100000 in
set_option maxHeartbeats 4000000 in
theorem c_does (l : Launch) (N : Nat) (x1 : Int32) (x2 : Int32) : mMetV l yX10_does cX10_does 5 3 [.int x1, .int x2] (pf_does N x1 x2) := by
  refine mStartV (by decide +kernel) rfl (fun h => [(0, .ref h), (1, .int x1), (2, .int x2)]) (fun _ => Nat.le_of_ble_eq_true rfl) (fun _ => rfl) ?_
  intro dC dI h cI cZ a sz S r Sf hpf p e s m args below meth c C hr hz H locs I ls hl
  have hx := C.1
  have hb := C.2.1
  unfold pf_does at hpf
  have hC_74 : ∀ (n_74 : Nat), ∀ (x1 : Int32) (x3 : Int32) (x4 : Int32) (S : mS) (H : Heap) (locs : List Loc), mV dC dI h cI cZ a s S H locs → ∀ ls : Array Slot, lv_has ls 5 [(0, .ref h), (1, .int x1), (3, .int x3), (4, .int x4)] → pf_does_74 N n_74 x1 x3 x4 S = some (r, Sf) → W p l e (mRm 3) s m args below meth c H locs 0 0 (MQ below (mQv dC dI h cI cZ a sz Sf) args s 0 0 (mAt h cI cZ a sz)) (F0 m 74 ls []) := by
    intro n_74
    induction n_74 with
    | zero =>
      intro x1 x3 x4 S H locs I ls hl hpf
      rw [pf_does_74] at hpf
      cases hpf
    | succ n_74 ih_74 =>
      intro x1 x3 x4 S H locs I ls hl hpf
      rw [pf_does_74] at hpf
      refine lv_iload hx hb dX10_does_74 (lv_at hl 3 rfl) ?_
      refine lv_aload_n hx hb dX10_does_76 rfl (lv_at hl 0 rfl) ?_
      refine m_getr C I mRef_33 kM_30 77 dX10_does_77 ?_
      refine lv_iload_n hx hb dX10_does_80 rfl (lv_at hl 1 rfl) ?_
      refine m_iald C I mArr_33 81 dX10_does_81 hpf (fun hpf => ?_)
      refine b_icmp_ge hx hb 110 82 dX10_does_82 (by decide) hpf (fun hpf => ?_) (fun hpf => ?_)
      · refine lv_goto (tgt := 365) hx hb dX10_does_110 (by decide) ?_
        exact m_retv C I hr hz 365 dX10_does_365 hpf
      refine lv_aload_n hx hb dX10_does_85 rfl (lv_at hl 0 rfl) ?_
      refine lv_iload_n hx hb dX10_does_86 rfl (lv_at hl 2 rfl) ?_
      refine lv_aload_n hx hb dX10_does_87 rfl (lv_at hl 0 rfl) ?_
      refine m_getr C I mRef_34 kM_31 88 dX10_does_88 ?_
      refine lv_iload hx hb dX10_does_91 (lv_at hl 3 rfl) ?_
      refine m_iald C I mArr_34 93 dX10_does_93 hpf (fun hpf => ?_)
      refine lv_aload_n hx hb dX10_does_94 rfl (lv_at hl 0 rfl) ?_
      refine m_getr C I mRef_35 kM_32 95 dX10_does_95 ?_
      refine lv_iload hx hb dX10_does_98 (lv_at hl 3 rfl) ?_
      refine m_iald C I mArr_35 100 dX10_does_100 hpf (fun hpf => ?_)
      refine m_callV (rest := []) (As := [.int x3, .int (S.2 34 x4.toNatClampNeg), .int (S.2 35 x4.toNatClampNeg)]) C I fn_takesValue (c_takesValue l N x3 (S.2 34 x4.toNatClampNeg) (S.2 35 x4.toNatClampNeg)) (by decide) 101 dX10_does_101 rfl hl.1 rfl (Nat.le_of_ble_eq_true rfl) hpf (fun v1 S2 H locs I hpf => ?_)
      refine m_iinc (w := (1 : Int32)) hx hb (fun y3 => [(4, .int y3), (0, .ref h), (1, .int x1), (3, .int x3)]) 104 dX10_does_104 hl (k := 3) rfl (by decide) (by decide) (fun _ => rfl) hpf (fun y3 ls hl hpf => ?_)
      refine lv_goto (tgt := 74) hx hb dX10_does_107 (by decide) ?_
      exact ih_74 x1 x3 y3 S2 H locs I ls (lv_sub hl [1, 2, 3, 0] rfl) hpf
  have hC_354 : ∀ (t0 : Int32) (t1 : Int32) (S : mS) (H : Heap) (locs : List Loc), mV dC dI h cI cZ a s S H locs → ∀ ls : Array Slot, lv_has ls 5 [(0, .ref h)] → pf_does_354 N t0 t1 S = some (r, Sf) → W p l e (mRm 3) s m args below meth c H locs 0 0 (MQ below (mQv dC dI h cI cZ a sz Sf) args s 0 0 (mAt h cI cZ a sz)) (F0 m 354 ls [.int t0, .int t1, .ref (a 41)]) := by
    intro t0 t1 S H locs I ls hl hpf
    unfold pf_does_354 at hpf
    refine m_iast C I mArr_41 354 dX10_does_354 hpf (fun S1 H locs I hpf => ?_)
    refine lv_goto (tgt := 365) hx hb dX10_does_355 (by decide) ?_
    exact m_retv C I hr hz 365 dX10_does_365 hpf
  refine lv_aload_n hx hb dX10_does_0 rfl (lv_at hl 0 rfl) ?_
  refine m_getr C I mRef_27 kM_25 1 dX10_does_1 ?_
  refine lv_iload_n hx hb dX10_does_4 rfl (lv_at hl 1 rfl) ?_
  refine m_iald C I mArr_27 5 dX10_does_5 hpf (fun hpf => ?_)
  refine m_isto_n hx hb (fun y1 => [(3, .int y1), (0, .ref h), (1, .int x1), (2, .int x2)]) 6 dX10_does_6 rfl hl (by decide) (fun _ => rfl) hpf (fun y1 ls hl hpf => ?_)
  refine lv_aload_n hx hb dX10_does_7 rfl (lv_at hl 1 rfl) ?_
  refine m_getr C I mRef_26 kM_24 8 dX10_does_8 ?_
  refine lv_iload_n hx hb dX10_does_11 rfl (lv_at hl 2 rfl) ?_
  refine m_iald C I mArr_26 12 dX10_does_12 hpf (fun hpf => ?_)
  refine b_if_ne hx hb 113 13 dX10_does_13 (by decide) hpf (fun hpf => ?_) (fun hpf => ?_)
  · refine lv_aload_n hx hb dX10_does_113 rfl (lv_at hl 1 rfl) ?_
    refine m_getr C I mRef_26 kM_24 114 dX10_does_114 ?_
    refine lv_iload_n hx hb dX10_does_117 rfl (lv_at hl 2 rfl) ?_
    refine m_iald C I mArr_26 118 dX10_does_118 hpf (fun hpf => ?_)
    refine lv_iconst (v := (1 : Int32)) hx hb dX10_does_119 (by decide) ?_
    refine b_icmp_ne hx hb 143 120 dX10_does_120 (by decide) hpf (fun hpf => ?_) (fun hpf => ?_)
    · refine lv_aload_n hx hb dX10_does_143 rfl (lv_at hl 1 rfl) ?_
      refine m_getr C I mRef_26 kM_24 144 dX10_does_144 ?_
      refine lv_iload_n hx hb dX10_does_147 rfl (lv_at hl 2 rfl) ?_
      refine m_iald C I mArr_26 148 dX10_does_148 hpf (fun hpf => ?_)
      refine lv_iconst (v := (2 : Int32)) hx hb dX10_does_149 (by decide) ?_
      refine b_icmp_ne hx hb 174 150 dX10_does_150 (by decide) hpf (fun hpf => ?_) (fun hpf => ?_)
      · refine lv_aload_n hx hb dX10_does_174 rfl (lv_at hl 1 rfl) ?_
        refine m_getr C I mRef_26 kM_24 175 dX10_does_175 ?_
        refine lv_iload_n hx hb dX10_does_178 rfl (lv_at hl 2 rfl) ?_
        refine m_iald C I mArr_26 179 dX10_does_179 hpf (fun hpf => ?_)
        refine lv_iconst (v := (3 : Int32)) hx hb dX10_does_180 (by decide) ?_
        refine b_icmp_ne hx hb 222 181 dX10_does_181 (by decide) hpf (fun hpf => ?_) (fun hpf => ?_)
        · refine lv_aload_n hx hb dX10_does_222 rfl (lv_at hl 1 rfl) ?_
          refine m_getr C I mRef_26 kM_24 223 dX10_does_223 ?_
          refine lv_iload_n hx hb dX10_does_226 rfl (lv_at hl 2 rfl) ?_
          refine m_iald C I mArr_26 227 dX10_does_227 hpf (fun hpf => ?_)
          refine lv_iconst (v := (4 : Int32)) hx hb dX10_does_228 (by decide) ?_
          refine b_icmp_ne hx hb 247 229 dX10_does_229 (by decide) hpf (fun hpf => ?_) (fun hpf => ?_)
          · refine lv_aload_n hx hb dX10_does_247 rfl (lv_at hl 1 rfl) ?_
            refine m_getr C I mRef_26 kM_24 248 dX10_does_248 ?_
            refine lv_iload_n hx hb dX10_does_251 rfl (lv_at hl 2 rfl) ?_
            refine m_iald C I mArr_26 252 dX10_does_252 hpf (fun hpf => ?_)
            refine lv_iconst (v := (5 : Int32)) hx hb dX10_does_253 (by decide) ?_
            refine b_icmp_ne hx hb 272 254 dX10_does_254 (by decide) hpf (fun hpf => ?_) (fun hpf => ?_)
            · refine lv_aload_n hx hb dX10_does_272 rfl (lv_at hl 1 rfl) ?_
              refine m_getr C I mRef_26 kM_24 273 dX10_does_273 ?_
              refine lv_iload_n hx hb dX10_does_276 rfl (lv_at hl 2 rfl) ?_
              refine m_iald C I mArr_26 277 dX10_does_277 hpf (fun hpf => ?_)
              refine lv_bipush (v := (6 : Int32)) hx hb dX10_does_278 (by decide) ?_
              refine b_icmp_ne hx hb 309 280 dX10_does_280 (by decide) hpf (fun hpf => ?_) (fun hpf => ?_)
              · refine lv_aload_n hx hb dX10_does_309 rfl (lv_at hl 1 rfl) ?_
                refine m_getr C I mRef_26 kM_24 310 dX10_does_310 ?_
                refine lv_iload_n hx hb dX10_does_313 rfl (lv_at hl 2 rfl) ?_
                refine m_iald C I mArr_26 314 dX10_does_314 hpf (fun hpf => ?_)
                refine lv_bipush (v := (7 : Int32)) hx hb dX10_does_315 (by decide) ?_
                refine b_icmp_ne hx hb 358 317 dX10_does_317 (by decide) hpf (fun hpf => ?_) (fun hpf => ?_)
                · refine lv_aload_n hx hb dX10_does_358 rfl (lv_at hl 1 rfl) ?_
                  refine m_getr C I mRef_39 kM_36 359 dX10_does_359 ?_
                  refine lv_iload_n hx hb dX10_does_362 rfl (lv_at hl 0 rfl) ?_
                  refine lv_iconst (v := (1 : Int32)) hx hb dX10_does_363 (by decide) ?_
                  refine m_zast C I mArr_39 364 dX10_does_364 hpf (fun S2 H locs I hpf => ?_)
                  exact m_retv C I hr hz 365 dX10_does_365 hpf
                refine lv_aload_n hx hb dX10_does_320 rfl (lv_at hl 1 rfl) ?_
                refine m_getr C I mRef_41 kM_38 321 dX10_does_321 ?_
                refine lv_iload_n hx hb dX10_does_324 rfl (lv_at hl 0 rfl) ?_
                refine lv_aload_n hx hb dX10_does_325 rfl (lv_at hl 1 rfl) ?_
                refine lv_iload_n hx hb dX10_does_326 rfl (lv_at hl 0 rfl) ?_
                refine lv_aload_n hx hb dX10_does_327 rfl (lv_at hl 1 rfl) ?_
                refine m_getr C I mRef_28 kM_26 328 dX10_does_328 ?_
                refine lv_iload_n hx hb dX10_does_331 rfl (lv_at hl 2 rfl) ?_
                refine m_iald C I mArr_28 332 dX10_does_332 hpf (fun hpf => ?_)
                refine m_callI (rest := [.int y1, .ref (a 41)]) (As := [.int y1, .int (S.2 28 x1.toNatClampNeg)]) C I fn_isUp (c_isUp l N y1 (S.2 28 x1.toNatClampNeg)) (by decide) 333 dX10_does_333 rfl hl.1 rfl (Nat.le_of_ble_eq_true rfl) hpf (fun v3 S4 H locs I hpf => ?_)
                refine b_if_eq hx hb 348 336 dX10_does_336 (by decide) hpf (fun hpf => ?_) (fun hpf => ?_)
                · refine lv_aload_n hx hb dX10_does_348 rfl (lv_at hl 1 rfl) ?_
                  refine m_getr C I mRef_28 kM_26 349 dX10_does_349 ?_
                  refine lv_iload_n hx hb dX10_does_352 rfl (lv_at hl 2 rfl) ?_
                  refine m_iald C I mArr_28 353 dX10_does_353 hpf (fun hpf => ?_)
                  exact hC_354 (S4.2 28 x1.toNatClampNeg) y1 S4 H locs I ls (lv_sub hl [1] rfl) hpf
                refine lv_aload_n hx hb dX10_does_339 rfl (lv_at hl 1 rfl) ?_
                refine m_getr C I mRef_41 kM_38 340 dX10_does_340 ?_
                refine lv_iload_n hx hb dX10_does_343 rfl (lv_at hl 0 rfl) ?_
                refine m_iald C I mArr_41 344 dX10_does_344 hpf (fun hpf => ?_)
                refine lv_goto (tgt := 354) hx hb dX10_does_345 (by decide) ?_
                exact hC_354 (S4.2 41 y1.toNatClampNeg) y1 S4 H locs I ls (lv_sub hl [1] rfl) hpf
              refine lv_aload_n hx hb dX10_does_283 rfl (lv_at hl 1 rfl) ?_
              refine m_getr C I mRef_51 kM_47 284 dX10_does_284 ?_
              refine lv_sipush (v := (330 : Int32)) hx hb dX10_does_287 (by decide) ?_
              refine lv_iload_n hx hb dX10_does_290 rfl (lv_at hl 0 rfl) ?_
              refine lv_imul hx hb dX10_does_291 ?_
              refine lv_aload_n hx hb dX10_does_292 rfl (lv_at hl 1 rfl) ?_
              refine m_getr C I mRef_28 kM_26 293 dX10_does_293 ?_
              refine lv_iload_n hx hb dX10_does_296 rfl (lv_at hl 2 rfl) ?_
              refine m_iald C I mArr_28 297 dX10_does_297 hpf (fun hpf => ?_)
              refine lv_iadd hx hb dX10_does_298 ?_
              refine lv_aload_n hx hb dX10_does_299 rfl (lv_at hl 1 rfl) ?_
              refine m_getr C I mRef_29 kM_27 300 dX10_does_300 ?_
              refine lv_iload_n hx hb dX10_does_303 rfl (lv_at hl 2 rfl) ?_
              refine m_iald C I mArr_29 304 dX10_does_304 hpf (fun hpf => ?_)
              refine m_iast C I mArr_51 305 dX10_does_305 hpf (fun S5 H locs I hpf => ?_)
              refine lv_goto (tgt := 365) hx hb dX10_does_306 (by decide) ?_
              exact m_retv C I hr hz 365 dX10_does_365 hpf
            refine lv_aload_n hx hb dX10_does_257 rfl (lv_at hl 1 rfl) ?_
            refine m_getr C I mRef_43 kM_40 258 dX10_does_258 ?_
            refine lv_iload_n hx hb dX10_does_261 rfl (lv_at hl 0 rfl) ?_
            refine lv_aload_n hx hb dX10_does_262 rfl (lv_at hl 1 rfl) ?_
            refine m_getr C I mRef_28 kM_26 263 dX10_does_263 ?_
            refine lv_iload_n hx hb dX10_does_266 rfl (lv_at hl 2 rfl) ?_
            refine m_iald C I mArr_28 267 dX10_does_267 hpf (fun hpf => ?_)
            refine m_iast C I mArr_43 268 dX10_does_268 hpf (fun S6 H locs I hpf => ?_)
            refine lv_goto (tgt := 365) hx hb dX10_does_269 (by decide) ?_
            exact m_retv C I hr hz 365 dX10_does_365 hpf
          refine lv_aload_n hx hb dX10_does_232 rfl (lv_at hl 1 rfl) ?_
          refine m_getr C I mRef_42 kM_39 233 dX10_does_233 ?_
          refine lv_iload_n hx hb dX10_does_236 rfl (lv_at hl 0 rfl) ?_
          refine lv_aload_n hx hb dX10_does_237 rfl (lv_at hl 1 rfl) ?_
          refine m_getr C I mRef_28 kM_26 238 dX10_does_238 ?_
          refine lv_iload_n hx hb dX10_does_241 rfl (lv_at hl 2 rfl) ?_
          refine m_iald C I mArr_28 242 dX10_does_242 hpf (fun hpf => ?_)
          refine m_iast C I mArr_42 243 dX10_does_243 hpf (fun S7 H locs I hpf => ?_)
          refine lv_goto (tgt := 365) hx hb dX10_does_244 (by decide) ?_
          exact m_retv C I hr hz 365 dX10_does_365 hpf
        refine lv_aload_n hx hb dX10_does_184 rfl (lv_at hl 1 rfl) ?_
        refine lv_iload_n hx hb dX10_does_185 rfl (lv_at hl 0 rfl) ?_
        refine lv_aload_n hx hb dX10_does_186 rfl (lv_at hl 1 rfl) ?_
        refine m_getr C I mRef_28 kM_26 187 dX10_does_187 ?_
        refine lv_iload_n hx hb dX10_does_190 rfl (lv_at hl 2 rfl) ?_
        refine m_iald C I mArr_28 191 dX10_does_191 hpf (fun hpf => ?_)
        refine lv_iconst (v := (1 : Int32)) hx hb dX10_does_192 (by decide) ?_
        refine lv_aload_n hx hb dX10_does_193 rfl (lv_at hl 1 rfl) ?_
        refine m_getr C I mRef_29 kM_27 194 dX10_does_194 ?_
        refine lv_iload_n hx hb dX10_does_197 rfl (lv_at hl 2 rfl) ?_
        refine m_iald C I mArr_29 198 dX10_does_198 hpf (fun hpf => ?_)
        refine m_callV (rest := []) (As := [.int y1, .int (S.2 28 x1.toNatClampNeg), .int (1 : Int32), .int (S.2 29 x1.toNatClampNeg)]) C I fn_drops (c_drops l N y1 (S.2 28 x1.toNatClampNeg) (1 : Int32) (S.2 29 x1.toNatClampNeg)) (by decide) 199 dX10_does_199 rfl hl.1 rfl (Nat.le_of_ble_eq_true rfl) hpf (fun v8 S9 H locs I hpf => ?_)
        refine lv_aload_n hx hb dX10_does_202 rfl (lv_at hl 1 rfl) ?_
        refine lv_iload_n hx hb dX10_does_203 rfl (lv_at hl 0 rfl) ?_
        refine lv_aload_n hx hb dX10_does_204 rfl (lv_at hl 1 rfl) ?_
        refine m_getr C I mRef_28 kM_26 205 dX10_does_205 ?_
        refine lv_iload_n hx hb dX10_does_208 rfl (lv_at hl 2 rfl) ?_
        refine m_iald C I mArr_28 209 dX10_does_209 hpf (fun hpf => ?_)
        refine lv_aload_n hx hb dX10_does_210 rfl (lv_at hl 1 rfl) ?_
        refine m_getr C I mRef_29 kM_27 211 dX10_does_211 ?_
        refine lv_iload_n hx hb dX10_does_214 rfl (lv_at hl 2 rfl) ?_
        refine m_iald C I mArr_29 215 dX10_does_215 hpf (fun hpf => ?_)
        refine m_callV (rest := []) (As := [.int y1, .int (S9.2 28 x1.toNatClampNeg), .int (S9.2 29 x1.toNatClampNeg)]) C I fn_comes (c_comes l N y1 (S9.2 28 x1.toNatClampNeg) (S9.2 29 x1.toNatClampNeg)) (by decide) 216 dX10_does_216 rfl hl.1 rfl (Nat.le_of_ble_eq_true rfl) hpf (fun v10 S11 H locs I hpf => ?_)
        refine lv_goto (tgt := 365) hx hb dX10_does_219 (by decide) ?_
        exact m_retv C I hr hz 365 dX10_does_365 hpf
      refine lv_aload_n hx hb dX10_does_153 rfl (lv_at hl 1 rfl) ?_
      refine lv_iload_n hx hb dX10_does_154 rfl (lv_at hl 0 rfl) ?_
      refine lv_aload_n hx hb dX10_does_155 rfl (lv_at hl 1 rfl) ?_
      refine m_getr C I mRef_28 kM_26 156 dX10_does_156 ?_
      refine lv_iload_n hx hb dX10_does_159 rfl (lv_at hl 2 rfl) ?_
      refine m_iald C I mArr_28 160 dX10_does_160 hpf (fun hpf => ?_)
      refine lv_iconst (v := (0 : Int32)) hx hb dX10_does_161 (by decide) ?_
      refine lv_aload_n hx hb dX10_does_162 rfl (lv_at hl 1 rfl) ?_
      refine m_getr C I mRef_29 kM_27 163 dX10_does_163 ?_
      refine lv_iload_n hx hb dX10_does_166 rfl (lv_at hl 2 rfl) ?_
      refine m_iald C I mArr_29 167 dX10_does_167 hpf (fun hpf => ?_)
      refine m_callV (rest := []) (As := [.int y1, .int (S.2 28 x1.toNatClampNeg), .int (0 : Int32), .int (S.2 29 x1.toNatClampNeg)]) C I fn_drops (c_drops l N y1 (S.2 28 x1.toNatClampNeg) (0 : Int32) (S.2 29 x1.toNatClampNeg)) (by decide) 168 dX10_does_168 rfl hl.1 rfl (Nat.le_of_ble_eq_true rfl) hpf (fun v12 S13 H locs I hpf => ?_)
      refine lv_goto (tgt := 365) hx hb dX10_does_171 (by decide) ?_
      exact m_retv C I hr hz 365 dX10_does_365 hpf
    refine lv_aload_n hx hb dX10_does_123 rfl (lv_at hl 1 rfl) ?_
    refine lv_iload_n hx hb dX10_does_124 rfl (lv_at hl 0 rfl) ?_
    refine lv_aload_n hx hb dX10_does_125 rfl (lv_at hl 1 rfl) ?_
    refine m_getr C I mRef_28 kM_26 126 dX10_does_126 ?_
    refine lv_iload_n hx hb dX10_does_129 rfl (lv_at hl 2 rfl) ?_
    refine m_iald C I mArr_28 130 dX10_does_130 hpf (fun hpf => ?_)
    refine lv_aload_n hx hb dX10_does_131 rfl (lv_at hl 1 rfl) ?_
    refine m_getr C I mRef_29 kM_27 132 dX10_does_132 ?_
    refine lv_iload_n hx hb dX10_does_135 rfl (lv_at hl 2 rfl) ?_
    refine m_iald C I mArr_29 136 dX10_does_136 hpf (fun hpf => ?_)
    refine m_callV (rest := []) (As := [.int y1, .int (S.2 28 x1.toNatClampNeg), .int (S.2 29 x1.toNatClampNeg)]) C I fn_takesValue (c_takesValue l N y1 (S.2 28 x1.toNatClampNeg) (S.2 29 x1.toNatClampNeg)) (by decide) 137 dX10_does_137 rfl hl.1 rfl (Nat.le_of_ble_eq_true rfl) hpf (fun v14 S15 H locs I hpf => ?_)
    refine lv_goto (tgt := 365) hx hb dX10_does_140 (by decide) ?_
    exact m_retv C I hr hz 365 dX10_does_365 hpf
  refine lv_aload_n hx hb dX10_does_16 rfl (lv_at hl 1 rfl) ?_
  refine m_getr C I mRef_38 kM_35 17 dX10_does_17 ?_
  refine lv_iload_n hx hb dX10_does_20 rfl (lv_at hl 0 rfl) ?_
  refine lv_iconst (v := (1 : Int32)) hx hb dX10_does_21 (by decide) ?_
  refine m_zast C I mArr_38 22 dX10_does_22 hpf (fun S16 H locs I hpf => ?_)
  refine lv_aload_n hx hb dX10_does_23 rfl (lv_at hl 1 rfl) ?_
  refine m_getr C I mRef_44 kM_41 24 dX10_does_24 ?_
  refine lv_iload_n hx hb dX10_does_27 rfl (lv_at hl 0 rfl) ?_
  refine lv_iload_n hx hb dX10_does_28 rfl (lv_at hl 3 rfl) ?_
  refine m_iast C I mArr_44 29 dX10_does_29 hpf (fun S17 H locs I hpf => ?_)
  refine lv_aload_n hx hb dX10_does_30 rfl (lv_at hl 1 rfl) ?_
  refine m_getr C I mRef_40 kM_37 31 dX10_does_31 ?_
  refine lv_iload_n hx hb dX10_does_34 rfl (lv_at hl 0 rfl) ?_
  refine lv_aload_n hx hb dX10_does_35 rfl (lv_at hl 1 rfl) ?_
  refine m_getr C I mRef_28 kM_26 36 dX10_does_36 ?_
  refine lv_iload_n hx hb dX10_does_39 rfl (lv_at hl 2 rfl) ?_
  refine m_iald C I mArr_28 40 dX10_does_40 hpf (fun hpf => ?_)
  refine m_iast C I mArr_40 41 dX10_does_41 hpf (fun S18 H locs I hpf => ?_)
  refine lv_aload_n hx hb dX10_does_42 rfl (lv_at hl 1 rfl) ?_
  refine m_getr C I mRef_41 kM_38 43 dX10_does_43 ?_
  refine lv_iload_n hx hb dX10_does_46 rfl (lv_at hl 0 rfl) ?_
  refine lv_aload_n hx hb dX10_does_47 rfl (lv_at hl 1 rfl) ?_
  refine m_getr C I mRef_29 kM_27 48 dX10_does_48 ?_
  refine lv_iload_n hx hb dX10_does_51 rfl (lv_at hl 2 rfl) ?_
  refine m_iald C I mArr_29 52 dX10_does_52 hpf (fun hpf => ?_)
  refine m_iast C I mArr_41 53 dX10_does_53 hpf (fun S19 H locs I hpf => ?_)
  refine lv_aload_n hx hb dX10_does_54 rfl (lv_at hl 1 rfl) ?_
  refine m_getr C I mRef_42 kM_39 55 dX10_does_55 ?_
  refine lv_iload_n hx hb dX10_does_58 rfl (lv_at hl 0 rfl) ?_
  refine lv_aload_n hx hb dX10_does_59 rfl (lv_at hl 1 rfl) ?_
  refine m_getr C I mRef_30 kM_28 60 dX10_does_60 ?_
  refine lv_iload_n hx hb dX10_does_63 rfl (lv_at hl 2 rfl) ?_
  refine m_iald C I mArr_30 64 dX10_does_64 hpf (fun hpf => ?_)
  refine m_iast C I mArr_42 65 dX10_does_65 hpf (fun S20 H locs I hpf => ?_)
  refine lv_aload_n hx hb dX10_does_66 rfl (lv_at hl 1 rfl) ?_
  refine m_getr C I mRef_32 kM_29 67 dX10_does_67 ?_
  refine lv_iload_n hx hb dX10_does_70 rfl (lv_at hl 2 rfl) ?_
  refine m_iald C I mArr_32 71 dX10_does_71 hpf (fun hpf => ?_)
  refine m_isto hx hb (fun y21 => [(4, .int y21), (3, .int y1), (0, .ref h), (1, .int x1), (2, .int x2)]) 72 dX10_does_72 hl (by decide) (fun _ => rfl) hpf (fun y21 ls hl hpf => ?_)
  exact hC_74 N x1 y1 y21 S20 H locs I ls (lv_sub hl [2, 3, 1, 0] rfl) hpf
-- ===== isLive =====
def pf_isLive (N : Nat) (x1 : Int32) (S : mS) : Option (Int32 × mS) :=
    bs (pf_in N x1 (0 : Int32) (47 : Int32)) fun v1 =>
    if v1 = (0 : Int32) then (
      some ((0 : Int32), S))
    else (
      gd x1 48 <|
      if (S.2 38 x1.toNatClampNeg) = (0 : Int32) then (
        some ((0 : Int32), S))
      else (
        gd x1 48 <|
        if (S.2 39 x1.toNatClampNeg) = (0 : Int32) then (
          some ((1 : Int32), S))
        else (
          some ((0 : Int32), S))))
theorem fn_isLive : mFnI yX10_isLive cX10_isLive 2 (some .boolean) 1 222 := ⟨kM_105, kM_106, kM_107, kM_97, rfl, by decide +kernel, by decide⟩
set_option maxRecDepth 100000 in
set_option maxHeartbeats 4000000 in
theorem c_isLive (l : Launch) (N : Nat) (x1 : Int32) : mMet l yX10_isLive cX10_isLive 2 .boolean 1 [.int x1] (pf_isLive N x1) := by
  refine mStart (by decide +kernel) rfl (fun h => [(0, .ref h), (1, .int x1)]) (fun _ => Nat.le_of_ble_eq_true rfl) (fun _ => rfl) ?_
  intro dC dI h cI cZ a sz S r Sf hpf p e s m args below meth c C hr hz H locs I ls hl
  have hx := C.1
  have hb := C.2.1
  unfold pf_isLive at hpf
  refine lv_iload_n hx hb dX10_isLive_0 rfl (lv_at hl 1 rfl) ?_
  refine lv_iconst (v := (0 : Int32)) hx hb dX10_isLive_1 (by decide) ?_
  refine lv_bipush (v := (47 : Int32)) hx hb dX10_isLive_2 (by decide) ?_
  refine m_callS (rest := []) (As := [.int x1, .int (0 : Int32), .int (47 : Int32)]) C I fn_in (c_in l N x1 (0 : Int32) (47 : Int32)) (by decide) 4 dX10_isLive_4 rfl hl.1 rfl (Nat.le_of_ble_eq_true rfl) hpf (fun v1 H locs I hpf => ?_)
  refine b_if_eq hx hb 32 7 dX10_isLive_7 (by decide) hpf (fun hpf => ?_) (fun hpf => ?_)
  · refine lv_iconst (v := (0 : Int32)) hx hb dX10_isLive_32 (by decide) ?_
    exact m_retzc C I hr hz 33 dX10_isLive_33 (by decide) hpf
  refine lv_aload_n hx hb dX10_isLive_10 rfl (lv_at hl 0 rfl) ?_
  refine m_getr C I mRef_38 kM_35 11 dX10_isLive_11 ?_
  refine lv_iload_n hx hb dX10_isLive_14 rfl (lv_at hl 1 rfl) ?_
  refine m_zald C I mArr_38 15 dX10_isLive_15 hpf (fun hpf => ?_)
  refine b_if_eq hx hb 32 16 dX10_isLive_16 (by decide) hpf (fun hpf => ?_) (fun hpf => ?_)
  · refine lv_iconst (v := (0 : Int32)) hx hb dX10_isLive_32 (by decide) ?_
    exact m_retzc C I hr hz 33 dX10_isLive_33 (by decide) hpf
  refine lv_aload_n hx hb dX10_isLive_19 rfl (lv_at hl 0 rfl) ?_
  refine m_getr C I mRef_39 kM_36 20 dX10_isLive_20 ?_
  refine lv_iload_n hx hb dX10_isLive_23 rfl (lv_at hl 1 rfl) ?_
  refine m_zald C I mArr_39 24 dX10_isLive_24 hpf (fun hpf => ?_)
  refine b_if_ne hx hb 32 25 dX10_isLive_25 (by decide) hpf (fun hpf => ?_) (fun hpf => ?_)
  · refine lv_iconst (v := (0 : Int32)) hx hb dX10_isLive_32 (by decide) ?_
    exact m_retzc C I hr hz 33 dX10_isLive_33 (by decide) hpf
  refine lv_iconst (v := (1 : Int32)) hx hb dX10_isLive_28 (by decide) ?_
  refine lv_goto (tgt := 33) hx hb dX10_isLive_29 (by decide) ?_
  exact m_retzc C I hr hz 33 dX10_isLive_33 (by decide) hpf
