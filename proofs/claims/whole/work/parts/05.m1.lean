-- ===== in =====
def pf_in (N : Nat) (x0 : Int32) (x1 : Int32) (x2 : Int32) : Option Int32 :=
    if x0 < x1 then (
      some (0 : Int32))
    else (
      if x2 < x0 then (
        some (0 : Int32))
      else (
        some (1 : Int32)))
theorem fn_in : mFnS yX10_in cX10_in 3 (some .boolean) 3 180 := ⟨kM_66, kM_67, kM_64, rfl, by decide +kernel, by decide⟩
set_option maxRecDepth 100000 in
set_option maxHeartbeats 4000000 in
theorem c_in (l : Launch) (N : Nat) (x0 : Int32) (x1 : Int32) (x2 : Int32) : mMetS l yX10_in cX10_in 3 .boolean 0 [.int x0, .int x1, .int x2] (pf_in N x0 x1 x2) := by
  refine mStartS (by decide +kernel) rfl [(0, .int x0), (1, .int x1), (2, .int x2)] (Nat.le_of_ble_eq_true rfl) rfl ?_
  intro r hpf p e s m args below meth c C hr H locs hS ls hl
  have hx := C.1
  have hb := C.2.1
  unfold pf_in at hpf
  refine lv_iload_n hx hb dX10_in_0 rfl (lv_at hl 0 rfl) ?_
  refine lv_iload_n hx hb dX10_in_1 rfl (lv_at hl 1 rfl) ?_
  refine b_icmp_lt hx hb 14 2 dX10_in_2 (by decide) hpf (fun hpf => ?_) (fun hpf => ?_)
  · refine lv_iconst (v := (0 : Int32)) hx hb dX10_in_14 (by decide) ?_
    exact ms_ret C hS hr 15 dX10_in_15 (by decide) hpf
  refine lv_iload_n hx hb dX10_in_5 rfl (lv_at hl 0 rfl) ?_
  refine lv_iload_n hx hb dX10_in_6 rfl (lv_at hl 2 rfl) ?_
  refine b_icmp_gt hx hb 14 7 dX10_in_7 (by decide) hpf (fun hpf => ?_) (fun hpf => ?_)
  · refine lv_iconst (v := (0 : Int32)) hx hb dX10_in_14 (by decide) ?_
    exact ms_ret C hS hr 15 dX10_in_15 (by decide) hpf
  refine lv_iconst (v := (1 : Int32)) hx hb dX10_in_10 (by decide) ?_
  refine lv_goto (tgt := 15) hx hb dX10_in_11 (by decide) ?_
  exact ms_ret C hS hr 15 dX10_in_15 (by decide) hpf
-- ===== isMaster =====
def pf_isMaster (N : Nat) (x0 : Int32) : Option Int32 :=
    bs (pf_in N x0 (0 : Int32) (3 : Int32)) fun v1 =>
    zs v1
theorem fn_isMaster : mFnS yX10_isMaster cX10_isMaster 1 (some .boolean) 1 226 := ⟨kM_109, kM_110, kM_65, rfl, by decide +kernel, by decide⟩
set_option maxRecDepth 100000 in
set_option maxHeartbeats 4000000 in
theorem c_isMaster (l : Launch) (N : Nat) (x0 : Int32) : mMetS l yX10_isMaster cX10_isMaster 1 .boolean 1 [.int x0] (pf_isMaster N x0) := by
  refine mStartS (by decide +kernel) rfl [(0, .int x0)] (Nat.le_of_ble_eq_true rfl) rfl ?_
  intro r hpf p e s m args below meth c C hr H locs hS ls hl
  have hx := C.1
  have hb := C.2.1
  unfold pf_isMaster at hpf
  refine lv_iload_n hx hb dX10_isMaster_0 rfl (lv_at hl 0 rfl) ?_
  refine lv_iconst (v := (0 : Int32)) hx hb dX10_isMaster_1 (by decide) ?_
  refine lv_iconst (v := (3 : Int32)) hx hb dX10_isMaster_2 (by decide) ?_
  refine ms_call (rest := []) (As := [.int x0, .int (0 : Int32), .int (3 : Int32)]) C hS fn_in (c_in l N x0 (0 : Int32) (3 : Int32)) (by decide) 3 dX10_isMaster_3 rfl hl.1 rfl (Nat.le_of_ble_eq_true rfl) hpf (fun v1 H locs hS hpf => ?_)
  exact ms_retz C hS hr 6 dX10_isMaster_6 hpf
-- ===== isValue =====
def pf_isValue (N : Nat) (x0 : Int32) : Option Int32 :=
    bs (pf_in N x0 (0 : Int32) (999 : Int32)) fun v1 =>
    zs v1
theorem fn_isValue : mFnS yX10_isValue cX10_isValue 1 (some .boolean) 1 253 := ⟨kM_149, kM_150, kM_73, rfl, by decide +kernel, by decide⟩
set_option maxRecDepth 100000 in
set_option maxHeartbeats 4000000 in
theorem c_isValue (l : Launch) (N : Nat) (x0 : Int32) : mMetS l yX10_isValue cX10_isValue 1 .boolean 1 [.int x0] (pf_isValue N x0) := by
  refine mStartS (by decide +kernel) rfl [(0, .int x0)] (Nat.le_of_ble_eq_true rfl) rfl ?_
  intro r hpf p e s m args below meth c C hr H locs hS ls hl
  have hx := C.1
  have hb := C.2.1
  unfold pf_isValue at hpf
  refine lv_iload_n hx hb dX10_isValue_0 rfl (lv_at hl 0 rfl) ?_
  refine lv_iconst (v := (0 : Int32)) hx hb dX10_isValue_1 (by decide) ?_
  refine lv_sipush (v := (999 : Int32)) hx hb dX10_isValue_2 (by decide) ?_
  refine ms_call (rest := []) (As := [.int x0, .int (0 : Int32), .int (999 : Int32)]) C hS fn_in (c_in l N x0 (0 : Int32) (999 : Int32)) (by decide) 5 dX10_isValue_5 rfl hl.1 rfl (Nat.le_of_ble_eq_true rfl) hpf (fun v1 H locs hS hpf => ?_)
  exact ms_retz C hS hr 8 dX10_isValue_8 hpf
-- ===== thrown =====
def pf_thrown (N : Nat) (S : mS) : Option (Int32 × mS) :=
    some (S.1 0, S)

set_option maxRecDepth 100000 in
set_option maxHeartbeats 4000000 in
theorem c_thrown (l : Launch) (N : Nat)  : mMet l yX10_thrown cX10_thrown 1 .int 0 [] (pf_thrown N ) := by
  refine mStart (by decide +kernel) rfl (fun h => [(0, .ref h)]) (fun _ => Nat.le_of_ble_eq_true rfl) (fun _ => rfl) ?_
  intro dC dI h cI cZ a sz S r Sf hpf p e s m args below meth c C hr hz H locs I ls hl
  have hx := C.1
  have hb := C.2.1
  unfold pf_thrown at hpf
  refine lv_aload_n hx hb dX10_thrown_0 rfl (lv_at hl 0 rfl) ?_
  refine m_geti C I mInt_0 kM_62 1 dX10_thrown_1 ?_
  exact m_reti C I hr hz 4 dX10_thrown_4 hpf
-- ===== fails =====
def pf_fails (N : Nat) (x1 : Int32) (S : mS) : Option (Int32 × mS) :=
    sv (mI S 0 x1) fun S1 =>
    some ((0 : Int32), S1)
theorem fn_fails : mFnI yX10_fails cX10_fails 2 (some .int) 1 246 := ⟨kM_139, kM_140, kM_141, kM_63, rfl, by decide +kernel, by decide⟩
set_option maxRecDepth 100000 in
set_option maxHeartbeats 4000000 in
theorem c_fails (l : Launch) (N : Nat) (x1 : Int32) : mMet l yX10_fails cX10_fails 2 .int 0 [.int x1] (pf_fails N x1) := by
  refine mStart (by decide +kernel) rfl (fun h => [(0, .ref h), (1, .int x1)]) (fun _ => Nat.le_of_ble_eq_true rfl) (fun _ => rfl) ?_
  intro dC dI h cI cZ a sz S r Sf hpf p e s m args below meth c C hr hz H locs I ls hl
  have hx := C.1
  have hb := C.2.1
  unfold pf_fails at hpf
  refine lv_aload_n hx hb dX10_fails_0 rfl (lv_at hl 0 rfl) ?_
  refine lv_iload_n hx hb dX10_fails_1 rfl (lv_at hl 1 rfl) ?_
  refine m_puti C I mInt_0 kM_62 2 dX10_fails_2 hpf (fun S1 H locs I hpf => ?_)
  refine lv_iconst (v := (0 : Int32)) hx hb dX10_fails_5 (by decide) ?_
  exact m_reti C I hr hz 6 dX10_fails_6 hpf
-- ===== isAttribute =====
def pf_isAttribute (N : Nat) (x1 : Int32) (S : mS) : Option (Int32 × mS) :=
    bs (pf_in N x1 (0 : Int32) ((S.1 1) - (1 : Int32))) fun v1 =>
    zr v1 S
theorem fn_isAttribute : mFnI yX10_isAttribute cX10_isAttribute 2 (some .boolean) 1 250 := ⟨kM_146, kM_147, kM_148, kM_69, rfl, by decide +kernel, by decide⟩
set_option maxRecDepth 100000 in
set_option maxHeartbeats 4000000 in
theorem c_isAttribute (l : Launch) (N : Nat) (x1 : Int32) : mMet l yX10_isAttribute cX10_isAttribute 2 .boolean 1 [.int x1] (pf_isAttribute N x1) := by
  refine mStart (by decide +kernel) rfl (fun h => [(0, .ref h), (1, .int x1)]) (fun _ => Nat.le_of_ble_eq_true rfl) (fun _ => rfl) ?_
  intro dC dI h cI cZ a sz S r Sf hpf p e s m args below meth c C hr hz H locs I ls hl
  have hx := C.1
  have hb := C.2.1
  unfold pf_isAttribute at hpf
  refine lv_iload_n hx hb dX10_isAttribute_0 rfl (lv_at hl 1 rfl) ?_
  refine lv_iconst (v := (0 : Int32)) hx hb dX10_isAttribute_1 (by decide) ?_
  refine lv_aload_n hx hb dX10_isAttribute_2 rfl (lv_at hl 0 rfl) ?_
  refine m_geti C I mInt_1 kM_70 3 dX10_isAttribute_3 ?_
  refine lv_iconst (v := (1 : Int32)) hx hb dX10_isAttribute_6 (by decide) ?_
  refine lv_isub hx hb dX10_isAttribute_7 ?_
  refine m_callS (rest := []) (As := [.int x1, .int (0 : Int32), .int ((S.1 1) - (1 : Int32))]) C I fn_in (c_in l N x1 (0 : Int32) ((S.1 1) - (1 : Int32))) (by decide) 8 dX10_isAttribute_8 rfl hl.1 rfl (Nat.le_of_ble_eq_true rfl) hpf (fun v1 H locs I hpf => ?_)
  exact m_retz C I hr hz 11 dX10_isAttribute_11 hpf
-- ===== isKnown =====
def pf_isKnown (N : Nat) (x1 : Int32) (x2 : Int32) (S : mS) : Option (Int32 × mS) :=
    gd x2 250 <|
    gd x2 250 <|
    gd (((20 : Int32) * x1) + (S.2 24 x2.toNatClampNeg)) 64 <|
    if (S.2 19 (((20 : Int32) * x1) + (S.2 24 x2.toNatClampNeg)).toNatClampNeg) ≤ (S.2 25 x2.toNatClampNeg) then (
      some ((0 : Int32), S))
    else (
      some ((1 : Int32), S))
theorem fn_isKnown : mFnI yX10_isKnown cX10_isKnown 3 (some .boolean) 2 215 := ⟨kM_99, kM_100, kM_101, kM_75, rfl, by decide +kernel, by decide⟩
set_option maxRecDepth 100000 in
set_option maxHeartbeats 4000000 in
theorem c_isKnown (l : Launch) (N : Nat) (x1 : Int32) (x2 : Int32) : mMet l yX10_isKnown cX10_isKnown 3 .boolean 0 [.int x1, .int x2] (pf_isKnown N x1 x2) := by
  refine mStart (by decide +kernel) rfl (fun h => [(0, .ref h), (1, .int x1), (2, .int x2)]) (fun _ => Nat.le_of_ble_eq_true rfl) (fun _ => rfl) ?_
  intro dC dI h cI cZ a sz S r Sf hpf p e s m args below meth c C hr hz H locs I ls hl
  have hx := C.1
  have hb := C.2.1
  unfold pf_isKnown at hpf
  refine lv_aload_n hx hb dX10_isKnown_0 rfl (lv_at hl 0 rfl) ?_
  refine m_getr C I mRef_25 kM_23 1 dX10_isKnown_1 ?_
  refine lv_iload_n hx hb dX10_isKnown_4 rfl (lv_at hl 2 rfl) ?_
  refine m_iald C I mArr_25 5 dX10_isKnown_5 hpf (fun hpf => ?_)
  refine lv_aload_n hx hb dX10_isKnown_6 rfl (lv_at hl 0 rfl) ?_
  refine m_getr C I mRef_19 kM_18 7 dX10_isKnown_7 ?_
  refine lv_bipush (v := (20 : Int32)) hx hb dX10_isKnown_10 (by decide) ?_
  refine lv_iload_n hx hb dX10_isKnown_12 rfl (lv_at hl 1 rfl) ?_
  refine lv_imul hx hb dX10_isKnown_13 ?_
  refine lv_aload_n hx hb dX10_isKnown_14 rfl (lv_at hl 0 rfl) ?_
  refine m_getr C I mRef_24 kM_22 15 dX10_isKnown_15 ?_
  refine lv_iload_n hx hb dX10_isKnown_18 rfl (lv_at hl 2 rfl) ?_
  refine m_iald C I mArr_24 19 dX10_isKnown_19 hpf (fun hpf => ?_)
  refine lv_iadd hx hb dX10_isKnown_20 ?_
  refine m_iald C I mArr_19 21 dX10_isKnown_21 hpf (fun hpf => ?_)
  refine b_icmp_ge hx hb 29 22 dX10_isKnown_22 (by decide) hpf (fun hpf => ?_) (fun hpf => ?_)
  · refine lv_iconst (v := (0 : Int32)) hx hb dX10_isKnown_29 (by decide) ?_
    exact m_retzc C I hr hz 30 dX10_isKnown_30 (by decide) hpf
  refine lv_iconst (v := (1 : Int32)) hx hb dX10_isKnown_25 (by decide) ?_
  refine lv_goto (tgt := 30) hx hb dX10_isKnown_26 (by decide) ?_
  exact m_retzc C I hr hz 30 dX10_isKnown_30 (by decide) hpf
-- ===== key =====
def pf_key (N : Nat) (x1 : Int32) (x2 : Int32) (S : mS) : Option (Int32 × mS) :=
    gd x1 10 <|
    if (S.2 3 x1.toNatClampNeg) = (0 : Int32) then (
      some (x2, S))
    else (
      some (x2 / (10 : Int32), S))
theorem fn_key : mFnI yX10_key cX10_key 3 (some .int) 2 193 := ⟨kM_78, kM_79, kM_80, kM_74, rfl, by decide +kernel, by decide⟩
set_option maxRecDepth 100000 in
set_option maxHeartbeats 4000000 in
theorem c_key (l : Launch) (N : Nat) (x1 : Int32) (x2 : Int32) : mMet l yX10_key cX10_key 3 .int 0 [.int x1, .int x2] (pf_key N x1 x2) := by
  refine mStart (by decide +kernel) rfl (fun h => [(0, .ref h), (1, .int x1), (2, .int x2)]) (fun _ => Nat.le_of_ble_eq_true rfl) (fun _ => rfl) ?_
  intro dC dI h cI cZ a sz S r Sf hpf p e s m args below meth c C hr hz H locs I ls hl
  have hx := C.1
  have hb := C.2.1
  unfold pf_key at hpf
  refine lv_aload_n hx hb dX10_key_0 rfl (lv_at hl 0 rfl) ?_
  refine m_getr C I mRef_3 kM_5 1 dX10_key_1 ?_
  refine lv_iload_n hx hb dX10_key_4 rfl (lv_at hl 1 rfl) ?_
  refine m_zald C I mArr_3 5 dX10_key_5 hpf (fun hpf => ?_)
  refine b_if_eq hx hb 16 6 dX10_key_6 (by decide) hpf (fun hpf => ?_) (fun hpf => ?_)
  · refine lv_iload_n hx hb dX10_key_16 rfl (lv_at hl 2 rfl) ?_
    exact m_reti C I hr hz 17 dX10_key_17 hpf
  refine lv_iload_n hx hb dX10_key_9 rfl (lv_at hl 2 rfl) ?_
  refine lv_bipush (v := (10 : Int32)) hx hb dX10_key_10 (by decide) ?_
  refine lv_idiv hx hb dX10_key_12 (by decide) ?_
  refine lv_goto (tgt := 17) hx hb dX10_key_13 (by decide) ?_
  exact m_reti C I hr hz 17 dX10_key_17 hpf
-- ===== isUp =====
def pf_isUp_22 (N : Nat) (x1 : Int32) (x3 : Int32) (S : mS) : Option (Int32 × mS) :=
    if x3 = x1 then (
      some ((1 : Int32), S))
    else (
      some ((0 : Int32), S))
def pf_isUp_2 (N : Nat) (k_22 : Int32 → Int32 → mS → Option (Int32 × mS)) : Nat → Int32 → Int32 → mS → Option (Int32 × mS)
  | 0 => fun _ _ _ => none
  | n + 1 => fun x1 x3 S =>
    if x3 = (-1 : Int32) then (
      k_22 x1 x3 S)
    else (
      if x3 = x1 then (
        k_22 x1 x3 S)
      else (
        gd x3 48 <|
        nm (S.2 41 x3.toNatClampNeg) fun y1 =>
        pf_isUp_2 N k_22 n x1 y1 S))
def pf_isUp (N : Nat) (x1 : Int32) (x2 : Int32) (S : mS) : Option (Int32 × mS) :=
    pf_isUp_2 N (pf_isUp_22 N) N x1 x2 S
theorem fn_isUp : mFnI yX10_isUp cX10_isUp 4 (some .boolean) 2 208 := ⟨kM_93, kM_94, kM_95, kM_89, rfl, by decide +kernel, by decide⟩
set_option maxRecDepth 100000 in
set_option maxHeartbeats 4000000 in
theorem c_isUp (l : Launch) (N : Nat) (x1 : Int32) (x2 : Int32) : mMet l yX10_isUp cX10_isUp 4 .boolean 0 [.int x1, .int x2] (pf_isUp N x1 x2) := by
  refine mStart (by decide +kernel) rfl (fun h => [(0, .ref h), (1, .int x1), (2, .int x2)]) (fun _ => Nat.le_of_ble_eq_true rfl) (fun _ => rfl) ?_
  intro dC dI h cI cZ a sz S r Sf hpf p e s m args below meth c C hr hz H locs I ls hl
  have hx := C.1
  have hb := C.2.1
  unfold pf_isUp at hpf
  have hC_22 : ∀ (x1 : Int32) (x3 : Int32) (S : mS) (H : Heap) (locs : List Loc), mV dC dI h cI cZ a s S H locs → ∀ ls : Array Slot, lv_has ls 4 [(0, .ref h), (1, .int x1), (3, .int x3)] → pf_isUp_22 N x1 x3 S = some (r, Sf) → W p l e (mRm 0) s m args below meth c H locs 0 0 (MQ below (mQ dC dI h cI cZ a sz r Sf) args s 0 0 (mAt h cI cZ a sz)) (F0 m 22 ls []) := by
    intro x1 x3 S H locs I ls hl hpf
    unfold pf_isUp_22 at hpf
    refine lv_iload_n hx hb dX10_isUp_22 rfl (lv_at hl 2 rfl) ?_
    refine lv_iload_n hx hb dX10_isUp_23 rfl (lv_at hl 1 rfl) ?_
    refine b_icmp_ne hx hb 31 24 dX10_isUp_24 (by decide) hpf (fun hpf => ?_) (fun hpf => ?_)
    · refine lv_iconst (v := (0 : Int32)) hx hb dX10_isUp_31 (by decide) ?_
      exact m_retzc C I hr hz 32 dX10_isUp_32 (by decide) hpf
    refine lv_iconst (v := (1 : Int32)) hx hb dX10_isUp_27 (by decide) ?_
    refine lv_goto (tgt := 32) hx hb dX10_isUp_28 (by decide) ?_
    exact m_retzc C I hr hz 32 dX10_isUp_32 (by decide) hpf
  have hC_2 : ∀ (n : Nat), ∀ (x1 : Int32) (x3 : Int32) (S : mS) (H : Heap) (locs : List Loc), mV dC dI h cI cZ a s S H locs → ∀ ls : Array Slot, lv_has ls 4 [(0, .ref h), (1, .int x1), (3, .int x3)] → pf_isUp_2 N (pf_isUp_22 N) n x1 x3 S = some (r, Sf) → W p l e (mRm 0) s m args below meth c H locs 0 0 (MQ below (mQ dC dI h cI cZ a sz r Sf) args s 0 0 (mAt h cI cZ a sz)) (F0 m 2 ls []) := by
    intro n
    induction n with
    | zero =>
      intro x1 x3 S H locs I ls hl hpf
      rw [pf_isUp_2] at hpf
      cases hpf
    | succ n ih_2 =>
      intro x1 x3 S H locs I ls hl hpf
      rw [pf_isUp_2] at hpf
      refine lv_iload_n hx hb dX10_isUp_2 rfl (lv_at hl 2 rfl) ?_
      refine lv_iconst (v := (-1 : Int32)) hx hb dX10_isUp_3 (by decide) ?_
      refine b_icmp_eq hx hb 22 4 dX10_isUp_4 (by decide) hpf (fun hpf => ?_) (fun hpf => ?_)
      · exact hC_22 x1 x3 S H locs I ls (lv_sub hl [0, 1, 2] rfl) hpf
      refine lv_iload_n hx hb dX10_isUp_7 rfl (lv_at hl 2 rfl) ?_
      refine lv_iload_n hx hb dX10_isUp_8 rfl (lv_at hl 1 rfl) ?_
      refine b_icmp_eq hx hb 22 9 dX10_isUp_9 (by decide) hpf (fun hpf => ?_) (fun hpf => ?_)
      · exact hC_22 x1 x3 S H locs I ls (lv_sub hl [0, 1, 2] rfl) hpf
      refine lv_aload_n hx hb dX10_isUp_12 rfl (lv_at hl 0 rfl) ?_
      refine m_getr C I mRef_41 kM_38 13 dX10_isUp_13 ?_
      refine lv_iload_n hx hb dX10_isUp_16 rfl (lv_at hl 2 rfl) ?_
      refine m_iald C I mArr_41 17 dX10_isUp_17 hpf (fun hpf => ?_)
      refine m_isto_n hx hb (fun y1 => [(3, .int y1), (0, .ref h), (1, .int x1)]) 18 dX10_isUp_18 rfl hl (by decide) (fun _ => rfl) hpf (fun y1 ls hl hpf => ?_)
      refine lv_goto (tgt := 2) hx hb dX10_isUp_19 (by decide) ?_
      exact ih_2 x1 y1 S H locs I ls (lv_sub hl [1, 2, 0] rfl) hpf
  refine lv_iload_n hx hb dX10_isUp_0 rfl (lv_at hl 2 rfl) ?_
  refine lv_istore_n (lv' := [(3, .int x2), (0, .ref h), (1, .int x1), (2, .int x2)]) hx hb dX10_isUp_1 rfl hl (by decide) rfl (fun ls hl => ?_)
  exact hC_2 N x1 x2 S H locs I ls (lv_sub hl [1, 2, 0] rfl) hpf
-- ===== drops =====
def pf_drops_133 (N : Nat) (x5 : Int32) (S : mS) : Option (Int32 × mS) :=
    sv (mI S 47 x5) fun S1 =>
    some ((0 : Int32), S1)
def pf_drops_124 (N : Nat) (k_6 : Int32 → Int32 → Int32 → Int32 → Int32 → Int32 → mS → Option (Int32 × mS)) (t0 : Int32) (t1 : Int32) (x1 : Int32) (x2 : Int32) (x3 : Int32) (x4 : Int32) (x6 : Int32) (S : mS) : Option (Int32 × mS) :=
    nm (t1 + t0) fun y1 =>
    nm (x6 + (1 : Int32)) fun y2 =>
    k_6 x1 x2 x3 x4 y1 y2 S
def pf_drops_68 (N : Nat) (k_6 : Int32 → Int32 → Int32 → Int32 → Int32 → Int32 → mS → Option (Int32 × mS)) (t0 : Int32) (x1 : Int32) (x2 : Int32) (x3 : Int32) (x4 : Int32) (x5 : Int32) (x6 : Int32) (S : mS) : Option (Int32 × mS) :=
    gd x6 900 <|
    gd x5 900 <| sv (mA S 48 x5.toNatClampNeg (S.2 48 x6.toNatClampNeg)) fun S1 =>
    gd x6 900 <|
    gd x5 900 <| sv (mA S1 49 x5.toNatClampNeg (S1.2 49 x6.toNatClampNeg)) fun S2 =>
    gd x6 900 <|
    gd x5 900 <| sv (mA S2 50 x5.toNatClampNeg (S2.2 50 x6.toNatClampNeg)) fun S3 =>
    if t0 = (0 : Int32) then (
      pf_drops_124 N k_6 (1 : Int32) x5 x1 x2 x3 x4 x6 S3)
    else (
      pf_drops_124 N k_6 (0 : Int32) x5 x1 x2 x3 x4 x6 S3)
def pf_drops_63 (N : Nat) (k_6 : Int32 → Int32 → Int32 → Int32 → Int32 → Int32 → mS → Option (Int32 × mS)) (x1 : Int32) (x2 : Int32) (x3 : Int32) (x4 : Int32) (x5 : Int32) (x6 : Int32) (S : mS) : Option (Int32 × mS) :=
    pf_drops_68 N k_6 (1 : Int32) x1 x2 x3 x4 x5 x6 S
def pf_drops_67 (N : Nat) (k_6 : Int32 → Int32 → Int32 → Int32 → Int32 → Int32 → mS → Option (Int32 × mS)) (x1 : Int32) (x2 : Int32) (x3 : Int32) (x4 : Int32) (x5 : Int32) (x6 : Int32) (S : mS) : Option (Int32 × mS) :=
    pf_drops_68 N k_6 (0 : Int32) x1 x2 x3 x4 x5 x6 S
def pf_drops_6 (N : Nat) (k_133 : Int32 → mS → Option (Int32 × mS)) : Nat → Int32 → Int32 → Int32 → Int32 → Int32 → Int32 → mS → Option (Int32 × mS)
  | 0 => fun _ _ _ _ _ _ _ => none
  | n + 1 => fun x1 x2 x3 x4 x5 x6 S =>
    if (S.1 47) ≤ x6 then (
      k_133 x5 S)
    else (
      gd x6 900 <|
      if (S.2 48 x6.toNatClampNeg) = x1 then (
        gd x6 900 <|
        if (S.2 49 x6.toNatClampNeg) = x2 then (
          if x3 = (0 : Int32) then (
            gd x6 900 <|
            bd (pf_key N x2 (S.2 50 x6.toNatClampNeg) S) fun v1 S2 =>
            bd (pf_key N x2 x4 S2) fun v3 S4 =>
            if v1 = v3 then (
              pf_drops_63 N (pf_drops_6 N k_133 n) x1 x2 x3 x4 x5 x6 S4)
            else (
              pf_drops_67 N (pf_drops_6 N k_133 n) x1 x2 x3 x4 x5 x6 S4))
          else (
            pf_drops_63 N (pf_drops_6 N k_133 n) x1 x2 x3 x4 x5 x6 S))
        else (
          pf_drops_67 N (pf_drops_6 N k_133 n) x1 x2 x3 x4 x5 x6 S))
      else (
        pf_drops_67 N (pf_drops_6 N k_133 n) x1 x2 x3 x4 x5 x6 S))
def pf_drops (N : Nat) (x1 : Int32) (x2 : Int32) (x3 : Int32) (x4 : Int32) (S : mS) : Option (Int32 × mS) :=
    pf_drops_6 N (pf_drops_133 N) N x1 x2 x3 x4 (0 : Int32) (0 : Int32) S
theorem fn_drops : mFnI yX10_drops cX10_drops 8 none 4 197 := ⟨kM_83, kM_84, kM_85, kM_76, rfl, by decide +kernel, by decide⟩
set_option maxRecDepth 100000 in
set_option maxHeartbeats 4000000 in
theorem c_drops (l : Launch) (N : Nat) (x1 : Int32) (x2 : Int32) (x3 : Int32) (x4 : Int32) : mMetV l yX10_drops cX10_drops 8 1 [.int x1, .int x2, .int x3, .int x4] (pf_drops N x1 x2 x3 x4) := by
  refine mStartV (by decide +kernel) rfl (fun h => [(0, .ref h), (1, .int x1), (2, .int x2), (3, .int x3), (4, .int x4)]) (fun _ => Nat.le_of_ble_eq_true rfl) (fun _ => rfl) ?_
  intro dC dI h cI cZ a sz S r Sf hpf p e s m args below meth c C hr hz H locs I ls hl
  have hx := C.1
  have hb := C.2.1
  unfold pf_drops at hpf
  have hC_133 : ∀ (x5 : Int32) (S : mS) (H : Heap) (locs : List Loc), mV dC dI h cI cZ a s S H locs → ∀ ls : Array Slot, lv_has ls 8 [(0, .ref h), (5, .int x5)] → pf_drops_133 N x5 S = some (r, Sf) → W p l e (mRm 1) s m args below meth c H locs 0 0 (MQ below (mQv dC dI h cI cZ a sz Sf) args s 0 0 (mAt h cI cZ a sz)) (F0 m 133 ls []) := by
    intro x5 S H locs I ls hl hpf
    unfold pf_drops_133 at hpf
    refine lv_aload_n hx hb dX10_drops_133 rfl (lv_at hl 0 rfl) ?_
    refine lv_iload hx hb dX10_drops_134 (lv_at hl 1 rfl) ?_
    refine m_puti C I mInt_47 kM_77 136 dX10_drops_136 hpf (fun S1 H locs I hpf => ?_)
    exact m_retv C I hr hz 139 dX10_drops_139 hpf
  have hC_6 : ∀ (n : Nat), ∀ (x1 : Int32) (x2 : Int32) (x3 : Int32) (x4 : Int32) (x5 : Int32) (x6 : Int32) (S : mS) (H : Heap) (locs : List Loc), mV dC dI h cI cZ a s S H locs → ∀ ls : Array Slot, lv_has ls 8 [(0, .ref h), (1, .int x1), (2, .int x2), (3, .int x3), (4, .int x4), (5, .int x5), (6, .int x6)] → pf_drops_6 N (pf_drops_133 N) n x1 x2 x3 x4 x5 x6 S = some (r, Sf) → W p l e (mRm 1) s m args below meth c H locs 0 0 (MQ below (mQv dC dI h cI cZ a sz Sf) args s 0 0 (mAt h cI cZ a sz)) (F0 m 6 ls []) := by
    intro n
    induction n with
    | zero =>
      intro x1 x2 x3 x4 x5 x6 S H locs I ls hl hpf
      rw [pf_drops_6] at hpf
      cases hpf
    | succ n ih_6 =>
      have hC_124 : ∀ (t0 : Int32) (t1 : Int32) (x1 : Int32) (x2 : Int32) (x3 : Int32) (x4 : Int32) (x6 : Int32) (S : mS) (H : Heap) (locs : List Loc), mV dC dI h cI cZ a s S H locs → ∀ ls : Array Slot, lv_has ls 8 [(0, .ref h), (1, .int x1), (2, .int x2), (3, .int x3), (4, .int x4), (6, .int x6)] → pf_drops_124 N (pf_drops_6 N (pf_drops_133 N) n) t0 t1 x1 x2 x3 x4 x6 S = some (r, Sf) → W p l e (mRm 1) s m args below meth c H locs 0 0 (MQ below (mQv dC dI h cI cZ a sz Sf) args s 0 0 (mAt h cI cZ a sz)) (F0 m 124 ls [.int t0, .int t1]) := by
        intro t0 t1 x1 x2 x3 x4 x6 S H locs I ls hl hpf
        unfold pf_drops_124 at hpf
        refine lv_iadd hx hb dX10_drops_124 ?_
        refine m_isto hx hb (fun y1 => [(5, .int y1), (0, .ref h), (1, .int x1), (2, .int x2), (3, .int x3), (4, .int x4), (6, .int x6)]) 125 dX10_drops_125 hl (by decide) (fun _ => rfl) hpf (fun y1 ls hl hpf => ?_)
        refine m_iinc (w := (1 : Int32)) hx hb (fun y2 => [(6, .int y2), (5, .int y1), (0, .ref h), (1, .int x1), (2, .int x2), (3, .int x3), (4, .int x4)]) 127 dX10_drops_127 hl (k := 6) rfl (by decide) (by decide) (fun _ => rfl) hpf (fun y2 ls hl hpf => ?_)
        refine lv_goto (tgt := 6) hx hb dX10_drops_130 (by decide) ?_
        exact ih_6 x1 x2 x3 x4 y1 y2 S H locs I ls (lv_sub hl [2, 3, 4, 5, 6, 1, 0] rfl) hpf
      have hC_68 : ∀ (t0 : Int32) (x1 : Int32) (x2 : Int32) (x3 : Int32) (x4 : Int32) (x5 : Int32) (x6 : Int32) (S : mS) (H : Heap) (locs : List Loc), mV dC dI h cI cZ a s S H locs → ∀ ls : Array Slot, lv_has ls 8 [(0, .ref h), (1, .int x1), (2, .int x2), (3, .int x3), (4, .int x4), (5, .int x5), (6, .int x6)] → pf_drops_68 N (pf_drops_6 N (pf_drops_133 N) n) t0 x1 x2 x3 x4 x5 x6 S = some (r, Sf) → W p l e (mRm 1) s m args below meth c H locs 0 0 (MQ below (mQv dC dI h cI cZ a sz Sf) args s 0 0 (mAt h cI cZ a sz)) (F0 m 68 ls [.int t0]) := by
        intro t0 x1 x2 x3 x4 x5 x6 S H locs I ls hl hpf
        unfold pf_drops_68 at hpf
        refine lv_istore (lv' := [(7, .int t0), (0, .ref h), (1, .int x1), (2, .int x2), (3, .int x3), (4, .int x4), (5, .int x5), (6, .int x6)]) hx hb dX10_drops_68 hl (by decide) rfl (fun ls hl => ?_)
        refine lv_aload_n hx hb dX10_drops_70 rfl (lv_at hl 1 rfl) ?_
        refine m_getr C I mRef_48 kM_44 71 dX10_drops_71 ?_
        refine lv_iload hx hb dX10_drops_74 (lv_at hl 6 rfl) ?_
        refine lv_aload_n hx hb dX10_drops_76 rfl (lv_at hl 1 rfl) ?_
        refine m_getr C I mRef_48 kM_44 77 dX10_drops_77 ?_
        refine lv_iload hx hb dX10_drops_80 (lv_at hl 7 rfl) ?_
        refine m_iald C I mArr_48 82 dX10_drops_82 hpf (fun hpf => ?_)
        refine m_iast C I mArr_48 83 dX10_drops_83 hpf (fun S1 H locs I hpf => ?_)
        refine lv_aload_n hx hb dX10_drops_84 rfl (lv_at hl 1 rfl) ?_
        refine m_getr C I mRef_49 kM_45 85 dX10_drops_85 ?_
        refine lv_iload hx hb dX10_drops_88 (lv_at hl 6 rfl) ?_
        refine lv_aload_n hx hb dX10_drops_90 rfl (lv_at hl 1 rfl) ?_
        refine m_getr C I mRef_49 kM_45 91 dX10_drops_91 ?_
        refine lv_iload hx hb dX10_drops_94 (lv_at hl 7 rfl) ?_
        refine m_iald C I mArr_49 96 dX10_drops_96 hpf (fun hpf => ?_)
        refine m_iast C I mArr_49 97 dX10_drops_97 hpf (fun S2 H locs I hpf => ?_)
        refine lv_aload_n hx hb dX10_drops_98 rfl (lv_at hl 1 rfl) ?_
        refine m_getr C I mRef_50 kM_46 99 dX10_drops_99 ?_
        refine lv_iload hx hb dX10_drops_102 (lv_at hl 6 rfl) ?_
        refine lv_aload_n hx hb dX10_drops_104 rfl (lv_at hl 1 rfl) ?_
        refine m_getr C I mRef_50 kM_46 105 dX10_drops_105 ?_
        refine lv_iload hx hb dX10_drops_108 (lv_at hl 7 rfl) ?_
        refine m_iald C I mArr_50 110 dX10_drops_110 hpf (fun hpf => ?_)
        refine m_iast C I mArr_50 111 dX10_drops_111 hpf (fun S3 H locs I hpf => ?_)
        refine lv_iload hx hb dX10_drops_112 (lv_at hl 6 rfl) ?_
        refine lv_iload hx hb dX10_drops_114 (lv_at hl 0 rfl) ?_
        refine b_if_eq hx hb 123 116 dX10_drops_116 (by decide) hpf (fun hpf => ?_) (fun hpf => ?_)
        · refine lv_iconst (v := (1 : Int32)) hx hb dX10_drops_123 (by decide) ?_
          exact hC_124 (1 : Int32) x5 x1 x2 x3 x4 x6 S3 H locs I ls (lv_sub hl [1, 2, 3, 4, 5, 7] rfl) hpf
        refine lv_iconst (v := (0 : Int32)) hx hb dX10_drops_119 (by decide) ?_
        refine lv_goto (tgt := 124) hx hb dX10_drops_120 (by decide) ?_
        exact hC_124 (0 : Int32) x5 x1 x2 x3 x4 x6 S3 H locs I ls (lv_sub hl [1, 2, 3, 4, 5, 7] rfl) hpf
      have hC_63 : ∀ (x1 : Int32) (x2 : Int32) (x3 : Int32) (x4 : Int32) (x5 : Int32) (x6 : Int32) (S : mS) (H : Heap) (locs : List Loc), mV dC dI h cI cZ a s S H locs → ∀ ls : Array Slot, lv_has ls 8 [(0, .ref h), (1, .int x1), (2, .int x2), (3, .int x3), (4, .int x4), (5, .int x5), (6, .int x6)] → pf_drops_63 N (pf_drops_6 N (pf_drops_133 N) n) x1 x2 x3 x4 x5 x6 S = some (r, Sf) → W p l e (mRm 1) s m args below meth c H locs 0 0 (MQ below (mQv dC dI h cI cZ a sz Sf) args s 0 0 (mAt h cI cZ a sz)) (F0 m 63 ls []) := by
        intro x1 x2 x3 x4 x5 x6 S H locs I ls hl hpf
        unfold pf_drops_63 at hpf
        refine lv_iconst (v := (1 : Int32)) hx hb dX10_drops_63 (by decide) ?_
        refine lv_goto (tgt := 68) hx hb dX10_drops_64 (by decide) ?_
        exact hC_68 (1 : Int32) x1 x2 x3 x4 x5 x6 S H locs I ls (lv_sub hl [0, 1, 2, 3, 4, 5, 6] rfl) hpf
      have hC_67 : ∀ (x1 : Int32) (x2 : Int32) (x3 : Int32) (x4 : Int32) (x5 : Int32) (x6 : Int32) (S : mS) (H : Heap) (locs : List Loc), mV dC dI h cI cZ a s S H locs → ∀ ls : Array Slot, lv_has ls 8 [(0, .ref h), (1, .int x1), (2, .int x2), (3, .int x3), (4, .int x4), (5, .int x5), (6, .int x6)] → pf_drops_67 N (pf_drops_6 N (pf_drops_133 N) n) x1 x2 x3 x4 x5 x6 S = some (r, Sf) → W p l e (mRm 1) s m args below meth c H locs 0 0 (MQ below (mQv dC dI h cI cZ a sz Sf) args s 0 0 (mAt h cI cZ a sz)) (F0 m 67 ls []) := by
        intro x1 x2 x3 x4 x5 x6 S H locs I ls hl hpf
        unfold pf_drops_67 at hpf
        refine lv_iconst (v := (0 : Int32)) hx hb dX10_drops_67 (by decide) ?_
        exact hC_68 (0 : Int32) x1 x2 x3 x4 x5 x6 S H locs I ls (lv_sub hl [0, 1, 2, 3, 4, 5, 6] rfl) hpf
      intro x1 x2 x3 x4 x5 x6 S H locs I ls hl hpf
      rw [pf_drops_6] at hpf
      refine lv_iload hx hb dX10_drops_6 (lv_at hl 6 rfl) ?_
      refine lv_aload_n hx hb dX10_drops_8 rfl (lv_at hl 0 rfl) ?_
      refine m_geti C I mInt_47 kM_77 9 dX10_drops_9 ?_
      refine b_icmp_ge hx hb 133 12 dX10_drops_12 (by decide) hpf (fun hpf => ?_) (fun hpf => ?_)
      · exact hC_133 x5 S H locs I ls (lv_sub hl [0, 5] rfl) hpf
      refine lv_aload_n hx hb dX10_drops_15 rfl (lv_at hl 0 rfl) ?_
      refine m_getr C I mRef_48 kM_44 16 dX10_drops_16 ?_
      refine lv_iload hx hb dX10_drops_19 (lv_at hl 6 rfl) ?_
      refine m_iald C I mArr_48 21 dX10_drops_21 hpf (fun hpf => ?_)
      refine lv_iload_n hx hb dX10_drops_22 rfl (lv_at hl 1 rfl) ?_
      refine b_icmp_ne hx hb 67 23 dX10_drops_23 (by decide) hpf (fun hpf => ?_) (fun hpf => ?_)
      · exact hC_67 x1 x2 x3 x4 x5 x6 S H locs I ls (lv_sub hl [0, 1, 2, 3, 4, 5, 6] rfl) hpf
      refine lv_aload_n hx hb dX10_drops_26 rfl (lv_at hl 0 rfl) ?_
      refine m_getr C I mRef_49 kM_45 27 dX10_drops_27 ?_
      refine lv_iload hx hb dX10_drops_30 (lv_at hl 6 rfl) ?_
      refine m_iald C I mArr_49 32 dX10_drops_32 hpf (fun hpf => ?_)
      refine lv_iload_n hx hb dX10_drops_33 rfl (lv_at hl 2 rfl) ?_
      refine b_icmp_ne hx hb 67 34 dX10_drops_34 (by decide) hpf (fun hpf => ?_) (fun hpf => ?_)
      · exact hC_67 x1 x2 x3 x4 x5 x6 S H locs I ls (lv_sub hl [0, 1, 2, 3, 4, 5, 6] rfl) hpf
      refine lv_iload_n hx hb dX10_drops_37 rfl (lv_at hl 3 rfl) ?_
      refine b_if_ne hx hb 63 38 dX10_drops_38 (by decide) hpf (fun hpf => ?_) (fun hpf => ?_)
      · exact hC_63 x1 x2 x3 x4 x5 x6 S H locs I ls (lv_sub hl [0, 1, 2, 3, 4, 5, 6] rfl) hpf
      refine lv_aload_n hx hb dX10_drops_41 rfl (lv_at hl 0 rfl) ?_
      refine lv_iload_n hx hb dX10_drops_42 rfl (lv_at hl 2 rfl) ?_
      refine lv_aload_n hx hb dX10_drops_43 rfl (lv_at hl 0 rfl) ?_
      refine m_getr C I mRef_50 kM_46 44 dX10_drops_44 ?_
      refine lv_iload hx hb dX10_drops_47 (lv_at hl 6 rfl) ?_
      refine m_iald C I mArr_50 49 dX10_drops_49 hpf (fun hpf => ?_)
      refine m_callI (rest := []) (As := [.int x2, .int (S.2 50 x6.toNatClampNeg)]) C I fn_key (c_key l N x2 (S.2 50 x6.toNatClampNeg)) (by decide) 50 dX10_drops_50 rfl hl.1 rfl (Nat.le_of_ble_eq_true rfl) hpf (fun v1 S2 H locs I hpf => ?_)
      refine lv_aload_n hx hb dX10_drops_53 rfl (lv_at hl 0 rfl) ?_
      refine lv_iload_n hx hb dX10_drops_54 rfl (lv_at hl 2 rfl) ?_
      refine lv_iload hx hb dX10_drops_55 (lv_at hl 4 rfl) ?_
      refine m_callI (rest := [.int v1]) (As := [.int x2, .int x4]) C I fn_key (c_key l N x2 x4) (by decide) 57 dX10_drops_57 rfl hl.1 rfl (Nat.le_of_ble_eq_true rfl) hpf (fun v3 S4 H locs I hpf => ?_)
      refine b_icmp_ne hx hb 67 60 dX10_drops_60 (by decide) hpf (fun hpf => ?_) (fun hpf => ?_)
      · exact hC_67 x1 x2 x3 x4 x5 x6 S4 H locs I ls (lv_sub hl [0, 1, 2, 3, 4, 5, 6] rfl) hpf
      exact hC_63 x1 x2 x3 x4 x5 x6 S4 H locs I ls (lv_sub hl [0, 1, 2, 3, 4, 5, 6] rfl) hpf
  refine lv_iconst (v := (0 : Int32)) hx hb dX10_drops_0 (by decide) ?_
  refine lv_istore (lv' := [(5, .int (0 : Int32)), (0, .ref h), (1, .int x1), (2, .int x2), (3, .int x3), (4, .int x4)]) hx hb dX10_drops_1 hl (by decide) rfl (fun ls hl => ?_)
  refine lv_iconst (v := (0 : Int32)) hx hb dX10_drops_3 (by decide) ?_
  refine lv_istore (lv' := [(6, .int (0 : Int32)), (5, .int (0 : Int32)), (0, .ref h), (1, .int x1), (2, .int x2), (3, .int x3), (4, .int x4)]) hx hb dX10_drops_4 hl (by decide) rfl (fun ls hl => ?_)
  exact hC_6 N x1 x2 x3 x4 (0 : Int32) (0 : Int32) S H locs I ls (lv_sub hl [2, 3, 4, 5, 6, 1, 0] rfl) hpf
