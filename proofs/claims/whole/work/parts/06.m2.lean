-- ===== lays =====
def pf_lays_317 (N : Nat) (k_200 : Int32 → mS → Option (Int32 × mS)) (t0 : Int32) (t1 : Int32) (x2 : Int32) (S : mS) : Option (Int32 × mS) :=
    gd t1 48 <| sv (mA S 46 t1.toNatClampNeg t0) fun S1 =>
    nm (x2 + (1 : Int32)) fun y2 =>
    k_200 y2 S1
def pf_lays_295 (N : Nat) (k_200 : Int32 → mS → Option (Int32 × mS)) (x2 : Int32) (x3 : Int32) (S : mS) : Option (Int32 × mS) :=
    if x3 = (0 : Int32) then (
      gd x2 48 <|
      pf_lays_317 N k_200 (S.2 42 x2.toNatClampNeg) x2 x2 S)
    else (
      pf_lays_317 N k_200 ((100 : Int32) + x2) x2 x2 S)
def pf_lays_288 (N : Nat) (k_211 : Int32 → Int32 → Int32 → mS → Option (Int32 × mS)) (t0 : Int32) (x2 : Int32) (x4 : Int32) (S : mS) : Option (Int32 × mS) :=
    nm (x4 + (1 : Int32)) fun y1 =>
    k_211 x2 t0 y1 S
def pf_lays_211 (N : Nat) (k_295 : Int32 → Int32 → mS → Option (Int32 × mS)) : Nat → Int32 → Int32 → Int32 → mS → Option (Int32 × mS)
  | 0 => fun _ _ _ _ => none
  | n_211 + 1 => fun x2 x3 x4 S =>
    if (48 : Int32) ≤ x4 then (
      k_295 x2 x3 S)
    else (
      if x2 ≤ (0 : Int32) then (
        k_295 x2 x3 S)
      else (
        if x3 = (0 : Int32) then (
          bd (pf_isLive N x4 S) fun v1 S2 =>
          if v1 = (0 : Int32) then (
            pf_lays_288 N (pf_lays_211 N k_295 n_211) (0 : Int32) x2 x4 S2)
          else (
            gd x4 48 <|
            gd x2 48 <|
            if (S2.2 45 x4.toNatClampNeg) = (S2.2 45 x2.toNatClampNeg) then (
              gd x4 48 <|
              gd x2 48 <|
              if (S2.2 42 x4.toNatClampNeg) = (S2.2 42 x2.toNatClampNeg) then (
                gd x4 48 <|
                gd x2 48 <|
                if (S2.2 44 x2.toNatClampNeg) ≤ (S2.2 44 x4.toNatClampNeg) then (
                  pf_lays_288 N (pf_lays_211 N k_295 n_211) (0 : Int32) x2 x4 S2)
                else (
                  pf_lays_288 N (pf_lays_211 N k_295 n_211) (1 : Int32) x2 x4 S2))
              else (
                pf_lays_288 N (pf_lays_211 N k_295 n_211) (0 : Int32) x2 x4 S2))
            else (
              pf_lays_288 N (pf_lays_211 N k_295 n_211) (0 : Int32) x2 x4 S2)))
        else (
          pf_lays_288 N (pf_lays_211 N k_295 n_211) (1 : Int32) x2 x4 S)))
def pf_lays_200 (N : Nat) : Nat → Int32 → mS → Option (Int32 × mS)
  | 0 => fun _ _ => none
  | n_200 + 1 => fun x2 S =>
    if (48 : Int32) ≤ x2 then (
      some ((0 : Int32), S))
    else (
      pf_lays_211 N (pf_lays_295 N (pf_lays_200 N n_200)) N x2 (0 : Int32) (1 : Int32) S)
def pf_lays_198 (N : Nat) (S : mS) : Option (Int32 × mS) :=
    pf_lays_200 N N (0 : Int32) S
def pf_lays_191 (N : Nat) (k_148 : Int32 → mS → Option (Int32 × mS)) (t0 : Int32) (t1 : Int32) (x2 : Int32) (S : mS) : Option (Int32 × mS) :=
    gd t1 48 <| sv (mA S 45 t1.toNatClampNeg t0) fun S1 =>
    nm (x2 + (1 : Int32)) fun y2 =>
    k_148 y2 S1
def pf_lays_148 (N : Nat) (k_198 : mS → Option (Int32 × mS)) : Nat → Int32 → mS → Option (Int32 × mS)
  | 0 => fun _ _ => none
  | n_148 + 1 => fun x2 S =>
    if (48 : Int32) ≤ x2 then (
      k_198 S)
    else (
      if x2 = (0 : Int32) then (
        pf_lays_191 N (pf_lays_148 N k_198 n_148) (-1 : Int32) x2 x2 S)
      else (
        gd x2 48 <|
        bd (pf_isLive N (S.2 41 x2.toNatClampNeg) S) fun v1 S2 =>
        if v1 = (0 : Int32) then (
          pf_lays_191 N (pf_lays_148 N k_198 n_148) (-2 : Int32) x2 x2 S2)
        else (
          gd x2 48 <|
          pf_lays_191 N (pf_lays_148 N k_198 n_148) (S2.2 41 x2.toNatClampNeg) x2 x2 S2)))
def pf_lays_146 (N : Nat) (S : mS) : Option (Int32 × mS) :=
    pf_lays_148 N (pf_lays_198 N) N (0 : Int32) S
def pf_lays_140 (N : Nat) (k_107 : Int32 → Int32 → mS → Option (Int32 × mS)) (x1 : Int32) (x2 : Int32) (S : mS) : Option (Int32 × mS) :=
    nm (x2 + (1 : Int32)) fun y1 =>
    k_107 x1 y1 S
def pf_lays_107 (N : Nat) (k_146 : mS → Option (Int32 × mS)) : Nat → Int32 → Int32 → mS → Option (Int32 × mS)
  | 0 => fun _ _ _ => none
  | n_107 + 1 => fun x1 x2 S =>
    if (S.1 22) ≤ x2 then (
      k_146 S)
    else (
      gd x2 250 <|
      bd (pf_isKnown N x1 (S.2 36 x2.toNatClampNeg) S) fun v1 S2 =>
      if v1 = (0 : Int32) then (
        pf_lays_140 N (pf_lays_107 N k_146 n_107) x1 x2 S2)
      else (
        gd x2 250 <|
        bd (pf_does N (S2.2 36 x2.toNatClampNeg) x2 S2) fun v3 S4 =>
        pf_lays_140 N (pf_lays_107 N k_146 n_107) x1 x2 S4))
def pf_lays_105 (N : Nat) (x1 : Int32) (S : mS) : Option (Int32 × mS) :=
    pf_lays_107 N (pf_lays_146 N) N x1 (0 : Int32) S
def pf_lays_85 (N : Nat) (k_105 : Int32 → mS → Option (Int32 × mS)) : Nat → Int32 → Int32 → mS → Option (Int32 × mS)
  | 0 => fun _ _ _ => none
  | n_85 + 1 => fun x1 x2 S =>
    if (15840 : Int32) ≤ x2 then (
      k_105 x1 S)
    else (
      gd x2 15840 <| sv (mA S 51 x2.toNatClampNeg (0 : Int32)) fun S1 =>
      nm (x2 + (1 : Int32)) fun y2 =>
      pf_lays_85 N k_105 n_85 x1 y2 S1)
def pf_lays_83 (N : Nat) (x1 : Int32) (S : mS) : Option (Int32 × mS) :=
    pf_lays_85 N (pf_lays_105 N) N x1 (0 : Int32) S
def pf_lays_41 (N : Nat) (k_21 : Int32 → Int32 → mS → Option (Int32 × mS)) (t0 : Int32) (t1 : Int32) (x1 : Int32) (x2 : Int32) (S : mS) : Option (Int32 × mS) :=
    gd t1 48 <| sv (mA S 38 t1.toNatClampNeg (vp_nar .boolean t0)) fun S1 =>
    gd x2 48 <| sv (mA S1 39 x2.toNatClampNeg (vp_nar .boolean (0 : Int32))) fun S2 =>
    gd x2 48 <| sv (mA S2 40 x2.toNatClampNeg (-1 : Int32)) fun S3 =>
    gd x2 48 <| sv (mA S3 41 x2.toNatClampNeg (-1 : Int32)) fun S4 =>
    gd x2 48 <| sv (mA S4 42 x2.toNatClampNeg (0 : Int32)) fun S5 =>
    gd x2 48 <| sv (mA S5 43 x2.toNatClampNeg (-1 : Int32)) fun S6 =>
    nm (x2 + (1 : Int32)) fun y7 =>
    k_21 x1 y7 S6
def pf_lays_21 (N : Nat) (k_83 : Int32 → mS → Option (Int32 × mS)) : Nat → Int32 → Int32 → mS → Option (Int32 × mS)
  | 0 => fun _ _ _ => none
  | n_21 + 1 => fun x1 x2 S =>
    if (48 : Int32) ≤ x2 then (
      k_83 x1 S)
    else (
      if x2 = (0 : Int32) then (
        pf_lays_41 N (pf_lays_21 N k_83 n_21) (1 : Int32) x2 x1 x2 S)
      else (
        pf_lays_41 N (pf_lays_21 N k_83 n_21) (0 : Int32) x2 x1 x2 S))
def pf_lays (N : Nat) (x1 : Int32) (S : mS) : Option (Int32 × mS) :=
    if (S.1 37) = x1 then (
      some ((0 : Int32), S))
    else (
      sv (mI S 37 x1) fun S1 =>
      sv (mI S1 47 (0 : Int32)) fun S2 =>
      pf_lays_21 N (pf_lays_83 N) N x1 (0 : Int32) S2)
theorem fn_lays : mFnI yX10_lays cX10_lays 5 none 1 229 := ⟨kM_111, kM_112, kM_113, kM_108, rfl, by decide +kernel, by decide⟩
set_option maxRecDepth 100000 in
set_option maxHeartbeats 4000000 in
theorem c_lays (l : Launch) (N : Nat) (x1 : Int32) : mMetV l yX10_lays cX10_lays 5 4 [.int x1] (pf_lays N x1) := by
  refine mStartV (by decide +kernel) rfl (fun h => [(0, .ref h), (1, .int x1)]) (fun _ => Nat.le_of_ble_eq_true rfl) (fun _ => rfl) ?_
  intro dC dI h cI cZ a sz S r Sf hpf p e s m args below meth c C hr hz H locs I ls hl
  have hx := C.1
  have hb := C.2.1
  unfold pf_lays at hpf
  have hC_200 : ∀ (n_200 : Nat), ∀ (x2 : Int32) (S : mS) (H : Heap) (locs : List Loc), mV dC dI h cI cZ a s S H locs → ∀ ls : Array Slot, lv_has ls 5 [(0, .ref h), (2, .int x2)] → pf_lays_200 N n_200 x2 S = some (r, Sf) → W p l e (mRm 4) s m args below meth c H locs 0 0 (MQ below (mQv dC dI h cI cZ a sz Sf) args s 0 0 (mAt h cI cZ a sz)) (F0 m 200 ls []) := by
    intro n_200
    induction n_200 with
    | zero =>
      intro x2 S H locs I ls hl hpf
      rw [pf_lays_200] at hpf
      cases hpf
    | succ n_200 ih_200 =>
      have hC_317 : ∀ (t0 : Int32) (t1 : Int32) (x2 : Int32) (S : mS) (H : Heap) (locs : List Loc), mV dC dI h cI cZ a s S H locs → ∀ ls : Array Slot, lv_has ls 5 [(0, .ref h), (2, .int x2)] → pf_lays_317 N (pf_lays_200 N n_200) t0 t1 x2 S = some (r, Sf) → W p l e (mRm 4) s m args below meth c H locs 0 0 (MQ below (mQv dC dI h cI cZ a sz Sf) args s 0 0 (mAt h cI cZ a sz)) (F0 m 317 ls [.int t0, .int t1, .ref (a 46)]) := by
        intro t0 t1 x2 S H locs I ls hl hpf
        unfold pf_lays_317 at hpf
        refine m_iast C I mArr_46 317 dX10_lays_317 hpf (fun S1 H locs I hpf => ?_)
        refine m_iinc (w := (1 : Int32)) hx hb (fun y2 => [(2, .int y2), (0, .ref h)]) 318 dX10_lays_318 hl (k := 1) rfl (by decide) (by decide) (fun _ => rfl) hpf (fun y2 ls hl hpf => ?_)
        refine lv_goto (tgt := 200) hx hb dX10_lays_321 (by decide) ?_
        exact ih_200 y2 S1 H locs I ls (lv_sub hl [1, 0] rfl) hpf
      have hC_295 : ∀ (x2 : Int32) (x3 : Int32) (S : mS) (H : Heap) (locs : List Loc), mV dC dI h cI cZ a s S H locs → ∀ ls : Array Slot, lv_has ls 5 [(0, .ref h), (2, .int x2), (3, .int x3)] → pf_lays_295 N (pf_lays_200 N n_200) x2 x3 S = some (r, Sf) → W p l e (mRm 4) s m args below meth c H locs 0 0 (MQ below (mQv dC dI h cI cZ a sz Sf) args s 0 0 (mAt h cI cZ a sz)) (F0 m 295 ls []) := by
        intro x2 x3 S H locs I ls hl hpf
        unfold pf_lays_295 at hpf
        refine lv_aload_n hx hb dX10_lays_295 rfl (lv_at hl 0 rfl) ?_
        refine m_getr C I mRef_46 kM_43 296 dX10_lays_296 ?_
        refine lv_iload_n hx hb dX10_lays_299 rfl (lv_at hl 1 rfl) ?_
        refine lv_iload_n hx hb dX10_lays_300 rfl (lv_at hl 2 rfl) ?_
        refine b_if_eq hx hb 311 301 dX10_lays_301 (by decide) hpf (fun hpf => ?_) (fun hpf => ?_)
        · refine lv_aload_n hx hb dX10_lays_311 rfl (lv_at hl 0 rfl) ?_
          refine m_getr C I mRef_42 kM_39 312 dX10_lays_312 ?_
          refine lv_iload_n hx hb dX10_lays_315 rfl (lv_at hl 1 rfl) ?_
          refine m_iald C I mArr_42 316 dX10_lays_316 hpf (fun hpf => ?_)
          exact hC_317 (S.2 42 x2.toNatClampNeg) x2 x2 S H locs I ls (lv_sub hl [0, 1] rfl) hpf
        refine lv_bipush (v := (100 : Int32)) hx hb dX10_lays_304 (by decide) ?_
        refine lv_iload_n hx hb dX10_lays_306 rfl (lv_at hl 1 rfl) ?_
        refine lv_iadd hx hb dX10_lays_307 ?_
        refine lv_goto (tgt := 317) hx hb dX10_lays_308 (by decide) ?_
        exact hC_317 ((100 : Int32) + x2) x2 x2 S H locs I ls (lv_sub hl [0, 1] rfl) hpf
      have hC_211 : ∀ (n_211 : Nat), ∀ (x2 : Int32) (x3 : Int32) (x4 : Int32) (S : mS) (H : Heap) (locs : List Loc), mV dC dI h cI cZ a s S H locs → ∀ ls : Array Slot, lv_has ls 5 [(0, .ref h), (2, .int x2), (3, .int x3), (4, .int x4)] → pf_lays_211 N (pf_lays_295 N (pf_lays_200 N n_200)) n_211 x2 x3 x4 S = some (r, Sf) → W p l e (mRm 4) s m args below meth c H locs 0 0 (MQ below (mQv dC dI h cI cZ a sz Sf) args s 0 0 (mAt h cI cZ a sz)) (F0 m 211 ls []) := by
        intro n_211
        induction n_211 with
        | zero =>
          intro x2 x3 x4 S H locs I ls hl hpf
          rw [pf_lays_211] at hpf
          cases hpf
        | succ n_211 ih_211 =>
          have hC_288 : ∀ (t0 : Int32) (x2 : Int32) (x4 : Int32) (S : mS) (H : Heap) (locs : List Loc), mV dC dI h cI cZ a s S H locs → ∀ ls : Array Slot, lv_has ls 5 [(0, .ref h), (2, .int x2), (4, .int x4)] → pf_lays_288 N (pf_lays_211 N (pf_lays_295 N (pf_lays_200 N n_200)) n_211) t0 x2 x4 S = some (r, Sf) → W p l e (mRm 4) s m args below meth c H locs 0 0 (MQ below (mQv dC dI h cI cZ a sz Sf) args s 0 0 (mAt h cI cZ a sz)) (F0 m 288 ls [.int t0]) := by
            intro t0 x2 x4 S H locs I ls hl hpf
            unfold pf_lays_288 at hpf
            refine lv_istore_n (lv' := [(3, .int t0), (0, .ref h), (2, .int x2), (4, .int x4)]) hx hb dX10_lays_288 rfl hl (by decide) rfl (fun ls hl => ?_)
            refine m_iinc (w := (1 : Int32)) hx hb (fun y1 => [(4, .int y1), (3, .int t0), (0, .ref h), (2, .int x2)]) 289 dX10_lays_289 hl (k := 3) rfl (by decide) (by decide) (fun _ => rfl) hpf (fun y1 ls hl hpf => ?_)
            refine lv_goto (tgt := 211) hx hb dX10_lays_292 (by decide) ?_
            exact ih_211 x2 t0 y1 S H locs I ls (lv_sub hl [2, 3, 1, 0] rfl) hpf
          intro x2 x3 x4 S H locs I ls hl hpf
          rw [pf_lays_211] at hpf
          refine lv_iload hx hb dX10_lays_211 (lv_at hl 3 rfl) ?_
          refine lv_bipush (v := (48 : Int32)) hx hb dX10_lays_213 (by decide) ?_
          refine b_icmp_ge hx hb 295 215 dX10_lays_215 (by decide) hpf (fun hpf => ?_) (fun hpf => ?_)
          · exact hC_295 x2 x3 S H locs I ls (lv_sub hl [0, 1, 2] rfl) hpf
          refine lv_iload_n hx hb dX10_lays_218 rfl (lv_at hl 1 rfl) ?_
          refine b_if_le hx hb 295 219 dX10_lays_219 (by decide) hpf (fun hpf => ?_) (fun hpf => ?_)
          · exact hC_295 x2 x3 S H locs I ls (lv_sub hl [0, 1, 2] rfl) hpf
          refine lv_iload_n hx hb dX10_lays_222 rfl (lv_at hl 2 rfl) ?_
          refine b_if_ne hx hb 283 223 dX10_lays_223 (by decide) hpf (fun hpf => ?_) (fun hpf => ?_)
          · refine lv_iconst (v := (1 : Int32)) hx hb dX10_lays_283 (by decide) ?_
            refine lv_goto (tgt := 288) hx hb dX10_lays_284 (by decide) ?_
            exact hC_288 (1 : Int32) x2 x4 S H locs I ls (lv_sub hl [0, 1, 3] rfl) hpf
          refine lv_aload_n hx hb dX10_lays_226 rfl (lv_at hl 0 rfl) ?_
          refine lv_iload hx hb dX10_lays_227 (lv_at hl 3 rfl) ?_
          refine m_callI (rest := []) (As := [.int x4]) C I fn_isLive (c_isLive l N x4) (by decide) 229 dX10_lays_229 rfl hl.1 rfl (Nat.le_of_ble_eq_true rfl) hpf (fun v1 S2 H locs I hpf => ?_)
          refine b_if_eq hx hb 287 232 dX10_lays_232 (by decide) hpf (fun hpf => ?_) (fun hpf => ?_)
          · refine lv_iconst (v := (0 : Int32)) hx hb dX10_lays_287 (by decide) ?_
            exact hC_288 (0 : Int32) x2 x4 S2 H locs I ls (lv_sub hl [0, 1, 3] rfl) hpf
          refine lv_aload_n hx hb dX10_lays_235 rfl (lv_at hl 0 rfl) ?_
          refine m_getr C I mRef_45 kM_42 236 dX10_lays_236 ?_
          refine lv_iload hx hb dX10_lays_239 (lv_at hl 3 rfl) ?_
          refine m_iald C I mArr_45 241 dX10_lays_241 hpf (fun hpf => ?_)
          refine lv_aload_n hx hb dX10_lays_242 rfl (lv_at hl 0 rfl) ?_
          refine m_getr C I mRef_45 kM_42 243 dX10_lays_243 ?_
          refine lv_iload_n hx hb dX10_lays_246 rfl (lv_at hl 1 rfl) ?_
          refine m_iald C I mArr_45 247 dX10_lays_247 hpf (fun hpf => ?_)
          refine b_icmp_ne hx hb 287 248 dX10_lays_248 (by decide) hpf (fun hpf => ?_) (fun hpf => ?_)
          · refine lv_iconst (v := (0 : Int32)) hx hb dX10_lays_287 (by decide) ?_
            exact hC_288 (0 : Int32) x2 x4 S2 H locs I ls (lv_sub hl [0, 1, 3] rfl) hpf
          refine lv_aload_n hx hb dX10_lays_251 rfl (lv_at hl 0 rfl) ?_
          refine m_getr C I mRef_42 kM_39 252 dX10_lays_252 ?_
          refine lv_iload hx hb dX10_lays_255 (lv_at hl 3 rfl) ?_
          refine m_iald C I mArr_42 257 dX10_lays_257 hpf (fun hpf => ?_)
          refine lv_aload_n hx hb dX10_lays_258 rfl (lv_at hl 0 rfl) ?_
          refine m_getr C I mRef_42 kM_39 259 dX10_lays_259 ?_
          refine lv_iload_n hx hb dX10_lays_262 rfl (lv_at hl 1 rfl) ?_
          refine m_iald C I mArr_42 263 dX10_lays_263 hpf (fun hpf => ?_)
          refine b_icmp_ne hx hb 287 264 dX10_lays_264 (by decide) hpf (fun hpf => ?_) (fun hpf => ?_)
          · refine lv_iconst (v := (0 : Int32)) hx hb dX10_lays_287 (by decide) ?_
            exact hC_288 (0 : Int32) x2 x4 S2 H locs I ls (lv_sub hl [0, 1, 3] rfl) hpf
          refine lv_aload_n hx hb dX10_lays_267 rfl (lv_at hl 0 rfl) ?_
          refine m_getr C I mRef_44 kM_41 268 dX10_lays_268 ?_
          refine lv_iload hx hb dX10_lays_271 (lv_at hl 3 rfl) ?_
          refine m_iald C I mArr_44 273 dX10_lays_273 hpf (fun hpf => ?_)
          refine lv_aload_n hx hb dX10_lays_274 rfl (lv_at hl 0 rfl) ?_
          refine m_getr C I mRef_44 kM_41 275 dX10_lays_275 ?_
          refine lv_iload_n hx hb dX10_lays_278 rfl (lv_at hl 1 rfl) ?_
          refine m_iald C I mArr_44 279 dX10_lays_279 hpf (fun hpf => ?_)
          refine b_icmp_ge hx hb 287 280 dX10_lays_280 (by decide) hpf (fun hpf => ?_) (fun hpf => ?_)
          · refine lv_iconst (v := (0 : Int32)) hx hb dX10_lays_287 (by decide) ?_
            exact hC_288 (0 : Int32) x2 x4 S2 H locs I ls (lv_sub hl [0, 1, 3] rfl) hpf
          refine lv_iconst (v := (1 : Int32)) hx hb dX10_lays_283 (by decide) ?_
          refine lv_goto (tgt := 288) hx hb dX10_lays_284 (by decide) ?_
          exact hC_288 (1 : Int32) x2 x4 S2 H locs I ls (lv_sub hl [0, 1, 3] rfl) hpf
      intro x2 S H locs I ls hl hpf
      rw [pf_lays_200] at hpf
      refine lv_iload_n hx hb dX10_lays_200 rfl (lv_at hl 1 rfl) ?_
      refine lv_bipush (v := (48 : Int32)) hx hb dX10_lays_201 (by decide) ?_
      refine b_icmp_ge hx hb 324 203 dX10_lays_203 (by decide) hpf (fun hpf => ?_) (fun hpf => ?_)
      · exact m_retv C I hr hz 324 dX10_lays_324 hpf
      refine lv_iconst (v := (0 : Int32)) hx hb dX10_lays_206 (by decide) ?_
      refine lv_istore_n (lv' := [(3, .int (0 : Int32)), (0, .ref h), (2, .int x2)]) hx hb dX10_lays_207 rfl hl (by decide) rfl (fun ls hl => ?_)
      refine lv_iconst (v := (1 : Int32)) hx hb dX10_lays_208 (by decide) ?_
      refine lv_istore (lv' := [(4, .int (1 : Int32)), (3, .int (0 : Int32)), (0, .ref h), (2, .int x2)]) hx hb dX10_lays_209 hl (by decide) rfl (fun ls hl => ?_)
      exact hC_211 N x2 (0 : Int32) (1 : Int32) S H locs I ls (lv_sub hl [2, 3, 1, 0] rfl) hpf
  have hC_198 : ∀ (S : mS) (H : Heap) (locs : List Loc), mV dC dI h cI cZ a s S H locs → ∀ ls : Array Slot, lv_has ls 5 [(0, .ref h)] → pf_lays_198 N S = some (r, Sf) → W p l e (mRm 4) s m args below meth c H locs 0 0 (MQ below (mQv dC dI h cI cZ a sz Sf) args s 0 0 (mAt h cI cZ a sz)) (F0 m 198 ls []) := by
    intro S H locs I ls hl hpf
    unfold pf_lays_198 at hpf
    refine lv_iconst (v := (0 : Int32)) hx hb dX10_lays_198 (by decide) ?_
    refine lv_istore_n (lv' := [(2, .int (0 : Int32)), (0, .ref h)]) hx hb dX10_lays_199 rfl hl (by decide) rfl (fun ls hl => ?_)
    exact hC_200 N (0 : Int32) S H locs I ls (lv_sub hl [1, 0] rfl) hpf
  have hC_148 : ∀ (n_148 : Nat), ∀ (x2 : Int32) (S : mS) (H : Heap) (locs : List Loc), mV dC dI h cI cZ a s S H locs → ∀ ls : Array Slot, lv_has ls 5 [(0, .ref h), (2, .int x2)] → pf_lays_148 N (pf_lays_198 N) n_148 x2 S = some (r, Sf) → W p l e (mRm 4) s m args below meth c H locs 0 0 (MQ below (mQv dC dI h cI cZ a sz Sf) args s 0 0 (mAt h cI cZ a sz)) (F0 m 148 ls []) := by
    intro n_148
    induction n_148 with
    | zero =>
      intro x2 S H locs I ls hl hpf
      rw [pf_lays_148] at hpf
      cases hpf
    | succ n_148 ih_148 =>
      have hC_191 : ∀ (t0 : Int32) (t1 : Int32) (x2 : Int32) (S : mS) (H : Heap) (locs : List Loc), mV dC dI h cI cZ a s S H locs → ∀ ls : Array Slot, lv_has ls 5 [(0, .ref h), (2, .int x2)] → pf_lays_191 N (pf_lays_148 N (pf_lays_198 N) n_148) t0 t1 x2 S = some (r, Sf) → W p l e (mRm 4) s m args below meth c H locs 0 0 (MQ below (mQv dC dI h cI cZ a sz Sf) args s 0 0 (mAt h cI cZ a sz)) (F0 m 191 ls [.int t0, .int t1, .ref (a 45)]) := by
        intro t0 t1 x2 S H locs I ls hl hpf
        unfold pf_lays_191 at hpf
        refine m_iast C I mArr_45 191 dX10_lays_191 hpf (fun S1 H locs I hpf => ?_)
        refine m_iinc (w := (1 : Int32)) hx hb (fun y2 => [(2, .int y2), (0, .ref h)]) 192 dX10_lays_192 hl (k := 1) rfl (by decide) (by decide) (fun _ => rfl) hpf (fun y2 ls hl hpf => ?_)
        refine lv_goto (tgt := 148) hx hb dX10_lays_195 (by decide) ?_
        exact ih_148 y2 S1 H locs I ls (lv_sub hl [1, 0] rfl) hpf
      intro x2 S H locs I ls hl hpf
      rw [pf_lays_148] at hpf
      refine lv_iload_n hx hb dX10_lays_148 rfl (lv_at hl 1 rfl) ?_
      refine lv_bipush (v := (48 : Int32)) hx hb dX10_lays_149 (by decide) ?_
      refine b_icmp_ge hx hb 198 151 dX10_lays_151 (by decide) hpf (fun hpf => ?_) (fun hpf => ?_)
      · exact hC_198 S H locs I ls (lv_sub hl [0] rfl) hpf
      refine lv_aload_n hx hb dX10_lays_154 rfl (lv_at hl 0 rfl) ?_
      refine m_getr C I mRef_45 kM_42 155 dX10_lays_155 ?_
      refine lv_iload_n hx hb dX10_lays_158 rfl (lv_at hl 1 rfl) ?_
      refine lv_iload_n hx hb dX10_lays_159 rfl (lv_at hl 1 rfl) ?_
      refine b_if_ne hx hb 167 160 dX10_lays_160 (by decide) hpf (fun hpf => ?_) (fun hpf => ?_)
      · refine lv_aload_n hx hb dX10_lays_167 rfl (lv_at hl 0 rfl) ?_
        refine lv_aload_n hx hb dX10_lays_168 rfl (lv_at hl 0 rfl) ?_
        refine m_getr C I mRef_41 kM_38 169 dX10_lays_169 ?_
        refine lv_iload_n hx hb dX10_lays_172 rfl (lv_at hl 1 rfl) ?_
        refine m_iald C I mArr_41 173 dX10_lays_173 hpf (fun hpf => ?_)
        refine m_callI (rest := [.int x2, .ref (a 45)]) (As := [.int (S.2 41 x2.toNatClampNeg)]) C I fn_isLive (c_isLive l N (S.2 41 x2.toNatClampNeg)) (by decide) 174 dX10_lays_174 rfl hl.1 rfl (Nat.le_of_ble_eq_true rfl) hpf (fun v1 S2 H locs I hpf => ?_)
        refine b_if_eq hx hb 189 177 dX10_lays_177 (by decide) hpf (fun hpf => ?_) (fun hpf => ?_)
        · refine lv_bipush (v := (-2 : Int32)) hx hb dX10_lays_189 (by decide) ?_
          exact hC_191 (-2 : Int32) x2 x2 S2 H locs I ls (lv_sub hl [0, 1] rfl) hpf
        refine lv_aload_n hx hb dX10_lays_180 rfl (lv_at hl 0 rfl) ?_
        refine m_getr C I mRef_41 kM_38 181 dX10_lays_181 ?_
        refine lv_iload_n hx hb dX10_lays_184 rfl (lv_at hl 1 rfl) ?_
        refine m_iald C I mArr_41 185 dX10_lays_185 hpf (fun hpf => ?_)
        refine lv_goto (tgt := 191) hx hb dX10_lays_186 (by decide) ?_
        exact hC_191 (S2.2 41 x2.toNatClampNeg) x2 x2 S2 H locs I ls (lv_sub hl [0, 1] rfl) hpf
      refine lv_iconst (v := (-1 : Int32)) hx hb dX10_lays_163 (by decide) ?_
      refine lv_goto (tgt := 191) hx hb dX10_lays_164 (by decide) ?_
      exact hC_191 (-1 : Int32) x2 x2 S H locs I ls (lv_sub hl [0, 1] rfl) hpf
  have hC_146 : ∀ (S : mS) (H : Heap) (locs : List Loc), mV dC dI h cI cZ a s S H locs → ∀ ls : Array Slot, lv_has ls 5 [(0, .ref h)] → pf_lays_146 N S = some (r, Sf) → W p l e (mRm 4) s m args below meth c H locs 0 0 (MQ below (mQv dC dI h cI cZ a sz Sf) args s 0 0 (mAt h cI cZ a sz)) (F0 m 146 ls []) := by
    intro S H locs I ls hl hpf
    unfold pf_lays_146 at hpf
    refine lv_iconst (v := (0 : Int32)) hx hb dX10_lays_146 (by decide) ?_
    refine lv_istore_n (lv' := [(2, .int (0 : Int32)), (0, .ref h)]) hx hb dX10_lays_147 rfl hl (by decide) rfl (fun ls hl => ?_)
    exact hC_148 N (0 : Int32) S H locs I ls (lv_sub hl [1, 0] rfl) hpf
  have hC_107 : ∀ (n_107 : Nat), ∀ (x1 : Int32) (x2 : Int32) (S : mS) (H : Heap) (locs : List Loc), mV dC dI h cI cZ a s S H locs → ∀ ls : Array Slot, lv_has ls 5 [(0, .ref h), (1, .int x1), (2, .int x2)] → pf_lays_107 N (pf_lays_146 N) n_107 x1 x2 S = some (r, Sf) → W p l e (mRm 4) s m args below meth c H locs 0 0 (MQ below (mQv dC dI h cI cZ a sz Sf) args s 0 0 (mAt h cI cZ a sz)) (F0 m 107 ls []) := by
    intro n_107
    induction n_107 with
    | zero =>
      intro x1 x2 S H locs I ls hl hpf
      rw [pf_lays_107] at hpf
      cases hpf
    | succ n_107 ih_107 =>
      have hC_140 : ∀ (x1 : Int32) (x2 : Int32) (S : mS) (H : Heap) (locs : List Loc), mV dC dI h cI cZ a s S H locs → ∀ ls : Array Slot, lv_has ls 5 [(0, .ref h), (1, .int x1), (2, .int x2)] → pf_lays_140 N (pf_lays_107 N (pf_lays_146 N) n_107) x1 x2 S = some (r, Sf) → W p l e (mRm 4) s m args below meth c H locs 0 0 (MQ below (mQv dC dI h cI cZ a sz Sf) args s 0 0 (mAt h cI cZ a sz)) (F0 m 140 ls []) := by
        intro x1 x2 S H locs I ls hl hpf
        unfold pf_lays_140 at hpf
        refine m_iinc (w := (1 : Int32)) hx hb (fun y1 => [(2, .int y1), (0, .ref h), (1, .int x1)]) 140 dX10_lays_140 hl (k := 2) rfl (by decide) (by decide) (fun _ => rfl) hpf (fun y1 ls hl hpf => ?_)
        refine lv_goto (tgt := 107) hx hb dX10_lays_143 (by decide) ?_
        exact ih_107 x1 y1 S H locs I ls (lv_sub hl [1, 2, 0] rfl) hpf
      intro x1 x2 S H locs I ls hl hpf
      rw [pf_lays_107] at hpf
      refine lv_iload_n hx hb dX10_lays_107 rfl (lv_at hl 2 rfl) ?_
      refine lv_aload_n hx hb dX10_lays_108 rfl (lv_at hl 0 rfl) ?_
      refine m_geti C I mInt_22 kM_98 109 dX10_lays_109 ?_
      refine b_icmp_ge hx hb 146 112 dX10_lays_112 (by decide) hpf (fun hpf => ?_) (fun hpf => ?_)
      · exact hC_146 S H locs I ls (lv_sub hl [0] rfl) hpf
      refine lv_aload_n hx hb dX10_lays_115 rfl (lv_at hl 0 rfl) ?_
      refine lv_iload_n hx hb dX10_lays_116 rfl (lv_at hl 1 rfl) ?_
      refine lv_aload_n hx hb dX10_lays_117 rfl (lv_at hl 0 rfl) ?_
      refine m_getr C I mRef_36 kM_33 118 dX10_lays_118 ?_
      refine lv_iload_n hx hb dX10_lays_121 rfl (lv_at hl 2 rfl) ?_
      refine m_iald C I mArr_36 122 dX10_lays_122 hpf (fun hpf => ?_)
      refine m_callI (rest := []) (As := [.int x1, .int (S.2 36 x2.toNatClampNeg)]) C I fn_isKnown (c_isKnown l N x1 (S.2 36 x2.toNatClampNeg)) (by decide) 123 dX10_lays_123 rfl hl.1 rfl (Nat.le_of_ble_eq_true rfl) hpf (fun v1 S2 H locs I hpf => ?_)
      refine b_if_eq hx hb 140 126 dX10_lays_126 (by decide) hpf (fun hpf => ?_) (fun hpf => ?_)
      · exact hC_140 x1 x2 S2 H locs I ls (lv_sub hl [0, 1, 2] rfl) hpf
      refine lv_aload_n hx hb dX10_lays_129 rfl (lv_at hl 0 rfl) ?_
      refine lv_aload_n hx hb dX10_lays_130 rfl (lv_at hl 0 rfl) ?_
      refine m_getr C I mRef_36 kM_33 131 dX10_lays_131 ?_
      refine lv_iload_n hx hb dX10_lays_134 rfl (lv_at hl 2 rfl) ?_
      refine m_iald C I mArr_36 135 dX10_lays_135 hpf (fun hpf => ?_)
      refine lv_iload_n hx hb dX10_lays_136 rfl (lv_at hl 2 rfl) ?_
      refine m_callV (rest := []) (As := [.int (S2.2 36 x2.toNatClampNeg), .int x2]) C I fn_does (c_does l N (S2.2 36 x2.toNatClampNeg) x2) (by decide) 137 dX10_lays_137 rfl hl.1 rfl (Nat.le_of_ble_eq_true rfl) hpf (fun v3 S4 H locs I hpf => ?_)
      exact hC_140 x1 x2 S4 H locs I ls (lv_sub hl [0, 1, 2] rfl) hpf
  have hC_105 : ∀ (x1 : Int32) (S : mS) (H : Heap) (locs : List Loc), mV dC dI h cI cZ a s S H locs → ∀ ls : Array Slot, lv_has ls 5 [(0, .ref h), (1, .int x1)] → pf_lays_105 N x1 S = some (r, Sf) → W p l e (mRm 4) s m args below meth c H locs 0 0 (MQ below (mQv dC dI h cI cZ a sz Sf) args s 0 0 (mAt h cI cZ a sz)) (F0 m 105 ls []) := by
    intro x1 S H locs I ls hl hpf
    unfold pf_lays_105 at hpf
    refine lv_iconst (v := (0 : Int32)) hx hb dX10_lays_105 (by decide) ?_
    refine lv_istore_n (lv' := [(2, .int (0 : Int32)), (0, .ref h), (1, .int x1)]) hx hb dX10_lays_106 rfl hl (by decide) rfl (fun ls hl => ?_)
    exact hC_107 N x1 (0 : Int32) S H locs I ls (lv_sub hl [1, 2, 0] rfl) hpf
  have hC_85 : ∀ (n_85 : Nat), ∀ (x1 : Int32) (x2 : Int32) (S : mS) (H : Heap) (locs : List Loc), mV dC dI h cI cZ a s S H locs → ∀ ls : Array Slot, lv_has ls 5 [(0, .ref h), (1, .int x1), (2, .int x2)] → pf_lays_85 N (pf_lays_105 N) n_85 x1 x2 S = some (r, Sf) → W p l e (mRm 4) s m args below meth c H locs 0 0 (MQ below (mQv dC dI h cI cZ a sz Sf) args s 0 0 (mAt h cI cZ a sz)) (F0 m 85 ls []) := by
    intro n_85
    induction n_85 with
    | zero =>
      intro x1 x2 S H locs I ls hl hpf
      rw [pf_lays_85] at hpf
      cases hpf
    | succ n_85 ih_85 =>
      intro x1 x2 S H locs I ls hl hpf
      rw [pf_lays_85] at hpf
      refine lv_iload_n hx hb dX10_lays_85 rfl (lv_at hl 2 rfl) ?_
      refine lv_sipush (v := (15840 : Int32)) hx hb dX10_lays_86 (by decide) ?_
      refine b_icmp_ge hx hb 105 89 dX10_lays_89 (by decide) hpf (fun hpf => ?_) (fun hpf => ?_)
      · exact hC_105 x1 S H locs I ls (lv_sub hl [0, 1] rfl) hpf
      refine lv_aload_n hx hb dX10_lays_92 rfl (lv_at hl 0 rfl) ?_
      refine m_getr C I mRef_51 kM_47 93 dX10_lays_93 ?_
      refine lv_iload_n hx hb dX10_lays_96 rfl (lv_at hl 2 rfl) ?_
      refine lv_iconst (v := (0 : Int32)) hx hb dX10_lays_97 (by decide) ?_
      refine m_iast C I mArr_51 98 dX10_lays_98 hpf (fun S1 H locs I hpf => ?_)
      refine m_iinc (w := (1 : Int32)) hx hb (fun y2 => [(2, .int y2), (0, .ref h), (1, .int x1)]) 99 dX10_lays_99 hl (k := 2) rfl (by decide) (by decide) (fun _ => rfl) hpf (fun y2 ls hl hpf => ?_)
      refine lv_goto (tgt := 85) hx hb dX10_lays_102 (by decide) ?_
      exact ih_85 x1 y2 S1 H locs I ls (lv_sub hl [1, 2, 0] rfl) hpf
  have hC_83 : ∀ (x1 : Int32) (S : mS) (H : Heap) (locs : List Loc), mV dC dI h cI cZ a s S H locs → ∀ ls : Array Slot, lv_has ls 5 [(0, .ref h), (1, .int x1)] → pf_lays_83 N x1 S = some (r, Sf) → W p l e (mRm 4) s m args below meth c H locs 0 0 (MQ below (mQv dC dI h cI cZ a sz Sf) args s 0 0 (mAt h cI cZ a sz)) (F0 m 83 ls []) := by
    intro x1 S H locs I ls hl hpf
    unfold pf_lays_83 at hpf
    refine lv_iconst (v := (0 : Int32)) hx hb dX10_lays_83 (by decide) ?_
    refine lv_istore_n (lv' := [(2, .int (0 : Int32)), (0, .ref h), (1, .int x1)]) hx hb dX10_lays_84 rfl hl (by decide) rfl (fun ls hl => ?_)
    exact hC_85 N x1 (0 : Int32) S H locs I ls (lv_sub hl [1, 2, 0] rfl) hpf
  have hC_21 : ∀ (n_21 : Nat), ∀ (x1 : Int32) (x2 : Int32) (S : mS) (H : Heap) (locs : List Loc), mV dC dI h cI cZ a s S H locs → ∀ ls : Array Slot, lv_has ls 5 [(0, .ref h), (1, .int x1), (2, .int x2)] → pf_lays_21 N (pf_lays_83 N) n_21 x1 x2 S = some (r, Sf) → W p l e (mRm 4) s m args below meth c H locs 0 0 (MQ below (mQv dC dI h cI cZ a sz Sf) args s 0 0 (mAt h cI cZ a sz)) (F0 m 21 ls []) := by
    intro n_21
    induction n_21 with
    | zero =>
      intro x1 x2 S H locs I ls hl hpf
      rw [pf_lays_21] at hpf
      cases hpf
    | succ n_21 ih_21 =>
      have hC_41 : ∀ (t0 : Int32) (t1 : Int32) (x1 : Int32) (x2 : Int32) (S : mS) (H : Heap) (locs : List Loc), mV dC dI h cI cZ a s S H locs → ∀ ls : Array Slot, lv_has ls 5 [(0, .ref h), (1, .int x1), (2, .int x2)] → pf_lays_41 N (pf_lays_21 N (pf_lays_83 N) n_21) t0 t1 x1 x2 S = some (r, Sf) → W p l e (mRm 4) s m args below meth c H locs 0 0 (MQ below (mQv dC dI h cI cZ a sz Sf) args s 0 0 (mAt h cI cZ a sz)) (F0 m 41 ls [.int t0, .int t1, .ref (a 38)]) := by
        intro t0 t1 x1 x2 S H locs I ls hl hpf
        unfold pf_lays_41 at hpf
        refine m_zast C I mArr_38 41 dX10_lays_41 hpf (fun S1 H locs I hpf => ?_)
        refine lv_aload_n hx hb dX10_lays_42 rfl (lv_at hl 0 rfl) ?_
        refine m_getr C I mRef_39 kM_36 43 dX10_lays_43 ?_
        refine lv_iload_n hx hb dX10_lays_46 rfl (lv_at hl 2 rfl) ?_
        refine lv_iconst (v := (0 : Int32)) hx hb dX10_lays_47 (by decide) ?_
        refine m_zast C I mArr_39 48 dX10_lays_48 hpf (fun S2 H locs I hpf => ?_)
        refine lv_aload_n hx hb dX10_lays_49 rfl (lv_at hl 0 rfl) ?_
        refine m_getr C I mRef_40 kM_37 50 dX10_lays_50 ?_
        refine lv_iload_n hx hb dX10_lays_53 rfl (lv_at hl 2 rfl) ?_
        refine lv_iconst (v := (-1 : Int32)) hx hb dX10_lays_54 (by decide) ?_
        refine m_iast C I mArr_40 55 dX10_lays_55 hpf (fun S3 H locs I hpf => ?_)
        refine lv_aload_n hx hb dX10_lays_56 rfl (lv_at hl 0 rfl) ?_
        refine m_getr C I mRef_41 kM_38 57 dX10_lays_57 ?_
        refine lv_iload_n hx hb dX10_lays_60 rfl (lv_at hl 2 rfl) ?_
        refine lv_iconst (v := (-1 : Int32)) hx hb dX10_lays_61 (by decide) ?_
        refine m_iast C I mArr_41 62 dX10_lays_62 hpf (fun S4 H locs I hpf => ?_)
        refine lv_aload_n hx hb dX10_lays_63 rfl (lv_at hl 0 rfl) ?_
        refine m_getr C I mRef_42 kM_39 64 dX10_lays_64 ?_
        refine lv_iload_n hx hb dX10_lays_67 rfl (lv_at hl 2 rfl) ?_
        refine lv_iconst (v := (0 : Int32)) hx hb dX10_lays_68 (by decide) ?_
        refine m_iast C I mArr_42 69 dX10_lays_69 hpf (fun S5 H locs I hpf => ?_)
        refine lv_aload_n hx hb dX10_lays_70 rfl (lv_at hl 0 rfl) ?_
        refine m_getr C I mRef_43 kM_40 71 dX10_lays_71 ?_
        refine lv_iload_n hx hb dX10_lays_74 rfl (lv_at hl 2 rfl) ?_
        refine lv_iconst (v := (-1 : Int32)) hx hb dX10_lays_75 (by decide) ?_
        refine m_iast C I mArr_43 76 dX10_lays_76 hpf (fun S6 H locs I hpf => ?_)
        refine m_iinc (w := (1 : Int32)) hx hb (fun y7 => [(2, .int y7), (0, .ref h), (1, .int x1)]) 77 dX10_lays_77 hl (k := 2) rfl (by decide) (by decide) (fun _ => rfl) hpf (fun y7 ls hl hpf => ?_)
        refine lv_goto (tgt := 21) hx hb dX10_lays_80 (by decide) ?_
        exact ih_21 x1 y7 S6 H locs I ls (lv_sub hl [1, 2, 0] rfl) hpf
      intro x1 x2 S H locs I ls hl hpf
      rw [pf_lays_21] at hpf
      refine lv_iload_n hx hb dX10_lays_21 rfl (lv_at hl 2 rfl) ?_
      refine lv_bipush (v := (48 : Int32)) hx hb dX10_lays_22 (by decide) ?_
      refine b_icmp_ge hx hb 83 24 dX10_lays_24 (by decide) hpf (fun hpf => ?_) (fun hpf => ?_)
      · exact hC_83 x1 S H locs I ls (lv_sub hl [0, 1] rfl) hpf
      refine lv_aload_n hx hb dX10_lays_27 rfl (lv_at hl 0 rfl) ?_
      refine m_getr C I mRef_38 kM_35 28 dX10_lays_28 ?_
      refine lv_iload_n hx hb dX10_lays_31 rfl (lv_at hl 2 rfl) ?_
      refine lv_iload_n hx hb dX10_lays_32 rfl (lv_at hl 2 rfl) ?_
      refine b_if_ne hx hb 40 33 dX10_lays_33 (by decide) hpf (fun hpf => ?_) (fun hpf => ?_)
      · refine lv_iconst (v := (0 : Int32)) hx hb dX10_lays_40 (by decide) ?_
        exact hC_41 (0 : Int32) x2 x1 x2 S H locs I ls (lv_sub hl [0, 1, 2] rfl) hpf
      refine lv_iconst (v := (1 : Int32)) hx hb dX10_lays_36 (by decide) ?_
      refine lv_goto (tgt := 41) hx hb dX10_lays_37 (by decide) ?_
      exact hC_41 (1 : Int32) x2 x1 x2 S H locs I ls (lv_sub hl [0, 1, 2] rfl) hpf
  refine lv_aload_n hx hb dX10_lays_0 rfl (lv_at hl 0 rfl) ?_
  refine m_geti C I mInt_37 kM_34 1 dX10_lays_1 ?_
  refine lv_iload_n hx hb dX10_lays_4 rfl (lv_at hl 1 rfl) ?_
  refine b_icmp_ne hx hb 9 5 dX10_lays_5 (by decide) hpf (fun hpf => ?_) (fun hpf => ?_)
  · refine lv_aload_n hx hb dX10_lays_9 rfl (lv_at hl 0 rfl) ?_
    refine lv_iload_n hx hb dX10_lays_10 rfl (lv_at hl 1 rfl) ?_
    refine m_puti C I mInt_37 kM_34 11 dX10_lays_11 hpf (fun S1 H locs I hpf => ?_)
    refine lv_aload_n hx hb dX10_lays_14 rfl (lv_at hl 0 rfl) ?_
    refine lv_iconst (v := (0 : Int32)) hx hb dX10_lays_15 (by decide) ?_
    refine m_puti C I mInt_47 kM_77 16 dX10_lays_16 hpf (fun S2 H locs I hpf => ?_)
    refine lv_iconst (v := (0 : Int32)) hx hb dX10_lays_19 (by decide) ?_
    refine lv_istore_n (lv' := [(2, .int (0 : Int32)), (0, .ref h), (1, .int x1)]) hx hb dX10_lays_20 rfl hl (by decide) rfl (fun ls hl => ?_)
    exact hC_21 N x1 (0 : Int32) S2 H locs I ls (lv_sub hl [1, 2, 0] rfl) hpf
  exact m_retv C I hr hz 8 dX10_lays_8 hpf
-- ===== isAt =====
def pf_isAt (N : Nat) (x1 : Int32) (x2 : Int32) (S : mS) : Option (Int32 × mS) :=
    bs (pf_isMaster N x1) fun v1 =>
    if v1 = (0 : Int32) then (
      some ((0 : Int32), S))
    else (
      bd (pf_lays N x1 S) fun v2 S3 =>
      bd (pf_isLive N x2 S3) fun v4 S5 =>
      zr v4 S5)
theorem fn_isAt : mFnI yX10_isAt cX10_isAt 3 (some .boolean) 2 265 := ⟨kM_160, kM_161, kM_162, kM_114, rfl, by decide +kernel, by decide⟩
set_option maxRecDepth 100000 in
set_option maxHeartbeats 4000000 in
theorem c_isAt (l : Launch) (N : Nat) (x1 : Int32) (x2 : Int32) : mMet l yX10_isAt cX10_isAt 3 .boolean 5 [.int x1, .int x2] (pf_isAt N x1 x2) := by
  refine mStart (by decide +kernel) rfl (fun h => [(0, .ref h), (1, .int x1), (2, .int x2)]) (fun _ => Nat.le_of_ble_eq_true rfl) (fun _ => rfl) ?_
  intro dC dI h cI cZ a sz S r Sf hpf p e s m args below meth c C hr hz H locs I ls hl
  have hx := C.1
  have hb := C.2.1
  unfold pf_isAt at hpf
  refine lv_iload_n hx hb dX10_isAt_0 rfl (lv_at hl 1 rfl) ?_
  refine m_callS (rest := []) (As := [.int x1]) C I fn_isMaster (c_isMaster l N x1) (by decide) 1 dX10_isAt_1 rfl hl.1 rfl (Nat.le_of_ble_eq_true rfl) hpf (fun v1 H locs I hpf => ?_)
  refine b_if_ne hx hb 9 4 dX10_isAt_4 (by decide) hpf (fun hpf => ?_) (fun hpf => ?_)
  · refine lv_aload_n hx hb dX10_isAt_9 rfl (lv_at hl 0 rfl) ?_
    refine lv_iload_n hx hb dX10_isAt_10 rfl (lv_at hl 1 rfl) ?_
    refine m_callV (rest := []) (As := [.int x1]) C I fn_lays (c_lays l N x1) (by decide) 11 dX10_isAt_11 rfl hl.1 rfl (Nat.le_of_ble_eq_true rfl) hpf (fun v2 S3 H locs I hpf => ?_)
    refine lv_aload_n hx hb dX10_isAt_14 rfl (lv_at hl 0 rfl) ?_
    refine lv_iload_n hx hb dX10_isAt_15 rfl (lv_at hl 2 rfl) ?_
    refine m_callI (rest := []) (As := [.int x2]) C I fn_isLive (c_isLive l N x2) (by decide) 16 dX10_isAt_16 rfl hl.1 rfl (Nat.le_of_ble_eq_true rfl) hpf (fun v4 S5 H locs I hpf => ?_)
    exact m_retz C I hr hz 19 dX10_isAt_19 hpf
  refine lv_iconst (v := (0 : Int32)) hx hb dX10_isAt_7 (by decide) ?_
  exact m_retzc C I hr hz 8 dX10_isAt_8 (by decide) hpf
-- ===== countOf =====
def pf_countOf_42 (N : Nat) (k_5 : Int32 → Int32 → Int32 → Int32 → mS → Option (Int32 × mS)) (t0 : Int32) (t1 : Int32) (x1 : Int32) (x2 : Int32) (x4 : Int32) (S : mS) : Option (Int32 × mS) :=
    nm (t1 + t0) fun y1 =>
    nm (x4 + (1 : Int32)) fun y2 =>
    k_5 x1 x2 y1 y2 S
def pf_countOf_5 (N : Nat) : Nat → Int32 → Int32 → Int32 → Int32 → mS → Option (Int32 × mS)
  | 0 => fun _ _ _ _ _ => none
  | n_5 + 1 => fun x1 x2 x3 x4 S =>
    if (S.1 47) ≤ x4 then (
      some (x3, S))
    else (
      gd x4 900 <|
      if (S.2 48 x4.toNatClampNeg) = x1 then (
        gd x4 900 <|
        if (S.2 49 x4.toNatClampNeg) = x2 then (
          pf_countOf_42 N (pf_countOf_5 N n_5) (1 : Int32) x3 x1 x2 x4 S)
        else (
          pf_countOf_42 N (pf_countOf_5 N n_5) (0 : Int32) x3 x1 x2 x4 S))
      else (
        pf_countOf_42 N (pf_countOf_5 N n_5) (0 : Int32) x3 x1 x2 x4 S))
def pf_countOf (N : Nat) (x1 : Int32) (x2 : Int32) (S : mS) : Option (Int32 × mS) :=
    pf_countOf_5 N N x1 x2 (0 : Int32) (0 : Int32) S
theorem fn_countOf : mFnI yX10_countOf cX10_countOf 5 (some .int) 2 291 := ⟨kM_183, kM_184, kM_185, kM_115, rfl, by decide +kernel, by decide⟩
set_option maxRecDepth 100000 in
set_option maxHeartbeats 4000000 in
theorem c_countOf (l : Launch) (N : Nat) (x1 : Int32) (x2 : Int32) : mMet l yX10_countOf cX10_countOf 5 .int 0 [.int x1, .int x2] (pf_countOf N x1 x2) := by
  refine mStart (by decide +kernel) rfl (fun h => [(0, .ref h), (1, .int x1), (2, .int x2)]) (fun _ => Nat.le_of_ble_eq_true rfl) (fun _ => rfl) ?_
  intro dC dI h cI cZ a sz S r Sf hpf p e s m args below meth c C hr hz H locs I ls hl
  have hx := C.1
  have hb := C.2.1
  unfold pf_countOf at hpf
  have hC_5 : ∀ (n_5 : Nat), ∀ (x1 : Int32) (x2 : Int32) (x3 : Int32) (x4 : Int32) (S : mS) (H : Heap) (locs : List Loc), mV dC dI h cI cZ a s S H locs → ∀ ls : Array Slot, lv_has ls 5 [(0, .ref h), (1, .int x1), (2, .int x2), (3, .int x3), (4, .int x4)] → pf_countOf_5 N n_5 x1 x2 x3 x4 S = some (r, Sf) → W p l e (mRm 0) s m args below meth c H locs 0 0 (MQ below (mQ dC dI h cI cZ a sz r Sf) args s 0 0 (mAt h cI cZ a sz)) (F0 m 5 ls []) := by
    intro n_5
    induction n_5 with
    | zero =>
      intro x1 x2 x3 x4 S H locs I ls hl hpf
      rw [pf_countOf_5] at hpf
      cases hpf
    | succ n_5 ih_5 =>
      have hC_42 : ∀ (t0 : Int32) (t1 : Int32) (x1 : Int32) (x2 : Int32) (x4 : Int32) (S : mS) (H : Heap) (locs : List Loc), mV dC dI h cI cZ a s S H locs → ∀ ls : Array Slot, lv_has ls 5 [(0, .ref h), (1, .int x1), (2, .int x2), (4, .int x4)] → pf_countOf_42 N (pf_countOf_5 N n_5) t0 t1 x1 x2 x4 S = some (r, Sf) → W p l e (mRm 0) s m args below meth c H locs 0 0 (MQ below (mQ dC dI h cI cZ a sz r Sf) args s 0 0 (mAt h cI cZ a sz)) (F0 m 42 ls [.int t0, .int t1]) := by
        intro t0 t1 x1 x2 x4 S H locs I ls hl hpf
        unfold pf_countOf_42 at hpf
        refine lv_iadd hx hb dX10_countOf_42 ?_
        refine m_isto_n hx hb (fun y1 => [(3, .int y1), (0, .ref h), (1, .int x1), (2, .int x2), (4, .int x4)]) 43 dX10_countOf_43 rfl hl (by decide) (fun _ => rfl) hpf (fun y1 ls hl hpf => ?_)
        refine m_iinc (w := (1 : Int32)) hx hb (fun y2 => [(4, .int y2), (3, .int y1), (0, .ref h), (1, .int x1), (2, .int x2)]) 44 dX10_countOf_44 hl (k := 4) rfl (by decide) (by decide) (fun _ => rfl) hpf (fun y2 ls hl hpf => ?_)
        refine lv_goto (tgt := 5) hx hb dX10_countOf_47 (by decide) ?_
        exact ih_5 x1 x2 y1 y2 S H locs I ls (lv_sub hl [2, 3, 4, 1, 0] rfl) hpf
      intro x1 x2 x3 x4 S H locs I ls hl hpf
      rw [pf_countOf_5] at hpf
      refine lv_iload hx hb dX10_countOf_5 (lv_at hl 4 rfl) ?_
      refine lv_aload_n hx hb dX10_countOf_7 rfl (lv_at hl 0 rfl) ?_
      refine m_geti C I mInt_47 kM_77 8 dX10_countOf_8 ?_
      refine b_icmp_ge hx hb 50 11 dX10_countOf_11 (by decide) hpf (fun hpf => ?_) (fun hpf => ?_)
      · refine lv_iload_n hx hb dX10_countOf_50 rfl (lv_at hl 3 rfl) ?_
        exact m_reti C I hr hz 51 dX10_countOf_51 hpf
      refine lv_iload_n hx hb dX10_countOf_14 rfl (lv_at hl 3 rfl) ?_
      refine lv_aload_n hx hb dX10_countOf_15 rfl (lv_at hl 0 rfl) ?_
      refine m_getr C I mRef_48 kM_44 16 dX10_countOf_16 ?_
      refine lv_iload hx hb dX10_countOf_19 (lv_at hl 4 rfl) ?_
      refine m_iald C I mArr_48 21 dX10_countOf_21 hpf (fun hpf => ?_)
      refine lv_iload_n hx hb dX10_countOf_22 rfl (lv_at hl 1 rfl) ?_
      refine b_icmp_ne hx hb 41 23 dX10_countOf_23 (by decide) hpf (fun hpf => ?_) (fun hpf => ?_)
      · refine lv_iconst (v := (0 : Int32)) hx hb dX10_countOf_41 (by decide) ?_
        exact hC_42 (0 : Int32) x3 x1 x2 x4 S H locs I ls (lv_sub hl [0, 1, 2, 4] rfl) hpf
      refine lv_aload_n hx hb dX10_countOf_26 rfl (lv_at hl 0 rfl) ?_
      refine m_getr C I mRef_49 kM_45 27 dX10_countOf_27 ?_
      refine lv_iload hx hb dX10_countOf_30 (lv_at hl 4 rfl) ?_
      refine m_iald C I mArr_49 32 dX10_countOf_32 hpf (fun hpf => ?_)
      refine lv_iload_n hx hb dX10_countOf_33 rfl (lv_at hl 2 rfl) ?_
      refine b_icmp_ne hx hb 41 34 dX10_countOf_34 (by decide) hpf (fun hpf => ?_) (fun hpf => ?_)
      · refine lv_iconst (v := (0 : Int32)) hx hb dX10_countOf_41 (by decide) ?_
        exact hC_42 (0 : Int32) x3 x1 x2 x4 S H locs I ls (lv_sub hl [0, 1, 2, 4] rfl) hpf
      refine lv_iconst (v := (1 : Int32)) hx hb dX10_countOf_37 (by decide) ?_
      refine lv_goto (tgt := 42) hx hb dX10_countOf_38 (by decide) ?_
      exact hC_42 (1 : Int32) x3 x1 x2 x4 S H locs I ls (lv_sub hl [0, 1, 2, 4] rfl) hpf
  refine lv_iconst (v := (0 : Int32)) hx hb dX10_countOf_0 (by decide) ?_
  refine lv_istore_n (lv' := [(3, .int (0 : Int32)), (0, .ref h), (1, .int x1), (2, .int x2)]) hx hb dX10_countOf_1 rfl hl (by decide) rfl (fun ls hl => ?_)
  refine lv_iconst (v := (0 : Int32)) hx hb dX10_countOf_2 (by decide) ?_
  refine lv_istore (lv' := [(4, .int (0 : Int32)), (3, .int (0 : Int32)), (0, .ref h), (1, .int x1), (2, .int x2)]) hx hb dX10_countOf_3 hl (by decide) rfl (fun ls hl => ?_)
  exact hC_5 N x1 x2 (0 : Int32) (0 : Int32) S H locs I ls (lv_sub hl [2, 3, 4, 1, 0] rfl) hpf
-- ===== hasMatch =====
def pf_hasMatch_68 (N : Nat) (k_6 : Int32 → Int32 → Int32 → Int32 → Int32 → mS → Option (Int32 × mS)) (t0 : Int32) (x1 : Int32) (x2 : Int32) (x3 : Int32) (x5 : Int32) (S : mS) : Option (Int32 × mS) :=
    nm (x5 + (1 : Int32)) fun y1 =>
    k_6 x1 x2 x3 t0 y1 S
def pf_hasMatch_6 (N : Nat) : Nat → Int32 → Int32 → Int32 → Int32 → Int32 → mS → Option (Int32 × mS)
  | 0 => fun _ _ _ _ _ _ => none
  | n_6 + 1 => fun x1 x2 x3 x4 x5 S =>
    if (S.1 47) ≤ x5 then (
      zr x4 S)
    else (
      if x4 = (0 : Int32) then (
        gd x5 900 <|
        if (S.2 48 x5.toNatClampNeg) = x1 then (
          gd x5 900 <|
          if (S.2 49 x5.toNatClampNeg) = x2 then (
            gd x5 900 <|
            bd (pf_key N x2 (S.2 50 x5.toNatClampNeg) S) fun v1 S2 =>
            bd (pf_key N x2 x3 S2) fun v3 S4 =>
            if v1 = v3 then (
              pf_hasMatch_68 N (pf_hasMatch_6 N n_6) (1 : Int32) x1 x2 x3 x5 S4)
            else (
              pf_hasMatch_68 N (pf_hasMatch_6 N n_6) (0 : Int32) x1 x2 x3 x5 S4))
          else (
            pf_hasMatch_68 N (pf_hasMatch_6 N n_6) (0 : Int32) x1 x2 x3 x5 S))
        else (
          pf_hasMatch_68 N (pf_hasMatch_6 N n_6) (0 : Int32) x1 x2 x3 x5 S))
      else (
        pf_hasMatch_68 N (pf_hasMatch_6 N n_6) (1 : Int32) x1 x2 x3 x5 S))
def pf_hasMatch (N : Nat) (x1 : Int32) (x2 : Int32) (x3 : Int32) (S : mS) : Option (Int32 × mS) :=
    pf_hasMatch_6 N N x1 x2 x3 (0 : Int32) (0 : Int32) S
theorem fn_hasMatch : mFnI yX10_hasMatch cX10_hasMatch 6 (some .boolean) 3 233 := ⟨kM_121, kM_122, kM_123, kM_116, rfl, by decide +kernel, by decide⟩
set_option maxRecDepth 100000 in
set_option maxHeartbeats 4000000 in
theorem c_hasMatch (l : Launch) (N : Nat) (x1 : Int32) (x2 : Int32) (x3 : Int32) : mMet l yX10_hasMatch cX10_hasMatch 6 .boolean 1 [.int x1, .int x2, .int x3] (pf_hasMatch N x1 x2 x3) := by
  refine mStart (by decide +kernel) rfl (fun h => [(0, .ref h), (1, .int x1), (2, .int x2), (3, .int x3)]) (fun _ => Nat.le_of_ble_eq_true rfl) (fun _ => rfl) ?_
  intro dC dI h cI cZ a sz S r Sf hpf p e s m args below meth c C hr hz H locs I ls hl
  have hx := C.1
  have hb := C.2.1
  unfold pf_hasMatch at hpf
  have hC_6 : ∀ (n_6 : Nat), ∀ (x1 : Int32) (x2 : Int32) (x3 : Int32) (x4 : Int32) (x5 : Int32) (S : mS) (H : Heap) (locs : List Loc), mV dC dI h cI cZ a s S H locs → ∀ ls : Array Slot, lv_has ls 6 [(0, .ref h), (1, .int x1), (2, .int x2), (3, .int x3), (4, .int x4), (5, .int x5)] → pf_hasMatch_6 N n_6 x1 x2 x3 x4 x5 S = some (r, Sf) → W p l e (mRm 1) s m args below meth c H locs 0 0 (MQ below (mQ dC dI h cI cZ a sz r Sf) args s 0 0 (mAt h cI cZ a sz)) (F0 m 6 ls []) := by
    intro n_6
    induction n_6 with
    | zero =>
      intro x1 x2 x3 x4 x5 S H locs I ls hl hpf
      rw [pf_hasMatch_6] at hpf
      cases hpf
    | succ n_6 ih_6 =>
      have hC_68 : ∀ (t0 : Int32) (x1 : Int32) (x2 : Int32) (x3 : Int32) (x5 : Int32) (S : mS) (H : Heap) (locs : List Loc), mV dC dI h cI cZ a s S H locs → ∀ ls : Array Slot, lv_has ls 6 [(0, .ref h), (1, .int x1), (2, .int x2), (3, .int x3), (5, .int x5)] → pf_hasMatch_68 N (pf_hasMatch_6 N n_6) t0 x1 x2 x3 x5 S = some (r, Sf) → W p l e (mRm 1) s m args below meth c H locs 0 0 (MQ below (mQ dC dI h cI cZ a sz r Sf) args s 0 0 (mAt h cI cZ a sz)) (F0 m 68 ls [.int t0]) := by
        intro t0 x1 x2 x3 x5 S H locs I ls hl hpf
        unfold pf_hasMatch_68 at hpf
        refine lv_istore (lv' := [(4, .int t0), (0, .ref h), (1, .int x1), (2, .int x2), (3, .int x3), (5, .int x5)]) hx hb dX10_hasMatch_68 hl (by decide) rfl (fun ls hl => ?_)
        refine m_iinc (w := (1 : Int32)) hx hb (fun y1 => [(5, .int y1), (4, .int t0), (0, .ref h), (1, .int x1), (2, .int x2), (3, .int x3)]) 70 dX10_hasMatch_70 hl (k := 5) rfl (by decide) (by decide) (fun _ => rfl) hpf (fun y1 ls hl hpf => ?_)
        refine lv_goto (tgt := 6) hx hb dX10_hasMatch_73 (by decide) ?_
        exact ih_6 x1 x2 x3 t0 y1 S H locs I ls (lv_sub hl [2, 3, 4, 5, 1, 0] rfl) hpf
      intro x1 x2 x3 x4 x5 S H locs I ls hl hpf
      rw [pf_hasMatch_6] at hpf
      refine lv_iload hx hb dX10_hasMatch_6 (lv_at hl 5 rfl) ?_
      refine lv_aload_n hx hb dX10_hasMatch_8 rfl (lv_at hl 0 rfl) ?_
      refine m_geti C I mInt_47 kM_77 9 dX10_hasMatch_9 ?_
      refine b_icmp_ge hx hb 76 12 dX10_hasMatch_12 (by decide) hpf (fun hpf => ?_) (fun hpf => ?_)
      · refine lv_iload hx hb dX10_hasMatch_76 (lv_at hl 4 rfl) ?_
        exact m_retz C I hr hz 78 dX10_hasMatch_78 hpf
      refine lv_iload hx hb dX10_hasMatch_15 (lv_at hl 4 rfl) ?_
      refine b_if_ne hx hb 63 17 dX10_hasMatch_17 (by decide) hpf (fun hpf => ?_) (fun hpf => ?_)
      · refine lv_iconst (v := (1 : Int32)) hx hb dX10_hasMatch_63 (by decide) ?_
        refine lv_goto (tgt := 68) hx hb dX10_hasMatch_64 (by decide) ?_
        exact hC_68 (1 : Int32) x1 x2 x3 x5 S H locs I ls (lv_sub hl [0, 1, 2, 3, 5] rfl) hpf
      refine lv_aload_n hx hb dX10_hasMatch_20 rfl (lv_at hl 0 rfl) ?_
      refine m_getr C I mRef_48 kM_44 21 dX10_hasMatch_21 ?_
      refine lv_iload hx hb dX10_hasMatch_24 (lv_at hl 5 rfl) ?_
      refine m_iald C I mArr_48 26 dX10_hasMatch_26 hpf (fun hpf => ?_)
      refine lv_iload_n hx hb dX10_hasMatch_27 rfl (lv_at hl 1 rfl) ?_
      refine b_icmp_ne hx hb 67 28 dX10_hasMatch_28 (by decide) hpf (fun hpf => ?_) (fun hpf => ?_)
      · refine lv_iconst (v := (0 : Int32)) hx hb dX10_hasMatch_67 (by decide) ?_
        exact hC_68 (0 : Int32) x1 x2 x3 x5 S H locs I ls (lv_sub hl [0, 1, 2, 3, 5] rfl) hpf
      refine lv_aload_n hx hb dX10_hasMatch_31 rfl (lv_at hl 0 rfl) ?_
      refine m_getr C I mRef_49 kM_45 32 dX10_hasMatch_32 ?_
      refine lv_iload hx hb dX10_hasMatch_35 (lv_at hl 5 rfl) ?_
      refine m_iald C I mArr_49 37 dX10_hasMatch_37 hpf (fun hpf => ?_)
      refine lv_iload_n hx hb dX10_hasMatch_38 rfl (lv_at hl 2 rfl) ?_
      refine b_icmp_ne hx hb 67 39 dX10_hasMatch_39 (by decide) hpf (fun hpf => ?_) (fun hpf => ?_)
      · refine lv_iconst (v := (0 : Int32)) hx hb dX10_hasMatch_67 (by decide) ?_
        exact hC_68 (0 : Int32) x1 x2 x3 x5 S H locs I ls (lv_sub hl [0, 1, 2, 3, 5] rfl) hpf
      refine lv_aload_n hx hb dX10_hasMatch_42 rfl (lv_at hl 0 rfl) ?_
      refine lv_iload_n hx hb dX10_hasMatch_43 rfl (lv_at hl 2 rfl) ?_
      refine lv_aload_n hx hb dX10_hasMatch_44 rfl (lv_at hl 0 rfl) ?_
      refine m_getr C I mRef_50 kM_46 45 dX10_hasMatch_45 ?_
      refine lv_iload hx hb dX10_hasMatch_48 (lv_at hl 5 rfl) ?_
      refine m_iald C I mArr_50 50 dX10_hasMatch_50 hpf (fun hpf => ?_)
      refine m_callI (rest := []) (As := [.int x2, .int (S.2 50 x5.toNatClampNeg)]) C I fn_key (c_key l N x2 (S.2 50 x5.toNatClampNeg)) (by decide) 51 dX10_hasMatch_51 rfl hl.1 rfl (Nat.le_of_ble_eq_true rfl) hpf (fun v1 S2 H locs I hpf => ?_)
      refine lv_aload_n hx hb dX10_hasMatch_54 rfl (lv_at hl 0 rfl) ?_
      refine lv_iload_n hx hb dX10_hasMatch_55 rfl (lv_at hl 2 rfl) ?_
      refine lv_iload_n hx hb dX10_hasMatch_56 rfl (lv_at hl 3 rfl) ?_
      refine m_callI (rest := [.int v1]) (As := [.int x2, .int x3]) C I fn_key (c_key l N x2 x3) (by decide) 57 dX10_hasMatch_57 rfl hl.1 rfl (Nat.le_of_ble_eq_true rfl) hpf (fun v3 S4 H locs I hpf => ?_)
      refine b_icmp_ne hx hb 67 60 dX10_hasMatch_60 (by decide) hpf (fun hpf => ?_) (fun hpf => ?_)
      · refine lv_iconst (v := (0 : Int32)) hx hb dX10_hasMatch_67 (by decide) ?_
        exact hC_68 (0 : Int32) x1 x2 x3 x5 S4 H locs I ls (lv_sub hl [0, 1, 2, 3, 5] rfl) hpf
      refine lv_iconst (v := (1 : Int32)) hx hb dX10_hasMatch_63 (by decide) ?_
      refine lv_goto (tgt := 68) hx hb dX10_hasMatch_64 (by decide) ?_
      exact hC_68 (1 : Int32) x1 x2 x3 x5 S4 H locs I ls (lv_sub hl [0, 1, 2, 3, 5] rfl) hpf
  refine lv_iconst (v := (0 : Int32)) hx hb dX10_hasMatch_0 (by decide) ?_
  refine lv_istore (lv' := [(4, .int (0 : Int32)), (0, .ref h), (1, .int x1), (2, .int x2), (3, .int x3)]) hx hb dX10_hasMatch_1 hl (by decide) rfl (fun ls hl => ?_)
  refine lv_iconst (v := (0 : Int32)) hx hb dX10_hasMatch_3 (by decide) ?_
  refine lv_istore (lv' := [(5, .int (0 : Int32)), (4, .int (0 : Int32)), (0, .ref h), (1, .int x1), (2, .int x2), (3, .int x3)]) hx hb dX10_hasMatch_4 hl (by decide) rfl (fun ls hl => ?_)
  exact hC_6 N x1 x2 x3 (0 : Int32) (0 : Int32) S H locs I ls (lv_sub hl [2, 3, 4, 5, 1, 0] rfl) hpf
-- ===== isNamed =====
def pf_isNamed_60 (N : Nat) (k_6 : Int32 → Int32 → Int32 → Int32 → Int32 → mS → Option (Int32 × mS)) (t0 : Int32) (x1 : Int32) (x2 : Int32) (x3 : Int32) (x5 : Int32) (S : mS) : Option (Int32 × mS) :=
    nm (x5 + (1 : Int32)) fun y1 =>
    k_6 x1 x2 x3 t0 y1 S
def pf_isNamed_6 (N : Nat) : Nat → Int32 → Int32 → Int32 → Int32 → Int32 → mS → Option (Int32 × mS)
  | 0 => fun _ _ _ _ _ _ => none
  | n_6 + 1 => fun x1 x2 x3 x4 x5 S =>
    if (48 : Int32) ≤ x5 then (
      zr x4 S)
    else (
      if x4 = (0 : Int32) then (
        bd (pf_isLive N x5 S) fun v1 S2 =>
        if v1 = (0 : Int32) then (
          pf_isNamed_60 N (pf_isNamed_6 N n_6) (0 : Int32) x1 x2 x3 x5 S2)
        else (
          if x5 = x2 then (
            pf_isNamed_60 N (pf_isNamed_6 N n_6) (0 : Int32) x1 x2 x3 x5 S2)
          else (
            gd x5 48 <|
            if (S2.2 45 x5.toNatClampNeg) = x1 then (
              gd x5 48 <|
              if (S2.2 46 x5.toNatClampNeg) = x3 then (
                pf_isNamed_60 N (pf_isNamed_6 N n_6) (1 : Int32) x1 x2 x3 x5 S2)
              else (
                pf_isNamed_60 N (pf_isNamed_6 N n_6) (0 : Int32) x1 x2 x3 x5 S2))
            else (
              pf_isNamed_60 N (pf_isNamed_6 N n_6) (0 : Int32) x1 x2 x3 x5 S2))))
      else (
        pf_isNamed_60 N (pf_isNamed_6 N n_6) (1 : Int32) x1 x2 x3 x5 S))
def pf_isNamed (N : Nat) (x1 : Int32) (x2 : Int32) (x3 : Int32) (S : mS) : Option (Int32 × mS) :=
    pf_isNamed_6 N N x1 x2 x3 (0 : Int32) (1 : Int32) S
theorem fn_isNamed : mFnI yX10_isNamed cX10_isNamed 6 (some .boolean) 3 278 := ⟨kM_172, kM_173, kM_174, kM_117, rfl, by decide +kernel, by decide⟩
set_option maxRecDepth 100000 in
set_option maxHeartbeats 4000000 in
theorem c_isNamed (l : Launch) (N : Nat) (x1 : Int32) (x2 : Int32) (x3 : Int32) : mMet l yX10_isNamed cX10_isNamed 6 .boolean 2 [.int x1, .int x2, .int x3] (pf_isNamed N x1 x2 x3) := by
  refine mStart (by decide +kernel) rfl (fun h => [(0, .ref h), (1, .int x1), (2, .int x2), (3, .int x3)]) (fun _ => Nat.le_of_ble_eq_true rfl) (fun _ => rfl) ?_
  intro dC dI h cI cZ a sz S r Sf hpf p e s m args below meth c C hr hz H locs I ls hl
  have hx := C.1
  have hb := C.2.1
  unfold pf_isNamed at hpf
  have hC_6 : ∀ (n_6 : Nat), ∀ (x1 : Int32) (x2 : Int32) (x3 : Int32) (x4 : Int32) (x5 : Int32) (S : mS) (H : Heap) (locs : List Loc), mV dC dI h cI cZ a s S H locs → ∀ ls : Array Slot, lv_has ls 6 [(0, .ref h), (1, .int x1), (2, .int x2), (3, .int x3), (4, .int x4), (5, .int x5)] → pf_isNamed_6 N n_6 x1 x2 x3 x4 x5 S = some (r, Sf) → W p l e (mRm 2) s m args below meth c H locs 0 0 (MQ below (mQ dC dI h cI cZ a sz r Sf) args s 0 0 (mAt h cI cZ a sz)) (F0 m 6 ls []) := by
    intro n_6
    induction n_6 with
    | zero =>
      intro x1 x2 x3 x4 x5 S H locs I ls hl hpf
      rw [pf_isNamed_6] at hpf
      cases hpf
    | succ n_6 ih_6 =>
      have hC_60 : ∀ (t0 : Int32) (x1 : Int32) (x2 : Int32) (x3 : Int32) (x5 : Int32) (S : mS) (H : Heap) (locs : List Loc), mV dC dI h cI cZ a s S H locs → ∀ ls : Array Slot, lv_has ls 6 [(0, .ref h), (1, .int x1), (2, .int x2), (3, .int x3), (5, .int x5)] → pf_isNamed_60 N (pf_isNamed_6 N n_6) t0 x1 x2 x3 x5 S = some (r, Sf) → W p l e (mRm 2) s m args below meth c H locs 0 0 (MQ below (mQ dC dI h cI cZ a sz r Sf) args s 0 0 (mAt h cI cZ a sz)) (F0 m 60 ls [.int t0]) := by
        intro t0 x1 x2 x3 x5 S H locs I ls hl hpf
        unfold pf_isNamed_60 at hpf
        refine lv_istore (lv' := [(4, .int t0), (0, .ref h), (1, .int x1), (2, .int x2), (3, .int x3), (5, .int x5)]) hx hb dX10_isNamed_60 hl (by decide) rfl (fun ls hl => ?_)
        refine m_iinc (w := (1 : Int32)) hx hb (fun y1 => [(5, .int y1), (4, .int t0), (0, .ref h), (1, .int x1), (2, .int x2), (3, .int x3)]) 62 dX10_isNamed_62 hl (k := 5) rfl (by decide) (by decide) (fun _ => rfl) hpf (fun y1 ls hl hpf => ?_)
        refine lv_goto (tgt := 6) hx hb dX10_isNamed_65 (by decide) ?_
        exact ih_6 x1 x2 x3 t0 y1 S H locs I ls (lv_sub hl [2, 3, 4, 5, 1, 0] rfl) hpf
      intro x1 x2 x3 x4 x5 S H locs I ls hl hpf
      rw [pf_isNamed_6] at hpf
      refine lv_iload hx hb dX10_isNamed_6 (lv_at hl 5 rfl) ?_
      refine lv_bipush (v := (48 : Int32)) hx hb dX10_isNamed_8 (by decide) ?_
      refine b_icmp_ge hx hb 68 10 dX10_isNamed_10 (by decide) hpf (fun hpf => ?_) (fun hpf => ?_)
      · refine lv_iload hx hb dX10_isNamed_68 (lv_at hl 4 rfl) ?_
        exact m_retz C I hr hz 70 dX10_isNamed_70 hpf
      refine lv_iload hx hb dX10_isNamed_13 (lv_at hl 4 rfl) ?_
      refine b_if_ne hx hb 55 15 dX10_isNamed_15 (by decide) hpf (fun hpf => ?_) (fun hpf => ?_)
      · refine lv_iconst (v := (1 : Int32)) hx hb dX10_isNamed_55 (by decide) ?_
        refine lv_goto (tgt := 60) hx hb dX10_isNamed_56 (by decide) ?_
        exact hC_60 (1 : Int32) x1 x2 x3 x5 S H locs I ls (lv_sub hl [0, 1, 2, 3, 5] rfl) hpf
      refine lv_aload_n hx hb dX10_isNamed_18 rfl (lv_at hl 0 rfl) ?_
      refine lv_iload hx hb dX10_isNamed_19 (lv_at hl 5 rfl) ?_
      refine m_callI (rest := []) (As := [.int x5]) C I fn_isLive (c_isLive l N x5) (by decide) 21 dX10_isNamed_21 rfl hl.1 rfl (Nat.le_of_ble_eq_true rfl) hpf (fun v1 S2 H locs I hpf => ?_)
      refine b_if_eq hx hb 59 24 dX10_isNamed_24 (by decide) hpf (fun hpf => ?_) (fun hpf => ?_)
      · refine lv_iconst (v := (0 : Int32)) hx hb dX10_isNamed_59 (by decide) ?_
        exact hC_60 (0 : Int32) x1 x2 x3 x5 S2 H locs I ls (lv_sub hl [0, 1, 2, 3, 5] rfl) hpf
      refine lv_iload hx hb dX10_isNamed_27 (lv_at hl 5 rfl) ?_
      refine lv_iload_n hx hb dX10_isNamed_29 rfl (lv_at hl 2 rfl) ?_
      refine b_icmp_eq hx hb 59 30 dX10_isNamed_30 (by decide) hpf (fun hpf => ?_) (fun hpf => ?_)
      · refine lv_iconst (v := (0 : Int32)) hx hb dX10_isNamed_59 (by decide) ?_
        exact hC_60 (0 : Int32) x1 x2 x3 x5 S2 H locs I ls (lv_sub hl [0, 1, 2, 3, 5] rfl) hpf
      refine lv_aload_n hx hb dX10_isNamed_33 rfl (lv_at hl 0 rfl) ?_
      refine m_getr C I mRef_45 kM_42 34 dX10_isNamed_34 ?_
      refine lv_iload hx hb dX10_isNamed_37 (lv_at hl 5 rfl) ?_
      refine m_iald C I mArr_45 39 dX10_isNamed_39 hpf (fun hpf => ?_)
      refine lv_iload_n hx hb dX10_isNamed_40 rfl (lv_at hl 1 rfl) ?_
      refine b_icmp_ne hx hb 59 41 dX10_isNamed_41 (by decide) hpf (fun hpf => ?_) (fun hpf => ?_)
      · refine lv_iconst (v := (0 : Int32)) hx hb dX10_isNamed_59 (by decide) ?_
        exact hC_60 (0 : Int32) x1 x2 x3 x5 S2 H locs I ls (lv_sub hl [0, 1, 2, 3, 5] rfl) hpf
      refine lv_aload_n hx hb dX10_isNamed_44 rfl (lv_at hl 0 rfl) ?_
      refine m_getr C I mRef_46 kM_43 45 dX10_isNamed_45 ?_
      refine lv_iload hx hb dX10_isNamed_48 (lv_at hl 5 rfl) ?_
      refine m_iald C I mArr_46 50 dX10_isNamed_50 hpf (fun hpf => ?_)
      refine lv_iload_n hx hb dX10_isNamed_51 rfl (lv_at hl 3 rfl) ?_
      refine b_icmp_ne hx hb 59 52 dX10_isNamed_52 (by decide) hpf (fun hpf => ?_) (fun hpf => ?_)
      · refine lv_iconst (v := (0 : Int32)) hx hb dX10_isNamed_59 (by decide) ?_
        exact hC_60 (0 : Int32) x1 x2 x3 x5 S2 H locs I ls (lv_sub hl [0, 1, 2, 3, 5] rfl) hpf
      refine lv_iconst (v := (1 : Int32)) hx hb dX10_isNamed_55 (by decide) ?_
      refine lv_goto (tgt := 60) hx hb dX10_isNamed_56 (by decide) ?_
      exact hC_60 (1 : Int32) x1 x2 x3 x5 S2 H locs I ls (lv_sub hl [0, 1, 2, 3, 5] rfl) hpf
  refine lv_iconst (v := (0 : Int32)) hx hb dX10_isNamed_0 (by decide) ?_
  refine lv_istore (lv' := [(4, .int (0 : Int32)), (0, .ref h), (1, .int x1), (2, .int x2), (3, .int x3)]) hx hb dX10_isNamed_1 hl (by decide) rfl (fun ls hl => ?_)
  refine lv_iconst (v := (1 : Int32)) hx hb dX10_isNamed_3 (by decide) ?_
  refine lv_istore (lv' := [(5, .int (1 : Int32)), (4, .int (0 : Int32)), (0, .ref h), (1, .int x1), (2, .int x2), (3, .int x3)]) hx hb dX10_isNamed_4 hl (by decide) rfl (fun ls hl => ?_)
  exact hC_6 N x1 x2 x3 (0 : Int32) (1 : Int32) S H locs I ls (lv_sub hl [2, 3, 4, 5, 1, 0] rfl) hpf
-- ===== requiredBy =====
def pf_requiredBy_4 (N : Nat) : Nat → Int32 → Int32 → mS → Option (Int32 × mS)
  | 0 => fun _ _ _ => none
  | n_4 + 1 => fun x2 x3 S =>
    if x3 = (-1 : Int32) then (
      some (x2, S))
    else (
      gd x3 8 <|
      nm (x2 ||| (S.2 6 x3.toNatClampNeg)) fun y1 =>
      gd x3 8 <|
      nm (S.2 5 x3.toNatClampNeg) fun y2 =>
      pf_requiredBy_4 N n_4 y1 y2 S)
def pf_requiredBy (N : Nat) (x1 : Int32) (S : mS) : Option (Int32 × mS) :=
    pf_requiredBy_4 N N (0 : Int32) x1 S
theorem fn_requiredBy : mFnI yX10_requiredBy cX10_requiredBy 4 (some .int) 1 262 := ⟨kM_156, kM_157, kM_158, kM_118, rfl, by decide +kernel, by decide⟩
set_option maxRecDepth 100000 in
set_option maxHeartbeats 4000000 in
theorem c_requiredBy (l : Launch) (N : Nat) (x1 : Int32) : mMet l yX10_requiredBy cX10_requiredBy 4 .int 0 [.int x1] (pf_requiredBy N x1) := by
  refine mStart (by decide +kernel) rfl (fun h => [(0, .ref h), (1, .int x1)]) (fun _ => Nat.le_of_ble_eq_true rfl) (fun _ => rfl) ?_
  intro dC dI h cI cZ a sz S r Sf hpf p e s m args below meth c C hr hz H locs I ls hl
  have hx := C.1
  have hb := C.2.1
  unfold pf_requiredBy at hpf
  have hC_4 : ∀ (n_4 : Nat), ∀ (x2 : Int32) (x3 : Int32) (S : mS) (H : Heap) (locs : List Loc), mV dC dI h cI cZ a s S H locs → ∀ ls : Array Slot, lv_has ls 4 [(0, .ref h), (2, .int x2), (3, .int x3)] → pf_requiredBy_4 N n_4 x2 x3 S = some (r, Sf) → W p l e (mRm 0) s m args below meth c H locs 0 0 (MQ below (mQ dC dI h cI cZ a sz r Sf) args s 0 0 (mAt h cI cZ a sz)) (F0 m 4 ls []) := by
    intro n_4
    induction n_4 with
    | zero =>
      intro x2 x3 S H locs I ls hl hpf
      rw [pf_requiredBy_4] at hpf
      cases hpf
    | succ n_4 ih_4 =>
      intro x2 x3 S H locs I ls hl hpf
      rw [pf_requiredBy_4] at hpf
      refine lv_iload_n hx hb dX10_requiredBy_4 rfl (lv_at hl 2 rfl) ?_
      refine lv_iconst (v := (-1 : Int32)) hx hb dX10_requiredBy_5 (by decide) ?_
      refine b_icmp_eq hx hb 28 6 dX10_requiredBy_6 (by decide) hpf (fun hpf => ?_) (fun hpf => ?_)
      · refine lv_iload_n hx hb dX10_requiredBy_28 rfl (lv_at hl 1 rfl) ?_
        exact m_reti C I hr hz 29 dX10_requiredBy_29 hpf
      refine lv_iload_n hx hb dX10_requiredBy_9 rfl (lv_at hl 1 rfl) ?_
      refine lv_aload_n hx hb dX10_requiredBy_10 rfl (lv_at hl 0 rfl) ?_
      refine m_getr C I mRef_6 kM_8 11 dX10_requiredBy_11 ?_
      refine lv_iload_n hx hb dX10_requiredBy_14 rfl (lv_at hl 2 rfl) ?_
      refine m_iald C I mArr_6 15 dX10_requiredBy_15 hpf (fun hpf => ?_)
      refine lv_ior hx hb dX10_requiredBy_16 ?_
      refine m_isto_n hx hb (fun y1 => [(2, .int y1), (0, .ref h), (3, .int x3)]) 17 dX10_requiredBy_17 rfl hl (by decide) (fun _ => rfl) hpf (fun y1 ls hl hpf => ?_)
      refine lv_aload_n hx hb dX10_requiredBy_18 rfl (lv_at hl 1 rfl) ?_
      refine m_getr C I mRef_5 kM_7 19 dX10_requiredBy_19 ?_
      refine lv_iload_n hx hb dX10_requiredBy_22 rfl (lv_at hl 2 rfl) ?_
      refine m_iald C I mArr_5 23 dX10_requiredBy_23 hpf (fun hpf => ?_)
      refine m_isto_n hx hb (fun y2 => [(3, .int y2), (2, .int y1), (0, .ref h)]) 24 dX10_requiredBy_24 rfl hl (by decide) (fun _ => rfl) hpf (fun y2 ls hl hpf => ?_)
      refine lv_goto (tgt := 4) hx hb dX10_requiredBy_25 (by decide) ?_
      exact ih_4 y1 y2 S H locs I ls (lv_sub hl [2, 1, 0] rfl) hpf
  refine lv_iconst (v := (0 : Int32)) hx hb dX10_requiredBy_0 (by decide) ?_
  refine lv_istore_n (lv' := [(2, .int (0 : Int32)), (0, .ref h), (1, .int x1)]) hx hb dX10_requiredBy_1 rfl hl (by decide) rfl (fun ls hl => ?_)
  refine lv_iload_n hx hb dX10_requiredBy_2 rfl (lv_at hl 2 rfl) ?_
  refine lv_istore_n (lv' := [(3, .int x1), (2, .int (0 : Int32)), (0, .ref h), (1, .int x1)]) hx hb dX10_requiredBy_3 rfl hl (by decide) rfl (fun ls hl => ?_)
  exact hC_4 N (0 : Int32) x1 S H locs I ls (lv_sub hl [2, 1, 0] rfl) hpf
-- ===== allowedBy =====
def pf_allowedBy_4 (N : Nat) : Nat → Int32 → Int32 → mS → Option (Int32 × mS)
  | 0 => fun _ _ _ => none
  | n_4 + 1 => fun x2 x3 S =>
    if x3 = (-1 : Int32) then (
      some (x2, S))
    else (
      gd x3 8 <|
      gd x3 8 <|
      nm (x2 ||| ((S.2 6 x3.toNatClampNeg) ||| (S.2 7 x3.toNatClampNeg))) fun y1 =>
      gd x3 8 <|
      nm (S.2 5 x3.toNatClampNeg) fun y2 =>
      pf_allowedBy_4 N n_4 y1 y2 S)
def pf_allowedBy (N : Nat) (x1 : Int32) (S : mS) : Option (Int32 × mS) :=
    pf_allowedBy_4 N N (0 : Int32) x1 S
theorem fn_allowedBy : mFnI yX10_allowedBy cX10_allowedBy 4 (some .int) 1 259 := ⟨kM_153, kM_154, kM_155, kM_119, rfl, by decide +kernel, by decide⟩
set_option maxRecDepth 100000 in
set_option maxHeartbeats 4000000 in
theorem c_allowedBy (l : Launch) (N : Nat) (x1 : Int32) : mMet l yX10_allowedBy cX10_allowedBy 4 .int 0 [.int x1] (pf_allowedBy N x1) := by
  refine mStart (by decide +kernel) rfl (fun h => [(0, .ref h), (1, .int x1)]) (fun _ => Nat.le_of_ble_eq_true rfl) (fun _ => rfl) ?_
  intro dC dI h cI cZ a sz S r Sf hpf p e s m args below meth c C hr hz H locs I ls hl
  have hx := C.1
  have hb := C.2.1
  unfold pf_allowedBy at hpf
  have hC_4 : ∀ (n_4 : Nat), ∀ (x2 : Int32) (x3 : Int32) (S : mS) (H : Heap) (locs : List Loc), mV dC dI h cI cZ a s S H locs → ∀ ls : Array Slot, lv_has ls 4 [(0, .ref h), (2, .int x2), (3, .int x3)] → pf_allowedBy_4 N n_4 x2 x3 S = some (r, Sf) → W p l e (mRm 0) s m args below meth c H locs 0 0 (MQ below (mQ dC dI h cI cZ a sz r Sf) args s 0 0 (mAt h cI cZ a sz)) (F0 m 4 ls []) := by
    intro n_4
    induction n_4 with
    | zero =>
      intro x2 x3 S H locs I ls hl hpf
      rw [pf_allowedBy_4] at hpf
      cases hpf
    | succ n_4 ih_4 =>
      intro x2 x3 S H locs I ls hl hpf
      rw [pf_allowedBy_4] at hpf
      refine lv_iload_n hx hb dX10_allowedBy_4 rfl (lv_at hl 2 rfl) ?_
      refine lv_iconst (v := (-1 : Int32)) hx hb dX10_allowedBy_5 (by decide) ?_
      refine b_icmp_eq hx hb 35 6 dX10_allowedBy_6 (by decide) hpf (fun hpf => ?_) (fun hpf => ?_)
      · refine lv_iload_n hx hb dX10_allowedBy_35 rfl (lv_at hl 1 rfl) ?_
        exact m_reti C I hr hz 36 dX10_allowedBy_36 hpf
      refine lv_iload_n hx hb dX10_allowedBy_9 rfl (lv_at hl 1 rfl) ?_
      refine lv_aload_n hx hb dX10_allowedBy_10 rfl (lv_at hl 0 rfl) ?_
      refine m_getr C I mRef_6 kM_8 11 dX10_allowedBy_11 ?_
      refine lv_iload_n hx hb dX10_allowedBy_14 rfl (lv_at hl 2 rfl) ?_
      refine m_iald C I mArr_6 15 dX10_allowedBy_15 hpf (fun hpf => ?_)
      refine lv_aload_n hx hb dX10_allowedBy_16 rfl (lv_at hl 0 rfl) ?_
      refine m_getr C I mRef_7 kM_9 17 dX10_allowedBy_17 ?_
      refine lv_iload_n hx hb dX10_allowedBy_20 rfl (lv_at hl 2 rfl) ?_
      refine m_iald C I mArr_7 21 dX10_allowedBy_21 hpf (fun hpf => ?_)
      refine lv_ior hx hb dX10_allowedBy_22 ?_
      refine lv_ior hx hb dX10_allowedBy_23 ?_
      refine m_isto_n hx hb (fun y1 => [(2, .int y1), (0, .ref h), (3, .int x3)]) 24 dX10_allowedBy_24 rfl hl (by decide) (fun _ => rfl) hpf (fun y1 ls hl hpf => ?_)
      refine lv_aload_n hx hb dX10_allowedBy_25 rfl (lv_at hl 1 rfl) ?_
      refine m_getr C I mRef_5 kM_7 26 dX10_allowedBy_26 ?_
      refine lv_iload_n hx hb dX10_allowedBy_29 rfl (lv_at hl 2 rfl) ?_
      refine m_iald C I mArr_5 30 dX10_allowedBy_30 hpf (fun hpf => ?_)
      refine m_isto_n hx hb (fun y2 => [(3, .int y2), (2, .int y1), (0, .ref h)]) 31 dX10_allowedBy_31 rfl hl (by decide) (fun _ => rfl) hpf (fun y2 ls hl hpf => ?_)
      refine lv_goto (tgt := 4) hx hb dX10_allowedBy_32 (by decide) ?_
      exact ih_4 y1 y2 S H locs I ls (lv_sub hl [2, 1, 0] rfl) hpf
  refine lv_iconst (v := (0 : Int32)) hx hb dX10_allowedBy_0 (by decide) ?_
  refine lv_istore_n (lv' := [(2, .int (0 : Int32)), (0, .ref h), (1, .int x1)]) hx hb dX10_allowedBy_1 rfl hl (by decide) rfl (fun ls hl => ?_)
  refine lv_iload_n hx hb dX10_allowedBy_2 rfl (lv_at hl 2 rfl) ?_
  refine lv_istore_n (lv' := [(3, .int x1), (2, .int (0 : Int32)), (0, .ref h), (1, .int x1)]) hx hb dX10_allowedBy_3 rfl hl (by decide) rfl (fun ls hl => ?_)
  exact hC_4 N (0 : Int32) x1 S H locs I ls (lv_sub hl [2, 1, 0] rfl) hpf
-- ===== applies =====
def pf_applies_12 (N : Nat) (x1 : Int32) (x2 : Int32) (S : mS) : Option (Int32 × mS) :=
    if x2 = x1 then (
      some ((1 : Int32), S))
    else (
      if x2 = (54 : Int32) then (
        some ((1 : Int32), S))
      else (
        some ((0 : Int32), S)))
def pf_applies (N : Nat) (x1 : Int32) (x2 : Int32) (S : mS) : Option (Int32 × mS) :=
    if x2 < (6 : Int32) then (
      pf_applies_12 N x1 x2 S)
    else (
      if x2 = (54 : Int32) then (
        pf_applies_12 N x1 x2 S)
      else (
        bd (pf_isLive N (x2 - (6 : Int32)) S) fun v1 S2 =>
        if v1 = (0 : Int32) then (
          some ((0 : Int32), S2))
        else (
          if (S2.1 1) ≤ (0 : Int32) then (
            some ((0 : Int32), S2))
          else (
            bd (pf_hasMatch N (x2 - (6 : Int32)) (0 : Int32) x1 S2) fun v3 S4 =>
            if v3 = (0 : Int32) then (
              some ((0 : Int32), S4))
            else (
              some ((1 : Int32), S4))))))
theorem fn_applies : mFnI yX10_applies cX10_applies 3 (some .boolean) 2 236 := ⟨kM_124, kM_125, kM_126, kM_120, rfl, by decide +kernel, by decide⟩
set_option maxRecDepth 100000 in
set_option maxHeartbeats 4000000 in
theorem c_applies (l : Launch) (N : Nat) (x1 : Int32) (x2 : Int32) : mMet l yX10_applies cX10_applies 3 .boolean 2 [.int x1, .int x2] (pf_applies N x1 x2) := by
  refine mStart (by decide +kernel) rfl (fun h => [(0, .ref h), (1, .int x1), (2, .int x2)]) (fun _ => Nat.le_of_ble_eq_true rfl) (fun _ => rfl) ?_
  intro dC dI h cI cZ a sz S r Sf hpf p e s m args below meth c C hr hz H locs I ls hl
  have hx := C.1
  have hb := C.2.1
  unfold pf_applies at hpf
  have hC_12 : ∀ (x1 : Int32) (x2 : Int32) (S : mS) (H : Heap) (locs : List Loc), mV dC dI h cI cZ a s S H locs → ∀ ls : Array Slot, lv_has ls 3 [(0, .ref h), (1, .int x1), (2, .int x2)] → pf_applies_12 N x1 x2 S = some (r, Sf) → W p l e (mRm 2) s m args below meth c H locs 0 0 (MQ below (mQ dC dI h cI cZ a sz r Sf) args s 0 0 (mAt h cI cZ a sz)) (F0 m 12 ls []) := by
    intro x1 x2 S H locs I ls hl hpf
    unfold pf_applies_12 at hpf
    refine lv_iload_n hx hb dX10_applies_12 rfl (lv_at hl 2 rfl) ?_
    refine lv_iload_n hx hb dX10_applies_13 rfl (lv_at hl 1 rfl) ?_
    refine b_icmp_eq hx hb 23 14 dX10_applies_14 (by decide) hpf (fun hpf => ?_) (fun hpf => ?_)
    · refine lv_iconst (v := (1 : Int32)) hx hb dX10_applies_23 (by decide) ?_
      refine lv_goto (tgt := 28) hx hb dX10_applies_24 (by decide) ?_
      exact m_retzc C I hr hz 28 dX10_applies_28 (by decide) hpf
    refine lv_iload_n hx hb dX10_applies_17 rfl (lv_at hl 2 rfl) ?_
    refine lv_bipush (v := (54 : Int32)) hx hb dX10_applies_18 (by decide) ?_
    refine b_icmp_ne hx hb 27 20 dX10_applies_20 (by decide) hpf (fun hpf => ?_) (fun hpf => ?_)
    · refine lv_iconst (v := (0 : Int32)) hx hb dX10_applies_27 (by decide) ?_
      exact m_retzc C I hr hz 28 dX10_applies_28 (by decide) hpf
    refine lv_iconst (v := (1 : Int32)) hx hb dX10_applies_23 (by decide) ?_
    refine lv_goto (tgt := 28) hx hb dX10_applies_24 (by decide) ?_
    exact m_retzc C I hr hz 28 dX10_applies_28 (by decide) hpf
  refine lv_iload_n hx hb dX10_applies_0 rfl (lv_at hl 2 rfl) ?_
  refine lv_bipush (v := (6 : Int32)) hx hb dX10_applies_1 (by decide) ?_
  refine b_icmp_lt hx hb 12 3 dX10_applies_3 (by decide) hpf (fun hpf => ?_) (fun hpf => ?_)
  · exact hC_12 x1 x2 S H locs I ls (lv_sub hl [0, 1, 2] rfl) hpf
  refine lv_iload_n hx hb dX10_applies_6 rfl (lv_at hl 2 rfl) ?_
  refine lv_bipush (v := (54 : Int32)) hx hb dX10_applies_7 (by decide) ?_
  refine b_icmp_ne hx hb 29 9 dX10_applies_9 (by decide) hpf (fun hpf => ?_) (fun hpf => ?_)
  · refine lv_aload_n hx hb dX10_applies_29 rfl (lv_at hl 0 rfl) ?_
    refine lv_iload_n hx hb dX10_applies_30 rfl (lv_at hl 2 rfl) ?_
    refine lv_bipush (v := (6 : Int32)) hx hb dX10_applies_31 (by decide) ?_
    refine lv_isub hx hb dX10_applies_33 ?_
    refine m_callI (rest := []) (As := [.int (x2 - (6 : Int32))]) C I fn_isLive (c_isLive l N (x2 - (6 : Int32))) (by decide) 34 dX10_applies_34 rfl hl.1 rfl (Nat.le_of_ble_eq_true rfl) hpf (fun v1 S2 H locs I hpf => ?_)
    refine b_if_eq hx hb 64 37 dX10_applies_37 (by decide) hpf (fun hpf => ?_) (fun hpf => ?_)
    · refine lv_iconst (v := (0 : Int32)) hx hb dX10_applies_64 (by decide) ?_
      exact m_retzc C I hr hz 65 dX10_applies_65 (by decide) hpf
    refine lv_aload_n hx hb dX10_applies_40 rfl (lv_at hl 0 rfl) ?_
    refine m_geti C I mInt_1 kM_70 41 dX10_applies_41 ?_
    refine b_if_le hx hb 64 44 dX10_applies_44 (by decide) hpf (fun hpf => ?_) (fun hpf => ?_)
    · refine lv_iconst (v := (0 : Int32)) hx hb dX10_applies_64 (by decide) ?_
      exact m_retzc C I hr hz 65 dX10_applies_65 (by decide) hpf
    refine lv_aload_n hx hb dX10_applies_47 rfl (lv_at hl 0 rfl) ?_
    refine lv_iload_n hx hb dX10_applies_48 rfl (lv_at hl 2 rfl) ?_
    refine lv_bipush (v := (6 : Int32)) hx hb dX10_applies_49 (by decide) ?_
    refine lv_isub hx hb dX10_applies_51 ?_
    refine lv_iconst (v := (0 : Int32)) hx hb dX10_applies_52 (by decide) ?_
    refine lv_iload_n hx hb dX10_applies_53 rfl (lv_at hl 1 rfl) ?_
    refine m_callI (rest := []) (As := [.int (x2 - (6 : Int32)), .int (0 : Int32), .int x1]) C I fn_hasMatch (c_hasMatch l N (x2 - (6 : Int32)) (0 : Int32) x1) (by decide) 54 dX10_applies_54 rfl hl.1 rfl (Nat.le_of_ble_eq_true rfl) hpf (fun v3 S4 H locs I hpf => ?_)
    refine b_if_eq hx hb 64 57 dX10_applies_57 (by decide) hpf (fun hpf => ?_) (fun hpf => ?_)
    · refine lv_iconst (v := (0 : Int32)) hx hb dX10_applies_64 (by decide) ?_
      exact m_retzc C I hr hz 65 dX10_applies_65 (by decide) hpf
    refine lv_iconst (v := (1 : Int32)) hx hb dX10_applies_60 (by decide) ?_
    refine lv_goto (tgt := 65) hx hb dX10_applies_61 (by decide) ?_
    exact m_retzc C I hr hz 65 dX10_applies_65 (by decide) hpf
  exact hC_12 x1 x2 S H locs I ls (lv_sub hl [0, 1, 2] rfl) hpf
-- ===== decides =====
def pf_decides_158 (N : Nat) (x5 : Int32) (x6 : Int32) (S : mS) : Option (Int32 × mS) :=
    if x5 = (3 : Int32) then (
      some ((0 : Int32), S))
    else (
      if x6 = (0 : Int32) then (
        some ((1 : Int32), S))
      else (
        some ((2 : Int32), S)))
def pf_decides_152 (N : Nat) (k_9 : Int32 → Int32 → Int32 → Int32 → Int32 → Int32 → Int32 → mS → Option (Int32 × mS)) (x1 : Int32) (x2 : Int32) (x3 : Int32) (x4 : Int32) (x5 : Int32) (x6 : Int32) (x7 : Int32) (S : mS) : Option (Int32 × mS) :=
    nm (x7 + (1 : Int32)) fun y1 =>
    k_9 x1 x2 x3 x4 x5 x6 y1 S
def pf_decides_146 (N : Nat) (k_9 : Int32 → Int32 → Int32 → Int32 → Int32 → Int32 → Int32 → mS → Option (Int32 × mS)) (t0 : Int32) (x1 : Int32) (x2 : Int32) (x3 : Int32) (x4 : Int32) (x7 : Int32) (x8 : Int32) (S : mS) : Option (Int32 × mS) :=
    pf_decides_152 N k_9 x1 x2 x3 x4 x8 t0 x7 S
def pf_decides_129 (N : Nat) (k_9 : Int32 → Int32 → Int32 → Int32 → Int32 → Int32 → Int32 → mS → Option (Int32 × mS)) (x1 : Int32) (x2 : Int32) (x3 : Int32) (x4 : Int32) (x7 : Int32) (x8 : Int32) (x10 : Int32) (x11 : Int32) (S : mS) : Option (Int32 × mS) :=
    if x10 = (2 : Int32) then (
      pf_decides_146 N k_9 (1 : Int32) x1 x2 x3 x4 x7 x8 S)
    else (
      if x11 = (2 : Int32) then (
        pf_decides_146 N k_9 (1 : Int32) x1 x2 x3 x4 x7 x8 S)
      else (
        pf_decides_146 N k_9 (0 : Int32) x1 x2 x3 x4 x7 x8 S))
def pf_decides_100 (N : Nat) (k_9 : Int32 → Int32 → Int32 → Int32 → Int32 → Int32 → Int32 → mS → Option (Int32 × mS)) (x1 : Int32) (x2 : Int32) (x3 : Int32) (x4 : Int32) (x5 : Int32) (x6 : Int32) (x7 : Int32) (x8 : Int32) (x10 : Int32) (x11 : Int32) (S : mS) : Option (Int32 × mS) :=
    bd (pf_applies N x1 x7 S) fun v1 S2 =>
    if v1 = (0 : Int32) then (
      pf_decides_152 N k_9 x1 x2 x3 x4 x5 x6 x7 S2)
    else (
      if x5 < x8 then (
        pf_decides_152 N k_9 x1 x2 x3 x4 x5 x6 x7 S2)
      else (
        if x8 = x5 then (
          if x6 = (0 : Int32) then (
            pf_decides_129 N k_9 x1 x2 x3 x4 x7 x8 x10 x11 S2)
          else (
            pf_decides_146 N k_9 (1 : Int32) x1 x2 x3 x4 x7 x8 S2))
        else (
          pf_decides_129 N k_9 x1 x2 x3 x4 x7 x8 x10 x11 S2)))
def pf_decides_77 (N : Nat) (k_9 : Int32 → Int32 → Int32 → Int32 → Int32 → Int32 → Int32 → mS → Option (Int32 × mS)) (t0 : Int32) (x1 : Int32) (x2 : Int32) (x3 : Int32) (x4 : Int32) (x5 : Int32) (x6 : Int32) (x7 : Int32) (x8 : Int32) (x9 : Int32) (S : mS) : Option (Int32 × mS) :=
    gd (x9 + (4 : Int32)) 15840 <|
    nm (S.2 51 (x9 + (4 : Int32)).toNatClampNeg) fun y1 =>
    if (0 : Int32) < t0 then (
      pf_decides_100 N k_9 x1 x2 x3 x4 x5 x6 x7 x8 t0 y1 S)
    else (
      if y1 ≤ (0 : Int32) then (
        pf_decides_152 N k_9 x1 x2 x3 x4 x5 x6 x7 S)
      else (
        pf_decides_100 N k_9 x1 x2 x3 x4 x5 x6 x7 x8 t0 y1 S))
def pf_decides_39 (N : Nat) (k_9 : Int32 → Int32 → Int32 → Int32 → Int32 → Int32 → Int32 → mS → Option (Int32 × mS)) (t0 : Int32) (x1 : Int32) (x2 : Int32) (x3 : Int32) (x4 : Int32) (x5 : Int32) (x6 : Int32) (x7 : Int32) (S : mS) : Option (Int32 × mS) :=
    nm ((((330 : Int32) * x2) + ((6 : Int32) * x7)) + x4) fun y1 =>
    if x3 ≤ (1 : Int32) then (
      gd (y1 + ((2 : Int32) * x3)) 15840 <|
      pf_decides_77 N k_9 (S.2 51 (y1 + ((2 : Int32) * x3)).toNatClampNeg) x1 x2 x3 x4 x5 x6 x7 t0 y1 S)
    else (
      pf_decides_77 N k_9 (0 : Int32) x1 x2 x3 x4 x5 x6 x7 t0 y1 S)
def pf_decides_9 (N : Nat) (k_158 : Int32 → Int32 → mS → Option (Int32 × mS)) : Nat → Int32 → Int32 → Int32 → Int32 → Int32 → Int32 → Int32 → mS → Option (Int32 × mS)
  | 0 => fun _ _ _ _ _ _ _ _ => none
  | n_9 + 1 => fun x1 x2 x3 x4 x5 x6 x7 S =>
    if (54 : Int32) < x7 then (
      k_158 x5 x6 S)
    else (
      if (6 : Int32) ≤ x7 then (
        if (54 : Int32) ≤ x7 then (
          pf_decides_39 N (pf_decides_9 N k_158 n_9) (2 : Int32) x1 x2 x3 x4 x5 x6 x7 S)
        else (
          pf_decides_39 N (pf_decides_9 N k_158 n_9) (1 : Int32) x1 x2 x3 x4 x5 x6 x7 S))
      else (
        pf_decides_39 N (pf_decides_9 N k_158 n_9) (0 : Int32) x1 x2 x3 x4 x5 x6 x7 S))
def pf_decides (N : Nat) (x1 : Int32) (x2 : Int32) (x3 : Int32) (x4 : Int32) (S : mS) : Option (Int32 × mS) :=
    pf_decides_9 N (pf_decides_158 N) N x1 x2 x3 x4 (3 : Int32) (0 : Int32) (0 : Int32) S
theorem fn_decides : mFnI yX10_decides cX10_decides 12 (some .int) 4 239 := ⟨kM_128, kM_129, kM_130, kM_127, rfl, by decide +kernel, by decide⟩
set_option maxRecDepth 100000 in
set_option maxHeartbeats 4000000 in
theorem c_decides (l : Launch) (N : Nat) (x1 : Int32) (x2 : Int32) (x3 : Int32) (x4 : Int32) : mMet l yX10_decides cX10_decides 12 .int 3 [.int x1, .int x2, .int x3, .int x4] (pf_decides N x1 x2 x3 x4) := by
  refine mStart (by decide +kernel) rfl (fun h => [(0, .ref h), (1, .int x1), (2, .int x2), (3, .int x3), (4, .int x4)]) (fun _ => Nat.le_of_ble_eq_true rfl) (fun _ => rfl) ?_
  intro dC dI h cI cZ a sz S r Sf hpf p e s m args below meth c C hr hz H locs I ls hl
  have hx := C.1
  have hb := C.2.1
  unfold pf_decides at hpf
  have hC_158 : ∀ (x5 : Int32) (x6 : Int32) (S : mS) (H : Heap) (locs : List Loc), mV dC dI h cI cZ a s S H locs → ∀ ls : Array Slot, lv_has ls 12 [(0, .ref h), (5, .int x5), (6, .int x6)] → pf_decides_158 N x5 x6 S = some (r, Sf) → W p l e (mRm 3) s m args below meth c H locs 0 0 (MQ below (mQ dC dI h cI cZ a sz r Sf) args s 0 0 (mAt h cI cZ a sz)) (F0 m 158 ls []) := by
    intro x5 x6 S H locs I ls hl hpf
    unfold pf_decides_158 at hpf
    refine lv_iload hx hb dX10_decides_158 (lv_at hl 1 rfl) ?_
    refine lv_iconst (v := (3 : Int32)) hx hb dX10_decides_160 (by decide) ?_
    refine b_icmp_ne hx hb 168 161 dX10_decides_161 (by decide) hpf (fun hpf => ?_) (fun hpf => ?_)
    · refine lv_iload hx hb dX10_decides_168 (lv_at hl 2 rfl) ?_
      refine b_if_eq hx hb 177 170 dX10_decides_170 (by decide) hpf (fun hpf => ?_) (fun hpf => ?_)
      · refine lv_iconst (v := (1 : Int32)) hx hb dX10_decides_177 (by decide) ?_
        exact m_reti C I hr hz 178 dX10_decides_178 hpf
      refine lv_iconst (v := (2 : Int32)) hx hb dX10_decides_173 (by decide) ?_
      refine lv_goto (tgt := 178) hx hb dX10_decides_174 (by decide) ?_
      exact m_reti C I hr hz 178 dX10_decides_178 hpf
    refine lv_iconst (v := (0 : Int32)) hx hb dX10_decides_164 (by decide) ?_
    refine lv_goto (tgt := 178) hx hb dX10_decides_165 (by decide) ?_
    exact m_reti C I hr hz 178 dX10_decides_178 hpf
  have hC_9 : ∀ (n_9 : Nat), ∀ (x1 : Int32) (x2 : Int32) (x3 : Int32) (x4 : Int32) (x5 : Int32) (x6 : Int32) (x7 : Int32) (S : mS) (H : Heap) (locs : List Loc), mV dC dI h cI cZ a s S H locs → ∀ ls : Array Slot, lv_has ls 12 [(0, .ref h), (1, .int x1), (2, .int x2), (3, .int x3), (4, .int x4), (5, .int x5), (6, .int x6), (7, .int x7)] → pf_decides_9 N (pf_decides_158 N) n_9 x1 x2 x3 x4 x5 x6 x7 S = some (r, Sf) → W p l e (mRm 3) s m args below meth c H locs 0 0 (MQ below (mQ dC dI h cI cZ a sz r Sf) args s 0 0 (mAt h cI cZ a sz)) (F0 m 9 ls []) := by
    intro n_9
    induction n_9 with
    | zero =>
      intro x1 x2 x3 x4 x5 x6 x7 S H locs I ls hl hpf
      rw [pf_decides_9] at hpf
      cases hpf
    | succ n_9 ih_9 =>
      have hC_152 : ∀ (x1 : Int32) (x2 : Int32) (x3 : Int32) (x4 : Int32) (x5 : Int32) (x6 : Int32) (x7 : Int32) (S : mS) (H : Heap) (locs : List Loc), mV dC dI h cI cZ a s S H locs → ∀ ls : Array Slot, lv_has ls 12 [(0, .ref h), (1, .int x1), (2, .int x2), (3, .int x3), (4, .int x4), (5, .int x5), (6, .int x6), (7, .int x7)] → pf_decides_152 N (pf_decides_9 N (pf_decides_158 N) n_9) x1 x2 x3 x4 x5 x6 x7 S = some (r, Sf) → W p l e (mRm 3) s m args below meth c H locs 0 0 (MQ below (mQ dC dI h cI cZ a sz r Sf) args s 0 0 (mAt h cI cZ a sz)) (F0 m 152 ls []) := by
        intro x1 x2 x3 x4 x5 x6 x7 S H locs I ls hl hpf
        unfold pf_decides_152 at hpf
        refine m_iinc (w := (1 : Int32)) hx hb (fun y1 => [(7, .int y1), (0, .ref h), (1, .int x1), (2, .int x2), (3, .int x3), (4, .int x4), (5, .int x5), (6, .int x6)]) 152 dX10_decides_152 hl (k := 7) rfl (by decide) (by decide) (fun _ => rfl) hpf (fun y1 ls hl hpf => ?_)
        refine lv_goto (tgt := 9) hx hb dX10_decides_155 (by decide) ?_
        exact ih_9 x1 x2 x3 x4 x5 x6 y1 S H locs I ls (lv_sub hl [1, 2, 3, 4, 5, 6, 7, 0] rfl) hpf
      have hC_146 : ∀ (t0 : Int32) (x1 : Int32) (x2 : Int32) (x3 : Int32) (x4 : Int32) (x7 : Int32) (x8 : Int32) (S : mS) (H : Heap) (locs : List Loc), mV dC dI h cI cZ a s S H locs → ∀ ls : Array Slot, lv_has ls 12 [(0, .ref h), (1, .int x1), (2, .int x2), (3, .int x3), (4, .int x4), (7, .int x7), (8, .int x8)] → pf_decides_146 N (pf_decides_9 N (pf_decides_158 N) n_9) t0 x1 x2 x3 x4 x7 x8 S = some (r, Sf) → W p l e (mRm 3) s m args below meth c H locs 0 0 (MQ below (mQ dC dI h cI cZ a sz r Sf) args s 0 0 (mAt h cI cZ a sz)) (F0 m 146 ls [.int t0]) := by
        intro t0 x1 x2 x3 x4 x7 x8 S H locs I ls hl hpf
        unfold pf_decides_146 at hpf
        refine lv_istore (lv' := [(6, .int t0), (0, .ref h), (1, .int x1), (2, .int x2), (3, .int x3), (4, .int x4), (7, .int x7), (8, .int x8)]) hx hb dX10_decides_146 hl (by decide) rfl (fun ls hl => ?_)
        refine lv_iload hx hb dX10_decides_148 (lv_at hl 7 rfl) ?_
        refine lv_istore (lv' := [(5, .int x8), (6, .int t0), (0, .ref h), (1, .int x1), (2, .int x2), (3, .int x3), (4, .int x4), (7, .int x7), (8, .int x8)]) hx hb dX10_decides_150 hl (by decide) rfl (fun ls hl => ?_)
        exact hC_152 x1 x2 x3 x4 x8 t0 x7 S H locs I ls (lv_sub hl [2, 3, 4, 5, 6, 0, 1, 7] rfl) hpf
      have hC_129 : ∀ (x1 : Int32) (x2 : Int32) (x3 : Int32) (x4 : Int32) (x7 : Int32) (x8 : Int32) (x10 : Int32) (x11 : Int32) (S : mS) (H : Heap) (locs : List Loc), mV dC dI h cI cZ a s S H locs → ∀ ls : Array Slot, lv_has ls 12 [(0, .ref h), (1, .int x1), (2, .int x2), (3, .int x3), (4, .int x4), (7, .int x7), (8, .int x8), (10, .int x10), (11, .int x11)] → pf_decides_129 N (pf_decides_9 N (pf_decides_158 N) n_9) x1 x2 x3 x4 x7 x8 x10 x11 S = some (r, Sf) → W p l e (mRm 3) s m args below meth c H locs 0 0 (MQ below (mQ dC dI h cI cZ a sz r Sf) args s 0 0 (mAt h cI cZ a sz)) (F0 m 129 ls []) := by
        intro x1 x2 x3 x4 x7 x8 x10 x11 S H locs I ls hl hpf
        unfold pf_decides_129 at hpf
        refine lv_iload hx hb dX10_decides_129 (lv_at hl 7 rfl) ?_
        refine lv_iconst (v := (2 : Int32)) hx hb dX10_decides_131 (by decide) ?_
        refine b_icmp_eq hx hb 141 132 dX10_decides_132 (by decide) hpf (fun hpf => ?_) (fun hpf => ?_)
        · refine lv_iconst (v := (1 : Int32)) hx hb dX10_decides_141 (by decide) ?_
          refine lv_goto (tgt := 146) hx hb dX10_decides_142 (by decide) ?_
          exact hC_146 (1 : Int32) x1 x2 x3 x4 x7 x8 S H locs I ls (lv_sub hl [0, 1, 2, 3, 4, 5, 6] rfl) hpf
        refine lv_iload hx hb dX10_decides_135 (lv_at hl 8 rfl) ?_
        refine lv_iconst (v := (2 : Int32)) hx hb dX10_decides_137 (by decide) ?_
        refine b_icmp_ne hx hb 145 138 dX10_decides_138 (by decide) hpf (fun hpf => ?_) (fun hpf => ?_)
        · refine lv_iconst (v := (0 : Int32)) hx hb dX10_decides_145 (by decide) ?_
          exact hC_146 (0 : Int32) x1 x2 x3 x4 x7 x8 S H locs I ls (lv_sub hl [0, 1, 2, 3, 4, 5, 6] rfl) hpf
        refine lv_iconst (v := (1 : Int32)) hx hb dX10_decides_141 (by decide) ?_
        refine lv_goto (tgt := 146) hx hb dX10_decides_142 (by decide) ?_
        exact hC_146 (1 : Int32) x1 x2 x3 x4 x7 x8 S H locs I ls (lv_sub hl [0, 1, 2, 3, 4, 5, 6] rfl) hpf
      have hC_100 : ∀ (x1 : Int32) (x2 : Int32) (x3 : Int32) (x4 : Int32) (x5 : Int32) (x6 : Int32) (x7 : Int32) (x8 : Int32) (x10 : Int32) (x11 : Int32) (S : mS) (H : Heap) (locs : List Loc), mV dC dI h cI cZ a s S H locs → ∀ ls : Array Slot, lv_has ls 12 [(0, .ref h), (1, .int x1), (2, .int x2), (3, .int x3), (4, .int x4), (5, .int x5), (6, .int x6), (7, .int x7), (8, .int x8), (10, .int x10), (11, .int x11)] → pf_decides_100 N (pf_decides_9 N (pf_decides_158 N) n_9) x1 x2 x3 x4 x5 x6 x7 x8 x10 x11 S = some (r, Sf) → W p l e (mRm 3) s m args below meth c H locs 0 0 (MQ below (mQ dC dI h cI cZ a sz r Sf) args s 0 0 (mAt h cI cZ a sz)) (F0 m 100 ls []) := by
        intro x1 x2 x3 x4 x5 x6 x7 x8 x10 x11 S H locs I ls hl hpf
        unfold pf_decides_100 at hpf
        refine lv_aload_n hx hb dX10_decides_100 rfl (lv_at hl 0 rfl) ?_
        refine lv_iload_n hx hb dX10_decides_101 rfl (lv_at hl 1 rfl) ?_
        refine lv_iload hx hb dX10_decides_102 (lv_at hl 7 rfl) ?_
        refine m_callI (rest := []) (As := [.int x1, .int x7]) C I fn_applies (c_applies l N x1 x7) (by decide) 104 dX10_decides_104 rfl hl.1 rfl (Nat.le_of_ble_eq_true rfl) hpf (fun v1 S2 H locs I hpf => ?_)
        refine b_if_eq hx hb 152 107 dX10_decides_107 (by decide) hpf (fun hpf => ?_) (fun hpf => ?_)
        · exact hC_152 x1 x2 x3 x4 x5 x6 x7 S2 H locs I ls (lv_sub hl [0, 1, 2, 3, 4, 5, 6, 7] rfl) hpf
        refine lv_iload hx hb dX10_decides_110 (lv_at hl 8 rfl) ?_
        refine lv_iload hx hb dX10_decides_112 (lv_at hl 5 rfl) ?_
        refine b_icmp_gt hx hb 152 114 dX10_decides_114 (by decide) hpf (fun hpf => ?_) (fun hpf => ?_)
        · exact hC_152 x1 x2 x3 x4 x5 x6 x7 S2 H locs I ls (lv_sub hl [0, 1, 2, 3, 4, 5, 6, 7] rfl) hpf
        refine lv_iload hx hb dX10_decides_117 (lv_at hl 8 rfl) ?_
        refine lv_iload hx hb dX10_decides_119 (lv_at hl 5 rfl) ?_
        refine b_icmp_ne hx hb 129 121 dX10_decides_121 (by decide) hpf (fun hpf => ?_) (fun hpf => ?_)
        · exact hC_129 x1 x2 x3 x4 x7 x8 x10 x11 S2 H locs I ls (lv_sub hl [0, 1, 2, 3, 4, 7, 8, 9, 10] rfl) hpf
        refine lv_iload hx hb dX10_decides_124 (lv_at hl 6 rfl) ?_
        refine b_if_ne hx hb 141 126 dX10_decides_126 (by decide) hpf (fun hpf => ?_) (fun hpf => ?_)
        · refine lv_iconst (v := (1 : Int32)) hx hb dX10_decides_141 (by decide) ?_
          refine lv_goto (tgt := 146) hx hb dX10_decides_142 (by decide) ?_
          exact hC_146 (1 : Int32) x1 x2 x3 x4 x7 x8 S2 H locs I ls (lv_sub hl [0, 1, 2, 3, 4, 7, 8] rfl) hpf
        exact hC_129 x1 x2 x3 x4 x7 x8 x10 x11 S2 H locs I ls (lv_sub hl [0, 1, 2, 3, 4, 7, 8, 9, 10] rfl) hpf
      have hC_77 : ∀ (t0 : Int32) (x1 : Int32) (x2 : Int32) (x3 : Int32) (x4 : Int32) (x5 : Int32) (x6 : Int32) (x7 : Int32) (x8 : Int32) (x9 : Int32) (S : mS) (H : Heap) (locs : List Loc), mV dC dI h cI cZ a s S H locs → ∀ ls : Array Slot, lv_has ls 12 [(0, .ref h), (1, .int x1), (2, .int x2), (3, .int x3), (4, .int x4), (5, .int x5), (6, .int x6), (7, .int x7), (8, .int x8), (9, .int x9)] → pf_decides_77 N (pf_decides_9 N (pf_decides_158 N) n_9) t0 x1 x2 x3 x4 x5 x6 x7 x8 x9 S = some (r, Sf) → W p l e (mRm 3) s m args below meth c H locs 0 0 (MQ below (mQ dC dI h cI cZ a sz r Sf) args s 0 0 (mAt h cI cZ a sz)) (F0 m 77 ls [.int t0]) := by
        intro t0 x1 x2 x3 x4 x5 x6 x7 x8 x9 S H locs I ls hl hpf
        unfold pf_decides_77 at hpf
        refine lv_istore (lv' := [(10, .int t0), (0, .ref h), (1, .int x1), (2, .int x2), (3, .int x3), (4, .int x4), (5, .int x5), (6, .int x6), (7, .int x7), (8, .int x8), (9, .int x9)]) hx hb dX10_decides_77 hl (by decide) rfl (fun ls hl => ?_)
        refine lv_aload_n hx hb dX10_decides_79 rfl (lv_at hl 1 rfl) ?_
        refine m_getr C I mRef_51 kM_47 80 dX10_decides_80 ?_
        refine lv_iload hx hb dX10_decides_83 (lv_at hl 10 rfl) ?_
        refine lv_iconst (v := (4 : Int32)) hx hb dX10_decides_85 (by decide) ?_
        refine lv_iadd hx hb dX10_decides_86 ?_
        refine m_iald C I mArr_51 87 dX10_decides_87 hpf (fun hpf => ?_)
        refine m_isto hx hb (fun y1 => [(11, .int y1), (10, .int t0), (0, .ref h), (1, .int x1), (2, .int x2), (3, .int x3), (4, .int x4), (5, .int x5), (6, .int x6), (7, .int x7), (8, .int x8), (9, .int x9)]) 88 dX10_decides_88 hl (by decide) (fun _ => rfl) hpf (fun y1 ls hl hpf => ?_)
        refine lv_iload hx hb dX10_decides_90 (lv_at hl 1 rfl) ?_
        refine b_if_gt hx hb 100 92 dX10_decides_92 (by decide) hpf (fun hpf => ?_) (fun hpf => ?_)
        · exact hC_100 x1 x2 x3 x4 x5 x6 x7 x8 t0 y1 S H locs I ls (lv_sub hl [2, 3, 4, 5, 6, 7, 8, 9, 10, 1, 0] rfl) hpf
        refine lv_iload hx hb dX10_decides_95 (lv_at hl 0 rfl) ?_
        refine b_if_le hx hb 152 97 dX10_decides_97 (by decide) hpf (fun hpf => ?_) (fun hpf => ?_)
        · exact hC_152 x1 x2 x3 x4 x5 x6 x7 S H locs I ls (lv_sub hl [2, 3, 4, 5, 6, 7, 8, 9] rfl) hpf
        exact hC_100 x1 x2 x3 x4 x5 x6 x7 x8 t0 y1 S H locs I ls (lv_sub hl [2, 3, 4, 5, 6, 7, 8, 9, 10, 1, 0] rfl) hpf
      have hC_39 : ∀ (t0 : Int32) (x1 : Int32) (x2 : Int32) (x3 : Int32) (x4 : Int32) (x5 : Int32) (x6 : Int32) (x7 : Int32) (S : mS) (H : Heap) (locs : List Loc), mV dC dI h cI cZ a s S H locs → ∀ ls : Array Slot, lv_has ls 12 [(0, .ref h), (1, .int x1), (2, .int x2), (3, .int x3), (4, .int x4), (5, .int x5), (6, .int x6), (7, .int x7)] → pf_decides_39 N (pf_decides_9 N (pf_decides_158 N) n_9) t0 x1 x2 x3 x4 x5 x6 x7 S = some (r, Sf) → W p l e (mRm 3) s m args below meth c H locs 0 0 (MQ below (mQ dC dI h cI cZ a sz r Sf) args s 0 0 (mAt h cI cZ a sz)) (F0 m 39 ls [.int t0]) := by
        intro t0 x1 x2 x3 x4 x5 x6 x7 S H locs I ls hl hpf
        unfold pf_decides_39 at hpf
        refine lv_istore (lv' := [(8, .int t0), (0, .ref h), (1, .int x1), (2, .int x2), (3, .int x3), (4, .int x4), (5, .int x5), (6, .int x6), (7, .int x7)]) hx hb dX10_decides_39 hl (by decide) rfl (fun ls hl => ?_)
        refine lv_sipush (v := (330 : Int32)) hx hb dX10_decides_41 (by decide) ?_
        refine lv_iload_n hx hb dX10_decides_44 rfl (lv_at hl 3 rfl) ?_
        refine lv_imul hx hb dX10_decides_45 ?_
        refine lv_bipush (v := (6 : Int32)) hx hb dX10_decides_46 (by decide) ?_
        refine lv_iload hx hb dX10_decides_48 (lv_at hl 8 rfl) ?_
        refine lv_imul hx hb dX10_decides_50 ?_
        refine lv_iadd hx hb dX10_decides_51 ?_
        refine lv_iload hx hb dX10_decides_52 (lv_at hl 5 rfl) ?_
        refine lv_iadd hx hb dX10_decides_54 ?_
        refine m_isto hx hb (fun y1 => [(9, .int y1), (8, .int t0), (0, .ref h), (1, .int x1), (2, .int x2), (3, .int x3), (4, .int x4), (5, .int x5), (6, .int x6), (7, .int x7)]) 55 dX10_decides_55 hl (by decide) (fun _ => rfl) hpf (fun y1 ls hl hpf => ?_)
        refine lv_iload_n hx hb dX10_decides_57 rfl (lv_at hl 5 rfl) ?_
        refine lv_iconst (v := (1 : Int32)) hx hb dX10_decides_58 (by decide) ?_
        refine b_icmp_le hx hb 66 59 dX10_decides_59 (by decide) hpf (fun hpf => ?_) (fun hpf => ?_)
        · refine lv_aload_n hx hb dX10_decides_66 rfl (lv_at hl 2 rfl) ?_
          refine m_getr C I mRef_51 kM_47 67 dX10_decides_67 ?_
          refine lv_iload hx hb dX10_decides_70 (lv_at hl 0 rfl) ?_
          refine lv_iconst (v := (2 : Int32)) hx hb dX10_decides_72 (by decide) ?_
          refine lv_iload_n hx hb dX10_decides_73 rfl (lv_at hl 5 rfl) ?_
          refine lv_imul hx hb dX10_decides_74 ?_
          refine lv_iadd hx hb dX10_decides_75 ?_
          refine m_iald C I mArr_51 76 dX10_decides_76 hpf (fun hpf => ?_)
          exact hC_77 (S.2 51 (y1 + ((2 : Int32) * x3)).toNatClampNeg) x1 x2 x3 x4 x5 x6 x7 t0 y1 S H locs I ls (lv_sub hl [2, 3, 4, 5, 6, 7, 8, 9, 1, 0] rfl) hpf
        refine lv_iconst (v := (0 : Int32)) hx hb dX10_decides_62 (by decide) ?_
        refine lv_goto (tgt := 77) hx hb dX10_decides_63 (by decide) ?_
        exact hC_77 (0 : Int32) x1 x2 x3 x4 x5 x6 x7 t0 y1 S H locs I ls (lv_sub hl [2, 3, 4, 5, 6, 7, 8, 9, 1, 0] rfl) hpf
      intro x1 x2 x3 x4 x5 x6 x7 S H locs I ls hl hpf
      rw [pf_decides_9] at hpf
      refine lv_iload hx hb dX10_decides_9 (lv_at hl 7 rfl) ?_
      refine lv_bipush (v := (54 : Int32)) hx hb dX10_decides_11 (by decide) ?_
      refine b_icmp_gt hx hb 158 13 dX10_decides_13 (by decide) hpf (fun hpf => ?_) (fun hpf => ?_)
      · exact hC_158 x5 x6 S H locs I ls (lv_sub hl [0, 5, 6] rfl) hpf
      refine lv_iload hx hb dX10_decides_16 (lv_at hl 7 rfl) ?_
      refine lv_bipush (v := (6 : Int32)) hx hb dX10_decides_18 (by decide) ?_
      refine b_icmp_ge hx hb 27 20 dX10_decides_20 (by decide) hpf (fun hpf => ?_) (fun hpf => ?_)
      · refine lv_iload hx hb dX10_decides_27 (lv_at hl 7 rfl) ?_
        refine lv_bipush (v := (54 : Int32)) hx hb dX10_decides_29 (by decide) ?_
        refine b_icmp_ge hx hb 38 31 dX10_decides_31 (by decide) hpf (fun hpf => ?_) (fun hpf => ?_)
        · refine lv_iconst (v := (2 : Int32)) hx hb dX10_decides_38 (by decide) ?_
          exact hC_39 (2 : Int32) x1 x2 x3 x4 x5 x6 x7 S H locs I ls (lv_sub hl [0, 1, 2, 3, 4, 5, 6, 7] rfl) hpf
        refine lv_iconst (v := (1 : Int32)) hx hb dX10_decides_34 (by decide) ?_
        refine lv_goto (tgt := 39) hx hb dX10_decides_35 (by decide) ?_
        exact hC_39 (1 : Int32) x1 x2 x3 x4 x5 x6 x7 S H locs I ls (lv_sub hl [0, 1, 2, 3, 4, 5, 6, 7] rfl) hpf
      refine lv_iconst (v := (0 : Int32)) hx hb dX10_decides_23 (by decide) ?_
      refine lv_goto (tgt := 39) hx hb dX10_decides_24 (by decide) ?_
      exact hC_39 (0 : Int32) x1 x2 x3 x4 x5 x6 x7 S H locs I ls (lv_sub hl [0, 1, 2, 3, 4, 5, 6, 7] rfl) hpf
  refine lv_iconst (v := (3 : Int32)) hx hb dX10_decides_0 (by decide) ?_
  refine lv_istore (lv' := [(5, .int (3 : Int32)), (0, .ref h), (1, .int x1), (2, .int x2), (3, .int x3), (4, .int x4)]) hx hb dX10_decides_1 hl (by decide) rfl (fun ls hl => ?_)
  refine lv_iconst (v := (0 : Int32)) hx hb dX10_decides_3 (by decide) ?_
  refine lv_istore (lv' := [(6, .int (0 : Int32)), (5, .int (3 : Int32)), (0, .ref h), (1, .int x1), (2, .int x2), (3, .int x3), (4, .int x4)]) hx hb dX10_decides_4 hl (by decide) rfl (fun ls hl => ?_)
  refine lv_iconst (v := (0 : Int32)) hx hb dX10_decides_6 (by decide) ?_
  refine lv_istore (lv' := [(7, .int (0 : Int32)), (6, .int (0 : Int32)), (5, .int (3 : Int32)), (0, .ref h), (1, .int x1), (2, .int x2), (3, .int x3), (4, .int x4)]) hx hb dX10_decides_7 hl (by decide) rfl (fun ls hl => ?_)
  exact hC_9 N x1 x2 x3 x4 (3 : Int32) (0 : Int32) (0 : Int32) S H locs I ls (lv_sub hl [3, 4, 5, 6, 7, 2, 1, 0] rfl) hpf
