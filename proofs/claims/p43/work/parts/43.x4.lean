theorem fn_X1_J7_copyOf_59c91 : kFnS RX1 yJ7_copyOf_59c91 cJ7_copyOf_59c91 3 (some (.array .int)) 2 23 := ⟨⟨kC_20, kC_22, kC_23, ⟨by decide +kernel, by decide +kernel, by decide +kernel⟩, by decide⟩, kC_21⟩
theorem fn_X9_X4_sign : kFnI RX9 yX4_sign cX4_sign 2 none 1 419 := ⟨⟨kC_516, kC_284, kC_295, ⟨by decide +kernel, by decide +kernel, by decide +kernel⟩, by decide⟩, kC_517, kC_518⟩
theorem fn_X9_X0_rank : kFnI RX9 yX0_rank cX0_rank 1 (some .int) 0 422 := ⟨⟨kC_535, kC_368, kC_9, ⟨by decide +kernel, by decide +kernel, by decide +kernel⟩, by decide⟩, kC_366, kC_367⟩
theorem fn_X9_Jx4a65c_add_7a177 : kFnI RX9 yJx4a65c_add_7a177 cJx4a65c_add_7a177 5 none 2 425 := ⟨⟨kC_536, kC_416, kC_539, ⟨by decide +kernel, by decide +kernel, by decide +kernel⟩, by decide⟩, kC_537, kC_538⟩
theorem fn_X9_X9_needName : kFnS RX9 yX9_needName cX9_needName 1 none 1 133 := ⟨⟨kC_588, kC_466, kC_501, ⟨by decide +kernel, by decide +kernel, by decide +kernel⟩, by decide⟩, kC_589⟩
theorem fn_X9_X9_needRoom : kFnI RX9 yX9_needRoom cX9_needRoom 1 none 0 136 := ⟨⟨kC_590, kC_466, kC_502, ⟨by decide +kernel, by decide +kernel, by decide +kernel⟩, by decide⟩, kC_591, kC_592⟩
theorem fn_X9_X9_needWrite : kFnS RX9 yX9_needWrite cX9_needWrite 2 none 2 139 := ⟨⟨kC_593, kC_466, kC_509, ⟨by decide +kernel, by decide +kernel, by decide +kernel⟩, by decide⟩, kC_594⟩
theorem fn_X9_X9_needFreeName : kFnS RX9 yX9_needFreeName cX9_needFreeName 4 none 4 142 := ⟨⟨kC_595, kC_466, kC_513, ⟨by decide +kernel, by decide +kernel, by decide +kernel⟩, by decide⟩, kC_596⟩
theorem fn_X9_X1_fits : kFnI RX9 yX1_fits cX1_fits 6 (some .boolean) 1 146 := ⟨⟨kC_597, kC_77, kC_81, ⟨by decide +kernel, by decide +kernel, by decide +kernel⟩, by decide⟩, kC_598, kC_599⟩
theorem fn_X9_X9_need : kFnS RX9 yX9_need cX9_need 1 none 1 149 := ⟨⟨kC_600, kC_466, kC_514, ⟨by decide +kernel, by decide +kernel, by decide +kernel⟩, by decide⟩, kC_601⟩
theorem fn_X9_X1_take : kFnI RX9 yX1_take cX1_take 2 (some (.array .int)) 0 158 := ⟨⟨kC_604, kC_77, kC_19, ⟨by decide +kernel, by decide +kernel, by decide +kernel⟩, by decide⟩, kC_605, kC_606⟩
theorem fn_X9_X9_record : kFnI RX9 yX9_record cX9_record 4 none 2 166 := ⟨⟨kC_607, kC_466, kC_581, ⟨by decide +kernel, by decide +kernel, by decide +kernel⟩, by decide⟩, kC_608, kC_609⟩
theorem fn_X9_X9_needChangeable : kFnS RX9 yX9_needChangeable cX9_needChangeable 2 none 2 173 := ⟨⟨kC_613, kC_466, kC_611, ⟨by decide +kernel, by decide +kernel, by decide +kernel⟩, by decide⟩, kC_614⟩
theorem fn_X9_X7_isAllowed : kFnI RX9 yX7_isAllowed cX7_isAllowed 3 (some .boolean) 2 181 := ⟨⟨kC_615, kC_45, kC_46, ⟨by decide +kernel, by decide +kernel, by decide +kernel⟩, by decide⟩, kC_69, kC_70⟩
theorem fn_X9_X8_matching : kFnI RX9 yX8_matching cX8_matching 6 (some .int) 3 185 := ⟨⟨kC_616, kC_121, kC_392, ⟨by decide +kernel, by decide +kernel, by decide +kernel⟩, by decide⟩, kC_617, kC_618⟩
theorem fn_X9_X7_isSingle : kFnI RX9 yX7_isSingle cX7_isSingle 2 (some .boolean) 1 188 := ⟨⟨kC_619, kC_45, kC_50, ⟨by decide +kernel, by decide +kernel, by decide +kernel⟩, by decide⟩, kC_72, kC_73⟩
theorem fn_X9_X7_isRequired : kFnI RX9 yX7_isRequired cX7_isRequired 3 (some .boolean) 2 195 := ⟨⟨kC_622, kC_45, kC_328, ⟨by decide +kernel, by decide +kernel, by decide +kernel⟩, by decide⟩, kC_623, kC_624⟩
theorem fn_X9_X8_comesTo : kFnI RX9 yX8_comesTo cX8_comesTo 5 (some .boolean) 2 204 := ⟨⟨kC_631, kC_121, kC_374, ⟨by decide +kernel, by decide +kernel, by decide +kernel⟩, by decide⟩, kC_386, kC_387⟩
theorem fn_X9_X8_childrenAt : kFnI RX9 yX8_childrenAt cX8_childrenAt 5 (some .long) 1 210 := ⟨⟨kC_633, kC_121, kC_212, ⟨by decide +kernel, by decide +kernel, by decide +kernel⟩, by decide⟩, kC_214, kC_215⟩
theorem fn_X9_X6_slot : kFnS RX9 yX6_slot cX6_slot 3 (some .int) 3 238 := ⟨⟨kC_653, kC_181, kC_173, ⟨by decide +kernel, by decide +kernel, by decide +kernel⟩, by decide⟩, kC_180⟩
theorem fn_X9_X6_saidOf : kFnI RX9 yX6_saidOf cX6_saidOf 5 (some .int) 2 247 := ⟨⟨kC_654, kC_181, kC_316, ⟨by decide +kernel, by decide +kernel, by decide +kernel⟩, by decide⟩, kC_655, kC_656⟩
noncomputable section
-- ===== X1_take =====
def pX1_take (N : Nat) (S : kS) : Option ((Nat ⊕ Nat) × kS) :=
    bx (pJ7_copyOf_59c91 N (kI S 5) S) fun v101 S102 =>
    svk (sI S102 5 (0 : Int32)) fun S104 =>
    some (.inl v101, S104)
set_option maxRecDepth 100000 in
set_option maxHeartbeats 4000000 in
theorem c_X1_take (l : Launch) (hlt : l.stackTraces = false) (N : Nat) : kMx l yX1_take cX1_take 2 (some (.array .int)) 2 1 12 (fun g => [.ref (g.2.1 5)]) rV (pX1_take N) := by
  refine xStart hlt RX1 (by decide +kernel) rfl (fun g => [(0, .ref (g.2.1 5))]) (fun _ => Nat.le_of_ble_eq_true rfl) (fun _ => rfl) ?_
  intro dC dI g sz Si o Sf hpf p e s m args below meth c X XX hr H locs I hc ls hl
  have hx := X.1
  have hb := X.2.1
  unfold pX1_take at hpf
  refine lv_aload_n hx hb dX1_take_0 rfl (lv_at hl 0 rfl) ?_
  refine k_get (k := 0) X I kCl_1 (kO_G (g.1, g.2.1, g.2.2.1, g.2.2.2.1, g.2.2.2.2) Si) 1 (by decide) rfl kC_15 1 dX1_take_1 ?_
  refine lv_aload_n hx hb dX1_take_4 rfl (lv_at hl 0 rfl) ?_
  refine k_get (k := 0) X I kCl_1 (kO_G (g.1, g.2.1, g.2.2.1, g.2.2.2.1, g.2.2.2.2) Si) 2 (by decide) rfl kC_18 5 dX1_take_5 ?_
  refine x_cSV (rest := []) (As := [.ref (g.2.1 6), .int (kI Si 5)]) (d := 2) ⟨Nat.le_refl _, Nat.le_refl _⟩ X XX I hc fn_X1_J7_copyOf_59c91 (c_J7_copyOf_59c91 l hlt N (kI Si 5)) rfl (by decide) 8 dX1_take_8 rfl hl.1 rfl (Nat.le_of_ble_eq_true rfl) ⟨Nat.le_of_ble_eq_true rfl, Nat.le_of_ble_eq_true rfl⟩ ⟨Nat.le_of_ble_eq_true rfl, Nat.le_of_ble_eq_true rfl⟩ hpf (fun v101 S102 cca103 cda103 cea103 H locs I hc hg hpf => ?_)
  have X := kX_to X cca103 cda103 cea103
  refine lv_astore_n (lv' := [(1, .ref (cda103 v101)), (0, .ref (g.2.1 5))]) hx hb dX1_take_11 rfl hl (by decide) rfl (fun ls hl => ?_)
  refine lv_aload_n hx hb dX1_take_12 rfl (lv_at hl 1 rfl) ?_
  refine lv_iconst (v := (0 : Int32)) hx hb dX1_take_13 (by decide) ?_
  refine k_put (ty := .int) X I kCl_1 tyX1_ok nmX1 (kO_G (g.1, g.2.1, cca103, cda103, cea103) S102) 2 (by decide) (Nat.le_of_ble_eq_true rfl) (kP_G2 (g.1, g.2.1, cca103, cda103, cea103) S102 _) ⟨rfl, rfl, rfl⟩ kC_18 rfl (by decide +kernel) rfl rfl 14 dX1_take_14 hpf (fun S104 H locs I hm hpf => ?_)
  refine lv_aload_n hx hb dX1_take_17 rfl (lv_at hl 0 rfl) ?_
  exact x_reta X I hc hr (Or.inr ⟨_, rfl⟩) ⟨Nat.le_of_ble_eq_true rfl, Nat.le_of_ble_eq_true rfl⟩ 18 dX1_take_18 rfl hpf
-- ===== X9_record =====
def pX9_record_46 (N : Nat) (n1 : Nat) (n2 : Nat) (x3 : Int32) (S : kS) : Option ((Unit ⊕ Nat) × kS) :=
    gn n2 (kn S) <|
    bx (pLog_add x3 n2 S) fun v101 S102 =>
    bk (pX8_take N n1 n2 S102) fun v105 S106 =>
    some (.inl (), S106)
def pX9_record_13 (N : Nat) (n1 : Nat) (n2 : Nat) (k_46 : Int32 → kS → Option ((Unit ⊕ Nat) × kS)) : Nat → Int32 → kS → Option ((Unit ⊕ Nat) × kS)
  | 0 => fun _ _ => none
  | n_13 + 1 => fun x3 S =>
    if x3 ≤ (0 : Int32) then (
      k_46 x3 S)
    else (
      bk (pLog_get N (x3 - (1 : Int32)) S) fun v102 S101 =>
      gn v102 (kn S101) <|
      gn v102 (kn S101) <|
      bk (pX0_rank N v102 S101) fun v103 S104 =>
      gn n2 (kn S104) <|
      bk (pX0_rank N n2 S104) fun v105 S106 =>
      if v103 ≤ v105 then (
        k_46 x3 S106)
      else (
        nm (x3 + (-1 : Int32)) fun y107 =>
        pX9_record_13 N n1 n2 k_46 n_13 y107 S106))
def pX9_record (N : Nat) (n1 : Nat) (n2 : Nat) (S : kS) : Option ((Unit ⊕ Nat) × kS) :=
    bk (pX4_sign N n1 n2 S) fun v101 S102 =>
    bk (pLog_size N S102) fun v104 S103 =>
    pX9_record_13 N n1 n2 (pX9_record_46 N n1 n2) N v104 S103
set_option maxRecDepth 100000 in
set_option maxHeartbeats 4000000 in
theorem c_X9_record (l : Launch) (hlt : l.stackTraces = false) (N : Nat) (n1 : Nat) (hn1 : n1 < 4) (n2 : Nat) : kMx l yX9_record cX9_record 4 none 6 1 366 (fun g => [.ref (g.2.1 0), .ref (g.2.1 (18 + 2 * n1)), .ref (g.2.2.1 n2)]) rU (pX9_record N n1 n2) := by
  refine xStart hlt RX9 (by decide +kernel) rfl (fun g => [(0, .ref (g.2.1 0)), (1, .ref (g.2.1 (18 + 2 * n1))), (2, .ref (g.2.2.1 n2))]) (fun _ => Nat.le_of_ble_eq_true rfl) (fun _ => rfl) ?_
  intro dC dI g sz Si o Sf hpf p e s m args below meth c X XX hr H locs I hc ls hl
  have hx := X.1
  have hb := X.2.1
  unfold pX9_record at hpf
  have hC_46 : ∀ (x3 : Int32) (cC cD : Nat → Nat) (cE : Nat) (S S0 : kS), kGc g cC cE Si S0 → kX p s m meth c cX9_record 4 args RX9 dC dI (g.1, g.2.1, cC, cD, cE) (kAt g (kn Si) (km Si) (kp Si) sz) → ∀ (H : Heap) (locs : List Loc), kV dC dI (g.1, g.2.1, cC, cD, cE) (kAt g (kn Si) (km Si) (kp Si) sz) s S0 S H locs → ∀ ls : Array Slot, lv_has ls 4 [(0, .ref (g.2.1 0)), (1, .ref (g.2.1 (18 + 2 * n1))), (2, .ref (cC n2)), (3, .int x3)] → pX9_record_46 N n1 n2 x3 S = some (o, Sf) → W p l e (xRm 6 1 366) s m args below meth c H locs 0 0 (vx_MQ below (kQx dC dI g sz Si rU o Sf) (kXx dC dI g sz Si o Sf) args s 1 366 (kAt g (kn Si) (km Si) (kp Si) sz)) (F0 m 46 ls []) := by
    intro x3 cC cD cE S S0 hc X H locs I ls hl hpf
    unfold pX9_record_46 at hpf
    refine lv_aload_n hx hb dX9_record_46 rfl (lv_at hl 0 rfl) ?_
    refine k_get (k := 0) X I kCl_9 (kO_X (g.1, g.2.1, cC, cD, cE) S) 5 (by decide) rfl kC_417 47 dX9_record_47 ?_
    refine lv_iload_n hx hb dX9_record_50 rfl (lv_at hl 3 rfl) ?_
    refine lv_aload_n hx hb dX9_record_51 rfl (lv_at hl 2 rfl) ?_
    obtain ⟨hk104, hpf⟩ := gn_some hpf
    refine x_cLu (rest := []) (As := [.int x3, .ref (cC n2)]) (d := 6) ⟨Nat.le_refl _, Nat.le_refl _⟩ X XX I hc fn_X9_Jx4a65c_add_7a177 rfl (c_Log_add l hlt x3 n2) rfl (by decide) 52 dX9_record_52 rfl hl.1 rfl (Nat.le_of_ble_eq_true rfl) ⟨Nat.le_of_ble_eq_true rfl, Nat.le_of_ble_eq_true rfl⟩ ⟨Nat.le_of_ble_eq_true rfl, Nat.le_of_ble_eq_true rfl⟩ hpf (fun v101 S102 cca103 cda103 cea103 H locs I hc hg hpf => ?_)
    have X := kX_to X cca103 cda103 cea103
    have hqhk104 : cca103 n2 = cC n2 := hg.2.1 _ hk104
    rw [← hqhk104] at hl
    refine lv_aload_n hx hb dX9_record_55 rfl (lv_at hl 1 rfl) ?_
    refine k_get (k := 0) X I kCl_4 (kO_M (g.1, g.2.1, cca103, cda103, cea103) S102 n1 hn1) 1 (by decide) rfl kC_499 56 dX9_record_56 ?_
    refine lv_aload_n hx hb dX9_record_59 rfl (lv_at hl 2 rfl) ?_
    refine k_cIv (rest := []) (As := [.ref (cca103 n2)]) (d := 6) ⟨Nat.le_refl _, Nat.le_refl _⟩ X I fn_X9_X8_take kCl_8 rfl (kO_T (g.1, g.2.1, cca103, cda103, cea103) S102 n1 (Nat.lt_succ_of_lt hn1)) (c_X8_take l N n1 (Nat.lt_succ_of_lt hn1) n2) rfl (by decide) 60 dX9_record_60 rfl hl.1 rfl (Nat.le_of_ble_eq_true rfl) ⟨Nat.le_of_ble_eq_true rfl, Nat.le_of_ble_eq_true rfl⟩ hpf (fun v105 S106 H locs I hm hpf => ?_)
    exact x_retv X I hc hr ⟨Nat.le_of_ble_eq_true rfl, Nat.le_of_ble_eq_true rfl⟩ 63 dX9_record_63 hpf
  have hC_13 : ∀ (n_13 : Nat), ∀ (x3 : Int32) (cC cD : Nat → Nat) (cE : Nat) (S S0 : kS), kGc g cC cE Si S0 → kX p s m meth c cX9_record 4 args RX9 dC dI (g.1, g.2.1, cC, cD, cE) (kAt g (kn Si) (km Si) (kp Si) sz) → ∀ (H : Heap) (locs : List Loc), kV dC dI (g.1, g.2.1, cC, cD, cE) (kAt g (kn Si) (km Si) (kp Si) sz) s S0 S H locs → ∀ ls : Array Slot, lv_has ls 4 [(0, .ref (g.2.1 0)), (1, .ref (g.2.1 (18 + 2 * n1))), (2, .ref (cC n2)), (3, .int x3)] → pX9_record_13 N n1 n2 (pX9_record_46 N n1 n2) n_13 x3 S = some (o, Sf) → W p l e (xRm 6 1 366) s m args below meth c H locs 0 0 (vx_MQ below (kQx dC dI g sz Si rU o Sf) (kXx dC dI g sz Si o Sf) args s 1 366 (kAt g (kn Si) (km Si) (kp Si) sz)) (F0 m 13 ls []) := by
    intro n_13
    induction n_13 with
    | zero =>
      intro x3 cC cD cE S S0 hc X H locs I ls hl hpf
      rw [pX9_record_13] at hpf
      cases hpf
    | succ n_13 ih_13 =>
      intro x3 cC cD cE S S0 hc X H locs I ls hl hpf
      rw [pX9_record_13] at hpf
      refine lv_iload_n hx hb dX9_record_13 rfl (lv_at hl 3 rfl) ?_
      refine b_if_le hx hb 46 14 dX9_record_14 (by decide) hpf (fun hpf => ?_) (fun hpf => ?_)
      · refine W.widen (k := 0) (n := 0) (Nat.le_of_ble_eq_true rfl) (Nat.le_of_ble_eq_true rfl) ?_
        exact hC_46 x3 cC cD cE S _ hc X H locs I ls (lv_sub hl [0, 1, 2, 3] rfl) hpf
      refine lv_aload_n hx hb dX9_record_17 rfl (lv_at hl 0 rfl) ?_
      refine k_get (k := 0) X I kCl_9 (kO_X (g.1, g.2.1, cC, cD, cE) S) 5 (by decide) rfl kC_417 18 dX9_record_18 ?_
      refine lv_iload_n hx hb dX9_record_21 rfl (lv_at hl 3 rfl) ?_
      refine lv_iconst (v := (1 : Int32)) hx hb dX9_record_22 (by decide) ?_
      refine lv_isub hx hb dX9_record_23 ?_
      refine k_callL (Rv := rC) (rest := []) (As := [.int (x3 - (1 : Int32))]) (d := 6) ⟨Nat.le_refl _, Nat.le_refl _⟩ X I fn_X9_Log_get rfl (c_Log_get l N (x3 - (1 : Int32))) rfl (by decide) 24 dX9_record_24 rfl hl.1 rfl (Nat.le_of_ble_eq_true rfl) ⟨Nat.le_of_ble_eq_true rfl, Nat.le_of_ble_eq_true rfl⟩ hpf (fun v102 S101 H locs I hm hpf => ?_)
      refine k_castU X I kC_582 27 dX9_record_27 hpf (fun hpf => ?_)
      obtain ⟨hgn, hpf⟩ := gn_some hpf
      refine k_cIi (rest := []) (As := []) (d := 6) ⟨Nat.le_refl _, Nat.le_refl _⟩ X I fn_X9_X0_rank kCl_0 rfl (kO_U v102 (g.1, g.2.1, cC, cD, cE) S101 hgn) (c_X0_rank l N v102) rfl (by decide) 30 dX9_record_30 rfl hl.1 rfl (Nat.le_of_ble_eq_true rfl) ⟨Nat.le_of_ble_eq_true rfl, Nat.le_of_ble_eq_true rfl⟩ hpf (fun v103 S104 H locs I hm hpf => ?_)
      refine lv_aload_n hx hb dX9_record_33 rfl (lv_at hl 2 rfl) ?_
      obtain ⟨hgn, hpf⟩ := gn_some hpf
      refine k_cIi (rest := [.int v103]) (As := []) (d := 6) ⟨Nat.le_refl _, Nat.le_refl _⟩ X I fn_X9_X0_rank kCl_0 rfl (kO_U n2 (g.1, g.2.1, cC, cD, cE) S104 hgn) (c_X0_rank l N n2) rfl (by decide) 34 dX9_record_34 rfl hl.1 rfl (Nat.le_of_ble_eq_true rfl) ⟨Nat.le_of_ble_eq_true rfl, Nat.le_of_ble_eq_true rfl⟩ hpf (fun v105 S106 H locs I hm hpf => ?_)
      refine b_icmp_le hx hb 46 37 dX9_record_37 (by decide) hpf (fun hpf => ?_) (fun hpf => ?_)
      · refine W.widen (k := 0) (n := 0) (Nat.le_of_ble_eq_true rfl) (Nat.le_of_ble_eq_true rfl) ?_
        exact hC_46 x3 cC cD cE S106 _ hc X H locs I ls (lv_sub hl [0, 1, 2, 3] rfl) hpf
      refine m_iinc (w := (-1 : Int32)) hx hb (fun y107 => [(3, .int y107), (0, .ref (g.2.1 0)), (1, .ref (g.2.1 (18 + 2 * n1))), (2, .ref (cC n2))]) 40 dX9_record_40 hl (k := 3) rfl (by decide) (by decide) (fun _ => rfl) hpf (fun y107 ls hl hpf => ?_)
      refine lv_goto (tgt := 13) hx hb dX9_record_43 (by decide) ?_
      refine W.widen (k := 0) (n := 0) (Nat.le_of_ble_eq_true rfl) (Nat.le_of_ble_eq_true rfl) ?_
      exact ih_13 y107 cC cD cE S106 _ hc X H locs I ls (lv_sub hl [1, 2, 3, 0] rfl) hpf
  refine lv_aload_n hx hb dX9_record_0 rfl (lv_at hl 1 rfl) ?_
  refine lv_aload_n hx hb dX9_record_1 rfl (lv_at hl 2 rfl) ?_
  refine k_cIv (rest := []) (As := [.ref (g.2.2.1 n2)]) (d := 6) ⟨Nat.le_refl _, Nat.le_refl _⟩ X I fn_X9_X4_sign kCl_4 rfl (kO_M (g.1, g.2.1, g.2.2.1, g.2.2.2.1, g.2.2.2.2) Si n1 hn1) (c_X4_sign l N n1 hn1 n2) rfl (by decide) 2 dX9_record_2 rfl hl.1 rfl (Nat.le_of_ble_eq_true rfl) ⟨Nat.le_of_ble_eq_true rfl, Nat.le_of_ble_eq_true rfl⟩ hpf (fun v101 S102 H locs I hm hpf => ?_)
  refine lv_aload_n hx hb dX9_record_5 rfl (lv_at hl 0 rfl) ?_
  refine k_get (k := 0) X I kCl_9 (kO_X (g.1, g.2.1, g.2.2.1, g.2.2.2.1, g.2.2.2.2) S102) 5 (by decide) rfl kC_417 6 dX9_record_6 ?_
  refine k_callL (Rv := rI) (rest := []) (As := []) (d := 6) ⟨Nat.le_refl _, Nat.le_refl _⟩ X I fn_X9_Log_size rfl (c_Log_size l N) rfl (by decide) 9 dX9_record_9 rfl hl.1 rfl (Nat.le_of_ble_eq_true rfl) ⟨Nat.le_of_ble_eq_true rfl, Nat.le_of_ble_eq_true rfl⟩ hpf (fun v104 S103 H locs I hm hpf => ?_)
  refine lv_istore_n (lv' := [(3, .int v104), (0, .ref (g.2.1 0)), (1, .ref (g.2.1 (18 + 2 * n1))), (2, .ref (g.2.2.1 n2))]) hx hb dX9_record_12 rfl hl (by decide) rfl (fun ls hl => ?_)
  refine W.widen (k := 0) (n := 0) (Nat.le_of_ble_eq_true rfl) (Nat.le_of_ble_eq_true rfl) ?_
  exact hC_13 N v104 g.2.2.1 g.2.2.2.1 g.2.2.2.2 S103 _ hc X H locs I ls (lv_sub hl [1, 2, 3, 0] rfl) hpf
-- ===== X9_add =====
def pX9_add_67 (N : Nat) (t0 : Int32) (x2 : Int32) (x3 : Int32) (x4 : Int32) (n5 : Nat) (S : kS) : Option ((Int32 ⊕ Nat) × kS) :=
    bx (pX9_need N t0 S) fun v101 S102 =>
    gNew S102 <| svk (nU S102) fun S105 =>
    bk (pX0_init N (kn S102) (0 : Int32) (kI S105 0) x2 x3 x4 S105) fun v106 S107 =>
    gn (kn S102) (kn S107) <|
    bx (pX1_take N S107) fun v108 S109 =>
    gn (kn S102) (kn S109) <| svk (sC S109 (kn S102) v108) fun S112 =>
    gn (kn S102) (kn S112) <|
    bx (pX9_record N n5 (kn S102) S112) fun v113 S114 =>
    svk (sI S114 0 ((kI S114 0) + (1 : Int32))) fun S117 =>
    gn (kn S102) (kn S117) <|
    some (.inl (kF S117 (kn S102) 1), S117)
def pX9_add (N : Nat) (x1 : Int32) (x2 : Int32) (x3 : Int32) (x4 : Int32) (S : kS) : Option ((Int32 ⊕ Nat) × kS) :=
    bx (pX9_masterAt N x1 S) fun v101 S102 =>
    gn v101 4 <|
    bx (pX9_needEntry N v101 x2 S102) fun v104 S105 =>
    bx (pX9_needClass N x3 S105) fun v107 S108 =>
    bx (pX9_needName N x4 S108) fun v110 S111 =>
    bx (pX9_needRoom N S111) fun v113 S114 =>
    bx (pX9_needWrite N v101 x2 S114) fun v116 S117 =>
    bx (pX9_needFreeName N v101 x2 x4 (-1 : Int32) S117) fun v119 S120 =>
    if (48 : Int32) ≤ (kI S120 0) then (
      pX9_add_67 N (0 : Int32) x2 x3 x4 v101 S120)
    else (
      bk (pX1_fits N x3 S120) fun v122 S123 =>
      if v122 = (0 : Int32) then (
        pX9_add_67 N (0 : Int32) x2 x3 x4 v101 S123)
      else (
        pX9_add_67 N (1 : Int32) x2 x3 x4 v101 S123))
set_option maxRecDepth 100000 in
set_option maxHeartbeats 4000000 in
theorem c_X9_add (l : Launch) (hlt : l.stackTraces = false) (N : Nat) (x1 : Int32) (x2 : Int32) (x3 : Int32) (x4 : Int32) : kMx l yX9_add cX9_add 7 (some .int) 7 11 435 (fun g => [.ref (g.2.1 0), .int x1, .int x2, .int x3, .int x4]) rI (pX9_add N x1 x2 x3 x4) := by
  refine xStart hlt RX9 (by decide +kernel) rfl (fun g => [(0, .ref (g.2.1 0)), (1, .int x1), (2, .int x2), (3, .int x3), (4, .int x4)]) (fun _ => Nat.le_of_ble_eq_true rfl) (fun _ => rfl) ?_
  intro dC dI g sz Si o Sf hpf p e s m args below meth c X XX hr H locs I hc ls hl
  have hx := X.1
  have hb := X.2.1
  unfold pX9_add at hpf
  have hC_67 : ∀ (t0 : Int32) (x2 : Int32) (x3 : Int32) (x4 : Int32) (n5 : Nat) (hn5 : n5 < 4) (cC cD : Nat → Nat) (cE : Nat) (S S0 : kS), kGc g cC cE Si S0 → kX p s m meth c cX9_add 7 args RX9 dC dI (g.1, g.2.1, cC, cD, cE) (kAt g (kn Si) (km Si) (kp Si) sz) → ∀ (H : Heap) (locs : List Loc), kV dC dI (g.1, g.2.1, cC, cD, cE) (kAt g (kn Si) (km Si) (kp Si) sz) s S0 S H locs → ∀ ls : Array Slot, lv_has ls 7 [(0, .ref (g.2.1 0)), (2, .int x2), (3, .int x3), (4, .int x4), (5, .ref (g.2.1 (18 + 2 * n5)))] → pX9_add_67 N t0 x2 x3 x4 n5 S = some (o, Sf) → W p l e (xRm 7 11 435) s m args below meth c H locs 7 42 (vx_MQ below (kQx dC dI g sz Si rI o Sf) (kXx dC dI g sz Si o Sf) args s 11 435 (kAt g (kn Si) (km Si) (kp Si) sz)) (F0 m 67 ls [.int t0]) := by
    intro t0 x2 x3 x4 n5 hn5 cC cD cE S S0 hc X H locs I ls hl hpf
    unfold pX9_add_67 at hpf
    refine x_cSv (rest := []) (As := [.int t0]) (d := 7) ⟨Nat.le_refl _, Nat.le_refl _⟩ X XX I hc fn_X9_X9_need (c_X9_need l hlt N t0) rfl (by decide) 67 dX9_add_67 rfl hl.1 rfl (Nat.le_of_ble_eq_true rfl) ⟨Nat.le_of_ble_eq_true rfl, Nat.le_of_ble_eq_true rfl⟩ ⟨Nat.le_of_ble_eq_true rfl, Nat.le_of_ble_eq_true rfl⟩ hpf (fun v101 S102 cca103 cda103 cea103 H locs I hc hg hpf => ?_)
    have X := kX_to X cca103 cda103 cea103
    refine x_newU X I kC_582 ⟨Nat.le_of_ble_eq_true rfl, Nat.le_of_ble_eq_true rfl⟩ 70 dX9_add_70 hpf (fun cca104 S105 H I2 hg hltk hpf => ?_)
    have hc := (hc.sm I.2.2.2).trans (cd := cda103) hg
    have I := I2
    have X := kX_to X cca104 cda103 cea103
    refine lv_dup hx hb dX9_add_73 rfl ?_
    refine lv_iconst (v := (0 : Int32)) hx hb dX9_add_74 (by decide) ?_
    refine lv_aload_n hx hb dX9_add_75 rfl (lv_at hl 0 rfl) ?_
    refine k_get (k := 0) X I kCl_9 (kO_X (g.1, g.2.1, cca104, cda103, cea103) S105) 7 (by decide) rfl kC_421 76 dX9_add_76 ?_
    refine lv_iload_n hx hb dX9_add_79 rfl (lv_at hl 1 rfl) ?_
    refine lv_iload_n hx hb dX9_add_80 rfl (lv_at hl 2 rfl) ?_
    refine lv_iload hx hb dX9_add_81 (lv_at hl 3 rfl) ?_
    refine k_callC (α := Unit) (rest := [.ref (cca104 (kn S102))]) (As := [.int (0 : Int32), .int (kI S105 0), .int x2, .int x3, .int x4]) (d := 7) ⟨Nat.le_refl _, Nat.le_refl _⟩ X I fn_X9_X0_init (c_X0_init l N (kn S102) (0 : Int32) (kI S105 0) x2 x3 x4) rfl (by decide) 83 dX9_add_83 rfl hl.1 rfl (Nat.le_of_ble_eq_true rfl) ⟨Nat.le_of_ble_eq_true rfl, Nat.le_of_ble_eq_true rfl⟩ hpf (fun v106 S107 H locs I hm hpf => ?_)
    refine lv_astore (lv' := [(6, .ref (cca104 (kn S102))), (0, .ref (g.2.1 0)), (2, .int x2), (3, .int x3), (4, .int x4), (5, .ref (g.2.1 (18 + 2 * n5)))]) hx hb dX9_add_86 hl (by decide) rfl (fun ls hl => ?_)
    refine lv_aload hx hb dX9_add_88 (lv_at hl 0 rfl) ?_
    refine lv_aload_n hx hb dX9_add_90 rfl (lv_at hl 1 rfl) ?_
    refine k_get (k := 0) X I kCl_9 (kO_X (g.1, g.2.1, cca104, cda103, cea103) S107) 1 (by decide) rfl kC_405 91 dX9_add_91 ?_
    obtain ⟨hk111, hpf⟩ := gn_some hpf
    refine x_cIV (rest := [.ref (cca104 (kn S102))]) (As := []) (d := 7) ⟨Nat.le_refl _, Nat.le_refl _⟩ X XX I hc fn_X9_X1_take kCl_1 rfl (kO_G (g.1, g.2.1, cca104, cda103, cea103) S107) (c_X1_take l hlt N) rfl (by decide) 94 dX9_add_94 rfl hl.1 rfl (Nat.le_of_ble_eq_true rfl) ⟨Nat.le_of_ble_eq_true rfl, Nat.le_of_ble_eq_true rfl⟩ ⟨Nat.le_of_ble_eq_true rfl, Nat.le_of_ble_eq_true rfl⟩ hpf (fun v108 S109 cca110 cda110 cea110 H locs I hc hg hpf => ?_)
    have X := kX_to X cca110 cda110 cea110
    have hqhk111 : cca110 (kn S102) = cca104 (kn S102) := hg.2.1 _ hk111
    rw [← hqhk111] at hl ⊢
    refine k_putC (k := kn S102) (j := v108) X I kC_584 97 dX9_add_97 hpf (fun S112 H locs I hm hpf => ?_)
    refine lv_aload_n hx hb dX9_add_100 rfl (lv_at hl 1 rfl) ?_
    refine lv_aload hx hb dX9_add_101 (lv_at hl 5 rfl) ?_
    refine lv_aload hx hb dX9_add_103 (lv_at hl 0 rfl) ?_
    obtain ⟨hk116, hpf⟩ := gn_some hpf
    refine x_cIv (rest := []) (As := [.ref (g.2.1 (18 + 2 * n5)), .ref (cca110 (kn S102))]) (d := 7) ⟨Nat.le_refl _, Nat.le_refl _⟩ X XX I hc fn_X9_X9_record kCl_9 rfl (kO_X (g.1, g.2.1, cca110, cda110, cea110) S112) (c_X9_record l hlt N n5 hn5 (kn S102)) rfl (by decide) 105 dX9_add_105 rfl hl.1 rfl (Nat.le_of_ble_eq_true rfl) ⟨Nat.le_of_ble_eq_true rfl, Nat.le_of_ble_eq_true rfl⟩ ⟨Nat.le_of_ble_eq_true rfl, Nat.le_of_ble_eq_true rfl⟩ hpf (fun v113 S114 cca115 cda115 cea115 H locs I hc hg hpf => ?_)
    have X := kX_to X cca115 cda115 cea115
    have hqhk116 : cca115 (kn S102) = cca110 (kn S102) := hg.2.1 _ hk116
    rw [← hqhk116] at hl
    refine lv_aload_n hx hb dX9_add_108 rfl (lv_at hl 1 rfl) ?_
    refine lv_dup hx hb dX9_add_109 rfl ?_
    refine k_get (k := 0) X I kCl_9 (kO_X (g.1, g.2.1, cca115, cda115, cea115) S114) 7 (by decide) rfl kC_421 110 dX9_add_110 ?_
    refine lv_iconst (v := (1 : Int32)) hx hb dX9_add_113 (by decide) ?_
    refine lv_iadd hx hb dX9_add_114 ?_
    refine k_put (ty := .int) X I kCl_9 tyX9_ok nmX9 (kO_X (g.1, g.2.1, cca115, cda115, cea115) S114) 7 (by decide) (Nat.le_of_ble_eq_true rfl) (kP_X7 (g.1, g.2.1, cca115, cda115, cea115) S114 _) ⟨rfl, rfl, rfl⟩ kC_421 rfl (by decide +kernel) rfl rfl 115 dX9_add_115 hpf (fun S117 H locs I hm hpf => ?_)
    refine lv_aload hx hb dX9_add_118 (lv_at hl 0 rfl) ?_
    refine k_getU X I 1 (by decide) rfl kC_585 120 dX9_add_120 hpf (fun hpf => ?_)
    exact x_reti X I hc hr ⟨Nat.le_of_ble_eq_true rfl, Nat.le_of_ble_eq_true rfl⟩ 123 dX9_add_123 hpf
  refine lv_aload_n hx hb dX9_add_0 rfl (lv_at hl 0 rfl) ?_
  refine lv_iload_n hx hb dX9_add_1 rfl (lv_at hl 1 rfl) ?_
  refine x_cIm (rest := []) (As := [.int x1]) (d := 7) ⟨Nat.le_refl _, Nat.le_refl _⟩ X XX I hc fn_X9_X9_masterAt kCl_9 rfl (kO_X (g.1, g.2.1, g.2.2.1, g.2.2.2.1, g.2.2.2.2) Si) (c_X9_masterAt l hlt N x1) rfl (by decide) 2 dX9_add_2 rfl hl.1 rfl (Nat.le_of_ble_eq_true rfl) ⟨Nat.le_of_ble_eq_true rfl, Nat.le_of_ble_eq_true rfl⟩ ⟨Nat.le_of_ble_eq_true rfl, Nat.le_of_ble_eq_true rfl⟩ hpf (fun v101 S102 cca103 cda103 cea103 H locs I hc hg hpf => ?_)
  have X := kX_to X cca103 cda103 cea103
  obtain ⟨hv101, hpf⟩ := gn_some hpf
  refine lv_astore (lv' := [(5, .ref (g.2.1 (18 + 2 * v101))), (0, .ref (g.2.1 0)), (1, .int x1), (2, .int x2), (3, .int x3), (4, .int x4)]) hx hb dX9_add_5 hl (by decide) rfl (fun ls hl => ?_)
  refine lv_aload hx hb dX9_add_7 (lv_at hl 0 rfl) ?_
  refine lv_iload_n hx hb dX9_add_9 rfl (lv_at hl 3 rfl) ?_
  refine x_cSv (rest := []) (As := [.ref (g.2.1 (18 + 2 * v101)), .int x2]) (d := 7) ⟨Nat.le_refl _, Nat.le_refl _⟩ X XX I hc fn_X9_X9_needEntry (c_X9_needEntry l hlt N v101 hv101 x2) rfl (by decide) 10 dX9_add_10 rfl hl.1 rfl (Nat.le_of_ble_eq_true rfl) ⟨Nat.le_of_ble_eq_true rfl, Nat.le_of_ble_eq_true rfl⟩ ⟨Nat.le_of_ble_eq_true rfl, Nat.le_of_ble_eq_true rfl⟩ hpf (fun v104 S105 cca106 cda106 cea106 H locs I hc hg hpf => ?_)
  have X := kX_to X cca106 cda106 cea106
  refine lv_aload_n hx hb dX9_add_13 rfl (lv_at hl 1 rfl) ?_
  refine lv_iload_n hx hb dX9_add_14 rfl (lv_at hl 4 rfl) ?_
  refine x_cIv (rest := []) (As := [.int x3]) (d := 7) ⟨Nat.le_refl _, Nat.le_refl _⟩ X XX I hc fn_X9_X9_needClass kCl_9 rfl (kO_X (g.1, g.2.1, cca106, cda106, cea106) S105) (c_X9_needClass l hlt N x3) rfl (by decide) 15 dX9_add_15 rfl hl.1 rfl (Nat.le_of_ble_eq_true rfl) ⟨Nat.le_of_ble_eq_true rfl, Nat.le_of_ble_eq_true rfl⟩ ⟨Nat.le_of_ble_eq_true rfl, Nat.le_of_ble_eq_true rfl⟩ hpf (fun v107 S108 cca109 cda109 cea109 H locs I hc hg hpf => ?_)
  have X := kX_to X cca109 cda109 cea109
  refine lv_iload hx hb dX9_add_18 (lv_at hl 5 rfl) ?_
  refine x_cSv (rest := []) (As := [.int x4]) (d := 7) ⟨Nat.le_refl _, Nat.le_refl _⟩ X XX I hc fn_X9_X9_needName (c_X9_needName l hlt N x4) rfl (by decide) 20 dX9_add_20 rfl hl.1 rfl (Nat.le_of_ble_eq_true rfl) ⟨Nat.le_of_ble_eq_true rfl, Nat.le_of_ble_eq_true rfl⟩ ⟨Nat.le_of_ble_eq_true rfl, Nat.le_of_ble_eq_true rfl⟩ hpf (fun v110 S111 cca112 cda112 cea112 H locs I hc hg hpf => ?_)
  have X := kX_to X cca112 cda112 cea112
  refine lv_aload_n hx hb dX9_add_23 rfl (lv_at hl 1 rfl) ?_
  refine x_cIv (rest := []) (As := []) (d := 7) ⟨Nat.le_refl _, Nat.le_refl _⟩ X XX I hc fn_X9_X9_needRoom kCl_9 rfl (kO_X (g.1, g.2.1, cca112, cda112, cea112) S111) (c_X9_needRoom l hlt N) rfl (by decide) 24 dX9_add_24 rfl hl.1 rfl (Nat.le_of_ble_eq_true rfl) ⟨Nat.le_of_ble_eq_true rfl, Nat.le_of_ble_eq_true rfl⟩ ⟨Nat.le_of_ble_eq_true rfl, Nat.le_of_ble_eq_true rfl⟩ hpf (fun v113 S114 cca115 cda115 cea115 H locs I hc hg hpf => ?_)
  have X := kX_to X cca115 cda115 cea115
  refine lv_aload hx hb dX9_add_27 (lv_at hl 0 rfl) ?_
  refine lv_iload_n hx hb dX9_add_29 rfl (lv_at hl 3 rfl) ?_
  refine x_cSv (rest := []) (As := [.ref (g.2.1 (18 + 2 * v101)), .int x2]) (d := 7) ⟨Nat.le_refl _, Nat.le_refl _⟩ X XX I hc fn_X9_X9_needWrite (c_X9_needWrite l hlt N v101 hv101 x2) rfl (by decide) 30 dX9_add_30 rfl hl.1 rfl (Nat.le_of_ble_eq_true rfl) ⟨Nat.le_of_ble_eq_true rfl, Nat.le_of_ble_eq_true rfl⟩ ⟨Nat.le_of_ble_eq_true rfl, Nat.le_of_ble_eq_true rfl⟩ hpf (fun v116 S117 cca118 cda118 cea118 H locs I hc hg hpf => ?_)
  have X := kX_to X cca118 cda118 cea118
  refine lv_aload hx hb dX9_add_33 (lv_at hl 0 rfl) ?_
  refine lv_iload_n hx hb dX9_add_35 rfl (lv_at hl 3 rfl) ?_
  refine lv_iload hx hb dX9_add_36 (lv_at hl 5 rfl) ?_
  refine lv_iconst (v := (-1 : Int32)) hx hb dX9_add_38 (by decide) ?_
  refine x_cSv (rest := []) (As := [.ref (g.2.1 (18 + 2 * v101)), .int x2, .int x4, .int (-1 : Int32)]) (d := 7) ⟨Nat.le_refl _, Nat.le_refl _⟩ X XX I hc fn_X9_X9_needFreeName (c_X9_needFreeName l hlt N v101 hv101 x2 x4 (-1 : Int32)) rfl (by decide) 39 dX9_add_39 rfl hl.1 rfl (Nat.le_of_ble_eq_true rfl) ⟨Nat.le_of_ble_eq_true rfl, Nat.le_of_ble_eq_true rfl⟩ ⟨Nat.le_of_ble_eq_true rfl, Nat.le_of_ble_eq_true rfl⟩ hpf (fun v119 S120 cca121 cda121 cea121 H locs I hc hg hpf => ?_)
  have X := kX_to X cca121 cda121 cea121
  refine lv_aload_n hx hb dX9_add_42 rfl (lv_at hl 1 rfl) ?_
  refine k_get (k := 0) X I kCl_9 (kO_X (g.1, g.2.1, cca121, cda121, cea121) S120) 7 (by decide) rfl kC_421 43 dX9_add_43 ?_
  refine lv_bipush (v := (48 : Int32)) hx hb dX9_add_46 (by decide) ?_
  refine b_icmp_ge hx hb 66 48 dX9_add_48 (by decide) hpf (fun hpf => ?_) (fun hpf => ?_)
  · refine lv_iconst (v := (0 : Int32)) hx hb dX9_add_66 (by decide) ?_
    refine W.widen (k := 7) (n := 42) (Nat.le_of_ble_eq_true rfl) (Nat.le_of_ble_eq_true rfl) ?_
    exact hC_67 (0 : Int32) x2 x3 x4 v101 hv101 cca121 cda121 cea121 S120 _ hc X H locs I ls (lv_sub hl [1, 3, 4, 5, 0] rfl) hpf
  refine lv_aload_n hx hb dX9_add_51 rfl (lv_at hl 1 rfl) ?_
  refine k_get (k := 0) X I kCl_9 (kO_X (g.1, g.2.1, cca121, cda121, cea121) S120) 1 (by decide) rfl kC_405 52 dX9_add_52 ?_
  refine lv_iload_n hx hb dX9_add_55 rfl (lv_at hl 4 rfl) ?_
  refine k_cIi (rest := []) (As := [.int x3]) (d := 7) ⟨Nat.le_refl _, Nat.le_refl _⟩ X I fn_X9_X1_fits kCl_1 rfl (kO_G (g.1, g.2.1, cca121, cda121, cea121) S120) (c_X1_fits l N x3) rfl (by decide) 56 dX9_add_56 rfl hl.1 rfl (Nat.le_of_ble_eq_true rfl) ⟨Nat.le_of_ble_eq_true rfl, Nat.le_of_ble_eq_true rfl⟩ hpf (fun v122 S123 H locs I hm hpf => ?_)
  refine b_if_eq hx hb 66 59 dX9_add_59 (by decide) hpf (fun hpf => ?_) (fun hpf => ?_)
  · refine lv_iconst (v := (0 : Int32)) hx hb dX9_add_66 (by decide) ?_
    refine W.widen (k := 7) (n := 42) (Nat.le_of_ble_eq_true rfl) (Nat.le_of_ble_eq_true rfl) ?_
    exact hC_67 (0 : Int32) x2 x3 x4 v101 hv101 cca121 cda121 cea121 S123 _ hc X H locs I ls (lv_sub hl [1, 3, 4, 5, 0] rfl) hpf
  refine lv_iconst (v := (1 : Int32)) hx hb dX9_add_62 (by decide) ?_
  refine lv_goto (tgt := 67) hx hb dX9_add_63 (by decide) ?_
  refine W.widen (k := 7) (n := 42) (Nat.le_of_ble_eq_true rfl) (Nat.le_of_ble_eq_true rfl) ?_
  exact hC_67 (1 : Int32) x2 x3 x4 v101 hv101 cca121 cda121 cea121 S123 _ hc X H locs I ls (lv_sub hl [1, 3, 4, 5, 0] rfl) hpf
-- ===== X9_addValue =====
def pX9_addValue_104 (N : Nat) (t0 : Int32) (x2 : Int32) (x3 : Int32) (x4 : Int32) (n5 : Nat) (n6 : Nat) (S : kS) : Option ((Int32 ⊕ Nat) × kS) :=
    bx (pX9_need N t0 S) fun v101 S102 =>
    gNew S102 <| svk (nU S102) fun S105 =>
    bk (pX0_init N (kn S102) (1 : Int32) x2 x3 x4 (-1 : Int32) S105) fun v106 S107 =>
    bx (pX9_record N n5 (kn S102) S107) fun v108 S109 =>
    bk (pX8_valuesOf N n6 x2 x3 S109) fun v111 S112 =>
    some (.inl v111, S112)
def pX9_addValue_75 (N : Nat) (t0 : Int32) (x2 : Int32) (x3 : Int32) (x4 : Int32) (n5 : Nat) (n6 : Nat) (S : kS) : Option ((Int32 ⊕ Nat) × kS) :=
    bx (pX9_need N t0 S) fun v101 S102 =>
    bk (pX7_isSingle N x3 S102) fun v104 S105 =>
    if v104 = (0 : Int32) then (
      pX9_addValue_104 N (1 : Int32) x2 x3 x4 n5 n6 S105)
    else (
      bk (pX8_valuesOf N n6 x2 x3 S105) fun v106 S107 =>
      if v106 = (0 : Int32) then (
        pX9_addValue_104 N (1 : Int32) x2 x3 x4 n5 n6 S107)
      else (
        pX9_addValue_104 N (0 : Int32) x2 x3 x4 n5 n6 S107))
def pX9_addValue (N : Nat) (x1 : Int32) (x2 : Int32) (x3 : Int32) (x4 : Int32) (S : kS) : Option ((Int32 ⊕ Nat) × kS) :=
    bx (pX9_masterAt N x1 S) fun v101 S102 =>
    gn v101 4 <|
    bx (pX9_needChangeable N v101 x2 S102) fun v104 S105 =>
    bx (pX9_needAttribute N x3 S105) fun v107 S108 =>
    bx (pX9_needValue N x4 S108) fun v110 S111 =>
    bx (pX9_needRoom N S111) fun v113 S114 =>
    bx (pX9_needWrite N v101 x2 S114) fun v116 S117 =>
    gd x2 48 <|
    bk (pX7_isAllowed N (kA S117 (26 + 15 * v101 + 2) x2.toNatClampNeg) x3 S117) fun v119 S120 =>
    bx (pX9_need N v119 S120) fun v121 S122 =>
    bk (pX8_matching N v101 x2 x3 x4 S122) fun v124 S125 =>
    if v124 = (0 : Int32) then (
      pX9_addValue_75 N (1 : Int32) x2 x3 x4 v101 v101 S125)
    else (
      pX9_addValue_75 N (0 : Int32) x2 x3 x4 v101 v101 S125)
set_option maxRecDepth 100000 in
set_option maxHeartbeats 4000000 in
theorem c_X9_addValue (l : Launch) (hlt : l.stackTraces = false) (N : Nat) (x1 : Int32) (x2 : Int32) (x3 : Int32) (x4 : Int32) : kMx l yX9_addValue cX9_addValue 7 (some .int) 8 11 429 (fun g => [.ref (g.2.1 0), .int x1, .int x2, .int x3, .int x4]) rI (pX9_addValue N x1 x2 x3 x4) := by
  refine xStart hlt RX9 (by decide +kernel) rfl (fun g => [(0, .ref (g.2.1 0)), (1, .int x1), (2, .int x2), (3, .int x3), (4, .int x4)]) (fun _ => Nat.le_of_ble_eq_true rfl) (fun _ => rfl) ?_
  intro dC dI g sz Si o Sf hpf p e s m args below meth c X XX hr H locs I hc ls hl
  have hx := X.1
  have hb := X.2.1
  unfold pX9_addValue at hpf
  have hC_104 : ∀ (t0 : Int32) (x2 : Int32) (x3 : Int32) (x4 : Int32) (n5 : Nat) (n6 : Nat) (hn5 : n5 < 4) (hn6 : n6 < 5) (cC cD : Nat → Nat) (cE : Nat) (S S0 : kS), kGc g cC cE Si S0 → kX p s m meth c cX9_addValue 7 args RX9 dC dI (g.1, g.2.1, cC, cD, cE) (kAt g (kn Si) (km Si) (kp Si) sz) → ∀ (H : Heap) (locs : List Loc), kV dC dI (g.1, g.2.1, cC, cD, cE) (kAt g (kn Si) (km Si) (kp Si) sz) s S0 S H locs → ∀ ls : Array Slot, lv_has ls 7 [(0, .ref (g.2.1 0)), (2, .int x2), (3, .int x3), (4, .int x4), (5, .ref (g.2.1 (18 + 2 * n5))), (6, .ref (g.2.1 (26 + 15 * n6)))] → pX9_addValue_104 N t0 x2 x3 x4 n5 n6 S = some (o, Sf) → W p l e (xRm 8 11 429) s m args below meth c H locs 8 48 (vx_MQ below (kQx dC dI g sz Si rI o Sf) (kXx dC dI g sz Si o Sf) args s 11 429 (kAt g (kn Si) (km Si) (kp Si) sz)) (F0 m 104 ls [.int t0]) := by
    intro t0 x2 x3 x4 n5 n6 hn5 hn6 cC cD cE S S0 hc X H locs I ls hl hpf
    unfold pX9_addValue_104 at hpf
    refine x_cSv (rest := []) (As := [.int t0]) (d := 8) ⟨Nat.le_refl _, Nat.le_refl _⟩ X XX I hc fn_X9_X9_need (c_X9_need l hlt N t0) rfl (by decide) 104 dX9_addValue_104 rfl hl.1 rfl (Nat.le_of_ble_eq_true rfl) ⟨Nat.le_of_ble_eq_true rfl, Nat.le_of_ble_eq_true rfl⟩ ⟨Nat.le_of_ble_eq_true rfl, Nat.le_of_ble_eq_true rfl⟩ hpf (fun v101 S102 cca103 cda103 cea103 H locs I hc hg hpf => ?_)
    have X := kX_to X cca103 cda103 cea103
    refine lv_aload_n hx hb dX9_addValue_107 rfl (lv_at hl 0 rfl) ?_
    refine lv_aload hx hb dX9_addValue_108 (lv_at hl 4 rfl) ?_
    refine x_newU X I kC_582 ⟨Nat.le_of_ble_eq_true rfl, Nat.le_of_ble_eq_true rfl⟩ 110 dX9_addValue_110 hpf (fun cca104 S105 H I2 hg hltk hpf => ?_)
    have hc := (hc.sm I.2.2.2).trans (cd := cda103) hg
    have I := I2
    have X := kX_to X cca104 cda103 cea103
    refine lv_dup hx hb dX9_addValue_113 rfl ?_
    refine lv_iconst (v := (1 : Int32)) hx hb dX9_addValue_114 (by decide) ?_
    refine lv_iload_n hx hb dX9_addValue_115 rfl (lv_at hl 1 rfl) ?_
    refine lv_iload_n hx hb dX9_addValue_116 rfl (lv_at hl 2 rfl) ?_
    refine lv_iload hx hb dX9_addValue_117 (lv_at hl 3 rfl) ?_
    refine lv_iconst (v := (-1 : Int32)) hx hb dX9_addValue_119 (by decide) ?_
    refine k_callC (α := Unit) (rest := [.ref (cca104 (kn S102)), .ref (g.2.1 (18 + 2 * n5)), .ref (g.2.1 0)]) (As := [.int (1 : Int32), .int x2, .int x3, .int x4, .int (-1 : Int32)]) (d := 8) ⟨Nat.le_refl _, Nat.le_refl _⟩ X I fn_X9_X0_init (c_X0_init l N (kn S102) (1 : Int32) x2 x3 x4 (-1 : Int32)) rfl (by decide) 120 dX9_addValue_120 rfl hl.1 rfl (Nat.le_of_ble_eq_true rfl) ⟨Nat.le_of_ble_eq_true rfl, Nat.le_of_ble_eq_true rfl⟩ hpf (fun v106 S107 H locs I hm hpf => ?_)
    refine x_cIv (rest := []) (As := [.ref (g.2.1 (18 + 2 * n5)), .ref (cca104 (kn S102))]) (d := 8) ⟨Nat.le_refl _, Nat.le_refl _⟩ X XX I hc fn_X9_X9_record kCl_9 rfl (kO_X (g.1, g.2.1, cca104, cda103, cea103) S107) (c_X9_record l hlt N n5 hn5 (kn S102)) rfl (by decide) 123 dX9_addValue_123 rfl hl.1 rfl (Nat.le_of_ble_eq_true rfl) ⟨Nat.le_of_ble_eq_true rfl, Nat.le_of_ble_eq_true rfl⟩ ⟨Nat.le_of_ble_eq_true rfl, Nat.le_of_ble_eq_true rfl⟩ hpf (fun v108 S109 cca110 cda110 cea110 H locs I hc hg hpf => ?_)
    have X := kX_to X cca110 cda110 cea110
    refine lv_aload hx hb dX9_addValue_126 (lv_at hl 5 rfl) ?_
    refine lv_iload_n hx hb dX9_addValue_128 rfl (lv_at hl 1 rfl) ?_
    refine lv_iload_n hx hb dX9_addValue_129 rfl (lv_at hl 2 rfl) ?_
    refine k_cIi (rest := []) (As := [.int x2, .int x3]) (d := 8) ⟨Nat.le_refl _, Nat.le_refl _⟩ X I fn_X9_X8_valuesOf kCl_8 rfl (kO_T (g.1, g.2.1, cca110, cda110, cea110) S109 n6 hn6) (c_X8_valuesOf l N n6 hn6 x2 x3) rfl (by decide) 130 dX9_addValue_130 rfl hl.1 rfl (Nat.le_of_ble_eq_true rfl) ⟨Nat.le_of_ble_eq_true rfl, Nat.le_of_ble_eq_true rfl⟩ hpf (fun v111 S112 H locs I hm hpf => ?_)
    exact x_reti X I hc hr ⟨Nat.le_of_ble_eq_true rfl, Nat.le_of_ble_eq_true rfl⟩ 133 dX9_addValue_133 hpf
  have hC_75 : ∀ (t0 : Int32) (x2 : Int32) (x3 : Int32) (x4 : Int32) (n5 : Nat) (n6 : Nat) (hn5 : n5 < 4) (hn6 : n6 < 5) (cC cD : Nat → Nat) (cE : Nat) (S S0 : kS), kGc g cC cE Si S0 → kX p s m meth c cX9_addValue 7 args RX9 dC dI (g.1, g.2.1, cC, cD, cE) (kAt g (kn Si) (km Si) (kp Si) sz) → ∀ (H : Heap) (locs : List Loc), kV dC dI (g.1, g.2.1, cC, cD, cE) (kAt g (kn Si) (km Si) (kp Si) sz) s S0 S H locs → ∀ ls : Array Slot, lv_has ls 7 [(0, .ref (g.2.1 0)), (2, .int x2), (3, .int x3), (4, .int x4), (5, .ref (g.2.1 (18 + 2 * n5))), (6, .ref (g.2.1 (26 + 15 * n6)))] → pX9_addValue_75 N t0 x2 x3 x4 n5 n6 S = some (o, Sf) → W p l e (xRm 8 11 429) s m args below meth c H locs 7 42 (vx_MQ below (kQx dC dI g sz Si rI o Sf) (kXx dC dI g sz Si o Sf) args s 11 429 (kAt g (kn Si) (km Si) (kp Si) sz)) (F0 m 75 ls [.int t0]) := by
    intro t0 x2 x3 x4 n5 n6 hn5 hn6 cC cD cE S S0 hc X H locs I ls hl hpf
    unfold pX9_addValue_75 at hpf
    refine x_cSv (rest := []) (As := [.int t0]) (d := 8) ⟨Nat.le_refl _, Nat.le_refl _⟩ X XX I hc fn_X9_X9_need (c_X9_need l hlt N t0) rfl (by decide) 75 dX9_addValue_75 rfl hl.1 rfl (Nat.le_of_ble_eq_true rfl) ⟨Nat.le_of_ble_eq_true rfl, Nat.le_of_ble_eq_true rfl⟩ ⟨Nat.le_of_ble_eq_true rfl, Nat.le_of_ble_eq_true rfl⟩ hpf (fun v101 S102 cca103 cda103 cea103 H locs I hc hg hpf => ?_)
    have X := kX_to X cca103 cda103 cea103
    refine lv_aload_n hx hb dX9_addValue_78 rfl (lv_at hl 0 rfl) ?_
    refine k_get (k := 0) X I kCl_9 (kO_X (g.1, g.2.1, cca103, cda103, cea103) S102) 0 (by decide) rfl kC_402 79 dX9_addValue_79 ?_
    refine lv_iload_n hx hb dX9_addValue_82 rfl (lv_at hl 2 rfl) ?_
    refine k_cIi (rest := []) (As := [.int x3]) (d := 8) ⟨Nat.le_refl _, Nat.le_refl _⟩ X I fn_X9_X7_isSingle kCl_7 rfl (kO_H (g.1, g.2.1, cca103, cda103, cea103) S102) (c_X7_isSingle l N x3) rfl (by decide) 83 dX9_addValue_83 rfl hl.1 rfl (Nat.le_of_ble_eq_true rfl) ⟨Nat.le_of_ble_eq_true rfl, Nat.le_of_ble_eq_true rfl⟩ hpf (fun v104 S105 H locs I hm hpf => ?_)
    refine b_if_eq hx hb 99 86 dX9_addValue_86 (by decide) hpf (fun hpf => ?_) (fun hpf => ?_)
    · refine lv_iconst (v := (1 : Int32)) hx hb dX9_addValue_99 (by decide) ?_
      refine lv_goto (tgt := 104) hx hb dX9_addValue_100 (by decide) ?_
      refine W.widen (k := 8) (n := 48) (Nat.le_of_ble_eq_true rfl) (Nat.le_of_ble_eq_true rfl) ?_
      exact hC_104 (1 : Int32) x2 x3 x4 n5 n6 hn5 hn6 cca103 cda103 cea103 S105 _ hc X H locs I ls (lv_sub hl [0, 1, 2, 3, 4, 5] rfl) hpf
    refine lv_aload hx hb dX9_addValue_89 (lv_at hl 5 rfl) ?_
    refine lv_iload_n hx hb dX9_addValue_91 rfl (lv_at hl 1 rfl) ?_
    refine lv_iload_n hx hb dX9_addValue_92 rfl (lv_at hl 2 rfl) ?_
    refine k_cIi (rest := []) (As := [.int x2, .int x3]) (d := 8) ⟨Nat.le_refl _, Nat.le_refl _⟩ X I fn_X9_X8_valuesOf kCl_8 rfl (kO_T (g.1, g.2.1, cca103, cda103, cea103) S105 n6 hn6) (c_X8_valuesOf l N n6 hn6 x2 x3) rfl (by decide) 93 dX9_addValue_93 rfl hl.1 rfl (Nat.le_of_ble_eq_true rfl) ⟨Nat.le_of_ble_eq_true rfl, Nat.le_of_ble_eq_true rfl⟩ hpf (fun v106 S107 H locs I hm hpf => ?_)
    refine b_if_ne hx hb 103 96 dX9_addValue_96 (by decide) hpf (fun hpf => ?_) (fun hpf => ?_)
    · refine lv_iconst (v := (0 : Int32)) hx hb dX9_addValue_103 (by decide) ?_
      refine W.widen (k := 8) (n := 48) (Nat.le_of_ble_eq_true rfl) (Nat.le_of_ble_eq_true rfl) ?_
      exact hC_104 (0 : Int32) x2 x3 x4 n5 n6 hn5 hn6 cca103 cda103 cea103 S107 _ hc X H locs I ls (lv_sub hl [0, 1, 2, 3, 4, 5] rfl) hpf
    refine lv_iconst (v := (1 : Int32)) hx hb dX9_addValue_99 (by decide) ?_
    refine lv_goto (tgt := 104) hx hb dX9_addValue_100 (by decide) ?_
    refine W.widen (k := 8) (n := 48) (Nat.le_of_ble_eq_true rfl) (Nat.le_of_ble_eq_true rfl) ?_
    exact hC_104 (1 : Int32) x2 x3 x4 n5 n6 hn5 hn6 cca103 cda103 cea103 S107 _ hc X H locs I ls (lv_sub hl [0, 1, 2, 3, 4, 5] rfl) hpf
  refine lv_aload_n hx hb dX9_addValue_0 rfl (lv_at hl 0 rfl) ?_
  refine lv_iload_n hx hb dX9_addValue_1 rfl (lv_at hl 1 rfl) ?_
  refine x_cIm (rest := []) (As := [.int x1]) (d := 8) ⟨Nat.le_refl _, Nat.le_refl _⟩ X XX I hc fn_X9_X9_masterAt kCl_9 rfl (kO_X (g.1, g.2.1, g.2.2.1, g.2.2.2.1, g.2.2.2.2) Si) (c_X9_masterAt l hlt N x1) rfl (by decide) 2 dX9_addValue_2 rfl hl.1 rfl (Nat.le_of_ble_eq_true rfl) ⟨Nat.le_of_ble_eq_true rfl, Nat.le_of_ble_eq_true rfl⟩ ⟨Nat.le_of_ble_eq_true rfl, Nat.le_of_ble_eq_true rfl⟩ hpf (fun v101 S102 cca103 cda103 cea103 H locs I hc hg hpf => ?_)
  have X := kX_to X cca103 cda103 cea103
  obtain ⟨hv101, hpf⟩ := gn_some hpf
  refine lv_astore (lv' := [(5, .ref (g.2.1 (18 + 2 * v101))), (0, .ref (g.2.1 0)), (1, .int x1), (2, .int x2), (3, .int x3), (4, .int x4)]) hx hb dX9_addValue_5 hl (by decide) rfl (fun ls hl => ?_)
  refine lv_aload hx hb dX9_addValue_7 (lv_at hl 0 rfl) ?_
  refine lv_iload_n hx hb dX9_addValue_9 rfl (lv_at hl 3 rfl) ?_
  refine x_cSv (rest := []) (As := [.ref (g.2.1 (18 + 2 * v101)), .int x2]) (d := 8) ⟨Nat.le_refl _, Nat.le_refl _⟩ X XX I hc fn_X9_X9_needChangeable (c_X9_needChangeable l hlt N v101 hv101 x2) rfl (by decide) 10 dX9_addValue_10 rfl hl.1 rfl (Nat.le_of_ble_eq_true rfl) ⟨Nat.le_of_ble_eq_true rfl, Nat.le_of_ble_eq_true rfl⟩ ⟨Nat.le_of_ble_eq_true rfl, Nat.le_of_ble_eq_true rfl⟩ hpf (fun v104 S105 cca106 cda106 cea106 H locs I hc hg hpf => ?_)
  have X := kX_to X cca106 cda106 cea106
  refine lv_aload_n hx hb dX9_addValue_13 rfl (lv_at hl 1 rfl) ?_
  refine lv_iload_n hx hb dX9_addValue_14 rfl (lv_at hl 4 rfl) ?_
  refine x_cIv (rest := []) (As := [.int x3]) (d := 8) ⟨Nat.le_refl _, Nat.le_refl _⟩ X XX I hc fn_X9_X9_needAttribute kCl_9 rfl (kO_X (g.1, g.2.1, cca106, cda106, cea106) S105) (c_X9_needAttribute l hlt N x3) rfl (by decide) 15 dX9_addValue_15 rfl hl.1 rfl (Nat.le_of_ble_eq_true rfl) ⟨Nat.le_of_ble_eq_true rfl, Nat.le_of_ble_eq_true rfl⟩ ⟨Nat.le_of_ble_eq_true rfl, Nat.le_of_ble_eq_true rfl⟩ hpf (fun v107 S108 cca109 cda109 cea109 H locs I hc hg hpf => ?_)
  have X := kX_to X cca109 cda109 cea109
  refine lv_iload hx hb dX9_addValue_18 (lv_at hl 5 rfl) ?_
  refine x_cSv (rest := []) (As := [.int x4]) (d := 8) ⟨Nat.le_refl _, Nat.le_refl _⟩ X XX I hc fn_X9_X9_needValue (c_X9_needValue l hlt N x4) rfl (by decide) 20 dX9_addValue_20 rfl hl.1 rfl (Nat.le_of_ble_eq_true rfl) ⟨Nat.le_of_ble_eq_true rfl, Nat.le_of_ble_eq_true rfl⟩ ⟨Nat.le_of_ble_eq_true rfl, Nat.le_of_ble_eq_true rfl⟩ hpf (fun v110 S111 cca112 cda112 cea112 H locs I hc hg hpf => ?_)
  have X := kX_to X cca112 cda112 cea112
  refine lv_aload_n hx hb dX9_addValue_23 rfl (lv_at hl 1 rfl) ?_
  refine x_cIv (rest := []) (As := []) (d := 8) ⟨Nat.le_refl _, Nat.le_refl _⟩ X XX I hc fn_X9_X9_needRoom kCl_9 rfl (kO_X (g.1, g.2.1, cca112, cda112, cea112) S111) (c_X9_needRoom l hlt N) rfl (by decide) 24 dX9_addValue_24 rfl hl.1 rfl (Nat.le_of_ble_eq_true rfl) ⟨Nat.le_of_ble_eq_true rfl, Nat.le_of_ble_eq_true rfl⟩ ⟨Nat.le_of_ble_eq_true rfl, Nat.le_of_ble_eq_true rfl⟩ hpf (fun v113 S114 cca115 cda115 cea115 H locs I hc hg hpf => ?_)
  have X := kX_to X cca115 cda115 cea115
  refine lv_aload hx hb dX9_addValue_27 (lv_at hl 0 rfl) ?_
  refine lv_iload_n hx hb dX9_addValue_29 rfl (lv_at hl 3 rfl) ?_
  refine x_cSv (rest := []) (As := [.ref (g.2.1 (18 + 2 * v101)), .int x2]) (d := 8) ⟨Nat.le_refl _, Nat.le_refl _⟩ X XX I hc fn_X9_X9_needWrite (c_X9_needWrite l hlt N v101 hv101 x2) rfl (by decide) 30 dX9_addValue_30 rfl hl.1 rfl (Nat.le_of_ble_eq_true rfl) ⟨Nat.le_of_ble_eq_true rfl, Nat.le_of_ble_eq_true rfl⟩ ⟨Nat.le_of_ble_eq_true rfl, Nat.le_of_ble_eq_true rfl⟩ hpf (fun v116 S117 cca118 cda118 cea118 H locs I hc hg hpf => ?_)
  have X := kX_to X cca118 cda118 cea118
  refine lv_aload hx hb dX9_addValue_33 (lv_at hl 0 rfl) ?_
  refine k_get (k := 0) X I kCl_4 (kO_M (g.1, g.2.1, cca118, cda118, cea118) S117 v101 hv101) 1 (by decide) rfl kC_499 35 dX9_addValue_35 ?_
  refine lv_astore (lv' := [(6, .ref (g.2.1 (26 + 15 * v101))), (5, .ref (g.2.1 (18 + 2 * v101))), (0, .ref (g.2.1 0)), (1, .int x1), (2, .int x2), (3, .int x3), (4, .int x4)]) hx hb dX9_addValue_38 hl (by decide) rfl (fun ls hl => ?_)
  refine lv_aload_n hx hb dX9_addValue_40 rfl (lv_at hl 2 rfl) ?_
  refine k_get (k := 0) X I kCl_9 (kO_X (g.1, g.2.1, cca118, cda118, cea118) S117) 0 (by decide) rfl kC_402 41 dX9_addValue_41 ?_
  refine lv_aload hx hb dX9_addValue_44 (lv_at hl 0 rfl) ?_
  refine k_get (k := 0) X I kCl_8 (kO_T (g.1, g.2.1, cca118, cda118, cea118) S117 v101 (Nat.lt_succ_of_lt hv101)) 1 (by decide) rfl kC_612 46 dX9_addValue_46 ?_
  refine lv_iload_n hx hb dX9_addValue_49 rfl (lv_at hl 4 rfl) ?_
  refine k_iald X I (kR_T2 v101 (Nat.lt_succ_of_lt hv101)) 50 dX9_addValue_50 hpf (fun hpf => ?_)
  refine lv_iload_n hx hb dX9_addValue_51 rfl (lv_at hl 5 rfl) ?_
  refine k_cIi (rest := []) (As := [.int (kA S117 (26 + 15 * v101 + 2) x2.toNatClampNeg), .int x3]) (d := 8) ⟨Nat.le_refl _, Nat.le_refl _⟩ X I fn_X9_X7_isAllowed kCl_7 rfl (kO_H (g.1, g.2.1, cca118, cda118, cea118) S117) (c_X7_isAllowed l N (kA S117 (26 + 15 * v101 + 2) x2.toNatClampNeg) x3) rfl (by decide) 52 dX9_addValue_52 rfl hl.1 rfl (Nat.le_of_ble_eq_true rfl) ⟨Nat.le_of_ble_eq_true rfl, Nat.le_of_ble_eq_true rfl⟩ hpf (fun v119 S120 H locs I hm hpf => ?_)
  refine x_cSv (rest := []) (As := [.int v119]) (d := 8) ⟨Nat.le_refl _, Nat.le_refl _⟩ X XX I hc fn_X9_X9_need (c_X9_need l hlt N v119) rfl (by decide) 55 dX9_addValue_55 rfl hl.1 rfl (Nat.le_of_ble_eq_true rfl) ⟨Nat.le_of_ble_eq_true rfl, Nat.le_of_ble_eq_true rfl⟩ ⟨Nat.le_of_ble_eq_true rfl, Nat.le_of_ble_eq_true rfl⟩ hpf (fun v121 S122 cca123 cda123 cea123 H locs I hc hg hpf => ?_)
  have X := kX_to X cca123 cda123 cea123
  refine lv_aload hx hb dX9_addValue_58 (lv_at hl 0 rfl) ?_
  refine lv_iload_n hx hb dX9_addValue_60 rfl (lv_at hl 4 rfl) ?_
  refine lv_iload_n hx hb dX9_addValue_61 rfl (lv_at hl 5 rfl) ?_
  refine lv_iload hx hb dX9_addValue_62 (lv_at hl 6 rfl) ?_
  refine k_cIi (rest := []) (As := [.int x2, .int x3, .int x4]) (d := 8) ⟨Nat.le_refl _, Nat.le_refl _⟩ X I fn_X9_X8_matching kCl_8 rfl (kO_T (g.1, g.2.1, cca123, cda123, cea123) S122 v101 (Nat.lt_succ_of_lt hv101)) (c_X8_matching l N v101 (Nat.lt_succ_of_lt hv101) x2 x3 x4) rfl (by decide) 64 dX9_addValue_64 rfl hl.1 rfl (Nat.le_of_ble_eq_true rfl) ⟨Nat.le_of_ble_eq_true rfl, Nat.le_of_ble_eq_true rfl⟩ hpf (fun v124 S125 H locs I hm hpf => ?_)
  refine b_if_ne hx hb 74 67 dX9_addValue_67 (by decide) hpf (fun hpf => ?_) (fun hpf => ?_)
  · refine lv_iconst (v := (0 : Int32)) hx hb dX9_addValue_74 (by decide) ?_
    refine W.widen (k := 7) (n := 42) (Nat.le_of_ble_eq_true rfl) (Nat.le_of_ble_eq_true rfl) ?_
    exact hC_75 (0 : Int32) x2 x3 x4 v101 v101 hv101 (Nat.lt_succ_of_lt hv101) cca123 cda123 cea123 S125 _ hc X H locs I ls (lv_sub hl [2, 4, 5, 6, 1, 0] rfl) hpf
  refine lv_iconst (v := (1 : Int32)) hx hb dX9_addValue_70 (by decide) ?_
  refine lv_goto (tgt := 75) hx hb dX9_addValue_71 (by decide) ?_
  refine W.widen (k := 7) (n := 42) (Nat.le_of_ble_eq_true rfl) (Nat.le_of_ble_eq_true rfl) ?_
  exact hC_75 (1 : Int32) x2 x3 x4 v101 v101 hv101 (Nat.lt_succ_of_lt hv101) cca123 cda123 cea123 S125 _ hc X H locs I ls (lv_sub hl [2, 4, 5, 6, 1, 0] rfl) hpf
-- ===== X9_removeValue =====
def pX9_removeValue_99 (N : Nat) (t0 : Int32) (x2 : Int32) (x3 : Int32) (x4 : Int32) (n5 : Nat) (n6 : Nat) (S : kS) : Option ((Int32 ⊕ Nat) × kS) :=
    bx (pX9_need N t0 S) fun v101 S102 =>
    gNew S102 <| svk (nU S102) fun S105 =>
    bk (pX0_init N (kn S102) (2 : Int32) x2 x3 x4 (-1 : Int32) S105) fun v106 S107 =>
    bx (pX9_record N n5 (kn S102) S107) fun v108 S109 =>
    bk (pX8_valuesOf N n6 x2 x3 S109) fun v111 S112 =>
    some (.inl v111, S112)
def pX9_removeValue_61 (N : Nat) (t0 : Int32) (x2 : Int32) (x3 : Int32) (x4 : Int32) (n5 : Nat) (n6 : Nat) (x7 : Int32) (S : kS) : Option ((Int32 ⊕ Nat) × kS) :=
    bx (pX9_need N t0 S) fun v101 S102 =>
    gd x2 48 <|
    bk (pX7_isRequired N (kA S102 (26 + 15 * n6 + 2) x2.toNatClampNeg) x3 S102) fun v104 S105 =>
    if v104 = (0 : Int32) then (
      pX9_removeValue_99 N (1 : Int32) x2 x3 x4 n5 n6 S105)
    else (
      bk (pX8_valuesOf N n6 x2 x3 S105) fun v106 S107 =>
      if v106 ≤ x7 then (
        pX9_removeValue_99 N (0 : Int32) x2 x3 x4 n5 n6 S107)
      else (
        pX9_removeValue_99 N (1 : Int32) x2 x3 x4 n5 n6 S107))
def pX9_removeValue (N : Nat) (x1 : Int32) (x2 : Int32) (x3 : Int32) (x4 : Int32) (S : kS) : Option ((Int32 ⊕ Nat) × kS) :=
    bx (pX9_masterAt N x1 S) fun v101 S102 =>
    gn v101 4 <|
    bx (pX9_needChangeable N v101 x2 S102) fun v104 S105 =>
    bx (pX9_needAttribute N x3 S105) fun v107 S108 =>
    bx (pX9_needValue N x4 S108) fun v110 S111 =>
    bx (pX9_needRoom N S111) fun v113 S114 =>
    bx (pX9_needWrite N v101 x2 S114) fun v116 S117 =>
    bk (pX8_matching N v101 x2 x3 x4 S117) fun v119 S120 =>
    if v119 ≤ (0 : Int32) then (
      pX9_removeValue_61 N (0 : Int32) x2 x3 x4 v101 v101 v119 S120)
    else (
      pX9_removeValue_61 N (1 : Int32) x2 x3 x4 v101 v101 v119 S120)
set_option maxRecDepth 100000 in
set_option maxHeartbeats 4000000 in
theorem c_X9_removeValue (l : Launch) (hlt : l.stackTraces = false) (N : Nat) (x1 : Int32) (x2 : Int32) (x3 : Int32) (x4 : Int32) : kMx l yX9_removeValue cX9_removeValue 8 (some .int) 8 10 423 (fun g => [.ref (g.2.1 0), .int x1, .int x2, .int x3, .int x4]) rI (pX9_removeValue N x1 x2 x3 x4) := by
  refine xStart hlt RX9 (by decide +kernel) rfl (fun g => [(0, .ref (g.2.1 0)), (1, .int x1), (2, .int x2), (3, .int x3), (4, .int x4)]) (fun _ => Nat.le_of_ble_eq_true rfl) (fun _ => rfl) ?_
  intro dC dI g sz Si o Sf hpf p e s m args below meth c X XX hr H locs I hc ls hl
  have hx := X.1
  have hb := X.2.1
  unfold pX9_removeValue at hpf
  have hC_99 : ∀ (t0 : Int32) (x2 : Int32) (x3 : Int32) (x4 : Int32) (n5 : Nat) (n6 : Nat) (hn5 : n5 < 4) (hn6 : n6 < 5) (cC cD : Nat → Nat) (cE : Nat) (S S0 : kS), kGc g cC cE Si S0 → kX p s m meth c cX9_removeValue 8 args RX9 dC dI (g.1, g.2.1, cC, cD, cE) (kAt g (kn Si) (km Si) (kp Si) sz) → ∀ (H : Heap) (locs : List Loc), kV dC dI (g.1, g.2.1, cC, cD, cE) (kAt g (kn Si) (km Si) (kp Si) sz) s S0 S H locs → ∀ ls : Array Slot, lv_has ls 8 [(0, .ref (g.2.1 0)), (2, .int x2), (3, .int x3), (4, .int x4), (5, .ref (g.2.1 (18 + 2 * n5))), (6, .ref (g.2.1 (26 + 15 * n6)))] → pX9_removeValue_99 N t0 x2 x3 x4 n5 n6 S = some (o, Sf) → W p l e (xRm 8 10 423) s m args below meth c H locs 7 42 (vx_MQ below (kQx dC dI g sz Si rI o Sf) (kXx dC dI g sz Si o Sf) args s 10 423 (kAt g (kn Si) (km Si) (kp Si) sz)) (F0 m 99 ls [.int t0]) := by
    intro t0 x2 x3 x4 n5 n6 hn5 hn6 cC cD cE S S0 hc X H locs I ls hl hpf
    unfold pX9_removeValue_99 at hpf
    refine x_cSv (rest := []) (As := [.int t0]) (d := 8) ⟨Nat.le_refl _, Nat.le_refl _⟩ X XX I hc fn_X9_X9_need (c_X9_need l hlt N t0) rfl (by decide) 99 dX9_removeValue_99 rfl hl.1 rfl (Nat.le_of_ble_eq_true rfl) ⟨Nat.le_of_ble_eq_true rfl, Nat.le_of_ble_eq_true rfl⟩ ⟨Nat.le_of_ble_eq_true rfl, Nat.le_of_ble_eq_true rfl⟩ hpf (fun v101 S102 cca103 cda103 cea103 H locs I hc hg hpf => ?_)
    have X := kX_to X cca103 cda103 cea103
    refine lv_aload_n hx hb dX9_removeValue_102 rfl (lv_at hl 0 rfl) ?_
    refine lv_aload hx hb dX9_removeValue_103 (lv_at hl 4 rfl) ?_
    refine x_newU X I kC_582 ⟨Nat.le_of_ble_eq_true rfl, Nat.le_of_ble_eq_true rfl⟩ 105 dX9_removeValue_105 hpf (fun cca104 S105 H I2 hg hltk hpf => ?_)
    have hc := (hc.sm I.2.2.2).trans (cd := cda103) hg
    have I := I2
    have X := kX_to X cca104 cda103 cea103
    refine lv_dup hx hb dX9_removeValue_108 rfl ?_
    refine lv_iconst (v := (2 : Int32)) hx hb dX9_removeValue_109 (by decide) ?_
    refine lv_iload_n hx hb dX9_removeValue_110 rfl (lv_at hl 1 rfl) ?_
    refine lv_iload_n hx hb dX9_removeValue_111 rfl (lv_at hl 2 rfl) ?_
    refine lv_iload hx hb dX9_removeValue_112 (lv_at hl 3 rfl) ?_
    refine lv_iconst (v := (-1 : Int32)) hx hb dX9_removeValue_114 (by decide) ?_
    refine k_callC (α := Unit) (rest := [.ref (cca104 (kn S102)), .ref (g.2.1 (18 + 2 * n5)), .ref (g.2.1 0)]) (As := [.int (2 : Int32), .int x2, .int x3, .int x4, .int (-1 : Int32)]) (d := 8) ⟨Nat.le_refl _, Nat.le_refl _⟩ X I fn_X9_X0_init (c_X0_init l N (kn S102) (2 : Int32) x2 x3 x4 (-1 : Int32)) rfl (by decide) 115 dX9_removeValue_115 rfl hl.1 rfl (Nat.le_of_ble_eq_true rfl) ⟨Nat.le_of_ble_eq_true rfl, Nat.le_of_ble_eq_true rfl⟩ hpf (fun v106 S107 H locs I hm hpf => ?_)
    refine x_cIv (rest := []) (As := [.ref (g.2.1 (18 + 2 * n5)), .ref (cca104 (kn S102))]) (d := 8) ⟨Nat.le_refl _, Nat.le_refl _⟩ X XX I hc fn_X9_X9_record kCl_9 rfl (kO_X (g.1, g.2.1, cca104, cda103, cea103) S107) (c_X9_record l hlt N n5 hn5 (kn S102)) rfl (by decide) 118 dX9_removeValue_118 rfl hl.1 rfl (Nat.le_of_ble_eq_true rfl) ⟨Nat.le_of_ble_eq_true rfl, Nat.le_of_ble_eq_true rfl⟩ ⟨Nat.le_of_ble_eq_true rfl, Nat.le_of_ble_eq_true rfl⟩ hpf (fun v108 S109 cca110 cda110 cea110 H locs I hc hg hpf => ?_)
    have X := kX_to X cca110 cda110 cea110
    refine lv_aload hx hb dX9_removeValue_121 (lv_at hl 5 rfl) ?_
    refine lv_iload_n hx hb dX9_removeValue_123 rfl (lv_at hl 1 rfl) ?_
    refine lv_iload_n hx hb dX9_removeValue_124 rfl (lv_at hl 2 rfl) ?_
    refine k_cIi (rest := []) (As := [.int x2, .int x3]) (d := 8) ⟨Nat.le_refl _, Nat.le_refl _⟩ X I fn_X9_X8_valuesOf kCl_8 rfl (kO_T (g.1, g.2.1, cca110, cda110, cea110) S109 n6 hn6) (c_X8_valuesOf l N n6 hn6 x2 x3) rfl (by decide) 125 dX9_removeValue_125 rfl hl.1 rfl (Nat.le_of_ble_eq_true rfl) ⟨Nat.le_of_ble_eq_true rfl, Nat.le_of_ble_eq_true rfl⟩ hpf (fun v111 S112 H locs I hm hpf => ?_)
    exact x_reti X I hc hr ⟨Nat.le_of_ble_eq_true rfl, Nat.le_of_ble_eq_true rfl⟩ 128 dX9_removeValue_128 hpf
  have hC_61 : ∀ (t0 : Int32) (x2 : Int32) (x3 : Int32) (x4 : Int32) (n5 : Nat) (n6 : Nat) (x7 : Int32) (hn5 : n5 < 4) (hn6 : n6 < 5) (cC cD : Nat → Nat) (cE : Nat) (S S0 : kS), kGc g cC cE Si S0 → kX p s m meth c cX9_removeValue 8 args RX9 dC dI (g.1, g.2.1, cC, cD, cE) (kAt g (kn Si) (km Si) (kp Si) sz) → ∀ (H : Heap) (locs : List Loc), kV dC dI (g.1, g.2.1, cC, cD, cE) (kAt g (kn Si) (km Si) (kp Si) sz) s S0 S H locs → ∀ ls : Array Slot, lv_has ls 8 [(0, .ref (g.2.1 0)), (2, .int x2), (3, .int x3), (4, .int x4), (5, .ref (g.2.1 (18 + 2 * n5))), (6, .ref (g.2.1 (26 + 15 * n6))), (7, .int x7)] → pX9_removeValue_61 N t0 x2 x3 x4 n5 n6 x7 S = some (o, Sf) → W p l e (xRm 8 10 423) s m args below meth c H locs 6 36 (vx_MQ below (kQx dC dI g sz Si rI o Sf) (kXx dC dI g sz Si o Sf) args s 10 423 (kAt g (kn Si) (km Si) (kp Si) sz)) (F0 m 61 ls [.int t0]) := by
    intro t0 x2 x3 x4 n5 n6 x7 hn5 hn6 cC cD cE S S0 hc X H locs I ls hl hpf
    unfold pX9_removeValue_61 at hpf
    refine x_cSv (rest := []) (As := [.int t0]) (d := 8) ⟨Nat.le_refl _, Nat.le_refl _⟩ X XX I hc fn_X9_X9_need (c_X9_need l hlt N t0) rfl (by decide) 61 dX9_removeValue_61 rfl hl.1 rfl (Nat.le_of_ble_eq_true rfl) ⟨Nat.le_of_ble_eq_true rfl, Nat.le_of_ble_eq_true rfl⟩ ⟨Nat.le_of_ble_eq_true rfl, Nat.le_of_ble_eq_true rfl⟩ hpf (fun v101 S102 cca103 cda103 cea103 H locs I hc hg hpf => ?_)
    have X := kX_to X cca103 cda103 cea103
    refine lv_aload_n hx hb dX9_removeValue_64 rfl (lv_at hl 0 rfl) ?_
    refine k_get (k := 0) X I kCl_9 (kO_X (g.1, g.2.1, cca103, cda103, cea103) S102) 0 (by decide) rfl kC_402 65 dX9_removeValue_65 ?_
    refine lv_aload hx hb dX9_removeValue_68 (lv_at hl 5 rfl) ?_
    refine k_get (k := 0) X I kCl_8 (kO_T (g.1, g.2.1, cca103, cda103, cea103) S102 n6 hn6) 1 (by decide) rfl kC_612 70 dX9_removeValue_70 ?_
    refine lv_iload_n hx hb dX9_removeValue_73 rfl (lv_at hl 1 rfl) ?_
    refine k_iald X I (kR_T2 n6 hn6) 74 dX9_removeValue_74 hpf (fun hpf => ?_)
    refine lv_iload_n hx hb dX9_removeValue_75 rfl (lv_at hl 2 rfl) ?_
    refine k_cIi (rest := []) (As := [.int (kA S102 (26 + 15 * n6 + 2) x2.toNatClampNeg), .int x3]) (d := 8) ⟨Nat.le_refl _, Nat.le_refl _⟩ X I fn_X9_X7_isRequired kCl_7 rfl (kO_H (g.1, g.2.1, cca103, cda103, cea103) S102) (c_X7_isRequired l N (kA S102 (26 + 15 * n6 + 2) x2.toNatClampNeg) x3) rfl (by decide) 76 dX9_removeValue_76 rfl hl.1 rfl (Nat.le_of_ble_eq_true rfl) ⟨Nat.le_of_ble_eq_true rfl, Nat.le_of_ble_eq_true rfl⟩ hpf (fun v104 S105 H locs I hm hpf => ?_)
    refine b_if_eq hx hb 94 79 dX9_removeValue_79 (by decide) hpf (fun hpf => ?_) (fun hpf => ?_)
    · refine lv_iconst (v := (1 : Int32)) hx hb dX9_removeValue_94 (by decide) ?_
      refine lv_goto (tgt := 99) hx hb dX9_removeValue_95 (by decide) ?_
      refine W.widen (k := 7) (n := 42) (Nat.le_of_ble_eq_true rfl) (Nat.le_of_ble_eq_true rfl) ?_
      exact hC_99 (1 : Int32) x2 x3 x4 n5 n6 hn5 hn6 cca103 cda103 cea103 S105 _ hc X H locs I ls (lv_sub hl [0, 1, 2, 3, 4, 5] rfl) hpf
    refine lv_aload hx hb dX9_removeValue_82 (lv_at hl 5 rfl) ?_
    refine lv_iload_n hx hb dX9_removeValue_84 rfl (lv_at hl 1 rfl) ?_
    refine lv_iload_n hx hb dX9_removeValue_85 rfl (lv_at hl 2 rfl) ?_
    refine k_cIi (rest := []) (As := [.int x2, .int x3]) (d := 8) ⟨Nat.le_refl _, Nat.le_refl _⟩ X I fn_X9_X8_valuesOf kCl_8 rfl (kO_T (g.1, g.2.1, cca103, cda103, cea103) S105 n6 hn6) (c_X8_valuesOf l N n6 hn6 x2 x3) rfl (by decide) 86 dX9_removeValue_86 rfl hl.1 rfl (Nat.le_of_ble_eq_true rfl) ⟨Nat.le_of_ble_eq_true rfl, Nat.le_of_ble_eq_true rfl⟩ hpf (fun v106 S107 H locs I hm hpf => ?_)
    refine lv_iload hx hb dX9_removeValue_89 (lv_at hl 6 rfl) ?_
    refine b_icmp_le hx hb 98 91 dX9_removeValue_91 (by decide) hpf (fun hpf => ?_) (fun hpf => ?_)
    · refine lv_iconst (v := (0 : Int32)) hx hb dX9_removeValue_98 (by decide) ?_
      refine W.widen (k := 7) (n := 42) (Nat.le_of_ble_eq_true rfl) (Nat.le_of_ble_eq_true rfl) ?_
      exact hC_99 (0 : Int32) x2 x3 x4 n5 n6 hn5 hn6 cca103 cda103 cea103 S107 _ hc X H locs I ls (lv_sub hl [0, 1, 2, 3, 4, 5] rfl) hpf
    refine lv_iconst (v := (1 : Int32)) hx hb dX9_removeValue_94 (by decide) ?_
    refine lv_goto (tgt := 99) hx hb dX9_removeValue_95 (by decide) ?_
    refine W.widen (k := 7) (n := 42) (Nat.le_of_ble_eq_true rfl) (Nat.le_of_ble_eq_true rfl) ?_
    exact hC_99 (1 : Int32) x2 x3 x4 n5 n6 hn5 hn6 cca103 cda103 cea103 S107 _ hc X H locs I ls (lv_sub hl [0, 1, 2, 3, 4, 5] rfl) hpf
  refine lv_aload_n hx hb dX9_removeValue_0 rfl (lv_at hl 0 rfl) ?_
  refine lv_iload_n hx hb dX9_removeValue_1 rfl (lv_at hl 1 rfl) ?_
  refine x_cIm (rest := []) (As := [.int x1]) (d := 8) ⟨Nat.le_refl _, Nat.le_refl _⟩ X XX I hc fn_X9_X9_masterAt kCl_9 rfl (kO_X (g.1, g.2.1, g.2.2.1, g.2.2.2.1, g.2.2.2.2) Si) (c_X9_masterAt l hlt N x1) rfl (by decide) 2 dX9_removeValue_2 rfl hl.1 rfl (Nat.le_of_ble_eq_true rfl) ⟨Nat.le_of_ble_eq_true rfl, Nat.le_of_ble_eq_true rfl⟩ ⟨Nat.le_of_ble_eq_true rfl, Nat.le_of_ble_eq_true rfl⟩ hpf (fun v101 S102 cca103 cda103 cea103 H locs I hc hg hpf => ?_)
  have X := kX_to X cca103 cda103 cea103
  obtain ⟨hv101, hpf⟩ := gn_some hpf
  refine lv_astore (lv' := [(5, .ref (g.2.1 (18 + 2 * v101))), (0, .ref (g.2.1 0)), (1, .int x1), (2, .int x2), (3, .int x3), (4, .int x4)]) hx hb dX9_removeValue_5 hl (by decide) rfl (fun ls hl => ?_)
  refine lv_aload hx hb dX9_removeValue_7 (lv_at hl 0 rfl) ?_
  refine lv_iload_n hx hb dX9_removeValue_9 rfl (lv_at hl 3 rfl) ?_
  refine x_cSv (rest := []) (As := [.ref (g.2.1 (18 + 2 * v101)), .int x2]) (d := 8) ⟨Nat.le_refl _, Nat.le_refl _⟩ X XX I hc fn_X9_X9_needChangeable (c_X9_needChangeable l hlt N v101 hv101 x2) rfl (by decide) 10 dX9_removeValue_10 rfl hl.1 rfl (Nat.le_of_ble_eq_true rfl) ⟨Nat.le_of_ble_eq_true rfl, Nat.le_of_ble_eq_true rfl⟩ ⟨Nat.le_of_ble_eq_true rfl, Nat.le_of_ble_eq_true rfl⟩ hpf (fun v104 S105 cca106 cda106 cea106 H locs I hc hg hpf => ?_)
  have X := kX_to X cca106 cda106 cea106
  refine lv_aload_n hx hb dX9_removeValue_13 rfl (lv_at hl 1 rfl) ?_
  refine lv_iload_n hx hb dX9_removeValue_14 rfl (lv_at hl 4 rfl) ?_
  refine x_cIv (rest := []) (As := [.int x3]) (d := 8) ⟨Nat.le_refl _, Nat.le_refl _⟩ X XX I hc fn_X9_X9_needAttribute kCl_9 rfl (kO_X (g.1, g.2.1, cca106, cda106, cea106) S105) (c_X9_needAttribute l hlt N x3) rfl (by decide) 15 dX9_removeValue_15 rfl hl.1 rfl (Nat.le_of_ble_eq_true rfl) ⟨Nat.le_of_ble_eq_true rfl, Nat.le_of_ble_eq_true rfl⟩ ⟨Nat.le_of_ble_eq_true rfl, Nat.le_of_ble_eq_true rfl⟩ hpf (fun v107 S108 cca109 cda109 cea109 H locs I hc hg hpf => ?_)
  have X := kX_to X cca109 cda109 cea109
  refine lv_iload hx hb dX9_removeValue_18 (lv_at hl 5 rfl) ?_
  refine x_cSv (rest := []) (As := [.int x4]) (d := 8) ⟨Nat.le_refl _, Nat.le_refl _⟩ X XX I hc fn_X9_X9_needValue (c_X9_needValue l hlt N x4) rfl (by decide) 20 dX9_removeValue_20 rfl hl.1 rfl (Nat.le_of_ble_eq_true rfl) ⟨Nat.le_of_ble_eq_true rfl, Nat.le_of_ble_eq_true rfl⟩ ⟨Nat.le_of_ble_eq_true rfl, Nat.le_of_ble_eq_true rfl⟩ hpf (fun v110 S111 cca112 cda112 cea112 H locs I hc hg hpf => ?_)
  have X := kX_to X cca112 cda112 cea112
  refine lv_aload_n hx hb dX9_removeValue_23 rfl (lv_at hl 1 rfl) ?_
  refine x_cIv (rest := []) (As := []) (d := 8) ⟨Nat.le_refl _, Nat.le_refl _⟩ X XX I hc fn_X9_X9_needRoom kCl_9 rfl (kO_X (g.1, g.2.1, cca112, cda112, cea112) S111) (c_X9_needRoom l hlt N) rfl (by decide) 24 dX9_removeValue_24 rfl hl.1 rfl (Nat.le_of_ble_eq_true rfl) ⟨Nat.le_of_ble_eq_true rfl, Nat.le_of_ble_eq_true rfl⟩ ⟨Nat.le_of_ble_eq_true rfl, Nat.le_of_ble_eq_true rfl⟩ hpf (fun v113 S114 cca115 cda115 cea115 H locs I hc hg hpf => ?_)
  have X := kX_to X cca115 cda115 cea115
  refine lv_aload hx hb dX9_removeValue_27 (lv_at hl 0 rfl) ?_
  refine lv_iload_n hx hb dX9_removeValue_29 rfl (lv_at hl 3 rfl) ?_
  refine x_cSv (rest := []) (As := [.ref (g.2.1 (18 + 2 * v101)), .int x2]) (d := 8) ⟨Nat.le_refl _, Nat.le_refl _⟩ X XX I hc fn_X9_X9_needWrite (c_X9_needWrite l hlt N v101 hv101 x2) rfl (by decide) 30 dX9_removeValue_30 rfl hl.1 rfl (Nat.le_of_ble_eq_true rfl) ⟨Nat.le_of_ble_eq_true rfl, Nat.le_of_ble_eq_true rfl⟩ ⟨Nat.le_of_ble_eq_true rfl, Nat.le_of_ble_eq_true rfl⟩ hpf (fun v116 S117 cca118 cda118 cea118 H locs I hc hg hpf => ?_)
  have X := kX_to X cca118 cda118 cea118
  refine lv_aload hx hb dX9_removeValue_33 (lv_at hl 0 rfl) ?_
  refine k_get (k := 0) X I kCl_4 (kO_M (g.1, g.2.1, cca118, cda118, cea118) S117 v101 hv101) 1 (by decide) rfl kC_499 35 dX9_removeValue_35 ?_
  refine lv_astore (lv' := [(6, .ref (g.2.1 (26 + 15 * v101))), (5, .ref (g.2.1 (18 + 2 * v101))), (0, .ref (g.2.1 0)), (1, .int x1), (2, .int x2), (3, .int x3), (4, .int x4)]) hx hb dX9_removeValue_38 hl (by decide) rfl (fun ls hl => ?_)
  refine lv_aload hx hb dX9_removeValue_40 (lv_at hl 0 rfl) ?_
  refine lv_iload_n hx hb dX9_removeValue_42 rfl (lv_at hl 4 rfl) ?_
  refine lv_iload_n hx hb dX9_removeValue_43 rfl (lv_at hl 5 rfl) ?_
  refine lv_iload hx hb dX9_removeValue_44 (lv_at hl 6 rfl) ?_
  refine k_cIi (rest := []) (As := [.int x2, .int x3, .int x4]) (d := 8) ⟨Nat.le_refl _, Nat.le_refl _⟩ X I fn_X9_X8_matching kCl_8 rfl (kO_T (g.1, g.2.1, cca118, cda118, cea118) S117 v101 (Nat.lt_succ_of_lt hv101)) (c_X8_matching l N v101 (Nat.lt_succ_of_lt hv101) x2 x3 x4) rfl (by decide) 46 dX9_removeValue_46 rfl hl.1 rfl (Nat.le_of_ble_eq_true rfl) ⟨Nat.le_of_ble_eq_true rfl, Nat.le_of_ble_eq_true rfl⟩ hpf (fun v119 S120 H locs I hm hpf => ?_)
  refine lv_istore (lv' := [(7, .int v119), (6, .ref (g.2.1 (26 + 15 * v101))), (5, .ref (g.2.1 (18 + 2 * v101))), (0, .ref (g.2.1 0)), (1, .int x1), (2, .int x2), (3, .int x3), (4, .int x4)]) hx hb dX9_removeValue_49 hl (by decide) rfl (fun ls hl => ?_)
  refine lv_iload hx hb dX9_removeValue_51 (lv_at hl 0 rfl) ?_
  refine b_if_le hx hb 60 53 dX9_removeValue_53 (by decide) hpf (fun hpf => ?_) (fun hpf => ?_)
  · refine lv_iconst (v := (0 : Int32)) hx hb dX9_removeValue_60 (by decide) ?_
    refine W.widen (k := 6) (n := 36) (Nat.le_of_ble_eq_true rfl) (Nat.le_of_ble_eq_true rfl) ?_
    exact hC_61 (0 : Int32) x2 x3 x4 v101 v101 v119 hv101 (Nat.lt_succ_of_lt hv101) cca118 cda118 cea118 S120 _ hc X H locs I ls (lv_sub hl [3, 5, 6, 7, 2, 1, 0] rfl) hpf
  refine lv_iconst (v := (1 : Int32)) hx hb dX9_removeValue_56 (by decide) ?_
  refine lv_goto (tgt := 61) hx hb dX9_removeValue_57 (by decide) ?_
  refine W.widen (k := 6) (n := 36) (Nat.le_of_ble_eq_true rfl) (Nat.le_of_ble_eq_true rfl) ?_
  exact hC_61 (1 : Int32) x2 x3 x4 v101 v101 v119 hv101 (Nat.lt_succ_of_lt hv101) cca118 cda118 cea118 S120 _ hc X H locs I ls (lv_sub hl [3, 5, 6, 7, 2, 1, 0] rfl) hpf
-- ===== X9_replace =====
def pX9_replace (N : Nat) (x1 : Int32) (x2 : Int32) (x3 : Int32) (x4 : Int32) (S : kS) : Option ((Int32 ⊕ Nat) × kS) :=
    bx (pX9_masterAt N x1 S) fun v101 S102 =>
    gn v101 4 <|
    bx (pX9_needChangeable N v101 x2 S102) fun v104 S105 =>
    bx (pX9_needAttribute N x3 S105) fun v107 S108 =>
    bx (pX9_needValue N x4 S108) fun v110 S111 =>
    bx (pX9_needRoom N S111) fun v113 S114 =>
    bx (pX9_needWrite N v101 x2 S114) fun v116 S117 =>
    gd x2 48 <|
    bk (pX7_isAllowed N (kA S117 (26 + 15 * v101 + 2) x2.toNatClampNeg) x3 S117) fun v119 S120 =>
    bx (pX9_need N v119 S120) fun v121 S122 =>
    bk (pX8_valuesOf N v101 x2 x3 S122) fun v124 S125 =>
    gNew S125 <| svk (nU S125) fun S127 =>
    bk (pX0_init N (kn S125) (3 : Int32) x2 x3 x4 (-1 : Int32) S127) fun v128 S129 =>
    bx (pX9_record N v101 (kn S125) S129) fun v130 S131 =>
    some (.inl v124, S131)
set_option maxRecDepth 100000 in
set_option maxHeartbeats 4000000 in
theorem c_X9_replace (l : Launch) (hlt : l.stackTraces = false) (N : Nat) (x1 : Int32) (x2 : Int32) (x3 : Int32) (x4 : Int32) : kMx l yX9_replace cX9_replace 7 (some .int) 8 9 417 (fun g => [.ref (g.2.1 0), .int x1, .int x2, .int x3, .int x4]) rI (pX9_replace N x1 x2 x3 x4) := by
  refine xStart hlt RX9 (by decide +kernel) rfl (fun g => [(0, .ref (g.2.1 0)), (1, .int x1), (2, .int x2), (3, .int x3), (4, .int x4)]) (fun _ => Nat.le_of_ble_eq_true rfl) (fun _ => rfl) ?_
  intro dC dI g sz Si o Sf hpf p e s m args below meth c X XX hr H locs I hc ls hl
  have hx := X.1
  have hb := X.2.1
  unfold pX9_replace at hpf
  refine lv_aload_n hx hb dX9_replace_0 rfl (lv_at hl 0 rfl) ?_
  refine lv_iload_n hx hb dX9_replace_1 rfl (lv_at hl 1 rfl) ?_
  refine x_cIm (rest := []) (As := [.int x1]) (d := 8) ⟨Nat.le_refl _, Nat.le_refl _⟩ X XX I hc fn_X9_X9_masterAt kCl_9 rfl (kO_X (g.1, g.2.1, g.2.2.1, g.2.2.2.1, g.2.2.2.2) Si) (c_X9_masterAt l hlt N x1) rfl (by decide) 2 dX9_replace_2 rfl hl.1 rfl (Nat.le_of_ble_eq_true rfl) ⟨Nat.le_of_ble_eq_true rfl, Nat.le_of_ble_eq_true rfl⟩ ⟨Nat.le_of_ble_eq_true rfl, Nat.le_of_ble_eq_true rfl⟩ hpf (fun v101 S102 cca103 cda103 cea103 H locs I hc hg hpf => ?_)
  have X := kX_to X cca103 cda103 cea103
  obtain ⟨hv101, hpf⟩ := gn_some hpf
  refine lv_astore (lv' := [(5, .ref (g.2.1 (18 + 2 * v101))), (0, .ref (g.2.1 0)), (1, .int x1), (2, .int x2), (3, .int x3), (4, .int x4)]) hx hb dX9_replace_5 hl (by decide) rfl (fun ls hl => ?_)
  refine lv_aload hx hb dX9_replace_7 (lv_at hl 0 rfl) ?_
  refine lv_iload_n hx hb dX9_replace_9 rfl (lv_at hl 3 rfl) ?_
  refine x_cSv (rest := []) (As := [.ref (g.2.1 (18 + 2 * v101)), .int x2]) (d := 8) ⟨Nat.le_refl _, Nat.le_refl _⟩ X XX I hc fn_X9_X9_needChangeable (c_X9_needChangeable l hlt N v101 hv101 x2) rfl (by decide) 10 dX9_replace_10 rfl hl.1 rfl (Nat.le_of_ble_eq_true rfl) ⟨Nat.le_of_ble_eq_true rfl, Nat.le_of_ble_eq_true rfl⟩ ⟨Nat.le_of_ble_eq_true rfl, Nat.le_of_ble_eq_true rfl⟩ hpf (fun v104 S105 cca106 cda106 cea106 H locs I hc hg hpf => ?_)
  have X := kX_to X cca106 cda106 cea106
  refine lv_aload_n hx hb dX9_replace_13 rfl (lv_at hl 1 rfl) ?_
  refine lv_iload_n hx hb dX9_replace_14 rfl (lv_at hl 4 rfl) ?_
  refine x_cIv (rest := []) (As := [.int x3]) (d := 8) ⟨Nat.le_refl _, Nat.le_refl _⟩ X XX I hc fn_X9_X9_needAttribute kCl_9 rfl (kO_X (g.1, g.2.1, cca106, cda106, cea106) S105) (c_X9_needAttribute l hlt N x3) rfl (by decide) 15 dX9_replace_15 rfl hl.1 rfl (Nat.le_of_ble_eq_true rfl) ⟨Nat.le_of_ble_eq_true rfl, Nat.le_of_ble_eq_true rfl⟩ ⟨Nat.le_of_ble_eq_true rfl, Nat.le_of_ble_eq_true rfl⟩ hpf (fun v107 S108 cca109 cda109 cea109 H locs I hc hg hpf => ?_)
  have X := kX_to X cca109 cda109 cea109
  refine lv_iload hx hb dX9_replace_18 (lv_at hl 5 rfl) ?_
  refine x_cSv (rest := []) (As := [.int x4]) (d := 8) ⟨Nat.le_refl _, Nat.le_refl _⟩ X XX I hc fn_X9_X9_needValue (c_X9_needValue l hlt N x4) rfl (by decide) 20 dX9_replace_20 rfl hl.1 rfl (Nat.le_of_ble_eq_true rfl) ⟨Nat.le_of_ble_eq_true rfl, Nat.le_of_ble_eq_true rfl⟩ ⟨Nat.le_of_ble_eq_true rfl, Nat.le_of_ble_eq_true rfl⟩ hpf (fun v110 S111 cca112 cda112 cea112 H locs I hc hg hpf => ?_)
  have X := kX_to X cca112 cda112 cea112
  refine lv_aload_n hx hb dX9_replace_23 rfl (lv_at hl 1 rfl) ?_
  refine x_cIv (rest := []) (As := []) (d := 8) ⟨Nat.le_refl _, Nat.le_refl _⟩ X XX I hc fn_X9_X9_needRoom kCl_9 rfl (kO_X (g.1, g.2.1, cca112, cda112, cea112) S111) (c_X9_needRoom l hlt N) rfl (by decide) 24 dX9_replace_24 rfl hl.1 rfl (Nat.le_of_ble_eq_true rfl) ⟨Nat.le_of_ble_eq_true rfl, Nat.le_of_ble_eq_true rfl⟩ ⟨Nat.le_of_ble_eq_true rfl, Nat.le_of_ble_eq_true rfl⟩ hpf (fun v113 S114 cca115 cda115 cea115 H locs I hc hg hpf => ?_)
  have X := kX_to X cca115 cda115 cea115
  refine lv_aload hx hb dX9_replace_27 (lv_at hl 0 rfl) ?_
  refine lv_iload_n hx hb dX9_replace_29 rfl (lv_at hl 3 rfl) ?_
  refine x_cSv (rest := []) (As := [.ref (g.2.1 (18 + 2 * v101)), .int x2]) (d := 8) ⟨Nat.le_refl _, Nat.le_refl _⟩ X XX I hc fn_X9_X9_needWrite (c_X9_needWrite l hlt N v101 hv101 x2) rfl (by decide) 30 dX9_replace_30 rfl hl.1 rfl (Nat.le_of_ble_eq_true rfl) ⟨Nat.le_of_ble_eq_true rfl, Nat.le_of_ble_eq_true rfl⟩ ⟨Nat.le_of_ble_eq_true rfl, Nat.le_of_ble_eq_true rfl⟩ hpf (fun v116 S117 cca118 cda118 cea118 H locs I hc hg hpf => ?_)
  have X := kX_to X cca118 cda118 cea118
  refine lv_aload_n hx hb dX9_replace_33 rfl (lv_at hl 1 rfl) ?_
  refine k_get (k := 0) X I kCl_9 (kO_X (g.1, g.2.1, cca118, cda118, cea118) S117) 0 (by decide) rfl kC_402 34 dX9_replace_34 ?_
  refine lv_aload hx hb dX9_replace_37 (lv_at hl 0 rfl) ?_
  refine k_get (k := 0) X I kCl_4 (kO_M (g.1, g.2.1, cca118, cda118, cea118) S117 v101 hv101) 1 (by decide) rfl kC_499 39 dX9_replace_39 ?_
  refine k_get (k := 0) X I kCl_8 (kO_T (g.1, g.2.1, cca118, cda118, cea118) S117 v101 (Nat.lt_succ_of_lt hv101)) 1 (by decide) rfl kC_612 42 dX9_replace_42 ?_
  refine lv_iload_n hx hb dX9_replace_45 rfl (lv_at hl 3 rfl) ?_
  refine k_iald X I (kR_T2 v101 (Nat.lt_succ_of_lt hv101)) 46 dX9_replace_46 hpf (fun hpf => ?_)
  refine lv_iload_n hx hb dX9_replace_47 rfl (lv_at hl 4 rfl) ?_
  refine k_cIi (rest := []) (As := [.int (kA S117 (26 + 15 * v101 + 2) x2.toNatClampNeg), .int x3]) (d := 8) ⟨Nat.le_refl _, Nat.le_refl _⟩ X I fn_X9_X7_isAllowed kCl_7 rfl (kO_H (g.1, g.2.1, cca118, cda118, cea118) S117) (c_X7_isAllowed l N (kA S117 (26 + 15 * v101 + 2) x2.toNatClampNeg) x3) rfl (by decide) 48 dX9_replace_48 rfl hl.1 rfl (Nat.le_of_ble_eq_true rfl) ⟨Nat.le_of_ble_eq_true rfl, Nat.le_of_ble_eq_true rfl⟩ hpf (fun v119 S120 H locs I hm hpf => ?_)
  refine x_cSv (rest := []) (As := [.int v119]) (d := 8) ⟨Nat.le_refl _, Nat.le_refl _⟩ X XX I hc fn_X9_X9_need (c_X9_need l hlt N v119) rfl (by decide) 51 dX9_replace_51 rfl hl.1 rfl (Nat.le_of_ble_eq_true rfl) ⟨Nat.le_of_ble_eq_true rfl, Nat.le_of_ble_eq_true rfl⟩ ⟨Nat.le_of_ble_eq_true rfl, Nat.le_of_ble_eq_true rfl⟩ hpf (fun v121 S122 cca123 cda123 cea123 H locs I hc hg hpf => ?_)
  have X := kX_to X cca123 cda123 cea123
  refine lv_aload hx hb dX9_replace_54 (lv_at hl 0 rfl) ?_
  refine k_get (k := 0) X I kCl_4 (kO_M (g.1, g.2.1, cca123, cda123, cea123) S122 v101 hv101) 1 (by decide) rfl kC_499 56 dX9_replace_56 ?_
  refine lv_iload_n hx hb dX9_replace_59 rfl (lv_at hl 3 rfl) ?_
  refine lv_iload_n hx hb dX9_replace_60 rfl (lv_at hl 4 rfl) ?_
  refine k_cIi (rest := []) (As := [.int x2, .int x3]) (d := 8) ⟨Nat.le_refl _, Nat.le_refl _⟩ X I fn_X9_X8_valuesOf kCl_8 rfl (kO_T (g.1, g.2.1, cca123, cda123, cea123) S122 v101 (Nat.lt_succ_of_lt hv101)) (c_X8_valuesOf l N v101 (Nat.lt_succ_of_lt hv101) x2 x3) rfl (by decide) 61 dX9_replace_61 rfl hl.1 rfl (Nat.le_of_ble_eq_true rfl) ⟨Nat.le_of_ble_eq_true rfl, Nat.le_of_ble_eq_true rfl⟩ hpf (fun v124 S125 H locs I hm hpf => ?_)
  refine lv_istore (lv' := [(6, .int v124), (5, .ref (g.2.1 (18 + 2 * v101))), (0, .ref (g.2.1 0)), (1, .int x1), (2, .int x2), (3, .int x3), (4, .int x4)]) hx hb dX9_replace_64 hl (by decide) rfl (fun ls hl => ?_)
  refine lv_aload_n hx hb dX9_replace_66 rfl (lv_at hl 2 rfl) ?_
  refine lv_aload hx hb dX9_replace_67 (lv_at hl 1 rfl) ?_
  refine x_newU X I kC_582 ⟨Nat.le_of_ble_eq_true rfl, Nat.le_of_ble_eq_true rfl⟩ 69 dX9_replace_69 hpf (fun cca126 S127 H I2 hg hltk hpf => ?_)
  have hc := (hc.sm I.2.2.2).trans (cd := cda123) hg
  have I := I2
  have X := kX_to X cca126 cda123 cea123
  refine lv_dup hx hb dX9_replace_72 rfl ?_
  refine lv_iconst (v := (3 : Int32)) hx hb dX9_replace_73 (by decide) ?_
  refine lv_iload_n hx hb dX9_replace_74 rfl (lv_at hl 4 rfl) ?_
  refine lv_iload_n hx hb dX9_replace_75 rfl (lv_at hl 5 rfl) ?_
  refine lv_iload hx hb dX9_replace_76 (lv_at hl 6 rfl) ?_
  refine lv_iconst (v := (-1 : Int32)) hx hb dX9_replace_78 (by decide) ?_
  refine k_callC (α := Unit) (rest := [.ref (cca126 (kn S125)), .ref (g.2.1 (18 + 2 * v101)), .ref (g.2.1 0)]) (As := [.int (3 : Int32), .int x2, .int x3, .int x4, .int (-1 : Int32)]) (d := 8) ⟨Nat.le_refl _, Nat.le_refl _⟩ X I fn_X9_X0_init (c_X0_init l N (kn S125) (3 : Int32) x2 x3 x4 (-1 : Int32)) rfl (by decide) 79 dX9_replace_79 rfl hl.1 rfl (Nat.le_of_ble_eq_true rfl) ⟨Nat.le_of_ble_eq_true rfl, Nat.le_of_ble_eq_true rfl⟩ hpf (fun v128 S129 H locs I hm hpf => ?_)
  refine x_cIv (rest := []) (As := [.ref (g.2.1 (18 + 2 * v101)), .ref (cca126 (kn S125))]) (d := 8) ⟨Nat.le_refl _, Nat.le_refl _⟩ X XX I hc fn_X9_X9_record kCl_9 rfl (kO_X (g.1, g.2.1, cca126, cda123, cea123) S129) (c_X9_record l hlt N v101 hv101 (kn S125)) rfl (by decide) 82 dX9_replace_82 rfl hl.1 rfl (Nat.le_of_ble_eq_true rfl) ⟨Nat.le_of_ble_eq_true rfl, Nat.le_of_ble_eq_true rfl⟩ ⟨Nat.le_of_ble_eq_true rfl, Nat.le_of_ble_eq_true rfl⟩ hpf (fun v130 S131 cca132 cda132 cea132 H locs I hc hg hpf => ?_)
  have X := kX_to X cca132 cda132 cea132
  refine lv_iload hx hb dX9_replace_85 (lv_at hl 0 rfl) ?_
  exact x_reti X I hc hr ⟨Nat.le_of_ble_eq_true rfl, Nat.le_of_ble_eq_true rfl⟩ 87 dX9_replace_87 hpf
-- ===== X9_rename =====
def pX9_rename (N : Nat) (x1 : Int32) (x2 : Int32) (x3 : Int32) (S : kS) : Option ((Int32 ⊕ Nat) × kS) :=
    bx (pX9_masterAt N x1 S) fun v101 S102 =>
    gn v101 4 <|
    bx (pX9_needChangeable N v101 x2 S102) fun v104 S105 =>
    bx (pX9_needName N x3 S105) fun v107 S108 =>
    bx (pX9_needRoom N S108) fun v110 S111 =>
    bx (pX9_needWrite N v101 x2 S111) fun v113 S114 =>
    bk (pX8_placeOf N v101 x2 S114) fun v116 S117 =>
    bx (pX9_needFreeName N v101 v116 x3 x2 S117) fun v118 S119 =>
    bk (pX8_shownName N v101 x2 S119) fun v121 S122 =>
    gNew S122 <| svk (nU S122) fun S124 =>
    bk (pX0_init N (kn S122) (4 : Int32) x2 x3 (-1 : Int32) (-1 : Int32) S124) fun v125 S126 =>
    bx (pX9_record N v101 (kn S122) S126) fun v127 S128 =>
    some (.inl v121, S128)
set_option maxRecDepth 100000 in
set_option maxHeartbeats 4000000 in
theorem c_X9_rename (l : Launch) (hlt : l.stackTraces = false) (N : Nat) (x1 : Int32) (x2 : Int32) (x3 : Int32) : kMx l yX9_rename cX9_rename 6 (some .int) 8 8 411 (fun g => [.ref (g.2.1 0), .int x1, .int x2, .int x3]) rI (pX9_rename N x1 x2 x3) := by
  refine xStart hlt RX9 (by decide +kernel) rfl (fun g => [(0, .ref (g.2.1 0)), (1, .int x1), (2, .int x2), (3, .int x3)]) (fun _ => Nat.le_of_ble_eq_true rfl) (fun _ => rfl) ?_
  intro dC dI g sz Si o Sf hpf p e s m args below meth c X XX hr H locs I hc ls hl
  have hx := X.1
  have hb := X.2.1
  unfold pX9_rename at hpf
  refine lv_aload_n hx hb dX9_rename_0 rfl (lv_at hl 0 rfl) ?_
  refine lv_iload_n hx hb dX9_rename_1 rfl (lv_at hl 1 rfl) ?_
  refine x_cIm (rest := []) (As := [.int x1]) (d := 8) ⟨Nat.le_refl _, Nat.le_refl _⟩ X XX I hc fn_X9_X9_masterAt kCl_9 rfl (kO_X (g.1, g.2.1, g.2.2.1, g.2.2.2.1, g.2.2.2.2) Si) (c_X9_masterAt l hlt N x1) rfl (by decide) 2 dX9_rename_2 rfl hl.1 rfl (Nat.le_of_ble_eq_true rfl) ⟨Nat.le_of_ble_eq_true rfl, Nat.le_of_ble_eq_true rfl⟩ ⟨Nat.le_of_ble_eq_true rfl, Nat.le_of_ble_eq_true rfl⟩ hpf (fun v101 S102 cca103 cda103 cea103 H locs I hc hg hpf => ?_)
  have X := kX_to X cca103 cda103 cea103
  obtain ⟨hv101, hpf⟩ := gn_some hpf
  refine lv_astore (lv' := [(4, .ref (g.2.1 (18 + 2 * v101))), (0, .ref (g.2.1 0)), (1, .int x1), (2, .int x2), (3, .int x3)]) hx hb dX9_rename_5 hl (by decide) rfl (fun ls hl => ?_)
  refine lv_aload hx hb dX9_rename_7 (lv_at hl 0 rfl) ?_
  refine lv_iload_n hx hb dX9_rename_9 rfl (lv_at hl 3 rfl) ?_
  refine x_cSv (rest := []) (As := [.ref (g.2.1 (18 + 2 * v101)), .int x2]) (d := 8) ⟨Nat.le_refl _, Nat.le_refl _⟩ X XX I hc fn_X9_X9_needChangeable (c_X9_needChangeable l hlt N v101 hv101 x2) rfl (by decide) 10 dX9_rename_10 rfl hl.1 rfl (Nat.le_of_ble_eq_true rfl) ⟨Nat.le_of_ble_eq_true rfl, Nat.le_of_ble_eq_true rfl⟩ ⟨Nat.le_of_ble_eq_true rfl, Nat.le_of_ble_eq_true rfl⟩ hpf (fun v104 S105 cca106 cda106 cea106 H locs I hc hg hpf => ?_)
  have X := kX_to X cca106 cda106 cea106
  refine lv_iload_n hx hb dX9_rename_13 rfl (lv_at hl 4 rfl) ?_
  refine x_cSv (rest := []) (As := [.int x3]) (d := 8) ⟨Nat.le_refl _, Nat.le_refl _⟩ X XX I hc fn_X9_X9_needName (c_X9_needName l hlt N x3) rfl (by decide) 14 dX9_rename_14 rfl hl.1 rfl (Nat.le_of_ble_eq_true rfl) ⟨Nat.le_of_ble_eq_true rfl, Nat.le_of_ble_eq_true rfl⟩ ⟨Nat.le_of_ble_eq_true rfl, Nat.le_of_ble_eq_true rfl⟩ hpf (fun v107 S108 cca109 cda109 cea109 H locs I hc hg hpf => ?_)
  have X := kX_to X cca109 cda109 cea109
  refine lv_aload_n hx hb dX9_rename_17 rfl (lv_at hl 1 rfl) ?_
  refine x_cIv (rest := []) (As := []) (d := 8) ⟨Nat.le_refl _, Nat.le_refl _⟩ X XX I hc fn_X9_X9_needRoom kCl_9 rfl (kO_X (g.1, g.2.1, cca109, cda109, cea109) S108) (c_X9_needRoom l hlt N) rfl (by decide) 18 dX9_rename_18 rfl hl.1 rfl (Nat.le_of_ble_eq_true rfl) ⟨Nat.le_of_ble_eq_true rfl, Nat.le_of_ble_eq_true rfl⟩ ⟨Nat.le_of_ble_eq_true rfl, Nat.le_of_ble_eq_true rfl⟩ hpf (fun v110 S111 cca112 cda112 cea112 H locs I hc hg hpf => ?_)
  have X := kX_to X cca112 cda112 cea112
  refine lv_aload hx hb dX9_rename_21 (lv_at hl 0 rfl) ?_
  refine lv_iload_n hx hb dX9_rename_23 rfl (lv_at hl 3 rfl) ?_
  refine x_cSv (rest := []) (As := [.ref (g.2.1 (18 + 2 * v101)), .int x2]) (d := 8) ⟨Nat.le_refl _, Nat.le_refl _⟩ X XX I hc fn_X9_X9_needWrite (c_X9_needWrite l hlt N v101 hv101 x2) rfl (by decide) 24 dX9_rename_24 rfl hl.1 rfl (Nat.le_of_ble_eq_true rfl) ⟨Nat.le_of_ble_eq_true rfl, Nat.le_of_ble_eq_true rfl⟩ ⟨Nat.le_of_ble_eq_true rfl, Nat.le_of_ble_eq_true rfl⟩ hpf (fun v113 S114 cca115 cda115 cea115 H locs I hc hg hpf => ?_)
  have X := kX_to X cca115 cda115 cea115
  refine lv_aload hx hb dX9_rename_27 (lv_at hl 0 rfl) ?_
  refine lv_aload hx hb dX9_rename_29 (lv_at hl 0 rfl) ?_
  refine k_get (k := 0) X I kCl_4 (kO_M (g.1, g.2.1, cca115, cda115, cea115) S114 v101 hv101) 1 (by decide) rfl kC_499 31 dX9_rename_31 ?_
  refine lv_iload_n hx hb dX9_rename_34 rfl (lv_at hl 3 rfl) ?_
  refine k_cIi (rest := [.ref (g.2.1 (18 + 2 * v101))]) (As := [.int x2]) (d := 8) ⟨Nat.le_refl _, Nat.le_refl _⟩ X I fn_X9_X8_placeOf kCl_8 rfl (kO_T (g.1, g.2.1, cca115, cda115, cea115) S114 v101 (Nat.lt_succ_of_lt hv101)) (c_X8_placeOf l N v101 (Nat.lt_succ_of_lt hv101) x2) rfl (by decide) 35 dX9_rename_35 rfl hl.1 rfl (Nat.le_of_ble_eq_true rfl) ⟨Nat.le_of_ble_eq_true rfl, Nat.le_of_ble_eq_true rfl⟩ hpf (fun v116 S117 H locs I hm hpf => ?_)
  refine lv_iload_n hx hb dX9_rename_38 rfl (lv_at hl 4 rfl) ?_
  refine lv_iload_n hx hb dX9_rename_39 rfl (lv_at hl 3 rfl) ?_
  refine x_cSv (rest := []) (As := [.ref (g.2.1 (18 + 2 * v101)), .int v116, .int x3, .int x2]) (d := 8) ⟨Nat.le_refl _, Nat.le_refl _⟩ X XX I hc fn_X9_X9_needFreeName (c_X9_needFreeName l hlt N v101 hv101 v116 x3 x2) rfl (by decide) 40 dX9_rename_40 rfl hl.1 rfl (Nat.le_of_ble_eq_true rfl) ⟨Nat.le_of_ble_eq_true rfl, Nat.le_of_ble_eq_true rfl⟩ ⟨Nat.le_of_ble_eq_true rfl, Nat.le_of_ble_eq_true rfl⟩ hpf (fun v118 S119 cca120 cda120 cea120 H locs I hc hg hpf => ?_)
  have X := kX_to X cca120 cda120 cea120
  refine lv_aload hx hb dX9_rename_43 (lv_at hl 0 rfl) ?_
  refine k_get (k := 0) X I kCl_4 (kO_M (g.1, g.2.1, cca120, cda120, cea120) S119 v101 hv101) 1 (by decide) rfl kC_499 45 dX9_rename_45 ?_
  refine lv_iload_n hx hb dX9_rename_48 rfl (lv_at hl 3 rfl) ?_
  refine k_cIi (rest := []) (As := [.int x2]) (d := 8) ⟨Nat.le_refl _, Nat.le_refl _⟩ X I fn_X9_X8_shownName kCl_8 rfl (kO_T (g.1, g.2.1, cca120, cda120, cea120) S119 v101 (Nat.lt_succ_of_lt hv101)) (c_X8_shownName l N v101 (Nat.lt_succ_of_lt hv101) x2) rfl (by decide) 49 dX9_rename_49 rfl hl.1 rfl (Nat.le_of_ble_eq_true rfl) ⟨Nat.le_of_ble_eq_true rfl, Nat.le_of_ble_eq_true rfl⟩ hpf (fun v121 S122 H locs I hm hpf => ?_)
  refine lv_istore (lv' := [(5, .int v121), (4, .ref (g.2.1 (18 + 2 * v101))), (0, .ref (g.2.1 0)), (1, .int x1), (2, .int x2), (3, .int x3)]) hx hb dX9_rename_52 hl (by decide) rfl (fun ls hl => ?_)
  refine lv_aload_n hx hb dX9_rename_54 rfl (lv_at hl 2 rfl) ?_
  refine lv_aload hx hb dX9_rename_55 (lv_at hl 1 rfl) ?_
  refine x_newU X I kC_582 ⟨Nat.le_of_ble_eq_true rfl, Nat.le_of_ble_eq_true rfl⟩ 57 dX9_rename_57 hpf (fun cca123 S124 H I2 hg hltk hpf => ?_)
  have hc := (hc.sm I.2.2.2).trans (cd := cda120) hg
  have I := I2
  have X := kX_to X cca123 cda120 cea120
  refine lv_dup hx hb dX9_rename_60 rfl ?_
  refine lv_iconst (v := (4 : Int32)) hx hb dX9_rename_61 (by decide) ?_
  refine lv_iload_n hx hb dX9_rename_62 rfl (lv_at hl 4 rfl) ?_
  refine lv_iload_n hx hb dX9_rename_63 rfl (lv_at hl 5 rfl) ?_
  refine lv_iconst (v := (-1 : Int32)) hx hb dX9_rename_64 (by decide) ?_
  refine lv_iconst (v := (-1 : Int32)) hx hb dX9_rename_65 (by decide) ?_
  refine k_callC (α := Unit) (rest := [.ref (cca123 (kn S122)), .ref (g.2.1 (18 + 2 * v101)), .ref (g.2.1 0)]) (As := [.int (4 : Int32), .int x2, .int x3, .int (-1 : Int32), .int (-1 : Int32)]) (d := 8) ⟨Nat.le_refl _, Nat.le_refl _⟩ X I fn_X9_X0_init (c_X0_init l N (kn S122) (4 : Int32) x2 x3 (-1 : Int32) (-1 : Int32)) rfl (by decide) 66 dX9_rename_66 rfl hl.1 rfl (Nat.le_of_ble_eq_true rfl) ⟨Nat.le_of_ble_eq_true rfl, Nat.le_of_ble_eq_true rfl⟩ hpf (fun v125 S126 H locs I hm hpf => ?_)
  refine x_cIv (rest := []) (As := [.ref (g.2.1 (18 + 2 * v101)), .ref (cca123 (kn S122))]) (d := 8) ⟨Nat.le_refl _, Nat.le_refl _⟩ X XX I hc fn_X9_X9_record kCl_9 rfl (kO_X (g.1, g.2.1, cca123, cda120, cea120) S126) (c_X9_record l hlt N v101 hv101 (kn S122)) rfl (by decide) 69 dX9_rename_69 rfl hl.1 rfl (Nat.le_of_ble_eq_true rfl) ⟨Nat.le_of_ble_eq_true rfl, Nat.le_of_ble_eq_true rfl⟩ ⟨Nat.le_of_ble_eq_true rfl, Nat.le_of_ble_eq_true rfl⟩ hpf (fun v127 S128 cca129 cda129 cea129 H locs I hc hg hpf => ?_)
  have X := kX_to X cca129 cda129 cea129
  refine lv_iload hx hb dX9_rename_72 (lv_at hl 0 rfl) ?_
  exact x_reti X I hc hr ⟨Nat.le_of_ble_eq_true rfl, Nat.le_of_ble_eq_true rfl⟩ 74 dX9_rename_74 hpf
-- ===== X9_move =====
def pX9_move_53 (N : Nat) (t0 : Int32) (x2 : Int32) (x3 : Int32) (n4 : Nat) (S : kS) : Option ((Int32 ⊕ Nat) × kS) :=
    bx (pX9_need N t0 S) fun v101 S102 =>
    gd x2 48 <|
    bx (pX9_needFreeName N n4 x3 (kA S102 (26 + 15 * n4 + 1) x2.toNatClampNeg) x2 S102) fun v104 S105 =>
    bk (pX8_placeOf N n4 x2 S105) fun v107 S108 =>
    gNew S108 <| svk (nU S108) fun S110 =>
    bk (pX0_init N (kn S108) (7 : Int32) x2 x3 (-1 : Int32) (-1 : Int32) S110) fun v111 S112 =>
    bx (pX9_record N n4 (kn S108) S112) fun v113 S114 =>
    some (.inl v107, S114)
def pX9_move (N : Nat) (x1 : Int32) (x2 : Int32) (x3 : Int32) (S : kS) : Option ((Int32 ⊕ Nat) × kS) :=
    bx (pX9_masterAt N x1 S) fun v101 S102 =>
    gn v101 4 <|
    bx (pX9_needChangeable N v101 x2 S102) fun v104 S105 =>
    bx (pX9_needEntry N v101 x3 S105) fun v107 S108 =>
    bx (pX9_needRoom N S108) fun v110 S111 =>
    bx (pX9_needWrite N v101 x2 S111) fun v113 S114 =>
    bx (pX9_needWrite N v101 x3 S114) fun v116 S117 =>
    bk (pX8_comesTo N v101 x3 x2 S117) fun v119 S120 =>
    if v119 = (0 : Int32) then (
      pX9_move_53 N (1 : Int32) x2 x3 v101 S120)
    else (
      pX9_move_53 N (0 : Int32) x2 x3 v101 S120)
set_option maxRecDepth 100000 in
set_option maxHeartbeats 4000000 in
theorem c_X9_move (l : Launch) (hlt : l.stackTraces = false) (N : Nat) (x1 : Int32) (x2 : Int32) (x3 : Int32) : kMx l yX9_move cX9_move 6 (some .int) 8 10 423 (fun g => [.ref (g.2.1 0), .int x1, .int x2, .int x3]) rI (pX9_move N x1 x2 x3) := by
  refine xStart hlt RX9 (by decide +kernel) rfl (fun g => [(0, .ref (g.2.1 0)), (1, .int x1), (2, .int x2), (3, .int x3)]) (fun _ => Nat.le_of_ble_eq_true rfl) (fun _ => rfl) ?_
  intro dC dI g sz Si o Sf hpf p e s m args below meth c X XX hr H locs I hc ls hl
  have hx := X.1
  have hb := X.2.1
  unfold pX9_move at hpf
  have hC_53 : ∀ (t0 : Int32) (x2 : Int32) (x3 : Int32) (n4 : Nat) (hn4 : n4 < 4) (cC cD : Nat → Nat) (cE : Nat) (S S0 : kS), kGc g cC cE Si S0 → kX p s m meth c cX9_move 6 args RX9 dC dI (g.1, g.2.1, cC, cD, cE) (kAt g (kn Si) (km Si) (kp Si) sz) → ∀ (H : Heap) (locs : List Loc), kV dC dI (g.1, g.2.1, cC, cD, cE) (kAt g (kn Si) (km Si) (kp Si) sz) s S0 S H locs → ∀ ls : Array Slot, lv_has ls 6 [(0, .ref (g.2.1 0)), (2, .int x2), (3, .int x3), (4, .ref (g.2.1 (18 + 2 * n4)))] → pX9_move_53 N t0 x2 x3 n4 S = some (o, Sf) → W p l e (xRm 8 10 423) s m args below meth c H locs 6 36 (vx_MQ below (kQx dC dI g sz Si rI o Sf) (kXx dC dI g sz Si o Sf) args s 10 423 (kAt g (kn Si) (km Si) (kp Si) sz)) (F0 m 53 ls [.int t0]) := by
    intro t0 x2 x3 n4 hn4 cC cD cE S S0 hc X H locs I ls hl hpf
    unfold pX9_move_53 at hpf
    refine x_cSv (rest := []) (As := [.int t0]) (d := 8) ⟨Nat.le_refl _, Nat.le_refl _⟩ X XX I hc fn_X9_X9_need (c_X9_need l hlt N t0) rfl (by decide) 53 dX9_move_53 rfl hl.1 rfl (Nat.le_of_ble_eq_true rfl) ⟨Nat.le_of_ble_eq_true rfl, Nat.le_of_ble_eq_true rfl⟩ ⟨Nat.le_of_ble_eq_true rfl, Nat.le_of_ble_eq_true rfl⟩ hpf (fun v101 S102 cca103 cda103 cea103 H locs I hc hg hpf => ?_)
    have X := kX_to X cca103 cda103 cea103
    refine lv_aload hx hb dX9_move_56 (lv_at hl 3 rfl) ?_
    refine lv_iload_n hx hb dX9_move_58 rfl (lv_at hl 2 rfl) ?_
    refine lv_aload hx hb dX9_move_59 (lv_at hl 3 rfl) ?_
    refine k_get (k := 0) X I kCl_4 (kO_M (g.1, g.2.1, cca103, cda103, cea103) S102 n4 hn4) 1 (by decide) rfl kC_499 61 dX9_move_61 ?_
    refine k_get (k := 0) X I kCl_8 (kO_T (g.1, g.2.1, cca103, cda103, cea103) S102 n4 (Nat.lt_succ_of_lt hn4)) 0 (by decide) rfl kC_630 64 dX9_move_64 ?_
    refine lv_iload_n hx hb dX9_move_67 rfl (lv_at hl 1 rfl) ?_
    refine k_iald X I (kR_T1 n4 (Nat.lt_succ_of_lt hn4)) 68 dX9_move_68 hpf (fun hpf => ?_)
    refine lv_iload_n hx hb dX9_move_69 rfl (lv_at hl 1 rfl) ?_
    refine x_cSv (rest := []) (As := [.ref (g.2.1 (18 + 2 * n4)), .int x3, .int (kA S102 (26 + 15 * n4 + 1) x2.toNatClampNeg), .int x2]) (d := 8) ⟨Nat.le_refl _, Nat.le_refl _⟩ X XX I hc fn_X9_X9_needFreeName (c_X9_needFreeName l hlt N n4 hn4 x3 (kA S102 (26 + 15 * n4 + 1) x2.toNatClampNeg) x2) rfl (by decide) 70 dX9_move_70 rfl hl.1 rfl (Nat.le_of_ble_eq_true rfl) ⟨Nat.le_of_ble_eq_true rfl, Nat.le_of_ble_eq_true rfl⟩ ⟨Nat.le_of_ble_eq_true rfl, Nat.le_of_ble_eq_true rfl⟩ hpf (fun v104 S105 cca106 cda106 cea106 H locs I hc hg hpf => ?_)
    have X := kX_to X cca106 cda106 cea106
    refine lv_aload hx hb dX9_move_73 (lv_at hl 3 rfl) ?_
    refine k_get (k := 0) X I kCl_4 (kO_M (g.1, g.2.1, cca106, cda106, cea106) S105 n4 hn4) 1 (by decide) rfl kC_499 75 dX9_move_75 ?_
    refine lv_iload_n hx hb dX9_move_78 rfl (lv_at hl 1 rfl) ?_
    refine k_cIi (rest := []) (As := [.int x2]) (d := 8) ⟨Nat.le_refl _, Nat.le_refl _⟩ X I fn_X9_X8_placeOf kCl_8 rfl (kO_T (g.1, g.2.1, cca106, cda106, cea106) S105 n4 (Nat.lt_succ_of_lt hn4)) (c_X8_placeOf l N n4 (Nat.lt_succ_of_lt hn4) x2) rfl (by decide) 79 dX9_move_79 rfl hl.1 rfl (Nat.le_of_ble_eq_true rfl) ⟨Nat.le_of_ble_eq_true rfl, Nat.le_of_ble_eq_true rfl⟩ hpf (fun v107 S108 H locs I hm hpf => ?_)
    refine lv_istore (lv' := [(5, .int v107), (0, .ref (g.2.1 0)), (2, .int x2), (3, .int x3), (4, .ref (g.2.1 (18 + 2 * n4)))]) hx hb dX9_move_82 hl (by decide) rfl (fun ls hl => ?_)
    refine lv_aload_n hx hb dX9_move_84 rfl (lv_at hl 1 rfl) ?_
    refine lv_aload hx hb dX9_move_85 (lv_at hl 4 rfl) ?_
    refine x_newU X I kC_582 ⟨Nat.le_of_ble_eq_true rfl, Nat.le_of_ble_eq_true rfl⟩ 87 dX9_move_87 hpf (fun cca109 S110 H I2 hg hltk hpf => ?_)
    have hc := (hc.sm I.2.2.2).trans (cd := cda106) hg
    have I := I2
    have X := kX_to X cca109 cda106 cea106
    refine lv_dup hx hb dX9_move_90 rfl ?_
    refine lv_bipush (v := (7 : Int32)) hx hb dX9_move_91 (by decide) ?_
    refine lv_iload_n hx hb dX9_move_93 rfl (lv_at hl 2 rfl) ?_
    refine lv_iload_n hx hb dX9_move_94 rfl (lv_at hl 3 rfl) ?_
    refine lv_iconst (v := (-1 : Int32)) hx hb dX9_move_95 (by decide) ?_
    refine lv_iconst (v := (-1 : Int32)) hx hb dX9_move_96 (by decide) ?_
    refine k_callC (α := Unit) (rest := [.ref (cca109 (kn S108)), .ref (g.2.1 (18 + 2 * n4)), .ref (g.2.1 0)]) (As := [.int (7 : Int32), .int x2, .int x3, .int (-1 : Int32), .int (-1 : Int32)]) (d := 8) ⟨Nat.le_refl _, Nat.le_refl _⟩ X I fn_X9_X0_init (c_X0_init l N (kn S108) (7 : Int32) x2 x3 (-1 : Int32) (-1 : Int32)) rfl (by decide) 97 dX9_move_97 rfl hl.1 rfl (Nat.le_of_ble_eq_true rfl) ⟨Nat.le_of_ble_eq_true rfl, Nat.le_of_ble_eq_true rfl⟩ hpf (fun v111 S112 H locs I hm hpf => ?_)
    refine x_cIv (rest := []) (As := [.ref (g.2.1 (18 + 2 * n4)), .ref (cca109 (kn S108))]) (d := 8) ⟨Nat.le_refl _, Nat.le_refl _⟩ X XX I hc fn_X9_X9_record kCl_9 rfl (kO_X (g.1, g.2.1, cca109, cda106, cea106) S112) (c_X9_record l hlt N n4 hn4 (kn S108)) rfl (by decide) 100 dX9_move_100 rfl hl.1 rfl (Nat.le_of_ble_eq_true rfl) ⟨Nat.le_of_ble_eq_true rfl, Nat.le_of_ble_eq_true rfl⟩ ⟨Nat.le_of_ble_eq_true rfl, Nat.le_of_ble_eq_true rfl⟩ hpf (fun v113 S114 cca115 cda115 cea115 H locs I hc hg hpf => ?_)
    have X := kX_to X cca115 cda115 cea115
    refine lv_iload hx hb dX9_move_103 (lv_at hl 0 rfl) ?_
    exact x_reti X I hc hr ⟨Nat.le_of_ble_eq_true rfl, Nat.le_of_ble_eq_true rfl⟩ 105 dX9_move_105 hpf
  refine lv_aload_n hx hb dX9_move_0 rfl (lv_at hl 0 rfl) ?_
  refine lv_iload_n hx hb dX9_move_1 rfl (lv_at hl 1 rfl) ?_
  refine x_cIm (rest := []) (As := [.int x1]) (d := 8) ⟨Nat.le_refl _, Nat.le_refl _⟩ X XX I hc fn_X9_X9_masterAt kCl_9 rfl (kO_X (g.1, g.2.1, g.2.2.1, g.2.2.2.1, g.2.2.2.2) Si) (c_X9_masterAt l hlt N x1) rfl (by decide) 2 dX9_move_2 rfl hl.1 rfl (Nat.le_of_ble_eq_true rfl) ⟨Nat.le_of_ble_eq_true rfl, Nat.le_of_ble_eq_true rfl⟩ ⟨Nat.le_of_ble_eq_true rfl, Nat.le_of_ble_eq_true rfl⟩ hpf (fun v101 S102 cca103 cda103 cea103 H locs I hc hg hpf => ?_)
  have X := kX_to X cca103 cda103 cea103
  obtain ⟨hv101, hpf⟩ := gn_some hpf
  refine lv_astore (lv' := [(4, .ref (g.2.1 (18 + 2 * v101))), (0, .ref (g.2.1 0)), (1, .int x1), (2, .int x2), (3, .int x3)]) hx hb dX9_move_5 hl (by decide) rfl (fun ls hl => ?_)
  refine lv_aload hx hb dX9_move_7 (lv_at hl 0 rfl) ?_
  refine lv_iload_n hx hb dX9_move_9 rfl (lv_at hl 3 rfl) ?_
  refine x_cSv (rest := []) (As := [.ref (g.2.1 (18 + 2 * v101)), .int x2]) (d := 8) ⟨Nat.le_refl _, Nat.le_refl _⟩ X XX I hc fn_X9_X9_needChangeable (c_X9_needChangeable l hlt N v101 hv101 x2) rfl (by decide) 10 dX9_move_10 rfl hl.1 rfl (Nat.le_of_ble_eq_true rfl) ⟨Nat.le_of_ble_eq_true rfl, Nat.le_of_ble_eq_true rfl⟩ ⟨Nat.le_of_ble_eq_true rfl, Nat.le_of_ble_eq_true rfl⟩ hpf (fun v104 S105 cca106 cda106 cea106 H locs I hc hg hpf => ?_)
  have X := kX_to X cca106 cda106 cea106
  refine lv_aload hx hb dX9_move_13 (lv_at hl 0 rfl) ?_
  refine lv_iload_n hx hb dX9_move_15 rfl (lv_at hl 4 rfl) ?_
  refine x_cSv (rest := []) (As := [.ref (g.2.1 (18 + 2 * v101)), .int x3]) (d := 8) ⟨Nat.le_refl _, Nat.le_refl _⟩ X XX I hc fn_X9_X9_needEntry (c_X9_needEntry l hlt N v101 hv101 x3) rfl (by decide) 16 dX9_move_16 rfl hl.1 rfl (Nat.le_of_ble_eq_true rfl) ⟨Nat.le_of_ble_eq_true rfl, Nat.le_of_ble_eq_true rfl⟩ ⟨Nat.le_of_ble_eq_true rfl, Nat.le_of_ble_eq_true rfl⟩ hpf (fun v107 S108 cca109 cda109 cea109 H locs I hc hg hpf => ?_)
  have X := kX_to X cca109 cda109 cea109
  refine lv_aload_n hx hb dX9_move_19 rfl (lv_at hl 1 rfl) ?_
  refine x_cIv (rest := []) (As := []) (d := 8) ⟨Nat.le_refl _, Nat.le_refl _⟩ X XX I hc fn_X9_X9_needRoom kCl_9 rfl (kO_X (g.1, g.2.1, cca109, cda109, cea109) S108) (c_X9_needRoom l hlt N) rfl (by decide) 20 dX9_move_20 rfl hl.1 rfl (Nat.le_of_ble_eq_true rfl) ⟨Nat.le_of_ble_eq_true rfl, Nat.le_of_ble_eq_true rfl⟩ ⟨Nat.le_of_ble_eq_true rfl, Nat.le_of_ble_eq_true rfl⟩ hpf (fun v110 S111 cca112 cda112 cea112 H locs I hc hg hpf => ?_)
  have X := kX_to X cca112 cda112 cea112
  refine lv_aload hx hb dX9_move_23 (lv_at hl 0 rfl) ?_
  refine lv_iload_n hx hb dX9_move_25 rfl (lv_at hl 3 rfl) ?_
  refine x_cSv (rest := []) (As := [.ref (g.2.1 (18 + 2 * v101)), .int x2]) (d := 8) ⟨Nat.le_refl _, Nat.le_refl _⟩ X XX I hc fn_X9_X9_needWrite (c_X9_needWrite l hlt N v101 hv101 x2) rfl (by decide) 26 dX9_move_26 rfl hl.1 rfl (Nat.le_of_ble_eq_true rfl) ⟨Nat.le_of_ble_eq_true rfl, Nat.le_of_ble_eq_true rfl⟩ ⟨Nat.le_of_ble_eq_true rfl, Nat.le_of_ble_eq_true rfl⟩ hpf (fun v113 S114 cca115 cda115 cea115 H locs I hc hg hpf => ?_)
  have X := kX_to X cca115 cda115 cea115
  refine lv_aload hx hb dX9_move_29 (lv_at hl 0 rfl) ?_
  refine lv_iload_n hx hb dX9_move_31 rfl (lv_at hl 4 rfl) ?_
  refine x_cSv (rest := []) (As := [.ref (g.2.1 (18 + 2 * v101)), .int x3]) (d := 8) ⟨Nat.le_refl _, Nat.le_refl _⟩ X XX I hc fn_X9_X9_needWrite (c_X9_needWrite l hlt N v101 hv101 x3) rfl (by decide) 32 dX9_move_32 rfl hl.1 rfl (Nat.le_of_ble_eq_true rfl) ⟨Nat.le_of_ble_eq_true rfl, Nat.le_of_ble_eq_true rfl⟩ ⟨Nat.le_of_ble_eq_true rfl, Nat.le_of_ble_eq_true rfl⟩ hpf (fun v116 S117 cca118 cda118 cea118 H locs I hc hg hpf => ?_)
  have X := kX_to X cca118 cda118 cea118
  refine lv_aload hx hb dX9_move_35 (lv_at hl 0 rfl) ?_
  refine k_get (k := 0) X I kCl_4 (kO_M (g.1, g.2.1, cca118, cda118, cea118) S117 v101 hv101) 1 (by decide) rfl kC_499 37 dX9_move_37 ?_
  refine lv_iload_n hx hb dX9_move_40 rfl (lv_at hl 4 rfl) ?_
  refine lv_iload_n hx hb dX9_move_41 rfl (lv_at hl 3 rfl) ?_
  refine k_cIi (rest := []) (As := [.int x3, .int x2]) (d := 8) ⟨Nat.le_refl _, Nat.le_refl _⟩ X I fn_X9_X8_comesTo kCl_8 rfl (kO_T (g.1, g.2.1, cca118, cda118, cea118) S117 v101 (Nat.lt_succ_of_lt hv101)) (c_X8_comesTo l N v101 (Nat.lt_succ_of_lt hv101) x3 x2) rfl (by decide) 42 dX9_move_42 rfl hl.1 rfl (Nat.le_of_ble_eq_true rfl) ⟨Nat.le_of_ble_eq_true rfl, Nat.le_of_ble_eq_true rfl⟩ hpf (fun v119 S120 H locs I hm hpf => ?_)
  refine b_if_ne hx hb 52 45 dX9_move_45 (by decide) hpf (fun hpf => ?_) (fun hpf => ?_)
  · refine lv_iconst (v := (0 : Int32)) hx hb dX9_move_52 (by decide) ?_
    refine W.widen (k := 6) (n := 36) (Nat.le_of_ble_eq_true rfl) (Nat.le_of_ble_eq_true rfl) ?_
    exact hC_53 (0 : Int32) x2 x3 v101 hv101 cca118 cda118 cea118 S120 _ hc X H locs I ls (lv_sub hl [1, 3, 4, 0] rfl) hpf
  refine lv_iconst (v := (1 : Int32)) hx hb dX9_move_48 (by decide) ?_
  refine lv_goto (tgt := 53) hx hb dX9_move_49 (by decide) ?_
  refine W.widen (k := 6) (n := 36) (Nat.le_of_ble_eq_true rfl) (Nat.le_of_ble_eq_true rfl) ?_
  exact hC_53 (1 : Int32) x2 x3 v101 hv101 cca118 cda118 cea118 S120 _ hc X H locs I ls (lv_sub hl [1, 3, 4, 0] rfl) hpf
-- ===== X9_delete =====
def pX9_delete_38 (N : Nat) (t0 : Int32) (x2 : Int32) (n3 : Nat) (S : kS) : Option ((Int32 ⊕ Nat) × kS) :=
    bx (pX9_need N t0 S) fun v101 S102 =>
    gNew S102 <| svk (nU S102) fun S105 =>
    bk (pX0_init N (kn S102) (8 : Int32) x2 (-1 : Int32) (-1 : Int32) (-1 : Int32) S105) fun v106 S107 =>
    bx (pX9_record N n3 (kn S102) S107) fun v108 S109 =>
    bk (pX4_marked N n3 S109) fun v111 S112 =>
    bk (pJ13_bitCount_95d88 N v111 S112) fun v113 S114 =>
    some (.inl v113, S114)
def pX9_delete (N : Nat) (x1 : Int32) (x2 : Int32) (S : kS) : Option ((Int32 ⊕ Nat) × kS) :=
    bx (pX9_masterAt N x1 S) fun v101 S102 =>
    gn v101 4 <|
    bx (pX9_needChangeable N v101 x2 S102) fun v104 S105 =>
    bx (pX9_needRoom N S105) fun v107 S108 =>
    bx (pX9_needWrite N v101 x2 S108) fun v110 S111 =>
    bk (pX8_childrenAt N v101 x2 S111) fun v113 S114 =>
    if (lg_cmp v113 (0 : Int64)) = (0 : Int32) then (
      pX9_delete_38 N (1 : Int32) x2 v101 S114)
    else (
      pX9_delete_38 N (0 : Int32) x2 v101 S114)
set_option maxRecDepth 100000 in
set_option maxHeartbeats 4000000 in
theorem c_X9_delete (l : Launch) (hlt : l.stackTraces = false) (N : Nat) (x1 : Int32) (x2 : Int32) : kMx l yX9_delete cX9_delete 4 (some .int) 8 7 405 (fun g => [.ref (g.2.1 0), .int x1, .int x2]) rI (pX9_delete N x1 x2) := by
  refine xStart hlt RX9 (by decide +kernel) rfl (fun g => [(0, .ref (g.2.1 0)), (1, .int x1), (2, .int x2)]) (fun _ => Nat.le_of_ble_eq_true rfl) (fun _ => rfl) ?_
  intro dC dI g sz Si o Sf hpf p e s m args below meth c X XX hr H locs I hc ls hl
  have hx := X.1
  have hb := X.2.1
  unfold pX9_delete at hpf
  have hC_38 : ∀ (t0 : Int32) (x2 : Int32) (n3 : Nat) (hn3 : n3 < 4) (cC cD : Nat → Nat) (cE : Nat) (S S0 : kS), kGc g cC cE Si S0 → kX p s m meth c cX9_delete 4 args RX9 dC dI (g.1, g.2.1, cC, cD, cE) (kAt g (kn Si) (km Si) (kp Si) sz) → ∀ (H : Heap) (locs : List Loc), kV dC dI (g.1, g.2.1, cC, cD, cE) (kAt g (kn Si) (km Si) (kp Si) sz) s S0 S H locs → ∀ ls : Array Slot, lv_has ls 4 [(0, .ref (g.2.1 0)), (2, .int x2), (3, .ref (g.2.1 (18 + 2 * n3)))] → pX9_delete_38 N t0 x2 n3 S = some (o, Sf) → W p l e (xRm 8 7 405) s m args below meth c H locs 4 24 (vx_MQ below (kQx dC dI g sz Si rI o Sf) (kXx dC dI g sz Si o Sf) args s 7 405 (kAt g (kn Si) (km Si) (kp Si) sz)) (F0 m 38 ls [.int t0]) := by
    intro t0 x2 n3 hn3 cC cD cE S S0 hc X H locs I ls hl hpf
    unfold pX9_delete_38 at hpf
    refine x_cSv (rest := []) (As := [.int t0]) (d := 8) ⟨Nat.le_refl _, Nat.le_refl _⟩ X XX I hc fn_X9_X9_need (c_X9_need l hlt N t0) rfl (by decide) 38 dX9_delete_38 rfl hl.1 rfl (Nat.le_of_ble_eq_true rfl) ⟨Nat.le_of_ble_eq_true rfl, Nat.le_of_ble_eq_true rfl⟩ ⟨Nat.le_of_ble_eq_true rfl, Nat.le_of_ble_eq_true rfl⟩ hpf (fun v101 S102 cca103 cda103 cea103 H locs I hc hg hpf => ?_)
    have X := kX_to X cca103 cda103 cea103
    refine lv_aload_n hx hb dX9_delete_41 rfl (lv_at hl 0 rfl) ?_
    refine lv_aload_n hx hb dX9_delete_42 rfl (lv_at hl 2 rfl) ?_
    refine x_newU X I kC_582 ⟨Nat.le_of_ble_eq_true rfl, Nat.le_of_ble_eq_true rfl⟩ 43 dX9_delete_43 hpf (fun cca104 S105 H I2 hg hltk hpf => ?_)
    have hc := (hc.sm I.2.2.2).trans (cd := cda103) hg
    have I := I2
    have X := kX_to X cca104 cda103 cea103
    refine lv_dup hx hb dX9_delete_46 rfl ?_
    refine lv_bipush (v := (8 : Int32)) hx hb dX9_delete_47 (by decide) ?_
    refine lv_iload_n hx hb dX9_delete_49 rfl (lv_at hl 1 rfl) ?_
    refine lv_iconst (v := (-1 : Int32)) hx hb dX9_delete_50 (by decide) ?_
    refine lv_iconst (v := (-1 : Int32)) hx hb dX9_delete_51 (by decide) ?_
    refine lv_iconst (v := (-1 : Int32)) hx hb dX9_delete_52 (by decide) ?_
    refine k_callC (α := Unit) (rest := [.ref (cca104 (kn S102)), .ref (g.2.1 (18 + 2 * n3)), .ref (g.2.1 0)]) (As := [.int (8 : Int32), .int x2, .int (-1 : Int32), .int (-1 : Int32), .int (-1 : Int32)]) (d := 8) ⟨Nat.le_refl _, Nat.le_refl _⟩ X I fn_X9_X0_init (c_X0_init l N (kn S102) (8 : Int32) x2 (-1 : Int32) (-1 : Int32) (-1 : Int32)) rfl (by decide) 53 dX9_delete_53 rfl hl.1 rfl (Nat.le_of_ble_eq_true rfl) ⟨Nat.le_of_ble_eq_true rfl, Nat.le_of_ble_eq_true rfl⟩ hpf (fun v106 S107 H locs I hm hpf => ?_)
    refine x_cIv (rest := []) (As := [.ref (g.2.1 (18 + 2 * n3)), .ref (cca104 (kn S102))]) (d := 8) ⟨Nat.le_refl _, Nat.le_refl _⟩ X XX I hc fn_X9_X9_record kCl_9 rfl (kO_X (g.1, g.2.1, cca104, cda103, cea103) S107) (c_X9_record l hlt N n3 hn3 (kn S102)) rfl (by decide) 56 dX9_delete_56 rfl hl.1 rfl (Nat.le_of_ble_eq_true rfl) ⟨Nat.le_of_ble_eq_true rfl, Nat.le_of_ble_eq_true rfl⟩ ⟨Nat.le_of_ble_eq_true rfl, Nat.le_of_ble_eq_true rfl⟩ hpf (fun v108 S109 cca110 cda110 cea110 H locs I hc hg hpf => ?_)
    have X := kX_to X cca110 cda110 cea110
    refine lv_aload_n hx hb dX9_delete_59 rfl (lv_at hl 2 rfl) ?_
    refine k_cIl (rest := []) (As := []) (d := 8) ⟨Nat.le_refl _, Nat.le_refl _⟩ X I fn_X9_X4_marked kCl_4 rfl (kO_M (g.1, g.2.1, cca110, cda110, cea110) S109 n3 hn3) (c_X4_marked l N n3 hn3) rfl (by decide) 60 dX9_delete_60 rfl hl.1 rfl (Nat.le_of_ble_eq_true rfl) ⟨Nat.le_of_ble_eq_true rfl, Nat.le_of_ble_eq_true rfl⟩ hpf (fun v111 S112 H locs I hm hpf => ?_)
    refine k_cSi (rest := []) (As := [.long v111]) (d := 8) ⟨Nat.le_refl _, Nat.le_refl _⟩ X I fn_X9_J13_bitCount_95d88 (c_J13_bitCount_95d88 l N v111) rfl (by decide) 63 dX9_delete_63 rfl hl.1 rfl (Nat.le_of_ble_eq_true rfl) ⟨Nat.le_of_ble_eq_true rfl, Nat.le_of_ble_eq_true rfl⟩ hpf (fun v113 S114 H locs I hm hpf => ?_)
    exact x_reti X I hc hr ⟨Nat.le_of_ble_eq_true rfl, Nat.le_of_ble_eq_true rfl⟩ 66 dX9_delete_66 hpf
  refine lv_aload_n hx hb dX9_delete_0 rfl (lv_at hl 0 rfl) ?_
  refine lv_iload_n hx hb dX9_delete_1 rfl (lv_at hl 1 rfl) ?_
  refine x_cIm (rest := []) (As := [.int x1]) (d := 8) ⟨Nat.le_refl _, Nat.le_refl _⟩ X XX I hc fn_X9_X9_masterAt kCl_9 rfl (kO_X (g.1, g.2.1, g.2.2.1, g.2.2.2.1, g.2.2.2.2) Si) (c_X9_masterAt l hlt N x1) rfl (by decide) 2 dX9_delete_2 rfl hl.1 rfl (Nat.le_of_ble_eq_true rfl) ⟨Nat.le_of_ble_eq_true rfl, Nat.le_of_ble_eq_true rfl⟩ ⟨Nat.le_of_ble_eq_true rfl, Nat.le_of_ble_eq_true rfl⟩ hpf (fun v101 S102 cca103 cda103 cea103 H locs I hc hg hpf => ?_)
  have X := kX_to X cca103 cda103 cea103
  obtain ⟨hv101, hpf⟩ := gn_some hpf
  refine lv_astore_n (lv' := [(3, .ref (g.2.1 (18 + 2 * v101))), (0, .ref (g.2.1 0)), (1, .int x1), (2, .int x2)]) hx hb dX9_delete_5 rfl hl (by decide) rfl (fun ls hl => ?_)
  refine lv_aload_n hx hb dX9_delete_6 rfl (lv_at hl 0 rfl) ?_
  refine lv_iload_n hx hb dX9_delete_7 rfl (lv_at hl 3 rfl) ?_
  refine x_cSv (rest := []) (As := [.ref (g.2.1 (18 + 2 * v101)), .int x2]) (d := 8) ⟨Nat.le_refl _, Nat.le_refl _⟩ X XX I hc fn_X9_X9_needChangeable (c_X9_needChangeable l hlt N v101 hv101 x2) rfl (by decide) 8 dX9_delete_8 rfl hl.1 rfl (Nat.le_of_ble_eq_true rfl) ⟨Nat.le_of_ble_eq_true rfl, Nat.le_of_ble_eq_true rfl⟩ ⟨Nat.le_of_ble_eq_true rfl, Nat.le_of_ble_eq_true rfl⟩ hpf (fun v104 S105 cca106 cda106 cea106 H locs I hc hg hpf => ?_)
  have X := kX_to X cca106 cda106 cea106
  refine lv_aload_n hx hb dX9_delete_11 rfl (lv_at hl 1 rfl) ?_
  refine x_cIv (rest := []) (As := []) (d := 8) ⟨Nat.le_refl _, Nat.le_refl _⟩ X XX I hc fn_X9_X9_needRoom kCl_9 rfl (kO_X (g.1, g.2.1, cca106, cda106, cea106) S105) (c_X9_needRoom l hlt N) rfl (by decide) 12 dX9_delete_12 rfl hl.1 rfl (Nat.le_of_ble_eq_true rfl) ⟨Nat.le_of_ble_eq_true rfl, Nat.le_of_ble_eq_true rfl⟩ ⟨Nat.le_of_ble_eq_true rfl, Nat.le_of_ble_eq_true rfl⟩ hpf (fun v107 S108 cca109 cda109 cea109 H locs I hc hg hpf => ?_)
  have X := kX_to X cca109 cda109 cea109
  refine lv_aload_n hx hb dX9_delete_15 rfl (lv_at hl 0 rfl) ?_
  refine lv_iload_n hx hb dX9_delete_16 rfl (lv_at hl 3 rfl) ?_
  refine x_cSv (rest := []) (As := [.ref (g.2.1 (18 + 2 * v101)), .int x2]) (d := 8) ⟨Nat.le_refl _, Nat.le_refl _⟩ X XX I hc fn_X9_X9_needWrite (c_X9_needWrite l hlt N v101 hv101 x2) rfl (by decide) 17 dX9_delete_17 rfl hl.1 rfl (Nat.le_of_ble_eq_true rfl) ⟨Nat.le_of_ble_eq_true rfl, Nat.le_of_ble_eq_true rfl⟩ ⟨Nat.le_of_ble_eq_true rfl, Nat.le_of_ble_eq_true rfl⟩ hpf (fun v110 S111 cca112 cda112 cea112 H locs I hc hg hpf => ?_)
  have X := kX_to X cca112 cda112 cea112
  refine lv_aload_n hx hb dX9_delete_20 rfl (lv_at hl 0 rfl) ?_
  refine k_get (k := 0) X I kCl_4 (kO_M (g.1, g.2.1, cca112, cda112, cea112) S111 v101 hv101) 1 (by decide) rfl kC_499 21 dX9_delete_21 ?_
  refine lv_iload_n hx hb dX9_delete_24 rfl (lv_at hl 3 rfl) ?_
  refine k_cIl (rest := []) (As := [.int x2]) (d := 8) ⟨Nat.le_refl _, Nat.le_refl _⟩ X I fn_X9_X8_childrenAt kCl_8 rfl (kO_T (g.1, g.2.1, cca112, cda112, cea112) S111 v101 (Nat.lt_succ_of_lt hv101)) (c_X8_childrenAt l N v101 (Nat.lt_succ_of_lt hv101) x2) rfl (by decide) 25 dX9_delete_25 rfl hl.1 rfl (Nat.le_of_ble_eq_true rfl) ⟨Nat.le_of_ble_eq_true rfl, Nat.le_of_ble_eq_true rfl⟩ hpf (fun v113 S114 H locs I hm hpf => ?_)
  refine lv_lconst (v := (0 : Int64)) hx hb dX9_delete_28 (by decide) ?_
  refine W.lcmp hx hb dX9_delete_29 ?_
  refine b_if_ne hx hb 37 30 dX9_delete_30 (by decide) hpf (fun hpf => ?_) (fun hpf => ?_)
  · refine lv_iconst (v := (0 : Int32)) hx hb dX9_delete_37 (by decide) ?_
    refine W.widen (k := 4) (n := 24) (Nat.le_of_ble_eq_true rfl) (Nat.le_of_ble_eq_true rfl) ?_
    exact hC_38 (0 : Int32) x2 v101 hv101 cca112 cda112 cea112 S114 _ hc X H locs I ls (lv_sub hl [1, 3, 0] rfl) hpf
  refine lv_iconst (v := (1 : Int32)) hx hb dX9_delete_33 (by decide) ?_
  refine lv_goto (tgt := 38) hx hb dX9_delete_34 (by decide) ?_
  refine W.widen (k := 4) (n := 24) (Nat.le_of_ble_eq_true rfl) (Nat.le_of_ble_eq_true rfl) ?_
  exact hC_38 (1 : Int32) x2 v101 hv101 cca112 cda112 cea112 S114 _ hc X H locs I ls (lv_sub hl [1, 3, 0] rfl) hpf
-- ===== X9_link =====
def pX9_link_56 (N : Nat) (t0 : Int32) (x2 : Int32) (x3 : Int32) (n4 : Nat) (S : kS) : Option ((Int32 ⊕ Nat) × kS) :=
    bx (pX9_need N t0 S) fun v101 S102 =>
    gd x2 48 <|
    nm (kA S102 (26 + 15 * n4 + 3) x2.toNatClampNeg) fun y104 =>
    gNew S102 <| svk (nU S102) fun S106 =>
    bk (pX0_init N (kn S102) (5 : Int32) x2 x3 (-1 : Int32) (-1 : Int32) S106) fun v107 S108 =>
    bx (pX9_record N n4 (kn S102) S108) fun v109 S110 =>
    some (.inl y104, S110)
def pX9_link_36 (N : Nat) (x2 : Int32) (x3 : Int32) (n4 : Nat) (S : kS) : Option ((Int32 ⊕ Nat) × kS) :=
    bx (pX9_needRoom N S) fun v101 S102 =>
    bx (pX9_needWrite N n4 x2 S102) fun v104 S105 =>
    if x3 = x2 then (
      pX9_link_56 N (0 : Int32) x2 x3 n4 S105)
    else (
      pX9_link_56 N (1 : Int32) x2 x3 n4 S105)
def pX9_link_30 (N : Nat) (x2 : Int32) (x3 : Int32) (n4 : Nat) (S : kS) : Option ((Int32 ⊕ Nat) × kS) :=
    bx (pX9_needEntry N n4 x3 S) fun v101 S102 =>
    pX9_link_36 N x2 x3 n4 S102
def pX9_link (N : Nat) (x1 : Int32) (x2 : Int32) (x3 : Int32) (S : kS) : Option ((Int32 ⊕ Nat) × kS) :=
    bx (pX9_masterAt N x1 S) fun v101 S102 =>
    gn v101 4 <|
    bx (pX9_needChangeable N v101 x2 S102) fun v104 S105 =>
    if x3 = (-1 : Int32) then (
      pX9_link_36 N x2 x3 v101 S105)
    else (
      if x3 < (100 : Int32) then (
        pX9_link_30 N x2 x3 v101 S105)
      else (
        if x3 < (104 : Int32) then (
          pX9_link_36 N x2 x3 v101 S105)
        else (
          pX9_link_30 N x2 x3 v101 S105)))
set_option maxRecDepth 100000 in
set_option maxHeartbeats 4000000 in
theorem c_X9_link (l : Launch) (hlt : l.stackTraces = false) (N : Nat) (x1 : Int32) (x2 : Int32) (x3 : Int32) : kMx l yX9_link cX9_link 6 (some .int) 8 8 411 (fun g => [.ref (g.2.1 0), .int x1, .int x2, .int x3]) rI (pX9_link N x1 x2 x3) := by
  refine xStart hlt RX9 (by decide +kernel) rfl (fun g => [(0, .ref (g.2.1 0)), (1, .int x1), (2, .int x2), (3, .int x3)]) (fun _ => Nat.le_of_ble_eq_true rfl) (fun _ => rfl) ?_
  intro dC dI g sz Si o Sf hpf p e s m args below meth c X XX hr H locs I hc ls hl
  have hx := X.1
  have hb := X.2.1
  unfold pX9_link at hpf
  have hC_56 : ∀ (t0 : Int32) (x2 : Int32) (x3 : Int32) (n4 : Nat) (hn4 : n4 < 4) (cC cD : Nat → Nat) (cE : Nat) (S S0 : kS), kGc g cC cE Si S0 → kX p s m meth c cX9_link 6 args RX9 dC dI (g.1, g.2.1, cC, cD, cE) (kAt g (kn Si) (km Si) (kp Si) sz) → ∀ (H : Heap) (locs : List Loc), kV dC dI (g.1, g.2.1, cC, cD, cE) (kAt g (kn Si) (km Si) (kp Si) sz) s S0 S H locs → ∀ ls : Array Slot, lv_has ls 6 [(0, .ref (g.2.1 0)), (2, .int x2), (3, .int x3), (4, .ref (g.2.1 (18 + 2 * n4)))] → pX9_link_56 N t0 x2 x3 n4 S = some (o, Sf) → W p l e (xRm 8 8 411) s m args below meth c H locs 5 30 (vx_MQ below (kQx dC dI g sz Si rI o Sf) (kXx dC dI g sz Si o Sf) args s 8 411 (kAt g (kn Si) (km Si) (kp Si) sz)) (F0 m 56 ls [.int t0]) := by
    intro t0 x2 x3 n4 hn4 cC cD cE S S0 hc X H locs I ls hl hpf
    unfold pX9_link_56 at hpf
    refine x_cSv (rest := []) (As := [.int t0]) (d := 8) ⟨Nat.le_refl _, Nat.le_refl _⟩ X XX I hc fn_X9_X9_need (c_X9_need l hlt N t0) rfl (by decide) 56 dX9_link_56 rfl hl.1 rfl (Nat.le_of_ble_eq_true rfl) ⟨Nat.le_of_ble_eq_true rfl, Nat.le_of_ble_eq_true rfl⟩ ⟨Nat.le_of_ble_eq_true rfl, Nat.le_of_ble_eq_true rfl⟩ hpf (fun v101 S102 cca103 cda103 cea103 H locs I hc hg hpf => ?_)
    have X := kX_to X cca103 cda103 cea103
    refine lv_aload hx hb dX9_link_59 (lv_at hl 3 rfl) ?_
    refine k_get (k := 0) X I kCl_4 (kO_M (g.1, g.2.1, cca103, cda103, cea103) S102 n4 hn4) 1 (by decide) rfl kC_499 61 dX9_link_61 ?_
    refine k_get (k := 0) X I kCl_8 (kO_T (g.1, g.2.1, cca103, cda103, cea103) S102 n4 (Nat.lt_succ_of_lt hn4)) 2 (by decide) rfl kC_644 64 dX9_link_64 ?_
    refine lv_iload_n hx hb dX9_link_67 rfl (lv_at hl 1 rfl) ?_
    refine k_iald X I (kR_T3 n4 (Nat.lt_succ_of_lt hn4)) 68 dX9_link_68 hpf (fun hpf => ?_)
    refine m_isto hx hb (fun y104 => [(5, .int y104), (0, .ref (g.2.1 0)), (2, .int x2), (3, .int x3), (4, .ref (g.2.1 (18 + 2 * n4)))]) 69 dX9_link_69 hl (by decide) (fun _ => rfl) hpf (fun y104 ls hl hpf => ?_)
    refine lv_aload_n hx hb dX9_link_71 rfl (lv_at hl 1 rfl) ?_
    refine lv_aload hx hb dX9_link_72 (lv_at hl 4 rfl) ?_
    refine x_newU X I kC_582 ⟨Nat.le_of_ble_eq_true rfl, Nat.le_of_ble_eq_true rfl⟩ 74 dX9_link_74 hpf (fun cca105 S106 H I2 hg hltk hpf => ?_)
    have hc := (hc.sm I.2.2.2).trans (cd := cda103) hg
    have I := I2
    have X := kX_to X cca105 cda103 cea103
    refine lv_dup hx hb dX9_link_77 rfl ?_
    refine lv_iconst (v := (5 : Int32)) hx hb dX9_link_78 (by decide) ?_
    refine lv_iload_n hx hb dX9_link_79 rfl (lv_at hl 2 rfl) ?_
    refine lv_iload_n hx hb dX9_link_80 rfl (lv_at hl 3 rfl) ?_
    refine lv_iconst (v := (-1 : Int32)) hx hb dX9_link_81 (by decide) ?_
    refine lv_iconst (v := (-1 : Int32)) hx hb dX9_link_82 (by decide) ?_
    refine k_callC (α := Unit) (rest := [.ref (cca105 (kn S102)), .ref (g.2.1 (18 + 2 * n4)), .ref (g.2.1 0)]) (As := [.int (5 : Int32), .int x2, .int x3, .int (-1 : Int32), .int (-1 : Int32)]) (d := 8) ⟨Nat.le_refl _, Nat.le_refl _⟩ X I fn_X9_X0_init (c_X0_init l N (kn S102) (5 : Int32) x2 x3 (-1 : Int32) (-1 : Int32)) rfl (by decide) 83 dX9_link_83 rfl hl.1 rfl (Nat.le_of_ble_eq_true rfl) ⟨Nat.le_of_ble_eq_true rfl, Nat.le_of_ble_eq_true rfl⟩ hpf (fun v107 S108 H locs I hm hpf => ?_)
    refine x_cIv (rest := []) (As := [.ref (g.2.1 (18 + 2 * n4)), .ref (cca105 (kn S102))]) (d := 8) ⟨Nat.le_refl _, Nat.le_refl _⟩ X XX I hc fn_X9_X9_record kCl_9 rfl (kO_X (g.1, g.2.1, cca105, cda103, cea103) S108) (c_X9_record l hlt N n4 hn4 (kn S102)) rfl (by decide) 86 dX9_link_86 rfl hl.1 rfl (Nat.le_of_ble_eq_true rfl) ⟨Nat.le_of_ble_eq_true rfl, Nat.le_of_ble_eq_true rfl⟩ ⟨Nat.le_of_ble_eq_true rfl, Nat.le_of_ble_eq_true rfl⟩ hpf (fun v109 S110 cca111 cda111 cea111 H locs I hc hg hpf => ?_)
    have X := kX_to X cca111 cda111 cea111
    refine lv_iload hx hb dX9_link_89 (lv_at hl 0 rfl) ?_
    exact x_reti X I hc hr ⟨Nat.le_of_ble_eq_true rfl, Nat.le_of_ble_eq_true rfl⟩ 91 dX9_link_91 hpf
  have hC_36 : ∀ (x2 : Int32) (x3 : Int32) (n4 : Nat) (hn4 : n4 < 4) (cC cD : Nat → Nat) (cE : Nat) (S S0 : kS), kGc g cC cE Si S0 → kX p s m meth c cX9_link 6 args RX9 dC dI (g.1, g.2.1, cC, cD, cE) (kAt g (kn Si) (km Si) (kp Si) sz) → ∀ (H : Heap) (locs : List Loc), kV dC dI (g.1, g.2.1, cC, cD, cE) (kAt g (kn Si) (km Si) (kp Si) sz) s S0 S H locs → ∀ ls : Array Slot, lv_has ls 6 [(0, .ref (g.2.1 0)), (2, .int x2), (3, .int x3), (4, .ref (g.2.1 (18 + 2 * n4)))] → pX9_link_36 N x2 x3 n4 S = some (o, Sf) → W p l e (xRm 8 8 411) s m args below meth c H locs 3 18 (vx_MQ below (kQx dC dI g sz Si rI o Sf) (kXx dC dI g sz Si o Sf) args s 8 411 (kAt g (kn Si) (km Si) (kp Si) sz)) (F0 m 36 ls []) := by
    intro x2 x3 n4 hn4 cC cD cE S S0 hc X H locs I ls hl hpf
    unfold pX9_link_36 at hpf
    refine lv_aload_n hx hb dX9_link_36 rfl (lv_at hl 0 rfl) ?_
    refine x_cIv (rest := []) (As := []) (d := 8) ⟨Nat.le_refl _, Nat.le_refl _⟩ X XX I hc fn_X9_X9_needRoom kCl_9 rfl (kO_X (g.1, g.2.1, cC, cD, cE) S) (c_X9_needRoom l hlt N) rfl (by decide) 37 dX9_link_37 rfl hl.1 rfl (Nat.le_of_ble_eq_true rfl) ⟨Nat.le_of_ble_eq_true rfl, Nat.le_of_ble_eq_true rfl⟩ ⟨Nat.le_of_ble_eq_true rfl, Nat.le_of_ble_eq_true rfl⟩ hpf (fun v101 S102 cca103 cda103 cea103 H locs I hc hg hpf => ?_)
    have X := kX_to X cca103 cda103 cea103
    refine lv_aload hx hb dX9_link_40 (lv_at hl 3 rfl) ?_
    refine lv_iload_n hx hb dX9_link_42 rfl (lv_at hl 1 rfl) ?_
    refine x_cSv (rest := []) (As := [.ref (g.2.1 (18 + 2 * n4)), .int x2]) (d := 8) ⟨Nat.le_refl _, Nat.le_refl _⟩ X XX I hc fn_X9_X9_needWrite (c_X9_needWrite l hlt N n4 hn4 x2) rfl (by decide) 43 dX9_link_43 rfl hl.1 rfl (Nat.le_of_ble_eq_true rfl) ⟨Nat.le_of_ble_eq_true rfl, Nat.le_of_ble_eq_true rfl⟩ ⟨Nat.le_of_ble_eq_true rfl, Nat.le_of_ble_eq_true rfl⟩ hpf (fun v104 S105 cca106 cda106 cea106 H locs I hc hg hpf => ?_)
    have X := kX_to X cca106 cda106 cea106
    refine lv_iload_n hx hb dX9_link_46 rfl (lv_at hl 2 rfl) ?_
    refine lv_iload_n hx hb dX9_link_47 rfl (lv_at hl 1 rfl) ?_
    refine b_icmp_eq hx hb 55 48 dX9_link_48 (by decide) hpf (fun hpf => ?_) (fun hpf => ?_)
    · refine lv_iconst (v := (0 : Int32)) hx hb dX9_link_55 (by decide) ?_
      refine W.widen (k := 5) (n := 30) (Nat.le_of_ble_eq_true rfl) (Nat.le_of_ble_eq_true rfl) ?_
      exact hC_56 (0 : Int32) x2 x3 n4 hn4 cca106 cda106 cea106 S105 _ hc X H locs I ls (lv_sub hl [0, 1, 2, 3] rfl) hpf
    refine lv_iconst (v := (1 : Int32)) hx hb dX9_link_51 (by decide) ?_
    refine lv_goto (tgt := 56) hx hb dX9_link_52 (by decide) ?_
    refine W.widen (k := 5) (n := 30) (Nat.le_of_ble_eq_true rfl) (Nat.le_of_ble_eq_true rfl) ?_
    exact hC_56 (1 : Int32) x2 x3 n4 hn4 cca106 cda106 cea106 S105 _ hc X H locs I ls (lv_sub hl [0, 1, 2, 3] rfl) hpf
  have hC_30 : ∀ (x2 : Int32) (x3 : Int32) (n4 : Nat) (hn4 : n4 < 4) (cC cD : Nat → Nat) (cE : Nat) (S S0 : kS), kGc g cC cE Si S0 → kX p s m meth c cX9_link 6 args RX9 dC dI (g.1, g.2.1, cC, cD, cE) (kAt g (kn Si) (km Si) (kp Si) sz) → ∀ (H : Heap) (locs : List Loc), kV dC dI (g.1, g.2.1, cC, cD, cE) (kAt g (kn Si) (km Si) (kp Si) sz) s S0 S H locs → ∀ ls : Array Slot, lv_has ls 6 [(0, .ref (g.2.1 0)), (2, .int x2), (3, .int x3), (4, .ref (g.2.1 (18 + 2 * n4)))] → pX9_link_30 N x2 x3 n4 S = some (o, Sf) → W p l e (xRm 8 8 411) s m args below meth c H locs 2 12 (vx_MQ below (kQx dC dI g sz Si rI o Sf) (kXx dC dI g sz Si o Sf) args s 8 411 (kAt g (kn Si) (km Si) (kp Si) sz)) (F0 m 30 ls []) := by
    intro x2 x3 n4 hn4 cC cD cE S S0 hc X H locs I ls hl hpf
    unfold pX9_link_30 at hpf
    refine lv_aload hx hb dX9_link_30 (lv_at hl 3 rfl) ?_
    refine lv_iload_n hx hb dX9_link_32 rfl (lv_at hl 2 rfl) ?_
    refine x_cSv (rest := []) (As := [.ref (g.2.1 (18 + 2 * n4)), .int x3]) (d := 8) ⟨Nat.le_refl _, Nat.le_refl _⟩ X XX I hc fn_X9_X9_needEntry (c_X9_needEntry l hlt N n4 hn4 x3) rfl (by decide) 33 dX9_link_33 rfl hl.1 rfl (Nat.le_of_ble_eq_true rfl) ⟨Nat.le_of_ble_eq_true rfl, Nat.le_of_ble_eq_true rfl⟩ ⟨Nat.le_of_ble_eq_true rfl, Nat.le_of_ble_eq_true rfl⟩ hpf (fun v101 S102 cca103 cda103 cea103 H locs I hc hg hpf => ?_)
    have X := kX_to X cca103 cda103 cea103
    refine W.widen (k := 3) (n := 18) (Nat.le_of_ble_eq_true rfl) (Nat.le_of_ble_eq_true rfl) ?_
    exact hC_36 x2 x3 n4 hn4 cca103 cda103 cea103 S102 _ hc X H locs I ls (lv_sub hl [0, 1, 2, 3] rfl) hpf
  refine lv_aload_n hx hb dX9_link_0 rfl (lv_at hl 0 rfl) ?_
  refine lv_iload_n hx hb dX9_link_1 rfl (lv_at hl 1 rfl) ?_
  refine x_cIm (rest := []) (As := [.int x1]) (d := 8) ⟨Nat.le_refl _, Nat.le_refl _⟩ X XX I hc fn_X9_X9_masterAt kCl_9 rfl (kO_X (g.1, g.2.1, g.2.2.1, g.2.2.2.1, g.2.2.2.2) Si) (c_X9_masterAt l hlt N x1) rfl (by decide) 2 dX9_link_2 rfl hl.1 rfl (Nat.le_of_ble_eq_true rfl) ⟨Nat.le_of_ble_eq_true rfl, Nat.le_of_ble_eq_true rfl⟩ ⟨Nat.le_of_ble_eq_true rfl, Nat.le_of_ble_eq_true rfl⟩ hpf (fun v101 S102 cca103 cda103 cea103 H locs I hc hg hpf => ?_)
  have X := kX_to X cca103 cda103 cea103
  obtain ⟨hv101, hpf⟩ := gn_some hpf
  refine lv_astore (lv' := [(4, .ref (g.2.1 (18 + 2 * v101))), (0, .ref (g.2.1 0)), (1, .int x1), (2, .int x2), (3, .int x3)]) hx hb dX9_link_5 hl (by decide) rfl (fun ls hl => ?_)
  refine lv_aload hx hb dX9_link_7 (lv_at hl 0 rfl) ?_
  refine lv_iload_n hx hb dX9_link_9 rfl (lv_at hl 3 rfl) ?_
  refine x_cSv (rest := []) (As := [.ref (g.2.1 (18 + 2 * v101)), .int x2]) (d := 8) ⟨Nat.le_refl _, Nat.le_refl _⟩ X XX I hc fn_X9_X9_needChangeable (c_X9_needChangeable l hlt N v101 hv101 x2) rfl (by decide) 10 dX9_link_10 rfl hl.1 rfl (Nat.le_of_ble_eq_true rfl) ⟨Nat.le_of_ble_eq_true rfl, Nat.le_of_ble_eq_true rfl⟩ ⟨Nat.le_of_ble_eq_true rfl, Nat.le_of_ble_eq_true rfl⟩ hpf (fun v104 S105 cca106 cda106 cea106 H locs I hc hg hpf => ?_)
  have X := kX_to X cca106 cda106 cea106
  refine lv_iload_n hx hb dX9_link_13 rfl (lv_at hl 4 rfl) ?_
  refine lv_iconst (v := (-1 : Int32)) hx hb dX9_link_14 (by decide) ?_
  refine b_icmp_eq hx hb 36 15 dX9_link_15 (by decide) hpf (fun hpf => ?_) (fun hpf => ?_)
  · refine W.widen (k := 3) (n := 18) (Nat.le_of_ble_eq_true rfl) (Nat.le_of_ble_eq_true rfl) ?_
    exact hC_36 x2 x3 v101 hv101 cca106 cda106 cea106 S105 _ hc X H locs I ls (lv_sub hl [1, 3, 4, 0] rfl) hpf
  refine lv_iload_n hx hb dX9_link_18 rfl (lv_at hl 4 rfl) ?_
  refine lv_bipush (v := (100 : Int32)) hx hb dX9_link_19 (by decide) ?_
  refine b_icmp_lt hx hb 30 21 dX9_link_21 (by decide) hpf (fun hpf => ?_) (fun hpf => ?_)
  · refine W.widen (k := 2) (n := 12) (Nat.le_of_ble_eq_true rfl) (Nat.le_of_ble_eq_true rfl) ?_
    exact hC_30 x2 x3 v101 hv101 cca106 cda106 cea106 S105 _ hc X H locs I ls (lv_sub hl [1, 3, 4, 0] rfl) hpf
  refine lv_iload_n hx hb dX9_link_24 rfl (lv_at hl 4 rfl) ?_
  refine lv_bipush (v := (104 : Int32)) hx hb dX9_link_25 (by decide) ?_
  refine b_icmp_lt hx hb 36 27 dX9_link_27 (by decide) hpf (fun hpf => ?_) (fun hpf => ?_)
  · refine W.widen (k := 3) (n := 18) (Nat.le_of_ble_eq_true rfl) (Nat.le_of_ble_eq_true rfl) ?_
    exact hC_36 x2 x3 v101 hv101 cca106 cda106 cea106 S105 _ hc X H locs I ls (lv_sub hl [1, 3, 4, 0] rfl) hpf
  refine W.widen (k := 2) (n := 12) (Nat.le_of_ble_eq_true rfl) (Nat.le_of_ble_eq_true rfl) ?_
  exact hC_30 x2 x3 v101 hv101 cca106 cda106 cea106 S105 _ hc X H locs I ls (lv_sub hl [1, 3, 4, 0] rfl) hpf
-- ===== X9_rule =====
def pX9_rule_61 (N : Nat) (S : kS) : Option ((Int32 ⊕ Nat) × kS) :=
    some (.inr 2, S)
def pX9_rule_40 (N : Nat) (x2 : Int32) (x3 : Int32) (x4 : Int32) (x5 : Int32) (x6 : Int32) (n7 : Nat) (S : kS) : Option ((Int32 ⊕ Nat) × kS) :=
    bx (pX9_needScope N x4 S) fun v101 S102 =>
    bx (pX9_needRight N x5 S102) fun v104 S105 =>
    if x6 < (0 : Int32) then (
      pX9_rule_61 N S105)
    else (
      if x6 ≤ (2 : Int32) then (
        bx (pX9_needRoom N S105) fun v107 S108 =>
        bx (pX9_needWrite N n7 x2 S108) fun v110 S111 =>
        bk (pX6_slot N x2 x4 x5 S111) fun v113 S114 =>
        bk (pX6_saidOf N n7 v113 x3 S114) fun v115 S116 =>
        gNew S116 <| svk (nU S116) fun S118 =>
        bk (pX0_init N (kn S116) (6 : Int32) x2 v113 x3 x6 S118) fun v119 S120 =>
        bx (pX9_record N n7 (kn S116) S120) fun v121 S122 =>
        some (.inl v115, S122))
      else (
        pX9_rule_61 N S105))
def pX9_rule (N : Nat) (x1 : Int32) (x2 : Int32) (x3 : Int32) (x4 : Int32) (x5 : Int32) (x6 : Int32) (S : kS) : Option ((Int32 ⊕ Nat) × kS) :=
    bx (pX9_masterAt N x1 S) fun v101 S102 =>
    gn v101 4 <|
    bx (pX9_needEntry N v101 x2 S102) fun v104 S105 =>
    if x3 < (100 : Int32) then (
      if x3 = (-1 : Int32) then (
        pX9_rule_40 N x2 x3 x4 x5 x6 v101 S105)
      else (
        bx (pX9_needUser N x3 S105) fun v107 S108 =>
        pX9_rule_40 N x2 x3 x4 x5 x6 v101 S108))
    else (
      bx (pX9_needEntry N v101 (x3 - (100 : Int32)) S105) fun v110 S111 =>
      pX9_rule_40 N x2 x3 x4 x5 x6 v101 S111)
set_option maxRecDepth 100000 in
set_option maxHeartbeats 4000000 in
theorem c_X9_rule (l : Launch) (hlt : l.stackTraces = false) (N : Nat) (x1 : Int32) (x2 : Int32) (x3 : Int32) (x4 : Int32) (x5 : Int32) (x6 : Int32) : kMx l yX9_rule cX9_rule 10 (some .int) 7 9 417 (fun g => [.ref (g.2.1 0), .int x1, .int x2, .int x3, .int x4, .int x5, .int x6]) rI (pX9_rule N x1 x2 x3 x4 x5 x6) := by
  refine xStart hlt RX9 (by decide +kernel) rfl (fun g => [(0, .ref (g.2.1 0)), (1, .int x1), (2, .int x2), (3, .int x3), (4, .int x4), (5, .int x5), (6, .int x6)]) (fun _ => Nat.le_of_ble_eq_true rfl) (fun _ => rfl) ?_
  intro dC dI g sz Si o Sf hpf p e s m args below meth c X XX hr H locs I hc ls hl
  have hx := X.1
  have hb := X.2.1
  unfold pX9_rule at hpf
  have hC_61 : ∀ (cC cD : Nat → Nat) (cE : Nat) (S S0 : kS), kGc g cC cE Si S0 → kX p s m meth c cX9_rule 10 args RX9 dC dI (g.1, g.2.1, cC, cD, cE) (kAt g (kn Si) (km Si) (kp Si) sz) → ∀ (H : Heap) (locs : List Loc), kV dC dI (g.1, g.2.1, cC, cD, cE) (kAt g (kn Si) (km Si) (kp Si) sz) s S0 S H locs → ∀ ls : Array Slot, lv_has ls 10 [(0, .ref (g.2.1 0))] → pX9_rule_61 N S = some (o, Sf) → W p l e (xRm 7 9 417) s m args below meth c H locs 5 30 (vx_MQ below (kQx dC dI g sz Si rI o Sf) (kXx dC dI g sz Si o Sf) args s 9 417 (kAt g (kn Si) (km Si) (kp Si) sz)) (F0 m 61 ls []) := by
    intro cC cD cE S S0 hc X H locs I ls hl hpf
    unfold pX9_rule_61 at hpf
    exact x_throw 2 (Or.inr (Or.inl rfl)) X XX I hc (is := 235) (tx := "no such saying") (List.mem_of_getElem? (i := 4) rfl) hl.1 ⟨Nat.le_of_ble_eq_true rfl, Nat.le_of_ble_eq_true rfl⟩ ⟨Nat.le_of_ble_eq_true rfl, Nat.le_of_ble_eq_true rfl⟩ ⟨Nat.le_of_ble_eq_true rfl, Nat.le_of_ble_eq_true rfl⟩ (Nat.le_of_ble_eq_true rfl) 61 dX9_rule_61 dX9_rule_64 dX9_rule_65 dX9_rule_67 dX9_rule_70 hpf
  have hC_40 : ∀ (x2 : Int32) (x3 : Int32) (x4 : Int32) (x5 : Int32) (x6 : Int32) (n7 : Nat) (hn7 : n7 < 4) (cC cD : Nat → Nat) (cE : Nat) (S S0 : kS), kGc g cC cE Si S0 → kX p s m meth c cX9_rule 10 args RX9 dC dI (g.1, g.2.1, cC, cD, cE) (kAt g (kn Si) (km Si) (kp Si) sz) → ∀ (H : Heap) (locs : List Loc), kV dC dI (g.1, g.2.1, cC, cD, cE) (kAt g (kn Si) (km Si) (kp Si) sz) s S0 S H locs → ∀ ls : Array Slot, lv_has ls 10 [(0, .ref (g.2.1 0)), (2, .int x2), (3, .int x3), (4, .int x4), (5, .int x5), (6, .int x6), (7, .ref (g.2.1 (18 + 2 * n7)))] → pX9_rule_40 N x2 x3 x4 x5 x6 n7 S = some (o, Sf) → W p l e (xRm 7 9 417) s m args below meth c H locs 3 18 (vx_MQ below (kQx dC dI g sz Si rI o Sf) (kXx dC dI g sz Si o Sf) args s 9 417 (kAt g (kn Si) (km Si) (kp Si) sz)) (F0 m 40 ls []) := by
    intro x2 x3 x4 x5 x6 n7 hn7 cC cD cE S S0 hc X H locs I ls hl hpf
    unfold pX9_rule_40 at hpf
    refine lv_iload hx hb dX9_rule_40 (lv_at hl 3 rfl) ?_
    refine x_cSv (rest := []) (As := [.int x4]) (d := 7) ⟨Nat.le_refl _, Nat.le_refl _⟩ X XX I hc fn_X9_X9_needScope (c_X9_needScope l hlt N x4) rfl (by decide) 42 dX9_rule_42 rfl hl.1 rfl (Nat.le_of_ble_eq_true rfl) ⟨Nat.le_of_ble_eq_true rfl, Nat.le_of_ble_eq_true rfl⟩ ⟨Nat.le_of_ble_eq_true rfl, Nat.le_of_ble_eq_true rfl⟩ hpf (fun v101 S102 cca103 cda103 cea103 H locs I hc hg hpf => ?_)
    have X := kX_to X cca103 cda103 cea103
    refine lv_iload hx hb dX9_rule_45 (lv_at hl 4 rfl) ?_
    refine x_cSv (rest := []) (As := [.int x5]) (d := 7) ⟨Nat.le_refl _, Nat.le_refl _⟩ X XX I hc fn_X9_X9_needRight (c_X9_needRight l hlt N x5) rfl (by decide) 47 dX9_rule_47 rfl hl.1 rfl (Nat.le_of_ble_eq_true rfl) ⟨Nat.le_of_ble_eq_true rfl, Nat.le_of_ble_eq_true rfl⟩ ⟨Nat.le_of_ble_eq_true rfl, Nat.le_of_ble_eq_true rfl⟩ hpf (fun v104 S105 cca106 cda106 cea106 H locs I hc hg hpf => ?_)
    have X := kX_to X cca106 cda106 cea106
    refine lv_iload hx hb dX9_rule_50 (lv_at hl 5 rfl) ?_
    refine b_if_lt hx hb 61 52 dX9_rule_52 (by decide) hpf (fun hpf => ?_) (fun hpf => ?_)
    · refine W.widen (k := 5) (n := 30) (Nat.le_of_ble_eq_true rfl) (Nat.le_of_ble_eq_true rfl) ?_
      exact hC_61 cca106 cda106 cea106 S105 _ hc X H locs I ls (lv_sub hl [0] rfl) hpf
    refine lv_iload hx hb dX9_rule_55 (lv_at hl 5 rfl) ?_
    refine lv_iconst (v := (2 : Int32)) hx hb dX9_rule_57 (by decide) ?_
    refine b_icmp_le hx hb 71 58 dX9_rule_58 (by decide) hpf (fun hpf => ?_) (fun hpf => ?_)
    · refine lv_aload_n hx hb dX9_rule_71 rfl (lv_at hl 0 rfl) ?_
      refine x_cIv (rest := []) (As := []) (d := 7) ⟨Nat.le_refl _, Nat.le_refl _⟩ X XX I hc fn_X9_X9_needRoom kCl_9 rfl (kO_X (g.1, g.2.1, cca106, cda106, cea106) S105) (c_X9_needRoom l hlt N) rfl (by decide) 72 dX9_rule_72 rfl hl.1 rfl (Nat.le_of_ble_eq_true rfl) ⟨Nat.le_of_ble_eq_true rfl, Nat.le_of_ble_eq_true rfl⟩ ⟨Nat.le_of_ble_eq_true rfl, Nat.le_of_ble_eq_true rfl⟩ hpf (fun v107 S108 cca109 cda109 cea109 H locs I hc hg hpf => ?_)
      have X := kX_to X cca109 cda109 cea109
      refine lv_aload hx hb dX9_rule_75 (lv_at hl 6 rfl) ?_
      refine lv_iload_n hx hb dX9_rule_77 rfl (lv_at hl 1 rfl) ?_
      refine x_cSv (rest := []) (As := [.ref (g.2.1 (18 + 2 * n7)), .int x2]) (d := 7) ⟨Nat.le_refl _, Nat.le_refl _⟩ X XX I hc fn_X9_X9_needWrite (c_X9_needWrite l hlt N n7 hn7 x2) rfl (by decide) 78 dX9_rule_78 rfl hl.1 rfl (Nat.le_of_ble_eq_true rfl) ⟨Nat.le_of_ble_eq_true rfl, Nat.le_of_ble_eq_true rfl⟩ ⟨Nat.le_of_ble_eq_true rfl, Nat.le_of_ble_eq_true rfl⟩ hpf (fun v110 S111 cca112 cda112 cea112 H locs I hc hg hpf => ?_)
      have X := kX_to X cca112 cda112 cea112
      refine lv_iload_n hx hb dX9_rule_81 rfl (lv_at hl 1 rfl) ?_
      refine lv_iload hx hb dX9_rule_82 (lv_at hl 3 rfl) ?_
      refine lv_iload hx hb dX9_rule_84 (lv_at hl 4 rfl) ?_
      refine k_cSi (rest := []) (As := [.int x2, .int x4, .int x5]) (d := 7) ⟨Nat.le_refl _, Nat.le_refl _⟩ X I fn_X9_X6_slot (c_X6_slot l N x2 x4 x5) rfl (by decide) 86 dX9_rule_86 rfl hl.1 rfl (Nat.le_of_ble_eq_true rfl) ⟨Nat.le_of_ble_eq_true rfl, Nat.le_of_ble_eq_true rfl⟩ hpf (fun v113 S114 H locs I hm hpf => ?_)
      refine lv_istore (lv' := [(8, .int v113), (0, .ref (g.2.1 0)), (2, .int x2), (3, .int x3), (4, .int x4), (5, .int x5), (6, .int x6), (7, .ref (g.2.1 (18 + 2 * n7)))]) hx hb dX9_rule_89 hl (by decide) rfl (fun ls hl => ?_)
      refine lv_aload hx hb dX9_rule_91 (lv_at hl 7 rfl) ?_
      refine k_get (k := 0) X I kCl_4 (kO_M (g.1, g.2.1, cca112, cda112, cea112) S114 n7 hn7) 1 (by decide) rfl kC_499 93 dX9_rule_93 ?_
      refine k_get (k := 0) X I kCl_8 (kO_T (g.1, g.2.1, cca112, cda112, cea112) S114 n7 (Nat.lt_succ_of_lt hn7)) 3 (by decide) rfl kC_648 96 dX9_rule_96 ?_
      refine lv_iload hx hb dX9_rule_99 (lv_at hl 0 rfl) ?_
      refine lv_iload_n hx hb dX9_rule_101 rfl (lv_at hl 3 rfl) ?_
      refine k_cIi (rest := []) (As := [.int v113, .int x3]) (d := 7) ⟨Nat.le_refl _, Nat.le_refl _⟩ X I fn_X9_X6_saidOf kCl_6 rfl (kO_R (g.1, g.2.1, cca112, cda112, cea112) S114 n7 (Nat.lt_succ_of_lt hn7)) (c_X6_saidOf l N n7 (Nat.lt_succ_of_lt hn7) v113 x3) rfl (by decide) 102 dX9_rule_102 rfl hl.1 rfl (Nat.le_of_ble_eq_true rfl) ⟨Nat.le_of_ble_eq_true rfl, Nat.le_of_ble_eq_true rfl⟩ hpf (fun v115 S116 H locs I hm hpf => ?_)
      refine lv_istore (lv' := [(9, .int v115), (8, .int v113), (0, .ref (g.2.1 0)), (2, .int x2), (3, .int x3), (4, .int x4), (5, .int x5), (6, .int x6), (7, .ref (g.2.1 (18 + 2 * n7)))]) hx hb dX9_rule_105 hl (by decide) rfl (fun ls hl => ?_)
      refine lv_aload_n hx hb dX9_rule_107 rfl (lv_at hl 2 rfl) ?_
      refine lv_aload hx hb dX9_rule_108 (lv_at hl 8 rfl) ?_
      refine x_newU X I kC_582 ⟨Nat.le_of_ble_eq_true rfl, Nat.le_of_ble_eq_true rfl⟩ 110 dX9_rule_110 hpf (fun cca117 S118 H I2 hg hltk hpf => ?_)
      have hc := (hc.sm I.2.2.2).trans (cd := cda112) hg
      have I := I2
      have X := kX_to X cca117 cda112 cea112
      refine lv_dup hx hb dX9_rule_113 rfl ?_
      refine lv_bipush (v := (6 : Int32)) hx hb dX9_rule_114 (by decide) ?_
      refine lv_iload_n hx hb dX9_rule_116 rfl (lv_at hl 3 rfl) ?_
      refine lv_iload hx hb dX9_rule_117 (lv_at hl 1 rfl) ?_
      refine lv_iload_n hx hb dX9_rule_119 rfl (lv_at hl 4 rfl) ?_
      refine lv_iload hx hb dX9_rule_120 (lv_at hl 7 rfl) ?_
      refine k_callC (α := Unit) (rest := [.ref (cca117 (kn S116)), .ref (g.2.1 (18 + 2 * n7)), .ref (g.2.1 0)]) (As := [.int (6 : Int32), .int x2, .int v113, .int x3, .int x6]) (d := 7) ⟨Nat.le_refl _, Nat.le_refl _⟩ X I fn_X9_X0_init (c_X0_init l N (kn S116) (6 : Int32) x2 v113 x3 x6) rfl (by decide) 122 dX9_rule_122 rfl hl.1 rfl (Nat.le_of_ble_eq_true rfl) ⟨Nat.le_of_ble_eq_true rfl, Nat.le_of_ble_eq_true rfl⟩ hpf (fun v119 S120 H locs I hm hpf => ?_)
      refine x_cIv (rest := []) (As := [.ref (g.2.1 (18 + 2 * n7)), .ref (cca117 (kn S116))]) (d := 7) ⟨Nat.le_refl _, Nat.le_refl _⟩ X XX I hc fn_X9_X9_record kCl_9 rfl (kO_X (g.1, g.2.1, cca117, cda112, cea112) S120) (c_X9_record l hlt N n7 hn7 (kn S116)) rfl (by decide) 125 dX9_rule_125 rfl hl.1 rfl (Nat.le_of_ble_eq_true rfl) ⟨Nat.le_of_ble_eq_true rfl, Nat.le_of_ble_eq_true rfl⟩ ⟨Nat.le_of_ble_eq_true rfl, Nat.le_of_ble_eq_true rfl⟩ hpf (fun v121 S122 cca123 cda123 cea123 H locs I hc hg hpf => ?_)
      have X := kX_to X cca123 cda123 cea123
      refine lv_iload hx hb dX9_rule_128 (lv_at hl 0 rfl) ?_
      exact x_reti X I hc hr ⟨Nat.le_of_ble_eq_true rfl, Nat.le_of_ble_eq_true rfl⟩ 130 dX9_rule_130 hpf
    refine W.widen (k := 5) (n := 30) (Nat.le_of_ble_eq_true rfl) (Nat.le_of_ble_eq_true rfl) ?_
    exact hC_61 cca106 cda106 cea106 S105 _ hc X H locs I ls (lv_sub hl [0] rfl) hpf
  refine lv_aload_n hx hb dX9_rule_0 rfl (lv_at hl 0 rfl) ?_
  refine lv_iload_n hx hb dX9_rule_1 rfl (lv_at hl 1 rfl) ?_
  refine x_cIm (rest := []) (As := [.int x1]) (d := 7) ⟨Nat.le_refl _, Nat.le_refl _⟩ X XX I hc fn_X9_X9_masterAt kCl_9 rfl (kO_X (g.1, g.2.1, g.2.2.1, g.2.2.2.1, g.2.2.2.2) Si) (c_X9_masterAt l hlt N x1) rfl (by decide) 2 dX9_rule_2 rfl hl.1 rfl (Nat.le_of_ble_eq_true rfl) ⟨Nat.le_of_ble_eq_true rfl, Nat.le_of_ble_eq_true rfl⟩ ⟨Nat.le_of_ble_eq_true rfl, Nat.le_of_ble_eq_true rfl⟩ hpf (fun v101 S102 cca103 cda103 cea103 H locs I hc hg hpf => ?_)
  have X := kX_to X cca103 cda103 cea103
  obtain ⟨hv101, hpf⟩ := gn_some hpf
  refine lv_astore (lv' := [(7, .ref (g.2.1 (18 + 2 * v101))), (0, .ref (g.2.1 0)), (1, .int x1), (2, .int x2), (3, .int x3), (4, .int x4), (5, .int x5), (6, .int x6)]) hx hb dX9_rule_5 hl (by decide) rfl (fun ls hl => ?_)
  refine lv_aload hx hb dX9_rule_7 (lv_at hl 0 rfl) ?_
  refine lv_iload_n hx hb dX9_rule_9 rfl (lv_at hl 3 rfl) ?_
  refine x_cSv (rest := []) (As := [.ref (g.2.1 (18 + 2 * v101)), .int x2]) (d := 7) ⟨Nat.le_refl _, Nat.le_refl _⟩ X XX I hc fn_X9_X9_needEntry (c_X9_needEntry l hlt N v101 hv101 x2) rfl (by decide) 10 dX9_rule_10 rfl hl.1 rfl (Nat.le_of_ble_eq_true rfl) ⟨Nat.le_of_ble_eq_true rfl, Nat.le_of_ble_eq_true rfl⟩ ⟨Nat.le_of_ble_eq_true rfl, Nat.le_of_ble_eq_true rfl⟩ hpf (fun v104 S105 cca106 cda106 cea106 H locs I hc hg hpf => ?_)
  have X := kX_to X cca106 cda106 cea106
  refine lv_iload_n hx hb dX9_rule_13 rfl (lv_at hl 4 rfl) ?_
  refine lv_bipush (v := (100 : Int32)) hx hb dX9_rule_14 (by decide) ?_
  refine b_icmp_lt hx hb 31 16 dX9_rule_16 (by decide) hpf (fun hpf => ?_) (fun hpf => ?_)
  · refine lv_iload_n hx hb dX9_rule_31 rfl (lv_at hl 4 rfl) ?_
    refine lv_iconst (v := (-1 : Int32)) hx hb dX9_rule_32 (by decide) ?_
    refine b_icmp_eq hx hb 40 33 dX9_rule_33 (by decide) hpf (fun hpf => ?_) (fun hpf => ?_)
    · refine W.widen (k := 3) (n := 18) (Nat.le_of_ble_eq_true rfl) (Nat.le_of_ble_eq_true rfl) ?_
      exact hC_40 x2 x3 x4 x5 x6 v101 hv101 cca106 cda106 cea106 S105 _ hc X H locs I ls (lv_sub hl [1, 3, 4, 5, 6, 7, 0] rfl) hpf
    refine lv_iload_n hx hb dX9_rule_36 rfl (lv_at hl 4 rfl) ?_
    refine x_cSv (rest := []) (As := [.int x3]) (d := 7) ⟨Nat.le_refl _, Nat.le_refl _⟩ X XX I hc fn_X9_X9_needUser (c_X9_needUser l hlt N x3) rfl (by decide) 37 dX9_rule_37 rfl hl.1 rfl (Nat.le_of_ble_eq_true rfl) ⟨Nat.le_of_ble_eq_true rfl, Nat.le_of_ble_eq_true rfl⟩ ⟨Nat.le_of_ble_eq_true rfl, Nat.le_of_ble_eq_true rfl⟩ hpf (fun v107 S108 cca109 cda109 cea109 H locs I hc hg hpf => ?_)
    have X := kX_to X cca109 cda109 cea109
    refine W.widen (k := 3) (n := 18) (Nat.le_of_ble_eq_true rfl) (Nat.le_of_ble_eq_true rfl) ?_
    exact hC_40 x2 x3 x4 x5 x6 v101 hv101 cca109 cda109 cea109 S108 _ hc X H locs I ls (lv_sub hl [1, 3, 4, 5, 6, 7, 0] rfl) hpf
  refine lv_aload hx hb dX9_rule_19 (lv_at hl 0 rfl) ?_
  refine lv_iload_n hx hb dX9_rule_21 rfl (lv_at hl 4 rfl) ?_
  refine lv_bipush (v := (100 : Int32)) hx hb dX9_rule_22 (by decide) ?_
  refine lv_isub hx hb dX9_rule_24 ?_
  refine x_cSv (rest := []) (As := [.ref (g.2.1 (18 + 2 * v101)), .int (x3 - (100 : Int32))]) (d := 7) ⟨Nat.le_refl _, Nat.le_refl _⟩ X XX I hc fn_X9_X9_needEntry (c_X9_needEntry l hlt N v101 hv101 (x3 - (100 : Int32))) rfl (by decide) 25 dX9_rule_25 rfl hl.1 rfl (Nat.le_of_ble_eq_true rfl) ⟨Nat.le_of_ble_eq_true rfl, Nat.le_of_ble_eq_true rfl⟩ ⟨Nat.le_of_ble_eq_true rfl, Nat.le_of_ble_eq_true rfl⟩ hpf (fun v110 S111 cca112 cda112 cea112 H locs I hc hg hpf => ?_)
  have X := kX_to X cca112 cda112 cea112
  refine lv_goto (tgt := 40) hx hb dX9_rule_28 (by decide) ?_
  refine W.widen (k := 3) (n := 18) (Nat.le_of_ble_eq_true rfl) (Nat.le_of_ble_eq_true rfl) ?_
  exact hC_40 x2 x3 x4 x5 x6 v101 hv101 cca112 cda112 cea112 S111 _ hc X H locs I ls (lv_sub hl [1, 3, 4, 5, 6, 7, 0] rfl) hpf
end
