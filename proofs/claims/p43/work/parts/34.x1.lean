theorem fn_X9_X8_isLive : kFnI RX9 yX8_isLive cX8_isLive 2 (some .boolean) 1 364 := ⟨⟨kC_500, kC_121, kC_140, ⟨by decide +kernel, by decide +kernel, by decide +kernel⟩, by decide⟩, kC_145, kC_146⟩
theorem fn_X9_X9_needEntry : kFnS RX9 yX9_needEntry cX9_needEntry 2 none 2 129 := ⟨⟨kC_586, kC_466, kC_498, ⟨by decide +kernel, by decide +kernel, by decide +kernel⟩, by decide⟩, kC_587⟩
theorem fn_X9_X7_isClass : kFnI RX9 yX7_isClass cX7_isClass 2 (some .boolean) 1 389 := ⟨⟨kC_461, kC_45, kC_38, ⟨by decide +kernel, by decide +kernel, by decide +kernel⟩, by decide⟩, kC_43, kC_44⟩
theorem fn_X9_X8_grants : kFnI RX9 yX8_grants cX8_grants 9 (some .boolean) 3 347 := ⟨⟨kC_508, kC_121, kC_193, ⟨by decide +kernel, by decide +kernel, by decide +kernel⟩, by decide⟩, kC_206, kC_207⟩
theorem fn_X9_X8_isShown : kFnI RX9 yX8_isShown cX8_isShown 6 (some .boolean) 3 410 := ⟨⟨kC_510, kC_121, kC_389, ⟨by decide +kernel, by decide +kernel, by decide +kernel⟩, by decide⟩, kC_511, kC_512⟩
theorem fn_X9_X9_masterAt : kFnI RX9 yX9_masterAt cX9_masterAt 2 (some (.object "MasterTree$Master")) 1 104 := ⟨⟨kC_478, kC_466, kC_474, ⟨by decide +kernel, by decide +kernel, by decide +kernel⟩, by decide⟩, kC_479, kC_480⟩
theorem fn_X9_X9_needScope : kFnS RX9 yX9_needScope cX9_needScope 1 none 1 227 := ⟨⟨kC_649, kC_466, kC_646, ⟨by decide +kernel, by decide +kernel, by decide +kernel⟩, by decide⟩, kC_650⟩
-- ===== X9_masterAt =====
def pX9_masterAt_9 (N : Nat) (S : kS) : Option ((Nat ⊕ Nat) × kS) :=
    some (.inr 1, S)
def pX9_masterAt (N : Nat) (x1 : Int32) (S : kS) : Option ((Nat ⊕ Nat) × kS) :=
    if x1 < (0 : Int32) then (
      pX9_masterAt_9 N S)
    else (
      if x1 < (4 : Int32) then (
        gm x1 fun k101 =>
        some (.inl k101, S))
      else (
        pX9_masterAt_9 N S))
set_option maxRecDepth 100000 in
set_option maxHeartbeats 4000000 in
theorem c_X9_masterAt (l : Launch) (hlt : l.stackTraces = false) (N : Nat) (x1 : Int32) : kMx l yX9_masterAt cX9_masterAt 2 (some (.object "MasterTree$Master")) 6 1 6 (fun g => [.ref (g.2.1 0), .int x1]) rM (pX9_masterAt N x1) := by
  refine xStart hlt RX9 (by decide +kernel) rfl (fun g => [(0, .ref (g.2.1 0)), (1, .int x1)]) (fun _ => Nat.le_of_ble_eq_true rfl) (fun _ => rfl) ?_
  intro dC dI g sz Si o Sf hpf p e s m args below meth c X XX hr H locs I hc ls hl
  have hx := X.1
  have hb := X.2.1
  unfold pX9_masterAt at hpf
  have hC_9 : ∀ (cC cD : Nat → Nat) (cE : Nat) (S S0 : kS), kGc g cC cE Si S0 → kX p s m meth c cX9_masterAt 2 args RX9 dC dI (g.1, g.2.1, cC, cD, cE) (kAt g (kn Si) (km Si) (kp Si) sz) → ∀ (H : Heap) (locs : List Loc), kV dC dI (g.1, g.2.1, cC, cD, cE) (kAt g (kn Si) (km Si) (kp Si) sz) s S0 S H locs → ∀ ls : Array Slot, lv_has ls 2 [(0, .ref (g.2.1 0))] → pX9_masterAt_9 N S = some (o, Sf) → W p l e (xRm 6 1 6) s m args below meth c H locs 0 0 (vx_MQ below (kQx dC dI g sz Si rM o Sf) (kXx dC dI g sz Si o Sf) args s 1 6 (kAt g (kn Si) (km Si) (kp Si) sz)) (F0 m 9 ls []) := by
    intro cC cD cE S S0 hc X H locs I ls hl hpf
    unfold pX9_masterAt_9 at hpf
    exact x_throwW 1 (Or.inl rfl) X XX I hc (is := 381) (tx := "no such master") (List.mem_of_getElem? (i := 10) rfl) hl.1 ⟨Nat.le_of_ble_eq_true rfl, Nat.le_of_ble_eq_true rfl⟩ ⟨Nat.le_of_ble_eq_true rfl, Nat.le_of_ble_eq_true rfl⟩ ⟨Nat.le_of_ble_eq_true rfl, Nat.le_of_ble_eq_true rfl⟩ (Nat.le_of_ble_eq_true rfl) 9 dX9_masterAt_9 dX9_masterAt_12 dX9_masterAt_13 dX9_masterAt_16 dX9_masterAt_19 hpf
  refine lv_iload_n hx hb dX9_masterAt_0 rfl (lv_at hl 1 rfl) ?_
  refine b_if_lt hx hb 9 1 dX9_masterAt_1 (by decide) hpf (fun hpf => ?_) (fun hpf => ?_)
  · refine W.widen (k := 0) (n := 0) (Nat.le_of_ble_eq_true rfl) (Nat.le_of_ble_eq_true rfl) ?_
    exact hC_9 g.2.2.1 g.2.2.2.1 g.2.2.2.2 Si _ hc X H locs I ls (lv_sub hl [0] rfl) hpf
  refine lv_iload_n hx hb dX9_masterAt_4 rfl (lv_at hl 1 rfl) ?_
  refine lv_iconst (v := (4 : Int32)) hx hb dX9_masterAt_5 (by decide) ?_
  refine b_icmp_lt hx hb 20 6 dX9_masterAt_6 (by decide) hpf (fun hpf => ?_) (fun hpf => ?_)
  · refine lv_aload_n hx hb dX9_masterAt_20 rfl (lv_at hl 0 rfl) ?_
    refine k_get (k := 0) X I kCl_9 (kO_X (g.1, g.2.1, g.2.2.1, g.2.2.2.1, g.2.2.2.2) Si) 3 (by decide) rfl kC_410 21 dX9_masterAt_21 ?_
    refine lv_iload_n hx hb dX9_masterAt_24 rfl (lv_at hl 1 rfl) ?_
    refine k_mld X I 25 dX9_masterAt_25 hpf (fun k101 hk101 hpf => ?_)
    exact x_retm X I hc hr ⟨Nat.le_of_ble_eq_true rfl, Nat.le_of_ble_eq_true rfl⟩ 26 dX9_masterAt_26 hpf
  refine W.widen (k := 0) (n := 0) (Nat.le_of_ble_eq_true rfl) (Nat.le_of_ble_eq_true rfl) ?_
  exact hC_9 g.2.2.1 g.2.2.2.1 g.2.2.2.2 Si _ hc X H locs I ls (lv_sub hl [0] rfl) hpf
-- ===== X9_needUser =====
def pX9_needUser_10 (N : Nat) (S : kS) : Option ((Unit ⊕ Nat) × kS) :=
    some (.inr 1, S)
def pX9_needUser (N : Nat) (x0 : Int32) (S : kS) : Option ((Unit ⊕ Nat) × kS) :=
    if x0 < (0 : Int32) then (
      pX9_needUser_10 N S)
    else (
      if x0 < (6 : Int32) then (
        some (.inl (), S))
      else (
        pX9_needUser_10 N S))
set_option maxRecDepth 100000 in
set_option maxHeartbeats 4000000 in
theorem c_X9_needUser (l : Launch) (hlt : l.stackTraces = false) (N : Nat) (x0 : Int32) : kMx l yX9_needUser cX9_needUser 1 none 6 1 6 (fun g => [.int x0]) rU (pX9_needUser N x0) := by
  refine xStart hlt RX9 (by decide +kernel) rfl (fun g => [(0, .int x0)]) (fun _ => Nat.le_of_ble_eq_true rfl) (fun _ => rfl) ?_
  intro dC dI g sz Si o Sf hpf p e s m args below meth c X XX hr H locs I hc ls hl
  have hx := X.1
  have hb := X.2.1
  unfold pX9_needUser at hpf
  have hC_10 : ∀ (cC cD : Nat → Nat) (cE : Nat) (S S0 : kS), kGc g cC cE Si S0 → kX p s m meth c cX9_needUser 1 args RX9 dC dI (g.1, g.2.1, cC, cD, cE) (kAt g (kn Si) (km Si) (kp Si) sz) → ∀ (H : Heap) (locs : List Loc), kV dC dI (g.1, g.2.1, cC, cD, cE) (kAt g (kn Si) (km Si) (kp Si) sz) s S0 S H locs → ∀ ls : Array Slot, lv_has ls 1 [] → pX9_needUser_10 N S = some (o, Sf) → W p l e (xRm 6 1 6) s m args below meth c H locs 0 0 (vx_MQ below (kQx dC dI g sz Si rU o Sf) (kXx dC dI g sz Si o Sf) args s 1 6 (kAt g (kn Si) (km Si) (kp Si) sz)) (F0 m 10 ls []) := by
    intro cC cD cE S S0 hc X H locs I ls hl hpf
    unfold pX9_needUser_10 at hpf
    exact x_throwW 1 (Or.inl rfl) X XX I hc (is := 383) (tx := "no such user") (List.mem_of_getElem? (i := 11) rfl) hl.1 ⟨Nat.le_of_ble_eq_true rfl, Nat.le_of_ble_eq_true rfl⟩ ⟨Nat.le_of_ble_eq_true rfl, Nat.le_of_ble_eq_true rfl⟩ ⟨Nat.le_of_ble_eq_true rfl, Nat.le_of_ble_eq_true rfl⟩ (Nat.le_of_ble_eq_true rfl) 10 dX9_needUser_10 dX9_needUser_13 dX9_needUser_14 dX9_needUser_17 dX9_needUser_20 hpf
  refine lv_iload_n hx hb dX9_needUser_0 rfl (lv_at hl 0 rfl) ?_
  refine b_if_lt hx hb 10 1 dX9_needUser_1 (by decide) hpf (fun hpf => ?_) (fun hpf => ?_)
  · refine W.widen (k := 0) (n := 0) (Nat.le_of_ble_eq_true rfl) (Nat.le_of_ble_eq_true rfl) ?_
    exact hC_10 g.2.2.1 g.2.2.2.1 g.2.2.2.2 Si _ hc X H locs I ls (lv_sub hl [] rfl) hpf
  refine lv_iload_n hx hb dX9_needUser_4 rfl (lv_at hl 0 rfl) ?_
  refine lv_bipush (v := (6 : Int32)) hx hb dX9_needUser_5 (by decide) ?_
  refine b_icmp_lt hx hb 21 7 dX9_needUser_7 (by decide) hpf (fun hpf => ?_) (fun hpf => ?_)
  · exact x_retv X I hc hr ⟨Nat.le_of_ble_eq_true rfl, Nat.le_of_ble_eq_true rfl⟩ 21 dX9_needUser_21 hpf
  refine W.widen (k := 0) (n := 0) (Nat.le_of_ble_eq_true rfl) (Nat.le_of_ble_eq_true rfl) ?_
  exact hC_10 g.2.2.1 g.2.2.2.1 g.2.2.2.2 Si _ hc X H locs I ls (lv_sub hl [] rfl) hpf
-- ===== X9_needEntry =====
def pX9_needEntry (N : Nat) (n0 : Nat) (x1 : Int32) (S : kS) : Option ((Unit ⊕ Nat) × kS) :=
    bk (pX8_isLive N n0 x1 S) fun v101 S102 =>
    if v101 = (0 : Int32) then (
      some (.inr 1, S102))
    else (
      some (.inl (), S102))
set_option maxRecDepth 100000 in
set_option maxHeartbeats 4000000 in
theorem c_X9_needEntry (l : Launch) (hlt : l.stackTraces = false) (N : Nat) (n0 : Nat) (hn0 : n0 < 4) (x1 : Int32) : kMx l yX9_needEntry cX9_needEntry 2 none 6 1 6 (fun g => [.ref (g.2.1 (18 + 2 * n0)), .int x1]) rU (pX9_needEntry N n0 x1) := by
  refine xStart hlt RX9 (by decide +kernel) rfl (fun g => [(0, .ref (g.2.1 (18 + 2 * n0))), (1, .int x1)]) (fun _ => Nat.le_of_ble_eq_true rfl) (fun _ => rfl) ?_
  intro dC dI g sz Si o Sf hpf p e s m args below meth c X XX hr H locs I hc ls hl
  have hx := X.1
  have hb := X.2.1
  unfold pX9_needEntry at hpf
  refine lv_aload_n hx hb dX9_needEntry_0 rfl (lv_at hl 0 rfl) ?_
  refine k_get (k := 0) X I kCl_4 (kO_M (g.1, g.2.1, g.2.2.1, g.2.2.2.1, g.2.2.2.2) Si n0 hn0) 1 (by decide) rfl kC_499 1 dX9_needEntry_1 ?_
  refine lv_iload_n hx hb dX9_needEntry_4 rfl (lv_at hl 1 rfl) ?_
  refine k_cIi (rest := []) (As := [.int x1]) (d := 6) ⟨Nat.le_refl _, Nat.le_refl _⟩ X I fn_X9_X8_isLive kCl_8 rfl (kO_T (g.1, g.2.1, g.2.2.1, g.2.2.2.1, g.2.2.2.2) Si n0 (Nat.lt_succ_of_lt hn0)) (c_X8_isLive l N n0 (Nat.lt_succ_of_lt hn0) x1) rfl (by decide) 5 dX9_needEntry_5 rfl hl.1 rfl (Nat.le_of_ble_eq_true rfl) ⟨Nat.le_of_ble_eq_true rfl, Nat.le_of_ble_eq_true rfl⟩ hpf (fun v101 S102 H locs I hm hpf => ?_)
  refine b_if_ne hx hb 22 8 dX9_needEntry_8 (by decide) hpf (fun hpf => ?_) (fun hpf => ?_)
  · exact x_retv X I hc hr ⟨Nat.le_of_ble_eq_true rfl, Nat.le_of_ble_eq_true rfl⟩ 22 dX9_needEntry_22 hpf
  exact x_throwW 1 (Or.inl rfl) X XX I hc (is := 385) (tx := "no such entry there") (List.mem_of_getElem? (i := 12) rfl) hl.1 ⟨Nat.le_of_ble_eq_true rfl, Nat.le_of_ble_eq_true rfl⟩ ⟨Nat.le_of_ble_eq_true rfl, Nat.le_of_ble_eq_true rfl⟩ ⟨Nat.le_of_ble_eq_true rfl, Nat.le_of_ble_eq_true rfl⟩ (Nat.le_of_ble_eq_true rfl) 11 dX9_needEntry_11 dX9_needEntry_14 dX9_needEntry_15 dX9_needEntry_18 dX9_needEntry_21 hpf
-- ===== X9_needChangeable =====
def pX9_needChangeable (N : Nat) (n0 : Nat) (x1 : Int32) (S : kS) : Option ((Unit ⊕ Nat) × kS) :=
    if x1 = (0 : Int32) then (
      some (.inr 1, S))
    else (
      bx (pX9_needEntry N n0 x1 S) fun v101 S102 =>
      some (.inl (), S102))
set_option maxRecDepth 100000 in
set_option maxHeartbeats 4000000 in
theorem c_X9_needChangeable (l : Launch) (hlt : l.stackTraces = false) (N : Nat) (n0 : Nat) (hn0 : n0 < 4) (x1 : Int32) : kMx l yX9_needChangeable cX9_needChangeable 2 none 7 1 6 (fun g => [.ref (g.2.1 (18 + 2 * n0)), .int x1]) rU (pX9_needChangeable N n0 x1) := by
  refine xStart hlt RX9 (by decide +kernel) rfl (fun g => [(0, .ref (g.2.1 (18 + 2 * n0))), (1, .int x1)]) (fun _ => Nat.le_of_ble_eq_true rfl) (fun _ => rfl) ?_
  intro dC dI g sz Si o Sf hpf p e s m args below meth c X XX hr H locs I hc ls hl
  have hx := X.1
  have hb := X.2.1
  unfold pX9_needChangeable at hpf
  refine lv_iload_n hx hb dX9_needChangeable_0 rfl (lv_at hl 1 rfl) ?_
  refine b_if_ne hx hb 15 1 dX9_needChangeable_1 (by decide) hpf (fun hpf => ?_) (fun hpf => ?_)
  · refine lv_aload_n hx hb dX9_needChangeable_15 rfl (lv_at hl 0 rfl) ?_
    refine lv_iload_n hx hb dX9_needChangeable_16 rfl (lv_at hl 1 rfl) ?_
    refine x_cSv (rest := []) (As := [.ref (g.2.1 (18 + 2 * n0)), .int x1]) (d := 7) ⟨Nat.le_refl _, Nat.le_refl _⟩ X XX I hc fn_X9_X9_needEntry (c_X9_needEntry l hlt N n0 hn0 x1) rfl (by decide) 17 dX9_needChangeable_17 rfl hl.1 rfl (Nat.le_of_ble_eq_true rfl) ⟨Nat.le_of_ble_eq_true rfl, Nat.le_of_ble_eq_true rfl⟩ ⟨Nat.le_of_ble_eq_true rfl, Nat.le_of_ble_eq_true rfl⟩ hpf (fun v101 S102 cca103 cda103 cea103 H locs I hc hg hpf => ?_)
    have X := kX_to X cca103 cda103 cea103
    exact x_retv X I hc hr ⟨Nat.le_of_ble_eq_true rfl, Nat.le_of_ble_eq_true rfl⟩ 20 dX9_needChangeable_20 hpf
  exact x_throwW 1 (Or.inl rfl) X XX I hc (is := 387) (tx := "the root cannot be changed") (List.mem_of_getElem? (i := 13) rfl) hl.1 ⟨Nat.le_of_ble_eq_true rfl, Nat.le_of_ble_eq_true rfl⟩ ⟨Nat.le_of_ble_eq_true rfl, Nat.le_of_ble_eq_true rfl⟩ ⟨Nat.le_of_ble_eq_true rfl, Nat.le_of_ble_eq_true rfl⟩ (Nat.le_of_ble_eq_true rfl) 4 dX9_needChangeable_4 dX9_needChangeable_7 dX9_needChangeable_8 dX9_needChangeable_11 dX9_needChangeable_14 hpf
-- ===== X9_needAttribute =====
def pX9_needAttribute_15 (N : Nat) (S : kS) : Option ((Unit ⊕ Nat) × kS) :=
    some (.inr 1, S)
def pX9_needAttribute (N : Nat) (x1 : Int32) (S : kS) : Option ((Unit ⊕ Nat) × kS) :=
    if x1 < (0 : Int32) then (
      pX9_needAttribute_15 N S)
    else (
      if x1 < (kI S 1) then (
        some (.inl (), S))
      else (
        pX9_needAttribute_15 N S))
set_option maxRecDepth 100000 in
set_option maxHeartbeats 4000000 in
theorem c_X9_needAttribute (l : Launch) (hlt : l.stackTraces = false) (N : Nat) (x1 : Int32) : kMx l yX9_needAttribute cX9_needAttribute 2 none 6 1 6 (fun g => [.ref (g.2.1 0), .int x1]) rU (pX9_needAttribute N x1) := by
  refine xStart hlt RX9 (by decide +kernel) rfl (fun g => [(0, .ref (g.2.1 0)), (1, .int x1)]) (fun _ => Nat.le_of_ble_eq_true rfl) (fun _ => rfl) ?_
  intro dC dI g sz Si o Sf hpf p e s m args below meth c X XX hr H locs I hc ls hl
  have hx := X.1
  have hb := X.2.1
  unfold pX9_needAttribute at hpf
  have hC_15 : ∀ (cC cD : Nat → Nat) (cE : Nat) (S S0 : kS), kGc g cC cE Si S0 → kX p s m meth c cX9_needAttribute 2 args RX9 dC dI (g.1, g.2.1, cC, cD, cE) (kAt g (kn Si) (km Si) (kp Si) sz) → ∀ (H : Heap) (locs : List Loc), kV dC dI (g.1, g.2.1, cC, cD, cE) (kAt g (kn Si) (km Si) (kp Si) sz) s S0 S H locs → ∀ ls : Array Slot, lv_has ls 2 [(0, .ref (g.2.1 0))] → pX9_needAttribute_15 N S = some (o, Sf) → W p l e (xRm 6 1 6) s m args below meth c H locs 0 0 (vx_MQ below (kQx dC dI g sz Si rU o Sf) (kXx dC dI g sz Si o Sf) args s 1 6 (kAt g (kn Si) (km Si) (kp Si) sz)) (F0 m 15 ls []) := by
    intro cC cD cE S S0 hc X H locs I ls hl hpf
    unfold pX9_needAttribute_15 at hpf
    exact x_throw 1 (Or.inl rfl) X XX I hc (is := 92) (tx := "no such attribute") (List.mem_of_getElem? (i := 1) rfl) hl.1 ⟨Nat.le_of_ble_eq_true rfl, Nat.le_of_ble_eq_true rfl⟩ ⟨Nat.le_of_ble_eq_true rfl, Nat.le_of_ble_eq_true rfl⟩ ⟨Nat.le_of_ble_eq_true rfl, Nat.le_of_ble_eq_true rfl⟩ (Nat.le_of_ble_eq_true rfl) 15 dX9_needAttribute_15 dX9_needAttribute_18 dX9_needAttribute_19 dX9_needAttribute_21 dX9_needAttribute_24 hpf
  refine lv_iload_n hx hb dX9_needAttribute_0 rfl (lv_at hl 1 rfl) ?_
  refine b_if_lt hx hb 15 1 dX9_needAttribute_1 (by decide) hpf (fun hpf => ?_) (fun hpf => ?_)
  · refine W.widen (k := 0) (n := 0) (Nat.le_of_ble_eq_true rfl) (Nat.le_of_ble_eq_true rfl) ?_
    exact hC_15 g.2.2.1 g.2.2.2.1 g.2.2.2.2 Si _ hc X H locs I ls (lv_sub hl [0] rfl) hpf
  refine lv_iload_n hx hb dX9_needAttribute_4 rfl (lv_at hl 1 rfl) ?_
  refine lv_aload_n hx hb dX9_needAttribute_5 rfl (lv_at hl 0 rfl) ?_
  refine k_get (k := 0) X I kCl_9 (kO_X (g.1, g.2.1, g.2.2.1, g.2.2.2.1, g.2.2.2.2) Si) 0 (by decide) rfl kC_402 6 dX9_needAttribute_6 ?_
  refine k_get (k := 0) X I kCl_7 (kO_H (g.1, g.2.1, g.2.2.1, g.2.2.2.1, g.2.2.2.2) Si) 0 (by decide) rfl kC_454 9 dX9_needAttribute_9 ?_
  refine b_icmp_lt hx hb 25 12 dX9_needAttribute_12 (by decide) hpf (fun hpf => ?_) (fun hpf => ?_)
  · exact x_retv X I hc hr ⟨Nat.le_of_ble_eq_true rfl, Nat.le_of_ble_eq_true rfl⟩ 25 dX9_needAttribute_25 hpf
  refine W.widen (k := 0) (n := 0) (Nat.le_of_ble_eq_true rfl) (Nat.le_of_ble_eq_true rfl) ?_
  exact hC_15 g.2.2.1 g.2.2.2.1 g.2.2.2.2 Si _ hc X H locs I ls (lv_sub hl [0] rfl) hpf
-- ===== X9_needClass =====
def pX9_needClass (N : Nat) (x1 : Int32) (S : kS) : Option ((Unit ⊕ Nat) × kS) :=
    bk (pX7_isClass N x1 S) fun v101 S102 =>
    if v101 = (0 : Int32) then (
      some (.inr 1, S102))
    else (
      some (.inl (), S102))
set_option maxRecDepth 100000 in
set_option maxHeartbeats 4000000 in
theorem c_X9_needClass (l : Launch) (hlt : l.stackTraces = false) (N : Nat) (x1 : Int32) : kMx l yX9_needClass cX9_needClass 2 none 6 1 6 (fun g => [.ref (g.2.1 0), .int x1]) rU (pX9_needClass N x1) := by
  refine xStart hlt RX9 (by decide +kernel) rfl (fun g => [(0, .ref (g.2.1 0)), (1, .int x1)]) (fun _ => Nat.le_of_ble_eq_true rfl) (fun _ => rfl) ?_
  intro dC dI g sz Si o Sf hpf p e s m args below meth c X XX hr H locs I hc ls hl
  have hx := X.1
  have hb := X.2.1
  unfold pX9_needClass at hpf
  refine lv_aload_n hx hb dX9_needClass_0 rfl (lv_at hl 0 rfl) ?_
  refine k_get (k := 0) X I kCl_9 (kO_X (g.1, g.2.1, g.2.2.1, g.2.2.2.1, g.2.2.2.2) Si) 0 (by decide) rfl kC_402 1 dX9_needClass_1 ?_
  refine lv_iload_n hx hb dX9_needClass_4 rfl (lv_at hl 1 rfl) ?_
  refine k_cIi (rest := []) (As := [.int x1]) (d := 6) ⟨Nat.le_refl _, Nat.le_refl _⟩ X I fn_X9_X7_isClass kCl_7 rfl (kO_H (g.1, g.2.1, g.2.2.1, g.2.2.2.1, g.2.2.2.2) Si) (c_X7_isClass l N x1) rfl (by decide) 5 dX9_needClass_5 rfl hl.1 rfl (Nat.le_of_ble_eq_true rfl) ⟨Nat.le_of_ble_eq_true rfl, Nat.le_of_ble_eq_true rfl⟩ hpf (fun v101 S102 H locs I hm hpf => ?_)
  refine b_if_ne hx hb 22 8 dX9_needClass_8 (by decide) hpf (fun hpf => ?_) (fun hpf => ?_)
  · exact x_retv X I hc hr ⟨Nat.le_of_ble_eq_true rfl, Nat.le_of_ble_eq_true rfl⟩ 22 dX9_needClass_22 hpf
  exact x_throwW 1 (Or.inl rfl) X XX I hc (is := 392) (tx := "no such class") (List.mem_of_getElem? (i := 14) rfl) hl.1 ⟨Nat.le_of_ble_eq_true rfl, Nat.le_of_ble_eq_true rfl⟩ ⟨Nat.le_of_ble_eq_true rfl, Nat.le_of_ble_eq_true rfl⟩ ⟨Nat.le_of_ble_eq_true rfl, Nat.le_of_ble_eq_true rfl⟩ (Nat.le_of_ble_eq_true rfl) 11 dX9_needClass_11 dX9_needClass_14 dX9_needClass_15 dX9_needClass_18 dX9_needClass_21 hpf
-- ===== X9_needScope =====
def pX9_needScope_9 (N : Nat) (S : kS) : Option ((Unit ⊕ Nat) × kS) :=
    some (.inr 1, S)
def pX9_needScope (N : Nat) (x0 : Int32) (S : kS) : Option ((Unit ⊕ Nat) × kS) :=
    if x0 < (0 : Int32) then (
      pX9_needScope_9 N S)
    else (
      if x0 < (3 : Int32) then (
        some (.inl (), S))
      else (
        pX9_needScope_9 N S))
set_option maxRecDepth 100000 in
set_option maxHeartbeats 4000000 in
theorem c_X9_needScope (l : Launch) (hlt : l.stackTraces = false) (N : Nat) (x0 : Int32) : kMx l yX9_needScope cX9_needScope 1 none 6 1 6 (fun g => [.int x0]) rU (pX9_needScope N x0) := by
  refine xStart hlt RX9 (by decide +kernel) rfl (fun g => [(0, .int x0)]) (fun _ => Nat.le_of_ble_eq_true rfl) (fun _ => rfl) ?_
  intro dC dI g sz Si o Sf hpf p e s m args below meth c X XX hr H locs I hc ls hl
  have hx := X.1
  have hb := X.2.1
  unfold pX9_needScope at hpf
  have hC_9 : ∀ (cC cD : Nat → Nat) (cE : Nat) (S S0 : kS), kGc g cC cE Si S0 → kX p s m meth c cX9_needScope 1 args RX9 dC dI (g.1, g.2.1, cC, cD, cE) (kAt g (kn Si) (km Si) (kp Si) sz) → ∀ (H : Heap) (locs : List Loc), kV dC dI (g.1, g.2.1, cC, cD, cE) (kAt g (kn Si) (km Si) (kp Si) sz) s S0 S H locs → ∀ ls : Array Slot, lv_has ls 1 [] → pX9_needScope_9 N S = some (o, Sf) → W p l e (xRm 6 1 6) s m args below meth c H locs 0 0 (vx_MQ below (kQx dC dI g sz Si rU o Sf) (kXx dC dI g sz Si o Sf) args s 1 6 (kAt g (kn Si) (km Si) (kp Si) sz)) (F0 m 9 ls []) := by
    intro cC cD cE S S0 hc X H locs I ls hl hpf
    unfold pX9_needScope_9 at hpf
    exact x_throwW 1 (Or.inl rfl) X XX I hc (is := 394) (tx := "no such scope") (List.mem_of_getElem? (i := 15) rfl) hl.1 ⟨Nat.le_of_ble_eq_true rfl, Nat.le_of_ble_eq_true rfl⟩ ⟨Nat.le_of_ble_eq_true rfl, Nat.le_of_ble_eq_true rfl⟩ ⟨Nat.le_of_ble_eq_true rfl, Nat.le_of_ble_eq_true rfl⟩ (Nat.le_of_ble_eq_true rfl) 9 dX9_needScope_9 dX9_needScope_12 dX9_needScope_13 dX9_needScope_16 dX9_needScope_19 hpf
  refine lv_iload_n hx hb dX9_needScope_0 rfl (lv_at hl 0 rfl) ?_
  refine b_if_lt hx hb 9 1 dX9_needScope_1 (by decide) hpf (fun hpf => ?_) (fun hpf => ?_)
  · refine W.widen (k := 0) (n := 0) (Nat.le_of_ble_eq_true rfl) (Nat.le_of_ble_eq_true rfl) ?_
    exact hC_9 g.2.2.1 g.2.2.2.1 g.2.2.2.2 Si _ hc X H locs I ls (lv_sub hl [] rfl) hpf
  refine lv_iload_n hx hb dX9_needScope_4 rfl (lv_at hl 0 rfl) ?_
  refine lv_iconst (v := (3 : Int32)) hx hb dX9_needScope_5 (by decide) ?_
  refine b_icmp_lt hx hb 20 6 dX9_needScope_6 (by decide) hpf (fun hpf => ?_) (fun hpf => ?_)
  · exact x_retv X I hc hr ⟨Nat.le_of_ble_eq_true rfl, Nat.le_of_ble_eq_true rfl⟩ 20 dX9_needScope_20 hpf
  refine W.widen (k := 0) (n := 0) (Nat.le_of_ble_eq_true rfl) (Nat.le_of_ble_eq_true rfl) ?_
  exact hC_9 g.2.2.1 g.2.2.2.1 g.2.2.2.2 Si _ hc X H locs I ls (lv_sub hl [] rfl) hpf
-- ===== X9_needRight =====
def pX9_needRight_9 (N : Nat) (S : kS) : Option ((Unit ⊕ Nat) × kS) :=
    some (.inr 1, S)
def pX9_needRight (N : Nat) (x0 : Int32) (S : kS) : Option ((Unit ⊕ Nat) × kS) :=
    if x0 < (0 : Int32) then (
      pX9_needRight_9 N S)
    else (
      if x0 < (2 : Int32) then (
        some (.inl (), S))
      else (
        pX9_needRight_9 N S))
set_option maxRecDepth 100000 in
set_option maxHeartbeats 4000000 in
theorem c_X9_needRight (l : Launch) (hlt : l.stackTraces = false) (N : Nat) (x0 : Int32) : kMx l yX9_needRight cX9_needRight 1 none 6 1 6 (fun g => [.int x0]) rU (pX9_needRight N x0) := by
  refine xStart hlt RX9 (by decide +kernel) rfl (fun g => [(0, .int x0)]) (fun _ => Nat.le_of_ble_eq_true rfl) (fun _ => rfl) ?_
  intro dC dI g sz Si o Sf hpf p e s m args below meth c X XX hr H locs I hc ls hl
  have hx := X.1
  have hb := X.2.1
  unfold pX9_needRight at hpf
  have hC_9 : ∀ (cC cD : Nat → Nat) (cE : Nat) (S S0 : kS), kGc g cC cE Si S0 → kX p s m meth c cX9_needRight 1 args RX9 dC dI (g.1, g.2.1, cC, cD, cE) (kAt g (kn Si) (km Si) (kp Si) sz) → ∀ (H : Heap) (locs : List Loc), kV dC dI (g.1, g.2.1, cC, cD, cE) (kAt g (kn Si) (km Si) (kp Si) sz) s S0 S H locs → ∀ ls : Array Slot, lv_has ls 1 [] → pX9_needRight_9 N S = some (o, Sf) → W p l e (xRm 6 1 6) s m args below meth c H locs 0 0 (vx_MQ below (kQx dC dI g sz Si rU o Sf) (kXx dC dI g sz Si o Sf) args s 1 6 (kAt g (kn Si) (km Si) (kp Si) sz)) (F0 m 9 ls []) := by
    intro cC cD cE S S0 hc X H locs I ls hl hpf
    unfold pX9_needRight_9 at hpf
    exact x_throwW 1 (Or.inl rfl) X XX I hc (is := 396) (tx := "no such right") (List.mem_of_getElem? (i := 16) rfl) hl.1 ⟨Nat.le_of_ble_eq_true rfl, Nat.le_of_ble_eq_true rfl⟩ ⟨Nat.le_of_ble_eq_true rfl, Nat.le_of_ble_eq_true rfl⟩ ⟨Nat.le_of_ble_eq_true rfl, Nat.le_of_ble_eq_true rfl⟩ (Nat.le_of_ble_eq_true rfl) 9 dX9_needRight_9 dX9_needRight_12 dX9_needRight_13 dX9_needRight_16 dX9_needRight_19 hpf
  refine lv_iload_n hx hb dX9_needRight_0 rfl (lv_at hl 0 rfl) ?_
  refine b_if_lt hx hb 9 1 dX9_needRight_1 (by decide) hpf (fun hpf => ?_) (fun hpf => ?_)
  · refine W.widen (k := 0) (n := 0) (Nat.le_of_ble_eq_true rfl) (Nat.le_of_ble_eq_true rfl) ?_
    exact hC_9 g.2.2.1 g.2.2.2.1 g.2.2.2.2 Si _ hc X H locs I ls (lv_sub hl [] rfl) hpf
  refine lv_iload_n hx hb dX9_needRight_4 rfl (lv_at hl 0 rfl) ?_
  refine lv_iconst (v := (2 : Int32)) hx hb dX9_needRight_5 (by decide) ?_
  refine b_icmp_lt hx hb 20 6 dX9_needRight_6 (by decide) hpf (fun hpf => ?_) (fun hpf => ?_)
  · exact x_retv X I hc hr ⟨Nat.le_of_ble_eq_true rfl, Nat.le_of_ble_eq_true rfl⟩ 20 dX9_needRight_20 hpf
  refine W.widen (k := 0) (n := 0) (Nat.le_of_ble_eq_true rfl) (Nat.le_of_ble_eq_true rfl) ?_
  exact hC_9 g.2.2.1 g.2.2.2.1 g.2.2.2.2 Si _ hc X H locs I ls (lv_sub hl [] rfl) hpf
-- ===== X9_needIndex =====
def pX9_needIndex (N : Nat) (x0 : Int32) (S : kS) : Option ((Unit ⊕ Nat) × kS) :=
    if (0 : Int32) ≤ x0 then (
      some (.inl (), S))
    else (
      some (.inr 1, S))
set_option maxRecDepth 100000 in
set_option maxHeartbeats 4000000 in
theorem c_X9_needIndex (l : Launch) (hlt : l.stackTraces = false) (N : Nat) (x0 : Int32) : kMx l yX9_needIndex cX9_needIndex 1 none 6 1 6 (fun g => [.int x0]) rU (pX9_needIndex N x0) := by
  refine xStart hlt RX9 (by decide +kernel) rfl (fun g => [(0, .int x0)]) (fun _ => Nat.le_of_ble_eq_true rfl) (fun _ => rfl) ?_
  intro dC dI g sz Si o Sf hpf p e s m args below meth c X XX hr H locs I hc ls hl
  have hx := X.1
  have hb := X.2.1
  unfold pX9_needIndex at hpf
  refine lv_iload_n hx hb dX9_needIndex_0 rfl (lv_at hl 0 rfl) ?_
  refine b_if_ge hx hb 15 1 dX9_needIndex_1 (by decide) hpf (fun hpf => ?_) (fun hpf => ?_)
  · exact x_retv X I hc hr ⟨Nat.le_of_ble_eq_true rfl, Nat.le_of_ble_eq_true rfl⟩ 15 dX9_needIndex_15 hpf
  exact x_throwW 1 (Or.inl rfl) X XX I hc (is := 398) (tx := "index is below 0") (List.mem_of_getElem? (i := 17) rfl) hl.1 ⟨Nat.le_of_ble_eq_true rfl, Nat.le_of_ble_eq_true rfl⟩ ⟨Nat.le_of_ble_eq_true rfl, Nat.le_of_ble_eq_true rfl⟩ ⟨Nat.le_of_ble_eq_true rfl, Nat.le_of_ble_eq_true rfl⟩ (Nat.le_of_ble_eq_true rfl) 4 dX9_needIndex_4 dX9_needIndex_7 dX9_needIndex_8 dX9_needIndex_11 dX9_needIndex_14 hpf
-- ===== X9_needValue =====
def pX9_needValue_11 (N : Nat) (S : kS) : Option ((Unit ⊕ Nat) × kS) :=
    some (.inr 2, S)
def pX9_needValue (N : Nat) (x0 : Int32) (S : kS) : Option ((Unit ⊕ Nat) × kS) :=
    if x0 < (0 : Int32) then (
      pX9_needValue_11 N S)
    else (
      if x0 < (1000 : Int32) then (
        some (.inl (), S))
      else (
        pX9_needValue_11 N S))
set_option maxRecDepth 100000 in
set_option maxHeartbeats 4000000 in
theorem c_X9_needValue (l : Launch) (hlt : l.stackTraces = false) (N : Nat) (x0 : Int32) : kMx l yX9_needValue cX9_needValue 1 none 6 1 6 (fun g => [.int x0]) rU (pX9_needValue N x0) := by
  refine xStart hlt RX9 (by decide +kernel) rfl (fun g => [(0, .int x0)]) (fun _ => Nat.le_of_ble_eq_true rfl) (fun _ => rfl) ?_
  intro dC dI g sz Si o Sf hpf p e s m args below meth c X XX hr H locs I hc ls hl
  have hx := X.1
  have hb := X.2.1
  unfold pX9_needValue at hpf
  have hC_11 : ∀ (cC cD : Nat → Nat) (cE : Nat) (S S0 : kS), kGc g cC cE Si S0 → kX p s m meth c cX9_needValue 1 args RX9 dC dI (g.1, g.2.1, cC, cD, cE) (kAt g (kn Si) (km Si) (kp Si) sz) → ∀ (H : Heap) (locs : List Loc), kV dC dI (g.1, g.2.1, cC, cD, cE) (kAt g (kn Si) (km Si) (kp Si) sz) s S0 S H locs → ∀ ls : Array Slot, lv_has ls 1 [] → pX9_needValue_11 N S = some (o, Sf) → W p l e (xRm 6 1 6) s m args below meth c H locs 0 0 (vx_MQ below (kQx dC dI g sz Si rU o Sf) (kXx dC dI g sz Si o Sf) args s 1 6 (kAt g (kn Si) (km Si) (kp Si) sz)) (F0 m 11 ls []) := by
    intro cC cD cE S S0 hc X H locs I ls hl hpf
    unfold pX9_needValue_11 at hpf
    exact x_throwW 2 (Or.inr (Or.inl rfl)) X XX I hc (is := 400) (tx := "value is out of range") (List.mem_of_getElem? (i := 18) rfl) hl.1 ⟨Nat.le_of_ble_eq_true rfl, Nat.le_of_ble_eq_true rfl⟩ ⟨Nat.le_of_ble_eq_true rfl, Nat.le_of_ble_eq_true rfl⟩ ⟨Nat.le_of_ble_eq_true rfl, Nat.le_of_ble_eq_true rfl⟩ (Nat.le_of_ble_eq_true rfl) 11 dX9_needValue_11 dX9_needValue_14 dX9_needValue_15 dX9_needValue_18 dX9_needValue_21 hpf
  refine lv_iload_n hx hb dX9_needValue_0 rfl (lv_at hl 0 rfl) ?_
  refine b_if_lt hx hb 11 1 dX9_needValue_1 (by decide) hpf (fun hpf => ?_) (fun hpf => ?_)
  · refine W.widen (k := 0) (n := 0) (Nat.le_of_ble_eq_true rfl) (Nat.le_of_ble_eq_true rfl) ?_
    exact hC_11 g.2.2.1 g.2.2.2.1 g.2.2.2.2 Si _ hc X H locs I ls (lv_sub hl [] rfl) hpf
  refine lv_iload_n hx hb dX9_needValue_4 rfl (lv_at hl 0 rfl) ?_
  refine lv_sipush (v := (1000 : Int32)) hx hb dX9_needValue_5 (by decide) ?_
  refine b_icmp_lt hx hb 22 8 dX9_needValue_8 (by decide) hpf (fun hpf => ?_) (fun hpf => ?_)
  · exact x_retv X I hc hr ⟨Nat.le_of_ble_eq_true rfl, Nat.le_of_ble_eq_true rfl⟩ 22 dX9_needValue_22 hpf
  refine W.widen (k := 0) (n := 0) (Nat.le_of_ble_eq_true rfl) (Nat.le_of_ble_eq_true rfl) ?_
  exact hC_11 g.2.2.1 g.2.2.2.1 g.2.2.2.2 Si _ hc X H locs I ls (lv_sub hl [] rfl) hpf
-- ===== X9_needName =====
def pX9_needName_10 (N : Nat) (S : kS) : Option ((Unit ⊕ Nat) × kS) :=
    some (.inr 2, S)
def pX9_needName (N : Nat) (x0 : Int32) (S : kS) : Option ((Unit ⊕ Nat) × kS) :=
    if x0 < (0 : Int32) then (
      pX9_needName_10 N S)
    else (
      if x0 < (100 : Int32) then (
        some (.inl (), S))
      else (
        pX9_needName_10 N S))
set_option maxRecDepth 100000 in
set_option maxHeartbeats 4000000 in
theorem c_X9_needName (l : Launch) (hlt : l.stackTraces = false) (N : Nat) (x0 : Int32) : kMx l yX9_needName cX9_needName 1 none 6 1 6 (fun g => [.int x0]) rU (pX9_needName N x0) := by
  refine xStart hlt RX9 (by decide +kernel) rfl (fun g => [(0, .int x0)]) (fun _ => Nat.le_of_ble_eq_true rfl) (fun _ => rfl) ?_
  intro dC dI g sz Si o Sf hpf p e s m args below meth c X XX hr H locs I hc ls hl
  have hx := X.1
  have hb := X.2.1
  unfold pX9_needName at hpf
  have hC_10 : ∀ (cC cD : Nat → Nat) (cE : Nat) (S S0 : kS), kGc g cC cE Si S0 → kX p s m meth c cX9_needName 1 args RX9 dC dI (g.1, g.2.1, cC, cD, cE) (kAt g (kn Si) (km Si) (kp Si) sz) → ∀ (H : Heap) (locs : List Loc), kV dC dI (g.1, g.2.1, cC, cD, cE) (kAt g (kn Si) (km Si) (kp Si) sz) s S0 S H locs → ∀ ls : Array Slot, lv_has ls 1 [] → pX9_needName_10 N S = some (o, Sf) → W p l e (xRm 6 1 6) s m args below meth c H locs 0 0 (vx_MQ below (kQx dC dI g sz Si rU o Sf) (kXx dC dI g sz Si o Sf) args s 1 6 (kAt g (kn Si) (km Si) (kp Si) sz)) (F0 m 10 ls []) := by
    intro cC cD cE S S0 hc X H locs I ls hl hpf
    unfold pX9_needName_10 at hpf
    exact x_throwW 2 (Or.inr (Or.inl rfl)) X XX I hc (is := 402) (tx := "name is out of range") (List.mem_of_getElem? (i := 19) rfl) hl.1 ⟨Nat.le_of_ble_eq_true rfl, Nat.le_of_ble_eq_true rfl⟩ ⟨Nat.le_of_ble_eq_true rfl, Nat.le_of_ble_eq_true rfl⟩ ⟨Nat.le_of_ble_eq_true rfl, Nat.le_of_ble_eq_true rfl⟩ (Nat.le_of_ble_eq_true rfl) 10 dX9_needName_10 dX9_needName_13 dX9_needName_14 dX9_needName_17 dX9_needName_20 hpf
  refine lv_iload_n hx hb dX9_needName_0 rfl (lv_at hl 0 rfl) ?_
  refine b_if_lt hx hb 10 1 dX9_needName_1 (by decide) hpf (fun hpf => ?_) (fun hpf => ?_)
  · refine W.widen (k := 0) (n := 0) (Nat.le_of_ble_eq_true rfl) (Nat.le_of_ble_eq_true rfl) ?_
    exact hC_10 g.2.2.1 g.2.2.2.1 g.2.2.2.2 Si _ hc X H locs I ls (lv_sub hl [] rfl) hpf
  refine lv_iload_n hx hb dX9_needName_4 rfl (lv_at hl 0 rfl) ?_
  refine lv_bipush (v := (100 : Int32)) hx hb dX9_needName_5 (by decide) ?_
  refine b_icmp_lt hx hb 21 7 dX9_needName_7 (by decide) hpf (fun hpf => ?_) (fun hpf => ?_)
  · exact x_retv X I hc hr ⟨Nat.le_of_ble_eq_true rfl, Nat.le_of_ble_eq_true rfl⟩ 21 dX9_needName_21 hpf
  refine W.widen (k := 0) (n := 0) (Nat.le_of_ble_eq_true rfl) (Nat.le_of_ble_eq_true rfl) ?_
  exact hC_10 g.2.2.1 g.2.2.2.1 g.2.2.2.2 Si _ hc X H locs I ls (lv_sub hl [] rfl) hpf
-- ===== X9_need =====
def pX9_need (N : Nat) (x0 : Int32) (S : kS) : Option ((Unit ⊕ Nat) × kS) :=
    if x0 = (0 : Int32) then (
      some (.inr 3, S))
    else (
      some (.inl (), S))
set_option maxRecDepth 100000 in
set_option maxHeartbeats 4000000 in
theorem c_X9_need (l : Launch) (hlt : l.stackTraces = false) (N : Nat) (x0 : Int32) : kMx l yX9_need cX9_need 1 none 6 1 6 (fun g => [.int x0]) rU (pX9_need N x0) := by
  refine xStart hlt RX9 (by decide +kernel) rfl (fun g => [(0, .int x0)]) (fun _ => Nat.le_of_ble_eq_true rfl) (fun _ => rfl) ?_
  intro dC dI g sz Si o Sf hpf p e s m args below meth c X XX hr H locs I hc ls hl
  have hx := X.1
  have hb := X.2.1
  unfold pX9_need at hpf
  refine lv_iload_n hx hb dX9_need_0 rfl (lv_at hl 0 rfl) ?_
  refine b_if_ne hx hb 15 1 dX9_need_1 (by decide) hpf (fun hpf => ?_) (fun hpf => ?_)
  · exact x_retv X I hc hr ⟨Nat.le_of_ble_eq_true rfl, Nat.le_of_ble_eq_true rfl⟩ 15 dX9_need_15 hpf
  exact x_throwW 3 (Or.inr (Or.inr rfl)) X XX I hc (is := 404) (tx := "the operation is not taken") (List.mem_of_getElem? (i := 20) rfl) hl.1 ⟨Nat.le_of_ble_eq_true rfl, Nat.le_of_ble_eq_true rfl⟩ ⟨Nat.le_of_ble_eq_true rfl, Nat.le_of_ble_eq_true rfl⟩ ⟨Nat.le_of_ble_eq_true rfl, Nat.le_of_ble_eq_true rfl⟩ (Nat.le_of_ble_eq_true rfl) 4 dX9_need_4 dX9_need_7 dX9_need_8 dX9_need_11 dX9_need_14 hpf
-- ===== X9_needRoom =====
def pX9_needRoom (N : Nat) (S : kS) : Option ((Unit ⊕ Nat) × kS) :=
    bk (pLog_size N S) fun v102 S101 =>
    if v102 < (250 : Int32) then (
      some (.inl (), S101))
    else (
      some (.inr 3, S101))
set_option maxRecDepth 100000 in
set_option maxHeartbeats 4000000 in
theorem c_X9_needRoom (l : Launch) (hlt : l.stackTraces = false) (N : Nat) : kMx l yX9_needRoom cX9_needRoom 1 none 6 1 6 (fun g => [.ref (g.2.1 0)]) rU (pX9_needRoom N) := by
  refine xStart hlt RX9 (by decide +kernel) rfl (fun g => [(0, .ref (g.2.1 0))]) (fun _ => Nat.le_of_ble_eq_true rfl) (fun _ => rfl) ?_
  intro dC dI g sz Si o Sf hpf p e s m args below meth c X XX hr H locs I hc ls hl
  have hx := X.1
  have hb := X.2.1
  unfold pX9_needRoom at hpf
  refine lv_aload_n hx hb dX9_needRoom_0 rfl (lv_at hl 0 rfl) ?_
  refine k_get (k := 0) X I kCl_9 (kO_X (g.1, g.2.1, g.2.2.1, g.2.2.2.1, g.2.2.2.2) Si) 5 (by decide) rfl kC_417 1 dX9_needRoom_1 ?_
  refine k_callL (Rv := rI) (rest := []) (As := []) (d := 6) ⟨Nat.le_refl _, Nat.le_refl _⟩ X I fn_X9_Log_size rfl (c_Log_size l N) rfl (by decide) 4 dX9_needRoom_4 rfl hl.1 rfl (Nat.le_of_ble_eq_true rfl) ⟨Nat.le_of_ble_eq_true rfl, Nat.le_of_ble_eq_true rfl⟩ hpf (fun v102 S101 H locs I hm hpf => ?_)
  refine lv_sipush (v := (250 : Int32)) hx hb dX9_needRoom_7 (by decide) ?_
  refine b_icmp_lt hx hb 24 10 dX9_needRoom_10 (by decide) hpf (fun hpf => ?_) (fun hpf => ?_)
  · exact x_retv X I hc hr ⟨Nat.le_of_ble_eq_true rfl, Nat.le_of_ble_eq_true rfl⟩ 24 dX9_needRoom_24 hpf
  exact x_throwW 3 (Or.inr (Or.inr rfl)) X XX I hc (is := 406) (tx := "there are 250 changes") (List.mem_of_getElem? (i := 21) rfl) hl.1 ⟨Nat.le_of_ble_eq_true rfl, Nat.le_of_ble_eq_true rfl⟩ ⟨Nat.le_of_ble_eq_true rfl, Nat.le_of_ble_eq_true rfl⟩ ⟨Nat.le_of_ble_eq_true rfl, Nat.le_of_ble_eq_true rfl⟩ (Nat.le_of_ble_eq_true rfl) 13 dX9_needRoom_13 dX9_needRoom_16 dX9_needRoom_17 dX9_needRoom_20 dX9_needRoom_23 hpf
-- ===== X9_needWrite =====
def pX9_needWrite (N : Nat) (n0 : Nat) (x1 : Int32) (S : kS) : Option ((Unit ⊕ Nat) × kS) :=
    bk (pX8_grants N n0 (kI S (17 + 4 * n0)) x1 (1 : Int32) S) fun v101 S102 =>
    if v101 = (0 : Int32) then (
      some (.inr 3, S102))
    else (
      some (.inl (), S102))
set_option maxRecDepth 100000 in
set_option maxHeartbeats 4000000 in
theorem c_X9_needWrite (l : Launch) (hlt : l.stackTraces = false) (N : Nat) (n0 : Nat) (hn0 : n0 < 4) (x1 : Int32) : kMx l yX9_needWrite cX9_needWrite 2 none 6 1 6 (fun g => [.ref (g.2.1 (18 + 2 * n0)), .int x1]) rU (pX9_needWrite N n0 x1) := by
  refine xStart hlt RX9 (by decide +kernel) rfl (fun g => [(0, .ref (g.2.1 (18 + 2 * n0))), (1, .int x1)]) (fun _ => Nat.le_of_ble_eq_true rfl) (fun _ => rfl) ?_
  intro dC dI g sz Si o Sf hpf p e s m args below meth c X XX hr H locs I hc ls hl
  have hx := X.1
  have hb := X.2.1
  unfold pX9_needWrite at hpf
  refine lv_aload_n hx hb dX9_needWrite_0 rfl (lv_at hl 0 rfl) ?_
  refine k_get (k := 0) X I kCl_4 (kO_M (g.1, g.2.1, g.2.2.1, g.2.2.2.1, g.2.2.2.2) Si n0 hn0) 1 (by decide) rfl kC_499 1 dX9_needWrite_1 ?_
  refine lv_aload_n hx hb dX9_needWrite_4 rfl (lv_at hl 0 rfl) ?_
  refine k_get (k := 0) X I kCl_4 (kO_M (g.1, g.2.1, g.2.2.1, g.2.2.2.1, g.2.2.2.2) Si n0 hn0) 2 (by decide) rfl kC_477 5 dX9_needWrite_5 ?_
  refine lv_iload_n hx hb dX9_needWrite_8 rfl (lv_at hl 1 rfl) ?_
  refine lv_iconst (v := (1 : Int32)) hx hb dX9_needWrite_9 (by decide) ?_
  refine k_cIi (rest := []) (As := [.int (kI Si (17 + 4 * n0)), .int x1, .int (1 : Int32)]) (d := 6) ⟨Nat.le_refl _, Nat.le_refl _⟩ X I fn_X9_X8_grants kCl_8 rfl (kO_T (g.1, g.2.1, g.2.2.1, g.2.2.2.1, g.2.2.2.2) Si n0 (Nat.lt_succ_of_lt hn0)) (c_X8_grants l N n0 (Nat.lt_succ_of_lt hn0) (kI Si (17 + 4 * n0)) x1 (1 : Int32)) rfl (by decide) 10 dX9_needWrite_10 rfl hl.1 rfl (Nat.le_of_ble_eq_true rfl) ⟨Nat.le_of_ble_eq_true rfl, Nat.le_of_ble_eq_true rfl⟩ hpf (fun v101 S102 H locs I hm hpf => ?_)
  refine b_if_ne hx hb 27 13 dX9_needWrite_13 (by decide) hpf (fun hpf => ?_) (fun hpf => ?_)
  · exact x_retv X I hc hr ⟨Nat.le_of_ble_eq_true rfl, Nat.le_of_ble_eq_true rfl⟩ 27 dX9_needWrite_27 hpf
  exact x_throwW 3 (Or.inr (Or.inr rfl)) X XX I hc (is := 408) (tx := "the user may not write") (List.mem_of_getElem? (i := 22) rfl) hl.1 ⟨Nat.le_of_ble_eq_true rfl, Nat.le_of_ble_eq_true rfl⟩ ⟨Nat.le_of_ble_eq_true rfl, Nat.le_of_ble_eq_true rfl⟩ ⟨Nat.le_of_ble_eq_true rfl, Nat.le_of_ble_eq_true rfl⟩ (Nat.le_of_ble_eq_true rfl) 16 dX9_needWrite_16 dX9_needWrite_19 dX9_needWrite_20 dX9_needWrite_23 dX9_needWrite_26 hpf
-- ===== X9_needFreeName =====
def pX9_needFreeName (N : Nat) (n0 : Nat) (x1 : Int32) (x2 : Int32) (x3 : Int32) (S : kS) : Option ((Unit ⊕ Nat) × kS) :=
    bk (pX8_isShown N n0 x1 x2 x3 S) fun v101 S102 =>
    if v101 = (0 : Int32) then (
      some (.inl (), S102))
    else (
      some (.inr 3, S102))
set_option maxRecDepth 100000 in
set_option maxHeartbeats 4000000 in
theorem c_X9_needFreeName (l : Launch) (hlt : l.stackTraces = false) (N : Nat) (n0 : Nat) (hn0 : n0 < 4) (x1 : Int32) (x2 : Int32) (x3 : Int32) : kMx l yX9_needFreeName cX9_needFreeName 4 none 6 1 6 (fun g => [.ref (g.2.1 (18 + 2 * n0)), .int x1, .int x2, .int x3]) rU (pX9_needFreeName N n0 x1 x2 x3) := by
  refine xStart hlt RX9 (by decide +kernel) rfl (fun g => [(0, .ref (g.2.1 (18 + 2 * n0))), (1, .int x1), (2, .int x2), (3, .int x3)]) (fun _ => Nat.le_of_ble_eq_true rfl) (fun _ => rfl) ?_
  intro dC dI g sz Si o Sf hpf p e s m args below meth c X XX hr H locs I hc ls hl
  have hx := X.1
  have hb := X.2.1
  unfold pX9_needFreeName at hpf
  refine lv_aload_n hx hb dX9_needFreeName_0 rfl (lv_at hl 0 rfl) ?_
  refine k_get (k := 0) X I kCl_4 (kO_M (g.1, g.2.1, g.2.2.1, g.2.2.2.1, g.2.2.2.2) Si n0 hn0) 1 (by decide) rfl kC_499 1 dX9_needFreeName_1 ?_
  refine lv_iload_n hx hb dX9_needFreeName_4 rfl (lv_at hl 1 rfl) ?_
  refine lv_iload_n hx hb dX9_needFreeName_5 rfl (lv_at hl 2 rfl) ?_
  refine lv_iload_n hx hb dX9_needFreeName_6 rfl (lv_at hl 3 rfl) ?_
  refine k_cIi (rest := []) (As := [.int x1, .int x2, .int x3]) (d := 6) ⟨Nat.le_refl _, Nat.le_refl _⟩ X I fn_X9_X8_isShown kCl_8 rfl (kO_T (g.1, g.2.1, g.2.2.1, g.2.2.2.1, g.2.2.2.2) Si n0 (Nat.lt_succ_of_lt hn0)) (c_X8_isShown l N n0 (Nat.lt_succ_of_lt hn0) x1 x2 x3) rfl (by decide) 7 dX9_needFreeName_7 rfl hl.1 rfl (Nat.le_of_ble_eq_true rfl) ⟨Nat.le_of_ble_eq_true rfl, Nat.le_of_ble_eq_true rfl⟩ hpf (fun v101 S102 H locs I hm hpf => ?_)
  refine b_if_eq hx hb 24 10 dX9_needFreeName_10 (by decide) hpf (fun hpf => ?_) (fun hpf => ?_)
  · exact x_retv X I hc hr ⟨Nat.le_of_ble_eq_true rfl, Nat.le_of_ble_eq_true rfl⟩ 24 dX9_needFreeName_24 hpf
  exact x_throwW 3 (Or.inr (Or.inr rfl)) X XX I hc (is := 413) (tx := "a sibling is shown with the name") (List.mem_of_getElem? (i := 23) rfl) hl.1 ⟨Nat.le_of_ble_eq_true rfl, Nat.le_of_ble_eq_true rfl⟩ ⟨Nat.le_of_ble_eq_true rfl, Nat.le_of_ble_eq_true rfl⟩ ⟨Nat.le_of_ble_eq_true rfl, Nat.le_of_ble_eq_true rfl⟩ (Nat.le_of_ble_eq_true rfl) 13 dX9_needFreeName_13 dX9_needFreeName_16 dX9_needFreeName_17 dX9_needFreeName_20 dX9_needFreeName_23 hpf
-- ===== X9_needRoomForFilter =====
def pX9_needRoomForFilter_24 (N : Nat) (S : kS) : Option ((Unit ⊕ Nat) × kS) :=
    some (.inr 3, S)
def pX9_needRoomForFilter (N : Nat) (S : kS) : Option ((Unit ⊕ Nat) × kS) :=
    if (8 : Int32) ≤ (kI S 7) then (
      pX9_needRoomForFilter_24 N S)
    else (
      if (kI S 6) < (15 : Int32) then (
        some (.inl (), S))
      else (
        pX9_needRoomForFilter_24 N S))
set_option maxRecDepth 100000 in
set_option maxHeartbeats 4000000 in
theorem c_X9_needRoomForFilter (l : Launch) (hlt : l.stackTraces = false) (N : Nat) : kMx l yX9_needRoomForFilter cX9_needRoomForFilter 1 none 6 1 6 (fun g => [.ref (g.2.1 0)]) rU (pX9_needRoomForFilter N) := by
  refine xStart hlt RX9 (by decide +kernel) rfl (fun g => [(0, .ref (g.2.1 0))]) (fun _ => Nat.le_of_ble_eq_true rfl) (fun _ => rfl) ?_
  intro dC dI g sz Si o Sf hpf p e s m args below meth c X XX hr H locs I hc ls hl
  have hx := X.1
  have hb := X.2.1
  unfold pX9_needRoomForFilter at hpf
  have hC_24 : ∀ (cC cD : Nat → Nat) (cE : Nat) (S S0 : kS), kGc g cC cE Si S0 → kX p s m meth c cX9_needRoomForFilter 1 args RX9 dC dI (g.1, g.2.1, cC, cD, cE) (kAt g (kn Si) (km Si) (kp Si) sz) → ∀ (H : Heap) (locs : List Loc), kV dC dI (g.1, g.2.1, cC, cD, cE) (kAt g (kn Si) (km Si) (kp Si) sz) s S0 S H locs → ∀ ls : Array Slot, lv_has ls 1 [(0, .ref (g.2.1 0))] → pX9_needRoomForFilter_24 N S = some (o, Sf) → W p l e (xRm 6 1 6) s m args below meth c H locs 0 0 (vx_MQ below (kQx dC dI g sz Si rU o Sf) (kXx dC dI g sz Si o Sf) args s 1 6 (kAt g (kn Si) (km Si) (kp Si) sz)) (F0 m 24 ls []) := by
    intro cC cD cE S S0 hc X H locs I ls hl hpf
    unfold pX9_needRoomForFilter_24 at hpf
    exact x_throwW 3 (Or.inr (Or.inr rfl)) X XX I hc (is := 415) (tx := "8 filters, or 15 parts") (List.mem_of_getElem? (i := 24) rfl) hl.1 ⟨Nat.le_of_ble_eq_true rfl, Nat.le_of_ble_eq_true rfl⟩ ⟨Nat.le_of_ble_eq_true rfl, Nat.le_of_ble_eq_true rfl⟩ ⟨Nat.le_of_ble_eq_true rfl, Nat.le_of_ble_eq_true rfl⟩ (Nat.le_of_ble_eq_true rfl) 24 dX9_needRoomForFilter_24 dX9_needRoomForFilter_27 dX9_needRoomForFilter_28 dX9_needRoomForFilter_31 dX9_needRoomForFilter_34 hpf
  refine lv_aload_n hx hb dX9_needRoomForFilter_0 rfl (lv_at hl 0 rfl) ?_
  refine k_get (k := 0) X I kCl_9 (kO_X (g.1, g.2.1, g.2.2.1, g.2.2.2.1, g.2.2.2.2) Si) 2 (by decide) rfl kC_408 1 dX9_needRoomForFilter_1 ?_
  refine k_get (k := 0) X I kCl_2 (kO_P (g.1, g.2.1, g.2.2.1, g.2.2.2.1, g.2.2.2.2) Si) 6 (by decide) rfl kC_680 4 dX9_needRoomForFilter_4 ?_
  refine lv_bipush (v := (8 : Int32)) hx hb dX9_needRoomForFilter_7 (by decide) ?_
  refine b_icmp_ge hx hb 24 9 dX9_needRoomForFilter_9 (by decide) hpf (fun hpf => ?_) (fun hpf => ?_)
  · refine W.widen (k := 0) (n := 0) (Nat.le_of_ble_eq_true rfl) (Nat.le_of_ble_eq_true rfl) ?_
    exact hC_24 g.2.2.1 g.2.2.2.1 g.2.2.2.2 Si _ hc X H locs I ls (lv_sub hl [0] rfl) hpf
  refine lv_aload_n hx hb dX9_needRoomForFilter_12 rfl (lv_at hl 0 rfl) ?_
  refine k_get (k := 0) X I kCl_9 (kO_X (g.1, g.2.1, g.2.2.1, g.2.2.2.1, g.2.2.2.2) Si) 2 (by decide) rfl kC_408 13 dX9_needRoomForFilter_13 ?_
  refine k_get (k := 0) X I kCl_2 (kO_P (g.1, g.2.1, g.2.2.1, g.2.2.2.1, g.2.2.2.2) Si) 5 (by decide) rfl kC_681 16 dX9_needRoomForFilter_16 ?_
  refine lv_bipush (v := (15 : Int32)) hx hb dX9_needRoomForFilter_19 (by decide) ?_
  refine b_icmp_lt hx hb 35 21 dX9_needRoomForFilter_21 (by decide) hpf (fun hpf => ?_) (fun hpf => ?_)
  · exact x_retv X I hc hr ⟨Nat.le_of_ble_eq_true rfl, Nat.le_of_ble_eq_true rfl⟩ 35 dX9_needRoomForFilter_35 hpf
  refine W.widen (k := 0) (n := 0) (Nat.le_of_ble_eq_true rfl) (Nat.le_of_ble_eq_true rfl) ?_
  exact hC_24 g.2.2.1 g.2.2.2.1 g.2.2.2.2 Si _ hc X H locs I ls (lv_sub hl [0] rfl) hpf
-- ===== X9_needSearch =====
def pX9_needSearch (N : Nat) (x1 : Int32) (x2 : Int32) (x3 : Int32) (S : kS) : Option ((Unit ⊕ Nat) × kS) :=
    bx (pX9_masterAt N x1 S) fun v101 S102 =>
    gn v101 4 <|
    bx (pX9_needEntry N v101 x2 S102) fun v104 S105 =>
    bx (pX9_needScope N x3 S105) fun v107 S108 =>
    if (kI S108 7) = (1 : Int32) then (
      some (.inl (), S108))
    else (
      some (.inr 3, S108))
set_option maxRecDepth 100000 in
set_option maxHeartbeats 4000000 in
theorem c_X9_needSearch (l : Launch) (hlt : l.stackTraces = false) (N : Nat) (x1 : Int32) (x2 : Int32) (x3 : Int32) : kMx l yX9_needSearch cX9_needSearch 4 none 7 4 24 (fun g => [.ref (g.2.1 0), .int x1, .int x2, .int x3]) rU (pX9_needSearch N x1 x2 x3) := by
  refine xStart hlt RX9 (by decide +kernel) rfl (fun g => [(0, .ref (g.2.1 0)), (1, .int x1), (2, .int x2), (3, .int x3)]) (fun _ => Nat.le_of_ble_eq_true rfl) (fun _ => rfl) ?_
  intro dC dI g sz Si o Sf hpf p e s m args below meth c X XX hr H locs I hc ls hl
  have hx := X.1
  have hb := X.2.1
  unfold pX9_needSearch at hpf
  refine lv_aload_n hx hb dX9_needSearch_0 rfl (lv_at hl 0 rfl) ?_
  refine lv_iload_n hx hb dX9_needSearch_1 rfl (lv_at hl 1 rfl) ?_
  refine x_cIm (rest := []) (As := [.int x1]) (d := 7) ⟨Nat.le_refl _, Nat.le_refl _⟩ X XX I hc fn_X9_X9_masterAt kCl_9 rfl (kO_X (g.1, g.2.1, g.2.2.1, g.2.2.2.1, g.2.2.2.2) Si) (c_X9_masterAt l hlt N x1) rfl (by decide) 2 dX9_needSearch_2 rfl hl.1 rfl (Nat.le_of_ble_eq_true rfl) ⟨Nat.le_of_ble_eq_true rfl, Nat.le_of_ble_eq_true rfl⟩ ⟨Nat.le_of_ble_eq_true rfl, Nat.le_of_ble_eq_true rfl⟩ hpf (fun v101 S102 cca103 cda103 cea103 H locs I hc hg hpf => ?_)
  have X := kX_to X cca103 cda103 cea103
  obtain ⟨hv101, hpf⟩ := gn_some hpf
  refine lv_iload_n hx hb dX9_needSearch_5 rfl (lv_at hl 2 rfl) ?_
  refine x_cSv (rest := []) (As := [.ref (g.2.1 (18 + 2 * v101)), .int x2]) (d := 7) ⟨Nat.le_refl _, Nat.le_refl _⟩ X XX I hc fn_X9_X9_needEntry (c_X9_needEntry l hlt N v101 hv101 x2) rfl (by decide) 6 dX9_needSearch_6 rfl hl.1 rfl (Nat.le_of_ble_eq_true rfl) ⟨Nat.le_of_ble_eq_true rfl, Nat.le_of_ble_eq_true rfl⟩ ⟨Nat.le_of_ble_eq_true rfl, Nat.le_of_ble_eq_true rfl⟩ hpf (fun v104 S105 cca106 cda106 cea106 H locs I hc hg hpf => ?_)
  have X := kX_to X cca106 cda106 cea106
  refine lv_iload_n hx hb dX9_needSearch_9 rfl (lv_at hl 3 rfl) ?_
  refine x_cSv (rest := []) (As := [.int x3]) (d := 7) ⟨Nat.le_refl _, Nat.le_refl _⟩ X XX I hc fn_X9_X9_needScope (c_X9_needScope l hlt N x3) rfl (by decide) 10 dX9_needSearch_10 rfl hl.1 rfl (Nat.le_of_ble_eq_true rfl) ⟨Nat.le_of_ble_eq_true rfl, Nat.le_of_ble_eq_true rfl⟩ ⟨Nat.le_of_ble_eq_true rfl, Nat.le_of_ble_eq_true rfl⟩ hpf (fun v107 S108 cca109 cda109 cea109 H locs I hc hg hpf => ?_)
  have X := kX_to X cca109 cda109 cea109
  refine lv_aload_n hx hb dX9_needSearch_13 rfl (lv_at hl 0 rfl) ?_
  refine k_get (k := 0) X I kCl_9 (kO_X (g.1, g.2.1, cca109, cda109, cea109) S108) 2 (by decide) rfl kC_408 14 dX9_needSearch_14 ?_
  refine k_get (k := 0) X I kCl_2 (kO_P (g.1, g.2.1, cca109, cda109, cea109) S108) 6 (by decide) rfl kC_680 17 dX9_needSearch_17 ?_
  refine lv_iconst (v := (1 : Int32)) hx hb dX9_needSearch_20 (by decide) ?_
  refine b_icmp_eq hx hb 35 21 dX9_needSearch_21 (by decide) hpf (fun hpf => ?_) (fun hpf => ?_)
  · exact x_retv X I hc hr ⟨Nat.le_of_ble_eq_true rfl, Nat.le_of_ble_eq_true rfl⟩ 35 dX9_needSearch_35 hpf
  exact x_throwW 3 (Or.inr (Or.inr rfl)) X XX I hc (is := 417) (tx := "not just one filter") (List.mem_of_getElem? (i := 25) rfl) hl.1 ⟨Nat.le_of_ble_eq_true rfl, Nat.le_of_ble_eq_true rfl⟩ ⟨Nat.le_of_ble_eq_true rfl, Nat.le_of_ble_eq_true rfl⟩ ⟨Nat.le_of_ble_eq_true rfl, Nat.le_of_ble_eq_true rfl⟩ (Nat.le_of_ble_eq_true rfl) 24 dX9_needSearch_24 dX9_needSearch_27 dX9_needSearch_28 dX9_needSearch_31 dX9_needSearch_34 hpf
