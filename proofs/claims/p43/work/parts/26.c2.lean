theorem fn_X5_X5_indexOf : kFnI RX5 yX5_indexOf cX5_indexOf 4 (some .int) 1 25 := ⟨⟨kC_106, kC_109, kC_102, ⟨by decide +kernel, by decide +kernel, by decide +kernel⟩, by decide⟩, kC_107, kC_108⟩
theorem fn_X5_X5_at : kFnI RX5 yX5_at cX5_at 2 (some .int) 1 29 := ⟨⟨kC_239, kC_109, kC_126, ⟨by decide +kernel, by decide +kernel, by decide +kernel⟩, by decide⟩, kC_135, kC_136⟩
theorem fn_X6_J7_fill_d0a16 : kFnS RX6 yJ7_fill_d0a16 cJ7_fill_d0a16 5 none 2 18 := ⟨⟨kC_314, kC_22, kC_261, ⟨by decide +kernel, by decide +kernel, by decide +kernel⟩, by decide⟩, kC_260⟩
theorem fn_X6_X6_bitOf : kFnS RX6 yX6_bitOf cX6_bitOf 1 (some .long) 1 24 := ⟨⟨kC_317, kC_181, kC_315, ⟨by decide +kernel, by decide +kernel, by decide +kernel⟩, by decide⟩, kC_318⟩
theorem fn_X6_X6_slot : kFnS RX6 yX6_slot cX6_slot 3 (some .int) 3 30 := ⟨⟨kC_179, kC_181, kC_173, ⟨by decide +kernel, by decide +kernel, by decide +kernel⟩, by decide⟩, kC_180⟩
theorem fn_X6_X6_decideFor : kFnS RX6 yX6_decideFor cX6_decideFor 6 (some .int) 3 34 := ⟨⟨kC_182, kC_181, kC_174, ⟨by decide +kernel, by decide +kernel, by decide +kernel⟩, by decide⟩, kC_183⟩
-- ===== X5_clear =====
def pX5_clear (N : Nat) (n0 : Nat) (q0 : Nat) (S : kS) : Option (Unit × kS) :=
    svk (sI S (40 + 3 * n0 + q0) (0 : Int32)) fun S101 =>
    some ((), S101)
set_option maxRecDepth 100000 in
set_option maxHeartbeats 4000000 in
theorem c_X5_clear (l : Launch) (N : Nat) (n0 : Nat) (q0 : Nat) (hn0 : n0 < 5) (hq0 : q0 < 3) : kMet l yX5_clear cX5_clear 1 none 0 (fun g => [.ref (g.2.1 (26 + 15 * n0 + 9 + 2 * q0))]) rU (pX5_clear N n0 q0) := by
  refine kStart RX5 (by decide +kernel) rfl (fun g => [(0, .ref (g.2.1 (26 + 15 * n0 + 9 + 2 * q0)))]) (fun _ => Nat.le_of_ble_eq_true rfl) (fun _ => rfl) ?_
  intro dC dI g sz Si r Sf hpf p e s m args below meth c X hr H locs I ls hl
  have hx := X.1
  have hb := X.2.1
  unfold pX5_clear at hpf
  refine lv_aload_n hx hb dX5_clear_0 rfl (lv_at hl 0 rfl) ?_
  refine lv_iconst (v := (0 : Int32)) hx hb dX5_clear_1 (by decide) ?_
  refine k_put (ty := .int) X I kCl_5 tyX5_ok nmX5 (kO_N g Si n0 q0 hn0 hq0) 1 (by decide) (Nat.le_of_ble_eq_true rfl) (kP_N1 n0 q0 hn0 hq0 g Si _) ⟨rfl, rfl, rfl⟩ kC_103 rfl (by decide +kernel) rfl rfl 2 dX5_clear_2 hpf (fun S101 H locs I hm hpf => ?_)
  exact k_retv X I hr 5 dX5_clear_5 hpf
-- ===== X5_indexOf =====
def pX5_indexOf_38 (N : Nat) (n0 : Nat) (q0 : Nat) (k_6 : Int32 → Int32 → Int32 → kS → Option (Int32 × kS)) (x1 : Int32) (x2 : Int32) (x3 : Int32) (S : kS) : Option (Int32 × kS) :=
    nm (x3 / (2 : Int32)) fun y101 =>
    k_6 x1 x2 y101 S
def pX5_indexOf_6 (N : Nat) (n0 : Nat) (q0 : Nat) : Nat → Int32 → Int32 → Int32 → kS → Option (Int32 × kS)
  | 0 => fun _ _ _ _ => none
  | n_6 + 1 => fun x1 x2 x3 S =>
    if x3 ≤ (0 : Int32) then (
      some (x2, S))
    else (
      if (kI S (40 + 3 * n0 + q0)) < (x2 + x3) then (
        pX5_indexOf_38 N n0 q0 (pX5_indexOf_6 N n0 q0 n_6) x1 x2 x3 S)
      else (
        gd ((x2 + x3) - (1 : Int32)) (kNl q0) <|
        if x1 ≤ (kA S (26 + 15 * n0 + 10 + 2 * q0) ((x2 + x3) - (1 : Int32)).toNatClampNeg) then (
          pX5_indexOf_38 N n0 q0 (pX5_indexOf_6 N n0 q0 n_6) x1 x2 x3 S)
        else (
          nm (x2 + x3) fun y101 =>
          pX5_indexOf_38 N n0 q0 (pX5_indexOf_6 N n0 q0 n_6) x1 y101 x3 S)))
def pX5_indexOf (N : Nat) (n0 : Nat) (q0 : Nat) (x1 : Int32) (S : kS) : Option (Int32 × kS) :=
    pX5_indexOf_6 N n0 q0 N x1 (0 : Int32) (512 : Int32) S
set_option maxRecDepth 100000 in
set_option maxHeartbeats 4000000 in
theorem c_X5_indexOf (l : Launch) (N : Nat) (n0 : Nat) (q0 : Nat) (hn0 : n0 < 5) (hq0 : q0 < 3) (x1 : Int32) : kMet l yX5_indexOf cX5_indexOf 4 (some .int) 0 (fun g => [.ref (g.2.1 (26 + 15 * n0 + 9 + 2 * q0)), .int x1]) rI (pX5_indexOf N n0 q0 x1) := by
  refine kStart RX5 (by decide +kernel) rfl (fun g => [(0, .ref (g.2.1 (26 + 15 * n0 + 9 + 2 * q0))), (1, .int x1)]) (fun _ => Nat.le_of_ble_eq_true rfl) (fun _ => rfl) ?_
  intro dC dI g sz Si r Sf hpf p e s m args below meth c X hr H locs I ls hl
  have hx := X.1
  have hb := X.2.1
  unfold pX5_indexOf at hpf
  have hC_6 : ∀ (n_6 : Nat), ∀ (x1 : Int32) (x2 : Int32) (x3 : Int32) (S : kS) (H : Heap) (locs : List Loc), kV dC dI g (kAt g (kn Si) (km Si) (kp Si) sz) s Si S H locs → ∀ ls : Array Slot, lv_has ls 4 [(0, .ref (g.2.1 (26 + 15 * n0 + 9 + 2 * q0))), (1, .int x1), (2, .int x2), (3, .int x3)] → pX5_indexOf_6 N n0 q0 n_6 x1 x2 x3 S = some (r, Sf) → W p l e (mRm 0) s m args below meth c H locs 0 0 (MQ below (kQ dC dI g sz Si (rI g r) Sf) args s 0 0 (kAt g (kn Si) (km Si) (kp Si) sz)) (F0 m 6 ls []) := by
    intro n_6
    induction n_6 with
    | zero =>
      intro x1 x2 x3 S H locs I ls hl hpf
      rw [pX5_indexOf_6] at hpf
      cases hpf
    | succ n_6 ih_6 =>
      have hC_38 : ∀ (x1 : Int32) (x2 : Int32) (x3 : Int32) (S : kS) (H : Heap) (locs : List Loc), kV dC dI g (kAt g (kn Si) (km Si) (kp Si) sz) s Si S H locs → ∀ ls : Array Slot, lv_has ls 4 [(0, .ref (g.2.1 (26 + 15 * n0 + 9 + 2 * q0))), (1, .int x1), (2, .int x2), (3, .int x3)] → pX5_indexOf_38 N n0 q0 (pX5_indexOf_6 N n0 q0 n_6) x1 x2 x3 S = some (r, Sf) → W p l e (mRm 0) s m args below meth c H locs 0 0 (MQ below (kQ dC dI g sz Si (rI g r) Sf) args s 0 0 (kAt g (kn Si) (km Si) (kp Si) sz)) (F0 m 38 ls []) := by
        intro x1 x2 x3 S H locs I ls hl hpf
        unfold pX5_indexOf_38 at hpf
        refine lv_iload_n hx hb dX5_indexOf_38 rfl (lv_at hl 3 rfl) ?_
        refine lv_iconst (v := (2 : Int32)) hx hb dX5_indexOf_39 (by decide) ?_
        refine lv_idiv hx hb dX5_indexOf_40 (by decide) ?_
        refine m_isto_n hx hb (fun y101 => [(3, .int y101), (0, .ref (g.2.1 (26 + 15 * n0 + 9 + 2 * q0))), (1, .int x1), (2, .int x2)]) 41 dX5_indexOf_41 rfl hl (by decide) (fun _ => rfl) hpf (fun y101 ls hl hpf => ?_)
        refine lv_goto (tgt := 6) hx hb dX5_indexOf_42 (by decide) ?_
        exact ih_6 x1 x2 y101 S H locs I ls (lv_sub hl [1, 2, 3, 0] rfl) hpf
      intro x1 x2 x3 S H locs I ls hl hpf
      rw [pX5_indexOf_6] at hpf
      refine lv_iload_n hx hb dX5_indexOf_6 rfl (lv_at hl 3 rfl) ?_
      refine b_if_le hx hb 45 7 dX5_indexOf_7 (by decide) hpf (fun hpf => ?_) (fun hpf => ?_)
      · refine lv_iload_n hx hb dX5_indexOf_45 rfl (lv_at hl 2 rfl) ?_
        exact k_reti X I hr 46 dX5_indexOf_46 hpf
      refine lv_iload_n hx hb dX5_indexOf_10 rfl (lv_at hl 2 rfl) ?_
      refine lv_iload_n hx hb dX5_indexOf_11 rfl (lv_at hl 3 rfl) ?_
      refine lv_iadd hx hb dX5_indexOf_12 ?_
      refine lv_aload_n hx hb dX5_indexOf_13 rfl (lv_at hl 0 rfl) ?_
      refine k_get (k := 0) X I kCl_5 (kO_N g S n0 q0 hn0 hq0) 1 (by decide) rfl kC_103 14 dX5_indexOf_14 ?_
      refine b_icmp_gt hx hb 38 17 dX5_indexOf_17 (by decide) hpf (fun hpf => ?_) (fun hpf => ?_)
      · exact hC_38 x1 x2 x3 S H locs I ls (lv_sub hl [0, 1, 2, 3] rfl) hpf
      refine lv_aload_n hx hb dX5_indexOf_20 rfl (lv_at hl 0 rfl) ?_
      refine k_get (k := 0) X I kCl_5 (kO_N g S n0 q0 hn0 hq0) 0 (by decide) rfl kC_104 21 dX5_indexOf_21 ?_
      refine lv_iload_n hx hb dX5_indexOf_24 rfl (lv_at hl 2 rfl) ?_
      refine lv_iload_n hx hb dX5_indexOf_25 rfl (lv_at hl 3 rfl) ?_
      refine lv_iadd hx hb dX5_indexOf_26 ?_
      refine lv_iconst (v := (1 : Int32)) hx hb dX5_indexOf_27 (by decide) ?_
      refine lv_isub hx hb dX5_indexOf_28 ?_
      refine k_iald X I (kR_N n0 q0 hn0 hq0) 29 dX5_indexOf_29 hpf (fun hpf => ?_)
      refine lv_iload_n hx hb dX5_indexOf_30 rfl (lv_at hl 1 rfl) ?_
      refine b_icmp_ge hx hb 38 31 dX5_indexOf_31 (by decide) hpf (fun hpf => ?_) (fun hpf => ?_)
      · exact hC_38 x1 x2 x3 S H locs I ls (lv_sub hl [0, 1, 2, 3] rfl) hpf
      refine lv_iload_n hx hb dX5_indexOf_34 rfl (lv_at hl 2 rfl) ?_
      refine lv_iload_n hx hb dX5_indexOf_35 rfl (lv_at hl 3 rfl) ?_
      refine lv_iadd hx hb dX5_indexOf_36 ?_
      refine m_isto_n hx hb (fun y101 => [(2, .int y101), (0, .ref (g.2.1 (26 + 15 * n0 + 9 + 2 * q0))), (1, .int x1), (3, .int x3)]) 37 dX5_indexOf_37 rfl hl (by decide) (fun _ => rfl) hpf (fun y101 ls hl hpf => ?_)
      exact hC_38 x1 y101 x3 S H locs I ls (lv_sub hl [1, 2, 0, 3] rfl) hpf
  refine lv_iconst (v := (0 : Int32)) hx hb dX5_indexOf_0 (by decide) ?_
  refine lv_istore_n (lv' := [(2, .int (0 : Int32)), (0, .ref (g.2.1 (26 + 15 * n0 + 9 + 2 * q0))), (1, .int x1)]) hx hb dX5_indexOf_1 rfl hl (by decide) rfl (fun ls hl => ?_)
  refine lv_sipush (v := (512 : Int32)) hx hb dX5_indexOf_2 (by decide) ?_
  refine lv_istore_n (lv' := [(3, .int (512 : Int32)), (2, .int (0 : Int32)), (0, .ref (g.2.1 (26 + 15 * n0 + 9 + 2 * q0))), (1, .int x1)]) hx hb dX5_indexOf_5 rfl hl (by decide) rfl (fun ls hl => ?_)
  exact hC_6 N x1 (0 : Int32) (512 : Int32) Si H locs I ls (lv_sub hl [2, 3, 1, 0] rfl) hpf
-- ===== X5_countBetween =====
def pX5_countBetween (N : Nat) (n0 : Nat) (q0 : Nat) (x1 : Int32) (x2 : Int32) (S : kS) : Option (Int32 × kS) :=
    bk (pX5_indexOf N n0 q0 (x2 + (1 : Int32)) S) fun v101 S102 =>
    bk (pX5_indexOf N n0 q0 x1 S102) fun v103 S104 =>
    some (v101 - v103, S104)
set_option maxRecDepth 100000 in
set_option maxHeartbeats 4000000 in
theorem c_X5_countBetween (l : Launch) (N : Nat) (n0 : Nat) (q0 : Nat) (hn0 : n0 < 5) (hq0 : q0 < 3) (x1 : Int32) (x2 : Int32) : kMet l yX5_countBetween cX5_countBetween 3 (some .int) 1 (fun g => [.ref (g.2.1 (26 + 15 * n0 + 9 + 2 * q0)), .int x1, .int x2]) rI (pX5_countBetween N n0 q0 x1 x2) := by
  refine kStart RX5 (by decide +kernel) rfl (fun g => [(0, .ref (g.2.1 (26 + 15 * n0 + 9 + 2 * q0))), (1, .int x1), (2, .int x2)]) (fun _ => Nat.le_of_ble_eq_true rfl) (fun _ => rfl) ?_
  intro dC dI g sz Si r Sf hpf p e s m args below meth c X hr H locs I ls hl
  have hx := X.1
  have hb := X.2.1
  unfold pX5_countBetween at hpf
  refine lv_aload_n hx hb dX5_countBetween_0 rfl (lv_at hl 0 rfl) ?_
  refine lv_iload_n hx hb dX5_countBetween_1 rfl (lv_at hl 2 rfl) ?_
  refine lv_iconst (v := (1 : Int32)) hx hb dX5_countBetween_2 (by decide) ?_
  refine lv_iadd hx hb dX5_countBetween_3 ?_
  refine k_cIi (rest := []) (As := [.int (x2 + (1 : Int32))]) (d := 1) ⟨Nat.le_refl _, Nat.le_refl _⟩ X I fn_X5_X5_indexOf kCl_5 rfl (kO_N g Si n0 q0 hn0 hq0) (c_X5_indexOf l N n0 q0 hn0 hq0 (x2 + (1 : Int32))) rfl (by decide) 4 dX5_countBetween_4 rfl hl.1 rfl (Nat.le_of_ble_eq_true rfl) ⟨Nat.le_of_ble_eq_true rfl, Nat.le_of_ble_eq_true rfl⟩ hpf (fun v101 S102 H locs I hm hpf => ?_)
  refine lv_aload_n hx hb dX5_countBetween_7 rfl (lv_at hl 0 rfl) ?_
  refine lv_iload_n hx hb dX5_countBetween_8 rfl (lv_at hl 1 rfl) ?_
  refine k_cIi (rest := [.int v101]) (As := [.int x1]) (d := 1) ⟨Nat.le_refl _, Nat.le_refl _⟩ X I fn_X5_X5_indexOf kCl_5 rfl (kO_N g S102 n0 q0 hn0 hq0) (c_X5_indexOf l N n0 q0 hn0 hq0 x1) rfl (by decide) 9 dX5_countBetween_9 rfl hl.1 rfl (Nat.le_of_ble_eq_true rfl) ⟨Nat.le_of_ble_eq_true rfl, Nat.le_of_ble_eq_true rfl⟩ hpf (fun v103 S104 H locs I hm hpf => ?_)
  refine lv_isub hx hb dX5_countBetween_12 ?_
  exact k_reti X I hr 13 dX5_countBetween_13 hpf
-- ===== X5_at =====
def pX5_at (N : Nat) (n0 : Nat) (q0 : Nat) (x1 : Int32) (S : kS) : Option (Int32 × kS) :=
    if x1 < (0 : Int32) then (
      some ((-1 : Int32), S))
    else (
      if (kI S (40 + 3 * n0 + q0)) ≤ x1 then (
        some ((-1 : Int32), S))
      else (
        gd x1 (kNl q0) <|
        some (kA S (26 + 15 * n0 + 10 + 2 * q0) x1.toNatClampNeg, S)))
set_option maxRecDepth 100000 in
set_option maxHeartbeats 4000000 in
theorem c_X5_at (l : Launch) (N : Nat) (n0 : Nat) (q0 : Nat) (hn0 : n0 < 5) (hq0 : q0 < 3) (x1 : Int32) : kMet l yX5_at cX5_at 2 (some .int) 0 (fun g => [.ref (g.2.1 (26 + 15 * n0 + 9 + 2 * q0)), .int x1]) rI (pX5_at N n0 q0 x1) := by
  refine kStart RX5 (by decide +kernel) rfl (fun g => [(0, .ref (g.2.1 (26 + 15 * n0 + 9 + 2 * q0))), (1, .int x1)]) (fun _ => Nat.le_of_ble_eq_true rfl) (fun _ => rfl) ?_
  intro dC dI g sz Si r Sf hpf p e s m args below meth c X hr H locs I ls hl
  have hx := X.1
  have hb := X.2.1
  unfold pX5_at at hpf
  refine lv_iload_n hx hb dX5_at_0 rfl (lv_at hl 1 rfl) ?_
  refine b_if_lt hx hb 21 1 dX5_at_1 (by decide) hpf (fun hpf => ?_) (fun hpf => ?_)
  · refine lv_iconst (v := (-1 : Int32)) hx hb dX5_at_21 (by decide) ?_
    exact k_reti X I hr 22 dX5_at_22 hpf
  refine lv_iload_n hx hb dX5_at_4 rfl (lv_at hl 1 rfl) ?_
  refine lv_aload_n hx hb dX5_at_5 rfl (lv_at hl 0 rfl) ?_
  refine k_get (k := 0) X I kCl_5 (kO_N g Si n0 q0 hn0 hq0) 1 (by decide) rfl kC_103 6 dX5_at_6 ?_
  refine b_icmp_ge hx hb 21 9 dX5_at_9 (by decide) hpf (fun hpf => ?_) (fun hpf => ?_)
  · refine lv_iconst (v := (-1 : Int32)) hx hb dX5_at_21 (by decide) ?_
    exact k_reti X I hr 22 dX5_at_22 hpf
  refine lv_aload_n hx hb dX5_at_12 rfl (lv_at hl 0 rfl) ?_
  refine k_get (k := 0) X I kCl_5 (kO_N g Si n0 q0 hn0 hq0) 0 (by decide) rfl kC_104 13 dX5_at_13 ?_
  refine lv_iload_n hx hb dX5_at_16 rfl (lv_at hl 1 rfl) ?_
  refine k_iald X I (kR_N n0 q0 hn0 hq0) 17 dX5_at_17 hpf (fun hpf => ?_)
  refine lv_goto (tgt := 22) hx hb dX5_at_18 (by decide) ?_
  exact k_reti X I hr 22 dX5_at_22 hpf
-- ===== X5_put =====
def pX5_put (N : Nat) (n0 : Nat) (q0 : Nat) (x1 : Int32) (S : kS) : Option (Unit × kS) :=
    bk (pX5_indexOf N n0 q0 x1 S) fun v101 S102 =>
    if (Int32.ofNat (kNl q0)) ≤ (kI S102 (40 + 3 * n0 + q0)) then (
      some ((), S102))
    else (
      bk (pX5_at N n0 q0 v101 S102) fun v103 S104 =>
      if v103 = x1 then (
        some ((), S104))
      else (
        gcp v101 (v101 + (1 : Int32)) ((kI S104 (40 + 3 * n0 + q0)) - v101) (kNl q0) <| svk (sAr S104 (26 + 15 * n0 + 10 + 2 * q0) (va_cpy (kA S104 (26 + 15 * n0 + 10 + 2 * q0)) (kA S104 (26 + 15 * n0 + 10 + 2 * q0)) v101.toNatClampNeg (v101 + (1 : Int32)).toNatClampNeg ((kI S104 (40 + 3 * n0 + q0)) - v101).toNatClampNeg)) fun S105 =>
        gd v101 (kNl q0) <| svk (sA S105 (26 + 15 * n0 + 10 + 2 * q0) v101.toNatClampNeg x1) fun S106 =>
        svk (sI S106 (40 + 3 * n0 + q0) ((kI S106 (40 + 3 * n0 + q0)) + (1 : Int32))) fun S107 =>
        some ((), S107)))
set_option maxRecDepth 100000 in
set_option maxHeartbeats 4000000 in
theorem c_X5_put (l : Launch) (N : Nat) (n0 : Nat) (q0 : Nat) (hn0 : n0 < 5) (hq0 : q0 < 3) (x1 : Int32) : kMet l yX5_put cX5_put 3 none 1 (fun g => [.ref (g.2.1 (26 + 15 * n0 + 9 + 2 * q0)), .int x1]) rU (pX5_put N n0 q0 x1) := by
  refine kStart RX5 (by decide +kernel) rfl (fun g => [(0, .ref (g.2.1 (26 + 15 * n0 + 9 + 2 * q0))), (1, .int x1)]) (fun _ => Nat.le_of_ble_eq_true rfl) (fun _ => rfl) ?_
  intro dC dI g sz Si r Sf hpf p e s m args below meth c X hr H locs I ls hl
  have hx := X.1
  have hb := X.2.1
  unfold pX5_put at hpf
  refine lv_aload_n hx hb dX5_put_0 rfl (lv_at hl 0 rfl) ?_
  refine lv_iload_n hx hb dX5_put_1 rfl (lv_at hl 1 rfl) ?_
  refine k_cIi (rest := []) (As := [.int x1]) (d := 1) ⟨Nat.le_refl _, Nat.le_refl _⟩ X I fn_X5_X5_indexOf kCl_5 rfl (kO_N g Si n0 q0 hn0 hq0) (c_X5_indexOf l N n0 q0 hn0 hq0 x1) rfl (by decide) 2 dX5_put_2 rfl hl.1 rfl (Nat.le_of_ble_eq_true rfl) ⟨Nat.le_of_ble_eq_true rfl, Nat.le_of_ble_eq_true rfl⟩ hpf (fun v101 S102 H locs I hm hpf => ?_)
  refine lv_istore_n (lv' := [(2, .int v101), (0, .ref (g.2.1 (26 + 15 * n0 + 9 + 2 * q0))), (1, .int x1)]) hx hb dX5_put_5 rfl hl (by decide) rfl (fun ls hl => ?_)
  refine lv_aload_n hx hb dX5_put_6 rfl (lv_at hl 1 rfl) ?_
  refine k_get (k := 0) X I kCl_5 (kO_N g S102 n0 q0 hn0 hq0) 1 (by decide) rfl kC_103 7 dX5_put_7 ?_
  refine lv_aload_n hx hb dX5_put_10 rfl (lv_at hl 1 rfl) ?_
  refine k_get (k := 0) X I kCl_5 (kO_N g S102 n0 q0 hn0 hq0) 0 (by decide) rfl kC_104 11 dX5_put_11 ?_
  refine k_lenI X I (kR_N n0 q0 hn0 hq0) 14 dX5_put_14 (Int32.ofNat (kNl q0)) rfl ?_
  refine b_icmp_ge hx hb 65 15 dX5_put_15 (by decide) hpf (fun hpf => ?_) (fun hpf => ?_)
  · exact k_retv X I hr 65 dX5_put_65 hpf
  refine lv_aload_n hx hb dX5_put_18 rfl (lv_at hl 1 rfl) ?_
  refine lv_iload_n hx hb dX5_put_19 rfl (lv_at hl 0 rfl) ?_
  refine k_cIi (rest := []) (As := [.int v101]) (d := 1) ⟨Nat.le_refl _, Nat.le_refl _⟩ X I fn_X5_X5_at kCl_5 rfl (kO_N g S102 n0 q0 hn0 hq0) (c_X5_at l N n0 q0 hn0 hq0 v101) rfl (by decide) 20 dX5_put_20 rfl hl.1 rfl (Nat.le_of_ble_eq_true rfl) ⟨Nat.le_of_ble_eq_true rfl, Nat.le_of_ble_eq_true rfl⟩ hpf (fun v103 S104 H locs I hm hpf => ?_)
  refine lv_iload_n hx hb dX5_put_23 rfl (lv_at hl 2 rfl) ?_
  refine b_icmp_eq hx hb 65 24 dX5_put_24 (by decide) hpf (fun hpf => ?_) (fun hpf => ?_)
  · exact k_retv X I hr 65 dX5_put_65 hpf
  refine lv_aload_n hx hb dX5_put_27 rfl (lv_at hl 1 rfl) ?_
  refine k_get (k := 0) X I kCl_5 (kO_N g S104 n0 q0 hn0 hq0) 0 (by decide) rfl kC_104 28 dX5_put_28 ?_
  refine lv_iload_n hx hb dX5_put_31 rfl (lv_at hl 0 rfl) ?_
  refine lv_aload_n hx hb dX5_put_32 rfl (lv_at hl 1 rfl) ?_
  refine k_get (k := 0) X I kCl_5 (kO_N g S104 n0 q0 hn0 hq0) 0 (by decide) rfl kC_104 33 dX5_put_33 ?_
  refine lv_iload_n hx hb dX5_put_36 rfl (lv_at hl 0 rfl) ?_
  refine lv_iconst (v := (1 : Int32)) hx hb dX5_put_37 (by decide) ?_
  refine lv_iadd hx hb dX5_put_38 ?_
  refine lv_aload_n hx hb dX5_put_39 rfl (lv_at hl 1 rfl) ?_
  refine k_get (k := 0) X I kCl_5 (kO_N g S104 n0 q0 hn0 hq0) 1 (by decide) rfl kC_103 40 dX5_put_40 ?_
  refine lv_iload_n hx hb dX5_put_43 rfl (lv_at hl 0 rfl) ?_
  refine lv_isub hx hb dX5_put_44 ?_
  refine k_copy (d := 1) ⟨Nat.le_refl _, Nat.le_refl _⟩ (by decide) X I (kR_N n0 q0 hn0 hq0) hl.1 kC_238 kC_35 kC_36 kC_37 45 dX5_put_45 (Nat.le_of_ble_eq_true rfl) hpf (fun S105 H locs I hm hpf => ?_)
  refine lv_aload_n hx hb dX5_put_48 rfl (lv_at hl 1 rfl) ?_
  refine k_get (k := 0) X I kCl_5 (kO_N g S105 n0 q0 hn0 hq0) 0 (by decide) rfl kC_104 49 dX5_put_49 ?_
  refine lv_iload_n hx hb dX5_put_52 rfl (lv_at hl 0 rfl) ?_
  refine lv_iload_n hx hb dX5_put_53 rfl (lv_at hl 2 rfl) ?_
  refine k_iast X I (kR_N n0 q0 hn0 hq0) 54 dX5_put_54 hpf (fun S106 H locs I hm hpf => ?_)
  refine lv_aload_n hx hb dX5_put_55 rfl (lv_at hl 1 rfl) ?_
  refine lv_dup hx hb dX5_put_56 rfl ?_
  refine k_get (k := 0) X I kCl_5 (kO_N g S106 n0 q0 hn0 hq0) 1 (by decide) rfl kC_103 57 dX5_put_57 ?_
  refine lv_iconst (v := (1 : Int32)) hx hb dX5_put_60 (by decide) ?_
  refine lv_iadd hx hb dX5_put_61 ?_
  refine k_put (ty := .int) X I kCl_5 tyX5_ok nmX5 (kO_N g S106 n0 q0 hn0 hq0) 1 (by decide) (Nat.le_of_ble_eq_true rfl) (kP_N1 n0 q0 hn0 hq0 g S106 _) ⟨rfl, rfl, rfl⟩ kC_103 rfl (by decide +kernel) rfl rfl 62 dX5_put_62 hpf (fun S107 H locs I hm hpf => ?_)
  exact k_retv X I hr 65 dX5_put_65 hpf
-- ===== X5_dropAt =====
def pX5_dropAt (N : Nat) (n0 : Nat) (q0 : Nat) (x1 : Int32) (S : kS) : Option (Unit × kS) :=
    if x1 < (0 : Int32) then (
      some ((), S))
    else (
      if (kI S (40 + 3 * n0 + q0)) ≤ x1 then (
        some ((), S))
      else (
        gcp (x1 + (1 : Int32)) x1 (((kI S (40 + 3 * n0 + q0)) - x1) - (1 : Int32)) (kNl q0) <| svk (sAr S (26 + 15 * n0 + 10 + 2 * q0) (va_cpy (kA S (26 + 15 * n0 + 10 + 2 * q0)) (kA S (26 + 15 * n0 + 10 + 2 * q0)) (x1 + (1 : Int32)).toNatClampNeg x1.toNatClampNeg (((kI S (40 + 3 * n0 + q0)) - x1) - (1 : Int32)).toNatClampNeg)) fun S101 =>
        svk (sI S101 (40 + 3 * n0 + q0) ((kI S101 (40 + 3 * n0 + q0)) - (1 : Int32))) fun S102 =>
        some ((), S102)))
set_option maxRecDepth 100000 in
set_option maxHeartbeats 4000000 in
theorem c_X5_dropAt (l : Launch) (N : Nat) (n0 : Nat) (q0 : Nat) (hn0 : n0 < 5) (hq0 : q0 < 3) (x1 : Int32) : kMet l yX5_dropAt cX5_dropAt 2 none 1 (fun g => [.ref (g.2.1 (26 + 15 * n0 + 9 + 2 * q0)), .int x1]) rU (pX5_dropAt N n0 q0 x1) := by
  refine kStart RX5 (by decide +kernel) rfl (fun g => [(0, .ref (g.2.1 (26 + 15 * n0 + 9 + 2 * q0))), (1, .int x1)]) (fun _ => Nat.le_of_ble_eq_true rfl) (fun _ => rfl) ?_
  intro dC dI g sz Si r Sf hpf p e s m args below meth c X hr H locs I ls hl
  have hx := X.1
  have hb := X.2.1
  unfold pX5_dropAt at hpf
  refine lv_iload_n hx hb dX5_dropAt_0 rfl (lv_at hl 1 rfl) ?_
  refine b_if_lt hx hb 45 1 dX5_dropAt_1 (by decide) hpf (fun hpf => ?_) (fun hpf => ?_)
  · exact k_retv X I hr 45 dX5_dropAt_45 hpf
  refine lv_iload_n hx hb dX5_dropAt_4 rfl (lv_at hl 1 rfl) ?_
  refine lv_aload_n hx hb dX5_dropAt_5 rfl (lv_at hl 0 rfl) ?_
  refine k_get (k := 0) X I kCl_5 (kO_N g Si n0 q0 hn0 hq0) 1 (by decide) rfl kC_103 6 dX5_dropAt_6 ?_
  refine b_icmp_ge hx hb 45 9 dX5_dropAt_9 (by decide) hpf (fun hpf => ?_) (fun hpf => ?_)
  · exact k_retv X I hr 45 dX5_dropAt_45 hpf
  refine lv_aload_n hx hb dX5_dropAt_12 rfl (lv_at hl 0 rfl) ?_
  refine k_get (k := 0) X I kCl_5 (kO_N g Si n0 q0 hn0 hq0) 0 (by decide) rfl kC_104 13 dX5_dropAt_13 ?_
  refine lv_iload_n hx hb dX5_dropAt_16 rfl (lv_at hl 1 rfl) ?_
  refine lv_iconst (v := (1 : Int32)) hx hb dX5_dropAt_17 (by decide) ?_
  refine lv_iadd hx hb dX5_dropAt_18 ?_
  refine lv_aload_n hx hb dX5_dropAt_19 rfl (lv_at hl 0 rfl) ?_
  refine k_get (k := 0) X I kCl_5 (kO_N g Si n0 q0 hn0 hq0) 0 (by decide) rfl kC_104 20 dX5_dropAt_20 ?_
  refine lv_iload_n hx hb dX5_dropAt_23 rfl (lv_at hl 1 rfl) ?_
  refine lv_aload_n hx hb dX5_dropAt_24 rfl (lv_at hl 0 rfl) ?_
  refine k_get (k := 0) X I kCl_5 (kO_N g Si n0 q0 hn0 hq0) 1 (by decide) rfl kC_103 25 dX5_dropAt_25 ?_
  refine lv_iload_n hx hb dX5_dropAt_28 rfl (lv_at hl 1 rfl) ?_
  refine lv_isub hx hb dX5_dropAt_29 ?_
  refine lv_iconst (v := (1 : Int32)) hx hb dX5_dropAt_30 (by decide) ?_
  refine lv_isub hx hb dX5_dropAt_31 ?_
  refine k_copy (d := 1) ⟨Nat.le_refl _, Nat.le_refl _⟩ (by decide) X I (kR_N n0 q0 hn0 hq0) hl.1 kC_238 kC_35 kC_36 kC_37 32 dX5_dropAt_32 (Nat.le_of_ble_eq_true rfl) hpf (fun S101 H locs I hm hpf => ?_)
  refine lv_aload_n hx hb dX5_dropAt_35 rfl (lv_at hl 0 rfl) ?_
  refine lv_dup hx hb dX5_dropAt_36 rfl ?_
  refine k_get (k := 0) X I kCl_5 (kO_N g S101 n0 q0 hn0 hq0) 1 (by decide) rfl kC_103 37 dX5_dropAt_37 ?_
  refine lv_iconst (v := (1 : Int32)) hx hb dX5_dropAt_40 (by decide) ?_
  refine lv_isub hx hb dX5_dropAt_41 ?_
  refine k_put (ty := .int) X I kCl_5 tyX5_ok nmX5 (kO_N g S101 n0 q0 hn0 hq0) 1 (by decide) (Nat.le_of_ble_eq_true rfl) (kP_N1 n0 q0 hn0 hq0 g S101 _) ⟨rfl, rfl, rfl⟩ kC_103 rfl (by decide +kernel) rfl rfl 42 dX5_dropAt_42 hpf (fun S102 H locs I hm hpf => ?_)
  exact k_retv X I hr 45 dX5_dropAt_45 hpf
-- ===== X6_slot =====
def pX6_slot (N : Nat) (x0 : Int32) (x1 : Int32) (x2 : Int32) (S : kS) : Option (Int32 × kS) :=
    some ((((x0 * (3 : Int32)) + x1) * (2 : Int32)) + x2, S)
set_option maxRecDepth 100000 in
set_option maxHeartbeats 4000000 in
theorem c_X6_slot (l : Launch) (N : Nat) (x0 : Int32) (x1 : Int32) (x2 : Int32) : kMet l yX6_slot cX6_slot 3 (some .int) 0 (fun g => [.int x0, .int x1, .int x2]) rI (pX6_slot N x0 x1 x2) := by
  refine kStart RX6 (by decide +kernel) rfl (fun g => [(0, .int x0), (1, .int x1), (2, .int x2)]) (fun _ => Nat.le_of_ble_eq_true rfl) (fun _ => rfl) ?_
  intro dC dI g sz Si r Sf hpf p e s m args below meth c X hr H locs I ls hl
  have hx := X.1
  have hb := X.2.1
  unfold pX6_slot at hpf
  refine lv_iload_n hx hb dX6_slot_0 rfl (lv_at hl 0 rfl) ?_
  refine lv_iconst (v := (3 : Int32)) hx hb dX6_slot_1 (by decide) ?_
  refine lv_imul hx hb dX6_slot_2 ?_
  refine lv_iload_n hx hb dX6_slot_3 rfl (lv_at hl 1 rfl) ?_
  refine lv_iadd hx hb dX6_slot_4 ?_
  refine lv_iconst (v := (2 : Int32)) hx hb dX6_slot_5 (by decide) ?_
  refine lv_imul hx hb dX6_slot_6 ?_
  refine lv_iload_n hx hb dX6_slot_7 rfl (lv_at hl 2 rfl) ?_
  refine lv_iadd hx hb dX6_slot_8 ?_
  exact k_reti X I hr 9 dX6_slot_9 hpf
-- ===== J7_fill_d0a16 =====
def pJ7_fill_d0a16_6 (N : Nat) (c0 : Nat) (z0 : Nat) : Nat → Int64 → Int32 → Int32 → kS → Option (Unit × kS)
  | 0 => fun _ _ _ _ => none
  | n_6 + 1 => fun w1 x3 x4 S =>
    if x4 ≤ x3 then (
      some ((), S))
    else (
      gd x3 z0 <| svk (sJ S c0 x3.toNatClampNeg w1) fun S101 =>
      nm (x3 + (1 : Int32)) fun y102 =>
      pJ7_fill_d0a16_6 N c0 z0 n_6 w1 y102 x4 S101)
def pJ7_fill_d0a16 (N : Nat) (c0 : Nat) (z0 : Nat) (w1 : Int64) (S : kS) : Option (Unit × kS) :=
    nm (Int32.ofNat z0) fun y101 =>
    pJ7_fill_d0a16_6 N c0 z0 N w1 (0 : Int32) y101 S
set_option maxRecDepth 100000 in
set_option maxHeartbeats 4000000 in
theorem c_J7_fill_d0a16 (l : Launch) (N : Nat) (c0 z0 : Nat) (Y0 : kArJ c0 z0) (w1 : Int64) : kMet l yJ7_fill_d0a16 cJ7_fill_d0a16 5 none 0 (fun g => [.ref (g.2.1 c0), .long w1]) rU (pJ7_fill_d0a16 N c0 z0 w1) := by
  refine kStart RJ7 (by decide +kernel) rfl (fun g => [(0, .ref (g.2.1 c0)), (1, .long w1)]) (fun _ => Nat.le_of_ble_eq_true rfl) (fun _ => rfl) ?_
  intro dC dI g sz Si r Sf hpf p e s m args below meth c X hr H locs I ls hl
  have hx := X.1
  have hb := X.2.1
  unfold pJ7_fill_d0a16 at hpf
  have hC_6 : ∀ (n_6 : Nat), ∀ (w1 : Int64) (x3 : Int32) (x4 : Int32) (S : kS) (H : Heap) (locs : List Loc), kV dC dI g (kAt g (kn Si) (km Si) (kp Si) sz) s Si S H locs → ∀ ls : Array Slot, lv_has ls 5 [(0, .ref (g.2.1 c0)), (1, .long w1), (3, .int x3), (4, .int x4)] → pJ7_fill_d0a16_6 N c0 z0 n_6 w1 x3 x4 S = some (r, Sf) → W p l e (mRm 0) s m args below meth c H locs 0 0 (MQ below (kQ dC dI g sz Si (rU g r) Sf) args s 0 0 (kAt g (kn Si) (km Si) (kp Si) sz)) (F0 m 6 ls []) := by
    intro n_6
    induction n_6 with
    | zero =>
      intro w1 x3 x4 S H locs I ls hl hpf
      rw [pJ7_fill_d0a16_6] at hpf
      cases hpf
    | succ n_6 ih_6 =>
      intro w1 x3 x4 S H locs I ls hl hpf
      rw [pJ7_fill_d0a16_6] at hpf
      refine lv_iload_n hx hb dJ7_fill_d0a16_6 rfl (lv_at hl 2 rfl) ?_
      refine lv_iload hx hb dJ7_fill_d0a16_7 (lv_at hl 3 rfl) ?_
      refine b_icmp_ge hx hb 22 9 dJ7_fill_d0a16_9 (by decide) hpf (fun hpf => ?_) (fun hpf => ?_)
      · exact k_retv X I hr 22 dJ7_fill_d0a16_22 hpf
      refine lv_aload_n hx hb dJ7_fill_d0a16_12 rfl (lv_at hl 0 rfl) ?_
      refine lv_iload_n hx hb dJ7_fill_d0a16_13 rfl (lv_at hl 2 rfl) ?_
      refine lv_lload_n hx hb dJ7_fill_d0a16_14 rfl (lv_at hl 1 rfl) ?_
      refine k_last X I Y0 15 dJ7_fill_d0a16_15 hpf (fun S101 H locs I hm hpf => ?_)
      refine m_iinc (w := (1 : Int32)) hx hb (fun y102 => [(3, .int y102), (0, .ref (g.2.1 c0)), (1, .long w1), (4, .int x4)]) 16 dJ7_fill_d0a16_16 hl (k := 2) rfl (by decide) (by decide) (fun _ => rfl) hpf (fun y102 ls hl hpf => ?_)
      refine lv_goto (tgt := 6) hx hb dJ7_fill_d0a16_19 (by decide) ?_
      exact ih_6 w1 y102 x4 S101 H locs I ls (lv_sub hl [1, 2, 0, 3] rfl) hpf
  refine lv_iconst (v := (0 : Int32)) hx hb dJ7_fill_d0a16_0 (by decide) ?_
  refine lv_istore_n (lv' := [(3, .int (0 : Int32)), (0, .ref (g.2.1 c0)), (1, .long w1)]) hx hb dJ7_fill_d0a16_1 rfl hl (by decide) rfl (fun ls hl => ?_)
  refine lv_aload_n hx hb dJ7_fill_d0a16_2 rfl (lv_at hl 1 rfl) ?_
  refine k_lenJ X I Y0 3 dJ7_fill_d0a16_3 (Int32.ofNat z0) rfl ?_
  refine m_isto hx hb (fun y101 => [(4, .int y101), (3, .int (0 : Int32)), (0, .ref (g.2.1 c0)), (1, .long w1)]) 4 dJ7_fill_d0a16_4 hl (by decide) (fun _ => rfl) hpf (fun y101 ls hl hpf => ?_)
  exact hC_6 N w1 (0 : Int32) y101 Si H locs I ls (lv_sub hl [2, 3, 1, 0] rfl) hpf
-- ===== J7_fill_53178 =====
def pJ7_fill_53178_5 (N : Nat) (c0 : Nat) (z0 : Nat) : Nat → Int32 → Int32 → Int32 → kS → Option (Unit × kS)
  | 0 => fun _ _ _ _ => none
  | n_5 + 1 => fun x1 x2 x3 S =>
    if x3 ≤ x2 then (
      some ((), S))
    else (
      gd x2 z0 <| svk (sA S c0 x2.toNatClampNeg x1) fun S101 =>
      nm (x2 + (1 : Int32)) fun y102 =>
      pJ7_fill_53178_5 N c0 z0 n_5 x1 y102 x3 S101)
def pJ7_fill_53178 (N : Nat) (c0 : Nat) (z0 : Nat) (x1 : Int32) (S : kS) : Option (Unit × kS) :=
    nm (Int32.ofNat z0) fun y101 =>
    pJ7_fill_53178_5 N c0 z0 N x1 (0 : Int32) y101 S
set_option maxRecDepth 100000 in
set_option maxHeartbeats 4000000 in
theorem c_J7_fill_53178 (l : Launch) (N : Nat) (c0 z0 : Nat) (Y0 : kArI c0 z0) (x1 : Int32) : kMet l yJ7_fill_53178 cJ7_fill_53178 4 none 0 (fun g => [.ref (g.2.1 c0), .int x1]) rU (pJ7_fill_53178 N c0 z0 x1) := by
  refine kStart RJ7 (by decide +kernel) rfl (fun g => [(0, .ref (g.2.1 c0)), (1, .int x1)]) (fun _ => Nat.le_of_ble_eq_true rfl) (fun _ => rfl) ?_
  intro dC dI g sz Si r Sf hpf p e s m args below meth c X hr H locs I ls hl
  have hx := X.1
  have hb := X.2.1
  unfold pJ7_fill_53178 at hpf
  have hC_5 : ∀ (n_5 : Nat), ∀ (x1 : Int32) (x2 : Int32) (x3 : Int32) (S : kS) (H : Heap) (locs : List Loc), kV dC dI g (kAt g (kn Si) (km Si) (kp Si) sz) s Si S H locs → ∀ ls : Array Slot, lv_has ls 4 [(0, .ref (g.2.1 c0)), (1, .int x1), (2, .int x2), (3, .int x3)] → pJ7_fill_53178_5 N c0 z0 n_5 x1 x2 x3 S = some (r, Sf) → W p l e (mRm 0) s m args below meth c H locs 0 0 (MQ below (kQ dC dI g sz Si (rU g r) Sf) args s 0 0 (kAt g (kn Si) (km Si) (kp Si) sz)) (F0 m 5 ls []) := by
    intro n_5
    induction n_5 with
    | zero =>
      intro x1 x2 x3 S H locs I ls hl hpf
      rw [pJ7_fill_53178_5] at hpf
      cases hpf
    | succ n_5 ih_5 =>
      intro x1 x2 x3 S H locs I ls hl hpf
      rw [pJ7_fill_53178_5] at hpf
      refine lv_iload_n hx hb dJ7_fill_53178_5 rfl (lv_at hl 2 rfl) ?_
      refine lv_iload_n hx hb dJ7_fill_53178_6 rfl (lv_at hl 3 rfl) ?_
      refine b_icmp_ge hx hb 20 7 dJ7_fill_53178_7 (by decide) hpf (fun hpf => ?_) (fun hpf => ?_)
      · exact k_retv X I hr 20 dJ7_fill_53178_20 hpf
      refine lv_aload_n hx hb dJ7_fill_53178_10 rfl (lv_at hl 0 rfl) ?_
      refine lv_iload_n hx hb dJ7_fill_53178_11 rfl (lv_at hl 2 rfl) ?_
      refine lv_iload_n hx hb dJ7_fill_53178_12 rfl (lv_at hl 1 rfl) ?_
      refine k_iast X I Y0 13 dJ7_fill_53178_13 hpf (fun S101 H locs I hm hpf => ?_)
      refine m_iinc (w := (1 : Int32)) hx hb (fun y102 => [(2, .int y102), (0, .ref (g.2.1 c0)), (1, .int x1), (3, .int x3)]) 14 dJ7_fill_53178_14 hl (k := 2) rfl (by decide) (by decide) (fun _ => rfl) hpf (fun y102 ls hl hpf => ?_)
      refine lv_goto (tgt := 5) hx hb dJ7_fill_53178_17 (by decide) ?_
      exact ih_5 x1 y102 x3 S101 H locs I ls (lv_sub hl [1, 2, 0, 3] rfl) hpf
  refine lv_iconst (v := (0 : Int32)) hx hb dJ7_fill_53178_0 (by decide) ?_
  refine lv_istore_n (lv' := [(2, .int (0 : Int32)), (0, .ref (g.2.1 c0)), (1, .int x1)]) hx hb dJ7_fill_53178_1 rfl hl (by decide) rfl (fun ls hl => ?_)
  refine lv_aload_n hx hb dJ7_fill_53178_2 rfl (lv_at hl 1 rfl) ?_
  refine k_lenI X I Y0 3 dJ7_fill_53178_3 (Int32.ofNat z0) rfl ?_
  refine m_isto_n hx hb (fun y101 => [(3, .int y101), (2, .int (0 : Int32)), (0, .ref (g.2.1 c0)), (1, .int x1)]) 4 dJ7_fill_53178_4 rfl hl (by decide) (fun _ => rfl) hpf (fun y101 ls hl hpf => ?_)
  exact hC_5 N x1 (0 : Int32) y101 Si H locs I ls (lv_sub hl [2, 3, 1, 0] rfl) hpf
-- ===== X6_clear =====
def pX6_clear (N : Nat) (n0 : Nat) (S : kS) : Option (Unit × kS) :=
    bk (pJ7_fill_d0a16 N (26 + 15 * n0 + 7) 288 (0 : Int64) S) fun v101 S102 =>
    bk (pJ7_fill_d0a16 N (26 + 15 * n0 + 8) 288 (0 : Int64) S102) fun v103 S104 =>
    some ((), S104)
set_option maxRecDepth 100000 in
set_option maxHeartbeats 4000000 in
theorem c_X6_clear (l : Launch) (N : Nat) (n0 : Nat) (hn0 : n0 < 5) : kMet l yX6_clear cX6_clear 1 none 1 (fun g => [.ref (g.2.1 (26 + 15 * n0 + 6))]) rU (pX6_clear N n0) := by
  refine kStart RX6 (by decide +kernel) rfl (fun g => [(0, .ref (g.2.1 (26 + 15 * n0 + 6)))]) (fun _ => Nat.le_of_ble_eq_true rfl) (fun _ => rfl) ?_
  intro dC dI g sz Si r Sf hpf p e s m args below meth c X hr H locs I ls hl
  have hx := X.1
  have hb := X.2.1
  unfold pX6_clear at hpf
  refine lv_aload_n hx hb dX6_clear_0 rfl (lv_at hl 0 rfl) ?_
  refine k_get (k := 0) X I kCl_6 (kO_R g Si n0 hn0) 0 (by decide) rfl kC_176 1 dX6_clear_1 ?_
  refine lv_lconst (v := (0 : Int64)) hx hb dX6_clear_4 (by decide) ?_
  refine k_cSv (rest := []) (As := [.ref (g.2.1 (26 + 15 * n0 + 7)), .long (0 : Int64)]) (d := 1) ⟨Nat.le_refl _, Nat.le_refl _⟩ X I fn_X6_J7_fill_d0a16 (c_J7_fill_d0a16 l N (26 + 15 * n0 + 7) 288 (kR_T7 n0 hn0) (0 : Int64)) rfl (by decide) 5 dX6_clear_5 rfl hl.1 rfl (Nat.le_of_ble_eq_true rfl) ⟨Nat.le_of_ble_eq_true rfl, Nat.le_of_ble_eq_true rfl⟩ hpf (fun v101 S102 H locs I hm hpf => ?_)
  refine lv_aload_n hx hb dX6_clear_8 rfl (lv_at hl 0 rfl) ?_
  refine k_get (k := 0) X I kCl_6 (kO_R g S102 n0 hn0) 1 (by decide) rfl kC_177 9 dX6_clear_9 ?_
  refine lv_lconst (v := (0 : Int64)) hx hb dX6_clear_12 (by decide) ?_
  refine k_cSv (rest := []) (As := [.ref (g.2.1 (26 + 15 * n0 + 8)), .long (0 : Int64)]) (d := 1) ⟨Nat.le_refl _, Nat.le_refl _⟩ X I fn_X6_J7_fill_d0a16 (c_J7_fill_d0a16 l N (26 + 15 * n0 + 8) 288 (kR_T8 n0 hn0) (0 : Int64)) rfl (by decide) 13 dX6_clear_13 rfl hl.1 rfl (Nat.le_of_ble_eq_true rfl) ⟨Nat.le_of_ble_eq_true rfl, Nat.le_of_ble_eq_true rfl⟩ hpf (fun v103 S104 H locs I hm hpf => ?_)
  exact k_retv X I hr 16 dX6_clear_16 hpf
-- ===== X6_bitOf =====
def pX6_bitOf (N : Nat) (x0 : Int32) (S : kS) : Option (Int64 × kS) :=
    if x0 = (-1 : Int32) then (
      some ((18014398509481984 : Int64), S))
    else (
      if x0 < (100 : Int32) then (
        some ((1 : Int64) <<< (((48 : Int32) + x0).toInt64 &&& 63), S))
      else (
        some ((1 : Int64) <<< ((x0 - (100 : Int32)).toInt64 &&& 63), S)))
set_option maxRecDepth 100000 in
set_option maxHeartbeats 4000000 in
theorem c_X6_bitOf (l : Launch) (N : Nat) (x0 : Int32) : kMet l yX6_bitOf cX6_bitOf 1 (some .long) 0 (fun g => [.int x0]) rJ (pX6_bitOf N x0) := by
  refine kStart RX6 (by decide +kernel) rfl (fun g => [(0, .int x0)]) (fun _ => Nat.le_of_ble_eq_true rfl) (fun _ => rfl) ?_
  intro dC dI g sz Si r Sf hpf p e s m args below meth c X hr H locs I ls hl
  have hx := X.1
  have hb := X.2.1
  unfold pX6_bitOf at hpf
  refine lv_iload_n hx hb dX6_bitOf_0 rfl (lv_at hl 0 rfl) ?_
  refine lv_iconst (v := (-1 : Int32)) hx hb dX6_bitOf_1 (by decide) ?_
  refine b_icmp_ne hx hb 9 2 dX6_bitOf_2 (by decide) hpf (fun hpf => ?_) (fun hpf => ?_)
  · refine lv_iload_n hx hb dX6_bitOf_9 rfl (lv_at hl 0 rfl) ?_
    refine lv_bipush (v := (100 : Int32)) hx hb dX6_bitOf_10 (by decide) ?_
    refine b_icmp_lt hx hb 24 12 dX6_bitOf_12 (by decide) hpf (fun hpf => ?_) (fun hpf => ?_)
    · refine lv_lconst (v := (1 : Int64)) hx hb dX6_bitOf_24 (by decide) ?_
      refine lv_bipush (v := (48 : Int32)) hx hb dX6_bitOf_25 (by decide) ?_
      refine lv_iload_n hx hb dX6_bitOf_27 rfl (lv_at hl 0 rfl) ?_
      refine lv_iadd hx hb dX6_bitOf_28 ?_
      refine lv_lshl hx hb dX6_bitOf_29 rfl ?_
      exact k_retl X I hr 30 dX6_bitOf_30 hpf
    refine lv_lconst (v := (1 : Int64)) hx hb dX6_bitOf_15 (by decide) ?_
    refine lv_iload_n hx hb dX6_bitOf_16 rfl (lv_at hl 0 rfl) ?_
    refine lv_bipush (v := (100 : Int32)) hx hb dX6_bitOf_17 (by decide) ?_
    refine lv_isub hx hb dX6_bitOf_19 ?_
    refine lv_lshl hx hb dX6_bitOf_20 rfl ?_
    refine lv_goto (tgt := 30) hx hb dX6_bitOf_21 (by decide) ?_
    exact k_retl X I hr 30 dX6_bitOf_30 hpf
  refine lv_ldc2 (v := (18014398509481984 : Int64)) hx hb X.2.2.2.1 (X.2.2.2.2.1 _ kC_178) dX6_bitOf_5 ?_
  exact k_retl X I hr 8 dX6_bitOf_8 hpf
-- ===== X6_saidOf =====
def pX6_saidOf (N : Nat) (n0 : Nat) (x1 : Int32) (x2 : Int32) (S : kS) : Option (Int32 × kS) :=
    bk (pX6_bitOf N x2 S) fun v101 S102 =>
    gd x1 288 <|
    if (lg_cmp ((kJ S102 (26 + 15 * n0 + 8) x1.toNatClampNeg) &&& v101) (0 : Int64)) = (0 : Int32) then (
      gd x1 288 <|
      if (lg_cmp ((kJ S102 (26 + 15 * n0 + 7) x1.toNatClampNeg) &&& v101) (0 : Int64)) = (0 : Int32) then (
        some ((0 : Int32), S102))
      else (
        some ((1 : Int32), S102)))
    else (
      some ((2 : Int32), S102))
set_option maxRecDepth 100000 in
set_option maxHeartbeats 4000000 in
theorem c_X6_saidOf (l : Launch) (N : Nat) (n0 : Nat) (hn0 : n0 < 5) (x1 : Int32) (x2 : Int32) : kMet l yX6_saidOf cX6_saidOf 5 (some .int) 1 (fun g => [.ref (g.2.1 (26 + 15 * n0 + 6)), .int x1, .int x2]) rI (pX6_saidOf N n0 x1 x2) := by
  refine kStart RX6 (by decide +kernel) rfl (fun g => [(0, .ref (g.2.1 (26 + 15 * n0 + 6))), (1, .int x1), (2, .int x2)]) (fun _ => Nat.le_of_ble_eq_true rfl) (fun _ => rfl) ?_
  intro dC dI g sz Si r Sf hpf p e s m args below meth c X hr H locs I ls hl
  have hx := X.1
  have hb := X.2.1
  unfold pX6_saidOf at hpf
  refine lv_iload_n hx hb dX6_saidOf_0 rfl (lv_at hl 2 rfl) ?_
  refine k_cSl (rest := []) (As := [.int x2]) (d := 1) ⟨Nat.le_refl _, Nat.le_refl _⟩ X I fn_X6_X6_bitOf (c_X6_bitOf l N x2) rfl (by decide) 1 dX6_saidOf_1 rfl hl.1 rfl (Nat.le_of_ble_eq_true rfl) ⟨Nat.le_of_ble_eq_true rfl, Nat.le_of_ble_eq_true rfl⟩ hpf (fun v101 S102 H locs I hm hpf => ?_)
  refine lv_lstore_n (lv' := [(3, .long v101), (0, .ref (g.2.1 (26 + 15 * n0 + 6))), (1, .int x1), (2, .int x2)]) hx hb dX6_saidOf_4 rfl hl (by decide) rfl (fun ls hl => ?_)
  refine lv_aload_n hx hb dX6_saidOf_5 rfl (lv_at hl 1 rfl) ?_
  refine k_get (k := 0) X I kCl_6 (kO_R g S102 n0 hn0) 1 (by decide) rfl kC_177 6 dX6_saidOf_6 ?_
  refine lv_iload_n hx hb dX6_saidOf_9 rfl (lv_at hl 2 rfl) ?_
  refine k_lald X I (kR_T8 n0 hn0) 10 dX6_saidOf_10 hpf (fun hpf => ?_)
  refine lv_lload_n hx hb dX6_saidOf_11 rfl (lv_at hl 0 rfl) ?_
  refine lv_land hx hb dX6_saidOf_12 ?_
  refine lv_lconst (v := (0 : Int64)) hx hb dX6_saidOf_13 (by decide) ?_
  refine W.lcmp hx hb dX6_saidOf_14 ?_
  refine b_if_eq hx hb 20 15 dX6_saidOf_15 (by decide) hpf (fun hpf => ?_) (fun hpf => ?_)
  · refine lv_aload_n hx hb dX6_saidOf_20 rfl (lv_at hl 1 rfl) ?_
    refine k_get (k := 0) X I kCl_6 (kO_R g S102 n0 hn0) 0 (by decide) rfl kC_176 21 dX6_saidOf_21 ?_
    refine lv_iload_n hx hb dX6_saidOf_24 rfl (lv_at hl 2 rfl) ?_
    refine k_lald X I (kR_T7 n0 hn0) 25 dX6_saidOf_25 hpf (fun hpf => ?_)
    refine lv_lload_n hx hb dX6_saidOf_26 rfl (lv_at hl 0 rfl) ?_
    refine lv_land hx hb dX6_saidOf_27 ?_
    refine lv_lconst (v := (0 : Int64)) hx hb dX6_saidOf_28 (by decide) ?_
    refine W.lcmp hx hb dX6_saidOf_29 ?_
    refine b_if_eq hx hb 37 30 dX6_saidOf_30 (by decide) hpf (fun hpf => ?_) (fun hpf => ?_)
    · refine lv_iconst (v := (0 : Int32)) hx hb dX6_saidOf_37 (by decide) ?_
      exact k_reti X I hr 38 dX6_saidOf_38 hpf
    refine lv_iconst (v := (1 : Int32)) hx hb dX6_saidOf_33 (by decide) ?_
    refine lv_goto (tgt := 38) hx hb dX6_saidOf_34 (by decide) ?_
    exact k_reti X I hr 38 dX6_saidOf_38 hpf
  refine lv_iconst (v := (2 : Int32)) hx hb dX6_saidOf_18 (by decide) ?_
  exact k_reti X I hr 19 dX6_saidOf_19 hpf
-- ===== X6_say =====
def pX6_say (N : Nat) (n0 : Nat) (x1 : Int32) (x2 : Int32) (x3 : Int32) (S : kS) : Option (Unit × kS) :=
    bk (pX6_bitOf N x2 S) fun v101 S102 =>
    gd x1 288 <|
    gd x1 288 <| svk (sJ S102 (26 + 15 * n0 + 7) x1.toNatClampNeg ((kJ S102 (26 + 15 * n0 + 7) x1.toNatClampNeg) &&& (v101 ^^^ (-1 : Int64)))) fun S103 =>
    gd x1 288 <|
    gd x1 288 <| svk (sJ S103 (26 + 15 * n0 + 8) x1.toNatClampNeg ((kJ S103 (26 + 15 * n0 + 8) x1.toNatClampNeg) &&& (v101 ^^^ (-1 : Int64)))) fun S104 =>
    if x3 = (1 : Int32) then (
      gd x1 288 <|
      gd x1 288 <| svk (sJ S104 (26 + 15 * n0 + 7) x1.toNatClampNeg ((kJ S104 (26 + 15 * n0 + 7) x1.toNatClampNeg) ||| v101)) fun S106 =>
      some ((), S106))
    else (
      if x3 = (2 : Int32) then (
        gd x1 288 <|
        gd x1 288 <| svk (sJ S104 (26 + 15 * n0 + 8) x1.toNatClampNeg ((kJ S104 (26 + 15 * n0 + 8) x1.toNatClampNeg) ||| v101)) fun S105 =>
        some ((), S105))
      else (
        some ((), S104)))
set_option maxRecDepth 100000 in
set_option maxHeartbeats 4000000 in
theorem c_X6_say (l : Launch) (N : Nat) (n0 : Nat) (hn0 : n0 < 5) (x1 : Int32) (x2 : Int32) (x3 : Int32) : kMet l yX6_say cX6_say 6 none 1 (fun g => [.ref (g.2.1 (26 + 15 * n0 + 6)), .int x1, .int x2, .int x3]) rU (pX6_say N n0 x1 x2 x3) := by
  refine kStart RX6 (by decide +kernel) rfl (fun g => [(0, .ref (g.2.1 (26 + 15 * n0 + 6))), (1, .int x1), (2, .int x2), (3, .int x3)]) (fun _ => Nat.le_of_ble_eq_true rfl) (fun _ => rfl) ?_
  intro dC dI g sz Si r Sf hpf p e s m args below meth c X hr H locs I ls hl
  have hx := X.1
  have hb := X.2.1
  unfold pX6_say at hpf
  refine lv_iload_n hx hb dX6_say_0 rfl (lv_at hl 2 rfl) ?_
  refine k_cSl (rest := []) (As := [.int x2]) (d := 1) ⟨Nat.le_refl _, Nat.le_refl _⟩ X I fn_X6_X6_bitOf (c_X6_bitOf l N x2) rfl (by decide) 1 dX6_say_1 rfl hl.1 rfl (Nat.le_of_ble_eq_true rfl) ⟨Nat.le_of_ble_eq_true rfl, Nat.le_of_ble_eq_true rfl⟩ hpf (fun v101 S102 H locs I hm hpf => ?_)
  refine lv_lstore (lv' := [(4, .long v101), (0, .ref (g.2.1 (26 + 15 * n0 + 6))), (1, .int x1), (2, .int x2), (3, .int x3)]) hx hb dX6_say_4 hl (by decide) rfl (fun ls hl => ?_)
  refine lv_aload_n hx hb dX6_say_6 rfl (lv_at hl 1 rfl) ?_
  refine k_get (k := 0) X I kCl_6 (kO_R g S102 n0 hn0) 0 (by decide) rfl kC_176 7 dX6_say_7 ?_
  refine lv_iload_n hx hb dX6_say_10 rfl (lv_at hl 2 rfl) ?_
  refine lv_dup2_11 hx hb dX6_say_11 rfl rfl ?_
  refine k_lald X I (kR_T7 n0 hn0) 12 dX6_say_12 hpf (fun hpf => ?_)
  refine lv_lload hx hb dX6_say_13 (lv_at hl 0 rfl) ?_
  refine lv_ldc2 (v := (-1 : Int64)) hx hb X.2.2.2.1 (X.2.2.2.2.1 _ kC_320) dX6_say_15 ?_
  refine lv_lxor hx hb dX6_say_18 ?_
  refine lv_land hx hb dX6_say_19 ?_
  refine k_last X I (kR_T7 n0 hn0) 20 dX6_say_20 hpf (fun S103 H locs I hm hpf => ?_)
  refine lv_aload_n hx hb dX6_say_21 rfl (lv_at hl 1 rfl) ?_
  refine k_get (k := 0) X I kCl_6 (kO_R g S103 n0 hn0) 1 (by decide) rfl kC_177 22 dX6_say_22 ?_
  refine lv_iload_n hx hb dX6_say_25 rfl (lv_at hl 2 rfl) ?_
  refine lv_dup2_11 hx hb dX6_say_26 rfl rfl ?_
  refine k_lald X I (kR_T8 n0 hn0) 27 dX6_say_27 hpf (fun hpf => ?_)
  refine lv_lload hx hb dX6_say_28 (lv_at hl 0 rfl) ?_
  refine lv_ldc2 (v := (-1 : Int64)) hx hb X.2.2.2.1 (X.2.2.2.2.1 _ kC_320) dX6_say_30 ?_
  refine lv_lxor hx hb dX6_say_33 ?_
  refine lv_land hx hb dX6_say_34 ?_
  refine k_last X I (kR_T8 n0 hn0) 35 dX6_say_35 hpf (fun S104 H locs I hm hpf => ?_)
  refine lv_iload_n hx hb dX6_say_36 rfl (lv_at hl 4 rfl) ?_
  refine lv_iconst (v := (1 : Int32)) hx hb dX6_say_37 (by decide) ?_
  refine b_icmp_ne hx hb 55 38 dX6_say_38 (by decide) hpf (fun hpf => ?_) (fun hpf => ?_)
  · refine lv_iload_n hx hb dX6_say_55 rfl (lv_at hl 4 rfl) ?_
    refine lv_iconst (v := (2 : Int32)) hx hb dX6_say_56 (by decide) ?_
    refine b_icmp_ne hx hb 71 57 dX6_say_57 (by decide) hpf (fun hpf => ?_) (fun hpf => ?_)
    · exact k_retv X I hr 71 dX6_say_71 hpf
    refine lv_aload_n hx hb dX6_say_60 rfl (lv_at hl 1 rfl) ?_
    refine k_get (k := 0) X I kCl_6 (kO_R g S104 n0 hn0) 1 (by decide) rfl kC_177 61 dX6_say_61 ?_
    refine lv_iload_n hx hb dX6_say_64 rfl (lv_at hl 2 rfl) ?_
    refine lv_dup2_11 hx hb dX6_say_65 rfl rfl ?_
    refine k_lald X I (kR_T8 n0 hn0) 66 dX6_say_66 hpf (fun hpf => ?_)
    refine lv_lload hx hb dX6_say_67 (lv_at hl 0 rfl) ?_
    refine lv_lor hx hb dX6_say_69 ?_
    refine k_last X I (kR_T8 n0 hn0) 70 dX6_say_70 hpf (fun S105 H locs I hm hpf => ?_)
    exact k_retv X I hr 71 dX6_say_71 hpf
  refine lv_aload_n hx hb dX6_say_41 rfl (lv_at hl 1 rfl) ?_
  refine k_get (k := 0) X I kCl_6 (kO_R g S104 n0 hn0) 0 (by decide) rfl kC_176 42 dX6_say_42 ?_
  refine lv_iload_n hx hb dX6_say_45 rfl (lv_at hl 2 rfl) ?_
  refine lv_dup2_11 hx hb dX6_say_46 rfl rfl ?_
  refine k_lald X I (kR_T7 n0 hn0) 47 dX6_say_47 hpf (fun hpf => ?_)
  refine lv_lload hx hb dX6_say_48 (lv_at hl 0 rfl) ?_
  refine lv_lor hx hb dX6_say_50 ?_
  refine k_last X I (kR_T7 n0 hn0) 51 dX6_say_51 hpf (fun S106 H locs I hm hpf => ?_)
  refine lv_goto (tgt := 71) hx hb dX6_say_52 (by decide) ?_
  exact k_retv X I hr 71 dX6_say_71 hpf
-- ===== X6_decideFor =====
def pX6_decideFor (N : Nat) (w0 : Int64) (w2 : Int64) (w4 : Int64) (S : kS) : Option (Int32 × kS) :=
    if (lg_cmp (w4 &&& w0) (0 : Int64)) = (0 : Int32) then (
      if (lg_cmp (w2 &&& w0) (0 : Int64)) = (0 : Int32) then (
        some ((0 : Int32), S))
      else (
        some ((1 : Int32), S)))
    else (
      some ((2 : Int32), S))
set_option maxRecDepth 100000 in
set_option maxHeartbeats 4000000 in
theorem c_X6_decideFor (l : Launch) (N : Nat) (w0 : Int64) (w2 : Int64) (w4 : Int64) : kMet l yX6_decideFor cX6_decideFor 6 (some .int) 0 (fun g => [.long w0, .long w2, .long w4]) rI (pX6_decideFor N w0 w2 w4) := by
  refine kStart RX6 (by decide +kernel) rfl (fun g => [(0, .long w0), (2, .long w2), (4, .long w4)]) (fun _ => Nat.le_of_ble_eq_true rfl) (fun _ => rfl) ?_
  intro dC dI g sz Si r Sf hpf p e s m args below meth c X hr H locs I ls hl
  have hx := X.1
  have hb := X.2.1
  unfold pX6_decideFor at hpf
  refine lv_lload hx hb dX6_decideFor_0 (lv_at hl 2 rfl) ?_
  refine lv_lload_n hx hb dX6_decideFor_2 rfl (lv_at hl 0 rfl) ?_
  refine lv_land hx hb dX6_decideFor_3 ?_
  refine lv_lconst (v := (0 : Int64)) hx hb dX6_decideFor_4 (by decide) ?_
  refine W.lcmp hx hb dX6_decideFor_5 ?_
  refine b_if_eq hx hb 11 6 dX6_decideFor_6 (by decide) hpf (fun hpf => ?_) (fun hpf => ?_)
  · refine lv_lload_n hx hb dX6_decideFor_11 rfl (lv_at hl 1 rfl) ?_
    refine lv_lload_n hx hb dX6_decideFor_12 rfl (lv_at hl 0 rfl) ?_
    refine lv_land hx hb dX6_decideFor_13 ?_
    refine lv_lconst (v := (0 : Int64)) hx hb dX6_decideFor_14 (by decide) ?_
    refine W.lcmp hx hb dX6_decideFor_15 ?_
    refine b_if_eq hx hb 23 16 dX6_decideFor_16 (by decide) hpf (fun hpf => ?_) (fun hpf => ?_)
    · refine lv_iconst (v := (0 : Int32)) hx hb dX6_decideFor_23 (by decide) ?_
      exact k_reti X I hr 24 dX6_decideFor_24 hpf
    refine lv_iconst (v := (1 : Int32)) hx hb dX6_decideFor_19 (by decide) ?_
    refine lv_goto (tgt := 24) hx hb dX6_decideFor_20 (by decide) ?_
    exact k_reti X I hr 24 dX6_decideFor_24 hpf
  refine lv_iconst (v := (2 : Int32)) hx hb dX6_decideFor_9 (by decide) ?_
  exact k_reti X I hr 10 dX6_decideFor_10 hpf
-- ===== X6_decide =====
def pX6_decide_82 (N : Nat) (n0 : Nat) (w9 : Int64) (w11 : Int64) (x13 : Int32) (S : kS) : Option (Int32 × kS) :=
    if x13 = (0 : Int32) then (
      bk (pX6_decideFor N (18014398509481984 : Int64) w9 w11 S) fun v101 S102 =>
      some (v101, S102))
    else (
      some (x13, S))
def pX6_decide (N : Nat) (n0 : Nat) (x1 : Int32) (x2 : Int32) (x3 : Int32) (x4 : Int32) (w5 : Int64) (S : kS) : Option (Int32 × kS) :=
    bk (pX6_slot N x1 x2 x3 S) fun v101 S102 =>
    bk (pX6_slot N x1 (2 : Int32) x3 S102) fun v103 S104 =>
    gd v101 288 <|
    gd v103 288 <|
    nml ((kJ S104 (26 + 15 * n0 + 7) v101.toNatClampNeg) ||| (kJ S104 (26 + 15 * n0 + 7) v103.toNatClampNeg)) fun y105 =>
    gd v101 288 <|
    gd v103 288 <|
    nml ((kJ S104 (26 + 15 * n0 + 8) v101.toNatClampNeg) ||| (kJ S104 (26 + 15 * n0 + 8) v103.toNatClampNeg)) fun y106 =>
    bk (pX6_decideFor N ((1 : Int64) <<< (((48 : Int32) + x4).toInt64 &&& 63)) y105 y106 S104) fun v107 S108 =>
    if v107 = (0 : Int32) then (
      bk (pX6_decideFor N w5 y105 y106 S108) fun v109 S110 =>
      pX6_decide_82 N n0 y105 y106 v109 S110)
    else (
      pX6_decide_82 N n0 y105 y106 v107 S108)
set_option maxRecDepth 100000 in
set_option maxHeartbeats 4000000 in
theorem c_X6_decide (l : Launch) (N : Nat) (n0 : Nat) (hn0 : n0 < 5) (x1 : Int32) (x2 : Int32) (x3 : Int32) (x4 : Int32) (w5 : Int64) : kMet l yX6_decide cX6_decide 14 (some .int) 1 (fun g => [.ref (g.2.1 (26 + 15 * n0 + 6)), .int x1, .int x2, .int x3, .int x4, .long w5]) rI (pX6_decide N n0 x1 x2 x3 x4 w5) := by
  refine kStart RX6 (by decide +kernel) rfl (fun g => [(0, .ref (g.2.1 (26 + 15 * n0 + 6))), (1, .int x1), (2, .int x2), (3, .int x3), (4, .int x4), (5, .long w5)]) (fun _ => Nat.le_of_ble_eq_true rfl) (fun _ => rfl) ?_
  intro dC dI g sz Si r Sf hpf p e s m args below meth c X hr H locs I ls hl
  have hx := X.1
  have hb := X.2.1
  unfold pX6_decide at hpf
  have hC_82 : ∀ (w9 : Int64) (w11 : Int64) (x13 : Int32) (S : kS) (H : Heap) (locs : List Loc), kV dC dI g (kAt g (kn Si) (km Si) (kp Si) sz) s Si S H locs → ∀ ls : Array Slot, lv_has ls 14 [(0, .ref (g.2.1 (26 + 15 * n0 + 6))), (9, .long w9), (11, .long w11), (13, .int x13)] → pX6_decide_82 N n0 w9 w11 x13 S = some (r, Sf) → W p l e (mRm 1) s m args below meth c H locs 0 0 (MQ below (kQ dC dI g sz Si (rI g r) Sf) args s 0 0 (kAt g (kn Si) (km Si) (kp Si) sz)) (F0 m 82 ls []) := by
    intro w9 w11 x13 S H locs I ls hl hpf
    unfold pX6_decide_82 at hpf
    refine lv_iload hx hb dX6_decide_82 (lv_at hl 3 rfl) ?_
    refine b_if_ne hx hb 99 84 dX6_decide_84 (by decide) hpf (fun hpf => ?_) (fun hpf => ?_)
    · refine lv_iload hx hb dX6_decide_99 (lv_at hl 3 rfl) ?_
      exact k_reti X I hr 101 dX6_decide_101 hpf
    refine lv_ldc2 (v := (18014398509481984 : Int64)) hx hb X.2.2.2.1 (X.2.2.2.2.1 _ kC_178) dX6_decide_87 ?_
    refine lv_lload hx hb dX6_decide_90 (lv_at hl 1 rfl) ?_
    refine lv_lload hx hb dX6_decide_92 (lv_at hl 2 rfl) ?_
    refine k_cSi (rest := []) (As := [.long (18014398509481984 : Int64), .long w9, .long w11]) (d := 1) ⟨Nat.le_refl _, Nat.le_refl _⟩ X I fn_X6_X6_decideFor (c_X6_decideFor l N (18014398509481984 : Int64) w9 w11) rfl (by decide) 94 dX6_decide_94 rfl hl.1 rfl (Nat.le_of_ble_eq_true rfl) ⟨Nat.le_of_ble_eq_true rfl, Nat.le_of_ble_eq_true rfl⟩ hpf (fun v101 S102 H locs I hm hpf => ?_)
    refine lv_istore (lv' := [(13, .int v101), (0, .ref (g.2.1 (26 + 15 * n0 + 6))), (9, .long w9), (11, .long w11)]) hx hb dX6_decide_97 hl (by decide) rfl (fun ls hl => ?_)
    refine lv_iload hx hb dX6_decide_99 (lv_at hl 0 rfl) ?_
    exact k_reti X I hr 101 dX6_decide_101 hpf
  refine lv_iload_n hx hb dX6_decide_0 rfl (lv_at hl 1 rfl) ?_
  refine lv_iload_n hx hb dX6_decide_1 rfl (lv_at hl 2 rfl) ?_
  refine lv_iload_n hx hb dX6_decide_2 rfl (lv_at hl 3 rfl) ?_
  refine k_cSi (rest := []) (As := [.int x1, .int x2, .int x3]) (d := 1) ⟨Nat.le_refl _, Nat.le_refl _⟩ X I fn_X6_X6_slot (c_X6_slot l N x1 x2 x3) rfl (by decide) 3 dX6_decide_3 rfl hl.1 rfl (Nat.le_of_ble_eq_true rfl) ⟨Nat.le_of_ble_eq_true rfl, Nat.le_of_ble_eq_true rfl⟩ hpf (fun v101 S102 H locs I hm hpf => ?_)
  refine lv_istore (lv' := [(7, .int v101), (0, .ref (g.2.1 (26 + 15 * n0 + 6))), (1, .int x1), (2, .int x2), (3, .int x3), (4, .int x4), (5, .long w5)]) hx hb dX6_decide_6 hl (by decide) rfl (fun ls hl => ?_)
  refine lv_iload_n hx hb dX6_decide_8 rfl (lv_at hl 2 rfl) ?_
  refine lv_iconst (v := (2 : Int32)) hx hb dX6_decide_9 (by decide) ?_
  refine lv_iload_n hx hb dX6_decide_10 rfl (lv_at hl 4 rfl) ?_
  refine k_cSi (rest := []) (As := [.int x1, .int (2 : Int32), .int x3]) (d := 1) ⟨Nat.le_refl _, Nat.le_refl _⟩ X I fn_X6_X6_slot (c_X6_slot l N x1 (2 : Int32) x3) rfl (by decide) 11 dX6_decide_11 rfl hl.1 rfl (Nat.le_of_ble_eq_true rfl) ⟨Nat.le_of_ble_eq_true rfl, Nat.le_of_ble_eq_true rfl⟩ hpf (fun v103 S104 H locs I hm hpf => ?_)
  refine lv_istore (lv' := [(8, .int v103), (7, .int v101), (0, .ref (g.2.1 (26 + 15 * n0 + 6))), (1, .int x1), (2, .int x2), (3, .int x3), (4, .int x4), (5, .long w5)]) hx hb dX6_decide_14 hl (by decide) rfl (fun ls hl => ?_)
  refine lv_aload_n hx hb dX6_decide_16 rfl (lv_at hl 2 rfl) ?_
  refine k_get (k := 0) X I kCl_6 (kO_R g S104 n0 hn0) 0 (by decide) rfl kC_176 17 dX6_decide_17 ?_
  refine lv_iload hx hb dX6_decide_20 (lv_at hl 1 rfl) ?_
  refine k_lald X I (kR_T7 n0 hn0) 22 dX6_decide_22 hpf (fun hpf => ?_)
  refine lv_aload_n hx hb dX6_decide_23 rfl (lv_at hl 2 rfl) ?_
  refine k_get (k := 0) X I kCl_6 (kO_R g S104 n0 hn0) 0 (by decide) rfl kC_176 24 dX6_decide_24 ?_
  refine lv_iload hx hb dX6_decide_27 (lv_at hl 0 rfl) ?_
  refine k_lald X I (kR_T7 n0 hn0) 29 dX6_decide_29 hpf (fun hpf => ?_)
  refine lv_lor hx hb dX6_decide_30 ?_
  refine k_lsto hx hb (fun y105 => [(9, .long y105), (8, .int v103), (7, .int v101), (0, .ref (g.2.1 (26 + 15 * n0 + 6))), (1, .int x1), (2, .int x2), (3, .int x3), (4, .int x4), (5, .long w5)]) 31 dX6_decide_31 hl (by decide) (fun _ => rfl) hpf (fun y105 ls hl hpf => ?_)
  refine lv_aload_n hx hb dX6_decide_33 rfl (lv_at hl 3 rfl) ?_
  refine k_get (k := 0) X I kCl_6 (kO_R g S104 n0 hn0) 1 (by decide) rfl kC_177 34 dX6_decide_34 ?_
  refine lv_iload hx hb dX6_decide_37 (lv_at hl 2 rfl) ?_
  refine k_lald X I (kR_T8 n0 hn0) 39 dX6_decide_39 hpf (fun hpf => ?_)
  refine lv_aload_n hx hb dX6_decide_40 rfl (lv_at hl 3 rfl) ?_
  refine k_get (k := 0) X I kCl_6 (kO_R g S104 n0 hn0) 1 (by decide) rfl kC_177 41 dX6_decide_41 ?_
  refine lv_iload hx hb dX6_decide_44 (lv_at hl 1 rfl) ?_
  refine k_lald X I (kR_T8 n0 hn0) 46 dX6_decide_46 hpf (fun hpf => ?_)
  refine lv_lor hx hb dX6_decide_47 ?_
  refine k_lsto hx hb (fun y106 => [(11, .long y106), (9, .long y105), (8, .int v103), (7, .int v101), (0, .ref (g.2.1 (26 + 15 * n0 + 6))), (1, .int x1), (2, .int x2), (3, .int x3), (4, .int x4), (5, .long w5)]) 48 dX6_decide_48 hl (by decide) (fun _ => rfl) hpf (fun y106 ls hl hpf => ?_)
  refine lv_lconst (v := (1 : Int64)) hx hb dX6_decide_50 (by decide) ?_
  refine lv_bipush (v := (48 : Int32)) hx hb dX6_decide_51 (by decide) ?_
  refine lv_iload hx hb dX6_decide_53 (lv_at hl 8 rfl) ?_
  refine lv_iadd hx hb dX6_decide_55 ?_
  refine lv_lshl hx hb dX6_decide_56 rfl ?_
  refine lv_lload hx hb dX6_decide_57 (lv_at hl 1 rfl) ?_
  refine lv_lload hx hb dX6_decide_59 (lv_at hl 0 rfl) ?_
  refine k_cSi (rest := []) (As := [.long ((1 : Int64) <<< (((48 : Int32) + x4).toInt64 &&& 63)), .long y105, .long y106]) (d := 1) ⟨Nat.le_refl _, Nat.le_refl _⟩ X I fn_X6_X6_decideFor (c_X6_decideFor l N ((1 : Int64) <<< (((48 : Int32) + x4).toInt64 &&& 63)) y105 y106) rfl (by decide) 61 dX6_decide_61 rfl hl.1 rfl (Nat.le_of_ble_eq_true rfl) ⟨Nat.le_of_ble_eq_true rfl, Nat.le_of_ble_eq_true rfl⟩ hpf (fun v107 S108 H locs I hm hpf => ?_)
  refine lv_istore (lv' := [(13, .int v107), (11, .long y106), (9, .long y105), (8, .int v103), (7, .int v101), (0, .ref (g.2.1 (26 + 15 * n0 + 6))), (1, .int x1), (2, .int x2), (3, .int x3), (4, .int x4), (5, .long w5)]) hx hb dX6_decide_64 hl (by decide) rfl (fun ls hl => ?_)
  refine lv_iload hx hb dX6_decide_66 (lv_at hl 0 rfl) ?_
  refine b_if_ne hx hb 82 68 dX6_decide_68 (by decide) hpf (fun hpf => ?_) (fun hpf => ?_)
  · exact hC_82 y105 y106 v107 S108 H locs I ls (lv_sub hl [5, 2, 1, 0] rfl) hpf
  refine lv_lload hx hb dX6_decide_71 (lv_at hl 10 rfl) ?_
  refine lv_lload hx hb dX6_decide_73 (lv_at hl 2 rfl) ?_
  refine lv_lload hx hb dX6_decide_75 (lv_at hl 1 rfl) ?_
  refine k_cSi (rest := []) (As := [.long w5, .long y105, .long y106]) (d := 1) ⟨Nat.le_refl _, Nat.le_refl _⟩ X I fn_X6_X6_decideFor (c_X6_decideFor l N w5 y105 y106) rfl (by decide) 77 dX6_decide_77 rfl hl.1 rfl (Nat.le_of_ble_eq_true rfl) ⟨Nat.le_of_ble_eq_true rfl, Nat.le_of_ble_eq_true rfl⟩ hpf (fun v109 S110 H locs I hm hpf => ?_)
  refine lv_istore (lv' := [(13, .int v109), (11, .long y106), (9, .long y105), (8, .int v103), (7, .int v101), (0, .ref (g.2.1 (26 + 15 * n0 + 6))), (1, .int x1), (2, .int x2), (3, .int x3), (4, .int x4), (5, .long w5)]) hx hb dX6_decide_80 hl (by decide) rfl (fun ls hl => ?_)
  exact hC_82 y105 y106 v109 S110 H locs I ls (lv_sub hl [5, 2, 1, 0] rfl) hpf
