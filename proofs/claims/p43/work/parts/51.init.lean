-- the constructors
theorem nWv.perm {dC : Nat → ClassId} {dI : Nat → Nat → Nat} {A : Nat → Prop} {s : State} {ws ws' : va_W} {H : Heap} {locs : List Loc} (I : nWv dC dI A s ws H locs) (hp : ws.Perm ws') : nWv dC dI A s ws' H locs := ⟨va_P_of I.1 (fun z hz => hp.mem_iff.mpr hz), va_D_perm I.2.1 hp, I.2.2⟩
theorem perm_toEnd {α : Type} : ∀ (ws : List α) (k : Nat) (x : α), ws[k]? = some x → ws.Perm (ws.eraseIdx k ++ [x])
  | y :: ws, 0, x, h => by
    cases h
    exact (List.perm_append_singleton y ws).symm
  | y :: ws, k + 1, x, h => (perm_toEnd ws k x h).cons y
theorem nWv.toEnd {dC : Nat → ClassId} {dI : Nat → Nat → Nat} {A : Nat → Prop} {s : State} {ws : va_W} {x : Nat × va_E} {H : Heap} {locs : List Loc} (I : nWv dC dI A s ws H locs) (k : Nat) (hk : ws[k]? = some x) : nWv dC dI A s (ws.eraseIdx k ++ [x]) H locs := I.perm (perm_toEnd ws k x hk)
theorem vp_cellI_eq {cA : ClassId} {n : Nat} {f f' : Nat → Int32} (h : ∀ j, j < n → f j = f' j) : vp_cell cA (n, .inl f) = vp_cell cA (n, .inl f') := by
  show arrV cA n (fun j => .int (f j)) = arrV cA n (fun j => .int (f' j))
  unfold arrV
  congr 2
  funext j
  show Value.int (f j.val) = Value.int (f' j.val)
  rw [h j.val j.isLt]
theorem vp_cellJ_eq {cA : ClassId} {n : Nat} {f f' : Nat → Int64} (h : ∀ j, j < n → f j = f' j) : vp_cell cA (n, .inr (.inl f)) = vp_cell cA (n, .inr (.inl f')) := by
  show arrV cA n (fun j => .long (f j)) = arrV cA n (fun j => .long (f' j))
  unfold arrV
  congr 2
  funext j
  show Value.long (f j.val) = Value.long (f' j.val)
  rw [h j.val j.isLt]
theorem i32_ofNat_succ (i : Nat) : Int32.ofNat i + Int32.ofInt 1 = Int32.ofNat (i + 1) := by
  rw [Int32.ofNat_add]; rfl
set_option maxRecDepth 100000 in
set_option maxHeartbeats 4000000 in
theorem n_J7_fill_53178 (l : Launch) (a n : Nat) (hn : n ≤ 1000) (f : Nat → Int32) (v : Int32) : nMet l yJ7_fill_53178 cJ7_fill_53178 4 0 0 0 [.ref a, .int v] (fun g => [(a, .inl (g.1 0, n, .inl f))]) (fun g ws' => ws' = [(a, .inl (g.1 0, n, .inl (fun _ => v)))]) := by
  refine n_start RJ7 (by decide +kernel) rfl [(0, .ref a), (1, .int v)] (Nat.le_of_ble_eq_true rfl) rfl ?_
  intro dC dI g sz p e s m args below meth c X hE hnm hr H locs I ls hl
  have hx := X.1
  have hb := X.2.1
  have key : ∀ (k i : Nat), i + k = n → ∀ (f' : Nat → Int32), (∀ j, j < i → f' j = v) → ∀ (H : Heap) (locs : List Loc), nWv dC dI (nA [(a, .inl (g.1 0, n, .inl f))] sz) s [(a, .inl (g.1 0, n, .inl f'))] H locs → ∀ ls : Array Slot, lv_has ls 4 [(2, .int (Int32.ofNat i)), (3, .int (Int32.ofNat n)), (0, .ref a), (1, .int v)] → W p l e (xRm 0 0 0) s m args below meth c H locs 0 0 (MQ below (nQ dC dI sz [(a, .inl (g.1 0, n, .inl f))] (fun ws' => ws' = [(a, .inl (g.1 0, n, .inl (fun _ => v)))])) args s 0 0 (nA [(a, .inl (g.1 0, n, .inl f))] sz)) (F0 m 5 ls []) := by
    intro k
    induction k with
    | zero =>
      intro i hi f' hf H locs I ls hl
      have e : i = n := by omega
      subst e
      refine lv_iload_n hx hb dJ7_fill_53178_5 rfl (lv_at hl 0 rfl) ?_
      refine lv_iload_n hx hb dJ7_fill_53178_6 rfl (lv_at hl 1 rfl) ?_
      refine lv_icmp_ge (tgt := 20) hx hb dJ7_fill_53178_7 (by decide) (fun _ => ?_) (fun h => absurd (Int32.le_refl _) h)
      have hP : va_P (dC, dI) vwCl [(a, .inl (g.1 0, i, .inl (fun _ => v)))] H := fun k q hk => by
        match k, hk with
        | 0, hk =>
          cases hk
          have h0 : H[a]? = some _ := I.1 0 _ rfl
          show H[a]? = some _
          rw [h0]
          exact congrArg some (vp_cellI_eq hf)
      have I2 : nWv dC dI (nA [(a, .inl (g.1 0, i, .inl f))] sz) s [(a, .inl (g.1 0, i, .inl (fun _ => v)))] H locs := ⟨hP, ⟨fun k j p q hk hj _ => by
        match k, j, hk, hj with
        | 0, 0, _, _ => rfl, fun k q hk => by
        match k, hk with
        | 0, hk => cases hk; exact I.2.1.2 0 (a, .inl (g.1 0, i, .inl f')) rfl⟩, I.2.2⟩
      refine n_ret X I2 ?_ hr ⟨Nat.le_refl _, Nat.le_refl _⟩ 20 dJ7_fill_53178_20
      exact rfl
    | succ k ih =>
      intro i hi f' hf H locs I ls hl
      have hi1 : (Int32.ofNat i).toNatClampNeg = i := nat_i32 (by omega)
      refine lv_iload_n hx hb dJ7_fill_53178_5 rfl (lv_at hl 0 rfl) ?_
      refine lv_iload_n hx hb dJ7_fill_53178_6 rfl (lv_at hl 1 rfl) ?_
      refine lv_icmp_ge (tgt := 20) hx hb dJ7_fill_53178_7 (by decide) (fun h => absurd ((Int32.ofNat_le_ofNat (by omega) (by omega)).mp h) (by omega)) (fun _ => ?_)
      refine lv_aload_n hx hb dJ7_fill_53178_10 rfl (lv_at hl 2 rfl) ?_
      refine lv_iload_n hx hb dJ7_fill_53178_11 rfl (lv_at hl 0 rfl) ?_
      refine lv_iload_n hx hb dJ7_fill_53178_12 rfl (lv_at hl 3 rfl) ?_
      refine va_iast hx hb X.2.2.2.2.2.1 I.1 I.2.1 I.2.2 0 0 rfl rfl (fun h => h.elim (nat_i32_nn (by omega)) (by rw [hi1]; omega)) dJ7_fill_53178_13 (fun H1 locs1 hP hD hS => ?_)
      rw [hi1] at hP hD
      refine lv_iinc (lv' := [(2, .int (Int32.ofNat (i + 1))), (3, .int (Int32.ofNat n)), (0, .ref a), (1, .int v)]) hx hb dJ7_fill_53178_14 hl (k := 0) rfl (i32_ofNat_succ i) (by decide) rfl (fun ls hl => ?_)
      refine lv_goto (tgt := 5) hx hb dJ7_fill_53178_17 (by decide) ?_
      refine ih (i + 1) (by omega) (upd f' i v) (fun j hj => ?_) H1 locs1 ⟨hP, hD, hS⟩ ls hl
      show (if j = i then v else f' j) = v
      by_cases h : j = i
      · rw [if_pos h]
      · rw [if_neg h]; exact hf j (by omega)
  refine lv_iconst (v := (0 : Int32)) hx hb dJ7_fill_53178_0 (by decide) ?_
  refine lv_istore_n (lv' := [(2, .int (Int32.ofNat 0)), (0, .ref a), (1, .int v)]) hx hb dJ7_fill_53178_1 rfl hl (by decide) rfl (fun ls hl => ?_)
  refine lv_aload_n hx hb dJ7_fill_53178_2 rfl (lv_at hl 1 rfl) ?_
  refine va_alen hx hb X.2.2.2.2.2.1 I.1 0 0 rfl (ty := .int) rfl (v := Int32.ofNat n) rfl dJ7_fill_53178_3 ?_
  refine lv_istore_n (lv' := [(3, .int (Int32.ofNat n)), (2, .int (Int32.ofNat 0)), (0, .ref a), (1, .int v)]) hx hb dJ7_fill_53178_4 rfl hl (by decide) rfl (fun ls hl => ?_)
  exact key n 0 (by omega) f (fun j hj => absurd hj (Nat.not_lt_zero j)) H locs I ls (lv_sub hl [1, 0, 2, 3] rfl)
set_option maxRecDepth 100000 in
set_option maxHeartbeats 4000000 in
theorem n_J7_fill_d0a16 (l : Launch) (a n : Nat) (hn : n ≤ 1000) (f : Nat → Int64) (v : Int64) : nMet l yJ7_fill_d0a16 cJ7_fill_d0a16 5 0 0 0 [.ref a, .long v] (fun g => [(a, .inl (g.1 1, n, .inr (.inl f)))]) (fun g ws' => ws' = [(a, .inl (g.1 1, n, .inr (.inl (fun _ => v))))]) := by
  refine n_start RJ7 (by decide +kernel) rfl [(0, .ref a), (1, .long v)] (Nat.le_of_ble_eq_true rfl) rfl ?_
  intro dC dI g sz p e s m args below meth c X hE hnm hr H locs I ls hl
  have hx := X.1
  have hb := X.2.1
  have key : ∀ (k i : Nat), i + k = n → ∀ (f' : Nat → Int64), (∀ j, j < i → f' j = v) → ∀ (H : Heap) (locs : List Loc), nWv dC dI (nA [(a, .inl (g.1 1, n, .inr (.inl f)))] sz) s [(a, .inl (g.1 1, n, .inr (.inl f')))] H locs → ∀ ls : Array Slot, lv_has ls 5 [(3, .int (Int32.ofNat i)), (4, .int (Int32.ofNat n)), (0, .ref a), (1, .long v)] → W p l e (xRm 0 0 0) s m args below meth c H locs 0 0 (MQ below (nQ dC dI sz [(a, .inl (g.1 1, n, .inr (.inl f)))] (fun ws' => ws' = [(a, .inl (g.1 1, n, .inr (.inl (fun _ => v))))])) args s 0 0 (nA [(a, .inl (g.1 1, n, .inr (.inl f)))] sz)) (F0 m 6 ls []) := by
    intro k
    induction k with
    | zero =>
      intro i hi f' hf H locs I ls hl
      have e : i = n := by omega
      subst e
      refine lv_iload_n hx hb dJ7_fill_d0a16_6 rfl (lv_at hl 0 rfl) ?_
      refine lv_iload hx hb dJ7_fill_d0a16_7 (lv_at hl 1 rfl) ?_
      refine lv_icmp_ge (tgt := 22) hx hb dJ7_fill_d0a16_9 (by decide) (fun _ => ?_) (fun h => absurd (Int32.le_refl _) h)
      have hP : va_P (dC, dI) vwCl [(a, .inl (g.1 1, i, .inr (.inl (fun _ => v))))] H := fun k q hk => by
        match k, hk with
        | 0, hk =>
          cases hk
          have h0 : H[a]? = some _ := I.1 0 _ rfl
          show H[a]? = some _
          rw [h0]
          exact congrArg some (vp_cellJ_eq hf)
      have I2 : nWv dC dI (nA [(a, .inl (g.1 1, i, .inr (.inl f)))] sz) s [(a, .inl (g.1 1, i, .inr (.inl (fun _ => v))))] H locs := ⟨hP, ⟨fun k j p q hk hj _ => by
        match k, j, hk, hj with
        | 0, 0, _, _ => rfl, fun k q hk => by
        match k, hk with
        | 0, hk => cases hk; exact I.2.1.2 0 (a, .inl (g.1 1, i, .inr (.inl f'))) rfl⟩, I.2.2⟩
      refine n_ret X I2 ?_ hr ⟨Nat.le_refl _, Nat.le_refl _⟩ 22 dJ7_fill_d0a16_22
      exact rfl
    | succ k ih =>
      intro i hi f' hf H locs I ls hl
      have hi1 : (Int32.ofNat i).toNatClampNeg = i := nat_i32 (by omega)
      refine lv_iload_n hx hb dJ7_fill_d0a16_6 rfl (lv_at hl 0 rfl) ?_
      refine lv_iload hx hb dJ7_fill_d0a16_7 (lv_at hl 1 rfl) ?_
      refine lv_icmp_ge (tgt := 22) hx hb dJ7_fill_d0a16_9 (by decide) (fun h => absurd ((Int32.ofNat_le_ofNat (by omega) (by omega)).mp h) (by omega)) (fun _ => ?_)
      refine lv_aload_n hx hb dJ7_fill_d0a16_12 rfl (lv_at hl 2 rfl) ?_
      refine lv_iload_n hx hb dJ7_fill_d0a16_13 rfl (lv_at hl 0 rfl) ?_
      refine lv_lload_n hx hb dJ7_fill_d0a16_14 rfl (lv_at hl 3 rfl) ?_
      refine va_last hx hb X.2.2.2.2.2.1 I.1 I.2.1 I.2.2 0 1 rfl rfl (fun h => h.elim (nat_i32_nn (by omega)) (by rw [hi1]; omega)) dJ7_fill_d0a16_15 (fun H1 locs1 hP hD hS => ?_)
      rw [hi1] at hP hD
      refine lv_iinc (lv' := [(3, .int (Int32.ofNat (i + 1))), (4, .int (Int32.ofNat n)), (0, .ref a), (1, .long v)]) hx hb dJ7_fill_d0a16_16 hl (k := 0) rfl (i32_ofNat_succ i) (by decide) rfl (fun ls hl => ?_)
      refine lv_goto (tgt := 6) hx hb dJ7_fill_d0a16_19 (by decide) ?_
      refine ih (i + 1) (by omega) (vp_updL f' i v) (fun j hj => ?_) H1 locs1 ⟨hP, hD, hS⟩ ls hl
      show (if j = i then v else f' j) = v
      by_cases h : j = i
      · rw [if_pos h]
      · rw [if_neg h]; exact hf j (by omega)
  refine lv_iconst (v := (0 : Int32)) hx hb dJ7_fill_d0a16_0 (by decide) ?_
  refine lv_istore_n (lv' := [(3, .int (Int32.ofNat 0)), (0, .ref a), (1, .long v)]) hx hb dJ7_fill_d0a16_1 rfl hl (by decide) rfl (fun ls hl => ?_)
  refine lv_aload_n hx hb dJ7_fill_d0a16_2 rfl (lv_at hl 1 rfl) ?_
  refine va_alen hx hb X.2.2.2.2.2.1 I.1 0 1 rfl (ty := .long) rfl (v := Int32.ofNat n) rfl dJ7_fill_d0a16_3 ?_
  refine lv_istore (lv' := [(4, .int (Int32.ofNat n)), (3, .int (Int32.ofNat 0)), (0, .ref a), (1, .long v)]) hx hb dJ7_fill_d0a16_4 hl (by decide) rfl (fun ls hl => ?_)
  exact key n 0 (by omega) f (fun j hj => absurd hj (Nat.not_lt_zero j)) H locs I ls (lv_sub hl [1, 0, 2, 3] rfl)
theorem fn_X8_X8_clear : kFnI RX8 yX8_clear cX8_clear 1 none 0 53 := ⟨⟨kC_347, kC_121, kC_337, ⟨by decide +kernel, by decide +kernel, by decide +kernel⟩, by decide⟩, kC_348, kC_349⟩
set_option maxRecDepth 100000 in
set_option maxHeartbeats 4000000 in
theorem n_X5_clear (l : Launch) (a h : Nat) (x : Int32) : nMet l yX5_clear cX5_clear 1 0 0 0 [.ref a] (fun g => [(a, .inr (8, [.ref h, .int x]))]) (fun g ws' => ws' = [(a, .inr (8, [.ref h, .int (0 : Int32)]))]) := by
  refine n_start RX5 (by decide +kernel) rfl [(0, .ref a)] (Nat.le_of_ble_eq_true rfl) rfl ?_
  intro dC dI g sz p e s m args below meth c X hE hnm hr H locs I ls hl
  have hx := X.1
  have hb := X.2.1
  refine lv_aload_n hx hb dX5_clear_0 rfl (lv_at hl 0 rfl) ?_
  refine lv_iconst (v := (0 : Int32)) hx hb dX5_clear_1 (by decide) ?_
  refine n_put (ty := .int) [(a, .inr (8, [.ref h, .int (0 : Int32)]))] X I kCl_5 tyX5_ok nmX5 0 rfl 1 (by decide) (Nat.le_of_ble_eq_true rfl) rfl kC_103 rfl (by decide +kernel) rfl rfl 2 dX5_clear_2 (fun H locs I => ?_)
  refine n_ret X I ?_ hr ⟨Nat.le_of_ble_eq_true rfl, Nat.le_of_ble_eq_true rfl⟩ 5 dX5_clear_5
  exact rfl
set_option maxRecDepth 100000 in
set_option maxHeartbeats 4000000 in
theorem n_X6_clear (l : Launch) (a c1 c2 : Nat) (f1 f2 : Nat → Int64) : nMet l yX6_clear cX6_clear 1 1 0 0 [.ref a] (fun g => [(a, .inr (9, [.ref c1, .ref c2])), (c1, .inl (g.1 1, 288, .inr (.inl f1))), (c2, .inl (g.1 1, 288, .inr (.inl f2)))]) (fun g ws' => ws' = [(a, .inr (9, [.ref c1, .ref c2])), (c1, .inl (g.1 1, 288, .inr (.inl (fun _ => (0 : Int64))))), (c2, .inl (g.1 1, 288, .inr (.inl (fun _ => (0 : Int64)))))]) := by
  refine n_start RX6 (by decide +kernel) rfl [(0, .ref a)] (Nat.le_of_ble_eq_true rfl) rfl ?_
  intro dC dI g sz p e s m args below meth c X hE hnm hr H locs I ls hl
  have hx := X.1
  have hb := X.2.1
  refine lv_aload_n hx hb dX6_clear_0 rfl (lv_at hl 0 rfl) ?_
  refine n_get X I kCl_6 0 rfl 0 (by decide) rfl kC_176 1 dX6_clear_1 ?_
  refine lv_lconst (v := (0 : Int64)) hx hb dX6_clear_4 (by decide) ?_
  have I : nWv dC dI _ s [(a, .inr (9, [.ref c1, .ref c2])), (c2, .inl (g.1 1, 288, .inr (.inl f2))), (c1, .inl (g.1 1, 288, .inr (.inl f1)))] H locs := I.toEnd 1 rfl
  refine n_callS (ws0 := [(a, .inr (9, [.ref c1, .ref c2])), (c2, .inl (g.1 1, 288, .inr (.inl f2)))]) (rest := []) (As := [.ref c1, .long (0 : Int64)]) (d := 1) ⟨Nat.le_refl _, Nat.le_refl _⟩ X hE I fn_X6_J7_fill_d0a16 (n_J7_fill_d0a16 l c1 288 (by decide) f1 (0 : Int64)) (by decide) 5 dX6_clear_5 rfl hl.1 rfl (Nat.le_of_ble_eq_true rfl) ⟨Nat.le_of_ble_eq_true rfl, Nat.le_of_ble_eq_true rfl⟩ (fun ws1 H locs hPo I => ?_)
  subst hPo
  have I : nWv dC dI _ s [(a, .inr (9, [.ref c1, .ref c2])), (c2, .inl (g.1 1, 288, .inr (.inl f2))), (c1, .inl (g.1 1, 288, .inr (.inl (fun _ => (0 : Int64)))))] H locs := I
  refine lv_aload_n hx hb dX6_clear_8 rfl (lv_at hl 0 rfl) ?_
  refine n_get X I kCl_6 0 rfl 1 (by decide) rfl kC_177 9 dX6_clear_9 ?_
  refine lv_lconst (v := (0 : Int64)) hx hb dX6_clear_12 (by decide) ?_
  have I : nWv dC dI _ s [(a, .inr (9, [.ref c1, .ref c2])), (c1, .inl (g.1 1, 288, .inr (.inl (fun _ => (0 : Int64))))), (c2, .inl (g.1 1, 288, .inr (.inl f2)))] H locs := I.toEnd 1 rfl
  refine n_callS (ws0 := [(a, .inr (9, [.ref c1, .ref c2])), (c1, .inl (g.1 1, 288, .inr (.inl (fun _ => (0 : Int64)))))]) (rest := []) (As := [.ref c2, .long (0 : Int64)]) (d := 1) ⟨Nat.le_refl _, Nat.le_refl _⟩ X hE I fn_X6_J7_fill_d0a16 (n_J7_fill_d0a16 l c2 288 (by decide) f2 (0 : Int64)) (by decide) 13 dX6_clear_13 rfl hl.1 rfl (Nat.le_of_ble_eq_true rfl) ⟨Nat.le_of_ble_eq_true rfl, Nat.le_of_ble_eq_true rfl⟩ (fun ws1 H locs hPo I => ?_)
  subst hPo
  have I : nWv dC dI _ s [(a, .inr (9, [.ref c1, .ref c2])), (c1, .inl (g.1 1, 288, .inr (.inl (fun _ => (0 : Int64))))), (c2, .inl (g.1 1, 288, .inr (.inl (fun _ => (0 : Int64)))))] H locs := I
  have I : nWv dC dI _ s [(c1, .inl (g.1 1, 288, .inr (.inl (fun _ => (0 : Int64))))), (c2, .inl (g.1 1, 288, .inr (.inl (fun _ => (0 : Int64))))), (a, .inr (9, [.ref c1, .ref c2]))] H locs := I.toEnd 0 rfl
  have I : nWv dC dI _ s [(c2, .inl (g.1 1, 288, .inr (.inl (fun _ => (0 : Int64))))), (a, .inr (9, [.ref c1, .ref c2])), (c1, .inl (g.1 1, 288, .inr (.inl (fun _ => (0 : Int64)))))] H locs := I.toEnd 0 rfl
  have I : nWv dC dI _ s [(a, .inr (9, [.ref c1, .ref c2])), (c1, .inl (g.1 1, 288, .inr (.inl (fun _ => (0 : Int64))))), (c2, .inl (g.1 1, 288, .inr (.inl (fun _ => (0 : Int64)))))] H locs := I.toEnd 0 rfl
  refine n_ret X I ?_ hr ⟨Nat.le_of_ble_eq_true rfl, Nat.le_of_ble_eq_true rfl⟩ 16 dX6_clear_16
  exact rfl
set_option maxRecDepth 100000 in
set_option maxHeartbeats 4000000 in
theorem n_X8_clear (l : Launch) (a c1 c2 c3 r r1 r2 c4 c5 m0 m0r m1 m1r m2 m2r h : Nat) : nMet l yX8_clear cX8_clear 1 2 0 0 [.ref a] (fun g => [(a, .inr (11, [.ref c1, .ref c2, .ref c3, .ref r, .ref h, .ref c4, .ref c5, .ref m0, .ref m1, .ref m2, .long 0, .long 0])), (c1, .inl (g.1 0, 48, .inl (fun _ => 0))), (c2, .inl (g.1 0, 48, .inl (fun _ => 0))), (c3, .inl (g.1 0, 48, .inl (fun _ => 0))), (r, .inr (9, [.ref r1, .ref r2])), (r1, .inl (g.1 1, 288, .inr (.inl (fun _ => 0)))), (r2, .inl (g.1 1, 288, .inr (.inl (fun _ => 0)))), (c4, .inl (g.1 0, 48, .inl (fun _ => 0))), (c5, .inl (g.1 0, 48, .inl (fun _ => 0))), (m0, .inr (8, [.ref m0r, .int 0])), (m0r, .inl (g.1 0, 826, .inl (fun _ => 0))), (m1, .inr (8, [.ref m1r, .int 0])), (m1r, .inl (g.1 0, 826, .inl (fun _ => 0))), (m2, .inr (8, [.ref m2r, .int 0])), (m2r, .inl (g.1 0, 48, .inl (fun _ => 0)))]) (fun g ws' => ws' = [(a, .inr (11, [.ref c1, .ref c2, .ref c3, .ref r, .ref h, .ref c4, .ref c5, .ref m0, .ref m1, .ref m2, .long (1 : Int64), .long (0 : Int64)])), (c1, .inl (g.1 0, 48, .inl (fun _ => (0 : Int32)))), (c2, .inl (g.1 0, 48, .inl (fun _ => (-1 : Int32)))), (c3, .inl (g.1 0, 48, .inl (fun _ => (-1 : Int32)))), (r, .inr (9, [.ref r1, .ref r2])), (r1, .inl (g.1 1, 288, .inr (.inl (fun _ => (0 : Int64))))), (r2, .inl (g.1 1, 288, .inr (.inl (fun _ => (0 : Int64))))), (c4, .inl (g.1 0, 48, .inl (fun _ => (-1 : Int32)))), (c5, .inl (g.1 0, 48, .inl (fun _ => 0))), (m0, .inr (8, [.ref m0r, .int (0 : Int32)])), (m0r, .inl (g.1 0, 826, .inl (fun _ => 0))), (m1, .inr (8, [.ref m1r, .int (0 : Int32)])), (m1r, .inl (g.1 0, 826, .inl (fun _ => 0))), (m2, .inr (8, [.ref m2r, .int 0])), (m2r, .inl (g.1 0, 48, .inl (fun _ => 0)))]) := by
  refine n_start RX8 (by decide +kernel) rfl [(0, .ref a)] (Nat.le_of_ble_eq_true rfl) rfl ?_
  intro dC dI g sz p e s m args below meth c X hE hnm hr H locs I ls hl
  have hx := X.1
  have hb := X.2.1
  refine lv_aload_n hx hb dX8_clear_0 rfl (lv_at hl 0 rfl) ?_
  refine n_get X I kCl_8 0 rfl 0 (by decide) rfl kC_235 1 dX8_clear_1 ?_
  refine lv_iconst (v := (0 : Int32)) hx hb dX8_clear_4 (by decide) ?_
  have I : nWv dC dI _ s [(a, .inr (11, [.ref c1, .ref c2, .ref c3, .ref r, .ref h, .ref c4, .ref c5, .ref m0, .ref m1, .ref m2, .long 0, .long 0])), (c2, .inl (g.1 0, 48, .inl (fun _ => 0))), (c3, .inl (g.1 0, 48, .inl (fun _ => 0))), (r, .inr (9, [.ref r1, .ref r2])), (r1, .inl (g.1 1, 288, .inr (.inl (fun _ => 0)))), (r2, .inl (g.1 1, 288, .inr (.inl (fun _ => 0)))), (c4, .inl (g.1 0, 48, .inl (fun _ => 0))), (c5, .inl (g.1 0, 48, .inl (fun _ => 0))), (m0, .inr (8, [.ref m0r, .int 0])), (m0r, .inl (g.1 0, 826, .inl (fun _ => 0))), (m1, .inr (8, [.ref m1r, .int 0])), (m1r, .inl (g.1 0, 826, .inl (fun _ => 0))), (m2, .inr (8, [.ref m2r, .int 0])), (m2r, .inl (g.1 0, 48, .inl (fun _ => 0))), (c1, .inl (g.1 0, 48, .inl (fun _ => 0)))] H locs := I.toEnd 1 rfl
  refine n_callS (ws0 := [(a, .inr (11, [.ref c1, .ref c2, .ref c3, .ref r, .ref h, .ref c4, .ref c5, .ref m0, .ref m1, .ref m2, .long 0, .long 0])), (c2, .inl (g.1 0, 48, .inl (fun _ => 0))), (c3, .inl (g.1 0, 48, .inl (fun _ => 0))), (r, .inr (9, [.ref r1, .ref r2])), (r1, .inl (g.1 1, 288, .inr (.inl (fun _ => 0)))), (r2, .inl (g.1 1, 288, .inr (.inl (fun _ => 0)))), (c4, .inl (g.1 0, 48, .inl (fun _ => 0))), (c5, .inl (g.1 0, 48, .inl (fun _ => 0))), (m0, .inr (8, [.ref m0r, .int 0])), (m0r, .inl (g.1 0, 826, .inl (fun _ => 0))), (m1, .inr (8, [.ref m1r, .int 0])), (m1r, .inl (g.1 0, 826, .inl (fun _ => 0))), (m2, .inr (8, [.ref m2r, .int 0])), (m2r, .inl (g.1 0, 48, .inl (fun _ => 0)))]) (rest := []) (As := [.ref c1, .int (0 : Int32)]) (d := 2) ⟨Nat.le_refl _, Nat.le_refl _⟩ X hE I fn_X8_J7_fill_53178 (n_J7_fill_53178 l c1 48 (by decide) (fun _ => 0) (0 : Int32)) (by decide) 5 dX8_clear_5 rfl hl.1 rfl (Nat.le_of_ble_eq_true rfl) ⟨Nat.le_of_ble_eq_true rfl, Nat.le_of_ble_eq_true rfl⟩ (fun ws1 H locs hPo I => ?_)
  subst hPo
  have I : nWv dC dI _ s [(a, .inr (11, [.ref c1, .ref c2, .ref c3, .ref r, .ref h, .ref c4, .ref c5, .ref m0, .ref m1, .ref m2, .long 0, .long 0])), (c2, .inl (g.1 0, 48, .inl (fun _ => 0))), (c3, .inl (g.1 0, 48, .inl (fun _ => 0))), (r, .inr (9, [.ref r1, .ref r2])), (r1, .inl (g.1 1, 288, .inr (.inl (fun _ => 0)))), (r2, .inl (g.1 1, 288, .inr (.inl (fun _ => 0)))), (c4, .inl (g.1 0, 48, .inl (fun _ => 0))), (c5, .inl (g.1 0, 48, .inl (fun _ => 0))), (m0, .inr (8, [.ref m0r, .int 0])), (m0r, .inl (g.1 0, 826, .inl (fun _ => 0))), (m1, .inr (8, [.ref m1r, .int 0])), (m1r, .inl (g.1 0, 826, .inl (fun _ => 0))), (m2, .inr (8, [.ref m2r, .int 0])), (m2r, .inl (g.1 0, 48, .inl (fun _ => 0))), (c1, .inl (g.1 0, 48, .inl (fun _ => (0 : Int32))))] H locs := I
  refine lv_aload_n hx hb dX8_clear_8 rfl (lv_at hl 0 rfl) ?_
  refine n_get X I kCl_8 0 rfl 1 (by decide) rfl kC_329 9 dX8_clear_9 ?_
  refine lv_iconst (v := (-1 : Int32)) hx hb dX8_clear_12 (by decide) ?_
  have I : nWv dC dI _ s [(a, .inr (11, [.ref c1, .ref c2, .ref c3, .ref r, .ref h, .ref c4, .ref c5, .ref m0, .ref m1, .ref m2, .long 0, .long 0])), (c3, .inl (g.1 0, 48, .inl (fun _ => 0))), (r, .inr (9, [.ref r1, .ref r2])), (r1, .inl (g.1 1, 288, .inr (.inl (fun _ => 0)))), (r2, .inl (g.1 1, 288, .inr (.inl (fun _ => 0)))), (c4, .inl (g.1 0, 48, .inl (fun _ => 0))), (c5, .inl (g.1 0, 48, .inl (fun _ => 0))), (m0, .inr (8, [.ref m0r, .int 0])), (m0r, .inl (g.1 0, 826, .inl (fun _ => 0))), (m1, .inr (8, [.ref m1r, .int 0])), (m1r, .inl (g.1 0, 826, .inl (fun _ => 0))), (m2, .inr (8, [.ref m2r, .int 0])), (m2r, .inl (g.1 0, 48, .inl (fun _ => 0))), (c1, .inl (g.1 0, 48, .inl (fun _ => (0 : Int32)))), (c2, .inl (g.1 0, 48, .inl (fun _ => 0)))] H locs := I.toEnd 1 rfl
  refine n_callS (ws0 := [(a, .inr (11, [.ref c1, .ref c2, .ref c3, .ref r, .ref h, .ref c4, .ref c5, .ref m0, .ref m1, .ref m2, .long 0, .long 0])), (c3, .inl (g.1 0, 48, .inl (fun _ => 0))), (r, .inr (9, [.ref r1, .ref r2])), (r1, .inl (g.1 1, 288, .inr (.inl (fun _ => 0)))), (r2, .inl (g.1 1, 288, .inr (.inl (fun _ => 0)))), (c4, .inl (g.1 0, 48, .inl (fun _ => 0))), (c5, .inl (g.1 0, 48, .inl (fun _ => 0))), (m0, .inr (8, [.ref m0r, .int 0])), (m0r, .inl (g.1 0, 826, .inl (fun _ => 0))), (m1, .inr (8, [.ref m1r, .int 0])), (m1r, .inl (g.1 0, 826, .inl (fun _ => 0))), (m2, .inr (8, [.ref m2r, .int 0])), (m2r, .inl (g.1 0, 48, .inl (fun _ => 0))), (c1, .inl (g.1 0, 48, .inl (fun _ => (0 : Int32))))]) (rest := []) (As := [.ref c2, .int (-1 : Int32)]) (d := 2) ⟨Nat.le_refl _, Nat.le_refl _⟩ X hE I fn_X8_J7_fill_53178 (n_J7_fill_53178 l c2 48 (by decide) (fun _ => 0) (-1 : Int32)) (by decide) 13 dX8_clear_13 rfl hl.1 rfl (Nat.le_of_ble_eq_true rfl) ⟨Nat.le_of_ble_eq_true rfl, Nat.le_of_ble_eq_true rfl⟩ (fun ws1 H locs hPo I => ?_)
  subst hPo
  have I : nWv dC dI _ s [(a, .inr (11, [.ref c1, .ref c2, .ref c3, .ref r, .ref h, .ref c4, .ref c5, .ref m0, .ref m1, .ref m2, .long 0, .long 0])), (c3, .inl (g.1 0, 48, .inl (fun _ => 0))), (r, .inr (9, [.ref r1, .ref r2])), (r1, .inl (g.1 1, 288, .inr (.inl (fun _ => 0)))), (r2, .inl (g.1 1, 288, .inr (.inl (fun _ => 0)))), (c4, .inl (g.1 0, 48, .inl (fun _ => 0))), (c5, .inl (g.1 0, 48, .inl (fun _ => 0))), (m0, .inr (8, [.ref m0r, .int 0])), (m0r, .inl (g.1 0, 826, .inl (fun _ => 0))), (m1, .inr (8, [.ref m1r, .int 0])), (m1r, .inl (g.1 0, 826, .inl (fun _ => 0))), (m2, .inr (8, [.ref m2r, .int 0])), (m2r, .inl (g.1 0, 48, .inl (fun _ => 0))), (c1, .inl (g.1 0, 48, .inl (fun _ => (0 : Int32)))), (c2, .inl (g.1 0, 48, .inl (fun _ => (-1 : Int32))))] H locs := I
  refine lv_aload_n hx hb dX8_clear_16 rfl (lv_at hl 0 rfl) ?_
  refine n_get X I kCl_8 0 rfl 2 (by decide) rfl kC_330 17 dX8_clear_17 ?_
  refine lv_iconst (v := (-1 : Int32)) hx hb dX8_clear_20 (by decide) ?_
  have I : nWv dC dI _ s [(a, .inr (11, [.ref c1, .ref c2, .ref c3, .ref r, .ref h, .ref c4, .ref c5, .ref m0, .ref m1, .ref m2, .long 0, .long 0])), (r, .inr (9, [.ref r1, .ref r2])), (r1, .inl (g.1 1, 288, .inr (.inl (fun _ => 0)))), (r2, .inl (g.1 1, 288, .inr (.inl (fun _ => 0)))), (c4, .inl (g.1 0, 48, .inl (fun _ => 0))), (c5, .inl (g.1 0, 48, .inl (fun _ => 0))), (m0, .inr (8, [.ref m0r, .int 0])), (m0r, .inl (g.1 0, 826, .inl (fun _ => 0))), (m1, .inr (8, [.ref m1r, .int 0])), (m1r, .inl (g.1 0, 826, .inl (fun _ => 0))), (m2, .inr (8, [.ref m2r, .int 0])), (m2r, .inl (g.1 0, 48, .inl (fun _ => 0))), (c1, .inl (g.1 0, 48, .inl (fun _ => (0 : Int32)))), (c2, .inl (g.1 0, 48, .inl (fun _ => (-1 : Int32)))), (c3, .inl (g.1 0, 48, .inl (fun _ => 0)))] H locs := I.toEnd 1 rfl
  refine n_callS (ws0 := [(a, .inr (11, [.ref c1, .ref c2, .ref c3, .ref r, .ref h, .ref c4, .ref c5, .ref m0, .ref m1, .ref m2, .long 0, .long 0])), (r, .inr (9, [.ref r1, .ref r2])), (r1, .inl (g.1 1, 288, .inr (.inl (fun _ => 0)))), (r2, .inl (g.1 1, 288, .inr (.inl (fun _ => 0)))), (c4, .inl (g.1 0, 48, .inl (fun _ => 0))), (c5, .inl (g.1 0, 48, .inl (fun _ => 0))), (m0, .inr (8, [.ref m0r, .int 0])), (m0r, .inl (g.1 0, 826, .inl (fun _ => 0))), (m1, .inr (8, [.ref m1r, .int 0])), (m1r, .inl (g.1 0, 826, .inl (fun _ => 0))), (m2, .inr (8, [.ref m2r, .int 0])), (m2r, .inl (g.1 0, 48, .inl (fun _ => 0))), (c1, .inl (g.1 0, 48, .inl (fun _ => (0 : Int32)))), (c2, .inl (g.1 0, 48, .inl (fun _ => (-1 : Int32))))]) (rest := []) (As := [.ref c3, .int (-1 : Int32)]) (d := 2) ⟨Nat.le_refl _, Nat.le_refl _⟩ X hE I fn_X8_J7_fill_53178 (n_J7_fill_53178 l c3 48 (by decide) (fun _ => 0) (-1 : Int32)) (by decide) 21 dX8_clear_21 rfl hl.1 rfl (Nat.le_of_ble_eq_true rfl) ⟨Nat.le_of_ble_eq_true rfl, Nat.le_of_ble_eq_true rfl⟩ (fun ws1 H locs hPo I => ?_)
  subst hPo
  have I : nWv dC dI _ s [(a, .inr (11, [.ref c1, .ref c2, .ref c3, .ref r, .ref h, .ref c4, .ref c5, .ref m0, .ref m1, .ref m2, .long 0, .long 0])), (r, .inr (9, [.ref r1, .ref r2])), (r1, .inl (g.1 1, 288, .inr (.inl (fun _ => 0)))), (r2, .inl (g.1 1, 288, .inr (.inl (fun _ => 0)))), (c4, .inl (g.1 0, 48, .inl (fun _ => 0))), (c5, .inl (g.1 0, 48, .inl (fun _ => 0))), (m0, .inr (8, [.ref m0r, .int 0])), (m0r, .inl (g.1 0, 826, .inl (fun _ => 0))), (m1, .inr (8, [.ref m1r, .int 0])), (m1r, .inl (g.1 0, 826, .inl (fun _ => 0))), (m2, .inr (8, [.ref m2r, .int 0])), (m2r, .inl (g.1 0, 48, .inl (fun _ => 0))), (c1, .inl (g.1 0, 48, .inl (fun _ => (0 : Int32)))), (c2, .inl (g.1 0, 48, .inl (fun _ => (-1 : Int32)))), (c3, .inl (g.1 0, 48, .inl (fun _ => (-1 : Int32))))] H locs := I
  refine lv_aload_n hx hb dX8_clear_24 rfl (lv_at hl 0 rfl) ?_
  refine n_get X I kCl_8 0 rfl 5 (by decide) rfl kC_162 25 dX8_clear_25 ?_
  refine lv_iconst (v := (-1 : Int32)) hx hb dX8_clear_28 (by decide) ?_
  have I : nWv dC dI _ s [(a, .inr (11, [.ref c1, .ref c2, .ref c3, .ref r, .ref h, .ref c4, .ref c5, .ref m0, .ref m1, .ref m2, .long 0, .long 0])), (r, .inr (9, [.ref r1, .ref r2])), (r1, .inl (g.1 1, 288, .inr (.inl (fun _ => 0)))), (r2, .inl (g.1 1, 288, .inr (.inl (fun _ => 0)))), (c5, .inl (g.1 0, 48, .inl (fun _ => 0))), (m0, .inr (8, [.ref m0r, .int 0])), (m0r, .inl (g.1 0, 826, .inl (fun _ => 0))), (m1, .inr (8, [.ref m1r, .int 0])), (m1r, .inl (g.1 0, 826, .inl (fun _ => 0))), (m2, .inr (8, [.ref m2r, .int 0])), (m2r, .inl (g.1 0, 48, .inl (fun _ => 0))), (c1, .inl (g.1 0, 48, .inl (fun _ => (0 : Int32)))), (c2, .inl (g.1 0, 48, .inl (fun _ => (-1 : Int32)))), (c3, .inl (g.1 0, 48, .inl (fun _ => (-1 : Int32)))), (c4, .inl (g.1 0, 48, .inl (fun _ => 0)))] H locs := I.toEnd 4 rfl
  refine n_callS (ws0 := [(a, .inr (11, [.ref c1, .ref c2, .ref c3, .ref r, .ref h, .ref c4, .ref c5, .ref m0, .ref m1, .ref m2, .long 0, .long 0])), (r, .inr (9, [.ref r1, .ref r2])), (r1, .inl (g.1 1, 288, .inr (.inl (fun _ => 0)))), (r2, .inl (g.1 1, 288, .inr (.inl (fun _ => 0)))), (c5, .inl (g.1 0, 48, .inl (fun _ => 0))), (m0, .inr (8, [.ref m0r, .int 0])), (m0r, .inl (g.1 0, 826, .inl (fun _ => 0))), (m1, .inr (8, [.ref m1r, .int 0])), (m1r, .inl (g.1 0, 826, .inl (fun _ => 0))), (m2, .inr (8, [.ref m2r, .int 0])), (m2r, .inl (g.1 0, 48, .inl (fun _ => 0))), (c1, .inl (g.1 0, 48, .inl (fun _ => (0 : Int32)))), (c2, .inl (g.1 0, 48, .inl (fun _ => (-1 : Int32)))), (c3, .inl (g.1 0, 48, .inl (fun _ => (-1 : Int32))))]) (rest := []) (As := [.ref c4, .int (-1 : Int32)]) (d := 2) ⟨Nat.le_refl _, Nat.le_refl _⟩ X hE I fn_X8_J7_fill_53178 (n_J7_fill_53178 l c4 48 (by decide) (fun _ => 0) (-1 : Int32)) (by decide) 29 dX8_clear_29 rfl hl.1 rfl (Nat.le_of_ble_eq_true rfl) ⟨Nat.le_of_ble_eq_true rfl, Nat.le_of_ble_eq_true rfl⟩ (fun ws1 H locs hPo I => ?_)
  subst hPo
  have I : nWv dC dI _ s [(a, .inr (11, [.ref c1, .ref c2, .ref c3, .ref r, .ref h, .ref c4, .ref c5, .ref m0, .ref m1, .ref m2, .long 0, .long 0])), (r, .inr (9, [.ref r1, .ref r2])), (r1, .inl (g.1 1, 288, .inr (.inl (fun _ => 0)))), (r2, .inl (g.1 1, 288, .inr (.inl (fun _ => 0)))), (c5, .inl (g.1 0, 48, .inl (fun _ => 0))), (m0, .inr (8, [.ref m0r, .int 0])), (m0r, .inl (g.1 0, 826, .inl (fun _ => 0))), (m1, .inr (8, [.ref m1r, .int 0])), (m1r, .inl (g.1 0, 826, .inl (fun _ => 0))), (m2, .inr (8, [.ref m2r, .int 0])), (m2r, .inl (g.1 0, 48, .inl (fun _ => 0))), (c1, .inl (g.1 0, 48, .inl (fun _ => (0 : Int32)))), (c2, .inl (g.1 0, 48, .inl (fun _ => (-1 : Int32)))), (c3, .inl (g.1 0, 48, .inl (fun _ => (-1 : Int32)))), (c4, .inl (g.1 0, 48, .inl (fun _ => (-1 : Int32))))] H locs := I
  refine lv_aload_n hx hb dX8_clear_32 rfl (lv_at hl 0 rfl) ?_
  refine n_get X I kCl_8 0 rfl 3 (by decide) rfl kC_185 33 dX8_clear_33 ?_
  have I : nWv dC dI _ s [(a, .inr (11, [.ref c1, .ref c2, .ref c3, .ref r, .ref h, .ref c4, .ref c5, .ref m0, .ref m1, .ref m2, .long 0, .long 0])), (r1, .inl (g.1 1, 288, .inr (.inl (fun _ => 0)))), (r2, .inl (g.1 1, 288, .inr (.inl (fun _ => 0)))), (c5, .inl (g.1 0, 48, .inl (fun _ => 0))), (m0, .inr (8, [.ref m0r, .int 0])), (m0r, .inl (g.1 0, 826, .inl (fun _ => 0))), (m1, .inr (8, [.ref m1r, .int 0])), (m1r, .inl (g.1 0, 826, .inl (fun _ => 0))), (m2, .inr (8, [.ref m2r, .int 0])), (m2r, .inl (g.1 0, 48, .inl (fun _ => 0))), (c1, .inl (g.1 0, 48, .inl (fun _ => (0 : Int32)))), (c2, .inl (g.1 0, 48, .inl (fun _ => (-1 : Int32)))), (c3, .inl (g.1 0, 48, .inl (fun _ => (-1 : Int32)))), (c4, .inl (g.1 0, 48, .inl (fun _ => (-1 : Int32)))), (r, .inr (9, [.ref r1, .ref r2]))] H locs := I.toEnd 1 rfl
  have I : nWv dC dI _ s [(a, .inr (11, [.ref c1, .ref c2, .ref c3, .ref r, .ref h, .ref c4, .ref c5, .ref m0, .ref m1, .ref m2, .long 0, .long 0])), (r2, .inl (g.1 1, 288, .inr (.inl (fun _ => 0)))), (c5, .inl (g.1 0, 48, .inl (fun _ => 0))), (m0, .inr (8, [.ref m0r, .int 0])), (m0r, .inl (g.1 0, 826, .inl (fun _ => 0))), (m1, .inr (8, [.ref m1r, .int 0])), (m1r, .inl (g.1 0, 826, .inl (fun _ => 0))), (m2, .inr (8, [.ref m2r, .int 0])), (m2r, .inl (g.1 0, 48, .inl (fun _ => 0))), (c1, .inl (g.1 0, 48, .inl (fun _ => (0 : Int32)))), (c2, .inl (g.1 0, 48, .inl (fun _ => (-1 : Int32)))), (c3, .inl (g.1 0, 48, .inl (fun _ => (-1 : Int32)))), (c4, .inl (g.1 0, 48, .inl (fun _ => (-1 : Int32)))), (r, .inr (9, [.ref r1, .ref r2])), (r1, .inl (g.1 1, 288, .inr (.inl (fun _ => 0))))] H locs := I.toEnd 1 rfl
  have I : nWv dC dI _ s [(a, .inr (11, [.ref c1, .ref c2, .ref c3, .ref r, .ref h, .ref c4, .ref c5, .ref m0, .ref m1, .ref m2, .long 0, .long 0])), (c5, .inl (g.1 0, 48, .inl (fun _ => 0))), (m0, .inr (8, [.ref m0r, .int 0])), (m0r, .inl (g.1 0, 826, .inl (fun _ => 0))), (m1, .inr (8, [.ref m1r, .int 0])), (m1r, .inl (g.1 0, 826, .inl (fun _ => 0))), (m2, .inr (8, [.ref m2r, .int 0])), (m2r, .inl (g.1 0, 48, .inl (fun _ => 0))), (c1, .inl (g.1 0, 48, .inl (fun _ => (0 : Int32)))), (c2, .inl (g.1 0, 48, .inl (fun _ => (-1 : Int32)))), (c3, .inl (g.1 0, 48, .inl (fun _ => (-1 : Int32)))), (c4, .inl (g.1 0, 48, .inl (fun _ => (-1 : Int32)))), (r, .inr (9, [.ref r1, .ref r2])), (r1, .inl (g.1 1, 288, .inr (.inl (fun _ => 0)))), (r2, .inl (g.1 1, 288, .inr (.inl (fun _ => 0))))] H locs := I.toEnd 1 rfl
  refine n_callV (ws0 := [(a, .inr (11, [.ref c1, .ref c2, .ref c3, .ref r, .ref h, .ref c4, .ref c5, .ref m0, .ref m1, .ref m2, .long 0, .long 0])), (c5, .inl (g.1 0, 48, .inl (fun _ => 0))), (m0, .inr (8, [.ref m0r, .int 0])), (m0r, .inl (g.1 0, 826, .inl (fun _ => 0))), (m1, .inr (8, [.ref m1r, .int 0])), (m1r, .inl (g.1 0, 826, .inl (fun _ => 0))), (m2, .inr (8, [.ref m2r, .int 0])), (m2r, .inl (g.1 0, 48, .inl (fun _ => 0))), (c1, .inl (g.1 0, 48, .inl (fun _ => (0 : Int32)))), (c2, .inl (g.1 0, 48, .inl (fun _ => (-1 : Int32)))), (c3, .inl (g.1 0, 48, .inl (fun _ => (-1 : Int32)))), (c4, .inl (g.1 0, 48, .inl (fun _ => (-1 : Int32))))]) (rest := []) (As := []) (d := 2) ⟨Nat.le_refl _, Nat.le_refl _⟩ X hE I fn_X8_X6_clear kCl_6.1 rfl (o := 0) rfl (n_X6_clear l r r1 r2 (fun _ => 0) (fun _ => 0)) (by decide) 36 dX8_clear_36 rfl hl.1 rfl (Nat.le_of_ble_eq_true rfl) ⟨Nat.le_of_ble_eq_true rfl, Nat.le_of_ble_eq_true rfl⟩ (fun ws1 H locs hPo I => ?_)
  subst hPo
  have I : nWv dC dI _ s [(a, .inr (11, [.ref c1, .ref c2, .ref c3, .ref r, .ref h, .ref c4, .ref c5, .ref m0, .ref m1, .ref m2, .long 0, .long 0])), (c5, .inl (g.1 0, 48, .inl (fun _ => 0))), (m0, .inr (8, [.ref m0r, .int 0])), (m0r, .inl (g.1 0, 826, .inl (fun _ => 0))), (m1, .inr (8, [.ref m1r, .int 0])), (m1r, .inl (g.1 0, 826, .inl (fun _ => 0))), (m2, .inr (8, [.ref m2r, .int 0])), (m2r, .inl (g.1 0, 48, .inl (fun _ => 0))), (c1, .inl (g.1 0, 48, .inl (fun _ => (0 : Int32)))), (c2, .inl (g.1 0, 48, .inl (fun _ => (-1 : Int32)))), (c3, .inl (g.1 0, 48, .inl (fun _ => (-1 : Int32)))), (c4, .inl (g.1 0, 48, .inl (fun _ => (-1 : Int32)))), (r, .inr (9, [.ref r1, .ref r2])), (r1, .inl (g.1 1, 288, .inr (.inl (fun _ => (0 : Int64))))), (r2, .inl (g.1 1, 288, .inr (.inl (fun _ => (0 : Int64)))))] H locs := I
  refine lv_aload_n hx hb dX8_clear_39 rfl (lv_at hl 0 rfl) ?_
  refine n_get X I kCl_8 0 rfl 7 (by decide) rfl kC_111 40 dX8_clear_40 ?_
  have I : nWv dC dI _ s [(a, .inr (11, [.ref c1, .ref c2, .ref c3, .ref r, .ref h, .ref c4, .ref c5, .ref m0, .ref m1, .ref m2, .long 0, .long 0])), (c5, .inl (g.1 0, 48, .inl (fun _ => 0))), (m0r, .inl (g.1 0, 826, .inl (fun _ => 0))), (m1, .inr (8, [.ref m1r, .int 0])), (m1r, .inl (g.1 0, 826, .inl (fun _ => 0))), (m2, .inr (8, [.ref m2r, .int 0])), (m2r, .inl (g.1 0, 48, .inl (fun _ => 0))), (c1, .inl (g.1 0, 48, .inl (fun _ => (0 : Int32)))), (c2, .inl (g.1 0, 48, .inl (fun _ => (-1 : Int32)))), (c3, .inl (g.1 0, 48, .inl (fun _ => (-1 : Int32)))), (c4, .inl (g.1 0, 48, .inl (fun _ => (-1 : Int32)))), (r, .inr (9, [.ref r1, .ref r2])), (r1, .inl (g.1 1, 288, .inr (.inl (fun _ => (0 : Int64))))), (r2, .inl (g.1 1, 288, .inr (.inl (fun _ => (0 : Int64))))), (m0, .inr (8, [.ref m0r, .int 0]))] H locs := I.toEnd 2 rfl
  refine n_callV (ws0 := [(a, .inr (11, [.ref c1, .ref c2, .ref c3, .ref r, .ref h, .ref c4, .ref c5, .ref m0, .ref m1, .ref m2, .long 0, .long 0])), (c5, .inl (g.1 0, 48, .inl (fun _ => 0))), (m0r, .inl (g.1 0, 826, .inl (fun _ => 0))), (m1, .inr (8, [.ref m1r, .int 0])), (m1r, .inl (g.1 0, 826, .inl (fun _ => 0))), (m2, .inr (8, [.ref m2r, .int 0])), (m2r, .inl (g.1 0, 48, .inl (fun _ => 0))), (c1, .inl (g.1 0, 48, .inl (fun _ => (0 : Int32)))), (c2, .inl (g.1 0, 48, .inl (fun _ => (-1 : Int32)))), (c3, .inl (g.1 0, 48, .inl (fun _ => (-1 : Int32)))), (c4, .inl (g.1 0, 48, .inl (fun _ => (-1 : Int32)))), (r, .inr (9, [.ref r1, .ref r2])), (r1, .inl (g.1 1, 288, .inr (.inl (fun _ => (0 : Int64))))), (r2, .inl (g.1 1, 288, .inr (.inl (fun _ => (0 : Int64)))))]) (rest := []) (As := []) (d := 2) ⟨Nat.le_refl _, Nat.le_refl _⟩ X hE I fn_X8_X5_clear kCl_5.1 rfl (o := 0) rfl (n_X5_clear l m0 m0r 0) (by decide) 43 dX8_clear_43 rfl hl.1 rfl (Nat.le_of_ble_eq_true rfl) ⟨Nat.le_of_ble_eq_true rfl, Nat.le_of_ble_eq_true rfl⟩ (fun ws1 H locs hPo I => ?_)
  subst hPo
  have I : nWv dC dI _ s [(a, .inr (11, [.ref c1, .ref c2, .ref c3, .ref r, .ref h, .ref c4, .ref c5, .ref m0, .ref m1, .ref m2, .long 0, .long 0])), (c5, .inl (g.1 0, 48, .inl (fun _ => 0))), (m0r, .inl (g.1 0, 826, .inl (fun _ => 0))), (m1, .inr (8, [.ref m1r, .int 0])), (m1r, .inl (g.1 0, 826, .inl (fun _ => 0))), (m2, .inr (8, [.ref m2r, .int 0])), (m2r, .inl (g.1 0, 48, .inl (fun _ => 0))), (c1, .inl (g.1 0, 48, .inl (fun _ => (0 : Int32)))), (c2, .inl (g.1 0, 48, .inl (fun _ => (-1 : Int32)))), (c3, .inl (g.1 0, 48, .inl (fun _ => (-1 : Int32)))), (c4, .inl (g.1 0, 48, .inl (fun _ => (-1 : Int32)))), (r, .inr (9, [.ref r1, .ref r2])), (r1, .inl (g.1 1, 288, .inr (.inl (fun _ => (0 : Int64))))), (r2, .inl (g.1 1, 288, .inr (.inl (fun _ => (0 : Int64))))), (m0, .inr (8, [.ref m0r, .int (0 : Int32)]))] H locs := I
  refine lv_aload_n hx hb dX8_clear_46 rfl (lv_at hl 0 rfl) ?_
  refine n_get X I kCl_8 0 rfl 8 (by decide) rfl kC_132 47 dX8_clear_47 ?_
  have I : nWv dC dI _ s [(a, .inr (11, [.ref c1, .ref c2, .ref c3, .ref r, .ref h, .ref c4, .ref c5, .ref m0, .ref m1, .ref m2, .long 0, .long 0])), (c5, .inl (g.1 0, 48, .inl (fun _ => 0))), (m0r, .inl (g.1 0, 826, .inl (fun _ => 0))), (m1r, .inl (g.1 0, 826, .inl (fun _ => 0))), (m2, .inr (8, [.ref m2r, .int 0])), (m2r, .inl (g.1 0, 48, .inl (fun _ => 0))), (c1, .inl (g.1 0, 48, .inl (fun _ => (0 : Int32)))), (c2, .inl (g.1 0, 48, .inl (fun _ => (-1 : Int32)))), (c3, .inl (g.1 0, 48, .inl (fun _ => (-1 : Int32)))), (c4, .inl (g.1 0, 48, .inl (fun _ => (-1 : Int32)))), (r, .inr (9, [.ref r1, .ref r2])), (r1, .inl (g.1 1, 288, .inr (.inl (fun _ => (0 : Int64))))), (r2, .inl (g.1 1, 288, .inr (.inl (fun _ => (0 : Int64))))), (m0, .inr (8, [.ref m0r, .int (0 : Int32)])), (m1, .inr (8, [.ref m1r, .int 0]))] H locs := I.toEnd 3 rfl
  refine n_callV (ws0 := [(a, .inr (11, [.ref c1, .ref c2, .ref c3, .ref r, .ref h, .ref c4, .ref c5, .ref m0, .ref m1, .ref m2, .long 0, .long 0])), (c5, .inl (g.1 0, 48, .inl (fun _ => 0))), (m0r, .inl (g.1 0, 826, .inl (fun _ => 0))), (m1r, .inl (g.1 0, 826, .inl (fun _ => 0))), (m2, .inr (8, [.ref m2r, .int 0])), (m2r, .inl (g.1 0, 48, .inl (fun _ => 0))), (c1, .inl (g.1 0, 48, .inl (fun _ => (0 : Int32)))), (c2, .inl (g.1 0, 48, .inl (fun _ => (-1 : Int32)))), (c3, .inl (g.1 0, 48, .inl (fun _ => (-1 : Int32)))), (c4, .inl (g.1 0, 48, .inl (fun _ => (-1 : Int32)))), (r, .inr (9, [.ref r1, .ref r2])), (r1, .inl (g.1 1, 288, .inr (.inl (fun _ => (0 : Int64))))), (r2, .inl (g.1 1, 288, .inr (.inl (fun _ => (0 : Int64))))), (m0, .inr (8, [.ref m0r, .int (0 : Int32)]))]) (rest := []) (As := []) (d := 2) ⟨Nat.le_refl _, Nat.le_refl _⟩ X hE I fn_X8_X5_clear kCl_5.1 rfl (o := 0) rfl (n_X5_clear l m1 m1r 0) (by decide) 50 dX8_clear_50 rfl hl.1 rfl (Nat.le_of_ble_eq_true rfl) ⟨Nat.le_of_ble_eq_true rfl, Nat.le_of_ble_eq_true rfl⟩ (fun ws1 H locs hPo I => ?_)
  subst hPo
  have I : nWv dC dI _ s [(a, .inr (11, [.ref c1, .ref c2, .ref c3, .ref r, .ref h, .ref c4, .ref c5, .ref m0, .ref m1, .ref m2, .long 0, .long 0])), (c5, .inl (g.1 0, 48, .inl (fun _ => 0))), (m0r, .inl (g.1 0, 826, .inl (fun _ => 0))), (m1r, .inl (g.1 0, 826, .inl (fun _ => 0))), (m2, .inr (8, [.ref m2r, .int 0])), (m2r, .inl (g.1 0, 48, .inl (fun _ => 0))), (c1, .inl (g.1 0, 48, .inl (fun _ => (0 : Int32)))), (c2, .inl (g.1 0, 48, .inl (fun _ => (-1 : Int32)))), (c3, .inl (g.1 0, 48, .inl (fun _ => (-1 : Int32)))), (c4, .inl (g.1 0, 48, .inl (fun _ => (-1 : Int32)))), (r, .inr (9, [.ref r1, .ref r2])), (r1, .inl (g.1 1, 288, .inr (.inl (fun _ => (0 : Int64))))), (r2, .inl (g.1 1, 288, .inr (.inl (fun _ => (0 : Int64))))), (m0, .inr (8, [.ref m0r, .int (0 : Int32)])), (m1, .inr (8, [.ref m1r, .int (0 : Int32)]))] H locs := I
  refine lv_aload_n hx hb dX8_clear_53 rfl (lv_at hl 0 rfl) ?_
  refine lv_lconst (v := (1 : Int64)) hx hb dX8_clear_54 (by decide) ?_
  refine n_put (ty := .long) [(a, .inr (11, [.ref c1, .ref c2, .ref c3, .ref r, .ref h, .ref c4, .ref c5, .ref m0, .ref m1, .ref m2, .long (1 : Int64), .long 0])), (c5, .inl (g.1 0, 48, .inl (fun _ => 0))), (m0r, .inl (g.1 0, 826, .inl (fun _ => 0))), (m1r, .inl (g.1 0, 826, .inl (fun _ => 0))), (m2, .inr (8, [.ref m2r, .int 0])), (m2r, .inl (g.1 0, 48, .inl (fun _ => 0))), (c1, .inl (g.1 0, 48, .inl (fun _ => (0 : Int32)))), (c2, .inl (g.1 0, 48, .inl (fun _ => (-1 : Int32)))), (c3, .inl (g.1 0, 48, .inl (fun _ => (-1 : Int32)))), (c4, .inl (g.1 0, 48, .inl (fun _ => (-1 : Int32)))), (r, .inr (9, [.ref r1, .ref r2])), (r1, .inl (g.1 1, 288, .inr (.inl (fun _ => (0 : Int64))))), (r2, .inl (g.1 1, 288, .inr (.inl (fun _ => (0 : Int64))))), (m0, .inr (8, [.ref m0r, .int (0 : Int32)])), (m1, .inr (8, [.ref m1r, .int (0 : Int32)]))] X I kCl_8 tyX8_ok nmX8 0 rfl 10 (by decide) (Nat.le_of_ble_eq_true rfl) rfl kC_128 rfl (by decide +kernel) rfl rfl 55 dX8_clear_55 (fun H locs I => ?_)
  refine lv_aload_n hx hb dX8_clear_58 rfl (lv_at hl 0 rfl) ?_
  refine lv_lconst (v := (0 : Int64)) hx hb dX8_clear_59 (by decide) ?_
  refine n_put (ty := .long) [(a, .inr (11, [.ref c1, .ref c2, .ref c3, .ref r, .ref h, .ref c4, .ref c5, .ref m0, .ref m1, .ref m2, .long (1 : Int64), .long (0 : Int64)])), (c5, .inl (g.1 0, 48, .inl (fun _ => 0))), (m0r, .inl (g.1 0, 826, .inl (fun _ => 0))), (m1r, .inl (g.1 0, 826, .inl (fun _ => 0))), (m2, .inr (8, [.ref m2r, .int 0])), (m2r, .inl (g.1 0, 48, .inl (fun _ => 0))), (c1, .inl (g.1 0, 48, .inl (fun _ => (0 : Int32)))), (c2, .inl (g.1 0, 48, .inl (fun _ => (-1 : Int32)))), (c3, .inl (g.1 0, 48, .inl (fun _ => (-1 : Int32)))), (c4, .inl (g.1 0, 48, .inl (fun _ => (-1 : Int32)))), (r, .inr (9, [.ref r1, .ref r2])), (r1, .inl (g.1 1, 288, .inr (.inl (fun _ => (0 : Int64))))), (r2, .inl (g.1 1, 288, .inr (.inl (fun _ => (0 : Int64))))), (m0, .inr (8, [.ref m0r, .int (0 : Int32)])), (m1, .inr (8, [.ref m1r, .int (0 : Int32)]))] X I kCl_8 tyX8_ok nmX8 0 rfl 11 (by decide) (Nat.le_of_ble_eq_true rfl) rfl kC_129 rfl (by decide +kernel) rfl rfl 60 dX8_clear_60 (fun H locs I => ?_)
  have I : nWv dC dI _ s [(c5, .inl (g.1 0, 48, .inl (fun _ => 0))), (m0r, .inl (g.1 0, 826, .inl (fun _ => 0))), (m1r, .inl (g.1 0, 826, .inl (fun _ => 0))), (m2, .inr (8, [.ref m2r, .int 0])), (m2r, .inl (g.1 0, 48, .inl (fun _ => 0))), (c1, .inl (g.1 0, 48, .inl (fun _ => (0 : Int32)))), (c2, .inl (g.1 0, 48, .inl (fun _ => (-1 : Int32)))), (c3, .inl (g.1 0, 48, .inl (fun _ => (-1 : Int32)))), (c4, .inl (g.1 0, 48, .inl (fun _ => (-1 : Int32)))), (r, .inr (9, [.ref r1, .ref r2])), (r1, .inl (g.1 1, 288, .inr (.inl (fun _ => (0 : Int64))))), (r2, .inl (g.1 1, 288, .inr (.inl (fun _ => (0 : Int64))))), (m0, .inr (8, [.ref m0r, .int (0 : Int32)])), (m1, .inr (8, [.ref m1r, .int (0 : Int32)])), (a, .inr (11, [.ref c1, .ref c2, .ref c3, .ref r, .ref h, .ref c4, .ref c5, .ref m0, .ref m1, .ref m2, .long (1 : Int64), .long (0 : Int64)]))] H locs := I.toEnd 0 rfl
  have I : nWv dC dI _ s [(c5, .inl (g.1 0, 48, .inl (fun _ => 0))), (m0r, .inl (g.1 0, 826, .inl (fun _ => 0))), (m1r, .inl (g.1 0, 826, .inl (fun _ => 0))), (m2, .inr (8, [.ref m2r, .int 0])), (m2r, .inl (g.1 0, 48, .inl (fun _ => 0))), (c2, .inl (g.1 0, 48, .inl (fun _ => (-1 : Int32)))), (c3, .inl (g.1 0, 48, .inl (fun _ => (-1 : Int32)))), (c4, .inl (g.1 0, 48, .inl (fun _ => (-1 : Int32)))), (r, .inr (9, [.ref r1, .ref r2])), (r1, .inl (g.1 1, 288, .inr (.inl (fun _ => (0 : Int64))))), (r2, .inl (g.1 1, 288, .inr (.inl (fun _ => (0 : Int64))))), (m0, .inr (8, [.ref m0r, .int (0 : Int32)])), (m1, .inr (8, [.ref m1r, .int (0 : Int32)])), (a, .inr (11, [.ref c1, .ref c2, .ref c3, .ref r, .ref h, .ref c4, .ref c5, .ref m0, .ref m1, .ref m2, .long (1 : Int64), .long (0 : Int64)])), (c1, .inl (g.1 0, 48, .inl (fun _ => (0 : Int32))))] H locs := I.toEnd 5 rfl
  have I : nWv dC dI _ s [(c5, .inl (g.1 0, 48, .inl (fun _ => 0))), (m0r, .inl (g.1 0, 826, .inl (fun _ => 0))), (m1r, .inl (g.1 0, 826, .inl (fun _ => 0))), (m2, .inr (8, [.ref m2r, .int 0])), (m2r, .inl (g.1 0, 48, .inl (fun _ => 0))), (c3, .inl (g.1 0, 48, .inl (fun _ => (-1 : Int32)))), (c4, .inl (g.1 0, 48, .inl (fun _ => (-1 : Int32)))), (r, .inr (9, [.ref r1, .ref r2])), (r1, .inl (g.1 1, 288, .inr (.inl (fun _ => (0 : Int64))))), (r2, .inl (g.1 1, 288, .inr (.inl (fun _ => (0 : Int64))))), (m0, .inr (8, [.ref m0r, .int (0 : Int32)])), (m1, .inr (8, [.ref m1r, .int (0 : Int32)])), (a, .inr (11, [.ref c1, .ref c2, .ref c3, .ref r, .ref h, .ref c4, .ref c5, .ref m0, .ref m1, .ref m2, .long (1 : Int64), .long (0 : Int64)])), (c1, .inl (g.1 0, 48, .inl (fun _ => (0 : Int32)))), (c2, .inl (g.1 0, 48, .inl (fun _ => (-1 : Int32))))] H locs := I.toEnd 5 rfl
  have I : nWv dC dI _ s [(c5, .inl (g.1 0, 48, .inl (fun _ => 0))), (m0r, .inl (g.1 0, 826, .inl (fun _ => 0))), (m1r, .inl (g.1 0, 826, .inl (fun _ => 0))), (m2, .inr (8, [.ref m2r, .int 0])), (m2r, .inl (g.1 0, 48, .inl (fun _ => 0))), (c4, .inl (g.1 0, 48, .inl (fun _ => (-1 : Int32)))), (r, .inr (9, [.ref r1, .ref r2])), (r1, .inl (g.1 1, 288, .inr (.inl (fun _ => (0 : Int64))))), (r2, .inl (g.1 1, 288, .inr (.inl (fun _ => (0 : Int64))))), (m0, .inr (8, [.ref m0r, .int (0 : Int32)])), (m1, .inr (8, [.ref m1r, .int (0 : Int32)])), (a, .inr (11, [.ref c1, .ref c2, .ref c3, .ref r, .ref h, .ref c4, .ref c5, .ref m0, .ref m1, .ref m2, .long (1 : Int64), .long (0 : Int64)])), (c1, .inl (g.1 0, 48, .inl (fun _ => (0 : Int32)))), (c2, .inl (g.1 0, 48, .inl (fun _ => (-1 : Int32)))), (c3, .inl (g.1 0, 48, .inl (fun _ => (-1 : Int32))))] H locs := I.toEnd 5 rfl
  have I : nWv dC dI _ s [(c5, .inl (g.1 0, 48, .inl (fun _ => 0))), (m0r, .inl (g.1 0, 826, .inl (fun _ => 0))), (m1r, .inl (g.1 0, 826, .inl (fun _ => 0))), (m2, .inr (8, [.ref m2r, .int 0])), (m2r, .inl (g.1 0, 48, .inl (fun _ => 0))), (c4, .inl (g.1 0, 48, .inl (fun _ => (-1 : Int32)))), (r1, .inl (g.1 1, 288, .inr (.inl (fun _ => (0 : Int64))))), (r2, .inl (g.1 1, 288, .inr (.inl (fun _ => (0 : Int64))))), (m0, .inr (8, [.ref m0r, .int (0 : Int32)])), (m1, .inr (8, [.ref m1r, .int (0 : Int32)])), (a, .inr (11, [.ref c1, .ref c2, .ref c3, .ref r, .ref h, .ref c4, .ref c5, .ref m0, .ref m1, .ref m2, .long (1 : Int64), .long (0 : Int64)])), (c1, .inl (g.1 0, 48, .inl (fun _ => (0 : Int32)))), (c2, .inl (g.1 0, 48, .inl (fun _ => (-1 : Int32)))), (c3, .inl (g.1 0, 48, .inl (fun _ => (-1 : Int32)))), (r, .inr (9, [.ref r1, .ref r2]))] H locs := I.toEnd 6 rfl
  have I : nWv dC dI _ s [(c5, .inl (g.1 0, 48, .inl (fun _ => 0))), (m0r, .inl (g.1 0, 826, .inl (fun _ => 0))), (m1r, .inl (g.1 0, 826, .inl (fun _ => 0))), (m2, .inr (8, [.ref m2r, .int 0])), (m2r, .inl (g.1 0, 48, .inl (fun _ => 0))), (c4, .inl (g.1 0, 48, .inl (fun _ => (-1 : Int32)))), (r2, .inl (g.1 1, 288, .inr (.inl (fun _ => (0 : Int64))))), (m0, .inr (8, [.ref m0r, .int (0 : Int32)])), (m1, .inr (8, [.ref m1r, .int (0 : Int32)])), (a, .inr (11, [.ref c1, .ref c2, .ref c3, .ref r, .ref h, .ref c4, .ref c5, .ref m0, .ref m1, .ref m2, .long (1 : Int64), .long (0 : Int64)])), (c1, .inl (g.1 0, 48, .inl (fun _ => (0 : Int32)))), (c2, .inl (g.1 0, 48, .inl (fun _ => (-1 : Int32)))), (c3, .inl (g.1 0, 48, .inl (fun _ => (-1 : Int32)))), (r, .inr (9, [.ref r1, .ref r2])), (r1, .inl (g.1 1, 288, .inr (.inl (fun _ => (0 : Int64)))))] H locs := I.toEnd 6 rfl
  have I : nWv dC dI _ s [(c5, .inl (g.1 0, 48, .inl (fun _ => 0))), (m0r, .inl (g.1 0, 826, .inl (fun _ => 0))), (m1r, .inl (g.1 0, 826, .inl (fun _ => 0))), (m2, .inr (8, [.ref m2r, .int 0])), (m2r, .inl (g.1 0, 48, .inl (fun _ => 0))), (c4, .inl (g.1 0, 48, .inl (fun _ => (-1 : Int32)))), (m0, .inr (8, [.ref m0r, .int (0 : Int32)])), (m1, .inr (8, [.ref m1r, .int (0 : Int32)])), (a, .inr (11, [.ref c1, .ref c2, .ref c3, .ref r, .ref h, .ref c4, .ref c5, .ref m0, .ref m1, .ref m2, .long (1 : Int64), .long (0 : Int64)])), (c1, .inl (g.1 0, 48, .inl (fun _ => (0 : Int32)))), (c2, .inl (g.1 0, 48, .inl (fun _ => (-1 : Int32)))), (c3, .inl (g.1 0, 48, .inl (fun _ => (-1 : Int32)))), (r, .inr (9, [.ref r1, .ref r2])), (r1, .inl (g.1 1, 288, .inr (.inl (fun _ => (0 : Int64))))), (r2, .inl (g.1 1, 288, .inr (.inl (fun _ => (0 : Int64)))))] H locs := I.toEnd 6 rfl
  have I : nWv dC dI _ s [(c5, .inl (g.1 0, 48, .inl (fun _ => 0))), (m0r, .inl (g.1 0, 826, .inl (fun _ => 0))), (m1r, .inl (g.1 0, 826, .inl (fun _ => 0))), (m2, .inr (8, [.ref m2r, .int 0])), (m2r, .inl (g.1 0, 48, .inl (fun _ => 0))), (m0, .inr (8, [.ref m0r, .int (0 : Int32)])), (m1, .inr (8, [.ref m1r, .int (0 : Int32)])), (a, .inr (11, [.ref c1, .ref c2, .ref c3, .ref r, .ref h, .ref c4, .ref c5, .ref m0, .ref m1, .ref m2, .long (1 : Int64), .long (0 : Int64)])), (c1, .inl (g.1 0, 48, .inl (fun _ => (0 : Int32)))), (c2, .inl (g.1 0, 48, .inl (fun _ => (-1 : Int32)))), (c3, .inl (g.1 0, 48, .inl (fun _ => (-1 : Int32)))), (r, .inr (9, [.ref r1, .ref r2])), (r1, .inl (g.1 1, 288, .inr (.inl (fun _ => (0 : Int64))))), (r2, .inl (g.1 1, 288, .inr (.inl (fun _ => (0 : Int64))))), (c4, .inl (g.1 0, 48, .inl (fun _ => (-1 : Int32))))] H locs := I.toEnd 5 rfl
  have I : nWv dC dI _ s [(m0r, .inl (g.1 0, 826, .inl (fun _ => 0))), (m1r, .inl (g.1 0, 826, .inl (fun _ => 0))), (m2, .inr (8, [.ref m2r, .int 0])), (m2r, .inl (g.1 0, 48, .inl (fun _ => 0))), (m0, .inr (8, [.ref m0r, .int (0 : Int32)])), (m1, .inr (8, [.ref m1r, .int (0 : Int32)])), (a, .inr (11, [.ref c1, .ref c2, .ref c3, .ref r, .ref h, .ref c4, .ref c5, .ref m0, .ref m1, .ref m2, .long (1 : Int64), .long (0 : Int64)])), (c1, .inl (g.1 0, 48, .inl (fun _ => (0 : Int32)))), (c2, .inl (g.1 0, 48, .inl (fun _ => (-1 : Int32)))), (c3, .inl (g.1 0, 48, .inl (fun _ => (-1 : Int32)))), (r, .inr (9, [.ref r1, .ref r2])), (r1, .inl (g.1 1, 288, .inr (.inl (fun _ => (0 : Int64))))), (r2, .inl (g.1 1, 288, .inr (.inl (fun _ => (0 : Int64))))), (c4, .inl (g.1 0, 48, .inl (fun _ => (-1 : Int32)))), (c5, .inl (g.1 0, 48, .inl (fun _ => 0)))] H locs := I.toEnd 0 rfl
  have I : nWv dC dI _ s [(m0r, .inl (g.1 0, 826, .inl (fun _ => 0))), (m1r, .inl (g.1 0, 826, .inl (fun _ => 0))), (m2, .inr (8, [.ref m2r, .int 0])), (m2r, .inl (g.1 0, 48, .inl (fun _ => 0))), (m1, .inr (8, [.ref m1r, .int (0 : Int32)])), (a, .inr (11, [.ref c1, .ref c2, .ref c3, .ref r, .ref h, .ref c4, .ref c5, .ref m0, .ref m1, .ref m2, .long (1 : Int64), .long (0 : Int64)])), (c1, .inl (g.1 0, 48, .inl (fun _ => (0 : Int32)))), (c2, .inl (g.1 0, 48, .inl (fun _ => (-1 : Int32)))), (c3, .inl (g.1 0, 48, .inl (fun _ => (-1 : Int32)))), (r, .inr (9, [.ref r1, .ref r2])), (r1, .inl (g.1 1, 288, .inr (.inl (fun _ => (0 : Int64))))), (r2, .inl (g.1 1, 288, .inr (.inl (fun _ => (0 : Int64))))), (c4, .inl (g.1 0, 48, .inl (fun _ => (-1 : Int32)))), (c5, .inl (g.1 0, 48, .inl (fun _ => 0))), (m0, .inr (8, [.ref m0r, .int (0 : Int32)]))] H locs := I.toEnd 4 rfl
  have I : nWv dC dI _ s [(m1r, .inl (g.1 0, 826, .inl (fun _ => 0))), (m2, .inr (8, [.ref m2r, .int 0])), (m2r, .inl (g.1 0, 48, .inl (fun _ => 0))), (m1, .inr (8, [.ref m1r, .int (0 : Int32)])), (a, .inr (11, [.ref c1, .ref c2, .ref c3, .ref r, .ref h, .ref c4, .ref c5, .ref m0, .ref m1, .ref m2, .long (1 : Int64), .long (0 : Int64)])), (c1, .inl (g.1 0, 48, .inl (fun _ => (0 : Int32)))), (c2, .inl (g.1 0, 48, .inl (fun _ => (-1 : Int32)))), (c3, .inl (g.1 0, 48, .inl (fun _ => (-1 : Int32)))), (r, .inr (9, [.ref r1, .ref r2])), (r1, .inl (g.1 1, 288, .inr (.inl (fun _ => (0 : Int64))))), (r2, .inl (g.1 1, 288, .inr (.inl (fun _ => (0 : Int64))))), (c4, .inl (g.1 0, 48, .inl (fun _ => (-1 : Int32)))), (c5, .inl (g.1 0, 48, .inl (fun _ => 0))), (m0, .inr (8, [.ref m0r, .int (0 : Int32)])), (m0r, .inl (g.1 0, 826, .inl (fun _ => 0)))] H locs := I.toEnd 0 rfl
  have I : nWv dC dI _ s [(m1r, .inl (g.1 0, 826, .inl (fun _ => 0))), (m2, .inr (8, [.ref m2r, .int 0])), (m2r, .inl (g.1 0, 48, .inl (fun _ => 0))), (a, .inr (11, [.ref c1, .ref c2, .ref c3, .ref r, .ref h, .ref c4, .ref c5, .ref m0, .ref m1, .ref m2, .long (1 : Int64), .long (0 : Int64)])), (c1, .inl (g.1 0, 48, .inl (fun _ => (0 : Int32)))), (c2, .inl (g.1 0, 48, .inl (fun _ => (-1 : Int32)))), (c3, .inl (g.1 0, 48, .inl (fun _ => (-1 : Int32)))), (r, .inr (9, [.ref r1, .ref r2])), (r1, .inl (g.1 1, 288, .inr (.inl (fun _ => (0 : Int64))))), (r2, .inl (g.1 1, 288, .inr (.inl (fun _ => (0 : Int64))))), (c4, .inl (g.1 0, 48, .inl (fun _ => (-1 : Int32)))), (c5, .inl (g.1 0, 48, .inl (fun _ => 0))), (m0, .inr (8, [.ref m0r, .int (0 : Int32)])), (m0r, .inl (g.1 0, 826, .inl (fun _ => 0))), (m1, .inr (8, [.ref m1r, .int (0 : Int32)]))] H locs := I.toEnd 3 rfl
  have I : nWv dC dI _ s [(m2, .inr (8, [.ref m2r, .int 0])), (m2r, .inl (g.1 0, 48, .inl (fun _ => 0))), (a, .inr (11, [.ref c1, .ref c2, .ref c3, .ref r, .ref h, .ref c4, .ref c5, .ref m0, .ref m1, .ref m2, .long (1 : Int64), .long (0 : Int64)])), (c1, .inl (g.1 0, 48, .inl (fun _ => (0 : Int32)))), (c2, .inl (g.1 0, 48, .inl (fun _ => (-1 : Int32)))), (c3, .inl (g.1 0, 48, .inl (fun _ => (-1 : Int32)))), (r, .inr (9, [.ref r1, .ref r2])), (r1, .inl (g.1 1, 288, .inr (.inl (fun _ => (0 : Int64))))), (r2, .inl (g.1 1, 288, .inr (.inl (fun _ => (0 : Int64))))), (c4, .inl (g.1 0, 48, .inl (fun _ => (-1 : Int32)))), (c5, .inl (g.1 0, 48, .inl (fun _ => 0))), (m0, .inr (8, [.ref m0r, .int (0 : Int32)])), (m0r, .inl (g.1 0, 826, .inl (fun _ => 0))), (m1, .inr (8, [.ref m1r, .int (0 : Int32)])), (m1r, .inl (g.1 0, 826, .inl (fun _ => 0)))] H locs := I.toEnd 0 rfl
  have I : nWv dC dI _ s [(m2r, .inl (g.1 0, 48, .inl (fun _ => 0))), (a, .inr (11, [.ref c1, .ref c2, .ref c3, .ref r, .ref h, .ref c4, .ref c5, .ref m0, .ref m1, .ref m2, .long (1 : Int64), .long (0 : Int64)])), (c1, .inl (g.1 0, 48, .inl (fun _ => (0 : Int32)))), (c2, .inl (g.1 0, 48, .inl (fun _ => (-1 : Int32)))), (c3, .inl (g.1 0, 48, .inl (fun _ => (-1 : Int32)))), (r, .inr (9, [.ref r1, .ref r2])), (r1, .inl (g.1 1, 288, .inr (.inl (fun _ => (0 : Int64))))), (r2, .inl (g.1 1, 288, .inr (.inl (fun _ => (0 : Int64))))), (c4, .inl (g.1 0, 48, .inl (fun _ => (-1 : Int32)))), (c5, .inl (g.1 0, 48, .inl (fun _ => 0))), (m0, .inr (8, [.ref m0r, .int (0 : Int32)])), (m0r, .inl (g.1 0, 826, .inl (fun _ => 0))), (m1, .inr (8, [.ref m1r, .int (0 : Int32)])), (m1r, .inl (g.1 0, 826, .inl (fun _ => 0))), (m2, .inr (8, [.ref m2r, .int 0]))] H locs := I.toEnd 0 rfl
  have I : nWv dC dI _ s [(a, .inr (11, [.ref c1, .ref c2, .ref c3, .ref r, .ref h, .ref c4, .ref c5, .ref m0, .ref m1, .ref m2, .long (1 : Int64), .long (0 : Int64)])), (c1, .inl (g.1 0, 48, .inl (fun _ => (0 : Int32)))), (c2, .inl (g.1 0, 48, .inl (fun _ => (-1 : Int32)))), (c3, .inl (g.1 0, 48, .inl (fun _ => (-1 : Int32)))), (r, .inr (9, [.ref r1, .ref r2])), (r1, .inl (g.1 1, 288, .inr (.inl (fun _ => (0 : Int64))))), (r2, .inl (g.1 1, 288, .inr (.inl (fun _ => (0 : Int64))))), (c4, .inl (g.1 0, 48, .inl (fun _ => (-1 : Int32)))), (c5, .inl (g.1 0, 48, .inl (fun _ => 0))), (m0, .inr (8, [.ref m0r, .int (0 : Int32)])), (m0r, .inl (g.1 0, 826, .inl (fun _ => 0))), (m1, .inr (8, [.ref m1r, .int (0 : Int32)])), (m1r, .inl (g.1 0, 826, .inl (fun _ => 0))), (m2, .inr (8, [.ref m2r, .int 0])), (m2r, .inl (g.1 0, 48, .inl (fun _ => 0)))] H locs := I.toEnd 0 rfl
  refine n_ret X I ?_ hr ⟨Nat.le_of_ble_eq_true rfl, Nat.le_of_ble_eq_true rfl⟩ 63 dX8_clear_63
  exact rfl
set_option maxRecDepth 100000 in
set_option maxHeartbeats 4000000 in
theorem n_X7_init (l : Launch) (a : Nat) : nMet l yX7_init cX7_init 1 1 3 24 [.ref a] (fun g => [(a, .inr (10, [.int 0, .int 0, .int 0, .int 0, .null, .null, .null]))]) (fun g ws' => ∃ q1 q2 q3 : Nat, ws' = [(a, .inr (10, [.int 0, .int 0, .int 0, .int 0, .ref q1, .ref q2, .ref q3])), (q1, .inl (g.1 0, 8, .inl (fun _ => 0))), (q2, .inl (g.1 0, 8, .inl (fun _ => 0))), (q3, .inl (g.1 0, 8, .inl (fun _ => 0)))]) := by
  refine n_start RX7 (by decide +kernel) rfl [(0, .ref a)] (Nat.le_of_ble_eq_true rfl) rfl ?_
  intro dC dI g sz p e s m args below meth c X hE hnm hr H locs I ls hl
  have hx := X.1
  have hb := X.2.1
  have hin : meth.name = "<init>" := hnm
  refine lv_aload_n hx hb dX7_init_0 rfl (lv_at hl 0 rfl) ?_
  refine W.objInit hx hb X.2.2.2.1 (X.2.2.2.2.1 _ kC_322) (X.2.2.2.2.1 _ kC_2) (X.2.2.2.2.1 _ kC_3) rfl (by rw [X.2.2.1]; exact hl.1) rfl dX7_init_1 (Nat.le_of_ble_eq_true rfl) (Nat.le_of_ble_eq_true rfl) ?_
  refine W.eq (g2 := F0 m 4 ls []) rfl ?_
  refine lv_aload_n hx hb dX7_init_4 rfl (lv_at hl 0 rfl) ?_
  refine lv_bipush (v := (8 : Int32)) hx hb dX7_init_5 (by decide) ?_
  refine n_newaI 8 X I (by decide) rfl (Nat.le_of_ble_eq_true rfl) ⟨Nat.le_of_ble_eq_true rfl, Nat.le_of_ble_eq_true rfl⟩ 7 dX7_init_7 (fun q1 H I => ?_)
  have I : nWv dC dI _ s [(a, .inr (10, [.int 0, .int 0, .int 0, .int 0, .null, .null, .null])), (q1, .inl (g.1 0, 8, .inl (fun _ => 0)))] H locs := I
  refine n_putF (ty := .array .int) [(a, .inr (10, [.int 0, .int 0, .int 0, .int 0, .ref q1, .null, .null])), (q1, .inl (g.1 0, 8, .inl (fun _ => 0)))] X I hin kCl_7 tyX7_ok nmX7 0 rfl 4 (by decide) (Nat.le_of_ble_eq_true rfl) rfl kC_116 rfl rfl (by decide +kernel) rfl rfl 9 dX7_init_9 (fun H locs I => ?_)
  refine lv_aload_n hx hb dX7_init_12 rfl (lv_at hl 0 rfl) ?_
  refine lv_bipush (v := (8 : Int32)) hx hb dX7_init_13 (by decide) ?_
  refine n_newaI 8 X I (by decide) rfl (Nat.le_of_ble_eq_true rfl) ⟨Nat.le_of_ble_eq_true rfl, Nat.le_of_ble_eq_true rfl⟩ 15 dX7_init_15 (fun q2 H I => ?_)
  have I : nWv dC dI _ s [(a, .inr (10, [.int 0, .int 0, .int 0, .int 0, .ref q1, .null, .null])), (q1, .inl (g.1 0, 8, .inl (fun _ => 0))), (q2, .inl (g.1 0, 8, .inl (fun _ => 0)))] H locs := I
  refine n_putF (ty := .array .int) [(a, .inr (10, [.int 0, .int 0, .int 0, .int 0, .ref q1, .ref q2, .null])), (q1, .inl (g.1 0, 8, .inl (fun _ => 0))), (q2, .inl (g.1 0, 8, .inl (fun _ => 0)))] X I hin kCl_7 tyX7_ok nmX7 0 rfl 5 (by decide) (Nat.le_of_ble_eq_true rfl) rfl kC_67 rfl rfl (by decide +kernel) rfl rfl 17 dX7_init_17 (fun H locs I => ?_)
  refine lv_aload_n hx hb dX7_init_20 rfl (lv_at hl 0 rfl) ?_
  refine lv_bipush (v := (8 : Int32)) hx hb dX7_init_21 (by decide) ?_
  refine n_newaI 8 X I (by decide) rfl (Nat.le_of_ble_eq_true rfl) ⟨Nat.le_of_ble_eq_true rfl, Nat.le_of_ble_eq_true rfl⟩ 23 dX7_init_23 (fun q3 H I => ?_)
  have I : nWv dC dI _ s [(a, .inr (10, [.int 0, .int 0, .int 0, .int 0, .ref q1, .ref q2, .null])), (q1, .inl (g.1 0, 8, .inl (fun _ => 0))), (q2, .inl (g.1 0, 8, .inl (fun _ => 0))), (q3, .inl (g.1 0, 8, .inl (fun _ => 0)))] H locs := I
  refine n_putF (ty := .array .int) [(a, .inr (10, [.int 0, .int 0, .int 0, .int 0, .ref q1, .ref q2, .ref q3])), (q1, .inl (g.1 0, 8, .inl (fun _ => 0))), (q2, .inl (g.1 0, 8, .inl (fun _ => 0))), (q3, .inl (g.1 0, 8, .inl (fun _ => 0)))] X I hin kCl_7 tyX7_ok nmX7 0 rfl 6 (by decide) (Nat.le_of_ble_eq_true rfl) rfl kC_41 rfl rfl (by decide +kernel) rfl rfl 25 dX7_init_25 (fun H locs I => ?_)
  refine n_ret X I ?_ hr ⟨Nat.le_of_ble_eq_true rfl, Nat.le_of_ble_eq_true rfl⟩ 28 dX7_init_28
  exact ⟨q1, q2, q3, rfl⟩
set_option maxRecDepth 100000 in
set_option maxHeartbeats 4000000 in
theorem n_X1_init (l : Launch) (a : Nat) (h : Nat) : nMet l yX1_init cX1_init 2 1 1 12 [.ref a, .ref h] (fun g => [(a, .inr (4, [.null, .null, .int 0]))]) (fun g ws' => ∃ q1 : Nat, ws' = [(a, .inr (4, [.ref h, .ref q1, .int 0])), (q1, .inl (g.1 0, 12, .inl (fun _ => 0)))]) := by
  refine n_start RX1 (by decide +kernel) rfl [(0, .ref a), (1, .ref h)] (Nat.le_of_ble_eq_true rfl) rfl ?_
  intro dC dI g sz p e s m args below meth c X hE hnm hr H locs I ls hl
  have hx := X.1
  have hb := X.2.1
  have hin : meth.name = "<init>" := hnm
  refine lv_aload_n hx hb dX1_init_0 rfl (lv_at hl 0 rfl) ?_
  refine W.objInit hx hb X.2.2.2.1 (X.2.2.2.2.1 _ kC_13) (X.2.2.2.2.1 _ kC_2) (X.2.2.2.2.1 _ kC_3) rfl (by rw [X.2.2.1]; exact hl.1) rfl dX1_init_1 (Nat.le_of_ble_eq_true rfl) (Nat.le_of_ble_eq_true rfl) ?_
  refine W.eq (g2 := F0 m 4 ls []) rfl ?_
  refine lv_aload_n hx hb dX1_init_4 rfl (lv_at hl 0 rfl) ?_
  refine lv_bipush (v := (12 : Int32)) hx hb dX1_init_5 (by decide) ?_
  refine n_newaI 12 X I (by decide) rfl (Nat.le_of_ble_eq_true rfl) ⟨Nat.le_of_ble_eq_true rfl, Nat.le_of_ble_eq_true rfl⟩ 7 dX1_init_7 (fun q1 H I => ?_)
  have I : nWv dC dI _ s [(a, .inr (4, [.null, .null, .int 0])), (q1, .inl (g.1 0, 12, .inl (fun _ => 0)))] H locs := I
  refine n_putF (ty := .array .int) [(a, .inr (4, [.null, .ref q1, .int 0])), (q1, .inl (g.1 0, 12, .inl (fun _ => 0)))] X I hin kCl_1 tyX1_ok nmX1 0 rfl 1 (by decide) (Nat.le_of_ble_eq_true rfl) rfl kC_15 rfl rfl (by decide +kernel) rfl rfl 9 dX1_init_9 (fun H locs I => ?_)
  refine lv_aload_n hx hb dX1_init_12 rfl (lv_at hl 0 rfl) ?_
  refine lv_aload_n hx hb dX1_init_13 rfl (lv_at hl 1 rfl) ?_
  refine n_putF (ty := .object "MasterTree$Schema") [(a, .inr (4, [.ref h, .ref q1, .int 0])), (q1, .inl (g.1 0, 12, .inl (fun _ => 0)))] X I hin kCl_1 tyX1_ok nmX1 0 rfl 0 (by decide) (Nat.le_of_ble_eq_true rfl) rfl kC_16 rfl rfl (by decide +kernel) rfl rfl 14 dX1_init_14 (fun H locs I => ?_)
  refine n_ret X I ?_ hr ⟨Nat.le_of_ble_eq_true rfl, Nat.le_of_ble_eq_true rfl⟩ 17 dX1_init_17
  exact ⟨q1, rfl⟩
set_option maxRecDepth 100000 in
set_option maxHeartbeats 4000000 in
theorem n_X2_init (l : Launch) (a : Nat) (h : Nat) : nMet l yX2_init cX2_init 2 1 4 53 [.ref a, .ref h] (fun g => [(a, .inr (5, [.null, .null, .null, .null, .null, .int 0, .int 0]))]) (fun g ws' => ∃ q1 q2 q3 q4 : Nat, ws' = [(a, .inr (5, [.ref h, .ref q1, .ref q2, .ref q3, .ref q4, .int 0, .int 0])), (q1, .inl (g.1 0, 15, .inl (fun _ => 0))), (q2, .inl (g.1 0, 15, .inl (fun _ => 0))), (q3, .inl (g.1 0, 15, .inl (fun _ => 0))), (q4, .inl (g.1 1, 8, .inr (.inl (fun _ => 0))))]) := by
  refine n_start RX2 (by decide +kernel) rfl [(0, .ref a), (1, .ref h)] (Nat.le_of_ble_eq_true rfl) rfl ?_
  intro dC dI g sz p e s m args below meth c X hE hnm hr H locs I ls hl
  have hx := X.1
  have hb := X.2.1
  have hin : meth.name = "<init>" := hnm
  refine lv_aload_n hx hb dX2_init_0 rfl (lv_at hl 0 rfl) ?_
  refine W.objInit hx hb X.2.2.2.1 (X.2.2.2.2.1 _ kC_83) (X.2.2.2.2.1 _ kC_2) (X.2.2.2.2.1 _ kC_3) rfl (by rw [X.2.2.1]; exact hl.1) rfl dX2_init_1 (Nat.le_of_ble_eq_true rfl) (Nat.le_of_ble_eq_true rfl) ?_
  refine W.eq (g2 := F0 m 4 ls []) rfl ?_
  refine lv_aload_n hx hb dX2_init_4 rfl (lv_at hl 0 rfl) ?_
  refine lv_bipush (v := (15 : Int32)) hx hb dX2_init_5 (by decide) ?_
  refine n_newaI 15 X I (by decide) rfl (Nat.le_of_ble_eq_true rfl) ⟨Nat.le_of_ble_eq_true rfl, Nat.le_of_ble_eq_true rfl⟩ 7 dX2_init_7 (fun q1 H I => ?_)
  have I : nWv dC dI _ s [(a, .inr (5, [.null, .null, .null, .null, .null, .int 0, .int 0])), (q1, .inl (g.1 0, 15, .inl (fun _ => 0)))] H locs := I
  refine n_putF (ty := .array .int) [(a, .inr (5, [.null, .ref q1, .null, .null, .null, .int 0, .int 0])), (q1, .inl (g.1 0, 15, .inl (fun _ => 0)))] X I hin kCl_2 tyX2_ok nmX2 0 rfl 1 (by decide) (Nat.le_of_ble_eq_true rfl) rfl kC_84 rfl rfl (by decide +kernel) rfl rfl 9 dX2_init_9 (fun H locs I => ?_)
  refine lv_aload_n hx hb dX2_init_12 rfl (lv_at hl 0 rfl) ?_
  refine lv_bipush (v := (15 : Int32)) hx hb dX2_init_13 (by decide) ?_
  refine n_newaI 15 X I (by decide) rfl (Nat.le_of_ble_eq_true rfl) ⟨Nat.le_of_ble_eq_true rfl, Nat.le_of_ble_eq_true rfl⟩ 15 dX2_init_15 (fun q2 H I => ?_)
  have I : nWv dC dI _ s [(a, .inr (5, [.null, .ref q1, .null, .null, .null, .int 0, .int 0])), (q1, .inl (g.1 0, 15, .inl (fun _ => 0))), (q2, .inl (g.1 0, 15, .inl (fun _ => 0)))] H locs := I
  refine n_putF (ty := .array .int) [(a, .inr (5, [.null, .ref q1, .ref q2, .null, .null, .int 0, .int 0])), (q1, .inl (g.1 0, 15, .inl (fun _ => 0))), (q2, .inl (g.1 0, 15, .inl (fun _ => 0)))] X I hin kCl_2 tyX2_ok nmX2 0 rfl 2 (by decide) (Nat.le_of_ble_eq_true rfl) rfl kC_85 rfl rfl (by decide +kernel) rfl rfl 17 dX2_init_17 (fun H locs I => ?_)
  refine lv_aload_n hx hb dX2_init_20 rfl (lv_at hl 0 rfl) ?_
  refine lv_bipush (v := (15 : Int32)) hx hb dX2_init_21 (by decide) ?_
  refine n_newaI 15 X I (by decide) rfl (Nat.le_of_ble_eq_true rfl) ⟨Nat.le_of_ble_eq_true rfl, Nat.le_of_ble_eq_true rfl⟩ 23 dX2_init_23 (fun q3 H I => ?_)
  have I : nWv dC dI _ s [(a, .inr (5, [.null, .ref q1, .ref q2, .null, .null, .int 0, .int 0])), (q1, .inl (g.1 0, 15, .inl (fun _ => 0))), (q2, .inl (g.1 0, 15, .inl (fun _ => 0))), (q3, .inl (g.1 0, 15, .inl (fun _ => 0)))] H locs := I
  refine n_putF (ty := .array .int) [(a, .inr (5, [.null, .ref q1, .ref q2, .ref q3, .null, .int 0, .int 0])), (q1, .inl (g.1 0, 15, .inl (fun _ => 0))), (q2, .inl (g.1 0, 15, .inl (fun _ => 0))), (q3, .inl (g.1 0, 15, .inl (fun _ => 0)))] X I hin kCl_2 tyX2_ok nmX2 0 rfl 3 (by decide) (Nat.le_of_ble_eq_true rfl) rfl kC_86 rfl rfl (by decide +kernel) rfl rfl 25 dX2_init_25 (fun H locs I => ?_)
  refine lv_aload_n hx hb dX2_init_28 rfl (lv_at hl 0 rfl) ?_
  refine lv_bipush (v := (8 : Int32)) hx hb dX2_init_29 (by decide) ?_
  refine n_newaJ 8 X I (by decide) rfl (Nat.le_of_ble_eq_true rfl) ⟨Nat.le_of_ble_eq_true rfl, Nat.le_of_ble_eq_true rfl⟩ 31 dX2_init_31 (fun q4 H I => ?_)
  have I : nWv dC dI _ s [(a, .inr (5, [.null, .ref q1, .ref q2, .ref q3, .null, .int 0, .int 0])), (q1, .inl (g.1 0, 15, .inl (fun _ => 0))), (q2, .inl (g.1 0, 15, .inl (fun _ => 0))), (q3, .inl (g.1 0, 15, .inl (fun _ => 0))), (q4, .inl (g.1 1, 8, .inr (.inl (fun _ => 0))))] H locs := I
  refine n_putF (ty := .array .long) [(a, .inr (5, [.null, .ref q1, .ref q2, .ref q3, .ref q4, .int 0, .int 0])), (q1, .inl (g.1 0, 15, .inl (fun _ => 0))), (q2, .inl (g.1 0, 15, .inl (fun _ => 0))), (q3, .inl (g.1 0, 15, .inl (fun _ => 0))), (q4, .inl (g.1 1, 8, .inr (.inl (fun _ => 0))))] X I hin kCl_2 tyX2_ok nmX2 0 rfl 4 (by decide) (Nat.le_of_ble_eq_true rfl) rfl kC_88 rfl rfl (by decide +kernel) rfl rfl 33 dX2_init_33 (fun H locs I => ?_)
  refine lv_aload_n hx hb dX2_init_36 rfl (lv_at hl 0 rfl) ?_
  refine lv_aload_n hx hb dX2_init_37 rfl (lv_at hl 1 rfl) ?_
  refine n_putF (ty := .object "MasterTree$Schema") [(a, .inr (5, [.ref h, .ref q1, .ref q2, .ref q3, .ref q4, .int 0, .int 0])), (q1, .inl (g.1 0, 15, .inl (fun _ => 0))), (q2, .inl (g.1 0, 15, .inl (fun _ => 0))), (q3, .inl (g.1 0, 15, .inl (fun _ => 0))), (q4, .inl (g.1 1, 8, .inr (.inl (fun _ => 0))))] X I hin kCl_2 tyX2_ok nmX2 0 rfl 0 (by decide) (Nat.le_of_ble_eq_true rfl) rfl kC_89 rfl rfl (by decide +kernel) rfl rfl 38 dX2_init_38 (fun H locs I => ?_)
  refine n_ret X I ?_ hr ⟨Nat.le_of_ble_eq_true rfl, Nat.le_of_ble_eq_true rfl⟩ 41 dX2_init_41
  exact ⟨q1, q2, q3, q4, rfl⟩
set_option maxRecDepth 100000 in
set_option maxHeartbeats 4000000 in
theorem n_X3_init (l : Launch) (a : Nat) (h1 h2 : Nat) : nMet l yX3_init cX3_init 3 1 3 388 [.ref a, .ref h1, .ref h2] (fun g => [(a, .inr (6, [.null, .null, .null, .int 0, .null, .null, .int 0, .int 0]))]) (fun g ws' => ∃ q1 q2 q3 : Nat, ws' = [(a, .inr (6, [.ref h1, .ref h2, .ref q1, .int 0, .ref q2, .ref q3, .int 0, .int 0])), (q1, .inl (g.1 0, 192, .inl (fun _ => 0))), (q2, .inl (g.1 1, 4, .inr (.inl (fun _ => 0)))), (q3, .inl (g.1 0, 192, .inl (fun _ => 0)))]) := by
  refine n_start RX3 (by decide +kernel) rfl [(0, .ref a), (1, .ref h1), (2, .ref h2)] (Nat.le_of_ble_eq_true rfl) rfl ?_
  intro dC dI g sz p e s m args below meth c X hE hnm hr H locs I ls hl
  have hx := X.1
  have hb := X.2.1
  have hin : meth.name = "<init>" := hnm
  refine lv_aload_n hx hb dX3_init_0 rfl (lv_at hl 0 rfl) ?_
  refine W.objInit hx hb X.2.2.2.1 (X.2.2.2.2.1 _ kC_155) (X.2.2.2.2.1 _ kC_2) (X.2.2.2.2.1 _ kC_3) rfl (by rw [X.2.2.1]; exact hl.1) rfl dX3_init_1 (Nat.le_of_ble_eq_true rfl) (Nat.le_of_ble_eq_true rfl) ?_
  refine W.eq (g2 := F0 m 4 ls []) rfl ?_
  refine lv_aload_n hx hb dX3_init_4 rfl (lv_at hl 0 rfl) ?_
  refine lv_sipush (v := (192 : Int32)) hx hb dX3_init_5 (by decide) ?_
  refine n_newaI 192 X I (by decide) rfl (Nat.le_of_ble_eq_true rfl) ⟨Nat.le_of_ble_eq_true rfl, Nat.le_of_ble_eq_true rfl⟩ 8 dX3_init_8 (fun q1 H I => ?_)
  have I : nWv dC dI _ s [(a, .inr (6, [.null, .null, .null, .int 0, .null, .null, .int 0, .int 0])), (q1, .inl (g.1 0, 192, .inl (fun _ => 0)))] H locs := I
  refine n_putF (ty := .array .int) [(a, .inr (6, [.null, .null, .ref q1, .int 0, .null, .null, .int 0, .int 0])), (q1, .inl (g.1 0, 192, .inl (fun _ => 0)))] X I hin kCl_3 tyX3_ok nmX3 0 rfl 2 (by decide) (Nat.le_of_ble_eq_true rfl) rfl kC_156 rfl rfl (by decide +kernel) rfl rfl 10 dX3_init_10 (fun H locs I => ?_)
  refine lv_aload_n hx hb dX3_init_13 rfl (lv_at hl 0 rfl) ?_
  refine lv_iconst (v := (4 : Int32)) hx hb dX3_init_14 (by decide) ?_
  refine n_newaJ 4 X I (by decide) rfl (Nat.le_of_ble_eq_true rfl) ⟨Nat.le_of_ble_eq_true rfl, Nat.le_of_ble_eq_true rfl⟩ 15 dX3_init_15 (fun q2 H I => ?_)
  have I : nWv dC dI _ s [(a, .inr (6, [.null, .null, .ref q1, .int 0, .null, .null, .int 0, .int 0])), (q1, .inl (g.1 0, 192, .inl (fun _ => 0))), (q2, .inl (g.1 1, 4, .inr (.inl (fun _ => 0))))] H locs := I
  refine n_putF (ty := .array .long) [(a, .inr (6, [.null, .null, .ref q1, .int 0, .ref q2, .null, .int 0, .int 0])), (q1, .inl (g.1 0, 192, .inl (fun _ => 0))), (q2, .inl (g.1 1, 4, .inr (.inl (fun _ => 0))))] X I hin kCl_3 tyX3_ok nmX3 0 rfl 4 (by decide) (Nat.le_of_ble_eq_true rfl) rfl kC_157 rfl rfl (by decide +kernel) rfl rfl 17 dX3_init_17 (fun H locs I => ?_)
  refine lv_aload_n hx hb dX3_init_20 rfl (lv_at hl 0 rfl) ?_
  refine lv_sipush (v := (192 : Int32)) hx hb dX3_init_21 (by decide) ?_
  refine n_newaI 192 X I (by decide) rfl (Nat.le_of_ble_eq_true rfl) ⟨Nat.le_of_ble_eq_true rfl, Nat.le_of_ble_eq_true rfl⟩ 24 dX3_init_24 (fun q3 H I => ?_)
  have I : nWv dC dI _ s [(a, .inr (6, [.null, .null, .ref q1, .int 0, .ref q2, .null, .int 0, .int 0])), (q1, .inl (g.1 0, 192, .inl (fun _ => 0))), (q2, .inl (g.1 1, 4, .inr (.inl (fun _ => 0)))), (q3, .inl (g.1 0, 192, .inl (fun _ => 0)))] H locs := I
  refine n_putF (ty := .array .int) [(a, .inr (6, [.null, .null, .ref q1, .int 0, .ref q2, .ref q3, .int 0, .int 0])), (q1, .inl (g.1 0, 192, .inl (fun _ => 0))), (q2, .inl (g.1 1, 4, .inr (.inl (fun _ => 0)))), (q3, .inl (g.1 0, 192, .inl (fun _ => 0)))] X I hin kCl_3 tyX3_ok nmX3 0 rfl 5 (by decide) (Nat.le_of_ble_eq_true rfl) rfl kC_158 rfl rfl (by decide +kernel) rfl rfl 26 dX3_init_26 (fun H locs I => ?_)
  refine lv_aload_n hx hb dX3_init_29 rfl (lv_at hl 0 rfl) ?_
  refine lv_aload_n hx hb dX3_init_30 rfl (lv_at hl 1 rfl) ?_
  refine n_putF (ty := .array (.object "MasterTree$Master")) [(a, .inr (6, [.ref h1, .null, .ref q1, .int 0, .ref q2, .ref q3, .int 0, .int 0])), (q1, .inl (g.1 0, 192, .inl (fun _ => 0))), (q2, .inl (g.1 1, 4, .inr (.inl (fun _ => 0)))), (q3, .inl (g.1 0, 192, .inl (fun _ => 0)))] X I hin kCl_3 tyX3_ok nmX3 0 rfl 0 (by decide) (Nat.le_of_ble_eq_true rfl) rfl kC_159 rfl rfl (by decide +kernel) rfl rfl 31 dX3_init_31 (fun H locs I => ?_)
  refine lv_aload_n hx hb dX3_init_34 rfl (lv_at hl 0 rfl) ?_
  refine lv_aload_n hx hb dX3_init_35 rfl (lv_at hl 2 rfl) ?_
  refine n_putF (ty := .object "MasterTree$Filter") [(a, .inr (6, [.ref h1, .ref h2, .ref q1, .int 0, .ref q2, .ref q3, .int 0, .int 0])), (q1, .inl (g.1 0, 192, .inl (fun _ => 0))), (q2, .inl (g.1 1, 4, .inr (.inl (fun _ => 0)))), (q3, .inl (g.1 0, 192, .inl (fun _ => 0)))] X I hin kCl_3 tyX3_ok nmX3 0 rfl 1 (by decide) (Nat.le_of_ble_eq_true rfl) rfl kC_160 rfl rfl (by decide +kernel) rfl rfl 36 dX3_init_36 (fun H locs I => ?_)
  refine n_ret X I ?_ hr ⟨Nat.le_of_ble_eq_true rfl, Nat.le_of_ble_eq_true rfl⟩ 39 dX3_init_39
  exact ⟨q1, q2, q3, rfl⟩
set_option maxRecDepth 100000 in
set_option maxHeartbeats 4000000 in
theorem n_X4_init (l : Launch) (a : Nat) (x1 : Int32) (h : Nat) : nMet l yX4_init cX4_init 3 1 1 16 [.ref a, .int x1, .ref h] (fun g => [(a, .inr (7, [.int 0, .null, .int 0, .long 0, .int 0, .null]))]) (fun g ws' => ∃ q1 : Nat, ws' = [(a, .inr (7, [.int x1, .ref h, .int 0, .long 0, .int 0, .ref q1])), (q1, .inl (g.1 0, 16, .inl (fun _ => 0)))]) := by
  refine n_start RX4 (by decide +kernel) rfl [(0, .ref a), (1, .int x1), (2, .ref h)] (Nat.le_of_ble_eq_true rfl) rfl ?_
  intro dC dI g sz p e s m args below meth c X hE hnm hr H locs I ls hl
  have hx := X.1
  have hb := X.2.1
  have hin : meth.name = "<init>" := hnm
  refine lv_aload_n hx hb dX4_init_0 rfl (lv_at hl 0 rfl) ?_
  refine W.objInit hx hb X.2.2.2.1 (X.2.2.2.2.1 _ kC_273) (X.2.2.2.2.1 _ kC_2) (X.2.2.2.2.1 _ kC_3) rfl (by rw [X.2.2.1]; exact hl.1) rfl dX4_init_1 (Nat.le_of_ble_eq_true rfl) (Nat.le_of_ble_eq_true rfl) ?_
  refine W.eq (g2 := F0 m 4 ls []) rfl ?_
  refine lv_aload_n hx hb dX4_init_4 rfl (lv_at hl 0 rfl) ?_
  refine lv_bipush (v := (16 : Int32)) hx hb dX4_init_5 (by decide) ?_
  refine n_newaI 16 X I (by decide) rfl (Nat.le_of_ble_eq_true rfl) ⟨Nat.le_of_ble_eq_true rfl, Nat.le_of_ble_eq_true rfl⟩ 7 dX4_init_7 (fun q1 H I => ?_)
  have I : nWv dC dI _ s [(a, .inr (7, [.int 0, .null, .int 0, .long 0, .int 0, .null])), (q1, .inl (g.1 0, 16, .inl (fun _ => 0)))] H locs := I
  refine n_putF (ty := .array .int) [(a, .inr (7, [.int 0, .null, .int 0, .long 0, .int 0, .ref q1])), (q1, .inl (g.1 0, 16, .inl (fun _ => 0)))] X I hin kCl_4 tyX4_ok nmX4 0 rfl 5 (by decide) (Nat.le_of_ble_eq_true rfl) rfl kC_274 rfl rfl (by decide +kernel) rfl rfl 9 dX4_init_9 (fun H locs I => ?_)
  refine lv_aload_n hx hb dX4_init_12 rfl (lv_at hl 0 rfl) ?_
  refine lv_iload_n hx hb dX4_init_13 rfl (lv_at hl 1 rfl) ?_
  refine n_putF (ty := .int) [(a, .inr (7, [.int x1, .null, .int 0, .long 0, .int 0, .ref q1])), (q1, .inl (g.1 0, 16, .inl (fun _ => 0)))] X I hin kCl_4 tyX4_ok nmX4 0 rfl 0 (by decide) (Nat.le_of_ble_eq_true rfl) rfl kC_275 rfl rfl (by decide +kernel) rfl rfl 14 dX4_init_14 (fun H locs I => ?_)
  refine lv_aload_n hx hb dX4_init_17 rfl (lv_at hl 0 rfl) ?_
  refine lv_aload_n hx hb dX4_init_18 rfl (lv_at hl 2 rfl) ?_
  refine n_putF (ty := .object "MasterTree$Tree") [(a, .inr (7, [.int x1, .ref h, .int 0, .long 0, .int 0, .ref q1])), (q1, .inl (g.1 0, 16, .inl (fun _ => 0)))] X I hin kCl_4 tyX4_ok nmX4 0 rfl 1 (by decide) (Nat.le_of_ble_eq_true rfl) rfl kC_276 rfl rfl (by decide +kernel) rfl rfl 19 dX4_init_19 (fun H locs I => ?_)
  refine n_ret X I ?_ hr ⟨Nat.le_of_ble_eq_true rfl, Nat.le_of_ble_eq_true rfl⟩ 22 dX4_init_22
  exact ⟨q1, rfl⟩
set_option maxRecDepth 100000 in
set_option maxHeartbeats 4000000 in
theorem n_X6_init (l : Launch) (a : Nat) : nMet l yX6_init cX6_init 1 1 2 576 [.ref a] (fun g => [(a, .inr (9, [.null, .null]))]) (fun g ws' => ∃ q1 q2 : Nat, ws' = [(a, .inr (9, [.ref q1, .ref q2])), (q1, .inl (g.1 1, 288, .inr (.inl (fun _ => 0)))), (q2, .inl (g.1 1, 288, .inr (.inl (fun _ => 0))))]) := by
  refine n_start RX6 (by decide +kernel) rfl [(0, .ref a)] (Nat.le_of_ble_eq_true rfl) rfl ?_
  intro dC dI g sz p e s m args below meth c X hE hnm hr H locs I ls hl
  have hx := X.1
  have hb := X.2.1
  have hin : meth.name = "<init>" := hnm
  refine lv_aload_n hx hb dX6_init_0 rfl (lv_at hl 0 rfl) ?_
  refine W.objInit hx hb X.2.2.2.1 (X.2.2.2.2.1 _ kC_312) (X.2.2.2.2.1 _ kC_2) (X.2.2.2.2.1 _ kC_3) rfl (by rw [X.2.2.1]; exact hl.1) rfl dX6_init_1 (Nat.le_of_ble_eq_true rfl) (Nat.le_of_ble_eq_true rfl) ?_
  refine W.eq (g2 := F0 m 4 ls []) rfl ?_
  refine lv_aload_n hx hb dX6_init_4 rfl (lv_at hl 0 rfl) ?_
  refine lv_sipush (v := (288 : Int32)) hx hb dX6_init_5 (by decide) ?_
  refine n_newaJ 288 X I (by decide) rfl (Nat.le_of_ble_eq_true rfl) ⟨Nat.le_of_ble_eq_true rfl, Nat.le_of_ble_eq_true rfl⟩ 8 dX6_init_8 (fun q1 H I => ?_)
  have I : nWv dC dI _ s [(a, .inr (9, [.null, .null])), (q1, .inl (g.1 1, 288, .inr (.inl (fun _ => 0))))] H locs := I
  refine n_putF (ty := .array .long) [(a, .inr (9, [.ref q1, .null])), (q1, .inl (g.1 1, 288, .inr (.inl (fun _ => 0))))] X I hin kCl_6 tyX6_ok nmX6 0 rfl 0 (by decide) (Nat.le_of_ble_eq_true rfl) rfl kC_176 rfl rfl (by decide +kernel) rfl rfl 10 dX6_init_10 (fun H locs I => ?_)
  refine lv_aload_n hx hb dX6_init_13 rfl (lv_at hl 0 rfl) ?_
  refine lv_sipush (v := (288 : Int32)) hx hb dX6_init_14 (by decide) ?_
  refine n_newaJ 288 X I (by decide) rfl (Nat.le_of_ble_eq_true rfl) ⟨Nat.le_of_ble_eq_true rfl, Nat.le_of_ble_eq_true rfl⟩ 17 dX6_init_17 (fun q2 H I => ?_)
  have I : nWv dC dI _ s [(a, .inr (9, [.ref q1, .null])), (q1, .inl (g.1 1, 288, .inr (.inl (fun _ => 0)))), (q2, .inl (g.1 1, 288, .inr (.inl (fun _ => 0))))] H locs := I
  refine n_putF (ty := .array .long) [(a, .inr (9, [.ref q1, .ref q2])), (q1, .inl (g.1 1, 288, .inr (.inl (fun _ => 0)))), (q2, .inl (g.1 1, 288, .inr (.inl (fun _ => 0))))] X I hin kCl_6 tyX6_ok nmX6 0 rfl 1 (by decide) (Nat.le_of_ble_eq_true rfl) rfl kC_177 rfl rfl (by decide +kernel) rfl rfl 19 dX6_init_19 (fun H locs I => ?_)
  refine n_ret X I ?_ hr ⟨Nat.le_of_ble_eq_true rfl, Nat.le_of_ble_eq_true rfl⟩ 22 dX6_init_22
  exact ⟨q1, q2, rfl⟩
set_option maxRecDepth 100000 in
set_option maxHeartbeats 4000000 in
theorem n_X5_init (l : Launch) (a : Nat) (x1 : Int32) (N1 : Nat) (h1 : ¬ x1 < 0) (h2 : x1.toNatClampNeg = N1) (h3 : N1 ≤ 1000) : nMet l yX5_init cX5_init 2 1 1 N1 [.ref a, .int x1] (fun g => [(a, .inr (8, [.null, .int 0]))]) (fun g ws' => ∃ q1 : Nat, ws' = [(a, .inr (8, [.ref q1, .int 0])), (q1, .inl (g.1 0, N1, .inl (fun _ => 0)))]) := by
  refine n_start RX5 (by decide +kernel) rfl [(0, .ref a), (1, .int x1)] (Nat.le_of_ble_eq_true rfl) rfl ?_
  intro dC dI g sz p e s m args below meth c X hE hnm hr H locs I ls hl
  have hx := X.1
  have hb := X.2.1
  have hin : meth.name = "<init>" := hnm
  refine lv_aload_n hx hb dX5_init_0 rfl (lv_at hl 0 rfl) ?_
  refine W.objInit hx hb X.2.2.2.1 (X.2.2.2.2.1 _ kC_308) (X.2.2.2.2.1 _ kC_2) (X.2.2.2.2.1 _ kC_3) rfl (by rw [X.2.2.1]; exact hl.1) rfl dX5_init_1 (Nat.le_of_ble_eq_true rfl) (Nat.le_of_ble_eq_true rfl) ?_
  refine W.eq (g2 := F0 m 4 ls []) rfl ?_
  refine lv_aload_n hx hb dX5_init_4 rfl (lv_at hl 0 rfl) ?_
  refine lv_iload_n hx hb dX5_init_5 rfl (lv_at hl 1 rfl) ?_
  refine lv_iconst (v := (0 : Int32)) hx hb dX5_init_6 (by decide) ?_
  refine k_max (d := 1) ⟨Nat.le_refl _, Nat.le_refl _⟩ (by decide) X hl.1 kC_309 kC_293 kC_32 kC_294 7 dX5_init_7 (Nat.le_of_ble_eq_true rfl) ⟨Nat.zero_le _, Nat.zero_le _⟩ ?_
  refine n_newaI N1 X I (by rw [if_neg h1]; exact h1) (by rw [if_neg h1]; exact h2) (by omega) ⟨Nat.le_of_ble_eq_true rfl, (by show 0 + N1 ≤ N1; omega)⟩ 10 dX5_init_10 (fun q1 H I => ?_)
  have I : nWv dC dI _ s [(a, .inr (8, [.null, .int 0])), (q1, .inl (g.1 0, N1, .inl (fun _ => 0)))] H locs := I
  refine n_putF (ty := .array .int) [(a, .inr (8, [.ref q1, .int 0])), (q1, .inl (g.1 0, N1, .inl (fun _ => 0)))] X I hin kCl_5 tyX5_ok nmX5 0 rfl 0 (by decide) (Nat.le_of_ble_eq_true rfl) rfl kC_104 rfl rfl (by decide +kernel) rfl rfl 12 dX5_init_12 (fun H locs I => ?_)
  refine n_ret X I ?_ hr ⟨Nat.le_of_ble_eq_true rfl, (by show 0 + N1 ≤ N1; omega)⟩ 15 dX5_init_15
  exact ⟨q1, rfl⟩
theorem fc_X8_X6_init : kFnC RX8 yX6_init cX6_init 1 0 23 := ⟨⟨kC_343, kC_181, kC_311, ⟨by decide +kernel, by decide +kernel, by decide +kernel⟩, by decide⟩, kC_344, rfl⟩
theorem fc_X8_X5_init : kFnC RX8 yX5_init cX5_init 2 1 36 := ⟨⟨kC_345, kC_109, kC_307, ⟨by decide +kernel, by decide +kernel, by decide +kernel⟩, by decide⟩, kC_346, rfl⟩
set_option maxRecDepth 100000 in
set_option maxHeartbeats 4000000 in
theorem n_X8_init (l : Launch) (a h : Nat) : nMet l yX8_init cX8_init 2 3 14 2524 [.ref a, .ref h] (fun g => [(a, .inr (11, [.null, .null, .null, .null, .null, .null, .null, .null, .null, .null, .long 0, .long 0]))]) (fun g ws' => ∃ q1 q2 q3 q4 q5 q6 q7 q8 q9 q10 q11 q12 q13 q14 : Nat, ws' = [(a, .inr (11, [.ref q1, .ref q2, .ref q3, .ref q4, .ref h, .ref q7, .ref q8, .ref q9, .ref q11, .ref q13, .long (1 : Int64), .long (0 : Int64)])), (q1, .inl (g.1 0, 48, .inl (fun _ => (0 : Int32)))), (q2, .inl (g.1 0, 48, .inl (fun _ => (-1 : Int32)))), (q3, .inl (g.1 0, 48, .inl (fun _ => (-1 : Int32)))), (q7, .inl (g.1 0, 48, .inl (fun _ => (-1 : Int32)))), (q8, .inl (g.1 0, 48, .inl (fun _ => 0))), (q4, .inr (9, [.ref q5, .ref q6])), (q5, .inl (g.1 1, 288, .inr (.inl (fun _ => (0 : Int64))))), (q6, .inl (g.1 1, 288, .inr (.inl (fun _ => (0 : Int64))))), (q9, .inr (8, [.ref q10, .int (0 : Int32)])), (q10, .inl (g.1 0, 826, .inl (fun _ => 0))), (q11, .inr (8, [.ref q12, .int (0 : Int32)])), (q12, .inl (g.1 0, 826, .inl (fun _ => 0))), (q13, .inr (8, [.ref q14, .int 0])), (q14, .inl (g.1 0, 48, .inl (fun _ => 0)))]) := by
  refine n_start RX8 (by decide +kernel) rfl [(0, .ref a), (1, .ref h)] (Nat.le_of_ble_eq_true rfl) rfl ?_
  intro dC dI g sz p e s m args below meth c X hE hnm hr H locs I ls hl
  have hx := X.1
  have hb := X.2.1
  have hin : meth.name = "<init>" := hnm
  refine lv_aload_n hx hb dX8_init_0 rfl (lv_at hl 0 rfl) ?_
  refine W.objInit hx hb X.2.2.2.1 (X.2.2.2.2.1 _ kC_338) (X.2.2.2.2.1 _ kC_2) (X.2.2.2.2.1 _ kC_3) rfl (by rw [X.2.2.1]; exact hl.1) rfl dX8_init_1 (Nat.le_of_ble_eq_true rfl) (Nat.le_of_ble_eq_true rfl) ?_
  refine W.eq (g2 := F0 m 4 ls []) rfl ?_
  refine lv_aload_n hx hb dX8_init_4 rfl (lv_at hl 0 rfl) ?_
  refine lv_bipush (v := (48 : Int32)) hx hb dX8_init_5 (by decide) ?_
  refine n_newaI 48 X I (by decide) rfl (Nat.le_of_ble_eq_true rfl) ⟨Nat.le_of_ble_eq_true rfl, Nat.le_of_ble_eq_true rfl⟩ 7 dX8_init_7 (fun q1 H I => ?_)
  have I : nWv dC dI _ s [(a, .inr (11, [.null, .null, .null, .null, .null, .null, .null, .null, .null, .null, .long 0, .long 0])), (q1, .inl (g.1 0, 48, .inl (fun _ => 0)))] H locs := I
  refine n_putF (ty := .array .int) [(a, .inr (11, [.ref q1, .null, .null, .null, .null, .null, .null, .null, .null, .null, .long 0, .long 0])), (q1, .inl (g.1 0, 48, .inl (fun _ => 0)))] X I hin kCl_8 tyX8_ok nmX8 0 rfl 0 (by decide) (Nat.le_of_ble_eq_true rfl) rfl kC_235 rfl rfl (by decide +kernel) rfl rfl 9 dX8_init_9 (fun H locs I => ?_)
  refine lv_aload_n hx hb dX8_init_12 rfl (lv_at hl 0 rfl) ?_
  refine lv_bipush (v := (48 : Int32)) hx hb dX8_init_13 (by decide) ?_
  refine n_newaI 48 X I (by decide) rfl (Nat.le_of_ble_eq_true rfl) ⟨Nat.le_of_ble_eq_true rfl, Nat.le_of_ble_eq_true rfl⟩ 15 dX8_init_15 (fun q2 H I => ?_)
  have I : nWv dC dI _ s [(a, .inr (11, [.ref q1, .null, .null, .null, .null, .null, .null, .null, .null, .null, .long 0, .long 0])), (q1, .inl (g.1 0, 48, .inl (fun _ => 0))), (q2, .inl (g.1 0, 48, .inl (fun _ => 0)))] H locs := I
  refine n_putF (ty := .array .int) [(a, .inr (11, [.ref q1, .ref q2, .null, .null, .null, .null, .null, .null, .null, .null, .long 0, .long 0])), (q1, .inl (g.1 0, 48, .inl (fun _ => 0))), (q2, .inl (g.1 0, 48, .inl (fun _ => 0)))] X I hin kCl_8 tyX8_ok nmX8 0 rfl 1 (by decide) (Nat.le_of_ble_eq_true rfl) rfl kC_329 rfl rfl (by decide +kernel) rfl rfl 17 dX8_init_17 (fun H locs I => ?_)
  refine lv_aload_n hx hb dX8_init_20 rfl (lv_at hl 0 rfl) ?_
  refine lv_bipush (v := (48 : Int32)) hx hb dX8_init_21 (by decide) ?_
  refine n_newaI 48 X I (by decide) rfl (Nat.le_of_ble_eq_true rfl) ⟨Nat.le_of_ble_eq_true rfl, Nat.le_of_ble_eq_true rfl⟩ 23 dX8_init_23 (fun q3 H I => ?_)
  have I : nWv dC dI _ s [(a, .inr (11, [.ref q1, .ref q2, .null, .null, .null, .null, .null, .null, .null, .null, .long 0, .long 0])), (q1, .inl (g.1 0, 48, .inl (fun _ => 0))), (q2, .inl (g.1 0, 48, .inl (fun _ => 0))), (q3, .inl (g.1 0, 48, .inl (fun _ => 0)))] H locs := I
  refine n_putF (ty := .array .int) [(a, .inr (11, [.ref q1, .ref q2, .ref q3, .null, .null, .null, .null, .null, .null, .null, .long 0, .long 0])), (q1, .inl (g.1 0, 48, .inl (fun _ => 0))), (q2, .inl (g.1 0, 48, .inl (fun _ => 0))), (q3, .inl (g.1 0, 48, .inl (fun _ => 0)))] X I hin kCl_8 tyX8_ok nmX8 0 rfl 2 (by decide) (Nat.le_of_ble_eq_true rfl) rfl kC_330 rfl rfl (by decide +kernel) rfl rfl 25 dX8_init_25 (fun H locs I => ?_)
  refine lv_aload_n hx hb dX8_init_28 rfl (lv_at hl 0 rfl) ?_
  refine n_new (fs := [.null, .null]) X I kCl_6.1 kCl_6.2.1 tyX6 tyX6_ok (fun j hj => match j, hj with
    | 0, _ => rfl
    | 1, _ => rfl) kC_339 kC_340 kC_181 ⟨Nat.le_of_ble_eq_true rfl, Nat.le_of_ble_eq_true rfl⟩ 29 dX8_init_29 (fun q4 H I => ?_)
  have I : nWv dC dI _ s [(a, .inr (11, [.ref q1, .ref q2, .ref q3, .null, .null, .null, .null, .null, .null, .null, .long 0, .long 0])), (q1, .inl (g.1 0, 48, .inl (fun _ => 0))), (q2, .inl (g.1 0, 48, .inl (fun _ => 0))), (q3, .inl (g.1 0, 48, .inl (fun _ => 0))), (q4, .inr (9, [.null, .null]))] H locs := I
  refine lv_dup hx hb dX8_init_32 rfl ?_
  refine n_callC (ws0 := [(a, .inr (11, [.ref q1, .ref q2, .ref q3, .null, .null, .null, .null, .null, .null, .null, .long 0, .long 0])), (q1, .inl (g.1 0, 48, .inl (fun _ => 0))), (q2, .inl (g.1 0, 48, .inl (fun _ => 0))), (q3, .inl (g.1 0, 48, .inl (fun _ => 0)))]) (rest := [.ref q4, .ref a]) (As := []) (d := 3) ⟨Nat.le_refl _, Nat.le_refl _⟩ X hE I fc_X8_X6_init (n_X6_init l q4) (by decide) 33 dX8_init_33 rfl hl.1 rfl (Nat.le_of_ble_eq_true rfl) ⟨Nat.le_of_ble_eq_true rfl, Nat.le_of_ble_eq_true rfl⟩ (fun ws1 H locs hPo I => ?_)
  obtain ⟨q5, q6, rfl⟩ := hPo
  have I : nWv dC dI _ s [(a, .inr (11, [.ref q1, .ref q2, .ref q3, .null, .null, .null, .null, .null, .null, .null, .long 0, .long 0])), (q1, .inl (g.1 0, 48, .inl (fun _ => 0))), (q2, .inl (g.1 0, 48, .inl (fun _ => 0))), (q3, .inl (g.1 0, 48, .inl (fun _ => 0))), (q4, .inr (9, [.ref q5, .ref q6])), (q5, .inl (g.1 1, 288, .inr (.inl (fun _ => 0)))), (q6, .inl (g.1 1, 288, .inr (.inl (fun _ => 0))))] H locs := I
  refine n_putF (ty := .object "MasterTree$Rules") [(a, .inr (11, [.ref q1, .ref q2, .ref q3, .ref q4, .null, .null, .null, .null, .null, .null, .long 0, .long 0])), (q1, .inl (g.1 0, 48, .inl (fun _ => 0))), (q2, .inl (g.1 0, 48, .inl (fun _ => 0))), (q3, .inl (g.1 0, 48, .inl (fun _ => 0))), (q4, .inr (9, [.ref q5, .ref q6])), (q5, .inl (g.1 1, 288, .inr (.inl (fun _ => 0)))), (q6, .inl (g.1 1, 288, .inr (.inl (fun _ => 0))))] X I hin kCl_8 tyX8_ok nmX8 0 rfl 3 (by decide) (Nat.le_of_ble_eq_true rfl) rfl kC_185 rfl rfl (by decide +kernel) rfl rfl 36 dX8_init_36 (fun H locs I => ?_)
  refine lv_aload_n hx hb dX8_init_39 rfl (lv_at hl 0 rfl) ?_
  refine lv_bipush (v := (48 : Int32)) hx hb dX8_init_40 (by decide) ?_
  refine n_newaI 48 X I (by decide) rfl (Nat.le_of_ble_eq_true rfl) ⟨Nat.le_of_ble_eq_true rfl, Nat.le_of_ble_eq_true rfl⟩ 42 dX8_init_42 (fun q7 H I => ?_)
  have I : nWv dC dI _ s [(a, .inr (11, [.ref q1, .ref q2, .ref q3, .ref q4, .null, .null, .null, .null, .null, .null, .long 0, .long 0])), (q1, .inl (g.1 0, 48, .inl (fun _ => 0))), (q2, .inl (g.1 0, 48, .inl (fun _ => 0))), (q3, .inl (g.1 0, 48, .inl (fun _ => 0))), (q4, .inr (9, [.ref q5, .ref q6])), (q5, .inl (g.1 1, 288, .inr (.inl (fun _ => 0)))), (q6, .inl (g.1 1, 288, .inr (.inl (fun _ => 0)))), (q7, .inl (g.1 0, 48, .inl (fun _ => 0)))] H locs := I
  refine n_putF (ty := .array .int) [(a, .inr (11, [.ref q1, .ref q2, .ref q3, .ref q4, .null, .ref q7, .null, .null, .null, .null, .long 0, .long 0])), (q1, .inl (g.1 0, 48, .inl (fun _ => 0))), (q2, .inl (g.1 0, 48, .inl (fun _ => 0))), (q3, .inl (g.1 0, 48, .inl (fun _ => 0))), (q4, .inr (9, [.ref q5, .ref q6])), (q5, .inl (g.1 1, 288, .inr (.inl (fun _ => 0)))), (q6, .inl (g.1 1, 288, .inr (.inl (fun _ => 0)))), (q7, .inl (g.1 0, 48, .inl (fun _ => 0)))] X I hin kCl_8 tyX8_ok nmX8 0 rfl 5 (by decide) (Nat.le_of_ble_eq_true rfl) rfl kC_162 rfl rfl (by decide +kernel) rfl rfl 44 dX8_init_44 (fun H locs I => ?_)
  refine lv_aload_n hx hb dX8_init_47 rfl (lv_at hl 0 rfl) ?_
  refine lv_bipush (v := (48 : Int32)) hx hb dX8_init_48 (by decide) ?_
  refine n_newaI 48 X I (by decide) rfl (Nat.le_of_ble_eq_true rfl) ⟨Nat.le_of_ble_eq_true rfl, Nat.le_of_ble_eq_true rfl⟩ 50 dX8_init_50 (fun q8 H I => ?_)
  have I : nWv dC dI _ s [(a, .inr (11, [.ref q1, .ref q2, .ref q3, .ref q4, .null, .ref q7, .null, .null, .null, .null, .long 0, .long 0])), (q1, .inl (g.1 0, 48, .inl (fun _ => 0))), (q2, .inl (g.1 0, 48, .inl (fun _ => 0))), (q3, .inl (g.1 0, 48, .inl (fun _ => 0))), (q4, .inr (9, [.ref q5, .ref q6])), (q5, .inl (g.1 1, 288, .inr (.inl (fun _ => 0)))), (q6, .inl (g.1 1, 288, .inr (.inl (fun _ => 0)))), (q7, .inl (g.1 0, 48, .inl (fun _ => 0))), (q8, .inl (g.1 0, 48, .inl (fun _ => 0)))] H locs := I
  refine n_putF (ty := .array .int) [(a, .inr (11, [.ref q1, .ref q2, .ref q3, .ref q4, .null, .ref q7, .ref q8, .null, .null, .null, .long 0, .long 0])), (q1, .inl (g.1 0, 48, .inl (fun _ => 0))), (q2, .inl (g.1 0, 48, .inl (fun _ => 0))), (q3, .inl (g.1 0, 48, .inl (fun _ => 0))), (q4, .inr (9, [.ref q5, .ref q6])), (q5, .inl (g.1 1, 288, .inr (.inl (fun _ => 0)))), (q6, .inl (g.1 1, 288, .inr (.inl (fun _ => 0)))), (q7, .inl (g.1 0, 48, .inl (fun _ => 0))), (q8, .inl (g.1 0, 48, .inl (fun _ => 0)))] X I hin kCl_8 tyX8_ok nmX8 0 rfl 6 (by decide) (Nat.le_of_ble_eq_true rfl) rfl kC_236 rfl rfl (by decide +kernel) rfl rfl 52 dX8_init_52 (fun H locs I => ?_)
  refine lv_aload_n hx hb dX8_init_55 rfl (lv_at hl 0 rfl) ?_
  refine n_new (fs := [.null, .int 0]) X I kCl_5.1 kCl_5.2.1 tyX5 tyX5_ok (fun j hj => match j, hj with
    | 0, _ => rfl
    | 1, _ => rfl) kC_341 kC_342 kC_109 ⟨Nat.le_of_ble_eq_true rfl, Nat.le_of_ble_eq_true rfl⟩ 56 dX8_init_56 (fun q9 H I => ?_)
  have I : nWv dC dI _ s [(a, .inr (11, [.ref q1, .ref q2, .ref q3, .ref q4, .null, .ref q7, .ref q8, .null, .null, .null, .long 0, .long 0])), (q1, .inl (g.1 0, 48, .inl (fun _ => 0))), (q2, .inl (g.1 0, 48, .inl (fun _ => 0))), (q3, .inl (g.1 0, 48, .inl (fun _ => 0))), (q4, .inr (9, [.ref q5, .ref q6])), (q5, .inl (g.1 1, 288, .inr (.inl (fun _ => 0)))), (q6, .inl (g.1 1, 288, .inr (.inl (fun _ => 0)))), (q7, .inl (g.1 0, 48, .inl (fun _ => 0))), (q8, .inl (g.1 0, 48, .inl (fun _ => 0))), (q9, .inr (8, [.null, .int 0]))] H locs := I
  refine lv_dup hx hb dX8_init_59 rfl ?_
  refine lv_sipush (v := (826 : Int32)) hx hb dX8_init_60 (by decide) ?_
  refine n_callC (ws0 := [(a, .inr (11, [.ref q1, .ref q2, .ref q3, .ref q4, .null, .ref q7, .ref q8, .null, .null, .null, .long 0, .long 0])), (q1, .inl (g.1 0, 48, .inl (fun _ => 0))), (q2, .inl (g.1 0, 48, .inl (fun _ => 0))), (q3, .inl (g.1 0, 48, .inl (fun _ => 0))), (q4, .inr (9, [.ref q5, .ref q6])), (q5, .inl (g.1 1, 288, .inr (.inl (fun _ => 0)))), (q6, .inl (g.1 1, 288, .inr (.inl (fun _ => 0)))), (q7, .inl (g.1 0, 48, .inl (fun _ => 0))), (q8, .inl (g.1 0, 48, .inl (fun _ => 0)))]) (rest := [.ref q9, .ref a]) (As := [.int (826 : Int32)]) (d := 3) ⟨Nat.le_refl _, Nat.le_refl _⟩ X hE I fc_X8_X5_init (n_X5_init l q9 (826 : Int32) 826 (by decide) rfl (by decide)) (by decide) 63 dX8_init_63 rfl hl.1 rfl (Nat.le_of_ble_eq_true rfl) ⟨Nat.le_of_ble_eq_true rfl, Nat.le_of_ble_eq_true rfl⟩ (fun ws1 H locs hPo I => ?_)
  obtain ⟨q10, rfl⟩ := hPo
  have I : nWv dC dI _ s [(a, .inr (11, [.ref q1, .ref q2, .ref q3, .ref q4, .null, .ref q7, .ref q8, .null, .null, .null, .long 0, .long 0])), (q1, .inl (g.1 0, 48, .inl (fun _ => 0))), (q2, .inl (g.1 0, 48, .inl (fun _ => 0))), (q3, .inl (g.1 0, 48, .inl (fun _ => 0))), (q4, .inr (9, [.ref q5, .ref q6])), (q5, .inl (g.1 1, 288, .inr (.inl (fun _ => 0)))), (q6, .inl (g.1 1, 288, .inr (.inl (fun _ => 0)))), (q7, .inl (g.1 0, 48, .inl (fun _ => 0))), (q8, .inl (g.1 0, 48, .inl (fun _ => 0))), (q9, .inr (8, [.ref q10, .int 0])), (q10, .inl (g.1 0, 826, .inl (fun _ => 0)))] H locs := I
  refine n_putF (ty := .object "MasterTree$Numbers") [(a, .inr (11, [.ref q1, .ref q2, .ref q3, .ref q4, .null, .ref q7, .ref q8, .ref q9, .null, .null, .long 0, .long 0])), (q1, .inl (g.1 0, 48, .inl (fun _ => 0))), (q2, .inl (g.1 0, 48, .inl (fun _ => 0))), (q3, .inl (g.1 0, 48, .inl (fun _ => 0))), (q4, .inr (9, [.ref q5, .ref q6])), (q5, .inl (g.1 1, 288, .inr (.inl (fun _ => 0)))), (q6, .inl (g.1 1, 288, .inr (.inl (fun _ => 0)))), (q7, .inl (g.1 0, 48, .inl (fun _ => 0))), (q8, .inl (g.1 0, 48, .inl (fun _ => 0))), (q9, .inr (8, [.ref q10, .int 0])), (q10, .inl (g.1 0, 826, .inl (fun _ => 0)))] X I hin kCl_8 tyX8_ok nmX8 0 rfl 7 (by decide) (Nat.le_of_ble_eq_true rfl) rfl kC_111 rfl rfl (by decide +kernel) rfl rfl 66 dX8_init_66 (fun H locs I => ?_)
  refine lv_aload_n hx hb dX8_init_69 rfl (lv_at hl 0 rfl) ?_
  refine n_new (fs := [.null, .int 0]) X I kCl_5.1 kCl_5.2.1 tyX5 tyX5_ok (fun j hj => match j, hj with
    | 0, _ => rfl
    | 1, _ => rfl) kC_341 kC_342 kC_109 ⟨Nat.le_of_ble_eq_true rfl, Nat.le_of_ble_eq_true rfl⟩ 70 dX8_init_70 (fun q11 H I => ?_)
  have I : nWv dC dI _ s [(a, .inr (11, [.ref q1, .ref q2, .ref q3, .ref q4, .null, .ref q7, .ref q8, .ref q9, .null, .null, .long 0, .long 0])), (q1, .inl (g.1 0, 48, .inl (fun _ => 0))), (q2, .inl (g.1 0, 48, .inl (fun _ => 0))), (q3, .inl (g.1 0, 48, .inl (fun _ => 0))), (q4, .inr (9, [.ref q5, .ref q6])), (q5, .inl (g.1 1, 288, .inr (.inl (fun _ => 0)))), (q6, .inl (g.1 1, 288, .inr (.inl (fun _ => 0)))), (q7, .inl (g.1 0, 48, .inl (fun _ => 0))), (q8, .inl (g.1 0, 48, .inl (fun _ => 0))), (q9, .inr (8, [.ref q10, .int 0])), (q10, .inl (g.1 0, 826, .inl (fun _ => 0))), (q11, .inr (8, [.null, .int 0]))] H locs := I
  refine lv_dup hx hb dX8_init_73 rfl ?_
  refine lv_sipush (v := (826 : Int32)) hx hb dX8_init_74 (by decide) ?_
  refine n_callC (ws0 := [(a, .inr (11, [.ref q1, .ref q2, .ref q3, .ref q4, .null, .ref q7, .ref q8, .ref q9, .null, .null, .long 0, .long 0])), (q1, .inl (g.1 0, 48, .inl (fun _ => 0))), (q2, .inl (g.1 0, 48, .inl (fun _ => 0))), (q3, .inl (g.1 0, 48, .inl (fun _ => 0))), (q4, .inr (9, [.ref q5, .ref q6])), (q5, .inl (g.1 1, 288, .inr (.inl (fun _ => 0)))), (q6, .inl (g.1 1, 288, .inr (.inl (fun _ => 0)))), (q7, .inl (g.1 0, 48, .inl (fun _ => 0))), (q8, .inl (g.1 0, 48, .inl (fun _ => 0))), (q9, .inr (8, [.ref q10, .int 0])), (q10, .inl (g.1 0, 826, .inl (fun _ => 0)))]) (rest := [.ref q11, .ref a]) (As := [.int (826 : Int32)]) (d := 3) ⟨Nat.le_refl _, Nat.le_refl _⟩ X hE I fc_X8_X5_init (n_X5_init l q11 (826 : Int32) 826 (by decide) rfl (by decide)) (by decide) 77 dX8_init_77 rfl hl.1 rfl (Nat.le_of_ble_eq_true rfl) ⟨Nat.le_of_ble_eq_true rfl, Nat.le_of_ble_eq_true rfl⟩ (fun ws1 H locs hPo I => ?_)
  obtain ⟨q12, rfl⟩ := hPo
  have I : nWv dC dI _ s [(a, .inr (11, [.ref q1, .ref q2, .ref q3, .ref q4, .null, .ref q7, .ref q8, .ref q9, .null, .null, .long 0, .long 0])), (q1, .inl (g.1 0, 48, .inl (fun _ => 0))), (q2, .inl (g.1 0, 48, .inl (fun _ => 0))), (q3, .inl (g.1 0, 48, .inl (fun _ => 0))), (q4, .inr (9, [.ref q5, .ref q6])), (q5, .inl (g.1 1, 288, .inr (.inl (fun _ => 0)))), (q6, .inl (g.1 1, 288, .inr (.inl (fun _ => 0)))), (q7, .inl (g.1 0, 48, .inl (fun _ => 0))), (q8, .inl (g.1 0, 48, .inl (fun _ => 0))), (q9, .inr (8, [.ref q10, .int 0])), (q10, .inl (g.1 0, 826, .inl (fun _ => 0))), (q11, .inr (8, [.ref q12, .int 0])), (q12, .inl (g.1 0, 826, .inl (fun _ => 0)))] H locs := I
  refine n_putF (ty := .object "MasterTree$Numbers") [(a, .inr (11, [.ref q1, .ref q2, .ref q3, .ref q4, .null, .ref q7, .ref q8, .ref q9, .ref q11, .null, .long 0, .long 0])), (q1, .inl (g.1 0, 48, .inl (fun _ => 0))), (q2, .inl (g.1 0, 48, .inl (fun _ => 0))), (q3, .inl (g.1 0, 48, .inl (fun _ => 0))), (q4, .inr (9, [.ref q5, .ref q6])), (q5, .inl (g.1 1, 288, .inr (.inl (fun _ => 0)))), (q6, .inl (g.1 1, 288, .inr (.inl (fun _ => 0)))), (q7, .inl (g.1 0, 48, .inl (fun _ => 0))), (q8, .inl (g.1 0, 48, .inl (fun _ => 0))), (q9, .inr (8, [.ref q10, .int 0])), (q10, .inl (g.1 0, 826, .inl (fun _ => 0))), (q11, .inr (8, [.ref q12, .int 0])), (q12, .inl (g.1 0, 826, .inl (fun _ => 0)))] X I hin kCl_8 tyX8_ok nmX8 0 rfl 8 (by decide) (Nat.le_of_ble_eq_true rfl) rfl kC_132 rfl rfl (by decide +kernel) rfl rfl 80 dX8_init_80 (fun H locs I => ?_)
  refine lv_aload_n hx hb dX8_init_83 rfl (lv_at hl 0 rfl) ?_
  refine n_new (fs := [.null, .int 0]) X I kCl_5.1 kCl_5.2.1 tyX5 tyX5_ok (fun j hj => match j, hj with
    | 0, _ => rfl
    | 1, _ => rfl) kC_341 kC_342 kC_109 ⟨Nat.le_of_ble_eq_true rfl, Nat.le_of_ble_eq_true rfl⟩ 84 dX8_init_84 (fun q13 H I => ?_)
  have I : nWv dC dI _ s [(a, .inr (11, [.ref q1, .ref q2, .ref q3, .ref q4, .null, .ref q7, .ref q8, .ref q9, .ref q11, .null, .long 0, .long 0])), (q1, .inl (g.1 0, 48, .inl (fun _ => 0))), (q2, .inl (g.1 0, 48, .inl (fun _ => 0))), (q3, .inl (g.1 0, 48, .inl (fun _ => 0))), (q4, .inr (9, [.ref q5, .ref q6])), (q5, .inl (g.1 1, 288, .inr (.inl (fun _ => 0)))), (q6, .inl (g.1 1, 288, .inr (.inl (fun _ => 0)))), (q7, .inl (g.1 0, 48, .inl (fun _ => 0))), (q8, .inl (g.1 0, 48, .inl (fun _ => 0))), (q9, .inr (8, [.ref q10, .int 0])), (q10, .inl (g.1 0, 826, .inl (fun _ => 0))), (q11, .inr (8, [.ref q12, .int 0])), (q12, .inl (g.1 0, 826, .inl (fun _ => 0))), (q13, .inr (8, [.null, .int 0]))] H locs := I
  refine lv_dup hx hb dX8_init_87 rfl ?_
  refine lv_bipush (v := (48 : Int32)) hx hb dX8_init_88 (by decide) ?_
  refine n_callC (ws0 := [(a, .inr (11, [.ref q1, .ref q2, .ref q3, .ref q4, .null, .ref q7, .ref q8, .ref q9, .ref q11, .null, .long 0, .long 0])), (q1, .inl (g.1 0, 48, .inl (fun _ => 0))), (q2, .inl (g.1 0, 48, .inl (fun _ => 0))), (q3, .inl (g.1 0, 48, .inl (fun _ => 0))), (q4, .inr (9, [.ref q5, .ref q6])), (q5, .inl (g.1 1, 288, .inr (.inl (fun _ => 0)))), (q6, .inl (g.1 1, 288, .inr (.inl (fun _ => 0)))), (q7, .inl (g.1 0, 48, .inl (fun _ => 0))), (q8, .inl (g.1 0, 48, .inl (fun _ => 0))), (q9, .inr (8, [.ref q10, .int 0])), (q10, .inl (g.1 0, 826, .inl (fun _ => 0))), (q11, .inr (8, [.ref q12, .int 0])), (q12, .inl (g.1 0, 826, .inl (fun _ => 0)))]) (rest := [.ref q13, .ref a]) (As := [.int (48 : Int32)]) (d := 3) ⟨Nat.le_refl _, Nat.le_refl _⟩ X hE I fc_X8_X5_init (n_X5_init l q13 (48 : Int32) 48 (by decide) rfl (by decide)) (by decide) 90 dX8_init_90 rfl hl.1 rfl (Nat.le_of_ble_eq_true rfl) ⟨Nat.le_of_ble_eq_true rfl, Nat.le_of_ble_eq_true rfl⟩ (fun ws1 H locs hPo I => ?_)
  obtain ⟨q14, rfl⟩ := hPo
  have I : nWv dC dI _ s [(a, .inr (11, [.ref q1, .ref q2, .ref q3, .ref q4, .null, .ref q7, .ref q8, .ref q9, .ref q11, .null, .long 0, .long 0])), (q1, .inl (g.1 0, 48, .inl (fun _ => 0))), (q2, .inl (g.1 0, 48, .inl (fun _ => 0))), (q3, .inl (g.1 0, 48, .inl (fun _ => 0))), (q4, .inr (9, [.ref q5, .ref q6])), (q5, .inl (g.1 1, 288, .inr (.inl (fun _ => 0)))), (q6, .inl (g.1 1, 288, .inr (.inl (fun _ => 0)))), (q7, .inl (g.1 0, 48, .inl (fun _ => 0))), (q8, .inl (g.1 0, 48, .inl (fun _ => 0))), (q9, .inr (8, [.ref q10, .int 0])), (q10, .inl (g.1 0, 826, .inl (fun _ => 0))), (q11, .inr (8, [.ref q12, .int 0])), (q12, .inl (g.1 0, 826, .inl (fun _ => 0))), (q13, .inr (8, [.ref q14, .int 0])), (q14, .inl (g.1 0, 48, .inl (fun _ => 0)))] H locs := I
  refine n_putF (ty := .object "MasterTree$Numbers") [(a, .inr (11, [.ref q1, .ref q2, .ref q3, .ref q4, .null, .ref q7, .ref q8, .ref q9, .ref q11, .ref q13, .long 0, .long 0])), (q1, .inl (g.1 0, 48, .inl (fun _ => 0))), (q2, .inl (g.1 0, 48, .inl (fun _ => 0))), (q3, .inl (g.1 0, 48, .inl (fun _ => 0))), (q4, .inr (9, [.ref q5, .ref q6])), (q5, .inl (g.1 1, 288, .inr (.inl (fun _ => 0)))), (q6, .inl (g.1 1, 288, .inr (.inl (fun _ => 0)))), (q7, .inl (g.1 0, 48, .inl (fun _ => 0))), (q8, .inl (g.1 0, 48, .inl (fun _ => 0))), (q9, .inr (8, [.ref q10, .int 0])), (q10, .inl (g.1 0, 826, .inl (fun _ => 0))), (q11, .inr (8, [.ref q12, .int 0])), (q12, .inl (g.1 0, 826, .inl (fun _ => 0))), (q13, .inr (8, [.ref q14, .int 0])), (q14, .inl (g.1 0, 48, .inl (fun _ => 0)))] X I hin kCl_8 tyX8_ok nmX8 0 rfl 9 (by decide) (Nat.le_of_ble_eq_true rfl) rfl kC_240 rfl rfl (by decide +kernel) rfl rfl 93 dX8_init_93 (fun H locs I => ?_)
  refine lv_aload_n hx hb dX8_init_96 rfl (lv_at hl 0 rfl) ?_
  refine lv_aload_n hx hb dX8_init_97 rfl (lv_at hl 1 rfl) ?_
  refine n_putF (ty := .object "MasterTree$Schema") [(a, .inr (11, [.ref q1, .ref q2, .ref q3, .ref q4, .ref h, .ref q7, .ref q8, .ref q9, .ref q11, .ref q13, .long 0, .long 0])), (q1, .inl (g.1 0, 48, .inl (fun _ => 0))), (q2, .inl (g.1 0, 48, .inl (fun _ => 0))), (q3, .inl (g.1 0, 48, .inl (fun _ => 0))), (q4, .inr (9, [.ref q5, .ref q6])), (q5, .inl (g.1 1, 288, .inr (.inl (fun _ => 0)))), (q6, .inl (g.1 1, 288, .inr (.inl (fun _ => 0)))), (q7, .inl (g.1 0, 48, .inl (fun _ => 0))), (q8, .inl (g.1 0, 48, .inl (fun _ => 0))), (q9, .inr (8, [.ref q10, .int 0])), (q10, .inl (g.1 0, 826, .inl (fun _ => 0))), (q11, .inr (8, [.ref q12, .int 0])), (q12, .inl (g.1 0, 826, .inl (fun _ => 0))), (q13, .inr (8, [.ref q14, .int 0])), (q14, .inl (g.1 0, 48, .inl (fun _ => 0)))] X I hin kCl_8 tyX8_ok nmX8 0 rfl 4 (by decide) (Nat.le_of_ble_eq_true rfl) rfl kC_184 rfl rfl (by decide +kernel) rfl rfl 98 dX8_init_98 (fun H locs I => ?_)
  refine lv_aload_n hx hb dX8_init_101 rfl (lv_at hl 0 rfl) ?_
  refine n_callV (ws0 := []) (rest := []) (As := []) (d := 3) ⟨Nat.le_refl _, Nat.le_refl _⟩ X hE I fn_X8_X8_clear kCl_8.1 rfl (o := 0) rfl (n_X8_clear l a q1 q2 q3 q4 q5 q6 q7 q8 q9 q10 q11 q12 q13 q14 h) (by decide) 102 dX8_init_102 rfl hl.1 rfl (Nat.le_of_ble_eq_true rfl) ⟨Nat.le_of_ble_eq_true rfl, Nat.le_of_ble_eq_true rfl⟩ (fun ws1 H locs hPo I => ?_)
  subst hPo
  have I : nWv dC dI _ s [(a, .inr (11, [.ref q1, .ref q2, .ref q3, .ref q4, .ref h, .ref q7, .ref q8, .ref q9, .ref q11, .ref q13, .long (1 : Int64), .long (0 : Int64)])), (q1, .inl (g.1 0, 48, .inl (fun _ => (0 : Int32)))), (q2, .inl (g.1 0, 48, .inl (fun _ => (-1 : Int32)))), (q3, .inl (g.1 0, 48, .inl (fun _ => (-1 : Int32)))), (q4, .inr (9, [.ref q5, .ref q6])), (q5, .inl (g.1 1, 288, .inr (.inl (fun _ => (0 : Int64))))), (q6, .inl (g.1 1, 288, .inr (.inl (fun _ => (0 : Int64))))), (q7, .inl (g.1 0, 48, .inl (fun _ => (-1 : Int32)))), (q8, .inl (g.1 0, 48, .inl (fun _ => 0))), (q9, .inr (8, [.ref q10, .int (0 : Int32)])), (q10, .inl (g.1 0, 826, .inl (fun _ => 0))), (q11, .inr (8, [.ref q12, .int (0 : Int32)])), (q12, .inl (g.1 0, 826, .inl (fun _ => 0))), (q13, .inr (8, [.ref q14, .int 0])), (q14, .inl (g.1 0, 48, .inl (fun _ => 0)))] H locs := I
  have I : nWv dC dI _ s [(q1, .inl (g.1 0, 48, .inl (fun _ => (0 : Int32)))), (q2, .inl (g.1 0, 48, .inl (fun _ => (-1 : Int32)))), (q3, .inl (g.1 0, 48, .inl (fun _ => (-1 : Int32)))), (q4, .inr (9, [.ref q5, .ref q6])), (q5, .inl (g.1 1, 288, .inr (.inl (fun _ => (0 : Int64))))), (q6, .inl (g.1 1, 288, .inr (.inl (fun _ => (0 : Int64))))), (q7, .inl (g.1 0, 48, .inl (fun _ => (-1 : Int32)))), (q8, .inl (g.1 0, 48, .inl (fun _ => 0))), (q9, .inr (8, [.ref q10, .int (0 : Int32)])), (q10, .inl (g.1 0, 826, .inl (fun _ => 0))), (q11, .inr (8, [.ref q12, .int (0 : Int32)])), (q12, .inl (g.1 0, 826, .inl (fun _ => 0))), (q13, .inr (8, [.ref q14, .int 0])), (q14, .inl (g.1 0, 48, .inl (fun _ => 0))), (a, .inr (11, [.ref q1, .ref q2, .ref q3, .ref q4, .ref h, .ref q7, .ref q8, .ref q9, .ref q11, .ref q13, .long (1 : Int64), .long (0 : Int64)]))] H locs := I.toEnd 0 rfl
  have I : nWv dC dI _ s [(q2, .inl (g.1 0, 48, .inl (fun _ => (-1 : Int32)))), (q3, .inl (g.1 0, 48, .inl (fun _ => (-1 : Int32)))), (q4, .inr (9, [.ref q5, .ref q6])), (q5, .inl (g.1 1, 288, .inr (.inl (fun _ => (0 : Int64))))), (q6, .inl (g.1 1, 288, .inr (.inl (fun _ => (0 : Int64))))), (q7, .inl (g.1 0, 48, .inl (fun _ => (-1 : Int32)))), (q8, .inl (g.1 0, 48, .inl (fun _ => 0))), (q9, .inr (8, [.ref q10, .int (0 : Int32)])), (q10, .inl (g.1 0, 826, .inl (fun _ => 0))), (q11, .inr (8, [.ref q12, .int (0 : Int32)])), (q12, .inl (g.1 0, 826, .inl (fun _ => 0))), (q13, .inr (8, [.ref q14, .int 0])), (q14, .inl (g.1 0, 48, .inl (fun _ => 0))), (a, .inr (11, [.ref q1, .ref q2, .ref q3, .ref q4, .ref h, .ref q7, .ref q8, .ref q9, .ref q11, .ref q13, .long (1 : Int64), .long (0 : Int64)])), (q1, .inl (g.1 0, 48, .inl (fun _ => (0 : Int32))))] H locs := I.toEnd 0 rfl
  have I : nWv dC dI _ s [(q3, .inl (g.1 0, 48, .inl (fun _ => (-1 : Int32)))), (q4, .inr (9, [.ref q5, .ref q6])), (q5, .inl (g.1 1, 288, .inr (.inl (fun _ => (0 : Int64))))), (q6, .inl (g.1 1, 288, .inr (.inl (fun _ => (0 : Int64))))), (q7, .inl (g.1 0, 48, .inl (fun _ => (-1 : Int32)))), (q8, .inl (g.1 0, 48, .inl (fun _ => 0))), (q9, .inr (8, [.ref q10, .int (0 : Int32)])), (q10, .inl (g.1 0, 826, .inl (fun _ => 0))), (q11, .inr (8, [.ref q12, .int (0 : Int32)])), (q12, .inl (g.1 0, 826, .inl (fun _ => 0))), (q13, .inr (8, [.ref q14, .int 0])), (q14, .inl (g.1 0, 48, .inl (fun _ => 0))), (a, .inr (11, [.ref q1, .ref q2, .ref q3, .ref q4, .ref h, .ref q7, .ref q8, .ref q9, .ref q11, .ref q13, .long (1 : Int64), .long (0 : Int64)])), (q1, .inl (g.1 0, 48, .inl (fun _ => (0 : Int32)))), (q2, .inl (g.1 0, 48, .inl (fun _ => (-1 : Int32))))] H locs := I.toEnd 0 rfl
  have I : nWv dC dI _ s [(q4, .inr (9, [.ref q5, .ref q6])), (q5, .inl (g.1 1, 288, .inr (.inl (fun _ => (0 : Int64))))), (q6, .inl (g.1 1, 288, .inr (.inl (fun _ => (0 : Int64))))), (q7, .inl (g.1 0, 48, .inl (fun _ => (-1 : Int32)))), (q8, .inl (g.1 0, 48, .inl (fun _ => 0))), (q9, .inr (8, [.ref q10, .int (0 : Int32)])), (q10, .inl (g.1 0, 826, .inl (fun _ => 0))), (q11, .inr (8, [.ref q12, .int (0 : Int32)])), (q12, .inl (g.1 0, 826, .inl (fun _ => 0))), (q13, .inr (8, [.ref q14, .int 0])), (q14, .inl (g.1 0, 48, .inl (fun _ => 0))), (a, .inr (11, [.ref q1, .ref q2, .ref q3, .ref q4, .ref h, .ref q7, .ref q8, .ref q9, .ref q11, .ref q13, .long (1 : Int64), .long (0 : Int64)])), (q1, .inl (g.1 0, 48, .inl (fun _ => (0 : Int32)))), (q2, .inl (g.1 0, 48, .inl (fun _ => (-1 : Int32)))), (q3, .inl (g.1 0, 48, .inl (fun _ => (-1 : Int32))))] H locs := I.toEnd 0 rfl
  have I : nWv dC dI _ s [(q4, .inr (9, [.ref q5, .ref q6])), (q5, .inl (g.1 1, 288, .inr (.inl (fun _ => (0 : Int64))))), (q6, .inl (g.1 1, 288, .inr (.inl (fun _ => (0 : Int64))))), (q8, .inl (g.1 0, 48, .inl (fun _ => 0))), (q9, .inr (8, [.ref q10, .int (0 : Int32)])), (q10, .inl (g.1 0, 826, .inl (fun _ => 0))), (q11, .inr (8, [.ref q12, .int (0 : Int32)])), (q12, .inl (g.1 0, 826, .inl (fun _ => 0))), (q13, .inr (8, [.ref q14, .int 0])), (q14, .inl (g.1 0, 48, .inl (fun _ => 0))), (a, .inr (11, [.ref q1, .ref q2, .ref q3, .ref q4, .ref h, .ref q7, .ref q8, .ref q9, .ref q11, .ref q13, .long (1 : Int64), .long (0 : Int64)])), (q1, .inl (g.1 0, 48, .inl (fun _ => (0 : Int32)))), (q2, .inl (g.1 0, 48, .inl (fun _ => (-1 : Int32)))), (q3, .inl (g.1 0, 48, .inl (fun _ => (-1 : Int32)))), (q7, .inl (g.1 0, 48, .inl (fun _ => (-1 : Int32))))] H locs := I.toEnd 3 rfl
  have I : nWv dC dI _ s [(q4, .inr (9, [.ref q5, .ref q6])), (q5, .inl (g.1 1, 288, .inr (.inl (fun _ => (0 : Int64))))), (q6, .inl (g.1 1, 288, .inr (.inl (fun _ => (0 : Int64))))), (q9, .inr (8, [.ref q10, .int (0 : Int32)])), (q10, .inl (g.1 0, 826, .inl (fun _ => 0))), (q11, .inr (8, [.ref q12, .int (0 : Int32)])), (q12, .inl (g.1 0, 826, .inl (fun _ => 0))), (q13, .inr (8, [.ref q14, .int 0])), (q14, .inl (g.1 0, 48, .inl (fun _ => 0))), (a, .inr (11, [.ref q1, .ref q2, .ref q3, .ref q4, .ref h, .ref q7, .ref q8, .ref q9, .ref q11, .ref q13, .long (1 : Int64), .long (0 : Int64)])), (q1, .inl (g.1 0, 48, .inl (fun _ => (0 : Int32)))), (q2, .inl (g.1 0, 48, .inl (fun _ => (-1 : Int32)))), (q3, .inl (g.1 0, 48, .inl (fun _ => (-1 : Int32)))), (q7, .inl (g.1 0, 48, .inl (fun _ => (-1 : Int32)))), (q8, .inl (g.1 0, 48, .inl (fun _ => 0)))] H locs := I.toEnd 3 rfl
  have I : nWv dC dI _ s [(q5, .inl (g.1 1, 288, .inr (.inl (fun _ => (0 : Int64))))), (q6, .inl (g.1 1, 288, .inr (.inl (fun _ => (0 : Int64))))), (q9, .inr (8, [.ref q10, .int (0 : Int32)])), (q10, .inl (g.1 0, 826, .inl (fun _ => 0))), (q11, .inr (8, [.ref q12, .int (0 : Int32)])), (q12, .inl (g.1 0, 826, .inl (fun _ => 0))), (q13, .inr (8, [.ref q14, .int 0])), (q14, .inl (g.1 0, 48, .inl (fun _ => 0))), (a, .inr (11, [.ref q1, .ref q2, .ref q3, .ref q4, .ref h, .ref q7, .ref q8, .ref q9, .ref q11, .ref q13, .long (1 : Int64), .long (0 : Int64)])), (q1, .inl (g.1 0, 48, .inl (fun _ => (0 : Int32)))), (q2, .inl (g.1 0, 48, .inl (fun _ => (-1 : Int32)))), (q3, .inl (g.1 0, 48, .inl (fun _ => (-1 : Int32)))), (q7, .inl (g.1 0, 48, .inl (fun _ => (-1 : Int32)))), (q8, .inl (g.1 0, 48, .inl (fun _ => 0))), (q4, .inr (9, [.ref q5, .ref q6]))] H locs := I.toEnd 0 rfl
  have I : nWv dC dI _ s [(q6, .inl (g.1 1, 288, .inr (.inl (fun _ => (0 : Int64))))), (q9, .inr (8, [.ref q10, .int (0 : Int32)])), (q10, .inl (g.1 0, 826, .inl (fun _ => 0))), (q11, .inr (8, [.ref q12, .int (0 : Int32)])), (q12, .inl (g.1 0, 826, .inl (fun _ => 0))), (q13, .inr (8, [.ref q14, .int 0])), (q14, .inl (g.1 0, 48, .inl (fun _ => 0))), (a, .inr (11, [.ref q1, .ref q2, .ref q3, .ref q4, .ref h, .ref q7, .ref q8, .ref q9, .ref q11, .ref q13, .long (1 : Int64), .long (0 : Int64)])), (q1, .inl (g.1 0, 48, .inl (fun _ => (0 : Int32)))), (q2, .inl (g.1 0, 48, .inl (fun _ => (-1 : Int32)))), (q3, .inl (g.1 0, 48, .inl (fun _ => (-1 : Int32)))), (q7, .inl (g.1 0, 48, .inl (fun _ => (-1 : Int32)))), (q8, .inl (g.1 0, 48, .inl (fun _ => 0))), (q4, .inr (9, [.ref q5, .ref q6])), (q5, .inl (g.1 1, 288, .inr (.inl (fun _ => (0 : Int64)))))] H locs := I.toEnd 0 rfl
  have I : nWv dC dI _ s [(q9, .inr (8, [.ref q10, .int (0 : Int32)])), (q10, .inl (g.1 0, 826, .inl (fun _ => 0))), (q11, .inr (8, [.ref q12, .int (0 : Int32)])), (q12, .inl (g.1 0, 826, .inl (fun _ => 0))), (q13, .inr (8, [.ref q14, .int 0])), (q14, .inl (g.1 0, 48, .inl (fun _ => 0))), (a, .inr (11, [.ref q1, .ref q2, .ref q3, .ref q4, .ref h, .ref q7, .ref q8, .ref q9, .ref q11, .ref q13, .long (1 : Int64), .long (0 : Int64)])), (q1, .inl (g.1 0, 48, .inl (fun _ => (0 : Int32)))), (q2, .inl (g.1 0, 48, .inl (fun _ => (-1 : Int32)))), (q3, .inl (g.1 0, 48, .inl (fun _ => (-1 : Int32)))), (q7, .inl (g.1 0, 48, .inl (fun _ => (-1 : Int32)))), (q8, .inl (g.1 0, 48, .inl (fun _ => 0))), (q4, .inr (9, [.ref q5, .ref q6])), (q5, .inl (g.1 1, 288, .inr (.inl (fun _ => (0 : Int64))))), (q6, .inl (g.1 1, 288, .inr (.inl (fun _ => (0 : Int64)))))] H locs := I.toEnd 0 rfl
  have I : nWv dC dI _ s [(q10, .inl (g.1 0, 826, .inl (fun _ => 0))), (q11, .inr (8, [.ref q12, .int (0 : Int32)])), (q12, .inl (g.1 0, 826, .inl (fun _ => 0))), (q13, .inr (8, [.ref q14, .int 0])), (q14, .inl (g.1 0, 48, .inl (fun _ => 0))), (a, .inr (11, [.ref q1, .ref q2, .ref q3, .ref q4, .ref h, .ref q7, .ref q8, .ref q9, .ref q11, .ref q13, .long (1 : Int64), .long (0 : Int64)])), (q1, .inl (g.1 0, 48, .inl (fun _ => (0 : Int32)))), (q2, .inl (g.1 0, 48, .inl (fun _ => (-1 : Int32)))), (q3, .inl (g.1 0, 48, .inl (fun _ => (-1 : Int32)))), (q7, .inl (g.1 0, 48, .inl (fun _ => (-1 : Int32)))), (q8, .inl (g.1 0, 48, .inl (fun _ => 0))), (q4, .inr (9, [.ref q5, .ref q6])), (q5, .inl (g.1 1, 288, .inr (.inl (fun _ => (0 : Int64))))), (q6, .inl (g.1 1, 288, .inr (.inl (fun _ => (0 : Int64))))), (q9, .inr (8, [.ref q10, .int (0 : Int32)]))] H locs := I.toEnd 0 rfl
  have I : nWv dC dI _ s [(q11, .inr (8, [.ref q12, .int (0 : Int32)])), (q12, .inl (g.1 0, 826, .inl (fun _ => 0))), (q13, .inr (8, [.ref q14, .int 0])), (q14, .inl (g.1 0, 48, .inl (fun _ => 0))), (a, .inr (11, [.ref q1, .ref q2, .ref q3, .ref q4, .ref h, .ref q7, .ref q8, .ref q9, .ref q11, .ref q13, .long (1 : Int64), .long (0 : Int64)])), (q1, .inl (g.1 0, 48, .inl (fun _ => (0 : Int32)))), (q2, .inl (g.1 0, 48, .inl (fun _ => (-1 : Int32)))), (q3, .inl (g.1 0, 48, .inl (fun _ => (-1 : Int32)))), (q7, .inl (g.1 0, 48, .inl (fun _ => (-1 : Int32)))), (q8, .inl (g.1 0, 48, .inl (fun _ => 0))), (q4, .inr (9, [.ref q5, .ref q6])), (q5, .inl (g.1 1, 288, .inr (.inl (fun _ => (0 : Int64))))), (q6, .inl (g.1 1, 288, .inr (.inl (fun _ => (0 : Int64))))), (q9, .inr (8, [.ref q10, .int (0 : Int32)])), (q10, .inl (g.1 0, 826, .inl (fun _ => 0)))] H locs := I.toEnd 0 rfl
  have I : nWv dC dI _ s [(q12, .inl (g.1 0, 826, .inl (fun _ => 0))), (q13, .inr (8, [.ref q14, .int 0])), (q14, .inl (g.1 0, 48, .inl (fun _ => 0))), (a, .inr (11, [.ref q1, .ref q2, .ref q3, .ref q4, .ref h, .ref q7, .ref q8, .ref q9, .ref q11, .ref q13, .long (1 : Int64), .long (0 : Int64)])), (q1, .inl (g.1 0, 48, .inl (fun _ => (0 : Int32)))), (q2, .inl (g.1 0, 48, .inl (fun _ => (-1 : Int32)))), (q3, .inl (g.1 0, 48, .inl (fun _ => (-1 : Int32)))), (q7, .inl (g.1 0, 48, .inl (fun _ => (-1 : Int32)))), (q8, .inl (g.1 0, 48, .inl (fun _ => 0))), (q4, .inr (9, [.ref q5, .ref q6])), (q5, .inl (g.1 1, 288, .inr (.inl (fun _ => (0 : Int64))))), (q6, .inl (g.1 1, 288, .inr (.inl (fun _ => (0 : Int64))))), (q9, .inr (8, [.ref q10, .int (0 : Int32)])), (q10, .inl (g.1 0, 826, .inl (fun _ => 0))), (q11, .inr (8, [.ref q12, .int (0 : Int32)]))] H locs := I.toEnd 0 rfl
  have I : nWv dC dI _ s [(q13, .inr (8, [.ref q14, .int 0])), (q14, .inl (g.1 0, 48, .inl (fun _ => 0))), (a, .inr (11, [.ref q1, .ref q2, .ref q3, .ref q4, .ref h, .ref q7, .ref q8, .ref q9, .ref q11, .ref q13, .long (1 : Int64), .long (0 : Int64)])), (q1, .inl (g.1 0, 48, .inl (fun _ => (0 : Int32)))), (q2, .inl (g.1 0, 48, .inl (fun _ => (-1 : Int32)))), (q3, .inl (g.1 0, 48, .inl (fun _ => (-1 : Int32)))), (q7, .inl (g.1 0, 48, .inl (fun _ => (-1 : Int32)))), (q8, .inl (g.1 0, 48, .inl (fun _ => 0))), (q4, .inr (9, [.ref q5, .ref q6])), (q5, .inl (g.1 1, 288, .inr (.inl (fun _ => (0 : Int64))))), (q6, .inl (g.1 1, 288, .inr (.inl (fun _ => (0 : Int64))))), (q9, .inr (8, [.ref q10, .int (0 : Int32)])), (q10, .inl (g.1 0, 826, .inl (fun _ => 0))), (q11, .inr (8, [.ref q12, .int (0 : Int32)])), (q12, .inl (g.1 0, 826, .inl (fun _ => 0)))] H locs := I.toEnd 0 rfl
  have I : nWv dC dI _ s [(q14, .inl (g.1 0, 48, .inl (fun _ => 0))), (a, .inr (11, [.ref q1, .ref q2, .ref q3, .ref q4, .ref h, .ref q7, .ref q8, .ref q9, .ref q11, .ref q13, .long (1 : Int64), .long (0 : Int64)])), (q1, .inl (g.1 0, 48, .inl (fun _ => (0 : Int32)))), (q2, .inl (g.1 0, 48, .inl (fun _ => (-1 : Int32)))), (q3, .inl (g.1 0, 48, .inl (fun _ => (-1 : Int32)))), (q7, .inl (g.1 0, 48, .inl (fun _ => (-1 : Int32)))), (q8, .inl (g.1 0, 48, .inl (fun _ => 0))), (q4, .inr (9, [.ref q5, .ref q6])), (q5, .inl (g.1 1, 288, .inr (.inl (fun _ => (0 : Int64))))), (q6, .inl (g.1 1, 288, .inr (.inl (fun _ => (0 : Int64))))), (q9, .inr (8, [.ref q10, .int (0 : Int32)])), (q10, .inl (g.1 0, 826, .inl (fun _ => 0))), (q11, .inr (8, [.ref q12, .int (0 : Int32)])), (q12, .inl (g.1 0, 826, .inl (fun _ => 0))), (q13, .inr (8, [.ref q14, .int 0]))] H locs := I.toEnd 0 rfl
  have I : nWv dC dI _ s [(a, .inr (11, [.ref q1, .ref q2, .ref q3, .ref q4, .ref h, .ref q7, .ref q8, .ref q9, .ref q11, .ref q13, .long (1 : Int64), .long (0 : Int64)])), (q1, .inl (g.1 0, 48, .inl (fun _ => (0 : Int32)))), (q2, .inl (g.1 0, 48, .inl (fun _ => (-1 : Int32)))), (q3, .inl (g.1 0, 48, .inl (fun _ => (-1 : Int32)))), (q7, .inl (g.1 0, 48, .inl (fun _ => (-1 : Int32)))), (q8, .inl (g.1 0, 48, .inl (fun _ => 0))), (q4, .inr (9, [.ref q5, .ref q6])), (q5, .inl (g.1 1, 288, .inr (.inl (fun _ => (0 : Int64))))), (q6, .inl (g.1 1, 288, .inr (.inl (fun _ => (0 : Int64))))), (q9, .inr (8, [.ref q10, .int (0 : Int32)])), (q10, .inl (g.1 0, 826, .inl (fun _ => 0))), (q11, .inr (8, [.ref q12, .int (0 : Int32)])), (q12, .inl (g.1 0, 826, .inl (fun _ => 0))), (q13, .inr (8, [.ref q14, .int 0])), (q14, .inl (g.1 0, 48, .inl (fun _ => 0)))] H locs := I.toEnd 0 rfl
  refine n_ret X I ?_ hr ⟨Nat.le_of_ble_eq_true rfl, Nat.le_of_ble_eq_true rfl⟩ 105 dX8_init_105
  exact ⟨q1, q2, q3, q4, q5, q6, q7, q8, q9, q10, q11, q12, q13, q14, rfl⟩
set_option maxRecDepth 100000 in
set_option maxHeartbeats 4000000 in
theorem n_Jxa1e45_init_da8c8 (l : Launch) (a : Nat) : nMet l yJxa1e45_init_da8c8 cJxa1e45_init_da8c8 1 1 0 0 [.ref a] (fun g => [(a, .inr (2, [.int 0, .null, .int 0]))]) (fun g ws' => ws' = [(a, .inr (2, [.int 0, .null, .int 0]))]) := by
  refine n_start RJxa1e45 (by decide +kernel) rfl [(0, .ref a)] (Nat.le_of_ble_eq_true rfl) rfl ?_
  intro dC dI g sz p e s m args below meth c X hE hnm hr H locs I ls hl
  have hx := X.1
  have hb := X.2.1
  have hin : meth.name = "<init>" := hnm
  refine lv_aload_n hx hb dJxa1e45_init_da8c8_0 rfl (lv_at hl 0 rfl) ?_
  refine W.objInit hx hb X.2.2.2.1 (X.2.2.2.2.1 _ kC_445) (X.2.2.2.2.1 _ kC_2) (X.2.2.2.2.1 _ kC_3) rfl (by rw [X.2.2.1]; exact hl.1) rfl dJxa1e45_init_da8c8_1 (Nat.le_of_ble_eq_true rfl) (Nat.le_of_ble_eq_true rfl) ?_
  refine W.eq (g2 := F0 m 4 ls []) rfl ?_
  refine n_ret X I ?_ hr ⟨Nat.le_of_ble_eq_true rfl, Nat.le_of_ble_eq_true rfl⟩ 4 dJxa1e45_init_da8c8_4
  exact rfl
theorem fc_Jxc12de_Jxa1e45_init_da8c8 : kFnC RJxc12de yJxa1e45_init_da8c8 cJxa1e45_init_da8c8 1 0 1 := ⟨⟨kC_441, kC_443, kC_444, ⟨by decide +kernel, by decide +kernel, by decide +kernel⟩, by decide⟩, kC_442, rfl⟩
set_option maxRecDepth 100000 in
set_option maxHeartbeats 4000000 in
theorem n_Jxc12de_init_da8c8 (l : Launch) (a : Nat) : nMet l yJxc12de_init_da8c8 cJxc12de_init_da8c8 1 2 0 0 [.ref a] (fun g => [(a, .inr (2, [.int 0, .null, .int 0]))]) (fun g ws' => ws' = [(a, .inr (2, [.int (0 : Int32), .null, .int 0]))]) := by
  refine n_start RJxc12de (by decide +kernel) rfl [(0, .ref a)] (Nat.le_of_ble_eq_true rfl) rfl ?_
  intro dC dI g sz p e s m args below meth c X hE hnm hr H locs I ls hl
  have hx := X.1
  have hb := X.2.1
  have hin : meth.name = "<init>" := hnm
  refine lv_aload_n hx hb dJxc12de_init_da8c8_0 rfl (lv_at hl 0 rfl) ?_
  refine n_callC (ws0 := []) (rest := []) (As := []) (d := 2) ⟨Nat.le_refl _, Nat.le_refl _⟩ X hE I fc_Jxc12de_Jxa1e45_init_da8c8 (n_Jxa1e45_init_da8c8 l a) (by decide) 1 dJxc12de_init_da8c8_1 rfl hl.1 rfl (Nat.le_of_ble_eq_true rfl) ⟨Nat.le_of_ble_eq_true rfl, Nat.le_of_ble_eq_true rfl⟩ (fun ws1 H locs hPo I => ?_)
  subst hPo
  have I : nWv dC dI _ s [(a, .inr (2, [.int 0, .null, .int 0]))] H locs := I
  refine lv_aload_n hx hb dJxc12de_init_da8c8_4 rfl (lv_at hl 0 rfl) ?_
  refine lv_iconst (v := (0 : Int32)) hx hb dJxc12de_init_da8c8_5 (by decide) ?_
  refine va_put (D := (dC, dI)) (Ts := wsC) (C := RJx4a65c) (T := TJx4a65c) (N := 3) (ty := .int) hx hb X.2.2.2.2.1 kLay_L tyJx4a65c tyJx4a65c_ok nmJx4a65c X.2.2.2.1 X.2.2.2.2.2.1 I.1 I.2.1 I.2.2 0 rfl rfl 0 (by decide) (X.2.2.2.2.1 _ kC_440) (fun _ h => h) rfl (by decide +kernel) rfl rfl (by decide) dJxc12de_init_da8c8_6 (fun H locs hP hD hS => ?_)
  have I : nWv dC dI _ s [(a, .inr (2, [.int (0 : Int32), .null, .int 0]))] H locs := ⟨hP, hD, hS⟩
  refine n_ret X I ?_ hr ⟨Nat.le_of_ble_eq_true rfl, Nat.le_of_ble_eq_true rfl⟩ 9 dJxc12de_init_da8c8_9
  exact rfl
theorem fc_Jx4a65c_Jxc12de_init_da8c8 : kFnC RJx4a65c yJxc12de_init_da8c8 cJxc12de_init_da8c8 1 0 1 := ⟨⟨kC_436, kC_438, kC_439, ⟨by decide +kernel, by decide +kernel, by decide +kernel⟩, by decide⟩, kC_437, rfl⟩
set_option maxRecDepth 100000 in
set_option maxHeartbeats 4000000 in
theorem n_Jx4a65c_init_da8c8 (l : Launch) (a : Nat) : nMet l yJx4a65c_init_da8c8 cJx4a65c_init_da8c8 1 3 0 0 [.ref a] (fun g => [(a, .inr (2, [.int 0, .null, .int 0]))]) (fun g ws' => ws' = [(a, .inr (2, [.int (0 : Int32), .ref g.2.2.2.2, .int 0]))]) := by
  refine n_start RJx4a65c (by decide +kernel) rfl [(0, .ref a)] (Nat.le_of_ble_eq_true rfl) rfl ?_
  intro dC dI g sz p e s m args below meth c X hE hnm hr H locs I ls hl
  have hx := X.1
  have hb := X.2.1
  have hin : meth.name = "<init>" := hnm
  refine lv_aload_n hx hb dJx4a65c_init_da8c8_0 rfl (lv_at hl 0 rfl) ?_
  refine n_callC (ws0 := []) (rest := []) (As := []) (d := 3) ⟨Nat.le_refl _, Nat.le_refl _⟩ X hE I fc_Jx4a65c_Jxc12de_init_da8c8 (n_Jxc12de_init_da8c8 l a) (by decide) 1 dJx4a65c_init_da8c8_1 rfl hl.1 rfl (Nat.le_of_ble_eq_true rfl) ⟨Nat.le_of_ble_eq_true rfl, Nat.le_of_ble_eq_true rfl⟩ (fun ws1 H locs hPo I => ?_)
  subst hPo
  have I : nWv dC dI _ s [(a, .inr (2, [.int (0 : Int32), .null, .int 0]))] H locs := I
  refine lv_aload_n hx hb dJx4a65c_init_da8c8_4 rfl (lv_at hl 0 rfl) ?_
  refine va_gets hx hb hE.1 I.2.2 X.2.2.2.1 (X.2.2.2.2.1 _ kC_434) (fun _ h => h) dJx4a65c_init_da8c8_5 ?_
  refine va_put (D := (dC, dI)) (Ts := wsC) (C := RJx4a65c) (T := TJx4a65c) (N := 3) (ty := .array (.object "java/lang/Object")) hx hb X.2.2.2.2.1 kLay_L tyJx4a65c tyJx4a65c_ok nmJx4a65c X.2.2.2.1 X.2.2.2.2.2.1 I.1 I.2.1 I.2.2 0 rfl rfl 1 (by decide) (X.2.2.2.2.1 _ kC_435) (fun _ h => h) rfl (by decide +kernel) rfl rfl (by decide) dJx4a65c_init_da8c8_8 (fun H locs hP hD hS => ?_)
  have I : nWv dC dI _ s [(a, .inr (2, [.int (0 : Int32), .ref g.2.2.2.2, .int 0]))] H locs := ⟨hP, hD, hS⟩
  refine n_ret X I ?_ hr ⟨Nat.le_of_ble_eq_true rfl, Nat.le_of_ble_eq_true rfl⟩ 11 dJx4a65c_init_da8c8_11
  exact rfl
