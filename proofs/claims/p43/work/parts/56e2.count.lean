-- LEVEL 2, BITS COUNTED, ALL OF IT
theorem hor_dv {a : Nat} {l : List Nat} (h : a < 256) : hor (a :: l) / 256 = hor l := by
  show (256 * hor l + a) / 256 = hor l
  omega
theorem hor_md {a : Nat} {l : List Nat} (h : a < 128) : hor (a :: l) % 128 = a := by
  show (256 * hor l + a) % 128 = a
  omega
theorem hor_cc {a b : Nat} {l k m : List Nat} (h : hor l + hor k = hor m) : hor (a :: l) + hor (b :: k) = hor ((a + b) :: m) := by
  show (256 * hor l + a) + (256 * hor k + b) = 256 * hor m + (a + b)
  omega
theorem hor_c0 {l : List Nat} : hor l + hor [] = hor l := rfl
theorem hor_l8 {l : List Nat} (h : l.length = 8) (hl : ∀ b ∈ l, b < 256) : hor l < 18446744073709551616 := by
  have := hor_lt l hl
  rw [h, show (256 : Nat) ^ 8 = 18446744073709551616 by decide] at this
  exact this
theorem hor_all {P : Nat → Prop} {a0 a1 a2 a3 a4 a5 a6 a7 : Nat} (h0 : P a0) (h1 : P a1) (h2 : P a2) (h3 : P a3) (h4 : P a4) (h5 : P a5) (h6 : P a6) (h7 : P a7) : ∀ b ∈ [a0, a1, a2, a3, a4, a5, a6, a7], P b := fun b hb => by
  simp only [List.mem_cons, List.not_mem_nil, or_false] at hb
  rcases hb with rfl | rfl | rfl | rfl | rfl | rfl | rfl | rfl <;> assumption
theorem bc_end {g0 g1 g2 g3 g4 g5 g6 g7 : Nat} (h0 : g0 ≤ 8) (h1 : g1 ≤ 8) (h2 : g2 ≤ 8) (h3 : g3 ≤ 8) (h4 : g4 ≤ 8) (h5 : g5 ≤ 8) (h6 : g6 ≤ 8) (h7 : g7 ≤ 8) : ∃ y2 y3 y4, hor [g0, g1, g2, g3, g4, g5, g6, g7] < 18446744073709551616 ∧ hor [g0, g1, g2, g3, g4, g5, g6, g7] + hor [g0, g1, g2, g3, g4, g5, g6, g7] / 256 = y2 ∧ y2 < 18446744073709551616 ∧ y2 + y2 / 65536 = y3 ∧ y3 < 18446744073709551616 ∧ y3 + y3 / 4294967296 = y4 ∧ y4 % 128 = g0 + g1 + g2 + g3 + g4 + g5 + g6 + g7 := by
  have d2 : ∀ n : Nat, n / 65536 = n / 256 / 256 := fun n => by omega
  have d4 : ∀ n : Nat, n / 4294967296 = n / 256 / 256 / 256 / 256 := fun n => by omega
  have e2 : hor [g0, g1, g2, g3, g4, g5, g6, g7] + hor [g0, g1, g2, g3, g4, g5, g6, g7] / 256 = hor [g0 + g1, g1 + g2, g2 + g3, g3 + g4, g4 + g5, g5 + g6, g6 + g7, g7] := by
    rw [hor_dv (by omega)]
    exact hor_cc (hor_cc (hor_cc (hor_cc (hor_cc (hor_cc (hor_cc hor_c0))))))
  have e3 : hor [g0 + g1, g1 + g2, g2 + g3, g3 + g4, g4 + g5, g5 + g6, g6 + g7, g7] + hor [g0 + g1, g1 + g2, g2 + g3, g3 + g4, g4 + g5, g5 + g6, g6 + g7, g7] / 65536 = hor [g0 + g1 + (g2 + g3), g1 + g2 + (g3 + g4), g2 + g3 + (g4 + g5), g3 + g4 + (g5 + g6), g4 + g5 + (g6 + g7), g5 + g6 + g7, g6 + g7, g7] := by
    rw [d2, hor_dv (by omega), hor_dv (by omega)]
    exact hor_cc (hor_cc (hor_cc (hor_cc (hor_cc (hor_cc hor_c0)))))
  have e4 : hor [g0 + g1 + (g2 + g3), g1 + g2 + (g3 + g4), g2 + g3 + (g4 + g5), g3 + g4 + (g5 + g6), g4 + g5 + (g6 + g7), g5 + g6 + g7, g6 + g7, g7] + hor [g0 + g1 + (g2 + g3), g1 + g2 + (g3 + g4), g2 + g3 + (g4 + g5), g3 + g4 + (g5 + g6), g4 + g5 + (g6 + g7), g5 + g6 + g7, g6 + g7, g7] / 4294967296 = hor [g0 + g1 + (g2 + g3) + (g4 + g5 + (g6 + g7)), g1 + g2 + (g3 + g4) + (g5 + g6 + g7), g2 + g3 + (g4 + g5) + (g6 + g7), g3 + g4 + (g5 + g6) + g7, g4 + g5 + (g6 + g7), g5 + g6 + g7, g6 + g7, g7] := by
    rw [d4, hor_dv (by omega), hor_dv (by omega), hor_dv (by omega), hor_dv (by omega)]
    exact hor_cc (hor_cc (hor_cc (hor_cc hor_c0)))
  refine ⟨_, _, _, hor_l8 rfl (hor_all (P := fun b => b < 256) (by omega) (by omega) (by omega) (by omega) (by omega) (by omega) (by omega) (by omega)), e2, hor_l8 rfl (hor_all (P := fun b => b < 256) (by omega) (by omega) (by omega) (by omega) (by omega) (by omega) (by omega) (by omega)), e3, hor_l8 rfl (hor_all (P := fun b => b < 256) (by omega) (by omega) (by omega) (by omega) (by omega) (by omega) (by omega) (by omega)), e4, ?_⟩
  rw [hor_md (by omega)]
  omega
theorem bc_m5 {L : List Nat} (h : L.length = 8) {m : Nat} : hor (L.map (fun _ => m)) = m * 72340172838076673 := by
  match L, h with
  | [b0, b1, b2, b3, b4, b5, b6, b7], _ =>
    show 256 * (256 * (256 * (256 * (256 * (256 * (256 * (256 * 0 + m) + m) + m) + m) + m) + m) + m) + m = _
    omega
theorem bc_le {f : Nat → Nat} {c : Nat} : ∀ L : List Nat, (∀ b ∈ L, f b ≤ c) → hor (L.map f) ≤ hor (L.map (fun _ => c))
  | [], _ => Nat.le_refl _
  | b :: L, h => by
    have ih := bc_le L (fun x hx => h x (List.mem_cons_of_mem _ hx))
    have := h b List.mem_cons_self
    show 256 * hor (L.map f) + f b ≤ 256 * hor (L.map (fun _ => c)) + c
    omega
theorem list_8 {L : List Nat} (h : L.length = 8) : ∃ b0 b1 b2 b3 b4 b5 b6 b7, L = [b0, b1, b2, b3, b4, b5, b6, b7] := by
  match L, h with
  | [b0, b1, b2, b3, b4, b5, b6, b7], _ => exact ⟨b0, b1, b2, b3, b4, b5, b6, b7, rfl⟩
theorem q_bitCount {N : Nat} {w : Int64} {S : kS} : pJ13_bitCount_95d88 N w S = some (zI (fb_ct (lb w) 64 : Nat), S) := by
  obtain ⟨n, hn, rfl⟩ := wb_of w
  obtain ⟨L, hl8, hl, e0⟩ := hor_of hn
  have s1 : ∀ n, n < 2 ^ 64 → ((lN n).toUInt64 >>> ((1 : Int32).toInt64.toUInt64 &&& Int64.toUInt64 63)).toInt64 = lN (n / 2 ^ 1) := fun n h => wb_shr (k := 1) h (by omega)
  have s2 : ∀ n, n < 2 ^ 64 → ((lN n).toUInt64 >>> ((2 : Int32).toInt64.toUInt64 &&& Int64.toUInt64 63)).toInt64 = lN (n / 2 ^ 2) := fun n h => wb_shr (k := 2) h (by omega)
  have s4 : ∀ n, n < 2 ^ 64 → ((lN n).toUInt64 >>> ((4 : Int32).toInt64.toUInt64 &&& Int64.toUInt64 63)).toInt64 = lN (n / 16) := fun n h => wb_shr (k := 4) h (by omega)
  have s8 : ∀ n, n < 2 ^ 64 → ((lN n).toUInt64 >>> ((8 : Int32).toInt64.toUInt64 &&& Int64.toUInt64 63)).toInt64 = lN (n / 256) := fun n h => wb_shr (k := 8) h (by omega)
  have s16 : ∀ n, n < 2 ^ 64 → ((lN n).toUInt64 >>> ((16 : Int32).toInt64.toUInt64 &&& Int64.toUInt64 63)).toInt64 = lN (n / 65536) := fun n h => wb_shr (k := 16) h (by omega)
  have s32 : ∀ n, n < 2 ^ 64 → ((lN n).toUInt64 >>> ((32 : Int32).toInt64.toUInt64 &&& Int64.toUInt64 63)).toInt64 = lN (n / 4294967296) := fun n h => wb_shr (k := 32) h (by omega)
  have m5 : (6148914691236517205 : Int64) = lN (hor (L.map (fun _ => 85))) := by rw [bc_m5 hl8, show 85 * 72340172838076673 = 6148914691236517205 by decide]; rfl
  have m3 : (3689348814741910323 : Int64) = lN (hor (L.map (fun _ => 51))) := by rw [bc_m5 hl8, show 51 * 72340172838076673 = 3689348814741910323 by decide]; rfl
  have mF : (1085102592571150095 : Int64) = lN (hor (L.map (fun _ => 15))) := by rw [bc_m5 hl8, show 15 * 72340172838076673 = 1085102592571150095 by decide]; rfl
  have lt : ∀ f : Nat → Nat, (∀ b ∈ L, f b < 256) → hor (L.map f) < 2 ^ 64 := fun f h => by
    have := hor_l8 (l := L.map f) (by rw [List.length_map, hl8]) (fun x hx => by
      obtain ⟨b, hb, rfl⟩ := List.mem_map.mp hx
      exact h b hb)
    omega
  have lm : ∀ m, m < 256 → hor (L.map (fun _ => m)) < 2 ^ 64 := fun m h => lt _ (fun _ _ => h)
  have all := fun b hb => bc_all b (hl b hb)
  have hc : ∀ x ∈ L.map bcc, x < 256 := fun x hx => by
    obtain ⟨b, hb, rfl⟩ := List.mem_map.mp hx
    exact (all b hb).2.1
  have e1 : lN n - ((((lN n).toUInt64 >>> ((1 : Int32).toInt64.toUInt64 &&& Int64.toUInt64 63)).toInt64) &&& (6148914691236517205 : Int64)) = lN (hor (L.map bcc)) := by
    have h5 := hor_sub L hl
    rw [← e0] at h5
    have h6 := hor_and (s := 1) (m := 85) (by omega) (by decide) L hl
    rw [← e0] at h6
    rw [s1 _ hn, m5, wb_and (Nat.lt_of_le_of_lt (Nat.div_le_self _ _) hn) (lm 85 (by omega)), h6, lNb_sub (by omega)]
    congr 1
    omega
  have a3 : ∀ s, s ≤ 2 → (hor (L.map bcc) / 2 ^ s) &&& hor (L.map (fun _ => 51)) = hor (L.map (fun b => (bcc b / 2 ^ s) &&& 51)) := fun s h => by
    have := hor_and (s := s) (m := 51) (by omega) (Nat.lt_of_lt_of_le (show 51 < 2 ^ 6 by decide) (Nat.pow_le_pow_right (by omega) (by omega))) (L.map bcc) hc
    rw [List.map_map, List.map_map] at this
    exact this
  have e2 : (lN (hor (L.map bcc)) &&& (3689348814741910323 : Int64)) + ((((lN (hor (L.map bcc))).toUInt64 >>> ((2 : Int32).toInt64.toUInt64 &&& Int64.toUInt64 63)).toInt64) &&& (3689348814741910323 : Int64)) = lN (hor (L.map bcd)) := by
    have h1 := lt bcc (fun b hb => (all b hb).2.1)
    have z := a3 0 (by omega)
    have z0 : hor (L.map bcc) / 2 ^ 0 = hor (L.map bcc) := by rw [Nat.pow_zero, Nat.div_one]
    rw [z0] at z
    rw [s2 _ h1, m3, wb_and h1 (lm 51 (by omega)), wb_and (Nat.lt_of_le_of_lt (Nat.div_le_self _ _) h1) (lm 51 (by omega)), z, a3 2 (by omega), lNb_add, hor_add]
    rfl
  have e3 : (lN (hor (L.map bcd)) + (((lN (hor (L.map bcd))).toUInt64 >>> ((4 : Int32).toInt64.toUInt64 &&& Int64.toUInt64 63)).toInt64)) &&& (1085102592571150095 : Int64) = lN (hor (L.map bcg)) := by
    have hsm := bc_le (f := bcd) (c := 68) L (fun b hb => by have := (all b hb); omega)
    rw [bc_m5 hl8] at hsm
    have hs : hor (L.map bcd) + hor (L.map bcd) / 16 < 2 ^ 64 := by omega
    rw [s4 _ (by omega), mF, lNb_add, wb_and hs (lm 15 (by omega)), (hor_nib L hl).2]
  have hg : ∀ b ∈ L, bcg b ≤ 8 := fun b hb => (all b hb).2.2.2.2.2
  have ct : fb_ct (lb (lN n)) 64 = (L.map bcg).sum := by
    have := hor_ct L hl
    rw [hl8] at this
    rw [← this, ← e0]
    exact fb_ct_cong (fun k hk => lb_lN hk)
  simp only [pJ13_bitCount_95d88, nml_i]
  rw [e1, e2, e3, ct]
  obtain ⟨b0, b1, b2, b3, b4, b5, b6, b7, hL⟩ := list_8 hl8
  have q : ∀ b, b ∈ [b0, b1, b2, b3, b4, b5, b6, b7] → bcg b ≤ 8 := fun b hb => hg b (by rw [hL]; exact hb)
  obtain ⟨y2, y3, y4, f1, f2, f3, f4, f5, f6, f7⟩ := bc_end (q b0 (by simp)) (q b1 (by simp)) (q b2 (by simp)) (q b3 (by simp)) (q b4 (by simp)) (q b5 (by simp)) (q b6 (by simp)) (q b7 (by simp))
  have eG : hor (L.map bcg) = hor [bcg b0, bcg b1, bcg b2, bcg b3, bcg b4, bcg b5, bcg b6, bcg b7] := by rw [hL]; rfl
  have eS : (L.map bcg).sum = bcg b0 + (bcg b1 + (bcg b2 + (bcg b3 + (bcg b4 + (bcg b5 + (bcg b6 + (bcg b7 + 0))))))) := by rw [hL]; rfl
  rw [eG, eS]
  clear e1 e2 e3 ct eG eS all a3 lt lm mF m3 m5 hc hg q hL hl hl8
  rw [s8 _ (by omega), lNb_add, f2, s16 _ (by omega), lNb_add, f4, s32 _ (by omega), lNb_add, f6, lN_127, zI_n, f7]
  congr 3
  omega

