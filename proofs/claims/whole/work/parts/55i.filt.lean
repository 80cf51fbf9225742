-- LEVEL 2, CALLS: UNDRAFT, WIPE, PARTS OF FILTERS
section O4
variable {N : Nat} {S : kS} {M : mS} {W : sW}
/-- what a call without exceptions must come to -/
def opOk2 (A : Option (Int32 × kS)) (B : Option (Int32 × mS)) : Prop := ∃ v S' M' W', A = some (v, S') ∧ B = some (v, M') ∧ wOk W' ∧ kRel S' W' ∧ mRel M' W'
theorem op_undraft (h : wOk W) (K : kRel S W) (R : mRel M W) : opOk2 (pX9_undraft N S) (pf_undraft N M) := by
  have R0 := mRel_0 (v := (0 : Int32)) R
  simp only [pX9_undraft, pf_undraft, nm_i, svk_i, sv_i]
  have r8 : (mI M 0 0).1 8 = zI ((wD W).length : Nat) := R0.2.1.1
  rw [K.2.1.1, r8]
  obtain ⟨o1, o2, o3, o4, o5, o6, o7, o8⟩ := id h
  have uI : ∀ q, q ≠ 5 → kI (sI S 5 0) q = kI S q := fun q hq => upd_o _ _ hq
  have uM : ∀ q, q ≠ 8 → (mI (mI M 0 0) 8 0).1 q = (mI M 0 0).1 q := fun q hq => upd_o _ _ hq
  refine ⟨_, _, _, wMk (wH W) [] (wP W) (wK W) (wC W) (wN W) (wO W) (wT W) (wX W) (wU W) (wE W) (wF W), rfl, rfl, ⟨o1, ⟨Nat.zero_le _, fun x hx => absurd hx List.not_mem_nil⟩, o3, o4, o5, o6, o7, o8⟩, ?_, ?_⟩
  · obtain ⟨k1, k2, k3, k4⟩ := id K
    exact kRel_e K (fun q hq => uI q (by omega)) (fun c hc => rfl) (fun _ _ => rfl) rfl rfl ⟨by rw [kI_sI, upd_s]; rfl, fun i hi => absurd hi (Nat.not_lt_zero _)⟩ ⟨by rw [uI _ (by omega)]; exact k3.1, by rw [uI _ (by omega)]; exact k3.2.1, k3.2.2⟩ (by rw [uI _ (by omega)]; exact K.2.2.2.2.2.2.2.2.2.1) ⟨by rw [uI _ (by omega)]; exact K.2.2.2.2.2.2.2.2.2.2.2.2.1, K.2.2.2.2.2.2.2.2.2.2.2.2.2⟩
  · obtain ⟨p1, p2, p3, p4⟩ := id R0
    exact mRel_e R0 (fun q hq => uM q (by omega)) (fun c hc => rfl) ⟨by rw [mI_1, upd_s]; rfl, fun i hi => absurd hi (Nat.not_lt_zero _)⟩ ⟨by rw [uM _ (by omega)]; exact p3.1, by rw [uM _ (by omega)]; exact p3.2.1, p3.2.2.1, p3.2.2.2⟩ ⟨by rw [uM _ (by omega)]; exact R0.2.2.2.2.2.2.2.2.2.2.1.1, R0.2.2.2.2.2.2.2.2.2.2.1.2⟩
theorem op_wipe (h : wOk W) (K : kRel S W) (R : mRel M W) : opOk2 (pX9_wipe N S) (pf_wipe N M) := by
  have R0 := mRel_0 (v := (0 : Int32)) R
  simp only [pX9_wipe, pX2_clear, pf_wipe, nm_i, svk_i, sv_i, bk_i]
  have r11 : (mI M 0 0).1 11 = zI ((wP W).length : Nat) := R0.2.2.1.1
  rw [K.2.2.1.1, r11]
  obtain ⟨o1, o2, o3, o4, o5, o6, o7, o8⟩ := id h
  have uI : ∀ q, q ≠ 6 → q ≠ 7 → kI (sI (sI S 6 0) 7 0) q = kI S q := fun q h1 h2 => (upd_o _ _ h2).trans (upd_o _ _ h1)
  have uM : ∀ q, q ≠ 11 → q ≠ 16 → (mI (mI (mI M 0 0) 11 0) 16 0).1 q = (mI M 0 0).1 q := fun q h1 h2 => (upd_o _ _ h2).trans (upd_o _ _ h1)
  refine ⟨_, _, _, wMk (wH W) (wD W) [] [] (wC W) (wN W) (wO W) (wT W) (wX W) (wU W) (wE W) (wF W), rfl, rfl, ⟨o1, o2, ⟨Nat.zero_le _, Nat.zero_le _, fun x hx => absurd hx List.not_mem_nil, fun i hi => absurd hi (Nat.not_lt_zero _), fun _ => [], fun _ => Nat.zero_le _, rfl, rfl, fun i hi => absurd hi (Nat.not_lt_zero _)⟩, o4, o5, o6, o7, o8⟩, ?_, ?_⟩
  · obtain ⟨k1, k2, k3, k4⟩ := id K
    exact kRel_e K (fun q hq => uI q (by omega) (by omega)) (fun c hc => rfl) (fun _ _ => rfl) rfl rfl ⟨by rw [uI _ (by omega) (by omega)]; exact k2.1, k2.2⟩ ⟨by rw [kI_sI, upd_o _ _ (by omega), kI_sI, upd_s]; rfl, by rw [kI_sI, upd_s]; rfl, fun i hi => absurd hi (Nat.not_lt_zero _)⟩ (by rw [uI _ (by omega) (by omega)]; exact K.2.2.2.2.2.2.2.2.2.1) ⟨by rw [uI _ (by omega) (by omega)]; exact K.2.2.2.2.2.2.2.2.2.2.2.2.1, K.2.2.2.2.2.2.2.2.2.2.2.2.2⟩
  · obtain ⟨p1, p2, p3, p4⟩ := id R0
    exact mRel_e R0 (fun q hq => uM q (by omega) (by omega)) (fun c hc => rfl) ⟨by rw [uM _ (by omega) (by omega)]; exact p2.1, p2.2⟩ ⟨by rw [mI_1, upd_o _ _ (by omega), mI_1, upd_s]; rfl, by rw [mI_1, upd_s]; rfl, fun i hi => absurd hi (Nat.not_lt_zero _), fun i hi => absurd hi (Nat.not_lt_zero _)⟩ ⟨by rw [uM _ (by omega) (by omega)]; exact R0.2.2.2.2.2.2.2.2.2.2.1.1, R0.2.2.2.2.2.2.2.2.2.2.1.2⟩
/-- a part comes -/
theorem q_fput {x : Int32} {k lo hi mo : Int} (hl : (wP W).length < 15) (K : kRel S W) : ∃ S', pX2_put N (zI k) (zI lo) (zI hi) (zI mo) S = some (zI (((wK W).length : Nat) + mo), S') ∧ (∀ q, q ≠ 6 → q ≠ 7 → kI S' q = kI S q) ∧ kI S' 6 = zI (((wP W).length + 1 : Nat) : Int) ∧ kI S' 7 = zI (((wK W).length : Nat) + mo) ∧ kA S' 8 = upd (kA S 8) (wP W).length (zI k) ∧ kA S' 9 = upd (kA S 9) (wP W).length (zI lo) ∧ kA S' 10 = upd (kA S 10) (wP W).length (zI hi) ∧ (∀ c, c ≠ 8 → c ≠ 9 → c ≠ 10 → kA S' c = kA S c) ∧ kJ S' = kJ S ∧ kL S' = kL S ∧ S'.2.2.2.2 = S.2.2.2.2 := by
  obtain ⟨f1, f2, f3⟩ := K.2.2.1
  simp only [pX2_put, pX2_put_60, svk_i]
  rw [f1, zL_15, il_le (by omega) (by omega) (by omega) (by omega), if_neg (by omega)]
  simp only [gd_n hl (show (15 : Nat) < 2147483648 by omega), zI_cn (show (wP W).length < 2147483648 by omega)]
  have g1 : ∀ a b c : Int32, kI (sA (sA (sA S 8 (wP W).length a) 9 (wP W).length b) 10 (wP W).length c) 6 = zI ((wP W).length : Nat) := fun _ _ _ => f1
  have g2 : ∀ a : Int32, kI (sA S 8 (wP W).length a) 6 = zI ((wP W).length : Nat) := fun _ => f1
  have g3 : ∀ a b : Int32, kI (sA (sA S 8 (wP W).length a) 9 (wP W).length b) 6 = zI ((wP W).length : Nat) := fun _ _ => f1
  rw [g2]
  simp only [gd_n hl (show (15 : Nat) < 2147483648 by omega), zI_cn (show (wP W).length < 2147483648 by omega)]
  rw [g3]
  simp only [gd_n hl (show (15 : Nat) < 2147483648 by omega), zI_cn (show (wP W).length < 2147483648 by omega)]
  rw [g1]
  have g7 : ∀ (a b c : Int32) (d : Int32), kI (sI (sA (sA (sA S 8 (wP W).length a) 9 (wP W).length b) 10 (wP W).length c) 6 d) 7 = zI ((wK W).length : Nat) := fun a b c d => by
    rw [kI_sI, upd_o _ _ (by omega)]; exact f2
  rw [g7, zI_add, zL_1, zI_add, kI_sI, upd_s]
  refine ⟨_, rfl, fun q h1 h2 => ?_, ?_, ?_, ?_, ?_, ?_, fun c h1 h2 h3 => ?_, rfl, rfl, rfl⟩
  · rw [kI_sI, upd_o _ _ h2, kI_sI, upd_o _ _ h1]; rfl
  · rw [kI_sI, upd_o _ _ (by omega), kI_sI, upd_s]; congr 1
  · rw [kI_sI, upd_s]
  · rw [kA_sI, kA_sI, kA_sA_o _ _ _ (by omega), kA_sA_o _ _ _ (by omega), kA_sA_s]
  · rw [kA_sI, kA_sI, kA_sA_o _ _ _ (by omega), kA_sA_s, kA_sA_o _ _ _ (by omega)]
  · rw [kA_sI, kA_sI, kA_sA_s, kA_sA_o _ _ _ (by omega), kA_sA_o _ _ _ (by omega)]
  · rw [kA_sI, kA_sI, kA_sA_o _ _ _ h3, kA_sA_o _ _ _ h2, kA_sA_o _ _ _ h1]
theorem g_roomF (K : kRel S W) (h : wOk W) : pX9_needRoomForFilter N S = if (wK W).length < 8 ∧ (wP W).length < 15 then some (.inl (), S) else some (.inr 3, S) := by
  obtain ⟨f1, f2, f3⟩ := K.2.2.1
  obtain ⟨p1, p2, -⟩ := h.2.2.1
  simp only [pX9_needRoomForFilter, pX9_needRoomForFilter_24]
  rw [f1, f2, zL_8, zL_15, il_le (by omega) (by omega) (by omega) (by omega), il_lt (by omega) (by omega) (by omega) (by omega)]
  by_cases q1 : (wK W).length < 8
  · rw [if_neg (by omega)]
    by_cases q2 : (wP W).length < 15
    · rw [if_pos (by omega), if_pos ⟨q1, q2⟩]
    · rw [if_neg (by omega), if_neg (fun h => q2 h.2)]
  · rw [if_pos (by omega), if_neg (fun h => q1 h.1)]
theorem r_isCrowded (R : mRel M W) (h : wOk W) : pf_isCrowded N M = some (zB (!(decide ((wK W).length < 8) && decide ((wP W).length < 15))), M) := by
  obtain ⟨f1, f2, f3⟩ := R.2.2.1
  obtain ⟨p1, p2, -⟩ := h.2.2.1
  simp only [pf_isCrowded]
  rw [f1, f2, zL_8, zL_15, il_eq (by omega) (by omega) (by omega) (by omega), il_eq (by omega) (by omega) (by omega) (by omega)]
  by_cases q1 : (wK W).length < 8
  · rw [if_neg (by omega), decide_eq_true q1]
    by_cases q2 : (wP W).length < 15
    · rw [if_neg (by omega), decide_eq_true q2]; rfl
    · rw [if_pos (by omega), decide_eq_false q2]; rfl
  · rw [if_pos (by omega), decide_eq_false q1]; rfl
/-- the reference's part comes; the filters below it are F -/
theorem r_puts {k x y : Int} {F : List Nat} (hl : (wP W).length < 15) (hF : F.length < 8) (f1 : M.1 11 = zI ((wP W).length : Nat)) (f2 : M.1 16 = zI (F.length : Nat)) : ∃ M', pf_puts N (zI k) (zI x) (zI y) M = some (zI ((F.length + 1 : Nat) : Int), M') ∧ (∀ q, q ≠ 11 → q ≠ 16 → M'.1 q = M.1 q) ∧ M'.1 11 = zI (((wP W).length + 1 : Nat) : Int) ∧ M'.1 16 = zI ((F.length + 1 : Nat) : Int) ∧ M'.2 12 = upd (M.2 12) (wP W).length (zI k) ∧ M'.2 13 = upd (M.2 13) (wP W).length (zI x) ∧ M'.2 14 = upd (M.2 14) (wP W).length (zI y) ∧ M'.2 17 = upd (M.2 17) F.length (zI ((wP W).length : Nat)) ∧ (∀ c, c ≠ 12 → c ≠ 13 → c ≠ 14 → c ≠ 17 → M'.2 c = M.2 c) := by
  simp only [pf_puts, sv_i]
  simp only [mA_1, mI_1, f1, f2, gd_n hl (show (15 : Nat) < 2147483648 by omega), zI_cn (show (wP W).length < 2147483648 by omega), gd_n hF (show (8 : Nat) < 2147483648 by omega), zI_cn (show F.length < 2147483648 by omega)]
  rw [zL_1, zI_add]
  have e16 : upd M.1 11 (zI (((wP W).length : Nat) + 1)) 16 = zI (F.length : Nat) := by rw [upd_o _ _ (by omega)]; exact f2
  rw [e16, zI_add, upd_s, show ((F.length : Nat) : Int) + 1 = ((F.length + 1 : Nat) : Int) by omega]
  refine ⟨_, rfl, fun q h1 h2 => ?_, ?_, ?_, ?_, ?_, ?_, ?_, fun c h1 h2 h3 h4 => ?_⟩
  · rw [mI_1, upd_o _ _ h2, mI_1, upd_o _ _ h1]; rfl
  · rw [mI_1, upd_o _ _ (by omega), mI_1, upd_s]; congr 1
  · rw [mI_1, upd_s]
  · rw [mI_2, mI_2, mA_o _ _ _ (by omega), mA_o _ _ _ (by omega), mA_o _ _ _ (by omega), mA_s]
  · rw [mI_2, mI_2, mA_o _ _ _ (by omega), mA_o _ _ _ (by omega), mA_s, mA_o _ _ _ (by omega)]
  · rw [mI_2, mI_2, mA_o _ _ _ (by omega), mA_s, mA_o _ _ _ (by omega), mA_o _ _ _ (by omega)]
  · rw [mI_2, mI_2, mA_s, mA_o _ _ _ (by omega), mA_o _ _ _ (by omega), mA_o _ _ _ (by omega)]
  · rw [mI_2, mI_2, mA_o _ _ _ h4, mA_o _ _ _ h3, mA_o _ _ _ h2, mA_o _ _ _ h1]
end O4
