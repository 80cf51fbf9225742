-- LEVEL 2, CALLS: UNDRAFT, WIPE, PARTS OF FILTERS
section O4
variable {N : Nat} {S : kS} {W : sW}
/-- a part comes -/
theorem q_fput {x : Int32} {k lo hi mo : Int} (hl : (wP W).length < 15) (K : kRel S W) : ∃ S', pX2_put N (zI k) (zI lo) (zI hi) (zI mo) S = some (zI (((wK W).length : Nat) + mo), S') ∧ (∀ q, q ≠ 6 → q ≠ 7 → kI S' q = kI S q) ∧ kI S' 6 = zI (((wP W).length + 1 : Nat) : Int) ∧ kI S' 7 = zI (((wK W).length : Nat) + mo) ∧ kA S' 8 = upd (kA S 8) (wP W).length (zI k) ∧ kA S' 9 = upd (kA S 9) (wP W).length (zI lo) ∧ kA S' 10 = upd (kA S 10) (wP W).length (zI hi) ∧ (∀ c, c ≠ 8 → c ≠ 9 → c ≠ 10 → kA S' c = kA S c) ∧ kJ S' = kJ S ∧ kL S' = kL S ∧ S'.2.2.2.2 = S.2.2.2.2 := by
  obtain ⟨f1, f2, f3⟩ := K.2.2.1
  simp only [pX2_put, pX2_put_60, svk_i]
  rw [f1, zL_15, il_le (by omega) (by omega) (by omega) (by omega), if_neg (by omega)]
  simp only [gd_n hl (show (15 : Nat) < 2147483648 by omega), zI_cn (show (wP W).length < 2147483648 by omega)]
  have g1 : ∀ a b c : Int32, kI (sA (sA (sA S 8 (wP W).length a) 9 (wP W).length b) 10 (wP W).length c) 6 = zI ((wP W).length : Nat) := fun _ _ _ => f1
  have g2 : ∀ a : Int32, kI (sA S 8 (wP W).length a) 6 = zI ((wP W).length : Nat) := fun _ => f1
  have g3 : ∀ a b : Int32, kI (sA (sA S 8 (wP W).length a) 9 (wP W).length b) 6 = zI ((wP W).length : Nat) := fun _ _ => f1
  rw [g2]
  simp only [gd_n hl (show (15 : Nat) < 2147483648 by omega), zI_cn (show (wP W).length < 2147483648 by omega)]
  rw [g3]
  simp only [gd_n hl (show (15 : Nat) < 2147483648 by omega), zI_cn (show (wP W).length < 2147483648 by omega)]
  rw [g1]
  have g7 : ∀ (a b c : Int32) (d : Int32), kI (sI (sA (sA (sA S 8 (wP W).length a) 9 (wP W).length b) 10 (wP W).length c) 6 d) 7 = zI ((wK W).length : Nat) := fun a b c d => by
    rw [kI_sI, upd_o _ _ (by omega)]; exact f2
  rw [g7, zI_add, zL_1, zI_add, kI_sI, upd_s]
  refine ⟨_, rfl, fun q h1 h2 => ?_, ?_, ?_, ?_, ?_, ?_, fun c h1 h2 h3 => ?_, rfl, rfl, rfl⟩
  · rw [kI_sI, upd_o _ _ h2, kI_sI, upd_o _ _ h1]; rfl
  · rw [kI_sI, upd_o _ _ (by omega), kI_sI, upd_s]; congr 1
  · rw [kI_sI, upd_s]
  · rw [kA_sI, kA_sI, kA_sA_o _ _ _ (by omega), kA_sA_o _ _ _ (by omega), kA_sA_s]
  · rw [kA_sI, kA_sI, kA_sA_o _ _ _ (by omega), kA_sA_s, kA_sA_o _ _ _ (by omega)]
  · rw [kA_sI, kA_sI, kA_sA_s, kA_sA_o _ _ _ (by omega), kA_sA_o _ _ _ (by omega)]
  · rw [kA_sI, kA_sI, kA_sA_o _ _ _ h3, kA_sA_o _ _ _ h2, kA_sA_o _ _ _ h1]
theorem g_roomF (K : kRel S W) (h : wOk W) : pX9_needRoomForFilter N S = if (wK W).length < 8 ∧ (wP W).length < 15 then some (.inl (), S) else some (.inr 3, S) := by
  obtain ⟨f1, f2, f3⟩ := K.2.2.1
  obtain ⟨p1, p2, -⟩ := h.2.2.1
  simp only [pX9_needRoomForFilter, pX9_needRoomForFilter_24]
  rw [f1, f2, zL_8, zL_15, il_le (by omega) (by omega) (by omega) (by omega), il_lt (by omega) (by omega) (by omega) (by omega)]
  by_cases q1 : (wK W).length < 8
  · rw [if_neg (by omega)]
    by_cases q2 : (wP W).length < 15
    · rw [if_pos (by omega), if_pos ⟨q1, q2⟩]
    · rw [if_neg (by omega), if_neg (fun h => q2 h.2)]
  · rw [if_pos (by omega), if_neg (fun h => q1 h.1)]
end O4
