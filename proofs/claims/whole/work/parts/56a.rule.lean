-- LEVEL 2, THE CALL RULE
section OI
variable {N : Nat} {S : kS} {M : mS} {W : sW} {T : sT}
theorem r_subjectOf (R : rT M T) {z : Int} (h5 : -2147483648 ≤ z) (h6 : z < 2147483648) : (∃ s : Nat, s < 55 ∧ sSub s = z ∧ pf_subjectOf N (zI z) M = some (zI (s : Nat), M) ∧ ((z = -1) ∨ (z < 100 ∧ z ≠ -1 ∧ 0 ≤ z ∧ z < 6) ∨ (100 ≤ z ∧ tLv T (z - 100) = true))) ∨ (pf_subjectOf N (zI z) M = some (-1, M) ∧ z ≠ -1 ∧ ((z < 100 ∧ ¬ (0 ≤ z ∧ z < 6)) ∨ (100 ≤ z ∧ ¬ tLv T (z - 100) = true))) := by
  have z1 : (zI z = (-1 : Int32)) ↔ z = -1 := by rw [zL_m1, zI_eq h5 h6 (by omega) (by omega)]
  have e5 : pf_in N (zI z) 0 5 = some (zB (decide (0 ≤ z) && decide (z ≤ 5))) := r_in (a := 0) (b := 5) h5 h6 (by omega) (by omega) (by omega) (by omega)
  simp only [pf_subjectOf]
  by_cases q : z = -1
  · rw [if_pos (z1.mpr q)]
    exact Or.inl ⟨54, by omega, by rw [q]; rfl, rfl, Or.inl q⟩
  · rw [if_neg (fun g => q (z1.mp g)), e5, bs_i, il_B]
    by_cases q2 : 0 ≤ z ∧ z ≤ 5
    · rw [if_pos (in_yes q2)]
      obtain ⟨s, rfl⟩ : ∃ s : Nat, z = s := ⟨z.toNat, by omega⟩
      exact Or.inl ⟨s, by omega, by unfold sSub; rw [if_pos (by omega)], rfl, Or.inr (Or.inl ⟨by omega, q, by omega, by omega⟩)⟩
    · rw [if_neg (in_no q2), zL_100, il_lt h5 h6 (by omega) (by omega)]
      by_cases q3 : z < 100
      · rw [if_pos q3]
        exact Or.inr ⟨rfl, q, Or.inl ⟨q3, by omega⟩⟩
      · rw [if_neg q3, zI_sub, r_isLive R (by omega) (by omega), bd_i, il_B]
        by_cases g : tLv T (z - 100) = true
        · have hz := tLv_lt g
          rw [if_pos g, zL_6, zI_add, zI_sub]
          refine Or.inl ⟨(z - 94).toNat, by omega, ?_, ?_, Or.inr (Or.inr ⟨by omega, g⟩)⟩
          · unfold sSub
            rw [if_neg (by omega), if_pos (by omega)]; omega
          · congr 3
            omega
        · rw [if_neg g]
          exact Or.inr ⟨rfl, q, Or.inr ⟨by omega, g⟩⟩
end OI
