-- LEVEL 2, THE REFERENCE LAYS A MASTER'S TREE: PLACES, NAMES, THE START
section RP
variable {N : Nat} {T : sT}
theorem tPl_no {o : Nat} (ho : 1 ≤ o) : tPl T o ≠ -1 := by
  unfold tPl
  rw [if_neg (by omega)]
  split
  · rename_i h
    have := tLv_lt h
    omega
  · omega
theorem tSh_0 : tSh T 0 = tNm T 0 := by
  unfold tSh
  have hn : ¬ anyF (tCl T 0) 1 47 = true := by
    rw [anyF_iff]
    rintro ⟨j, h1, h2, h3⟩
    unfold tCl at h3
    simp only [Bool.and_eq_true, decide_eq_true_eq] at h3
    have e : tPl T ((0 : Nat) : Int) = -1 := if_pos rfl
    rw [e] at h3
    exact tPl_no h1 h3.2.1
  exact if_neg hn
end RP
