-- LEVEL 2, CALLS: COMBINE, NOT
section O7
variable {N : Nat} {S : kS} {W : sW}
theorem last2 {l : List Nat} (h : 2 ≤ l.length) : ∃ F x y, l = F ++ [x, y] := by
  refine ⟨l.take (l.length - 2), l[l.length - 2], l[l.length - 1], ?_⟩
  have e : l = l.take (l.length - 2) ++ l.drop (l.length - 2) := (List.take_append_drop _ _).symm
  have d : l.drop (l.length - 2) = [l[l.length - 2], l[l.length - 1]] := by
    rw [List.drop_eq_getElem_cons (by omega), List.drop_eq_getElem_cons (by omega)]
    have e2 : l.length - 2 + 1 = l.length - 1 := by omega
    simp only [e2]
    rw [List.drop_eq_nil_of_le (by omega)]
  rw [d] at e
  exact e
theorem last1 {l : List Nat} (h : 1 ≤ l.length) : ∃ F x, l = F ++ [x] := by
  refine ⟨l.take (l.length - 1), l[l.length - 1], ?_⟩
  have e : l = l.take (l.length - 1) ++ l.drop (l.length - 1) := (List.take_append_drop _ _).symm
  have d : l.drop (l.length - 1) = [l[l.length - 1]] := by
    rw [List.drop_eq_getElem_cons (by omega), List.drop_eq_nil_of_le (by omega)]
  rw [d] at e
  exact e
end O7
