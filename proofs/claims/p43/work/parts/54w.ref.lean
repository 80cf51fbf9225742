-- LEVEL 2, THE REFERENCE: VALUES COME AND GO
section RV
variable {N : Nat} {H : sH}
theorem hKey_lt {a v : Nat} (hv : v < 1000) : hKey H a v < 1000 := by unfold hKey; split <;> omega
/-- the list without what goes -/
theorem filt_snoc {α : Type} {p : α → Bool} {l : List α} {i : Nat} {x : α} (h : l[i]? = some x) : (l.take (i + 1)).filter p = (l.take i).filter p ++ (if p x then [x] else []) := by
  obtain ⟨h1, h2⟩ := List.getElem?_eq_some_iff.mp h
  rw [List.take_succ_eq_append_getElem h1, List.filter_append, h2]
  congr 1
  rw [List.filter_cons]
  split <;> rfl
end RV
