-- LEVEL 2, THE REFERENCE: A CHANGE IS DONE
theorem arr_B {f : Nat → Int32} {g : Nat → Bool} {e : Nat} {v : Bool} (h : ∀ j, j < 48 → f j = zB (g j)) : ∀ j, j < 48 → upd f e (zB v) j = zB (upf g e v j) := fun j hj => by
  by_cases q : j = e
  · rw [q, upd_s, upf_s]
  · rw [upd_o _ _ q, upf_o _ _ q]; exact h j hj
