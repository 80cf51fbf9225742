-- LEVEL 2, THE REFERENCE LAYS A MASTER'S TREE
def gBn (cs : Nat → sCh) (T : sT) (l : List Nat) : Prop := ∀ k ∈ l, ∀ e, 1 ≤ e → e < 48 → tTh T e = true → tBn T e < cR (cs k)
theorem tBn_take {H : sH} {T : sT} {c : sCh} : (cK c = 0 ∧ tTh (tTake H T c) = upf (tTh T) (cE c) true ∧ tBn (tTake H T c) = upf (tBn T) (cE c) (cR c)) ∨ (cK c ≠ 0 ∧ tTh (tTake H T c) = tTh T ∧ tBn (tTake H T c) = tBn T) := by
  unfold tTake
  by_cases k0 : cK c = 0
  · rw [if_pos k0]; exact Or.inl ⟨k0, rfl, rfl⟩
  · rw [if_neg k0]
    refine Or.inr ⟨k0, ?_⟩
    repeat' split
    all_goals exact ⟨rfl, rfl⟩
theorem gBn_take {H : sH} {cs : Nat → sCh} {T : sT} {k : Nat} {l : List Nat} (h : (k :: l).Pairwise (fun a b => cR (cs a) < cR (cs b))) (p : gBn cs T (k :: l)) : gBn cs (tTake H T (cs k)) l := fun k' hk e h1 h2 h3 => by
  have hlt := (List.pairwise_cons.mp h).1 k' hk
  rcases tBn_take (H := H) (T := T) (c := cs k) with ⟨q1, q2, q3⟩ | ⟨q1, q2, q3⟩
  · rw [q2] at h3
    rw [q3]
    by_cases g : e = cE (cs k)
    · rw [g, upf_s]; exact hlt
    · rw [upf_o _ _ g] at h3 ⊢
      exact p k' (List.mem_cons_of_mem _ hk) e h1 h2 h3
  · rw [q2] at h3
    rw [q3]
    exact p k' (List.mem_cons_of_mem _ hk) e h1 h2 h3
