-- LEVEL 2, THE REFERENCE MAKES A CHANGE
/-- the greatest stamp that is known among the first n changes -/
def gst (tl : Nat → Nat → Nat) (m : Nat) (cs : Nat → sCh) : Nat → Nat
  | 0 => 0
  | k + 1 => if gotB tl m (cs k) then max (gst tl m cs k) (cS (cs k)) else gst tl m cs k
theorem gst_le {tl : Nat → Nat → Nat} {m : Nat} {cs : Nat → sCh} {b : Nat} : ∀ n, (∀ k, k < n → gotB tl m (cs k) = true → cS (cs k) ≤ b) → gst tl m cs n ≤ b
  | 0, _ => Nat.zero_le _
  | n + 1, h => by
    have ih := gst_le (tl := tl) (m := m) (cs := cs) (b := b) n (fun k hk => h k (by omega))
    unfold gst
    split
    · rename_i hg
      exact Nat.max_le.mpr ⟨ih, h n (by omega) hg⟩
    · exact ih
theorem gst_ge {tl : Nat → Nat → Nat} {m : Nat} {cs : Nat → sCh} : ∀ n k, k < n → gotB tl m (cs k) = true → cS (cs k) ≤ gst tl m cs n
  | 0, k, hk, _ => by omega
  | n + 1, k, hk, hg => by
    unfold gst
    by_cases q : k = n
    · subst q
      rw [if_pos hg]
      exact Nat.le_max_right _ _
    · have ih := gst_ge n k (by omega) hg
      split
      · exact Nat.le_trans ih (Nat.le_max_left _ _)
      · exact ih
def up3 (f : Nat → Nat → Nat → Nat) (m : Nat) (g : Nat → Nat → Nat) : Nat → Nat → Nat → Nat := fun a => if a = m then g else f a
theorem up3_s (f : Nat → Nat → Nat → Nat) (m : Nat) (g : Nat → Nat → Nat) : up3 f m g m = g := if_pos rfl
theorem up3_o (f : Nat → Nat → Nat → Nat) {m a : Nat} (g : Nat → Nat → Nat) (h : a ≠ m) : up3 f m g a = f a := if_neg h
theorem ins_len {o : List Nat} {p k : Nat} (hp : p ≤ o.length) : (ins o p k).length = o.length + 1 := by
  unfold ins
  rw [List.length_append, List.length_take, List.length_cons, List.length_drop]; omega
theorem ins_get {o : List Nat} {p k i : Nat} (hp : p ≤ o.length) : (ins o p k)[i]? = if i < p then o[i]? else if i = p then some k else o[i - 1]? := by
  unfold ins
  by_cases h1 : i < p
  · rw [if_pos h1, List.getElem?_append_left (by rw [List.length_take]; omega), List.getElem?_take, if_pos h1]
  · rw [if_neg h1, List.getElem?_append_right (by rw [List.length_take]; omega), List.length_take, Nat.min_eq_left hp]
    by_cases h2 : i = p
    · rw [if_pos h2, h2, Nat.sub_self]; rfl
    · rw [if_neg h2]
      obtain ⟨j, hj⟩ : ∃ j, i - p = j + 1 := ⟨i - p - 1, by omega⟩
      rw [hj, List.getElem?_cons_succ, List.getElem?_drop]
      congr 1
      omega
theorem idx21 : ∀ a, a < 4 → ∀ b, b < 4 → ∀ d, d < 4 → ∀ m, m < 4 → 16 * a + 4 * b + d = 21 * m → a = m ∧ b = m ∧ d = m := by
  intro a ha b hb d hd m hm h
  have h1 : a = 0 ∨ a = 1 ∨ a = 2 ∨ a = 3 := by omega
  have h2 : m = 0 ∨ m = 1 ∨ m = 2 ∨ m = 3 := by omega
  rcases h1 with rfl | rfl | rfl | rfl <;> rcases h2 with rfl | rfl | rfl | rfl <;> omega
