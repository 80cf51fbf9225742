-- LEVEL 2, THE CALL ARE ALIKE
theorem nd_le {α : Type} [DecidableEq α] : ∀ {A B : List α}, A.Nodup → (∀ x ∈ A, x ∈ B) → A.length ≤ B.length ∧ (B.length ≤ A.length → ∀ x ∈ B, x ∈ A)
  | [], B, _, _ => ⟨Nat.zero_le _, fun h x hx => by
    have : B.length = 0 := Nat.le_zero.mp h
    rw [List.length_eq_zero_iff.mp this] at hx
    exact hx⟩
  | a :: A, B, hn, hs => by
    have hn2 := List.nodup_cons.mp hn
    have ha := hs a List.mem_cons_self
    have hl := List.length_erase_of_mem ha
    have hp := List.length_pos_of_mem ha
    obtain ⟨i1, i2⟩ := nd_le (A := A) (B := B.erase a) hn2.2 (fun x hx => (List.mem_erase_of_ne (fun e => hn2.1 (by rw [← e]; exact hx))).mpr (hs x (List.mem_cons_of_mem _ hx)))
    rw [List.length_cons]
    refine ⟨by omega, fun h x hx => ?_⟩
    by_cases e : x = a
    · rw [e]; exact List.mem_cons_self
    · exact List.mem_cons_of_mem _ (i2 (by omega) x ((List.mem_erase_of_ne e).mpr hx))
theorem nd_same {α : Type} [DecidableEq α] {A B : List α} {P : α → Bool} (hA : A.Nodup) (hB : B.Nodup) : ((∀ x ∈ A, P x = true → x ∈ B) ∧ A.countP P = B.countP P) ↔ ∀ x, P x = true → (x ∈ A ↔ x ∈ B) := by
  have fA : (A.filter P).Nodup := List.Nodup.sublist List.filter_sublist hA
  have fB : (B.filter P).Nodup := List.Nodup.sublist List.filter_sublist hB
  rw [List.countP_eq_length_filter, List.countP_eq_length_filter]
  constructor
  · rintro ⟨h1, h2⟩ x hx
    have s := (nd_le (A := A.filter P) (B := B.filter P) fA (fun y hy => List.mem_filter.mpr ⟨h1 y (List.mem_filter.mp hy).1 (List.mem_filter.mp hy).2, (List.mem_filter.mp hy).2⟩)).2 (by omega)
    exact ⟨fun h => h1 x h hx, fun h => (List.mem_filter.mp (s x (List.mem_filter.mpr ⟨h, hx⟩))).1⟩
  · intro h
    refine ⟨fun x hx hp => (h x hp).mp hx, ?_⟩
    have a := (nd_le (A := A.filter P) (B := B.filter P) fA (fun y hy => List.mem_filter.mpr ⟨(h y (List.mem_filter.mp hy).2).mp (List.mem_filter.mp hy).1, (List.mem_filter.mp hy).2⟩)).1
    have b := (nd_le (A := B.filter P) (B := A.filter P) fB (fun y hy => List.mem_filter.mpr ⟨(h y (List.mem_filter.mp hy).2).mpr (List.mem_filter.mp hy).1, (List.mem_filter.mp hy).2⟩)).1
    omega
