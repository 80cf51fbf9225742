-- LEVEL 2, CALLS: VALUE AT
theorem cP_lt {α : Type} {p q : α → Bool} : ∀ {l : List α} {x : α}, (∀ y, p y = true → q y = true) → x ∈ l → q x = true → p x = false → l.countP p < l.countP q
  | [], x, _, hx, _, _ => absurd hx List.not_mem_nil
  | y :: l, x, h, hx, h1, h2 => by
    rw [List.countP_cons, List.countP_cons]
    rcases List.mem_cons.mp hx with rfl | hx
    · have hm : l.countP p ≤ l.countP q := List.countP_mono_left (fun y _ => h y)
      rw [if_pos h1, if_neg (by rw [h2]; decide)]
      omega
    · have ih := cP_lt h hx h1 h2
      by_cases g : p y = true
      · rw [if_pos g, if_pos (h y g)]; omega
      · rw [if_neg g]; omega
theorem cP_one {l : List (Nat × Nat × Nat)} (h : l.Nodup) {x : Nat × Nat × Nat} (hx : x ∈ l) : l.countP (fun y => decide (y = x)) = 1 := by
  induction l with
  | nil => exact absurd hx List.not_mem_nil
  | cons y l ih =>
    have hn := List.nodup_cons.mp h
    rw [List.countP_cons]
    by_cases g : y = x
    · subst g
      have z : l.countP (fun z => decide (z = y)) = 0 := by
        rw [List.countP_eq_zero]
        intro z hz
        rw [decide_eq_true_eq]
        intro e
        exact hn.1 (e ▸ hz)
      rw [z, if_pos (decide_eq_true rfl)]
    · rcases List.mem_cons.mp hx with e | hx
      · exact absurd e.symm g
      · rw [ih hn.2 hx, if_neg (by rw [decide_eq_true_eq]; exact g)]
theorem cP_add {α : Type} {p q r : α → Bool} : ∀ {l : List α}, (∀ y ∈ l, (if r y then 1 else 0) = (if p y then 1 else 0) + (if q y then 1 else 0)) → l.countP r = l.countP p + l.countP q
  | [], _ => rfl
  | y :: l, h => by
    have ih := cP_add (l := l) (fun z hz => h z (List.mem_cons_of_mem _ hz))
    have hy := h y List.mem_cons_self
    rw [List.countP_cons, List.countP_cons, List.countP_cons, ih]
    omega
/-- how many values of an attribute are less -/
def cLs (T : sT) (e a v : Nat) : Nat := (tVs T).countP (fun x => decide (x.1 = e) && (decide (x.2.1 = a) && decide (x.2.2 < v)))
section O9
variable {N : Nat} {S : kS} {W : sW} {T : sT}
theorem cLs_cnt {e a v : Nat} (h : (e, a, v) ∈ tVs T) : cLs T e a v < tCnt T e a := cP_lt (fun y hy => by
    simp only [Bool.and_eq_true, decide_eq_true_eq] at hy ⊢
    exact ⟨hy.1, hy.2.1⟩) h (by simp) (by simp)
theorem cLs_lt {e a v w : Nat} (h : (e, a, v) ∈ tVs T) (hw : v < w) : cLs T e a v < cLs T e a w := cP_lt (fun y hy => by
    simp only [Bool.and_eq_true, decide_eq_true_eq] at hy ⊢
    exact ⟨hy.1, hy.2.1, by omega⟩) h (by simp [hw]) (by simp)
theorem tVal_one {e a idx : Nat} {r q : Int} (h1 : tVal T e a idx r) (h2 : tVal T e a idx q) : r = q := by
  rcases h1 with ⟨a1, a2⟩ | ⟨v, a1, a2, a3⟩
  · rcases h2 with ⟨b1, b2⟩ | ⟨w, b1, b2, b3⟩
    · rw [a2, b2]
    · have b3 : cLs T e a w = idx := b3
      have := cLs_cnt b2
      omega
  · have a3 : cLs T e a v = idx := a3
    rcases h2 with ⟨b1, b2⟩ | ⟨w, b1, b2, b3⟩
    · have := cLs_cnt a2
      omega
    · have b3 : cLs T e a w = idx := b3
      rcases Nat.lt_trichotomy v w with g | g | g
      · have := cLs_lt a2 g; omega
      · rw [a1, b1, g]
      · have := cLs_lt b2 g; omega
/-- one more, if nothing lies between -/
theorem cLs_next (hn : (tVs T).Nodup) {e a v w : Nat} (h : (e, a, v) ∈ tVs T) (hw : v < w) (no : ∀ u, (e, a, u) ∈ tVs T → v < u → w ≤ u) : cLs T e a w = cLs T e a v + 1 := by
  rw [← cP_one hn h]
  refine cP_add (fun y hy => ?_)
  obtain ⟨y1, y2, y3⟩ := y
  have hyn := no y3
  by_cases q : y1 = e ∧ y2 = a
  · obtain ⟨rfl, rfl⟩ := q
    have hyn := hyn hy
    by_cases g1 : y3 < v
    · have : ¬ y3 = v := by omega
      simp [g1, show y3 < w by omega, this]
    · by_cases g2 : y3 = v
      · subst g2; simp [hw]
      · have : ¬ y3 < w := by have := hyn (by omega); omega
        simp [g1, g2, this]
  · have e1 : ¬ ((y1, y2, y3) = (e, a, v)) := fun h => q ⟨congrArg (·.1) h, congrArg (·.2.1) h⟩
    have e2 : ∀ z : Nat, (decide (y1 = e) && (decide (y2 = a) && decide (y3 < z))) = false := fun z => by
      by_cases g : y1 = e
      · have : ¬ y2 = a := fun h => q ⟨g, h⟩
        simp [this]
      · simp [g]
    simp only [e2, decide_eq_false e1]
    rfl
/-- the value that is the j-th, or none -/
def vNth (T : sT) (e a j : Nat) (at_ : Int) : Prop := (j = 0 ∧ at_ = -1) ∨ (1 ≤ j ∧ at_ = 1000 ∧ tCnt T e a < j) ∨ (1 ≤ j ∧ ∃ v : Nat, at_ = v ∧ (e, a, v) ∈ tVs T ∧ cLs T e a v + 1 = j)
end O9
