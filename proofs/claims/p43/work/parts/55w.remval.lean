-- LEVEL 2, THE CALL REMOVE VALUE: A VALUE MATCHES ONE AT MOST
def vUq (H : sH) (vs : List (Nat × Nat × Nat)) : Prop := ∀ e a v, vs.countP (vGoes H e a false v) ≤ 1
theorem vUq_drop {H : sH} {vs : List (Nat × Nat × Nat)} {e a v : Nat} {all : Bool} (h : vUq H vs) : vUq H (vDrop H vs e a all v) := fun e' a' v' => Nat.le_trans (List.Sublist.countP_le List.filter_sublist) (h e' a' v')
theorem vUq_add {H : sH} {vs : List (Nat × Nat × Nat)} {e a v : Nat} {all : Bool} (h : vUq H vs) : vUq H (vDrop H vs e a all v ++ [(e, a, v)]) := fun e' a' v' => by
  have h1 := vUq_drop (e := e) (a := a) (v := v) (all := all) h e' a' v'
  rw [List.countP_append, List.countP_singleton]
  by_cases q : vGoes H e' a' false v' (e, a, v) = true
  · have z : (vDrop H vs e a all v).countP (vGoes H e' a' false v') = 0 := by
      rw [List.countP_eq_zero]
      intro x hx hg
      have hn := (List.mem_filter.mp hx).2
      unfold vGoes at q hg hn
      simp only [Bool.and_eq_true, decide_eq_true_eq, Bool.false_or] at q hg
      obtain ⟨q1, q2, q3⟩ := q
      obtain ⟨g1, g2, g3⟩ := hg
      subst q1; subst q2
      rw [decide_eq_true g1, decide_eq_true g2, decide_eq_true (g3.trans q3.symm), Bool.or_true] at hn
      exact Bool.noConfusion hn
    rw [z, if_pos q]
    exact Nat.le_refl _
  · rw [if_neg q]; omega
theorem vUq_take {H : sH} {T : sT} {c : sCh} (h : vUq H (tVs T)) : vUq H (tVs (tTake H T c)) := by
  have va : ∀ (l : List (Nat × Nat)) (vs : List (Nat × Nat × Nat)), vUq H vs → vUq H (l.foldl (fun vs x => vTake H vs (cE c) x.1 x.2) vs) := fun l => by
    induction l with
    | nil => exact fun vs hv => hv
    | cons y l ih => exact fun vs hv => ih _ (vUq_add hv)
  unfold tTake
  by_cases k0 : cK c = 0
  · rw [if_pos k0]; exact va _ _ h
  · rw [if_neg k0]
    by_cases k1 : cK c = 1
    · rw [if_pos k1]; exact vUq_add h
    · rw [if_neg k1]
      by_cases k2 : cK c = 2
      · rw [if_pos k2]; exact vUq_drop h
      · rw [if_neg k2]
        by_cases k3 : cK c = 3
        · rw [if_pos k3]; exact vUq_add h
        · rw [if_neg k3]
          repeat' split
          all_goals exact h
theorem vUq_rpl {H : sH} {cs : Nat → sCh} : ∀ (l : List Nat) (T : sT), vUq H (tVs T) → vUq H (tVs (rpl H cs T l))
  | [], _, h => h
  | k :: l, _, h => vUq_rpl l _ (vUq_take h)
section OE
variable {N : Nat} {S : kS} {W : sW}
theorem tMt_1 {m e a v : Nat} : tMt (wH W) (wTr W m) e a v ≤ 1 := vUq_rpl _ tNew (fun _ _ _ => Nat.zero_le _) e a v
end OE
