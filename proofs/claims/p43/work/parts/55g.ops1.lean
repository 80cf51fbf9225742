-- LEVEL 2, CALLS THAT ASK
section O2
variable {N : Nat} {S : kS} {W : sW}
theorem in_yes {x a b : Int} (h : a ≤ x ∧ x ≤ b) : (decide (a ≤ x) && decide (x ≤ b)) = true := by rw [decide_eq_true h.1, decide_eq_true h.2]; rfl
theorem in_no {x a b : Int} (h : ¬ (a ≤ x ∧ x ≤ b)) : ¬ (decide (a ≤ x) && decide (x ≤ b)) = true := by rw [Bool.and_eq_true, decide_eq_true_eq, decide_eq_true_eq]; exact h
/-- what only writes the tree anew -/
theorem kRel_4 {S' : kS} (K : kRel S W) (f : frT 4 S S') (h0 : kA S' (26 + 15 * 4 + 5) 0 = zI 0) : kRel S' W := by
  obtain ⟨k1, ⟨k2, k3⟩, ⟨k4, k5, k6⟩, ⟨k7, k7b⟩, ⟨k8, k9⟩, k10, k11, k12, k13, k14, k15, k16, ⟨k17, k18⟩⟩ := K
  obtain ⟨d1, d2, d3, d4, d5, d6, d7, d8⟩ := kD_eq f.2.2.2.2
  have u : ∀ q, q < 52 → kI S' q = kI S q := fun q hq => f.2.2.2.1 q (by omega)
  have a : ∀ c, c < 86 → kA S' c = kA S c := fun c hc => f.1 c (by omega)
  exact ⟨frT_hR f k1, ⟨by rw [u _ (by omega)]; exact k2, by rw [a _ (by omega)]; exact k3⟩, ⟨by rw [u _ (by omega)]; exact k4, by rw [u _ (by omega)]; exact k5, by rw [a _ (by omega), a _ (by omega), a _ (by omega)]; exact k6⟩, ⟨by rw [d1]; exact k7, fun k hk => cRS_D f.2.2.2.2 (k7b k hk)⟩, ⟨lgR_fr (u _ (by omega)) f.2.2.2.2 k8, by rw [d3, d4]; exact k9⟩, fun j hj => tdR_fr (u _ (by omega)) (a _ (by omega)) (k10 j hj), fun j hj => by rw [u _ (by omega)]; exact k11 j hj, fun j hj => by rw [u _ (by omega)]; exact k12 j hj, fun j e hj he => by rw [f.2.2.1 _ (by omega) (by omega)]; exact k13 j e hj he, by rw [u _ (by omega)]; exact k14, fun j hj => tR_fr f (by omega) (k15 j hj), h0, ⟨by rw [u _ (by omega)]; exact k17, by rw [a _ (by omega)]; exact k18⟩⟩
theorem w_redo (hN : 1001 ≤ N) (h : wOk W) (K : kRel S W) {m : Nat} (hm : m < 4) : ∃ S', pX9_redo N 4 m S = some ((), S') ∧ tOk S' 4 (wTr W m) ∧ kRel S' W := by
  obtain ⟨-, -, -, ⟨g1, g2, g3, ⟨ar, g4⟩, g5, -⟩, -, -, ⟨g7, g8⟩, -⟩ := h
  obtain ⟨S', e, t, f, z⟩ := q_redo (N := N) (t := 4) (ar := ar) hN hm (by omega) (S := S) ⟨K.1, K.2.2.2.2.1.1, fun k hk => K.2.2.2.1.2 k ((g3 k).mp hk), K.2.2.2.2.2.1 m hm⟩ K.2.2.2.2.2.2.2.2.2.2.2.1 g4 (by omega)
  exact ⟨S', e, t, kRel_4 K f z⟩
end O2
