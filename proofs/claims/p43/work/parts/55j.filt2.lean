-- LEVEL 2, CALLS: FILTERS
section O5
variable {N : Nat} {S : kS} {W : sW}
theorem app_get {α : Type} {l : List α} {p : α} : ∀ i (hi : i < (l ++ [p]).length), (∃ h2 : i < l.length, (l ++ [p])[i] = l[i]) ∨ (i = l.length ∧ (l ++ [p])[i] = p) := fun i hi => by
  rw [List.length_append, List.length_singleton] at hi
  by_cases g : i < l.length
  · exact Or.inl ⟨g, List.getElem_append_left g⟩
  · right
    have : i = l.length := by omega
    subst this
    exact ⟨rfl, by rw [List.getElem_append_right (Nat.le_refl _)]; simp⟩
theorem f_ok {H : sH} {P : List (Nat × Int × Int)} {K F : List Nat} {p : Nat × Int × Int} (h : fOk H P K) (hl : P.length < 15) (hF : F.length < 8) (hpre : ∀ k ∈ F, k ∈ K) (hp : pOk H P.length p) (hs : (p.1 ≤ 3 → F = K) ∧ (p.1 = 6 → K = F ++ [p.2.1.toNat]) ∧ (p.1 = 4 ∨ p.1 = 5 → K = F ++ [p.2.1.toNat, p.2.2.toNat])) : fOk H (P ++ [p]) (F ++ [P.length]) := by
  obtain ⟨f1, f2, f3, f4, σ, s0, s1, s2, s3⟩ := h
  have hlen : (P ++ [p]).length = P.length + 1 := by rw [List.length_append, List.length_singleton]
  refine ⟨by omega, by rw [List.length_append, List.length_singleton]; omega, fun k hk => ?_, fun i hi => ?_, upf σ (P.length + 1) (F ++ [P.length]), fun i => ?_, ?_, ?_, fun i hi => ?_⟩
  · rcases List.mem_append.mp hk with g | g
    · have := f3 k (hpre k g); omega
    · rw [List.mem_singleton] at g; omega
  · rcases app_get i hi with ⟨g1, g2⟩ | ⟨g1, g2⟩
    · rw [g2]; exact f4 i g1
    · rw [g2, g1]; exact hp
  · by_cases z : i = P.length + 1
    · rw [z, upf_s, List.length_append, List.length_singleton]; omega
    · rw [upf_o _ _ z]; exact s0 i
  · rw [upf_o _ _ (by omega)]; exact s1
  · rw [hlen, upf_s]
  · rcases app_get i hi with ⟨g1, g2⟩ | ⟨g1, g2⟩
    · rw [g2, upf_o _ _ (by omega), upf_o _ _ (by omega)]; exact s3 i g1
    · rw [g2, g1, upf_s, upf_o _ _ (by omega), s2]
      exact ⟨fun q => by rw [hs.1 q], fun q => ⟨F, hs.2.1 q, rfl⟩, fun q => ⟨F, hs.2.2 q, rfl⟩⟩
end O5
