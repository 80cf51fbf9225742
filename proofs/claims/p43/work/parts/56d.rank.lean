-- LEVEL 2, CHILDREN BY NAMES ARE SCRATCH
theorem kRel_2 {S S' : kS} {W : sW} {m : Nat} (hm : m < 4) (K : kRel S W) (f : frN m 2 S S') : kRel S' W := by
  obtain ⟨k1, ⟨k2, k3⟩, ⟨k4, k5, k6⟩, ⟨k7, k7b⟩, ⟨k8, k9⟩, k10, k11, k12, k13, k14, k15, k16, ⟨k17, k18⟩⟩ := K
  obtain ⟨d1, d2, d3, d4, d5, d6, d7, d8⟩ := kD_eq f.2.2.2.2
  have u : ∀ q, q < 40 → kI S' q = kI S q := fun q hq => f.2.2.2.1 q (by omega)
  have a : ∀ c, c < 26 → kA S' c = kA S c := fun c hc => f.1 c (by omega)
  exact ⟨fr_hR k1 (fun q hq => u q (by omega)) (fun c hc => a c (by omega)), ⟨by rw [u _ (by omega)]; exact k2, by rw [a _ (by omega)]; exact k3⟩, ⟨by rw [u _ (by omega)]; exact k4, by rw [u _ (by omega)]; exact k5, by rw [a _ (by omega), a _ (by omega), a _ (by omega)]; exact k6⟩, ⟨by rw [d1]; exact k7, fun k hk => cRS_D f.2.2.2.2 (k7b k hk)⟩, ⟨lgR_fr (u _ (by omega)) f.2.2.2.2 k8, by rw [d3, d4]; exact k9⟩, fun j hj => tdR_fr (u _ (by omega)) (a _ (by omega)) (k10 j hj), fun j hj => by rw [u _ (by omega)]; exact k11 j hj, fun j hj => by rw [u _ (by omega)]; exact k12 j hj, fun j e hj he => by rw [f.2.2.1]; exact k13 j e hj he, by rw [u _ (by omega)]; exact k14, fun j hj => by
    by_cases q : j = m
    · subst q; exact tR_f2 f (k15 j hj)
    · exact tR_fr (frN_t f (by omega)) q (k15 j hj), by rw [f.1 _ (by omega)]; exact k16, ⟨by rw [u _ (by omega)]; exact k17, by rw [a _ (by omega)]; exact k18⟩⟩

