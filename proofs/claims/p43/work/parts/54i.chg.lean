-- LEVEL 2, CHANGES
/-- the subject that the class keeps -/
def sSub (s : Nat) : Int := if s < 6 then s else if s < 54 then 100 + (s : Int) - 6 else -1
/-- the class's change k is c -/
def cRS (S : kS) (k : Nat) (c : sCh) : Prop := k < kn S ∧ kF S k 0 = zI (cK c : Nat) ∧ kF S k 1 = zI (cE c : Nat) ∧ kF S k 6 = zI (cM c : Nat) ∧ kF S k 7 = zI (cN c : Nat) ∧ kF S k 8 = zI (cS c : Nat) ∧
  (cK c = 0 → kF S k 2 = zI (cY c) ∧ kF S k 3 = zI (cX c) ∧ kF S k 4 = zI (cW c) ∧ ∃ j, kC S k = some j ∧ j < km S ∧ kl S j = (cV c).length ∧ ∀ i (h : i < (cV c).length), kx S j i = zI (((cV c)[i].1 * 1000 + (cV c)[i].2 : Nat) : Int)) ∧
  (1 ≤ cK c → cK c ≤ 3 → kF S k 2 = zI (cX c) ∧ kF S k 3 = zI (cY c)) ∧ (cK c = 4 ∨ cK c = 5 ∨ cK c = 7 → kF S k 2 = zI (cX c)) ∧
  (cK c = 6 → ∃ s p r : Nat, s < 55 ∧ p < 3 ∧ r < 2 ∧ cX c = ((6 * s + 2 * p + r : Nat) : Int) ∧ kF S k 2 = zI (((cE c * 3 + p) * 2 + r : Nat) : Int) ∧ kF S k 3 = zI (sSub s) ∧ kF S k 4 = zI (cY c))
/-- a change is in order -/
def cOk (c : sCh) : Prop := cK c ≤ 8 ∧ cE c < 48 ∧ cM c < 4 ∧ cN c < 250 ∧ cS c ≤ 250 ∧
  (cK c = 0 → 1 ≤ cE c ∧ 0 ≤ cX c ∧ cX c < 8 ∧ 0 ≤ cY c ∧ cY c < 48 ∧ 0 ≤ cW c ∧ cW c < 100 ∧ (∀ x ∈ cV c, x.1 < 10 ∧ x.2 < 1000) ∧ (cV c).length ≤ 12) ∧
  (1 ≤ cK c → cK c ≤ 3 → 0 ≤ cX c ∧ cX c < 10 ∧ 0 ≤ cY c ∧ cY c < 1000) ∧ (cK c = 4 → 0 ≤ cX c ∧ cX c < 100) ∧ (cK c = 5 → -1 ≤ cX c ∧ cX c < 104) ∧
  (cK c = 6 → 0 ≤ cX c ∧ cX c < 330 ∧ 0 ≤ cY c ∧ cY c ≤ 2) ∧ (cK c = 7 → 0 ≤ cX c ∧ cX c < 48) ∧ (cK c = 8 → 1 ≤ cE c)
def frT (t : Nat) (S S' : kS) : Prop := (∀ c, (c < 26 + 15 * t ∨ 26 + 15 * t + 14 < c) → kA S' c = kA S c) ∧ (∀ c, (c < 26 + 15 * t ∨ 26 + 15 * t + 14 < c) → kJ S' c = kJ S c) ∧ (∀ q, q ≠ 8 + 2 * t → q ≠ 9 + 2 * t → kL S' q = kL S q) ∧ (∀ q, (q < 40 + 3 * t ∨ 42 + 3 * t < q) → kI S' q = kI S q) ∧ S'.2.2.2.2 = S.2.2.2.2
theorem frT.rf {t : Nat} {S : kS} : frT t S S := ⟨fun _ _ => rfl, fun _ _ => rfl, fun _ _ _ => rfl, fun _ _ => rfl, rfl⟩
theorem frT.trans {t : Nat} {S S' S2 : kS} (h : frT t S S') (h2 : frT t S' S2) : frT t S S2 :=
  ⟨fun c h3 => (h2.1 c h3).trans (h.1 c h3), fun c h3 => (h2.2.1 c h3).trans (h.2.1 c h3), fun q h3 h4 => (h2.2.2.1 q h3 h4).trans (h.2.2.1 q h3 h4), fun q h3 => (h2.2.2.2.1 q h3).trans (h.2.2.2.1 q h3), h2.2.2.2.2.trans h.2.2.2.2⟩
theorem frV.t {t : Nat} {S S' : kS} (h : frV t S S') : frT t S S' :=
  ⟨fun c h3 => h.1 c (by omega) (by omega), fun c _ => by rw [h.2.1], fun q _ _ => by rw [h.2.2.1], fun q h3 => h.2.2.2.1 q (by omega) (by omega), h.2.2.2.2⟩
theorem fr_sA {t c j : Nat} {S : kS} {v : Int32} (h1 : 26 + 15 * t ≤ c) (h2 : c ≤ 26 + 15 * t + 14) : frT t S (sA S c j v) :=
  ⟨fun d h3 => kA_sA_o S j v (by omega), fun _ _ => rfl, fun _ _ _ => rfl, fun _ _ => rfl, rfl⟩
theorem fr_sJ {t c j : Nat} {S : kS} {v : Int64} (h1 : 26 + 15 * t ≤ c) (h2 : c ≤ 26 + 15 * t + 14) : frT t S (sJ S c j v) :=
  ⟨fun _ _ => rfl, fun d h3 => kJ_sJ_o S j v (by omega), fun _ _ _ => rfl, fun _ _ => rfl, rfl⟩
theorem fr_sL {t k : Nat} {S : kS} {v : Int64} (h1 : k = 8 + 2 * t ∨ k = 9 + 2 * t) : frT t S (sL S k v) :=
  ⟨fun _ _ => rfl, fun _ _ => rfl, fun q h3 h4 => updL_o _ v (by omega), fun _ _ => rfl, rfl⟩
/-- the schema and the changes don't lie in a tree -/
theorem frT_hR {t : Nat} {S S' : kS} {H : sH} (h : frT t S S') (R : hR S H) : hR S' H := fr_hR R (fun q hq => h.2.2.2.1 q (by omega)) (fun c hc => h.1 c (by omega))
theorem kD_eq {S S' : kS} (h : S'.2.2.2.2 = S.2.2.2.2) : kn S' = kn S ∧ kF S' = kF S ∧ kC S' = kC S ∧ km S' = km S ∧ kl S' = kl S ∧ kx S' = kx S ∧ kp S' = kp S ∧ kE S' = kE S := by
  unfold kn kF kC km kl kx kp kE
  rw [h]
  exact ⟨rfl, rfl, rfl, rfl, rfl, rfl, rfl, rfl⟩
theorem cRS_D {S S' : kS} {k : Nat} {c : sCh} (h : S'.2.2.2.2 = S.2.2.2.2) (R : cRS S k c) : cRS S' k c := by
  obtain ⟨e1, e2, e3, e4, e5, e6, e7, e8⟩ := kD_eq h
  unfold cRS at *
  rw [e1, e2, e3, e4, e5, e6]
  exact R
/-- other trees stay -/
theorem tR_fr {t u : Nat} {S S' : kS} {T : sT} (h : frT u S S') (htu : t ≠ u) (R : tR S t T) : tR S' t T := by
  obtain ⟨r1, r2, r3, r4, r5, r6, r7, r8, r9, l1, l2, n1, n2, p1, p2⟩ := R
  have hA : ∀ k, k < 15 → kA S' (26 + 15 * t + k) = kA S (26 + 15 * t + k) := fun k hk => h.1 _ (by omega)
  have hJ : ∀ k, k < 15 → kJ S' (26 + 15 * t + k) = kJ S (26 + 15 * t + k) := fun k hk => h.2.1 _ (by omega)
  refine ⟨by rw [hA 1 (by omega)]; exact r1, by rw [hA 2 (by omega)]; exact r2, by rw [hA 3 (by omega)]; exact r3, by rw [hA 4 (by omega)]; exact r4, by rw [hA 5 (by omega)]; exact r5, by rw [h.2.2.1 _ (by omega) (by omega)]; exact r6, by rw [h.2.2.1 _ (by omega) (by omega)]; exact r7, by rw [hJ 7 (by omega), hJ 8 (by omega)]; exact r8, by rw [hJ 7 (by omega), hJ 8 (by omega)]; exact r9, l1, l2, ?_, ?_, p1, p2⟩
  · obtain ⟨q1, q2, q3, q4, q5⟩ := n1
    exact ⟨by rw [h.2.2.2.1 _ (by omega)]; exact q1, by rw [show 26 + 15 * t + 10 + 2 * 0 = 26 + 15 * t + 10 from rfl, hA 10 (by omega)]; exact q2, q3, q4, q5⟩
  · obtain ⟨q1, q2, q3, q4, q5⟩ := n2
    exact ⟨by rw [h.2.2.2.1 _ (by omega)]; exact q1, by rw [show 26 + 15 * t + 10 + 2 * 1 = 26 + 15 * t + 12 from rfl, hA 12 (by omega)]; exact q2, q3, q4, q5⟩
theorem tR_vRs {t : Nat} {S : kS} {T : sT} (R : tR S t T) : vRs S t (tVs T) := by
  obtain ⟨-, -, -, -, -, -, -, -, -, l1, l2, n1, n2, p1, p2⟩ := R
  exact ⟨l1, l2, ⟨n1, n2, p2⟩, p1⟩
/-- other values -/
theorem tR_setV {t : Nat} {S S' : kS} {T : sT} {vs : List (Nat × Nat × Nat)} (R : tR S t T) (f : frV t S S') (V : vRs S' t vs) : tR S' t (tMk (tTh T) (tDd T) (tKl T) (tPa T) (tNm T) (tLk T) (tBn T) vs (tSy T)) := by
  obtain ⟨r1, r2, r3, r4, r5, r6, r7, r8, r9, -⟩ := R
  obtain ⟨l1, l2, ⟨n1, n2, p2⟩, p1⟩ := V
  refine ⟨by rw [f.1 _ (by omega) (by omega)]; exact r1, by rw [f.1 _ (by omega) (by omega)]; exact r2, by rw [f.1 _ (by omega) (by omega)]; exact r3, by rw [f.1 _ (by omega) (by omega)]; exact r4, by rw [f.1 _ (by omega) (by omega)]; exact r5, by rw [f.2.2.1]; exact r6, by rw [f.2.2.1]; exact r7, by rw [f.2.1]; exact r8, by rw [f.2.1]; exact r9, l1, l2, n1, n2, p1, p2⟩

