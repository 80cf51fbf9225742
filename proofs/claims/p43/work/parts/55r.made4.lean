-- LEVEL 2, A CHANGE IS MADE: BY THE REFERENCE; A NEW CHANGE OF THE CLASS
/-- a new change of the class, not signed -/
theorem k_new {N : Nat} {S : kS} {W : sW} {c : sCh} {x y z : Int} (K : kRel S W) (hk0 : cK c ≠ 0) (h123 : 1 ≤ cK c → cK c ≤ 3 → x = cX c ∧ y = cY c) (h457 : cK c = 4 ∨ cK c = 5 ∨ cK c = 7 → x = cX c) (h6 : cK c = 6 → ∃ s p r : Nat, s < 55 ∧ p < 3 ∧ r < 2 ∧ cX c = ((6 * s + 2 * p + r : Nat) : Int) ∧ x = (((cE c * 3 + p) * 2 + r : Nat) : Int) ∧ y = sSub s ∧ z = cY c) : (∀ i, kE S i ≠ some (kn S)) ∧ ∃ S', pX0_init N (wN W) (zI (cK c : Nat)) (zI (cE c : Nat)) (zI x) (zI y) (zI z) (nU S) = some ((), S') ∧ kUns S' W c := by
  obtain ⟨k1, k2, k3, ⟨k4, k4b⟩, ⟨k5, k5b⟩, k6, k7, k8, k9, k10, k11, k12, k13⟩ := K
  refine ⟨fun i e => by have := k5.2.2.2.2 i _ e; omega, ?_⟩
  have hn : wN W < wN W + 1 := by omega
  have hkn : kn (nU S) = wN W + 1 := by rw [← k4]; rfl
  simp only [pX0_init, svk_i]
  have g : ∀ {β : Type} (Q : kS) (K : Option β), kn Q = wN W + 1 → gn (wN W) (kn Q) K = K := fun Q K hq => gn_l (by rw [hq]; omega)
  rw [g _ _ (by exact hkn), g _ _ (by exact hkn), g _ _ (by exact hkn), g _ _ (by exact hkn), g _ _ (by exact hkn)]
  generalize hS5 : sF (sF (sF (sF (sF (nU S) (wN W) 0 (zI (cK c : Nat))) (wN W) 1 (zI (cE c : Nat))) (wN W) 2 (zI x)) (wN W) 3 (zI y)) (wN W) 4 (zI z) = S5
  have F5 : ∀ r, kF S5 (wN W) r = if r = 4 then zI z else if r = 3 then zI y else if r = 2 then zI x else if r = 1 then zI (cE c : Nat) else if r = 0 then zI (cK c : Nat) else 0 := fun r => by
    rw [← hS5]
    show k2u (k2u (k2u (k2u (k2u (kF (nU S)) (wN W) 0 _) (wN W) 1 _) (wN W) 2 _) (wN W) 3 _) (wN W) 4 _ (wN W) r = _
    rw [k2u_s, k2u_s, k2u_s, k2u_s, k2u_s]
    have : kF (nU S) (wN W) r = 0 := by
      show (if wN W = kn S then (0 : Int32) else kF S (wN W) r) = 0
      rw [if_pos k4.symm]
    rw [this]
  have Fo : ∀ q, q ≠ wN W → kF S5 q = kF S q := fun q hq => by
    rw [← hS5]
    show k2u (k2u (k2u (k2u (k2u (kF (nU S)) (wN W) 0 _) (wN W) 1 _) (wN W) 2 _) (wN W) 3 _) (wN W) 4 _ q = _
    rw [k2u_o _ _ _ hq, k2u_o _ _ _ hq, k2u_o _ _ _ hq, k2u_o _ _ _ hq, k2u_o _ _ _ hq]
    funext r
    show (if q = kn S then (0 : Int32) else kF S q r) = _
    rw [if_neg (by omega)]
  have e1 : kI S5 = kI S := by rw [← hS5]; rfl
  have e2 : kA S5 = kA S := by rw [← hS5]; rfl
  have e3 : kL S5 = kL S := by rw [← hS5]; rfl
  have e4 : kJ S5 = kJ S := by rw [← hS5]; rfl
  have e5 : kn S5 = wN W + 1 := by rw [← hS5]; exact hkn
  have e6 : kC S5 = fun k => if k = kn S then none else kC S k := by rw [← hS5]; rfl
  have e7 : km S5 = km S := by rw [← hS5]; rfl
  have e8 : kl S5 = kl S := by rw [← hS5]; rfl
  have e9 : kx S5 = kx S := by rw [← hS5]; rfl
  have e10 : kp S5 = kp S := by rw [← hS5]; rfl
  have e11 : kE S5 = kE S := by rw [← hS5]; rfl
  have eC : ∀ k, k < wN W → kC S5 k = kC S k := fun k hk => by
    rw [e6]
    exact if_neg (by omega)
  refine ⟨S5, rfl, fr_hR k1 (fun q _ => by rw [e1]) (fun d _ => by rw [e2]), by rw [e1, e2]; exact k2, by unfold fcR at *; rw [e1, e2]; exact k3, ⟨e5, fun k hk => ?_, ?_⟩, ⟨?_, fun k j hj => ?_⟩, fun a ha => tdR_fr (by rw [e1]) (by rw [e2]) (k6 a ha), by rw [e1]; exact k7, by rw [e1]; exact k8, by rw [e3]; exact k9, by rw [e1]; exact k10, fun a ha => tR_other (fun q _ _ => by rw [e1]) (fun d _ _ => by rw [e2]) (fun d _ _ => by rw [e4]) (by rw [e3]) (by rw [e3]) (k11 a ha), by rw [e2]; exact k12, by rw [e1, e2]; exact k13⟩
  · have C := k4b k hk
    unfold cRS at C ⊢
    rw [Fo k (by omega), eC k hk, e7, e8, e9]
    exact ⟨by omega, C.2⟩
  · unfold cRS
    rw [e7, e8, e9]
    refine ⟨by omega, by rw [F5]; rfl, by rw [F5]; rfl, by rw [F5]; rfl, by rw [F5]; rfl, by rw [F5]; rfl, fun e => absurd e hk0, fun a b => ⟨?_, ?_⟩, fun a => ?_, fun a => ?_⟩
    · rw [F5]
      show zI x = zI (cX c)
      rw [(h123 a b).1]
    · rw [F5]
      show zI y = zI (cY c)
      rw [(h123 a b).2]
    · rw [F5]
      show zI x = zI (cX c)
      rw [h457 a]
    · obtain ⟨s, p, r, q1, q2, q3, q4, q5, q6, q7⟩ := h6 a
      refine ⟨s, p, r, q1, q2, q3, q4, ?_, ?_, ?_⟩
      · rw [F5]
        show zI x = _
        rw [q5]; rfl
      · rw [F5]
        show zI y = _
        rw [q6]
      · rw [F5]
        show zI z = zI (cY c)
        rw [q7]
  · obtain ⟨l1, l2, l3, l4, l5⟩ := k5
    exact ⟨by rw [e1]; exact l1, by rw [e10]; exact l2, by rw [e10]; exact l3, by rw [e11]; exact l4, fun i k hik => by
      rw [e11] at hik
      have := l5 i k hik
      omega⟩
  · rw [e6] at hj
    have hj : (if k = kn S then none else kC S k) = some j := hj
    split at hj
    · cases hj
    · rw [e7]; exact k5b k j hj

