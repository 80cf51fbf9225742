-- LEVEL 2, THE CALL ADD: THE CHANGE IS MADE
/-- the state without drafted values -/
def wNo (W : sW) : sW := wMk (wH W) [] (wP W) (wK W) (wC W) (wN W) (wO W) (wT W) (wX W) (wU W) (wE W) (wF W)
/-- the state with the new entry -/
def wAd (W : sW) (m : Nat) (c : sCh) : sW := wMk (wH W) [] (wP W) (wK W) (upf (wC W) (wN W) c) (wN W + 1) (ins (wO W) (plc (wC W) (wO W) (cR c)) (wN W)) (tNx (wT W) m) (wX W) (wU W) (wE W + 1) (wF W)
def wChA (W : sW) (m : Nat) (k p nm : Int) : sCh := (0, wE W, k, p, nm, wD W, m, wT W m m m, gst (wT W m) m (wC W) (wN W) + 1)
section AD
variable {N : Nat} {S : kS} {W : sW}
theorem wNo_ok (h : wOk W) : wOk (wNo W) := by
  obtain ⟨o1, o2, o3, o4, o5, o6, o7, o8⟩ := h
  exact ⟨o1, ⟨by show ([] : List (Nat × Nat)).length ≤ 12; exact Nat.zero_le _, fun x hx => absurd hx List.not_mem_nil⟩, o3, o4, o5, o6, o7, o8⟩
theorem mk_add (h : wOk W) {m : Nat} {k p nm : Int} (hm : m < 4) (hn : wN W < 250) (hE : wE W < 48) (hk : 0 ≤ k ∧ k < (hC (wH W) : Int)) (hp : 0 ≤ p ∧ p < 48) (hpt : tTh (wTr W m) p.toNat = true) (hnm : 0 ≤ nm ∧ nm < 100) : mkOk (wH W) (wC W) (wN W) (wE W) m (wO W) (wT W) (wChA W m k p nm) := by
  have g := h.2.2.2.1
  have T := h.2.2.2.2.1
  have h10 := h.1.1
  have h8 := h.1.2.1
  have hE1 := h.2.2.2.2.2.2.1
  have ht : wT W m m m < 250 := by
    have := (T m m m hm hm hm).2.2
    have := nMk_le (cs := wC W) (j := m) (wN W)
    omega
  have hg : gst (wT W m) m (wC W) (wN W) ≤ wN W := gst_le _ (fun k hk _ => by have := (g.2.2.2.2.2.2.2.2.1 k hk).2; omega)
  have hpe := th_lt h hpt
  refine ⟨⟨by show 0 ≤ 8; omega, by show wE W < 48; exact hE, hm, ht, by show gst (wT W m) m (wC W) (wN W) + 1 ≤ 250; omega, fun _ => ⟨hE1.1, hk.1, by show k < 8; omega, hp.1, hp.2, hnm.1, hnm.2, fun x hx => ⟨by have := (h.2.1.2 x hx).1; omega, (h.2.1.2 x hx).2⟩, h.2.1.1⟩, fun a _ => absurd a (by show ¬ 1 ≤ 0; omega), fun a => absurd a (by show ¬ 0 = 4; omega), fun a => absurd a (by show ¬ 0 = 5; omega), fun a => absurd a (by show ¬ 0 = 6; omega), fun a => absurd a (by show ¬ 0 = 7; omega), fun a => absurd a (by show ¬ 0 = 8; omega)⟩, rfl, rfl, rfl, ?_, fun _ => ⟨rfl, hpt⟩, fun a => absurd a (by show ¬ 0 = 7; omega)⟩
  rw [if_pos (show cK (wChA W m k p nm) = 0 from rfl)]
  refine ⟨by show wE W < wE W + 1; omega, fun _ => ⟨hk.2, ?_, fun x hx => (h.2.1.2 x hx).1⟩, fun a _ => absurd a (by show ¬ 1 ≤ 0; omega), fun a => absurd a (by show ¬ 0 = 7; omega)⟩
  show p < ((wE W + 1 : Nat) : Int)
  omega
theorem wAd_ok (h : wOk W) {m : Nat} {c : sCh} (hm : m < 4) (hn : wN W < 250) (hE : wE W < 48) (hc : cK c = 0) (c0 : mkOk (wH W) (wC W) (wN W) (wE W) m (wO W) (wT W) c) : wOk (wAd W m c) := by
  obtain ⟨o1, o2, o3, o4, o5, o6, o7, o8⟩ := h
  have g := gc_new hm hn o7.1 o4 o5 c0
  rw [if_pos hc] at g
  exact ⟨o1, ⟨by show ([] : List (Nat × Nat)).length ≤ 12; exact Nat.zero_le _, fun x hx => absurd hx List.not_mem_nil⟩, o3, g, tl_new hm o5 c0.2.1, o6, ⟨by show 1 ≤ wE W + 1; omega, by show wE W + 1 ≤ 48; omega⟩, o8⟩
theorem dK_of (K : kRel S W) : dK S (wD W) := ⟨K.2.1.1, fun i hi => by
  rw [(d_at hi).1, (d_at hi).2]
  exact K.2.1.2 i hi⟩
theorem dIn_of (h : wOk W) : dIn (wH W) (wD W) := ⟨h.2.1.1, fun i hi => by
  rw [(d_at hi).1, (d_at hi).2]
  exact h.2.1.2 _ (List.getElem_mem hi)⟩
/-- the class: a row of codes is made -/
theorem q_copy {D : List (Nat × Nat)} (K : dK S D) (hl : D.length ≤ 12) (hC0 : ∀ k, kC S k ≠ some (km S)) : ∃ f : Nat → Int32, pJ7_copyOf_59c91 N (kI S 5) S = some (.inl (km S), nV S D.length f) ∧ ∀ i, i < D.length → f i = zI ((dA D i * 1000 + dV D i : Nat) : Int) := by
  have gv : ∀ {γ : Type} (A : Option γ), gVn S A = A := fun A => if_pos hC0
  unfold pJ7_copyOf_59c91
  rw [K.1]
  by_cases q : D.length = 12
  · rw [if_pos (show zI (D.length : Nat) = (12 : Int32) by rw [q]; rfl), gv]
    exact ⟨kA S 6, by rw [q], K.2⟩
  · have n1 : ¬ zI (D.length : Nat) = (12 : Int32) := by
      rw [zL_12, zI_eq (by omega) (by omega) (by omega) (by omega)]
      omega
    have n2 : ¬ cpI (zI (D.length : Nat)) := by
      show ¬ (zI (D.length : Nat) < (0 : Int32) ∨ ¬ zI (D.length : Nat) < (12 : Int32) ∨ 12 < (zI (D.length : Nat)).toNatClampNeg)
      rw [zL_0, zI_cn (by omega), zI_lt (by omega) (by omega) (by omega) (by omega), zL_12, zI_lt (by omega) (by omega) (by omega) (by omega)]
      omega
    rw [if_neg n1, if_neg n2, gv, zI_cn (by omega)]
    refine ⟨_, rfl, fun i hi => ?_⟩
    unfold va_cpy
    rw [if_pos (by omega), show 0 + (i - 0) = i by omega]
    exact K.2 i hi
theorem k_newA {c : sCh} (h : wOk W) (K : kRel S W) (hk0 : cK c = 0) (hE : cE c = wE W) (hV : cV c = wD W) : (∀ i, kE S i ≠ some (kn S)) ∧ ∃ S5 S9 j, pX0_init N (wN W) (0 : Int32) (zI (wE W : Nat)) (zI (cY c)) (zI (cX c)) (zI (cW c)) (nU S) = some ((), S5) ∧ kn S5 = wN W + 1 ∧ pX1_take N S5 = some (.inl j, S9) ∧ kn S9 = wN W + 1 ∧ kUns (sC S9 (wN W) j) (wNo W) c := by
  have dk := dK_of K
  obtain ⟨k1, k2, k3, ⟨k4, k4b⟩, ⟨k5, k5b⟩, k6, k7, k8, k9, k10, k11, k12, k13⟩ := K
  refine ⟨fun i e => by have := k5.2.2.2.2 i _ e; omega, ?_⟩
  have hkn : kn (nU S) = wN W + 1 := by rw [← k4]; rfl
  simp only [pX0_init, svk_i]
  have g : ∀ {β : Type} (Q : kS) (K : Option β), kn Q = wN W + 1 → gn (wN W) (kn Q) K = K := fun Q K hq => gn_l (by rw [hq]; omega)
  rw [g _ _ (by exact hkn), g _ _ (by exact hkn), g _ _ (by exact hkn), g _ _ (by exact hkn), g _ _ (by exact hkn)]
  generalize hS5 : sF (sF (sF (sF (sF (nU S) (wN W) 0 (0 : Int32)) (wN W) 1 (zI (wE W : Nat))) (wN W) 2 (zI (cY c))) (wN W) 3 (zI (cX c))) (wN W) 4 (zI (cW c)) = S5
  have F5 : ∀ r, kF S5 (wN W) r = if r = 4 then zI (cW c) else if r = 3 then zI (cX c) else if r = 2 then zI (cY c) else if r = 1 then zI (wE W : Nat) else if r = 0 then 0 else 0 := fun r => by
    rw [← hS5]
    show k2u (k2u (k2u (k2u (k2u (kF (nU S)) (wN W) 0 _) (wN W) 1 _) (wN W) 2 _) (wN W) 3 _) (wN W) 4 _ (wN W) r = _
    rw [k2u_s, k2u_s, k2u_s, k2u_s, k2u_s]
    have : kF (nU S) (wN W) r = 0 := by
      show (if wN W = kn S then (0 : Int32) else kF S (wN W) r) = 0
      rw [if_pos k4.symm]
    rw [this]
  have Fo : ∀ q, q ≠ wN W → kF S5 q = kF S q := fun q hq => by
    rw [← hS5]
    show k2u (k2u (k2u (k2u (k2u (kF (nU S)) (wN W) 0 _) (wN W) 1 _) (wN W) 2 _) (wN W) 3 _) (wN W) 4 _ q = _
    rw [k2u_o _ _ _ hq, k2u_o _ _ _ hq, k2u_o _ _ _ hq, k2u_o _ _ _ hq, k2u_o _ _ _ hq]
    funext r
    show (if q = kn S then (0 : Int32) else kF S q r) = _
    rw [if_neg (by omega)]
  have e1 : kI S5 = kI S := by rw [← hS5]; rfl
  have e2 : kA S5 = kA S := by rw [← hS5]; rfl
  have e3 : kL S5 = kL S := by rw [← hS5]; rfl
  have e4 : kJ S5 = kJ S := by rw [← hS5]; rfl
  have e5 : kn S5 = wN W + 1 := by rw [← hS5]; exact hkn
  have e6 : kC S5 = fun k => if k = kn S then none else kC S k := by rw [← hS5]; rfl
  have e7 : km S5 = km S := by rw [← hS5]; rfl
  have e8 : kl S5 = kl S := by rw [← hS5]; rfl
  have e9 : kx S5 = kx S := by rw [← hS5]; rfl
  have e10 : kp S5 = kp S := by rw [← hS5]; rfl
  have e11 : kE S5 = kE S := by rw [← hS5]; rfl
  have eC : ∀ k, k ≠ wN W → kC S5 k = kC S k := fun k hk => by
    rw [e6]
    exact if_neg (by omega)
  have hC5 : ∀ k, kC S5 k ≠ some (km S5) := fun k hk => by
    rw [e6] at hk
    have hk : (if k = kn S then none else kC S k) = some (km S5) := hk
    split at hk
    · cases hk
    · have := k5b k _ hk
      omega
  have dk5 : dK S5 (wD W) := ⟨by rw [e1]; exact dk.1, fun i hi => by rw [e2]; exact dk.2 i hi⟩
  obtain ⟨f, q1, q2⟩ := q_copy (N := N) dk5 h.2.1.1 hC5
  refine ⟨S5, sI (nV S5 (wD W).length f) 5 0, km S5, rfl, e5, ?_, e5, ?_⟩
  · simp only [pX1_take, svk_i]
    rw [q1, bx_l]
  generalize hS9 : sC (sI (nV S5 (wD W).length f) 5 0) (wN W) (km S5) = S9
  have i1 : kI S9 = upd (kI S) 5 0 := by rw [← hS9, ← e1]; rfl
  have i2 : kA S9 = kA S := by rw [← hS9, ← e2]; rfl
  have i3 : kL S9 = kL S := by rw [← hS9, ← e3]; rfl
  have i4 : kJ S9 = kJ S := by rw [← hS9, ← e4]; rfl
  have i5 : kn S9 = wN W + 1 := by rw [← hS9, ← e5]; rfl
  have i6 : kC S9 = fun q => if q = wN W then some (km S5) else kC S5 q := by rw [← hS9]; rfl
  have i7 : km S9 = km S + 1 := by rw [← hS9, ← e7]; rfl
  have i8 : kl S9 = va_up (kl S) (km S) (wD W).length := by rw [← hS9, ← e8, ← e7]; rfl
  have i9 : kx S9 = va_up (kx S) (km S) f := by rw [← hS9, ← e9, ← e7]; rfl
  have i10 : kp S9 = kp S := by rw [← hS9, ← e10]; rfl
  have i11 : kE S9 = kE S := by rw [← hS9, ← e11]; rfl
  have i12 : kF S9 = kF S5 := by rw [← hS9]; rfl
  have u : ∀ q, q ≠ 5 → kI S9 q = kI S q := fun q hq => by rw [i1, upd_o _ _ hq]
  refine ⟨fr_hR k1 (fun q hq => u q (by omega)) (fun d _ => by rw [i2]), ⟨by rw [i1, upd_s]; rfl, fun i hi => absurd hi (Nat.not_lt_zero i)⟩, ⟨by rw [u _ (by omega)]; exact k3.1, by rw [u _ (by omega)]; exact k3.2.1, by rw [i2]; exact k3.2.2⟩, ⟨i5, fun k hk => ?_, ?_⟩, ⟨?_, fun k j hj => ?_⟩, fun a ha => tdR_fr (u _ (by omega)) (by rw [i2]) (k6 a ha), fun a ha => by rw [u _ (by omega)]; exact k7 a ha, fun a ha => by rw [u _ (by omega)]; exact k8 a ha, by rw [i3]; exact k9, by rw [u _ (by omega)]; exact k10, fun a ha => tR_other (fun q _ _ => u q (by omega)) (fun d _ _ => by rw [i2]) (fun d _ _ => by rw [i4]) (by rw [i3]) (by rw [i3]) (k11 a ha), by rw [i2]; exact k12, ⟨by rw [u _ (by omega)]; exact k13.1, by rw [i2]; exact k13.2⟩⟩
  · have hk : k < wN W := hk
    have C := k4b k hk
    show cRS S9 k (wC W k)
    obtain ⟨c1, c2, c3, c4, c5, c6, c7, c8⟩ := C
    have ek : kF S9 k = kF S k := by rw [i12]; exact Fo k (by omega)
    have ec : kC S9 k = kC S k := by
      rw [i6]
      show (if k = wN W then some (km S5) else kC S5 k) = _
      rw [if_neg (by omega), eC k (by omega)]
    refine ⟨by omega, by rw [ek]; exact c2, by rw [ek]; exact c3, by rw [ek]; exact c4, by rw [ek]; exact c5, by rw [ek]; exact c6, fun z => ?_, by rw [ek]; exact c8⟩
    obtain ⟨z1, z2, z3, j, z4, z5, z6, z7⟩ := c7 z
    rw [ek, ec, i7, i8, i9]
    refine ⟨z1, z2, z3, j, z4, by omega, ?_, fun i hi => ?_⟩
    · show (if j = km S then (wD W).length else kl S j) = _
      rw [if_neg (by omega)]
      exact z6
    · show (if j = km S then f else kx S j) i = _
      rw [if_neg (by omega)]
      exact z7 i hi
  · show cRS S9 (wN W) (cSg c 0 0 0)
    refine ⟨by omega, ?_, ?_, ?_, ?_, ?_, fun _ => ⟨?_, ?_, ?_, km S5, ?_, by omega, ?_, fun i hi => ?_⟩, fun a _ => ?_, fun a => ?_, fun a => ?_⟩
    · rw [i12, F5]; show (0 : Int32) = zI (cK c : Nat); rw [hk0]; rfl
    · rw [i12, F5]; show zI (wE W : Nat) = zI (cE c : Nat); rw [hE]
    · rw [i12, F5]; rfl
    · rw [i12, F5]; rfl
    · rw [i12, F5]; rfl
    · rw [i12, F5]; rfl
    · rw [i12, F5]; rfl
    · rw [i12, F5]; rfl
    · rw [i6]
      show (if wN W = wN W then some (km S5) else kC S5 (wN W)) = _
      rw [if_pos rfl]
    · rw [i8, e7]
      show (if km S = km S then (wD W).length else kl S (km S)) = (cV c).length
      rw [if_pos rfl, hV]
    · have hi : i < (cV c).length := hi
      have hi2 : i < (wD W).length := by rw [← hV]; exact hi
      rw [i9, e7]
      show (if km S = km S then f else kx S (km S)) i = zI (((cV c)[i].1 * 1000 + (cV c)[i].2 : Nat) : Int)
      have eg : (cV c)[i] = (wD W)[i] := List.getElem_of_eq hV hi
      rw [if_pos rfl, q2 i hi2, (d_at hi2).1, (d_at hi2).2, eg]
    · have a : 1 ≤ cK c := a
      omega
    · have a : cK c = 4 ∨ cK c = 5 ∨ cK c = 7 := a
      omega
    · have a : cK c = 6 := a
      omega
  · obtain ⟨l1, l2, l3, l4, l5⟩ := k5
    exact ⟨by rw [u _ (by omega)]; exact l1, by rw [i10]; exact l2, by rw [i10]; exact l3, by rw [i11]; exact l4, fun i k hik => by
      rw [i11] at hik
      have := l5 i k hik
      omega⟩
  · rw [i6] at hj
    have hj : (if k = wN W then some (km S5) else kC S5 k) = some j := hj
    rw [i7]
    split at hj
    · have := Option.some.inj hj
      omega
    · rw [eC k (by assumption)] at hj
      have := k5b k j hj
      omega
end AD
