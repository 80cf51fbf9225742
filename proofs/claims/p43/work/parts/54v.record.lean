-- LEVEL 2, A CHANGE IS SIGNED AND RECORDED
def cSg (c : sCh) (m n s : Nat) : sCh := (cK c, cE c, cX c, cY c, cW c, cV c, m, n, s)
theorem k2u_s {α : Type} (f : Nat → Nat → α) (i j : Nat) (v : α) (r : Nat) : k2u f i j v i r = if r = j then v else f i r := if_pos rfl
theorem k2u_o {α : Type} (f : Nat → Nat → α) {i q : Nat} (j : Nat) (v : α) (h : q ≠ i) : k2u f i j v q = f q := by
  funext r
  exact if_neg h
def frS (m k : Nat) (S S' : kS) : Prop := (∀ q, q ≠ 18 + 4 * m → kI S' q = kI S q) ∧ (∀ c, c ≠ 19 + 2 * m → kA S' c = kA S c) ∧ kL S' = kL S ∧ kJ S' = kJ S ∧ kn S' = kn S ∧ (∀ q, q ≠ k → kF S' q = kF S q) ∧ kC S' = kC S ∧ km S' = km S ∧ kl S' = kl S ∧ kx S' = kx S ∧ kp S' = kp S ∧ kE S' = kE S
theorem cRS_F {S S' : kS} {q : Nat} {c : sCh} (h1 : kn S' = kn S) (h2 : kF S' q = kF S q) (h3 : kC S' = kC S) (h4 : km S' = km S) (h5 : kl S' = kl S) (h6 : kx S' = kx S) (R : cRS S q c) : cRS S' q c := by
  unfold cRS at *
  rw [h1, h2, h3, h4, h5, h6]
  exact R
theorem lgR_S {S S' : kS} {o : List Nat} (h1 : kI S' 12 = kI S 12) (h2 : kn S' = kn S) (h3 : kp S' = kp S) (h4 : kE S' = kE S) (R : lgR S o) : lgR S' o := by
  unfold lgR at *
  rw [h1, h2, h3, h4]
  exact R
section QG
variable {N : Nat} {S : kS} {m k : Nat} {tl : Nat → Nat → Nat} {c : sCh} {g : Nat}
theorem q_sign (hm : m < 4) (R : tdR S m tl) (hg : kI S (18 + 4 * m) = zI (g : Nat)) (hg2 : g < 250) (C : cRS S k c) (hc : cOk (cSg c m (tl m m) (g + 1))) : ∃ S', pX4_sign N m k S = some ((), S') ∧ cRS S' k (cSg c m (tl m m) (g + 1)) ∧ tdR S' m (up2 tl m m (tl m m + 1)) ∧ kI S' (18 + 4 * m) = zI ((g + 1 : Nat) : Int) ∧ frS m k S S' := by
  obtain ⟨c0, c1, c2, c3, c4, c5, c6, c7, c8, c9⟩ := id C
  simp only [pX4_sign]
  rw [gn_l c0, svk_i, R.1]
  have R1 : tdR (sF S k 6 (zI (m : Nat))) m tl := tdR_fr rfl rfl R
  rw [R1.1, q_toldOf R1 hm hm, bk_i, gn_l (by exact c0), svk_i, gn_l (by exact c0), svk_i]
  have hg1 : kI (sF (sF S k 6 (zI (m : Nat))) k 7 (zI (tl m m : Nat))) (18 + 4 * m) = zI (g : Nat) := hg
  rw [hg1, zL_1, zI_add, show (g : Int) + 1 = ((g + 1 : Nat) : Int) by omega]
  generalize hS3 : sF (sF (sF S k 6 (zI (m : Nat))) k 7 (zI (tl m m : Nat))) k 8 (zI ((g + 1 : Nat) : Int)) = S3
  have F3 : ∀ r, kF S3 k r = if r = 8 then zI ((g + 1 : Nat) : Int) else if r = 7 then zI (tl m m : Nat) else if r = 6 then zI (m : Nat) else kF S k r := fun r => by
    rw [← hS3]
    show k2u (k2u (k2u (kF S) k 6 _) k 7 _) k 8 _ k r = _
    rw [k2u_s, k2u_s, k2u_s]
  have Fo : ∀ q, q ≠ k → kF S3 q = kF S q := fun q hq => by
    rw [← hS3]
    show k2u (k2u (k2u (kF S) k 6 _) k 7 _) k 8 _ q = _
    rw [k2u_o _ _ _ hq, k2u_o _ _ _ hq, k2u_o _ _ _ hq]
  have e1 : kI S3 = kI S := by rw [← hS3]; rfl
  have e2 : kA S3 = kA S := by rw [← hS3]; rfl
  have e3 : kL S3 = kL S := by rw [← hS3]; rfl
  have e4 : kJ S3 = kJ S := by rw [← hS3]; rfl
  have e5 : kn S3 = kn S := by rw [← hS3]; rfl
  have e6 : kC S3 = kC S := by rw [← hS3]; rfl
  have e7 : km S3 = km S := by rw [← hS3]; rfl
  have e8 : kl S3 = kl S := by rw [← hS3]; rfl
  have e9 : kx S3 = kx S := by rw [← hS3]; rfl
  have e10 : kp S3 = kp S := by rw [← hS3]; rfl
  have e11 : kE S3 = kE S := by rw [← hS3]; rfl
  have f0 : ∀ r, r < 6 → kF S3 k r = kF S k r := fun r hr => by
    rw [F3, if_neg (by omega), if_neg (by omega), if_neg (by omega)]
  have C3 : cRS S3 k (cSg c m (tl m m) (g + 1)) := by
    refine ⟨by rw [e5]; exact c0, by rw [f0 0 (by omega)]; exact c1, by rw [f0 1 (by omega)]; exact c2, by rw [F3]; rfl, by rw [F3]; rfl, by rw [F3]; rfl, fun h => ?_, fun h1 h2 => ?_, fun h => ?_, fun h => ?_⟩
    · obtain ⟨q1, q2, q3, j, q4, q5, q6, q7⟩ := c6 h
      exact ⟨by rw [f0 2 (by omega)]; exact q1, by rw [f0 3 (by omega)]; exact q2, by rw [f0 4 (by omega)]; exact q3, j, by rw [e6]; exact q4, by rw [e7]; exact q5, by rw [e8]; exact q6, by rw [e9]; exact q7⟩
    · obtain ⟨q1, q2⟩ := c7 h1 h2
      exact ⟨by rw [f0 2 (by omega)]; exact q1, by rw [f0 3 (by omega)]; exact q2⟩
    · rw [f0 2 (by omega)]; exact c8 h
    · obtain ⟨s, p, r, q1, q2, q3, q4, q5, q6, q7⟩ := c9 h
      exact ⟨s, p, r, q1, q2, q3, q4, by rw [f0 2 (by omega)]; exact q5, by rw [f0 3 (by omega)]; exact q6, by rw [f0 4 (by omega)]; exact q7⟩
  obtain ⟨S', p1, p2, p3, p4⟩ := q_learn (N := N) (tdR_fr (by rw [e1]) (by rw [e2]) R) hm (by rw [e1]; exact hg) (by omega) C3 hc
  rw [p1, bk_i]
  obtain ⟨a1, a2, a3, a4, a5⟩ := p4
  obtain ⟨d1, d2, d3, d4, d5, d6, d7, d8⟩ := kD_eq a5
  refine ⟨S', rfl, cRS_D a5 C3, p2, ?_, ⟨fun q hq => by rw [a1 q hq, e1], fun d hd => by rw [a2 d hd, e2], by rw [a3, e3], by rw [a4, e4], by rw [d1, e5], fun q hq => by rw [d2]; exact Fo q hq, by rw [d3, e6], by rw [d4, e7], by rw [d5, e8], by rw [d6, e9], by rw [d7, e10], by rw [d8, e11]⟩⟩
  rw [p3]
  have : g < cS (cSg c m (tl m m) (g + 1)) := by show g < g + 1; omega
  rw [if_pos this]
  rfl
end QG
/-- where a change comes -/
def plc (cs : Nat → sCh) (o : List Nat) (r : Nat) : Nat := o.countP (fun k => decide (cR (cs k) < r))
def ins (o : List Nat) (p k : Nat) : List Nat := o.take p ++ k :: o.drop p
theorem plc_of {cs : Nat → sCh} {r : Nat} : ∀ {o : List Nat}, o.Pairwise (fun a b => cR (cs a) < cR (cs b)) → ∀ {p : Nat}, p ≤ o.length → (∀ (j : Nat) (h : j < o.length), p ≤ j → r < cR (cs o[j])) → (p = 0 ∨ ∃ h : p - 1 < o.length, cR (cs o[p - 1]) < r) → p = plc cs o r := by
  intro o hs p hp h1 h2
  have e : o = o.take p ++ o.drop p := (List.take_append_drop p o).symm
  unfold plc
  rw [e, List.countP_append]
  have t1 : (o.take p).countP (fun k => decide (cR (cs k) < r)) = p := by
    have : (o.take p).countP (fun k => decide (cR (cs k) < r)) = (o.take p).length := by
      rw [List.countP_eq_length]
      intro k hk
      obtain ⟨j, hj, rfl⟩ := List.mem_iff_getElem.mp hk
      rw [List.length_take] at hj
      rw [List.getElem_take, decide_eq_true_eq]
      rcases h2 with h2 | ⟨h2, h3⟩
      · omega
      · rcases Nat.lt_or_ge j (p - 1) with g | g
        · have := List.pairwise_iff_getElem.mp hs j (p - 1) (by omega) h2 g
          omega
        · have : j = p - 1 := by omega
          subst this
          exact h3
    rw [this, List.length_take]; omega
  have t2 : (o.drop p).countP (fun k => decide (cR (cs k) < r)) = 0 := by
    rw [List.countP_eq_zero]
    intro k hk
    obtain ⟨j, hj, rfl⟩ := List.mem_iff_getElem.mp hk
    rw [List.length_drop] at hj
    rw [List.getElem_drop, decide_eq_true_eq]
    have := h1 (p + j) (by omega) (by omega)
    omega
  rw [t1, t2, Nat.add_zero]
/-- everything but what a recorded change touches -/
def frR (m k : Nat) (S S' : kS) : Prop := (∀ q, q ≠ 11 → q ≠ 12 → q ≠ 18 + 4 * m → (q < 40 + 3 * m ∨ 42 + 3 * m < q) → kI S' q = kI S q) ∧ (∀ c, c ≠ 19 + 2 * m → (c < 26 + 15 * m ∨ 26 + 15 * m + 14 < c) → kA S' c = kA S c) ∧ (∀ c, (c < 26 + 15 * m ∨ 26 + 15 * m + 14 < c) → kJ S' c = kJ S c) ∧ (∀ q, q ≠ 8 + 2 * m → q ≠ 9 + 2 * m → kL S' q = kL S q) ∧ kn S' = kn S ∧ (∀ q, q ≠ k → kF S' q = kF S q) ∧ kC S' = kC S ∧ km S' = km S ∧ kl S' = kl S ∧ kx S' = kx S
theorem tR_other {S S' : kS} {t : Nat} {T : sT} (hI : ∀ q, 40 + 3 * t ≤ q → q ≤ 42 + 3 * t → kI S' q = kI S q) (hA : ∀ c, 26 + 15 * t ≤ c → c ≤ 26 + 15 * t + 14 → kA S' c = kA S c) (hJ : ∀ c, 26 + 15 * t ≤ c → c ≤ 26 + 15 * t + 14 → kJ S' c = kJ S c) (hL1 : kL S' (8 + 2 * t) = kL S (8 + 2 * t)) (hL2 : kL S' (9 + 2 * t) = kL S (9 + 2 * t)) (R : tR S t T) : tR S' t T := by
  obtain ⟨r1, r2, r3, r4, r5, r6, r7, r8, r9, l1, l2, n1, n2, p1, p2⟩ := R
  refine ⟨by rw [hA _ (by omega) (by omega)]; exact r1, by rw [hA _ (by omega) (by omega)]; exact r2, by rw [hA _ (by omega) (by omega)]; exact r3, by rw [hA _ (by omega) (by omega)]; exact r4, by rw [hA _ (by omega) (by omega)]; exact r5, by rw [hL1]; exact r6, by rw [hL2]; exact r7, by rw [hJ _ (by omega) (by omega), hJ _ (by omega) (by omega)]; exact r8, by rw [hJ _ (by omega) (by omega), hJ _ (by omega) (by omega)]; exact r9, l1, l2, ?_, ?_, p1, p2⟩
  · obtain ⟨q1, q2, q3⟩ := n1
    exact ⟨by rw [hI _ (by omega) (by omega)]; exact q1, by rw [hA _ (by omega) (by omega)]; exact q2, q3⟩
  · obtain ⟨q1, q2, q3⟩ := n2
    exact ⟨by rw [hI _ (by omega) (by omega)]; exact q1, by rw [hA _ (by omega) (by omega)]; exact q2, q3⟩
section QC
variable {N : Nat} {m k : Nat} {tl : Nat → Nat → Nat} {c : sCh} {g : Nat} {H : sH} {T : sT} {cs : Nat → sCh} {o : List Nat}
theorem q_record_13 {S : kS} {k46 : Int32 → kS → Option ((Unit ⊕ Nat) × kS)} (L : lgR S o) (hO : ∀ q ∈ o, cRS S q (cs q) ∧ cOk (cs q)) (C : cRS S k c) (hc : cOk c) (hlen : o.length ≤ 250) : ∀ (n i : Nat), i ≤ o.length → i < n → (∀ (j : Nat) (h : j < o.length), i ≤ j → cR c < cR (cs o[j])) → ∃ p, p ≤ o.length ∧ pX9_record_13 N m k k46 n (zI (i : Nat)) S = k46 (zI (p : Nat)) S ∧ (∀ (j : Nat) (h : j < o.length), p ≤ j → cR c < cR (cs o[j])) ∧ (p = 0 ∨ ∃ h : p - 1 < o.length, cR (cs o[p - 1]) ≤ cR c)
  | 0, i, hi, hn, _ => by omega
  | n + 1, i, hi, hn, h => by
    simp only [pX9_record_13, nm_i]
    rw [zL_0, il_le (by omega) (by omega) (by omega) (by omega)]
    cases i with
    | zero =>
      rw [if_pos (by omega)]
      exact ⟨0, Nat.zero_le _, rfl, h, Or.inl rfl⟩
    | succ i =>
      have hi2 : i < o.length := by omega
      obtain ⟨C1, hc1⟩ := hO _ (List.getElem_mem hi2)
      have b1 : cR (cs o[i]) < 1100 := by
        have := hc1.2.2.1
        have := hc1.2.2.2.2.1
        unfold cR; omega
      have b2 : cR c < 1100 := by
        have := hc.2.2.1
        have := hc.2.2.2.2.1
        unfold cR; omega
      rw [if_neg (by omega), zL_m1, zL_1]
      simp only [zI_sub, zI_add]
      rw [show ((i + 1 : Nat) : Int) - 1 = (i : Nat) by omega, show ((i + 1 : Nat) : Int) + -1 = (i : Nat) by omega, q_logGet L hi2, bk_i, gn_l C1.1, gn_l C1.1, q_rank C1 hc1, bk_i, gn_l C.1, q_rank C hc, bk_i, il_le (by omega) (by omega) (by omega) (by omega)]
      by_cases q : cR (cs o[i]) ≤ cR c
      · rw [if_pos (by omega)]
        exact ⟨i + 1, hi, rfl, h, Or.inr ⟨hi2, q⟩⟩
      · rw [if_neg (by omega)]
        exact q_record_13 L hO C hc hlen n i (by omega) (by omega) (fun j hj hij => by
          by_cases e : j = i
          · subst e; omega
          · exact h j hj (by omega))
theorem q_record {S : kS} (hN : 900 ≤ N) (hm : m < 4) (hH : hR S H) (L : lgR S o) (hO : ∀ q ∈ o, cRS S q (cs q) ∧ cOk (cs q)) (R : tdR S m tl) (hg : kI S (18 + 4 * m) = zI (g : Nat)) (hg2 : g < 250) (C : cRS S k c) (hk : k ∉ o) (hc : cOk (cSg c m (tl m m) (g + 1))) (hlen : o.length < 250) (hs : o.Pairwise (fun a b => cR (cs a) < cR (cs b))) (hne : ∀ q ∈ o, cR (cs q) ≠ cR (cSg c m (tl m m) (g + 1))) (Q : tOk S m T) (hl : (tVs T).length + cWt (cSg c m (tl m m) (g + 1)) ≤ 826) : ∃ S', pX9_record N m k S = some (.inl (), S') ∧ lgR S' (ins o (plc cs o (cR (cSg c m (tl m m) (g + 1)))) k) ∧ cRS S' k (cSg c m (tl m m) (g + 1)) ∧ tdR S' m (up2 tl m m (tl m m + 1)) ∧ kI S' (18 + 4 * m) = zI ((g + 1 : Nat) : Int) ∧ tR S' m (tTake H T (cSg c m (tl m m) (g + 1))) ∧ frR m k S S' := by
  obtain ⟨S1, e1, C1, R1, g1, f1⟩ := q_sign (N := N) hm R hg hg2 C hc
  obtain ⟨a1, a2, a3, a4, a5, a6, a7, a8, a9, a10, a11, a12⟩ := id f1
  have L1 : lgR S1 o := lgR_S (a1 _ (by omega)) a5 a11 a12 L
  have hO1 : ∀ q ∈ o, cRS S1 q (cs q) ∧ cOk (cs q) := fun q hq => ⟨cRS_F a5 (a6 q (fun e => hk (e ▸ hq))) a7 a8 a9 a10 (hO q hq).1, (hO q hq).2⟩
  simp only [pX9_record]
  rw [e1, bk_i, q_logSize L1, bk_i]
  obtain ⟨p, hp, e2, h1, h2⟩ := q_record_13 (N := N) (m := m) (k46 := pX9_record_46 N m k) L1 hO1 C1 hc (by omega) N o.length (Nat.le_refl _) (by omega) (fun j hj hij => by omega)
  have hpl : p = plc cs o (cR (cSg c m (tl m m) (g + 1))) := plc_of hs hp h1 (by
    rcases h2 with h2 | ⟨h2, h3⟩
    · exact Or.inl h2
    · refine Or.inr ⟨h2, ?_⟩
      have := hne _ (List.getElem_mem h2)
      omega)
  rw [e2, ← hpl]
  simp only [pX9_record_46]
  rw [gn_l C1.1]
  obtain ⟨S2, e3, L2, f2⟩ := q_logAdd L1 hlen (i := p) (k := k) hp C1.1
  obtain ⟨b1, b2, b3, b4, b5, b6, b7, b8, b9, b10⟩ := id f2
  rw [e3, bx_l]
  have Q2 : tOk S2 m T := ⟨tR_other (fun q h1 h2 => by rw [b1 _ (by omega) (by omega), a1 _ (by omega)]) (fun d h1 h2 => by rw [b3, a2 _ (by omega)]) (fun d h1 h2 => by rw [b4, a4]) (by rw [b2, a3]) (by rw [b2, a3]) Q.1, Q.2⟩
  have H2 : hR S2 H := fr_hR hH (fun q hq => by rw [b1 _ (by omega) (by omega), a1 _ (by omega)]) (fun d hd => by rw [b3, a2 _ (by omega)])
  obtain ⟨S3, e4, t3, f3⟩ := q_take (N := N) hN H2 hc (cRS_G f2 C1) Q2 hl
  obtain ⟨d1, d2, d3, d4, d5, d6, d7, d8⟩ := kD_eq f3.2.2.2.2
  rw [e4, bk_i]
  refine ⟨S3, rfl, lgR_fr (f3.2.2.2.1 _ (by omega)) f3.2.2.2.2 L2, cRS_D f3.2.2.2.2 (cRS_G f2 C1), ?_, ?_, t3, ⟨fun q h1 h2 h3 h4 => ?_, fun d h1 h2 => ?_, fun d h1 => ?_, fun q h1 h2 => ?_, by rw [d1, b5, a5], fun q hq => by rw [d2, b6]; exact a6 q hq, by rw [d3, b7, a7], by rw [d4, b8, a8], by rw [d5, b9, a9], by rw [d6, b10, a10]⟩⟩
  · exact tdR_fr (by rw [f3.2.2.2.1 _ (by omega), b1 _ (by omega) (by omega)]) (by rw [f3.1 _ (by omega), b3]) R1
  · rw [f3.2.2.2.1 _ (by omega), b1 _ (by omega) (by omega)]; exact g1
  · rw [f3.2.2.2.1 _ h4, b1 _ h1 h2, a1 _ h3]
  · rw [f3.1 _ h2, b3, a2 _ h1]
  · rw [f3.2.1 _ h1, b4, a4]
  · rw [f3.2.2.1 _ h1 h2, b2, a3]
end QC
