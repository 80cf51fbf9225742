-- LEVEL 2, THE REFERENCE LAYS: ALL OF IT; WHAT IT ANSWERS OF A TREE
/-- nothing but what is laid was written -/
def rfL (M M' : mS) : Prop := (∀ q, q ≠ 37 → q ≠ 47 → M'.1 q = M.1 q) ∧ ∀ c, (c < 38 ∨ 51 < c) → M'.2 c = M.2 c
theorem rfL.rf {M : mS} : rfL M M := ⟨fun _ _ _ => rfl, fun _ _ => rfl⟩
theorem rfL.trans {M M' M2 : mS} (h : rfL M M') (h2 : rfL M' M2) : rfL M M2 := ⟨fun q a b => (h2.1 q a b).trans (h.1 q a b), fun q a => (h2.2 q a).trans (h.2 q a)⟩
theorem rfT.l {M M' : mS} (h : rfT M M') : rfL M M' := ⟨fun q _ b => h.1 q b, fun c hc => h.2 c (by omega)⟩
theorem rf1.l {c : Nat} {M M' : mS} (h : rf1 c M M') (h1 : 38 ≤ c) (h2 : c ≤ 51) : rfL M M' := ⟨fun q _ _ => by rw [h.1], fun d hd => h.2 d (by omega)⟩
theorem rSc_l {M M' : mS} {H : sH} (h : rfL M M') (R : rSc M H) : rSc M' H := by
  obtain ⟨r1, r2, r3, r4, r5, r6, r7⟩ := R
  refine ⟨by rw [h.1 _ (by omega) (by omega)]; exact r1, by rw [h.1 _ (by omega) (by omega)]; exact r2, by rw [h.2 _ (by omega)]; exact r3, by rw [h.2 _ (by omega)]; exact r4, by rw [h.2 _ (by omega)]; exact r5, by rw [h.2 _ (by omega)]; exact r6, by rw [h.2 6 (by omega), h.2 7 (by omega)]; exact r7⟩
theorem rCh_l {M M' : mS} {k : Nat} {c : sCh} (h : rfL M M') (R : rCh M k c) : rCh M' k c := by
  unfold rCh at *
  rw [h.2 26 (by omega), h.2 27 (by omega), h.2 23 (by omega), h.2 24 (by omega), h.2 25 (by omega), h.2 28 (by omega), h.2 29 (by omega), h.2 30 (by omega), h.2 32 (by omega), h.2 33 (by omega), h.2 34 (by omega), h.2 35 (by omega)]
  exact R
theorem rOr_l {M M' : mS} {cs : Nat → sCh} {o : List Nat} (h : rfL M M') (R : rOr M cs o) : rOr M' cs o := by
  obtain ⟨r1, r2, r3, r4⟩ := R
  exact ⟨by rw [h.1 _ (by omega) (by omega)]; exact r1, r2, by rw [h.2 36 (by omega)]; exact r3, fun k hk => ⟨(r4 k hk).1, rCh_l h (r4 k hk).2.1, (r4 k hk).2.2⟩⟩
theorem rVw_l {M M' : mS} {tl : Nat → Nat → Nat → Nat} (h : rfL M M') (R : rVw M tl) : rVw M' tl := by
  unfold rVw at *
  rw [h.2 19 (by omega)]
  exact R
section RA
variable {N : Nat} {H : sH} {cs : Nat → sCh} {ar : Nat → Nat} {tl : Nat → Nat → Nat → Nat} {o : List Nat} {m : Nat} {T : sT}
/-- which tree is laid -/
def rWh (M : mS) (H : sH) (cs : Nat → sCh) (tl : Nat → Nat → Nat → Nat) (o : List Nat) : Prop := M.1 37 = zI (-1) ∨ ∃ m : Nat, m < 4 ∧ M.1 37 = zI (m : Nat) ∧ rLd M (shw H cs (tl m) m o)
theorem r_lays (hN : 20000 ≤ N) (hm : m < 4) {M : mS} (S : rSc M H) (O : rOr M cs o) (V : rVw M tl) (L : rWh M H cs tl o) (hA : gAr cs ar o) (hl : wS cs o ≤ 826) : ∃ M', pf_lays N (zI (m : Nat)) M = some ((0 : Int32), M') ∧ rLd M' (shw H cs (tl m) m o) ∧ M'.1 37 = zI (m : Nat) ∧ rfL M M' := by
  simp only [pf_lays]
  by_cases hq : M.1 37 = zI (m : Nat)
  · rw [if_pos hq]
    rcases L with L | ⟨m', h1, h2, h3⟩
    · rw [L, zI_eq (by omega) (by omega) (by omega) (by omega)] at hq
      omega
    · have : m' = m := by
        rw [h2, zI_eq (by omega) (by omega) (by omega) (by omega)] at hq
        omega
      subst this
      exact ⟨M, rfl, h3, hq, rfL.rf⟩
  · rw [if_neg hq, sv_i, sv_i]
    generalize hM0 : mI (mI M 37 (zI (m : Nat))) 47 0 = M0
    have a0 : ∀ q, q ≠ 37 → q ≠ 47 → M0.1 q = M.1 q := fun q h1 h2 => by rw [← hM0, mI_1, upd_o _ _ h2, mI_1, upd_o _ _ h1]
    have b0 : M0.1 47 = zI 0 := by rw [← hM0, mI_1, upd_s]; rfl
    have c0 : M0.1 37 = zI (m : Nat) := by rw [← hM0, mI_1, upd_o _ _ (by omega), mI_1, upd_s]
    have d0 : M0.2 = M.2 := by rw [← hM0]; rfl
    have f0 : rfL M M0 := ⟨a0, fun c _ => by rw [d0]⟩
    obtain ⟨M1, e1, i1, p1, q1⟩ := r_lays_21 (N := N) (k83 := pf_lays_83 N) (x := zI (m : Nat)) N 48 0 M0 (by omega) (by omega) (fun j hj => by omega)
    have f1 : rfL M M1 := f0.trans ⟨fun q _ _ => by rw [p1], fun c hc => q1 c (by omega)⟩
    obtain ⟨M2, e2, i2, p2⟩ := r_lays_85 (N := N) (k105 := pf_lays_105 N) (x := zI (m : Nat)) N 15840 0 M1 (by omega) (by omega) (fun j hj => by omega)
    have f2 : rfL M M2 := f1.trans (p2.l (by omega) (by omega))
    have R2 : rT M2 tNew := by
      refine ⟨fun e he => ?_, fun e he => ?_, fun e he => ?_, fun e he => ?_, fun e he => ?_, fun e he => ?_, ⟨?_, by show (0 : Nat) ≤ 900; omega, fun j x h => ?_⟩, fun e k he hk => ?_⟩
      · rw [p2.2 _ (by omega)]; exact (i1 e he).1
      · rw [p2.2 _ (by omega)]; exact (i1 e he).2.1
      · rw [p2.2 _ (by omega)]; exact (i1 e he).2.2.1
      · rw [p2.2 _ (by omega)]; exact (i1 e he).2.2.2.1
      · rw [p2.2 _ (by omega)]; exact (i1 e he).2.2.2.2.1
      · rw [p2.2 _ (by omega)]; exact (i1 e he).2.2.2.2.2
      · rw [p2.1, p1]; exact b0
      · have h : ([] : List (Nat × Nat × Nat))[j]? = some x := h
        simp at h
      · rw [i2 _ (by omega)]; rfl
    have hw : wS cs (knl (tl m) m cs o) ≤ wS cs o := wS_filter
    obtain ⟨M3, e3, R3, B3, f3⟩ := r_lays_107 (N := N) (H := H) (cs := cs) (ar := ar) (o := o) (tl := tl) (by omega) hm (k146 := pf_lays_146 N) N o.length 0 M2 tNew (by omega) (by have := O.2.1; omega) (rSc_l f2 S) (rOr_l f2 O) (rVw_l f2 V) R2 tW_new ⟨fun _ => 0, fun e h1 h2 h3 => by
      have : e = 0 := of_decide_eq_true h3
      omega, fun e f h1 h2 h3 => by
      have : e = 0 := of_decide_eq_true h3
      omega⟩ (hA.sub (by rw [List.drop_zero]; exact knl_sub)) gPa_new (fun k _ e h1 h2 h3 => by
      have : e = 0 := of_decide_eq_true h3
      omega) (by
      rw [List.drop_zero]
      show 0 + _ ≤ 900
      omega)
    rw [List.drop_zero] at R3 B3
    have hs := shw_ok (H := H) (tl := tl m) (m := m) hA
    have hs1 : tW (rpl H cs tNew (knl (tl m) m cs o)) := hs.1
    obtain ⟨M4, e4, P4, f4⟩ := r_lays_148 (N := N) (k198 := pf_lays_198 N) hs1 N 48 0 M3 (by omega) (by omega) R3 (fun j hj => by omega)
    obtain ⟨M5, e5, S5, f5⟩ := r_lays_200 (N := N) (p := o.length) hs1 (by have := O.2.1; omega) N 48 0 M4 (by omega) (by omega) (by omega) (rT_1 (Or.inr (Or.inl rfl)) f4 R3) P4 (by
      obtain ⟨b, b1, b2⟩ := B3
      exact ⟨b, fun e h1 h2 h3 => by rw [f4.2 _ (by omega)]; exact b1 e h1 h2 h3, b2⟩) (fun j hj => by omega)
    refine ⟨M5, ?_, ⟨rT_1 (Or.inr (Or.inr rfl)) f5 (rT_1 (Or.inr (Or.inl rfl)) f4 R3), hs1, fun e he => by rw [f5.2 _ (by omega)]; exact P4 e he, S5⟩, ?_, ?_⟩
    · have e1 : pf_lays_21 N (pf_lays_83 N) N (zI (m : Nat)) 0 M0 = pf_lays_83 N (zI (m : Nat)) M1 := e1
      have e2 : pf_lays_83 N (zI (m : Nat)) M1 = pf_lays_105 N (zI (m : Nat)) M2 := e2
      have e3 : pf_lays_105 N (zI (m : Nat)) M2 = pf_lays_146 N M3 := e3
      have e4 : pf_lays_146 N M3 = pf_lays_198 N M4 := e4
      have e5 : pf_lays_198 N M4 = some ((0 : Int32), M5) := e5
      rw [e1, e2, e3, e4, e5]
    · rw [f5.1, f4.1, f3.1 _ (by omega), p2.1, p1]; exact c0
    · exact ((f2.trans f3.l).trans (f4.l (by omega) (by omega))).trans (f5.l (by omega) (by omega))
theorem r_isMaster {x : Int} (h1 : -2147483648 ≤ x) (h2 : x < 2147483648) : pf_isMaster N (zI x) = some (zB (decide (0 ≤ x) && decide (x ≤ 3))) := by
  simp only [pf_isMaster]
  rw [zL_0, zL_3, r_in h1 h2 (by omega) (by omega) (by omega) (by omega), bs_i, zs_B]
end RA
