-- LEVEL 2, ALL CHANGES THAT ARE KNOWN, DONE IN ORDER
def rpl (H : sH) (cs : Nat → sCh) (T : sT) (l : List Nat) : sT := l.foldl (fun T k => tTake H T (cs k)) T
def wS (cs : Nat → sCh) (l : List Nat) : Nat := (l.map (fun k => cWt (cs k))).sum
def knl (tl : Nat → Nat → Nat) (m : Nat) (cs : Nat → sCh) (o : List Nat) : List Nat := o.filter (fun k => gotB tl m (cs k))
/-- changes in order; ar is the rank of the ADD of an entry -/
def gCh (cs : Nat → sCh) (ar : Nat → Nat) (k : Nat) : Prop := cOk (cs k) ∧ (cK (cs k) = 0 → ar (cE (cs k)) = cR (cs k) ∧ (1 ≤ cY (cs k) → ar (cY (cs k)).toNat < cR (cs k))) ∧ (cK (cs k) = 7 → 1 ≤ cX (cs k) → ar (cX (cs k)).toNat < cR (cs k))
def gAr (cs : Nat → sCh) (ar : Nat → Nat) (l : List Nat) : Prop := l.Pairwise (fun a b => cR (cs a) < cR (cs b)) ∧ ∀ k ∈ l, gCh cs ar k
def gPa (cs : Nat → sCh) (ar : Nat → Nat) (T : sT) (l : List Nat) : Prop := ∀ k ∈ l, ∀ x, x < 48 → 1 ≤ tPa T x → ar (tPa T x).toNat < cR (cs k)
theorem gAr.sub {cs : Nat → sCh} {ar : Nat → Nat} {l l' : List Nat} (h : gAr cs ar l) (s : List.Sublist l' l) : gAr cs ar l' := ⟨h.1.sublist s, fun k hk => h.2 k (s.subset hk)⟩
theorem gAr.tail {cs : Nat → sCh} {ar : Nat → Nat} {k : Nat} {l : List Nat} (h : gAr cs ar (k :: l)) : gAr cs ar l := h.sub (List.sublist_cons_self _ _)
theorem wS_cons {cs : Nat → sCh} {k : Nat} {l : List Nat} : wS cs (k :: l) = cWt (cs k) + wS cs l := by unfold wS; rw [List.map_cons, List.sum_cons]
theorem wS_nil {cs : Nat → sCh} : wS cs [] = 0 := rfl
theorem wS_filter {cs : Nat → sCh} {p : Nat → Bool} : ∀ {l : List Nat}, wS cs (l.filter p) ≤ wS cs l
  | [] => Nat.le_refl _
  | k :: l => by
    have := wS_filter (cs := cs) (p := p) (l := l)
    rw [List.filter_cons]
    split
    · rw [wS_cons, wS_cons]; omega
    · rw [wS_cons]; omega
/-- no parent is an entry before its ADD -/
theorem gPa_no {cs : Nat → sCh} {ar : Nat → Nat} {T : sT} {k : Nat} {l : List Nat} (h : gAr cs ar (k :: l)) (p : gPa cs ar T (k :: l)) : cK (cs k) = 0 → cY (cs k) ≠ cE (cs k) ∧ ∀ x, x < 48 → tPa T x ≠ cE (cs k) := fun k0 => by
  obtain ⟨h1, h2, h3⟩ := h.2 k List.mem_cons_self
  obtain ⟨h4, h5⟩ := h2 k0
  have he := (h1.2.2.2.2.2.1 k0).1
  refine ⟨fun e => ?_, fun x hx e => ?_⟩
  · have := h5 (by omega)
    rw [e, Int.toNat_natCast, h4] at this
    omega
  · have := p k List.mem_cons_self x hx (by omega)
    rw [e, Int.toNat_natCast, h4] at this
    omega
theorem tPa_take {H : sH} {T : sT} {c : sCh} {x : Nat} : tPa (tTake H T c) x = tPa T x ∨ (cK c = 0 ∧ tPa (tTake H T c) x = cY c) ∨ (cK c = 7 ∧ tPa (tTake H T c) x = cX c) := by
  unfold tTake
  by_cases k0 : cK c = 0
  · rw [if_pos k0]
    show upf (tPa T) (cE c) (cY c) x = tPa T x ∨ _
    by_cases q : x = cE c
    · right; left
      refine ⟨k0, ?_⟩
      show upf (tPa T) (cE c) (cY c) x = cY c
      rw [q, upf_s]
    · left; rw [upf_o _ _ q]
  · rw [if_neg k0]
    by_cases k1 : cK c = 1
    · rw [if_pos k1]; exact Or.inl rfl
    · rw [if_neg k1]
      by_cases k2 : cK c = 2
      · rw [if_pos k2]; exact Or.inl rfl
      · rw [if_neg k2]
        by_cases k3 : cK c = 3
        · rw [if_pos k3]; exact Or.inl rfl
        · rw [if_neg k3]
          by_cases k4 : cK c = 4
          · rw [if_pos k4]; exact Or.inl rfl
          · rw [if_neg k4]
            by_cases k5 : cK c = 5
            · rw [if_pos k5]; exact Or.inl rfl
            · rw [if_neg k5]
              by_cases k6 : cK c = 6
              · rw [if_pos k6]; exact Or.inl rfl
              · rw [if_neg k6]
                by_cases k7 : cK c = 7
                · rw [if_pos k7]
                  cases pCome (tPa T) 48 (cX c) (cE c) with
                  | true => rw [if_pos rfl]; exact Or.inl rfl
                  | false =>
                    rw [if_neg (by decide)]
                    show upf (tPa T) (cE c) (cX c) x = tPa T x ∨ _
                    by_cases q : x = cE c
                    · right; right
                      refine ⟨k7, ?_⟩
                      show upf (tPa T) (cE c) (cX c) x = cX c
                      rw [q, upf_s]
                    · left; rw [upf_o _ _ q]
                · rw [if_neg k7]; exact Or.inl rfl
theorem gPa_take {H : sH} {cs : Nat → sCh} {ar : Nat → Nat} {T : sT} {k : Nat} {l : List Nat} (h : gAr cs ar (k :: l)) (p : gPa cs ar T (k :: l)) : gPa cs ar (tTake H T (cs k)) l := fun k' hk x hx h1 => by
  obtain ⟨-, g2, g3⟩ := h.2 k List.mem_cons_self
  have hlt : cR (cs k) < cR (cs k') := (List.pairwise_cons.mp h.1).1 k' hk
  rcases tPa_take (H := H) (T := T) (c := cs k) (x := x) with e | ⟨k0, e⟩ | ⟨k7, e⟩
  · rw [e] at h1 ⊢
    exact p k' (List.mem_cons_of_mem _ hk) x hx h1
  · rw [e] at h1 ⊢
    have := (g2 k0).2 h1
    omega
  · rw [e] at h1 ⊢
    have := g3 k7 h1
    omega
/-- all of them, from a tree in order -/
theorem rpl_ok {H : sH} {cs : Nat → sCh} {ar : Nat → Nat} : ∀ (l : List Nat) (T : sT), gAr cs ar l → gPa cs ar T l → tW T → tBn T 0 = 0 → tW (rpl H cs T l) ∧ (tVs (rpl H cs T l)).length ≤ (tVs T).length + wS cs l ∧ tBn (rpl H cs T l) 0 = 0
  | [], T, _, _, w, b => ⟨w, Nat.le_refl _, b⟩
  | k :: l, T, h, p, w, b => by
    have hc := (h.2 k List.mem_cons_self).1
    obtain ⟨w1, w2, w3⟩ := rpl_ok (H := H) l (tTake H T (cs k)) h.tail (gPa_take h p) (tW_take w hc (gPa_no h p)) (tBn_0 hc b)
    have hl := tVs_len (H := H) (T := T) (c := cs k)
    refine ⟨w1, ?_, w3⟩
    rw [wS_cons]
    exact Nat.le_trans w2 (by omega)
theorem gPa_new {cs : Nat → sCh} {ar : Nat → Nat} {l : List Nat} : gPa cs ar tNew l := fun k _ x _ h => by
  have h : (1 : Int) ≤ -1 := h
  omega
theorem knl_sub {tl : Nat → Nat → Nat} {m : Nat} {cs : Nat → sCh} {o : List Nat} : List.Sublist (knl tl m cs o) o := List.filter_sublist
/-- the tree that a master shows -/
def shw (H : sH) (cs : Nat → sCh) (tl : Nat → Nat → Nat) (m : Nat) (o : List Nat) : sT := rpl H cs tNew (knl tl m cs o)
theorem shw_ok {H : sH} {cs : Nat → sCh} {ar : Nat → Nat} {tl : Nat → Nat → Nat} {m : Nat} {o : List Nat} (h : gAr cs ar o) : tW (shw H cs tl m o) ∧ (tVs (shw H cs tl m o)).length ≤ wS cs (knl tl m cs o) ∧ tBn (shw H cs tl m o) 0 = 0 := by
  obtain ⟨h1, h2, h3⟩ := rpl_ok (H := H) (knl tl m cs o) tNew (h.sub knl_sub) gPa_new tW_new rfl
  exact ⟨h1, by
    have e : (tVs tNew).length = 0 := rfl
    rw [e, Nat.zero_add] at h2
    exact h2, h3⟩
section QX
variable {N t m : Nat} {H : sH} {cs : Nat → sCh} {ar : Nat → Nat} {tl : Nat → Nat → Nat} {o : List Nat}
/-- what redo needs of the state -/
def rdR (S : kS) (H : sH) (cs : Nat → sCh) (tl : Nat → Nat → Nat) (m : Nat) (o : List Nat) : Prop := hR S H ∧ lgR S o ∧ (∀ k ∈ o, cRS S k (cs k)) ∧ tdR S m tl
theorem rdR_fr {S S' : kS} (hm : m < 4) (f : frT t S S') (R : rdR S H cs tl m o) : rdR S' H cs tl m o := by
  obtain ⟨r1, r2, r3, r4⟩ := R
  exact ⟨frT_hR f r1, lgR_fr (f.2.2.2.1 _ (by omega)) f.2.2.2.2 r2, fun k hk => cRS_D f.2.2.2.2 (r3 k hk), tdR_fr (f.2.2.2.1 _ (by omega)) (f.1 _ (by omega)) r4⟩
theorem q_redo_6 (hN : 900 ≤ N) (hm : m < 4) (ho : o.length ≤ 250) : ∀ (n k i : Nat) (S : kS) (T : sT), i + k = o.length → k < n → rdR S H cs tl m o → tOk S t T → gAr cs ar (knl tl m cs (o.drop i)) → gPa cs ar T (knl tl m cs (o.drop i)) → (tVs T).length + wS cs (knl tl m cs (o.drop i)) ≤ 826 → (∀ k ∈ o, cOk (cs k)) → ∃ S', pX9_redo_6 N t m n (zI (i : Nat)) S = some ((), S') ∧ tR S' t (rpl H cs T (knl tl m cs (o.drop i))) ∧ frT t S S'
  | 0, k, i, S, T, hk, hn, _, _, _, _, _, _ => by omega
  | n + 1, k, i, S, T, hk, hn, R, Q, hA, hP, hl, hO => by
    obtain ⟨r1, r2, r3, r4⟩ := id R
    simp only [pX9_redo_6, pX9_redo_45, nm_i]
    rw [q_logSize r2, bk_i, il_le (by omega) (by omega) (by omega) (by omega)]
    cases k with
    | zero =>
      rw [if_pos (by omega), List.drop_eq_nil_of_le (by omega)]
      exact ⟨S, rfl, Q.1, frT.rf⟩
    | succ k =>
      have hi : i < o.length := by omega
      have hmem : o[i] ∈ o := List.getElem_mem hi
      have C := r3 _ hmem
      have hc := hO _ hmem
      rw [if_neg (by omega), q_logGet r2 hi, bk_i, gn_l C.1, q_hasGot r4 hm C hc, bk_i, il_B, zL_1, zI_add, show (i : Int) + 1 = ((i + 1 : Nat) : Int) by omega]
      have ed : o.drop i = o[i] :: o.drop (i + 1) := List.drop_eq_getElem_cons hi
      cases hg : gotB tl m (cs o[i]) with
      | false =>
        have e1 : knl tl m cs (o.drop i) = knl tl m cs (o.drop (i + 1)) := by unfold knl; rw [ed, List.filter_cons, hg]; rfl
        rw [e1] at hA hP hl ⊢
        rw [if_neg (by decide)]
        exact q_redo_6 hN hm ho n k (i + 1) S T (by omega) (by omega) R Q hA hP hl hO
      | true =>
        have e1 : knl tl m cs (o.drop i) = o[i] :: knl tl m cs (o.drop (i + 1)) := by unfold knl; rw [ed, List.filter_cons, hg]; rfl
        rw [e1] at hA hP hl ⊢
        rw [wS_cons] at hl
        rw [if_pos rfl]
        obtain ⟨S1, q1, t1, f1⟩ := q_take (N := N) hN r1 hc C Q (by omega)
        have hl2 := tVs_len (H := H) (T := T) (c := cs o[i])
        obtain ⟨S2, q2, t2, f2⟩ := q_redo_6 hN hm ho n k (i + 1) S1 (tTake H T (cs o[i])) (by omega) (by omega) (rdR_fr hm f1 R) ⟨t1, tW_take Q.2 hc (gPa_no hA hP)⟩ hA.tail (gPa_take hA hP) (by omega) hO
        rw [q1, bk_i]
        exact ⟨S2, q2, t2, f1.trans f2⟩
theorem q_redo (hN : 1001 ≤ N) (hm : m < 4) (ho : o.length ≤ 250) {S : kS} (R : rdR S H cs tl m o) (h0 : kA S (26 + 15 * t + 5) 0 = zI 0) (hA : gAr cs ar o) (hl : wS cs o ≤ 826) : ∃ S', pX9_redo N t m S = some ((), S') ∧ tOk S' t (shw H cs tl m o) ∧ frT t S S' ∧ kA S' (26 + 15 * t + 5) 0 = zI 0 := by
  obtain ⟨S1, e1, t1, f1⟩ := q_clear (N := N) (t := t) hN h0
  simp only [pX9_redo]
  rw [e1, bk_i]
  have hw : wS cs (knl tl m cs o) ≤ wS cs o := wS_filter
  obtain ⟨S2, e2, t2, f2⟩ := q_redo_6 (N := N) (t := t) (H := H) (cs := cs) (ar := ar) (tl := tl) (by omega) hm ho N o.length 0 S1 tNew (by omega) (by omega) (rdR_fr hm f1 R) ⟨t1, tW_new⟩ (hA.sub (by rw [List.drop_zero]; exact knl_sub)) gPa_new (by
    rw [List.drop_zero]
    show 0 + _ ≤ 826
    omega) (fun k hk => (hA.2 k hk).1)
  rw [List.drop_zero] at t2
  have hs := shw_ok (H := H) (tl := tl) (m := m) hA
  refine ⟨S2, e2, ⟨t2, hs.1⟩, f1.trans f2, ?_⟩
  have := t2.2.2.2.2.1 0 (by omega) hs.1.2.2.2.2.2.2.2.2.1
  rw [this]
  congr 1
  have := hs.2.2
  unfold shw at this
  rw [this]; rfl
end QX
