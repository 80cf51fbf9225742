-- LEVEL 2, THE REFERENCE LAYS A MASTER'S TREE
def rVw (M : mS) (tl : Nat → Nat → Nat → Nat) : Prop := ∀ m i j, m < 4 → i < 4 → j < 4 → M.2 19 (16 * m + 4 * i + j) = zI (tl m i j : Nat) ∧ tl m i j ≤ 250
/-- the order and the changes in it -/
def rOr (M : mS) (cs : Nat → sCh) (o : List Nat) : Prop := M.1 22 = zI (o.length : Nat) ∧ o.length ≤ 250 ∧ (∀ i (h : i < o.length), M.2 36 i = zI (o[i] : Nat)) ∧ ∀ k ∈ o, k < 250 ∧ rCh M k (cs k) ∧ cOk (cs k)
theorem rOr_fr {M M' : mS} {cs : Nat → sCh} {o : List Nat} (h : rfT M M') (R : rOr M cs o) : rOr M' cs o := by
  obtain ⟨r1, r2, r3, r4⟩ := R
  exact ⟨by rw [h.1 _ (by omega)]; exact r1, r2, by rw [h.2 36 (by omega)]; exact r3, fun k hk => ⟨(r4 k hk).1, rCh_fr h (r4 k hk).2.1, (r4 k hk).2.2⟩⟩
theorem rVw_fr {M M' : mS} {tl : Nat → Nat → Nat → Nat} (h : rfT M M') (R : rVw M tl) : rVw M' tl := by
  unfold rVw at *
  rw [h.2 19 (by omega)]
  exact R
/-- where in the order an entry came -/
def rB (M : mS) (T : sT) (p : Nat) : Prop := ∃ b : Nat → Nat, (∀ e, 1 ≤ e → e < 48 → tTh T e = true → M.2 44 e = zI (b e : Nat) ∧ b e < p) ∧ ∀ e f, 1 ≤ e → e < 48 → tTh T e = true → 1 ≤ f → f < 48 → tTh T f = true → (b e < b f ↔ tBn T e < tBn T f)
def gBn (cs : Nat → sCh) (T : sT) (l : List Nat) : Prop := ∀ k ∈ l, ∀ e, 1 ≤ e → e < 48 → tTh T e = true → tBn T e < cR (cs k)
theorem tBn_take {H : sH} {T : sT} {c : sCh} : (cK c = 0 ∧ tTh (tTake H T c) = upf (tTh T) (cE c) true ∧ tBn (tTake H T c) = upf (tBn T) (cE c) (cR c)) ∨ (cK c ≠ 0 ∧ tTh (tTake H T c) = tTh T ∧ tBn (tTake H T c) = tBn T) := by
  unfold tTake
  by_cases k0 : cK c = 0
  · rw [if_pos k0]; exact Or.inl ⟨k0, rfl, rfl⟩
  · rw [if_neg k0]
    refine Or.inr ⟨k0, ?_⟩
    repeat' split
    all_goals exact ⟨rfl, rfl⟩
theorem gBn_take {H : sH} {cs : Nat → sCh} {T : sT} {k : Nat} {l : List Nat} (h : (k :: l).Pairwise (fun a b => cR (cs a) < cR (cs b))) (p : gBn cs T (k :: l)) : gBn cs (tTake H T (cs k)) l := fun k' hk e h1 h2 h3 => by
  have hlt := (List.pairwise_cons.mp h).1 k' hk
  rcases tBn_take (H := H) (T := T) (c := cs k) with ⟨q1, q2, q3⟩ | ⟨q1, q2, q3⟩
  · rw [q2] at h3
    rw [q3]
    by_cases g : e = cE (cs k)
    · rw [g, upf_s]; exact hlt
    · rw [upf_o _ _ g] at h3 ⊢
      exact p k' (List.mem_cons_of_mem _ hk) e h1 h2 h3
  · rw [q2] at h3
    rw [q3]
    exact p k' (List.mem_cons_of_mem _ hk) e h1 h2 h3
theorem rB_take {M M' : mS} {H : sH} {cs : Nat → sCh} {T : sT} {k p : Nat} {l : List Nat} (g : gBn cs T (k :: l)) (R : rB M T p) (h : M'.2 44 = (if cK (cs k) = 0 then upd (M.2 44) (cE (cs k)) (zI (p : Nat)) else M.2 44)) : rB M' (tTake H T (cs k)) (p + 1) := by
  obtain ⟨b, r1, r2⟩ := R
  rcases tBn_take (H := H) (T := T) (c := cs k) with ⟨q1, q2, q3⟩ | ⟨q1, q2, q3⟩
  · rw [if_pos q1] at h
    have gk := g k List.mem_cons_self
    refine ⟨upf b (cE (cs k)) p, fun e h1 h2 h3 => ?_, fun e f h1 h2 h3 h4 h5 h6 => ?_⟩
    · rw [h]
      rw [q2] at h3
      by_cases ge : e = cE (cs k)
      · rw [ge, upd_s, upf_s]; exact ⟨rfl, by omega⟩
      · rw [upf_o _ _ ge] at h3
        rw [upd_o _ _ ge, upf_o _ _ ge]
        have := r1 e h1 h2 h3
        exact ⟨this.1, by omega⟩
    · rw [q2] at h3 h6
      rw [q3]
      by_cases ge : e = cE (cs k)
      · by_cases gf : f = cE (cs k)
        · rw [ge, gf]; omega
        · rw [upf_o _ _ gf] at h6
          rw [ge, upf_s, upf_s, upf_o _ _ gf, upf_o _ _ gf]
          have a1 := (r1 f h4 h5 h6).2
          have a2 := gk f h4 h5 h6
          omega
      · rw [upf_o _ _ ge] at h3
        by_cases gf : f = cE (cs k)
        · rw [gf, upf_s, upf_s, upf_o _ _ ge, upf_o _ _ ge]
          have a1 := (r1 e h1 h2 h3).2
          have a2 := gk e h1 h2 h3
          omega
        · rw [upf_o _ _ gf] at h6
          rw [upf_o _ _ ge, upf_o _ _ ge, upf_o _ _ gf, upf_o _ _ gf]
          exact r2 e f h1 h2 h3 h4 h5 h6
  · rw [if_neg q1] at h
    refine ⟨b, fun e h1 h2 h3 => ?_, fun e f h1 h2 h3 h4 h5 h6 => ?_⟩
    · rw [q2] at h3
      rw [h]
      have := r1 e h1 h2 h3
      exact ⟨this.1, by omega⟩
    · rw [q2] at h3 h6
      rw [q3]
      exact r2 e f h1 h2 h3 h4 h5 h6
section RL
variable {N : Nat} {H : sH} {T : sT} {cs : Nat → sCh} {ar : Nat → Nat} {tl : Nat → Nat → Nat → Nat} {o : List Nat} {m : Nat}
theorem r_isKnown {M : mS} (V : rVw M tl) (hm : m < 4) {k : Nat} {c : sCh} (C : rCh M k c) (hc : cOk c) (hk : k < 250) : pf_isKnown N (zI (m : Nat)) (zI (k : Nat)) M = some (zB (gotB (tl m) m c), M) := by
  obtain ⟨-, -, -, c24, c25, -⟩ := C
  obtain ⟨-, -, cm, cn, -⟩ := hc
  obtain ⟨v1, v2⟩ := V m m (cM c) hm hm cm
  simp only [pf_isKnown, gd_n hk (show (250 : Nat) < 2147483648 by omega), zI_cn (show k < 2147483648 by omega), c24, c25]
  rw [zL_20, zI_mul, zI_add, show (20 : Int) * (m : Int) + (cM c : Int) = ((16 * m + 4 * m + cM c : Nat) : Int) by omega, gd_n (by omega) (by omega), zI_cn (by omega), v1, il_le (by omega) (by omega) (by omega) (by omega)]
  unfold gotB
  by_cases q : cN c < tl m m (cM c)
  · rw [if_neg (by omega), decide_eq_true q]; rfl
  · rw [if_pos (by omega), decide_eq_false q]; rfl
theorem r_lays_107 (hN : 901 ≤ N) (hm : m < 4) {k146 : mS → Option (Int32 × mS)} : ∀ (n k i : Nat) (M : mS) (T : sT), i + k = o.length → k < n → rSc M H → rOr M cs o → rVw M tl → rT M T → tW T → rB M T i → gAr cs ar (knl (tl m) m cs (o.drop i)) → gPa cs ar T (knl (tl m) m cs (o.drop i)) → gBn cs T (knl (tl m) m cs (o.drop i)) → (tVs T).length + wS cs (knl (tl m) m cs (o.drop i)) ≤ 900 → ∃ M', pf_lays_107 N k146 n (zI (m : Nat)) (zI (i : Nat)) M = k146 M' ∧ rT M' (rpl H cs T (knl (tl m) m cs (o.drop i))) ∧ rB M' (rpl H cs T (knl (tl m) m cs (o.drop i))) o.length ∧ rfT M M'
  | 0, k, i, M, T, _, hn, _, _, _, _, _, _, _, _, _, _ => by omega
  | n + 1, k, i, M, T, hk, hn, S, O, V, R, W, B, hA, hP, hB, hl => by
    obtain ⟨o1, o2, o3, o4⟩ := id O
    simp only [pf_lays_107, pf_lays_140, nm_i]
    rw [o1, il_le (by omega) (by omega) (by omega) (by omega)]
    cases k with
    | zero =>
      rw [if_pos (by omega), List.drop_eq_nil_of_le (by omega)]
      have : i = o.length := by omega
      rw [this] at B
      exact ⟨M, rfl, R, B, rfT.rf⟩
    | succ k =>
      have hi : i < o.length := by omega
      obtain ⟨h5, C, hc⟩ := o4 _ (List.getElem_mem hi)
      rw [if_neg (by omega)]
      simp only [gd_n (show i < 250 by omega) (show (250 : Nat) < 2147483648 by omega), zI_cn (show i < 2147483648 by omega)]
      rw [o3 i hi, r_isKnown V hm C hc h5, bd_i, il_B, zL_1, zI_add, show (i : Int) + 1 = ((i + 1 : Nat) : Int) by omega]
      have ed : o.drop i = o[i] :: o.drop (i + 1) := List.drop_eq_getElem_cons hi
      cases hg : gotB (tl m) m (cs o[i]) with
      | false =>
        have e1 : knl (tl m) m cs (o.drop i) = knl (tl m) m cs (o.drop (i + 1)) := by unfold knl; rw [ed, List.filter_cons, hg]; rfl
        rw [e1] at hA hP hB hl ⊢
        rw [if_neg (by decide)]
        obtain ⟨b, b1, b2⟩ := B
        exact r_lays_107 hN hm n k (i + 1) M T (by omega) (by omega) S O V R W ⟨b, fun e h1 h2 h3 => ⟨(b1 e h1 h2 h3).1, by have := (b1 e h1 h2 h3).2; omega⟩, b2⟩ hA hP hB hl
      | true =>
        have e1 : knl (tl m) m cs (o.drop i) = o[i] :: knl (tl m) m cs (o.drop (i + 1)) := by unfold knl; rw [ed, List.filter_cons, hg]; rfl
        rw [e1] at hA hP hB hl ⊢
        rw [wS_cons] at hl
        rw [if_pos rfl, o3 i hi]
        obtain ⟨M1, q1, R1, h44, f1⟩ := r_does (N := N) (p := i) hN S R W C hc h5 (by omega)
        have hl2 := tVs_len (H := H) (T := T) (c := cs o[i])
        obtain ⟨M2, q2, R2, B2, f2⟩ := r_lays_107 hN hm (k146 := k146) n k (i + 1) M1 (tTake H T (cs o[i])) (by omega) (by omega) (rSc_fr f1 S) (rOr_fr f1 O) (rVw_fr f1 V) R1 (tW_take W hc (gPa_no hA hP)) (rB_take hB B h44) hA.tail (gPa_take hA hP) (gBn_take hA.1 hB) (by omega)
        rw [q1, bd_i]
        exact ⟨M2, q2, R2, B2, f1.trans f2⟩
theorem r_isLive {M : mS} (R : rT M T) {x : Int} (h1 : -2147483648 ≤ x) (h2 : x < 2147483648) : pf_isLive N (zI x) M = some (zB (tLv T x), M) := by
  simp only [pf_isLive]
  rw [zL_0, show (47 : Int32) = zI 47 from rfl, r_in h1 h2 (by omega) (by omega) (by omega) (by omega), bs_i, ← zL_0, il_B]
  by_cases q : 0 ≤ x ∧ x ≤ 47
  · obtain ⟨e, rfl⟩ : ∃ e : Nat, x = e := ⟨x.toNat, by omega⟩
    have he : e < 48 := by omega
    rw [decide_eq_true q.1, decide_eq_true q.2, if_pos (by rfl), gd_n he (by omega), zI_cn (by omega), R.1 e he, il_B, gd_n he (by omega), R.2.1 e he, il_B, tLv_in he]
    cases tTh T e <;> cases tDd T e <;> rfl
  · rw [if_neg (by
      rw [Bool.and_eq_true, decide_eq_true_eq, decide_eq_true_eq]; exact q), tLv_out (by omega)]
    rfl
end RL
