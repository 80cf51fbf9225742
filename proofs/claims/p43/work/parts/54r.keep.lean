-- LEVEL 2, A TREE EMPTIED; A TREE KEPT IN ORDER
/-- nothing but the row c was written -/
def frA (c : Nat) (S S' : kS) : Prop := (∀ d, d ≠ c → kA S' d = kA S d) ∧ kJ S' = kJ S ∧ kL S' = kL S ∧ kI S' = kI S ∧ S'.2.2.2.2 = S.2.2.2.2
def frJ (c : Nat) (S S' : kS) : Prop := (∀ d, d ≠ c → kJ S' d = kJ S d) ∧ kA S' = kA S ∧ kL S' = kL S ∧ kI S' = kI S ∧ S'.2.2.2.2 = S.2.2.2.2
theorem q_fillI_5 {N c z : Nat} (hz : z ≤ 1000) {v : Int32} : ∀ (n k i : Nat) (S : kS), i + k = z → k < n → (∀ j, j < i → kA S c j = v) → ∃ S', pJ7_fill_53178_5 N c z n v (zI (i : Nat)) (zI (z : Nat)) S = some ((), S') ∧ (∀ j, j < z → kA S' c j = v) ∧ frA c S S'
  | 0, k, i, S, hk, hn, h => by omega
  | n + 1, k, i, S, hk, hn, h => by
    simp only [pJ7_fill_53178_5, nm_i]
    rw [il_le (by omega) (by omega) (by omega) (by omega)]
    cases k with
    | zero =>
      rw [if_pos (by omega)]
      exact ⟨S, rfl, fun j hj => h j (by omega), fun _ _ => rfl, rfl, rfl, rfl, rfl⟩
    | succ k =>
      rw [if_neg (by omega), gd_n (by omega) (by omega), svk_i, zI_cn (by omega), zL_1, zI_add, show (i : Int) + 1 = ((i + 1 : Nat) : Int) by omega]
      obtain ⟨S', e1, e2, f1, f2, f3, f4, f5⟩ := q_fillI_5 hz n k (i + 1) (sA S c i v) (by omega) (by omega) (fun j hj => by
        rw [kA_sA_s]
        by_cases q : j = i
        · rw [q, upd_s]
        · rw [upd_o _ _ q]; exact h j (by omega))
      exact ⟨S', e1, e2, fun d hd => (f1 d hd).trans (kA_sA_o _ _ _ hd), f2, f3, f4, f5⟩
theorem q_fillI {N c z : Nat} (hz : z ≤ 1000) (hN : 1001 ≤ N) {v : Int32} {S : kS} : ∃ S', pJ7_fill_53178 N c z v S = some ((), S') ∧ (∀ j, j < z → kA S' c j = v) ∧ frA c S S' := by
  simp only [pJ7_fill_53178, nm_i]
  rw [zL]
  exact q_fillI_5 hz N z 0 S (by omega) (by omega) (fun j hj => by omega)
theorem q_fillJ_6 {N c z : Nat} (hz : z ≤ 1000) {v : Int64} : ∀ (n k i : Nat) (S : kS), i + k = z → k < n → (∀ j, j < i → kJ S c j = v) → ∃ S', pJ7_fill_d0a16_6 N c z n v (zI (i : Nat)) (zI (z : Nat)) S = some ((), S') ∧ (∀ j, j < z → kJ S' c j = v) ∧ frJ c S S'
  | 0, k, i, S, hk, hn, h => by omega
  | n + 1, k, i, S, hk, hn, h => by
    simp only [pJ7_fill_d0a16_6, nm_i]
    rw [il_le (by omega) (by omega) (by omega) (by omega)]
    cases k with
    | zero =>
      rw [if_pos (by omega)]
      exact ⟨S, rfl, fun j hj => h j (by omega), fun _ _ => rfl, rfl, rfl, rfl, rfl⟩
    | succ k =>
      rw [if_neg (by omega), gd_n (by omega) (by omega), svk_i, zI_cn (by omega), zL_1, zI_add, show (i : Int) + 1 = ((i + 1 : Nat) : Int) by omega]
      obtain ⟨S', e1, e2, f1, f2, f3, f4, f5⟩ := q_fillJ_6 hz n k (i + 1) (sJ S c i v) (by omega) (by omega) (fun j hj => by
        rw [kJ_sJ_s]
        by_cases q : j = i
        · rw [q, updL_s]
        · rw [updL_o _ _ q]; exact h j (by omega))
      exact ⟨S', e1, e2, fun d hd => (f1 d hd).trans (kJ_sJ_o _ _ _ hd), f2, f3, f4, f5⟩
theorem q_fillJ {N c z : Nat} (hz : z ≤ 1000) (hN : 1001 ≤ N) {v : Int64} {S : kS} : ∃ S', pJ7_fill_d0a16 N c z v S = some ((), S') ∧ (∀ j, j < z → kJ S' c j = v) ∧ frJ c S S' := by
  simp only [pJ7_fill_d0a16, nm_i]
  rw [zL]
  exact q_fillJ_6 hz N z 0 S (by omega) (by omega) (fun j hj => by omega)
theorem frA.t {t c : Nat} {S S' : kS} (h : frA c S S') (h1 : 26 + 15 * t ≤ c) (h2 : c ≤ 26 + 15 * t + 14) : frT t S S' :=
  ⟨fun d h3 => h.1 d (by omega), fun d _ => by rw [h.2.1], fun q _ _ => by rw [h.2.2.1], fun q _ => by rw [h.2.2.2.1], h.2.2.2.2⟩
theorem frJ.t {t c : Nat} {S S' : kS} (h : frJ c S S') (h1 : 26 + 15 * t ≤ c) (h2 : c ≤ 26 + 15 * t + 14) : frT t S S' :=
  ⟨fun d _ => by rw [h.2.1], fun d h3 => h.1 d (by omega), fun q _ _ => by rw [h.2.2.1], fun q _ => by rw [h.2.2.2.1], h.2.2.2.2⟩
theorem fr_sI {t q : Nat} {S : kS} {v : Int32} (h1 : 40 + 3 * t ≤ q) (h2 : q ≤ 42 + 3 * t) : frT t S (sI S q v) :=
  ⟨fun _ _ => rfl, fun _ _ => rfl, fun _ _ _ => rfl, fun d h3 => upd_o _ _ (by omega), rfl⟩
theorem lb_1e (i : Nat) : lb 1 i = decide (i = 0) := lb_1 i
theorem q_clear {N t : Nat} (hN : 1001 ≤ N) {S : kS} (h0 : kA S (26 + 15 * t + 5) 0 = zI 0) : ∃ S', pX8_clear N t S = some ((), S') ∧ tR S' t tNew ∧ frT t S S' := by
  simp only [pX8_clear, pX6_clear, pX5_clear, svk_i]
  obtain ⟨S1, e1, v1, f1⟩ := q_fillI (N := N) (c := 26 + 15 * t + 1) (z := 48) (by omega) hN (v := 0) (S := S)
  obtain ⟨S2, e2, v2, f2⟩ := q_fillI (N := N) (c := 26 + 15 * t + 2) (z := 48) (by omega) hN (v := -1) (S := S1)
  obtain ⟨S3, e3, v3, f3⟩ := q_fillI (N := N) (c := 26 + 15 * t + 3) (z := 48) (by omega) hN (v := -1) (S := S2)
  obtain ⟨S4, e4, v4, f4⟩ := q_fillI (N := N) (c := 26 + 15 * t + 4) (z := 48) (by omega) hN (v := -1) (S := S3)
  obtain ⟨S5, e5, v5, f5⟩ := q_fillJ (N := N) (c := 26 + 15 * t + 7) (z := 288) (by omega) hN (v := 0) (S := S4)
  obtain ⟨S6, e6, v6, f6⟩ := q_fillJ (N := N) (c := 26 + 15 * t + 8) (z := 288) (by omega) hN (v := 0) (S := S5)
  rw [e1, bk_i, e2, bk_i, e3, bk_i, e4, bk_i, e5, bk_i, e6, bk_i, bk_i, bk_i, bk_i]
  refine ⟨_, rfl, ?_, ?_⟩
  · have k1 : ∀ j, j < 48 → kA S6 (26 + 15 * t + 1) j = 0 := fun j hj => by
      rw [f6.2.1, f5.2.1, f4.1 _ (by omega), f3.1 _ (by omega), f2.1 _ (by omega)]; exact v1 j hj
    have k2 : ∀ j, j < 48 → kA S6 (26 + 15 * t + 2) j = -1 := fun j hj => by
      rw [f6.2.1, f5.2.1, f4.1 _ (by omega), f3.1 _ (by omega)]; exact v2 j hj
    have k3 : ∀ j, j < 48 → kA S6 (26 + 15 * t + 3) j = -1 := fun j hj => by
      rw [f6.2.1, f5.2.1, f4.1 _ (by omega)]; exact v3 j hj
    have k4 : ∀ j, j < 48 → kA S6 (26 + 15 * t + 4) j = -1 := fun j hj => by
      rw [f6.2.1, f5.2.1]; exact v4 j hj
    have k5 : kA S6 (26 + 15 * t + 5) 0 = zI 0 := by
      rw [f6.2.1, f5.2.1, f4.1 _ (by omega), f3.1 _ (by omega), f2.1 _ (by omega), f1.1 _ (by omega)]; exact h0
    have k7 : ∀ j, j < 288 → kJ S6 (26 + 15 * t + 7) j = 0 := fun j hj => by
      rw [f6.1 _ (by omega)]; exact v5 j hj
    refine ⟨fun e he => k1 e he, fun e he => k2 e he, fun e he => k3 e he, fun e he => k4 e he, fun e he h => ?_, fun i hi => ?_, fun i hi => ?_, fun e c r s h1 h2 h3 h4 => ?_, fun k i h1 h2 h3 => ?_, [], [], ?_, ?_, List.Perm.nil, List.Perm.nil⟩
    · have : e = 0 := of_decide_eq_true h
      subst this
      exact k5
    · show lb (vp_updL (vp_updL _ _ _) _ _ (8 + 2 * t)) i = _
      rw [updL_o _ _ (by omega), updL_s, lb_1]
      show decide (i = 0) = (decide (i < 48) && decide (i = 0))
      by_cases q : i = 0
      · subst q; rfl
      · rw [decide_eq_false q, Bool.and_false]
    · show lb (vp_updL _ _ _ (9 + 2 * t)) i = _
      rw [updL_s, lb_0]
      exact (Bool.and_false _).symm
    · show lb (kJ S6 _ _) _ = _ ∧ lb (kJ S6 _ _) _ = _
      rw [k7 _ (by omega), v6 _ (by omega), lb_0]
      exact ⟨rfl, rfl⟩
    · show lb (kJ S6 _ _) _ = _ ∧ lb (kJ S6 _ _) _ = _
      rw [k7 _ h1, v6 _ h1, lb_0]
      exact ⟨rfl, rfl⟩
    · exact ⟨by
        show upd (upd _ _ _) _ _ (40 + 3 * t + 0) = _
        rw [upd_o _ _ (by omega), upd_s]; rfl, fun i h => absurd h (Nat.not_lt_zero _), List.Pairwise.nil, fun x h => absurd h List.not_mem_nil, Nat.zero_le _⟩
    · exact ⟨by
        show upd (upd _ _ _) _ _ (40 + 3 * t + 1) = _
        rw [upd_s]; rfl, fun i h => absurd h (Nat.not_lt_zero _), List.Pairwise.nil, fun x h => absurd h List.not_mem_nil, Nat.zero_le _⟩
  · refine (((((((((f1.t (by omega) (by omega)).trans (f2.t (by omega) (by omega))).trans (f3.t (by omega) (by omega))).trans (f4.t (by omega) (by omega))).trans (f5.t (by omega) (by omega))).trans (f6.t (by omega) (by omega))).trans (fr_sI (q := 40 + 3 * t + 0) (by omega) (by omega))).trans (fr_sI (q := 40 + 3 * t + 1) (by omega) (by omega))).trans (fr_sL (Or.inl rfl))).trans (fr_sL (Or.inr rfl))
theorem tW_new : tW tNew := by
  refine ⟨⟨fun e _ => by show (-1 : Int) < 48; omega, fun e _ => ?_⟩, fun e _ => Int.le_refl _, fun e _ => ⟨Int.le_refl _, by show (0 : Int) < 100; omega⟩, fun e _ => ⟨Int.le_refl _, by show (-1 : Int) < 8; omega⟩, fun e _ => ⟨Int.le_refl _, by show (-1 : Int) < 104; omega⟩, fun e _ => by show (0 : Nat) < 1000000; omega, fun x h => absurd h List.not_mem_nil, fun e k => Nat.zero_le _, rfl, rfl⟩
  rw [climb_s (by omega), climb_neg _ (show tPa tNew (e : Int).toNat < 0 by show (-1 : Int) < 0; omega)]
  show (-1 : Int) < 0
  omega
/-- what a change keeps -/
theorem vAll_ok {H : sH} {e : Nat} (he : e < 48) : ∀ (cs : List (Nat × Nat)) (vs : List (Nat × Nat × Nat)), (∀ x ∈ cs, x.1 < 10 ∧ x.2 < 1000) → (∀ x ∈ vs, vOk x) → ∀ x ∈ cs.foldl (fun vs x => vTake H vs e x.1 x.2) vs, vOk x
  | [], vs, _, h => h
  | c :: cs, vs, hc, h => vAll_ok he cs _ (fun x hx => hc x (List.mem_cons_of_mem _ hx)) (vTake_ok h ⟨he, (hc c List.mem_cons_self).1, (hc c List.mem_cons_self).2⟩)
theorem vAll_len {H : sH} {e : Nat} : ∀ (cs : List (Nat × Nat)) (vs : List (Nat × Nat × Nat)), (cs.foldl (fun vs x => vTake H vs e x.1 x.2) vs).length ≤ vs.length + cs.length
  | [], vs => Nat.le_refl _
  | c :: cs, vs => by
    have h1 := vAll_len (H := H) (e := e) cs (vTake H vs e c.1 c.2)
    have h2 := vTake_len (H := H) (vs := vs) (e := e) (a := c.1) (v := c.2)
    rw [List.foldl_cons, List.length_cons]
    omega
theorem upf_all {α : Type} {P : Nat → α → Prop} {f : Nat → α} {e : Nat} {v : α} (h : ∀ j, j < 48 → P j (f j)) (hv : P e v) : ∀ j, j < 48 → P j (upf f e v j) := fun j hj => by
  by_cases q : j = e
  · subst q; rw [upf_s]; exact hv
  · rw [upf_o _ _ q]; exact h j hj
theorem tW_take {H : sH} {T : sT} {c : sCh} (h : tW T) (hc : cOk c) (hno : cK c = 0 → cY c ≠ cE c ∧ ∀ x, x < 48 → tPa T x ≠ cE c) : tW (tTake H T c) := by
  obtain ⟨w1, w2, w3, w4, w5, w6, w7, w8, w9, w10⟩ := id h
  obtain ⟨ck, ce, cm, cn, cs, cadd, cval, cname, clink, crule, cmove, cdel⟩ := id hc
  unfold tTake
  by_cases k0 : cK c = 0
  · obtain ⟨a1, a2, a3, a4, a5, a6, a7, a8, a9⟩ := cadd k0
    rw [if_pos k0]
    refine ⟨w1.fresh a5 (hno k0).1 (hno k0).2, upf_all (P := fun _ x => -1 ≤ x) w2 (by omega), upf_all (P := fun _ x => 0 ≤ x ∧ x < 100) w3 ⟨a6, a7⟩, upf_all (P := fun _ x => -1 ≤ x ∧ x < 8) w4 ⟨by omega, a3⟩, w5, upf_all (P := fun _ x => x < 1000000) w6 (by unfold cR; omega), vAll_ok ce _ _ a8 w7, w8, ?_, w10⟩
    show upf (tTh T) (cE c) true 0 = true
    rw [upf_o _ _ (by omega)]; exact w9
  · rw [if_neg k0]
    by_cases k1 : cK c = 1
    · obtain ⟨a1, a2, a3, a4⟩ := cval (by omega) (by omega)
      rw [if_pos k1]
      exact ⟨w1, w2, w3, w4, w5, w6, vTake_ok w7 ⟨ce, by show (cX c).toNat < 10; omega, by show (cY c).toNat < 1000; omega⟩, w8, w9, w10⟩
    · rw [if_neg k1]
      by_cases k2 : cK c = 2
      · rw [if_pos k2]
        exact ⟨w1, w2, w3, w4, w5, w6, vDrop_ok w7, w8, w9, w10⟩
      · rw [if_neg k2]
        by_cases k3 : cK c = 3
        · obtain ⟨a1, a2, a3, a4⟩ := cval (by omega) (by omega)
          rw [if_pos k3]
          refine ⟨w1, w2, w3, w4, w5, w6, fun x hx => ?_, w8, w9, w10⟩
          rcases List.mem_append.mp hx with g | g
          · exact vDrop_ok w7 x g
          · rw [List.mem_singleton] at g
            rw [g]
            exact ⟨ce, by show (cX c).toNat < 10; omega, by show (cY c).toNat < 1000; omega⟩
        · rw [if_neg k3]
          by_cases k4 : cK c = 4
          · rw [if_pos k4]
            exact ⟨w1, w2, upf_all (P := fun _ x => 0 ≤ x ∧ x < 100) w3 (cname k4), w4, w5, w6, w7, w8, w9, w10⟩
          · rw [if_neg k4]
            by_cases k5 : cK c = 5
            · rw [if_pos k5]
              exact ⟨w1, w2, w3, w4, upf_all (P := fun _ x => -1 ≤ x ∧ x < 104) w5 (clink k5), w6, w7, w8, w9, w10⟩
            · rw [if_neg k5]
              by_cases k6 : cK c = 6
              · rw [if_pos k6]
                refine ⟨w1, w2, w3, w4, w5, w6, w7, fun e k => ?_, w9, w10⟩
                show upf (tSy T) (cE c) (upf (tSy T (cE c)) (cX c).toNat (cY c).toNat) e k ≤ 2
                by_cases q : e = cE c
                · rw [q, upf_s]
                  by_cases q2 : k = (cX c).toNat
                  · rw [q2, upf_s]
                    have := crule k6
                    omega
                  · rw [upf_o _ _ q2]; exact w8 _ _
                · rw [upf_o _ _ q]; exact w8 _ _
              · rw [if_neg k6]
                by_cases k7 : cK c = 7
                · rw [if_pos k7]
                  obtain ⟨a1, a2⟩ := cmove k7
                  cases hcm : pCome (tPa T) 48 (cX c) (cE c) with
                  | true =>
                    rw [if_pos rfl]
                    exact ⟨w1, w2, w3, w4, w5, w6, w7, w8, w9, w10⟩
                  | false =>
                    rw [if_neg (by decide)]
                    exact ⟨w1.move a2 hcm, upf_all (P := fun _ x => -1 ≤ x) w2 (by omega), w3, w4, w5, w6, w7, w8, w9, w10⟩
                · rw [if_neg k7]
                  refine ⟨w1, w2, w3, w4, w5, w6, w7, w8, w9, ?_⟩
                  have := cdel (by omega)
                  show upf (tDd T) (cE c) true 0 = false
                  rw [upf_o _ _ (by omega)]; exact w10
theorem tVs_len {H : sH} {T : sT} {c : sCh} : (tVs (tTake H T c)).length ≤ (tVs T).length + cWt c := by
  unfold tTake cWt
  by_cases k0 : cK c = 0
  · rw [if_pos k0, if_pos k0]; exact vAll_len _ _
  · rw [if_neg k0, if_neg k0]
    by_cases k1 : cK c = 1
    · rw [if_pos k1, if_pos (Or.inl k1)]; exact vTake_len
    · rw [if_neg k1]
      by_cases k2 : cK c = 2
      · rw [if_pos k2, if_neg (by omega)]; exact vDrop_len
      · rw [if_neg k2]
        by_cases k3 : cK c = 3
        · rw [if_pos k3, if_pos (Or.inr k3)]
          show (_ ++ _ : List _).length ≤ _
          have := vDrop_len (H := H) (vs := tVs T) (e := cE c) (a := (cX c).toNat) (all := true) (v := (cY c).toNat)
          rw [List.length_append, List.length_singleton]; omega
        · rw [if_neg k3, if_neg (show ¬ (cK c = 1 ∨ cK c = 3) by omega)]
          repeat' split
          all_goals exact Nat.le_refl _
/-- the root's rank -/
theorem tBn_0 {H : sH} {T : sT} {c : sCh} (hc : cOk c) (h : tBn T 0 = 0) : tBn (tTake H T c) 0 = 0 := by
  unfold tTake
  by_cases k0 : cK c = 0
  · rw [if_pos k0]
    have := (hc.2.2.2.2.2.1 k0).1
    show upf (tBn T) (cE c) (cR c) 0 = 0
    rw [upf_o _ _ (by omega)]; exact h
  · rw [if_neg k0]
    repeat' split
    all_goals exact h

