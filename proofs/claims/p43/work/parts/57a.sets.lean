-- LEVEL 2, FILTERS: THE CLASS, BY SETS
theorem pVal_3 {H : sH} {T : sT} {e : Nat} {p : Nat × Int × Int} {f g : Nat → Bool} (h : p.1 ≤ 3) : pVal H T e p f = pVal H T e p g := by
  unfold pVal
  by_cases q0 : p.1 = 0
  · rw [if_pos q0, if_pos q0]
  · by_cases q1 : p.1 = 1
    · rw [if_neg q0, if_pos q1, if_neg q0, if_pos q1]
    · by_cases q2 : p.1 = 2
      · rw [if_neg q0, if_neg q1, if_pos q2, if_neg q0, if_neg q1, if_pos q2]
      · rw [if_neg q0, if_neg q1, if_neg q2, if_pos (by omega), if_neg q0, if_neg q1, if_neg q2, if_pos (by omega)]
theorem snoc_at {α : Type} {s : List α} {a : α} : (s ++ [a])[s.length]? = some a := by
  rw [List.getElem?_append_right (Nat.le_refl _), Nat.sub_self]; rfl
theorem snoc_lt {α : Type} {s t : List α} {j : Nat} {k : α} (h : s[j]? = some k) : (s ++ t)[j]? = some k := by
  rw [List.getElem?_append_left (List.getElem?_eq_some_iff.mp h).1]
  exact h
theorem snoc_of {α : Type} {s : List α} {a k : α} {j : Nat} (h : (s ++ [a])[j]? = some k) : (j < s.length ∧ s[j]? = some k) ∨ (j = s.length ∧ k = a) := by
  rcases Nat.lt_or_ge j s.length with q | q
  · rw [List.getElem?_append_left q] at h
    exact Or.inl ⟨q, h⟩
  · rw [List.getElem?_append_right q] at h
    have := (List.getElem?_eq_some_iff.mp h)
    obtain ⟨h1, h2⟩ := this
    rw [List.length_singleton] at h1
    have : j - s.length = 0 := by omega
    simp only [this] at h2
    exact Or.inr ⟨by omega, h2.symm⟩
section UC
variable {N : Nat} {S : kS} {W : sW} {T : sT} {H : sH}
theorem frJ.rf {c : Nat} {S : kS} : frJ c S S := ⟨fun _ _ => rfl, rfl, rfl, rfl, rfl⟩
theorem frJ.trans {c : Nat} {S S' S2 : kS} (h : frJ c S S') (h2 : frJ c S' S2) : frJ c S S2 := ⟨fun d hd => (h2.1 d hd).trans (h.1 d hd), h2.2.1.trans h.2.1, h2.2.2.1.trans h.2.2.1, h2.2.2.2.1.trans h.2.2.2.1, h2.2.2.2.2.trans h.2.2.2.2⟩
theorem frJ_sJ {c j : Nat} {v : Int64} {S : kS} : frJ c S (sJ S c j v) := ⟨fun d hd => kJ_sJ_o S j v hd, rfl, rfl, rfl, rfl⟩
theorem tOk_11 {S' : kS} {c t : Nat} (hc : c < 26) (f : frJ c S S') (Q : tOk S t T) : tOk S' t T := ⟨tR_other (fun q _ _ => by rw [f.2.2.2.1]) (fun d _ _ => by rw [f.2.1]) (fun d _ _ => f.1 d (by omega)) (by rw [f.2.2.1]) (by rw [f.2.2.1]) Q.1, Q.2⟩
theorem q_setOf_31 {t : Nat} (Q : tOk S t T) (hH : hR S H) (hw : hW H) {q : Nat} (hq : q < 15) {o : Int} (h1 : 0 ≤ o) (h2 : o < 8) (ho : kA S 9 q = zI o) : ∀ (n k i : Nat) (w : Int64), i + k = 48 → k < n → 9 ≤ N → (∀ j, j < 64 → lb w j = (decide (j < i) && (tLv T (j : Nat) && hUp H 8 (tKl T j) o))) → ∃ w', pX2_setOf_31 N t n (zI (q : Nat)) w (zI (i : Nat)) S = some (w', S) ∧ ∀ j, j < 64 → lb w' j = (decide (j < 48) && (tLv T (j : Nat) && hUp H 8 (tKl T j) o))
  | 0, k, i, w, hk, hn, hN, hb => by omega
  | n + 1, k, i, w, hk, hn, hN, hb => by
    simp only [pX2_setOf_31, pX2_setOf_77, nm_i, nml_i]
    rw [zL_48, il_le (by omega) (by omega) (by omega) (by omega)]
    cases k with
    | zero =>
      have : i = 48 := by omega
      subst this
      rw [if_pos (by omega)]
      exact ⟨w, rfl, hb⟩
    | succ k =>
      have hi : i < 48 := by omega
      have ek : zI (i : Nat) + 1 = zI ((i + 1 : Nat) : Int) := by rw [zL_1, zI_add]; congr 1
      have hkl := Q.2.2.2.2.1 i hi
      have no : (tLv T (i : Nat) && hUp H 8 (tKl T i) o) = false → ∃ w', pX2_setOf_31 N t n (zI (q : Nat)) w (zI ((i + 1 : Nat) : Int)) S = some (w', S) ∧ ∀ j, j < 64 → lb w' j = (decide (j < 48) && (tLv T (j : Nat) && hUp H 8 (tKl T j) o)) := fun g => by
        refine q_setOf_31 Q hH hw hq h1 h2 ho n k (i + 1) w (by omega) (by omega) hN (fun j hj => ?_)
        rw [hb j hj]
        by_cases z : j = i
        · subst z
          rw [g, Bool.and_false, Bool.and_false]
        · congr 1
          exact decide_eq_decide.mpr (by omega)
      rw [if_neg (by omega), q_isLive Q (by omega) (by omega), bk_i, il_B, ek]
      by_cases q1 : tLv T (i : Nat) = true
      · rw [if_pos q1, gd_n hi (by omega), gd_n hq (by omega), zI_cn (show i < 2147483648 by omega), zI_cn (show q < 2147483648 by omega), Q.1.2.1 i hi, ho, q_isOrBeneath hH hw hN hkl.1 (by omega) (by omega) (by omega), bk_i, il_B]
        by_cases q2 : hUp H 8 (tKl T i) o = true
        · rw [if_pos q2]
          refine q_setOf_31 Q hH hw hq h1 h2 ho n k (i + 1) _ (by omega) (by omega) hN (fun j hj => ?_)
          rw [lb_or, hb j hj, lb_shl1 (by omega) hj]
          by_cases z : j = i
          · subst z
            rw [q1, q2, decide_eq_true rfl, decide_eq_true (show j < j + 1 by omega), Bool.or_true]; rfl
          · rw [decide_eq_false z, Bool.or_false]
            congr 1
            exact decide_eq_decide.mpr (by omega)
        · rw [if_neg q2]
          exact no (by rw [Bool.eq_false_iff.mpr q2, Bool.and_false])
      · rw [if_neg q1]
        exact no (by rw [Bool.eq_false_iff.mpr q1, Bool.false_and])
theorem q_setOf (hN : 900 ≤ N) {t : Nat} (Q : tOk S t T) (hH : hR S H) (hw : hW H) {P : List (Nat × Int × Int)} {K : List Nat} (F : fcR S H P K) (hP : P.length ≤ 15) (hp : ∀ i (h : i < P.length), pOk H i P[i]) {i : Nat} (hi : i < P.length) (h3 : P[i].1 ≤ 3) : ∃ w, pX2_setOf N t (zI (i : Nat)) S = some (w, S) ∧ ∀ j, j < 64 → lb w j = (decide (j < 48) && (tLv T (j : Nat) && pVal H T j P[i] (fun _ => false))) := by
  have h10 := hw.1
  have h8 := hw.2.1
  obtain ⟨p1, p2, p3, p4⟩ := hp i hi
  obtain ⟨x1, x2, x3⟩ := F.2.2 i hi
  have kk : pcK P[i] = if P[i].1 ≤ 2 then 0 else (P[i].1 : Int) - 2 := rfl
  have hk0 : 0 ≤ pcK P[i] ∧ pcK P[i] ≤ 1 := by rw [kk]; split <;> omega
  have c0 : (zI (pcK P[i]) = (0 : Int32)) ↔ P[i].1 ≤ 2 := by
    rw [zL_0, zI_eq (by omega) (by omega) (by omega) (by omega), kk]
    split <;> omega
  simp only [pX2_setOf]
  rw [gd_n (show i < 15 by omega) (by omega), zI_cn (by omega), x1]
  by_cases q2 : P[i].1 ≤ 2
  · obtain ⟨lo, hi', r1, r2, r3, r4, r5⟩ := rg_val (H := H) Q.2 h10 (p2 q2) q2 (f := fun _ => false)
    obtain ⟨w, e1, e2⟩ := q_holdersBetween (N := N) Q hN r3 r4
    rw [if_pos (c0.mpr q2), gd_n (show i < 15 by omega) (by omega), gd_n (show i < 15 by omega) (by omega), x2, x3, r1, r2, e1, bk_i]
    refine ⟨w, rfl, fun j hj => ?_⟩
    rw [e2 j hj, r5 j]
    by_cases z : j < 48
    · rw [decide_eq_true z, Bool.true_and]
    · rw [tLv_out (Or.inr (by omega)), decide_eq_false z, Bool.false_and, Bool.false_and]
  · have q3 : P[i].1 = 3 := by omega
    obtain ⟨b1, b2⟩ := p3 q3
    have eL : pcL H P[i] = P[i].2.1 := by unfold pcL; rw [if_neg (by omega), if_neg (by omega), if_pos q3]
    rw [eL] at x2
    obtain ⟨w, e1, e2⟩ := q_setOf_31 (N := N) Q hH hw (q := i) (by omega) b1 (by omega) x2 N 48 0 0 (by omega) (by omega) (by omega) (fun j hj => by rw [lb_0, decide_eq_false (show ¬ j < 0 by omega), Bool.false_and])
    have e1 : pX2_setOf_31 N t N (zI (i : Nat)) 0 0 S = _ := e1
    rw [if_neg (fun g => q2 (c0.mp g)), e1]
    refine ⟨w, rfl, fun j hj => ?_⟩
    rw [e2 j hj]
    unfold pVal
    rw [if_neg (by omega), if_neg (by omega), if_neg (by omega), if_pos q3]
/-- the sets so far -/
def stS (S : kS) (H : sH) (T : sT) (P : List (Nat × Int × Int)) (s : List Nat) (i : Nat) : Prop := ∀ j k, s[j]? = some k → ∀ e, e < 64 → lb (kJ S 11 j) e = (decide (e < 48) && (tLv T (e : Nat) && pTs H T e P i k))
theorem q_appliesTo_4 (hN : 900 ≤ N) {t : Nat} (Q : tOk S t T) (hH : hR S H) (hw : hW H) {P : List (Nat × Int × Int)} {K : List Nat} (F : fcR S H P K) (hP : P.length ≤ 15) (hp : ∀ i (h : i < P.length), pOk H i P[i]) {σ : Nat → List Nat} (st : stI P σ) {k186 : Int32 → kS → Option (Int64 × kS)} : ∀ (n k i : Nat) (S' : kS), i + k = P.length → k < n → frJ 11 S S' → stS S' H T P (σ i) i → ∃ S2, pX2_appliesTo_4 N t k186 n (zI ((σ i).length : Nat)) (zI (i : Nat)) S' = k186 (zI ((σ P.length).length : Nat)) S2 ∧ frJ 11 S S2 ∧ stS S2 H T P (σ P.length) P.length
  | 0, k, i, S', hk, hn, f, hx => by omega
  | n + 1, k, i, S', hk, hn, f, hx => by
    have h10 := hw.1
    have h8 := hw.2.1
    have F' : fcR S' H P K := by unfold fcR at *; rw [f.2.2.2.1, f.2.1]; exact F
    have hH' : hR S' H := fr_hR hH (fun q _ => by rw [f.2.2.2.1]) (fun c _ => by rw [f.2.1])
    have Q' : tOk S' t T := tOk_11 (by omega) f Q
    simp only [pX2_appliesTo_4]
    rw [F'.1, il_le (by omega) (by omega) (by omega) (by omega)]
    cases k with
    | zero =>
      have : i = P.length := by omega
      subst this
      rw [if_pos (by omega)]
      exact ⟨S', rfl, f, hx⟩
    | succ k =>
      have hi : i < P.length := by omega
      obtain ⟨p1, p2, p3, p4⟩ := hp i hi
      obtain ⟨x1, x2, x3⟩ := F'.2.2 i hi
      obtain ⟨t0, t1, t2, t3⟩ := st.2.2 i hi
      have hlt := stI_lt st i (by omega)
      have hl8 := st.1 i
      have hl8' := st.1 (i + 1)
      have ek : zI (i : Nat) + 1 = zI ((i + 1 : Nat) : Int) := by rw [zL_1, zI_add]; congr 1
      have hs := fun e => pTs_s (H := H) (T := T) (e := e) hi
      have old : ∀ e k, k < i → pTs H T e P (i + 1) k = pTs H T e P i k := fun e k hk => by rw [hs e, upf_o _ _ (by omega)]
      have new : ∀ e, pTs H T e P (i + 1) i = pVal H T e P[i] (pTs H T e P i) := fun e => by rw [hs e, upf_s]
      have kk : pcK P[i] = if P[i].1 ≤ 2 then 0 else (P[i].1 : Int) - 2 := rfl
      have hk0 : 0 ≤ pcK P[i] ∧ pcK P[i] ≤ 4 := by rw [kk]; split <;> omega
      have c0 : (zI (pcK P[i]) = (0 : Int32)) ↔ P[i].1 ≤ 2 := by
        rw [zL_0, zI_eq (by omega) (by omega) (by omega) (by omega), kk]
        split <;> omega
      have c1 : (zI (pcK P[i]) = (1 : Int32)) ↔ P[i].1 = 3 := by
        rw [zL_1, zI_eq (by omega) (by omega) (by omega) (by omega), kk]
        split <;> omega
      have c2 : (zI (pcK P[i]) = (2 : Int32)) ↔ P[i].1 = 4 := by
        rw [zL_2, zI_eq (by omega) (by omega) (by omega) (by omega), kk]
        split <;> omega
      have c4 : (zI (pcK P[i]) = (4 : Int32)) ↔ P[i].1 = 6 := by
        rw [zL_4, zI_eq (by omega) (by omega) (by omega) (by omega), kk]
        split <;> omega
      -- the next round
      have fin : ∀ S2, frJ 11 S' S2 → stS S2 H T P (σ (i + 1)) (i + 1) → ∃ S3, pX2_appliesTo_180 N t (pX2_appliesTo_4 N t k186 n) (zI ((σ (i + 1)).length : Nat)) (zI (i : Nat)) S2 = k186 (zI ((σ P.length).length : Nat)) S3 ∧ frJ 11 S S3 ∧ stS S3 H T P (σ P.length) P.length := fun S2 f2 h2 => by
        simp only [pX2_appliesTo_180, nm_i]
        rw [ek]
        exact q_appliesTo_4 hN Q hH hw F hP hp st (k186 := k186) n k (i + 1) S2 (by omega) (by omega) (f.trans f2) h2
      rw [if_neg (by omega), gd_n (show i < 15 by omega) (by omega), gd_n (show i < 15 by omega) (by omega), zI_cn (by omega), x1]
      by_cases q3 : P[i].1 ≤ 3
      · -- a filter comes
        have hl := t1 q3
        have hlen : (σ (i + 1)).length = (σ i).length + 1 := by rw [hl, List.length_append, List.length_singleton]
        obtain ⟨w, e1, e2⟩ := q_setOf (N := N) hN Q' hH' hw F' hP hp hi q3
        have go : ∃ S3, pX2_appliesTo_36 N t (pX2_appliesTo_4 N t k186 n) 1 (zI ((σ i).length : Nat)) (zI (i : Nat)) S' = k186 (zI ((σ P.length).length : Nat)) S3 ∧ frJ 11 S S3 ∧ stS S3 H T P (σ P.length) P.length := by
          simp only [pX2_appliesTo_36, nm_i, svk_i]
          rw [if_neg (by decide), zL_8, il_le (by omega) (by omega) (by omega) (by omega), if_neg (by omega), e1, bk_i, gd_n (show (σ i).length < 8 by omega) (by omega), zI_cn (by omega), zL_1, zI_add, show ((σ i).length : Int) + 1 = (((σ (i + 1)).length : Nat) : Int) by omega]
          refine fin _ frJ_sJ (fun j k hj e he => ?_)
          rw [kJ_sJ_s]
          rw [hl] at hj
          rcases snoc_of hj with ⟨g1, g2⟩ | ⟨g1, g2⟩
          · rw [updL_o _ _ (by omega), hx j k g2 e he, old e k (hlt k (List.mem_of_getElem? g2))]
          · rw [g1, updL_s, e2 e he, g2, new e, pVal_3 q3 (g := pTs H T e P i)]
        by_cases q2 : P[i].1 ≤ 2
        · rw [if_pos (c0.mpr q2)]
          exact go
        · rw [if_neg (fun g => q2 (c0.mp g)), if_pos (c1.mpr (by omega))]
          exact go
      · rw [if_neg (fun g => by have := c0.mp g; omega), if_neg (fun g => by have := c1.mp g; omega)]
        simp only [pX2_appliesTo_36, pX2_appliesTo_67, svk_i]
        rw [if_pos trivial, gd_n (show i < 15 by omega) (by omega), zI_cn (by omega), x1]
        by_cases q6 : P[i].1 = 6
        · obtain ⟨s, s1, s2⟩ := t2 q6
          have hl : (σ i).length = s.length + 1 := by rw [s1, List.length_append, List.length_singleton]
          have hl' : (σ (i + 1)).length = s.length + 1 := by rw [s2, List.length_append, List.length_singleton]
          have ea : (σ i)[s.length]? = some P[i].2.1.toNat := by rw [s1]; exact snoc_at
          have g0 : (zI ((σ i).length : Nat) - (1 : Int32)) = zI (s.length : Nat) := by
            rw [zL_1, zI_sub, hl]; congr 1; omega
          have n0 : ¬ (zI ((σ i).length : Nat) ≤ (0 : Int32)) := by
            rw [zL_0, zI_le (by omega) (by omega) (by omega) (by omega)]; omega
          rw [if_pos (c4.mpr q6), if_neg n0, q_living, bk_i, g0, gd_n (show s.length < 8 by omega) (by omega), gd_n (show s.length < 8 by omega) (by omega), zI_cn (by omega), show (σ i).length = (σ (i + 1)).length by omega]
          refine fin _ frJ_sJ (fun j k hj e he => ?_)
          rw [kJ_sJ_s]
          rw [s2] at hj
          rcases snoc_of hj with ⟨g1, g2⟩ | ⟨g1, g2⟩
          · have g3 : (σ i)[j]? = some k := by rw [s1]; exact snoc_lt g2
            rw [updL_o _ _ (by omega), hx j k g3 e he, old e k (hlt k (List.mem_of_getElem? g3))]
          · rw [g1, updL_s, lb_and, lv_bit Q' he, lb_not _ he, hx _ _ ea e he, g2, new e]
            unfold pVal
            rw [if_neg (by omega), if_neg (by omega), if_neg (by omega), if_neg (by omega), if_neg (by omega), if_neg (by omega)]
            by_cases z : e < 48
            · rw [decide_eq_true z, Bool.true_and, Bool.true_and]
              cases tLv T (e : Nat) <;> simp
            · rw [decide_eq_false z, Bool.false_and, Bool.false_and, tLv_out (Or.inr (by omega)), Bool.false_and]
        · obtain ⟨s, s1, s2⟩ := t3 (by omega)
          have hl : (σ i).length = s.length + 2 := by rw [s1, List.length_append]; rfl
          have hl' : (σ (i + 1)).length = s.length + 1 := by rw [s2, List.length_append, List.length_singleton]
          have s1' : σ i = (s ++ [P[i].2.1.toNat]) ++ [P[i].2.2.toNat] := by rw [s1, List.append_assoc]; rfl
          have ea : (σ i)[s.length]? = some P[i].2.1.toNat := by rw [s1']; exact snoc_lt snoc_at
          have eb : (σ i)[s.length + 1]? = some P[i].2.2.toNat := by
            have := snoc_at (s := s ++ [P[i].2.1.toNat]) (a := P[i].2.2.toNat)
            rw [List.length_append, List.length_singleton] at this
            rw [s1']; exact this
          have n0 : ¬ (zI ((σ i).length : Nat) ≤ (1 : Int32)) := by
            rw [zL_1, zI_le (by omega) (by omega) (by omega) (by omega)]; omega
          have g0 : (zI ((σ i).length : Nat) + (-1 : Int32)) = zI ((s.length + 1 : Nat) : Int) := by
            rw [zL_m1, zI_add, hl]; congr 1; omega
          have g1 : (zI ((s.length + 1 : Nat) : Int) - (1 : Int32)) = zI (s.length : Nat) := by
            rw [zL_1, zI_sub]; congr 1; omega
          have lst : ∀ w : Int64, (∀ e, e < 64 → lb w e = (decide (e < 48) && (tLv T (e : Nat) && pVal H T e P[i] (pTs H T e P i)))) → ∃ S3, pX2_appliesTo_179 N t (pX2_appliesTo_4 N t k186 n) w (zI (s.length : Nat)) (zI ((s.length + 1 : Nat) : Int)) (zI (i : Nat)) S' = k186 (zI ((σ P.length).length : Nat)) S3 ∧ frJ 11 S S3 ∧ stS S3 H T P (σ P.length) P.length := fun w hw2 => by
            simp only [pX2_appliesTo_179, svk_i]
            rw [gd_n (show s.length < 8 by omega) (by omega), zI_cn (by omega), ← hl']
            refine fin _ frJ_sJ (fun j k hj e he => ?_)
            rw [kJ_sJ_s]
            rw [s2] at hj
            rcases snoc_of hj with ⟨g1, g2⟩ | ⟨g1, g2⟩
            · have g3 : (σ i)[j]? = some k := by rw [s1]; exact snoc_lt g2
              rw [updL_o _ _ (by omega), hx j k g3 e he, old e k (hlt k (List.mem_of_getElem? g3))]
            · rw [g1, updL_s, hw2 e he, g2, new e]
          rw [if_neg (fun g => q6 (c4.mp g))]
          simp only [pX2_appliesTo_109, nm_i]
          rw [if_neg n0, gd_n (show i < 15 by omega) (by omega), zI_cn (show i < 2147483648 by omega), x1, g0]
          by_cases q4 : P[i].1 = 4
          · rw [if_pos (c2.mpr q4)]
            simp only [pX2_appliesTo_132]
            rw [if_neg (by decide), g1, gd_n (show s.length < 8 by omega) (by omega), gd_n (show s.length + 1 < 8 by omega) (by omega), zI_cn (by omega), zI_cn (by omega)]
            refine lst _ (fun e he => ?_)
            rw [lb_and, hx _ _ ea e he, hx _ _ eb e he]
            unfold pVal
            rw [if_neg (by omega), if_neg (by omega), if_neg (by omega), if_neg (by omega), if_pos q4]
            cases decide (e < 48) <;> cases tLv T (e : Nat) <;> rfl
          · rw [if_neg (fun g => q4 (c2.mp g))]
            simp only [pX2_appliesTo_132]
            rw [if_pos trivial, g1, gd_n (show s.length < 8 by omega) (by omega), gd_n (show s.length + 1 < 8 by omega) (by omega), zI_cn (by omega), zI_cn (by omega)]
            refine lst _ (fun e he => ?_)
            rw [lb_or, hx _ _ ea e he, hx _ _ eb e he]
            unfold pVal
            rw [if_neg (by omega), if_neg (by omega), if_neg (by omega), if_neg (by omega), if_neg q4, if_pos (by omega)]
            cases decide (e < 48) <;> cases tLv T (e : Nat) <;> rfl
theorem q_appliesTo (hN : 900 ≤ N) (h : wOk W) {t : Nat} (Q : tOk S t T) (hH : hR S (wH W)) (F : fcR S (wH W) (wP W) (wK W)) (hK1 : (wK W).length = 1) : ∃ w S2, pX2_appliesTo N t S = some (w, S2) ∧ frJ 11 S S2 ∧ ∀ e, e < 64 → lb w e = (decide (e < 48) && (tLv T (e : Nat) && wFt W T e)) := by
  obtain ⟨f1, f2, f3, f4, -⟩ := h.2.2.1
  obtain ⟨σ, st, sK⟩ := st_of h
  obtain ⟨S2, e1, e2, e3⟩ := q_appliesTo_4 (N := N) hN Q hH h.1 F f1 f4 st (k186 := pX2_appliesTo_186 N t) N (wP W).length 0 S (by omega) (by omega) frJ.rf (by rw [st.2.1]; exact fun j k hj => by cases hj)
  rw [st.2.1] at e1
  have e1 : pX2_appliesTo_4 N t (pX2_appliesTo_186 N t) N 0 0 S = _ := e1
  rw [sK] at e1 e3
  obtain ⟨k0, hk⟩ : ∃ k0, wK W = [k0] := List.length_eq_one_iff.mp hK1
  have hw : ∀ e, e < 64 → lb (kJ S2 11 0) e = (decide (e < 48) && (tLv T (e : Nat) && wFt W T e)) := fun e he => by
    rw [e3 0 k0 (by rw [hk]; rfl) e he]
    unfold wFt
    rw [hk]; rfl
  simp only [pX2_appliesTo]
  rw [e1, hK1]
  simp only [pX2_appliesTo_186]
  have n0 : ¬ (zI ((1 : Nat) : Int) ≤ (0 : Int32)) := by decide
  have g0 : (zI ((1 : Nat) : Int) - (1 : Int32)) = zI ((0 : Nat) : Int) := by decide
  rw [if_neg n0, g0, gd_n (show 0 < 8 by omega) (by omega), zI_cn (by omega)]
  exact ⟨_, S2, rfl, e2, hw⟩
end UC
