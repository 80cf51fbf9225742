-- LEVEL 2, WHO HAS VALUES, AND WHAT RULES DECIDE
theorem vC12 {x : Nat × Nat × Nat} (h : vOk x) : vC2 (vC1 x) = (x.2.1 * 1000 + x.2.2) * 48 + x.1 := by
  obtain ⟨v1, v2, v3⟩ := h
  unfold vC2 vC1; omega
section QH
variable {N : Nat} {S : kS} {t : Nat} {T : sT} {H : sH}
theorem q_holdersBetween_30 {l : List Nat} (R : nR S t 1 l) {k60 : Int64 → kS → Option (Int64 × kS)} {e : Nat} (he : e ≤ l.length) : ∀ (n k i : Nat) (w : Int64), i + k = e → k < n → ∃ w', pX8_holdersBetween_30 N t k60 n w (zI (e : Nat)) (zI (i : Nat)) S = k60 w' S ∧ ∀ j, j < 64 → (lb w' j = true ↔ (lb w j = true ∨ ∃ q, i ≤ q ∧ q < e ∧ ∃ h : q < l.length, l[q] % 48 = j))
  | 0, k, i, w, hk, hn => by omega
  | n + 1, k, i, w, hk, hn => by
    have hl := R.2.2.2.2
    have h8 := kNl_le 1
    simp only [pX8_holdersBetween_30, nm_i, nml_i]
    rw [il_le (by omega) (by omega) (by omega) (by omega)]
    cases k with
    | zero =>
      rw [if_pos (by omega)]
      refine ⟨w, rfl, fun j _ => ⟨fun h => Or.inl h, ?_⟩⟩
      rintro (h | ⟨q, h1, h2, -⟩)
      · exact h
      · omega
    | succ k =>
      have hi : i < l.length := by omega
      have hb := R.2.2.2.1 _ (List.getElem_mem hi)
      rw [if_neg (by omega), q_at R hi, bk_i, zL_48, zL_1, zI_div (by omega) (by omega) (by omega) (by omega), zI_mul, zI_sub, zI_add, show ((l[i] : Nat) : Int) - ((l[i] : Nat) : Int) / 48 * 48 = ((l[i] % 48 : Nat) : Int) by omega, show (i : Int) + 1 = ((i + 1 : Nat) : Int) by omega]
      obtain ⟨w', h1, h2⟩ := q_holdersBetween_30 R (k60 := k60) he n k (i + 1) (w ||| ((1 : Int64) <<< ((zI ((l[i] % 48 : Nat) : Int)).toInt64 &&& 63))) (by omega) (by omega)
      refine ⟨w', h1, fun j hj => ?_⟩
      rw [h2 j hj, lb_or, lb_shl1 (by omega) hj, Bool.or_eq_true, decide_eq_true_eq]
      constructor
      · rintro ((h | h) | ⟨q, g1, g2, g3⟩)
        · exact Or.inl h
        · exact Or.inr ⟨i, by omega, by omega, hi, h.symm⟩
        · exact Or.inr ⟨q, by omega, g2, g3⟩
      · rintro (h | ⟨q, g1, g2, g3, g4⟩)
        · exact Or.inl (Or.inl h)
        · by_cases g : q = i
          · subst g; exact Or.inl (Or.inr g4.symm)
          · exact Or.inr ⟨q, by omega, g2, g3, g4⟩
theorem q_holdersBetween (R : tOk S t T) (hN : 900 ≤ N) {lo hi : Nat} (hl : lo ≤ hi) (hh : hi < 10000) : ∃ w', pX8_holdersBetween N t (zI (lo : Nat)) (zI (hi : Nat)) S = some (w', S) ∧ ∀ j, j < 64 → lb w' j = (tLv T j && decide (0 < tBw T j lo hi)) := by
  have hlv := fun {i : Nat} (h : i < 64) => lv_bit R h
  obtain ⟨⟨-, -, -, -, -, -, -, -, -, l1, l2, n1, n2, p1, p2⟩, hW⟩ := R
  have hlen := n2.2.2.2.2
  have h8 := kNl_le 1
  simp only [pX8_holdersBetween, pX8_holdersBetween_60]
  rw [zL_1, zL_48]
  simp only [zI_mul, zI_add]
  rw [q_indexOf n2 (by omega) (by omega) (by omega), bk_i, q_indexOf n2 (by omega) (by omega) (by omega), bk_i]
  have hle := nCt_le l2 (((hi : Int) + 1) * 48)
  have hs := nCt_sub (l := l2) (lo := (lo : Int) * 48) (hi := ((hi : Int) + 1) * 48) (by omega)
  obtain ⟨w', h1, h2⟩ := q_holdersBetween_30 (N := N) n2 (k60 := fun w3 S => bk (pX8_living N t S) fun v101 S102 => some (w3 &&& v101, S102)) hle N (nCt l2 (((hi : Int) + 1) * 48) - nCt l2 ((lo : Int) * 48)) (nCt l2 ((lo : Int) * 48)) 0 (by omega) (by omega)
  have h1 : pX8_holdersBetween_30 N t (pX8_holdersBetween_60 N t) N 0 (zI (nCt l2 (((hi : Int) + 1) * 48) : Nat)) (zI (nCt l2 ((lo : Int) * 48) : Nat)) S = _ := h1
  rw [h1, q_living, bk_i]
  refine ⟨_, rfl, fun j hj => ?_⟩
  rw [lb_and, hlv hj]
  have h3 : tLv T j = true → (lb w' j = true ↔ 0 < tBw T j lo hi) := fun _ => by
    rw [h2 j hj, lb_0]
    unfold tBw
    rw [List.countP_pos_iff]
    constructor
    · rintro (h | ⟨q, g1, g2, g3, g4⟩)
      · exact Bool.noConfusion h
      · have c1 := nCt_at (z := (lo : Int) * 48) n2.2.2.1 g3
        have c2 := nCt_at (z := ((hi : Int) + 1) * 48) n2.2.2.1 g3
        have c3 : ¬ ((l2[q] : Int) < (lo : Int) * 48) := fun h => by have := c1.mp h; omega
        have c4 := c2.mpr g2
        obtain ⟨c, hc, hce⟩ := List.mem_map.mp (p2.mem_iff.mp (List.getElem_mem g3))
        obtain ⟨x, hx, rfl⟩ := List.mem_map.mp (p1.mem_iff.mp hc)
        rw [vC12 (tW_v hW x hx)] at hce
        obtain ⟨v1, v2, v3⟩ := tW_v hW x hx
        refine ⟨x, hx, ?_⟩
        simp only [Bool.and_eq_true, decide_eq_true_eq]
        omega
    · rintro ⟨x, hx, hp⟩
      simp only [Bool.and_eq_true, decide_eq_true_eq] at hp
      obtain ⟨v1, v2, v3⟩ := tW_v hW x hx
      have hm : vC2 (vC1 x) ∈ l2 := p2.mem_iff.mpr (List.mem_map_of_mem (p1.mem_iff.mpr (List.mem_map_of_mem hx)))
      obtain ⟨g3, g4⟩ := nCt_mem n2.2.2.1 hm
      have c1 := nCt_at (z := (lo : Int) * 48) n2.2.2.1 g3
      have c2 := nCt_at (z := ((hi : Int) + 1) * 48) n2.2.2.1 g3
      have hv := vC12 (tW_v hW x hx)
      rw [g4] at c1 c2
      refine Or.inr ⟨nCt l2 ((vC2 (vC1 x) : Nat) : Int), ?_, c2.mp (by omega), g3, by rw [g4]; omega⟩
      exact Nat.le_of_not_lt (fun h => by have := c1.mpr h; omega)
  cases hv : tLv T j with
  | false => rw [Bool.and_false, Bool.false_and]
  | true =>
    rw [Bool.and_true, Bool.true_and]
    exact Bool.eq_iff_iff.mpr ((h3 hv).trans (decide_eq_true_iff).symm)
/-- subjects, allowed ones, denied ones -/
theorem q_decideFor {W A D : Int64} {p q : Nat → Bool} {i n : Nat} (hq : ∀ s, i ≤ s → s < i + n → s < 55) (hA : ∀ j, j < 64 → ((lb A j = true ∨ lb D j = true) ∧ lb W j = true ↔ ∃ s, i ≤ s ∧ s < i + n ∧ p s = true ∧ j = sBt s)) (hD : ∀ j, j < 64 → (lb D j = true ∧ lb W j = true ↔ ∃ s, i ≤ s ∧ s < i + n ∧ (p s && q s) = true ∧ j = sBt s)) : pX6_decideFor N W A D S = some (zI ((if anyF (fun s => p s && q s) i n then 2 else if anyF p i n then 1 else 0 : Nat) : Int), S) := by
  simp only [pX6_decideFor]
  have e1 : (lg_cmp (D &&& W) 0 = 0) ↔ ¬ anyF (fun s => p s && q s) i n = true := by
    rw [lb_zero, anyF_iff]
    constructor
    · rintro h ⟨s, h1, h2, h3⟩
      have hs := sBt_lt (hq s h1 h2)
      have h4 := (hD (sBt s) (by omega)).mpr ⟨s, h1, h2, h3, rfl⟩
      have h5 := h (sBt s) (by omega)
      rw [lb_and, h4.1, h4.2] at h5
      exact Bool.noConfusion h5
    · intro h j hj
      rw [lb_and]
      refine Bool.eq_false_iff.mpr (fun h1 => ?_)
      rw [Bool.and_eq_true] at h1
      obtain ⟨s, g1, g2, g3, -⟩ := (hD j hj).mp h1
      exact h ⟨s, g1, g2, g3⟩
  by_cases hd : anyF (fun s => p s && q s) i n = true
  · rw [if_neg (fun h => e1.mp h hd), if_pos hd]; rfl
  · have h0 := e1.mpr hd
    rw [if_pos h0, if_neg hd]
    rw [lb_zero] at h0
    have e2 : (lg_cmp (A &&& W) 0 = 0) ↔ ¬ anyF p i n = true := by
      rw [lb_zero, anyF_iff]
      constructor
      · rintro h ⟨s, h1, h2, h3⟩
        have hs := sBt_lt (hq s h1 h2)
        have h4 := (hA (sBt s) (by omega)).mpr ⟨s, h1, h2, h3, rfl⟩
        have h5 := h (sBt s) (by omega)
        have h6 := h0 (sBt s) (by omega)
        rw [lb_and, h4.2, Bool.and_true] at h5 h6
        rcases h4.1 with h7 | h7
        · rw [h7] at h5; exact Bool.noConfusion h5
        · rw [h7] at h6; exact Bool.noConfusion h6
      · intro h j hj
        rw [lb_and]
        refine Bool.eq_false_iff.mpr (fun h1 => ?_)
        rw [Bool.and_eq_true] at h1
        obtain ⟨s, g1, g2, g3, -⟩ := (hA j hj).mp ⟨Or.inl h1.1, h1.2⟩
        exact h ⟨s, g1, g2, g3⟩
    by_cases ha : anyF p i n = true
    · rw [if_neg (fun h => e2.mp h ha), if_pos ha]; rfl
    · rw [if_pos (e2.mpr ha), if_neg ha]; rfl
end QH
