-- LEVEL 2, CHILDREN BY NAMES, AND WHETHER TWO TREES SHOW AN ENTRY ALIKE
def tRk (T : sT) (e : Nat) : Nat := (tSh T e).toNat * 48 + e
theorem tRk_z {T : sT} (R : tW T) {e : Nat} (he : e < 48) : tSh T e * 48 + (e : Int) = (tRk T e : Nat) := by
  have := tSh_rg R he
  unfold tRk; omega
theorem tRk_lt {T : sT} (R : tW T) {e : Nat} (he : e < 48) : tRk T e < 7104 := by
  have := tSh_rg R he
  unfold tRk; omega
theorem tRk_inj {T : sT} {e f : Nat} (he : e < 48) (hf : f < 48) (h : tRk T e = tRk T f) : e = f := by
  unfold tRk at h; omega
theorem tLv_th {T : sT} {e : Nat} (he : e < 48) (h : tLv T e = true) : tTh T e = true := by
  rw [tLv_in he, Bool.and_eq_true] at h
  exact h.1
section QR
variable {N : Nat} {S : kS} {t : Nat} {T : sT} {H : sH}
theorem tR_f2 {S S' : kS} (h : frN t 2 S S') (R : tR S t T) : tR S' t T := by
  obtain ⟨r1, r2, r3, r4, r5, r6, r7, r8, r9, l1, l2, n1, n2, p1, p2⟩ := R
  refine ⟨by rw [h.1 _ (by omega)]; exact r1, by rw [h.1 _ (by omega)]; exact r2, by rw [h.1 _ (by omega)]; exact r3, by rw [h.1 _ (by omega)]; exact r4, by rw [h.1 _ (by omega)]; exact r5, by rw [h.2.2.1]; exact r6, by rw [h.2.2.1]; exact r7, by rw [h.2.1]; exact r8, by rw [h.2.1]; exact r9, l1, l2, nR_fr h (by omega) n1, nR_fr h (by omega) n2, p1, p2⟩
theorem frN_t {j : Nat} {S S' : kS} (h : frN t j S S') (hj : j < 3) : frT t S S' :=
  ⟨fun c h3 => h.1 c (by omega), fun c _ => by rw [h.2.1], fun q _ _ => by rw [h.2.2.1], fun q h3 => h.2.2.2.1 q (by omega), h.2.2.2.2⟩
theorem q_rankedAt_16 (hN : 48 ≤ N) {place : Int} {w : Int64} (hw : ∀ j, j < 64 → lb w j = (decide (1 ≤ j) && (decide (j < 48) && tCh T place j))) : ∀ (n k i : Nat) (S : kS) (l : List Nat), 1 ≤ i → i + k = 48 → k < n → tOk S t T → nR S t 2 l → l.length < i → (∀ x, x ∈ l ↔ ∃ e, 1 ≤ e ∧ e < i ∧ tCh T place e = true ∧ x = tRk T e) → ∃ S' l', pX8_rankedAt_16 N t (pX8_rankedAt_59 N t) n w (zI (i : Nat)) S = some ((), S') ∧ nR S' t 2 l' ∧ (∀ x, x ∈ l' ↔ ∃ e, 1 ≤ e ∧ e < 48 ∧ tCh T place e = true ∧ x = tRk T e) ∧ frN t 2 S S'
  | 0, k, i, S, l, hi, hk, hn, R, hl, hlen, hm => by omega
  | n + 1, k, i, S, l, hi, hk, hn, R, hl, hlen, hm => by
    simp only [pX8_rankedAt_16, pX8_rankedAt_53, nm_i]
    rw [zL_48, il_le (by omega) (by omega) (by omega) (by omega)]
    cases k with
    | zero =>
      rw [if_pos (by omega)]
      have : i = 48 := by omega
      subst this
      exact ⟨S, l, rfl, hl, hm, frN.rf⟩
    | succ k =>
      have hi48 : i < 48 := by omega
      rw [if_neg (by omega), il_bit (by omega), hw i (by omega), show decide (1 ≤ i) = true from decide_eq_true hi, show decide (i < 48) = true from decide_eq_true hi48, Bool.true_and, Bool.true_and, zL_1]
      simp only [zI_add]
      rw [show (i : Int) + 1 = ((i + 1 : Nat) : Int) by omega]
      by_cases hc : tCh T place i = true
      · have hlv : tLv T i = true := by
          unfold tCh at hc
          rw [Bool.and_eq_true] at hc
          exact hc.1
        have hr := tRk_lt R.2 hi48
        have hz := tRk_z R.2 hi48
        rw [if_pos hc, q_shownName R hN hi48 (tLv_th hi48 hlv), bk_i]
        simp only [zI_mul, zI_add]
        rw [hz]
        obtain ⟨S1, e1, n1, f1⟩ := q_put hl (x := tRk T i) (by omega) (fun h => by
          obtain ⟨e, g1, g2, g3, g4⟩ := (hm _).mp h
          have := tRk_inj hi48 (by omega) g4
          omega) (by unfold kNl; rw [if_pos rfl]; omega) (N := N) (by omega)
        rw [e1, bk_i]
        obtain ⟨S2, l2, e2, n2, m2, f2⟩ := q_rankedAt_16 hN hw n k (i + 1) S1 _ (by omega) (by omega) (by omega) ⟨tR_f2 f1 R.1, R.2⟩ n1 (by rw [(nIns_perm _ _).length_eq, List.length_cons]; omega) (fun x => by
          rw [(nIns_perm _ _).mem_iff, List.mem_cons, hm]
          constructor
          · rintro (h | ⟨e, g1, g2, g3, g4⟩)
            · exact ⟨i, hi, by omega, hc, h⟩
            · exact ⟨e, g1, by omega, g3, g4⟩
          · rintro ⟨e, g1, g2, g3, g4⟩
            by_cases g : e = i
            · subst g; exact Or.inl g4
            · exact Or.inr ⟨e, g1, by omega, g3, g4⟩)
        exact ⟨S2, l2, e2, n2, m2, f1.trans f2⟩
      · rw [if_neg hc]
        exact q_rankedAt_16 hN hw n k (i + 1) S l (by omega) (by omega) (by omega) R hl (by omega) (fun x => by
          rw [hm]
          constructor
          · rintro ⟨e, g1, g2, g3, g4⟩
            exact ⟨e, g1, by omega, g3, g4⟩
          · rintro ⟨e, g1, g2, g3, g4⟩
            by_cases g : e = i
            · subst g; exact absurd g3 hc
            · exact ⟨e, g1, by omega, g3, g4⟩)
theorem q_rankedAt (R : tOk S t T) (hN : 49 ≤ N) {place : Int} (h1 : -3 ≤ place) (h2 : place < 1000) : ∃ S' l, pX8_rankedAt N t (zI place) S = some ((), S') ∧ nR S' t 2 l ∧ (∀ x, x ∈ l ↔ ∃ e, 1 ≤ e ∧ e < 48 ∧ tCh T place e = true ∧ x = tRk T e) ∧ frN t 2 S S' := by
  obtain ⟨w, e1, hw⟩ := q_childrenAt (N := N) R (by omega) h1 h2
  simp only [pX8_rankedAt, pX5_clear, svk_i]
  rw [e1, bk_i, bk_i]
  have f0 : frN t 2 S (sI S (40 + 3 * t + 2) 0) := ⟨fun _ _ => rfl, rfl, rfl, fun q hq => upd_o _ _ hq, rfl⟩
  obtain ⟨S2, l2, e2, n2, m2, f2⟩ := q_rankedAt_16 (N := N) (by omega) hw N 47 1 (sI S (40 + 3 * t + 2) 0) [] (by omega) (by omega) (by omega) ⟨tR_f2 f0 R.1, R.2⟩ ⟨upd_s _ _ _, fun i h => absurd h (Nat.not_lt_zero _), List.Pairwise.nil, fun x h => absurd h List.not_mem_nil, Nat.zero_le _⟩ (by simp) (fun x => ⟨fun h => absurd h List.not_mem_nil, fun ⟨e, g1, g2, _⟩ => by omega⟩)
  exact ⟨S2, l2, e2, n2, m2, f0.trans f2⟩
/-- what is said -/
theorem q_saidOf (R : tOk S t T) {e p r s : Nat} (he : e < 48) (hp : p < 3) (hr : r < 2) (hs : s < 55) : pX6_saidOf N t (zI (((e * 3 + p) * 2 + r : Nat) : Int)) (zI (sSub s)) S = some (zI (tSy T e (6 * s + 2 * p + r) : Nat), S) := by
  obtain ⟨w, hw, hb⟩ := q_bitOf (N := N) (S := S) hs
  obtain ⟨g1, g2⟩ := R.1.2.2.2.2.2.2.2.1 e p r s he hp hr hs
  have hsy := R.2.2.2.2.2.2.2.2.1 e (6 * s + 2 * p + r)
  have hlt := sBt_lt hs
  simp only [pX6_saidOf]
  rw [hw, bk_i]
  simp only [gd_n (show (e * 3 + p) * 2 + r < 288 by omega) (show (288 : Nat) < 2147483648 by omega), zI_cn (show (e * 3 + p) * 2 + r < 2147483648 by omega)]
  have z : ∀ x : Int64, (lg_cmp (x &&& w) 0 = 0) ↔ lb x (sBt s) = false := fun x => by
    rw [lb_zero]
    constructor
    · intro h
      have := h (sBt s) (by omega)
      rw [lb_and, hb _ (by omega), decide_eq_true rfl, Bool.and_true] at this
      exact this
    · intro h i hi
      rw [lb_and, hb i hi]
      by_cases q : i = sBt s
      · rw [q, h]; rfl
      · rw [decide_eq_false q, Bool.and_false]
  by_cases y2 : tSy T e (6 * s + 2 * p + r) = 2
  · rw [if_neg (fun h => by rw [(z _).mp h] at g2; simp [y2] at g2), y2]; rfl
  · rw [if_pos ((z _).mpr (by rw [g2]; exact decide_eq_false y2))]
    by_cases y1 : tSy T e (6 * s + 2 * p + r) = 1
    · rw [if_neg (fun h => by rw [(z _).mp h] at g1; simp [y1] at g1), y1]; rfl
    · rw [if_pos ((z _).mpr (by rw [g1]; exact decide_eq_false y1)), show tSy T e (6 * s + 2 * p + r) = 0 by omega]; rfl
variable {u : Nat} {U : sT}
end QR
