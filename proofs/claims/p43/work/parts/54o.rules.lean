-- LEVEL 2, WHAT RULES DECIDE
theorem sBt_sur {j : Nat} (h : j < 55) : ∃ s, s < 55 ∧ j = sBt s := by
  by_cases h1 : j < 48
  · exact ⟨j + 6, by omega, by unfold sBt; rw [if_neg (by omega), if_pos (by omega)]; omega⟩
  · by_cases h2 : j < 54
    · exact ⟨j - 48, by omega, by unfold sBt; rw [if_pos (by omega)]; omega⟩
    · exact ⟨54, by omega, by unfold sBt; rw [if_neg (by omega), if_neg (by omega)]; omega⟩
def gBits (H : sH) (T : sT) (who : Nat) (w : Int64) : Prop := ∀ j, j < 64 → lb w j = (tLv T j && decide (0 < tMt H T j 0 who))
theorem tDec1_le {H : sH} {T : sT} {who e up what i n : Nat} : tDec1 H T who e up what i n ≤ 2 := by
  unfold tDec1
  split
  · omega
  · split <;> omega
theorem tDec_le {H : sH} {T : sT} {who e up what : Nat} : tDec H T who e up what ≤ 2 := by
  unfold tDec
  split
  · exact tDec1_le
  · split <;> exact tDec1_le
section QD
variable {N : Nat} {S : kS} {t : Nat} {T : sT} {H : sH} {who e up what : Nat}
theorem q_dec1 {W A D : Int64} {i n : Nat} (hq : i + n ≤ 55) (hAD : ∀ s, s < 55 → (lb A (sBt s) = true ∨ lb D (sBt s) = true ↔ (decide (0 < tNear T e s up what) || decide (0 < tSy T e (6 * s + what + 4))) = true)) (hD : ∀ s, s < 55 → (lb D (sBt s) = true ↔ tDen T e up what s = true)) (hW : ∀ j, j < 64 → (lb W j = true ∧ j < 55 ↔ ∃ s, i ≤ s ∧ s < i + n ∧ tApp H T who s = true ∧ j = sBt s)) (hh : ∀ j, 55 ≤ j → j < 64 → lb A j = false ∧ lb D j = false) : pX6_decideFor N W A D S = some (zI (tDec1 H T who e up what i n : Nat), S) := by
  refine q_decideFor (p := tAct H T who e up what) (q := tDen T e up what) (fun s _ _ => by omega) (fun j hj => ?_) (fun j hj => ?_)
  · constructor
    · rintro ⟨h1, h2⟩
      have hj55 : j < 55 := by
        rcases Nat.lt_or_ge j 55 with g | g
        · exact g
        · obtain ⟨g1, g2⟩ := hh j g hj
          rw [g1, g2] at h1
          rcases h1 with h1 | h1 <;> exact Bool.noConfusion h1
      obtain ⟨s, g1, g2, g3, rfl⟩ := (hW j hj).mp ⟨h2, hj55⟩
      refine ⟨s, g1, g2, ?_, rfl⟩
      unfold tAct
      rw [Bool.and_eq_true]
      exact ⟨(hAD s (by omega)).mp h1, g3⟩
    · rintro ⟨s, g1, g2, g3, rfl⟩
      unfold tAct at g3
      rw [Bool.and_eq_true] at g3
      exact ⟨(hAD s (by omega)).mpr g3.1, ((hW _ hj).mpr ⟨s, g1, g2, g3.2, rfl⟩).1⟩
  · constructor
    · rintro ⟨h1, h2⟩
      have hj55 : j < 55 := by
        rcases Nat.lt_or_ge j 55 with g | g
        · exact g
        · obtain ⟨g1, g2⟩ := hh j g hj
          rw [g2] at h1
          exact Bool.noConfusion h1
      obtain ⟨s, g1, g2, g3, rfl⟩ := (hW j hj).mp ⟨h2, hj55⟩
      refine ⟨s, g1, g2, ?_, rfl⟩
      unfold tAct
      rw [Bool.and_eq_true, Bool.and_eq_true]
      exact ⟨⟨(hAD s (by omega)).mp (Or.inr h1), g3⟩, (hD s (by omega)).mp h1⟩
    · rintro ⟨s, g1, g2, g3, rfl⟩
      unfold tAct at g3
      rw [Bool.and_eq_true, Bool.and_eq_true] at g3
      exact ⟨(hD s (by omega)).mpr g3.2, ((hW _ hj).mpr ⟨s, g1, g2, g3.1.2, rfl⟩).1⟩
theorem q_decide (R : tOk S t T) (hwho : who < 6) (he : e < 48) (hwhat : what < 2) {u : Nat} (hu : u = if 2 < up then 2 else up) {w5 : Int64} (hg : gBits H T who w5) : pX6_decide N t (zI (e : Nat)) (zI (u : Nat)) (zI (what : Nat)) (zI (who : Nat)) w5 S = some (zI (tDec H T who e up what : Nat), S) := by
  have hu3 : u < 3 := by rw [hu]; split <;> omega
  have hrl := R.1.2.2.2.2.2.2.2.1
  have hhi := R.1.2.2.2.2.2.2.2.2.1
  have hsy := R.2.2.2.2.2.2.2.2.1
  have hn1 : (e * 3 + u) * 2 + what < 288 := by omega
  have hn2 : (e * 3 + 2) * 2 + what < 288 := by omega
  simp only [pX6_decide, pX6_slot, pX6_decide_82, nml_i, bk_i]
  rw [zL_3, zL_2, zL_48]
  simp only [zI_mul, zI_add]
  rw [show ((e : Int) * 3 + (u : Int)) * 2 + (what : Int) = (((e * 3 + u) * 2 + what : Nat) : Int) by omega, show ((e : Int) * 3 + 2) * 2 + (what : Int) = (((e * 3 + 2) * 2 + what : Nat) : Int) by omega, show (48 : Int) + (who : Int) = ((48 + who : Nat) : Int) by omega]
  simp only [gd_n hn1 (show (288 : Nat) < 2147483648 by omega), gd_n hn2 (show (288 : Nat) < 2147483648 by omega), zI_cn (show (e * 3 + u) * 2 + what < 2147483648 by omega), zI_cn (show (e * 3 + 2) * 2 + what < 2147483648 by omega)]
  generalize hA : (kJ S (26 + 15 * t + 7) ((e * 3 + u) * 2 + what) ||| kJ S (26 + 15 * t + 7) ((e * 3 + 2) * 2 + what)) = A
  generalize hD : (kJ S (26 + 15 * t + 8) ((e * 3 + u) * 2 + what) ||| kJ S (26 + 15 * t + 8) ((e * 3 + 2) * 2 + what)) = D
  have near : ∀ s, tNear T e s up what = 1 ∨ tSy T e (6 * s + what + 4) = 1 ↔ tSy T e (6 * s + 2 * u + what) = 1 ∨ tSy T e (6 * s + 2 * 2 + what) = 1 := fun s => by
    unfold tNear
    rw [show 6 * s + what + 4 = 6 * s + 2 * 2 + what by omega]
    by_cases q : 1 < up
    · rw [if_pos q]
      have : u = 2 := by rw [hu]; split <;> omega
      rw [this]
      omega
    · rw [if_neg q]
      have : u = up := by rw [hu, if_neg (by omega)]
      rw [this, show 6 * s + what + 2 * up = 6 * s + 2 * up + what by omega]
  have near2 : ∀ s, tNear T e s up what = 2 ∨ tSy T e (6 * s + what + 4) = 2 ↔ tSy T e (6 * s + 2 * u + what) = 2 ∨ tSy T e (6 * s + 2 * 2 + what) = 2 := fun s => by
    unfold tNear
    rw [show 6 * s + what + 4 = 6 * s + 2 * 2 + what by omega]
    by_cases q : 1 < up
    · rw [if_pos q]
      have : u = 2 := by rw [hu]; split <;> omega
      rw [this]
      omega
    · rw [if_neg q]
      have : u = up := by rw [hu, if_neg (by omega)]
      rw [this, show 6 * s + what + 2 * up = 6 * s + 2 * up + what by omega]
  have nle : ∀ s, tNear T e s up what ≤ 2 := fun s => by
    unfold tNear
    split
    · omega
    · exact hsy _ _
  have bA : ∀ s, s < 55 → (lb A (sBt s) = true ↔ tNear T e s up what = 1 ∨ tSy T e (6 * s + what + 4) = 1) := fun s hs => by
    rw [← hA, lb_or, (hrl e u what s he hu3 hwhat hs).1, (hrl e 2 what s he (by omega) hwhat hs).1, Bool.or_eq_true, decide_eq_true_eq, decide_eq_true_eq, near]
  have bD : ∀ s, s < 55 → (lb D (sBt s) = true ↔ tNear T e s up what = 2 ∨ tSy T e (6 * s + what + 4) = 2) := fun s hs => by
    rw [← hD, lb_or, (hrl e u what s he hu3 hwhat hs).2, (hrl e 2 what s he (by omega) hwhat hs).2, Bool.or_eq_true, decide_eq_true_eq, decide_eq_true_eq, near2]
  have hAD : ∀ s, s < 55 → (lb A (sBt s) = true ∨ lb D (sBt s) = true ↔ (decide (0 < tNear T e s up what) || decide (0 < tSy T e (6 * s + what + 4))) = true) := fun s hs => by
    have h1 := nle s
    have h2 := hsy e (6 * s + what + 4)
    rw [bA s hs, bD s hs, Bool.or_eq_true, decide_eq_true_eq, decide_eq_true_eq]
    omega
  have hDD : ∀ s, s < 55 → (lb D (sBt s) = true ↔ tDen T e up what s = true) := fun s hs => by
    unfold tDen
    rw [bD s hs, Bool.or_eq_true, decide_eq_true_eq, decide_eq_true_eq]
  have hh : ∀ j, 55 ≤ j → j < 64 → lb A j = false ∧ lb D j = false := fun j h1 h2 => by
    rw [← hA, ← hD, lb_or, lb_or, (hhi _ j hn1 h1 h2).1, (hhi _ j hn2 h1 h2).1, (hhi _ j hn1 h1 h2).2, (hhi _ j hn2 h1 h2).2]
    exact ⟨rfl, rfl⟩
  have w1 : ∀ j, j < 64 → (lb ((1 : Int64) <<< ((zI ((48 + who : Nat) : Int)).toInt64 &&& 63)) j = true ∧ j < 55 ↔ ∃ s, 0 ≤ s ∧ s < 0 + 6 ∧ tApp H T who s = true ∧ j = sBt s) := fun j hj => by
    rw [lb_shl1 (by omega) hj, decide_eq_true_eq]
    constructor
    · rintro ⟨h1, h2⟩
      exact ⟨who, by omega, by omega, by unfold tApp; rw [if_pos hwho]; simp, by unfold sBt; rw [if_pos hwho]; exact h1⟩
    · rintro ⟨s, -, h1, h2, h3⟩
      have hs6 : s < 6 := by omega
      unfold tApp at h2
      rw [if_pos hs6, decide_eq_true_eq] at h2
      unfold sBt at h3
      rw [if_pos hs6] at h3
      omega
  have w2 : ∀ j, j < 64 → (lb w5 j = true ∧ j < 55 ↔ ∃ s, 6 ≤ s ∧ s < 6 + 48 ∧ tApp H T who s = true ∧ j = sBt s) := fun j hj => by
    rw [hg j hj]
    constructor
    · rintro ⟨h1, h2⟩
      have h3 : j < 48 := by
        rw [Bool.and_eq_true] at h1
        have := tLv_lt h1.1
        omega
      refine ⟨j + 6, by omega, by omega, ?_, ?_⟩
      · unfold tApp
        rw [if_neg (by omega), if_neg (by omega), show ((j + 6 : Nat) : Int) - 6 = (j : Int) by omega, show j + 6 - 6 = j by omega]
        exact h1
      · unfold sBt
        rw [if_neg (by omega), if_pos (by omega)]; omega
    · rintro ⟨s, h1, h2, h3, h4⟩
      unfold sBt at h4
      rw [if_neg (by omega), if_pos (by omega)] at h4
      unfold tApp at h3
      rw [if_neg (by omega), if_neg (by omega), show (s : Int) - 6 = ((s - 6 : Nat) : Int) by omega] at h3
      rw [h4]
      exact ⟨h3, by omega⟩
  have w3 : ∀ j, j < 64 → (lb (18014398509481984 : Int64) j = true ∧ j < 55 ↔ ∃ s, 54 ≤ s ∧ s < 54 + 1 ∧ tApp H T who s = true ∧ j = sBt s) := fun j hj => by
    rw [lb_54 j hj, decide_eq_true_eq]
    constructor
    · rintro ⟨h1, h2⟩
      exact ⟨54, by omega, by omega, by unfold tApp; rw [if_neg (by omega), if_pos rfl], by unfold sBt; rw [if_neg (by omega), if_neg (by omega)]; exact h1⟩
    · rintro ⟨s, h1, h2, h3, h4⟩
      unfold sBt at h4
      rw [if_neg (by omega), if_neg (by omega)] at h4
      omega
  have l1 := tDec1_le (H := H) (T := T) (who := who) (e := e) (up := up) (what := what) (i := 0) (n := 6)
  have l2 := tDec1_le (H := H) (T := T) (who := who) (e := e) (up := up) (what := what) (i := 6) (n := 48)
  rw [q_dec1 (by omega) hAD hDD w1 hh, bk_i, q_dec1 (by omega) hAD hDD w2 hh, bk_i, q_dec1 (by omega) hAD hDD w3 hh, bk_i]
  unfold tDec
  generalize tDec1 H T who e up what 0 6 = d1 at l1 ⊢
  generalize tDec1 H T who e up what 6 48 = d2 at l2 ⊢
  generalize tDec1 H T who e up what 54 1 = d3
  have z : ∀ d : Nat, d ≤ 2 → ((zI (d : Nat) = (0 : Int32)) ↔ d = 0) := fun d hd => by
    rw [zL_0, zI_eq (by omega) (by omega) (by omega) (by omega)]; omega
  by_cases q1 : d1 = 0
  · rw [if_pos ((z d1 l1).mpr q1), if_neg (show ¬ (d1 ≠ 0) from fun h => h q1)]
    by_cases q2 : d2 = 0
    · rw [if_pos ((z d2 l2).mpr q2), if_neg (show ¬ (d2 ≠ 0) from fun h => h q2)]
    · rw [if_neg (fun h => q2 ((z d2 l2).mp h)), if_pos (show d2 ≠ 0 from q2)]
  · rw [if_neg (fun h => q1 ((z d1 l1).mp h)), if_neg (fun h => q1 ((z d1 l1).mp h)), if_pos (show d1 ≠ 0 from q1)]
theorem q_grants_36 (R : tOk S t T) (hwho : who < 6) (hwhat : what < 2) {k74 k100 : Int32 → kS → Option (Int32 × kS)} {w5 : Int64} (hg : gBits H T who w5) : ∀ (n k up : Nat) (x : Int), up + k = 48 → k < n → -2 ≤ x → x < 48 → pX8_grants_36 N t k74 k100 n (zI (who : Nat)) (zI (what : Nat)) w5 (zI x) (zI (up : Nat)) S = if tTold H T who what k up x = 0 then k100 (zI (what : Nat)) S else k74 (zI (tTold H T who what k up x : Nat)) S
  | 0, k, up, x, hk, hn, _, _ => by omega
  | n + 1, k, up, x, hk, hn, h1, h2 => by
    simp only [pX8_grants_36, nm_i]
    rw [zL_48, il_le (by omega) (by omega) (by omega) (by omega)]
    cases k with
    | zero => rw [if_pos (by omega)]; rfl
    | succ k =>
      rw [if_neg (by omega), zL_0, il_lt (by omega) (by omega) (by omega) (by omega)]
      unfold tTold
      by_cases q : x < 0
      · rw [if_pos q, if_pos q]; rfl
      · obtain ⟨z, rfl⟩ : ∃ z : Nat, x = z := ⟨x.toNat, by omega⟩
        have hz : z < 48 := by omega
        have hd := tDec_le (H := H) (T := T) (who := who) (e := z) (up := up) (what := what)
        have hp := tPl_rg R.2 hz
        rw [if_neg q, if_neg q, zL_2, il_lt (by omega) (by omega) (by omega) (by omega), show (if (2 : Int) < (up : Int) then zI 2 else zI (up : Int)) = zI ((if 2 < up then 2 else up : Nat) : Int) by
          by_cases g : 2 < up
          · rw [if_pos (by omega), if_pos g]; rfl
          · rw [if_neg (by omega), if_neg g], q_decide R hwho hz hwhat rfl hg, bk_i, il_eq (by omega) (by omega) (by omega) (by omega), Int.toNat_natCast]
        by_cases g : tDec H T who z up what = 0
        · rw [if_pos (show ((tDec H T who z up what : Nat) : Int) = 0 by omega), if_neg (show ¬ (tDec H T who z up what ≠ 0) by omega), q_placeOf R hz, bk_i, zL_1, zI_add, show (up : Int) + 1 = ((up + 1 : Nat) : Int) by omega]
          exact q_grants_36 R hwho hwhat hg n k (up + 1) _ (by omega) (by omega) hp.1 hp.2
        · rw [if_neg (show ¬ ((tDec H T who z up what : Nat) : Int) = 0 by omega), if_pos (show tDec H T who z up what ≠ 0 by omega), if_neg g]
theorem tTold_le {H : sH} {T : sT} {who what : Nat} : ∀ (n up : Nat) (x : Int), tTold H T who what n up x ≤ 2
  | 0, up, x => by unfold tTold; omega
  | n + 1, up, x => by
    unfold tTold
    split
    · omega
    · split
      · exact tDec_le
      · exact tTold_le n _ _
theorem q_grants (R : tOk S t T) (hH : hR S H) (hN : 900 ≤ N) (hwho : who < 6) (hwhat : what < 2) {x : Int} (h1 : -2 ≤ x) (h2 : x < 48) : pX8_grants N t (zI (who : Nat)) (zI x) (zI (what : Nat)) S = some (zB (tMay H T who x what), S) := by
  simp only [pX8_grants]
  unfold tMay
  rw [zL_0, il_eq (by omega) (by omega) (by omega) (by omega)]
  by_cases q : who = 0
  · rw [if_pos (by omega)]
    simp [q]; rfl
  · have hh := vHi_lt H 0 (show who < 1000 by omega)
    have hl := vLo_le H 0 who
    have l1 := q_lowest (N := N) hH (a := 0) (by omega) (show who < 1000 by omega)
    have l2 := q_highest (N := N) hH (a := 0) (by omega) (show who < 1000 by omega)
    rw [if_neg (by omega), show (0 : Int) = ((0 : Nat) : Int) from rfl, l1, bk_i, l2, bk_i]
    obtain ⟨w5, e1, e2⟩ := q_holdersBetween (N := N) R hN (lo := vLo H 0 who) (hi := vHi H 0 who) (by omega) (by omega)
    rw [e1, bk_i]
    have hg : gBits H T who w5 := fun j hj => by
      have hm := tMt_bw R.2 (H := H) (e := j) (a := 0) (v := who) (by omega)
      rw [Nat.zero_mul, Nat.zero_add, Nat.zero_add] at hm
      rw [e2 j hj, hm]
    have hd := tTold_le (H := H) (T := T) (who := who) (what := what) 48 0 x
    rw [q_grants_36 R hwho hwhat hg N 48 0 x (by omega) (by omega) h1 h2]
    simp only [pX8_grants_74, pX8_grants_100]
    rw [zL_0, zL_1, il_eq (by omega) (by omega) (by omega) (by omega), il_eq (by omega) (by omega) (by omega) (by omega)]
    simp only [q, decide_false, Bool.false_or]
    by_cases g : tTold H T who what 48 0 x = 0
    · rw [if_pos g, if_pos g]
      by_cases g2 : what = 0
      · rw [if_pos (by omega)]; simp [g2]; rfl
      · rw [if_neg (by omega)]; simp [g2]; rfl
    · rw [if_neg g, if_neg g]
      by_cases g2 : tTold H T who what 48 0 x = 1
      · rw [if_pos (by omega)]; simp [g2]; rfl
      · rw [if_neg (by omega)]; simp [g2]; rfl
end QD
