-- LEVEL 2, THE CLASS'S TREES
def vC1 (x : Nat × Nat × Nat) : Nat := x.1 * 10000 + x.2.1 * 1000 + x.2.2
def vC2 (c : Nat) : Nat := (c % 10000) * 48 + c / 10000
/-- the bit of a subject -/
def sBt (s : Nat) : Nat := if s < 6 then 48 + s else if s < 54 then s - 6 else 54
/-- a tree is in order -/
def tW (T : sT) : Prop := pEnd (tPa T) ∧ (∀ e, e < 48 → -1 ≤ tPa T e) ∧ (∀ e, e < 48 → 0 ≤ tNm T e ∧ tNm T e < 100) ∧ (∀ e, e < 48 → -1 ≤ tKl T e ∧ tKl T e < 8) ∧ (∀ e, e < 48 → -1 ≤ tLk T e ∧ tLk T e < 104) ∧ (∀ e, e < 48 → tBn T e < 1000000) ∧ (∀ x ∈ tVs T, x.1 < 48 ∧ x.2.1 < 10 ∧ x.2.2 < 1000) ∧ (∀ e k, tSy T e k ≤ 2) ∧ tTh T 0 = true ∧ tDd T 0 = false
/-- what the class's tree t shows is T -/
def tR (S : kS) (t : Nat) (T : sT) : Prop :=
  (∀ e, e < 48 → kA S (26 + 15 * t + 1) e = zI (tNm T e)) ∧ (∀ e, e < 48 → kA S (26 + 15 * t + 2) e = zI (tKl T e)) ∧ (∀ e, e < 48 → kA S (26 + 15 * t + 3) e = zI (tLk T e)) ∧ (∀ e, e < 48 → kA S (26 + 15 * t + 4) e = zI (tPa T e)) ∧ (∀ e, e < 48 → tTh T e = true → kA S (26 + 15 * t + 5) e = zI (tBn T e : Nat)) ∧
  (∀ i, i < 64 → lb (kL S (8 + 2 * t)) i = (decide (i < 48) && tTh T i)) ∧ (∀ i, i < 64 → lb (kL S (9 + 2 * t)) i = (decide (i < 48) && tDd T i)) ∧
  (∀ e c r s, e < 48 → c < 3 → r < 2 → s < 55 → lb (kJ S (26 + 15 * t + 7) ((e * 3 + c) * 2 + r)) (sBt s) = decide (tSy T e (6 * s + 2 * c + r) = 1) ∧ lb (kJ S (26 + 15 * t + 8) ((e * 3 + c) * 2 + r)) (sBt s) = decide (tSy T e (6 * s + 2 * c + r) = 2)) ∧
  (∀ k i, k < 288 → 55 ≤ i → i < 64 → lb (kJ S (26 + 15 * t + 7) k) i = false ∧ lb (kJ S (26 + 15 * t + 8) k) i = false) ∧
  ∃ l1 l2 : List Nat, nR S t 0 l1 ∧ nR S t 1 l2 ∧ l1.Perm ((tVs T).map vC1) ∧ l2.Perm (l1.map vC2)
/-- what the two have besides -/
def tOk (S : kS) (t : Nat) (T : sT) : Prop := tR S t T ∧ tW T
theorem tLv_in {T : sT} {e : Nat} (h : e < 48) : tLv T e = (tTh T e && !tDd T e) := by
  unfold tLv
  rw [Int.toNat_natCast]
  simp [show (e : Int) < 48 by omega]
theorem tLv_out {T : sT} {z : Int} (h : z < 0 ∨ 48 ≤ z) : tLv T z = false := by
  unfold tLv
  rcases h with h | h
  · simp [show ¬ 0 ≤ z by omega]
  · simp [show ¬ z < 48 by omega]
theorem tLv_lt {T : sT} {z : Int} (h : tLv T z = true) : 0 ≤ z ∧ z < 48 := by
  unfold tLv at h
  simp only [Bool.and_eq_true, decide_eq_true_eq] at h
  exact ⟨h.1, h.2.1⟩
section QT
variable {N : Nat} {S : kS} {t : Nat} {T : sT}
theorem q_isLive (R : tOk S t T) {z : Int} (h1 : -2147483648 ≤ z) (h2 : z < 2147483648) : pX8_isLive N t (zI z) S = some (zB (tLv T z), S) := by
  obtain ⟨⟨-, -, -, -, -, Ra, Rd, -⟩, -⟩ := R
  simp only [pX8_isLive]
  rw [zL_0, zL_48, il_lt h1 h2 (by omega) (by omega), il_le (by omega) (by omega) h1 h2]
  by_cases h0 : z < 0
  · rw [if_pos h0, tLv_out (Or.inl h0)]; rfl
  · rw [if_neg h0]
    by_cases h48 : 48 ≤ z
    · rw [if_pos h48, tLv_out (Or.inr h48)]; rfl
    · rw [if_neg h48]
      obtain ⟨e, rfl⟩ : ∃ e : Nat, z = e := ⟨z.toNat, by omega⟩
      have he : e < 48 := by omega
      rw [← zL_0, il_bit (by omega), lb_and, lb_not _ (by omega), Ra e (by omega), Rd e (by omega), tLv_in he]
      simp only [he, decide_true, Bool.true_and]
      by_cases hb : (tTh T e && !tDd T e) = true
      · rw [if_pos hb, hb]; rfl
      · rw [if_neg hb, Bool.eq_false_iff.mpr hb]; rfl
theorem q_living : pX8_living N t S = some ((kL S (8 + 2 * t)) &&& ((kL S (9 + 2 * t)) ^^^ (-1 : Int64)), S) := rfl
theorem lv_bit (R : tOk S t T) {i : Nat} (hi : i < 64) : lb ((kL S (8 + 2 * t)) &&& ((kL S (9 + 2 * t)) ^^^ (-1 : Int64))) i = tLv T i := by
  obtain ⟨⟨-, -, -, -, -, Ra, Rd, -⟩, -⟩ := R
  rw [lb_and, lb_not _ hi, Ra i hi, Rd i hi]
  by_cases h : i < 48
  · rw [tLv_in h]; simp [h]
  · rw [tLv_out (Or.inr (by omega))]; simp [h]
theorem tPa_rg (R : tOk S t T) {e : Nat} (he : e < 48) : -1 ≤ tPa T e ∧ tPa T e < 48 := ⟨R.2.2.1 e he, R.2.1.1 e he⟩
theorem tPl_rg (R : tW T) {e : Nat} (he : e < 48) : -2 ≤ tPl T e ∧ tPl T e < 48 := by
  have h1 := R.2.1 e he
  have h2 := R.1.1 e he
  unfold tPl
  rw [Int.toNat_natCast]
  split
  · omega
  · split <;> omega
theorem q_placeOf (R : tOk S t T) {e : Nat} (he : e < 48) : pX8_placeOf N t (zI (e : Nat)) S = some (zI (tPl T e), S) := by
  have hp := tPa_rg R he
  simp only [pX8_placeOf]
  rw [zL_0, il_eq (by omega) (by omega) (by omega) (by omega)]
  unfold tPl
  by_cases h0 : (e : Int) = 0
  · rw [if_pos h0, if_pos h0]; rfl
  · rw [if_neg h0, if_neg h0, gd_n he (by omega), zI_cn (by omega), R.1.2.2.2.1 e he, q_isLive R (by omega) (by omega), bk_i, Int.toNat_natCast, ← zL_0, il_B]
    cases hb : tLv T (tPa T e) with
    | false => rfl
    | true => rw [if_pos rfl, if_pos rfl, gd_n he (by omega), R.1.2.2.2.1 e he]
/-- below 48, by steps -/
theorem q_comesTo_5 (R : tOk S t T) {to : Nat} (hto : to < 48) : ∀ (n k i : Nat) (x : Int), i + k = 48 → k < n → -1 ≤ x → x < 48 → pX8_comesTo_5 N t n (zI (to : Nat)) (zI x) (zI (i : Nat)) S = some (zB (pCome (tPa T) k x to), S)
  | 0, k, i, x, hk, hn, h1, h2 => by omega
  | n + 1, k, i, x, hk, hn, h1, h2 => by
    simp only [pX8_comesTo_5, nm_i]
    rw [zL_48, zL_0, il_le (by omega) (by omega) (by omega) (by omega), il_lt (by omega) (by omega) (by omega) (by omega), il_le (by omega) (by omega) (by omega) (by omega), il_eq (by omega) (by omega) (by omega) (by omega)]
    cases k with
    | zero => rw [if_pos (by omega)]; rfl
    | succ k =>
      rw [if_neg (by omega)]
      unfold pCome
      by_cases h0 : x < 0
      · rw [if_pos h0, if_pos h0]; rfl
      · rw [if_neg h0, if_neg h0, if_neg (by omega)]
        by_cases he : x = (to : Int)
        · rw [if_pos he, if_pos he]; rfl
        · rw [if_neg he, if_neg he]
          obtain ⟨e, rfl⟩ : ∃ e : Nat, x = e := ⟨x.toNat, by omega⟩
          have hp := tPa_rg R (e := e) (by omega)
          rw [gd_n (by omega) (by omega), zI_cn (by omega), R.1.2.2.2.1 e (by omega), zL_1, zI_add, Int.toNat_natCast]
          have ih := q_comesTo_5 R hto n k (i + 1) (tPa T e) (by omega) (by omega) hp.1 hp.2
          rw [show ((i + 1 : Nat) : Int) = (i : Int) + 1 by omega] at ih
          exact ih
theorem q_comesTo (R : tOk S t T) (hN : 49 ≤ N) {to : Nat} (hto : to < 48) {x : Int} (h1 : -1 ≤ x) (h2 : x < 48) : pX8_comesTo N t (zI x) (zI (to : Nat)) S = some (zB (pCome (tPa T) 48 x to), S) :=
  q_comesTo_5 R hto N 48 0 x (by omega) (by omega) h1 h2
theorem q_isAtOrBeneath_5 (R : tOk S t T) {to : Nat} (hto : to < 48) : ∀ (n k i : Nat) (x : Int), i + k = 48 → k < n → -2 ≤ x → x < 48 → pX8_isAtOrBeneath_5 N t n (zI (to : Nat)) (zI x) (zI (i : Nat)) S = some (zB (pCome (fun e => tPl T e) k x to), S)
  | 0, k, i, x, hk, hn, h1, h2 => by omega
  | n + 1, k, i, x, hk, hn, h1, h2 => by
    simp only [pX8_isAtOrBeneath_5, nm_i]
    rw [zL_48, zL_0, il_le (by omega) (by omega) (by omega) (by omega), il_lt (by omega) (by omega) (by omega) (by omega), il_eq (by omega) (by omega) (by omega) (by omega)]
    cases k with
    | zero => rw [if_pos (by omega)]; rfl
    | succ k =>
      rw [if_neg (by omega)]
      unfold pCome
      by_cases h0 : x < 0
      · rw [if_pos h0, if_pos h0]; rfl
      · rw [if_neg h0, if_neg h0]
        by_cases he : x = (to : Int)
        · rw [if_pos he, if_pos he]; rfl
        · rw [if_neg he, if_neg he]
          obtain ⟨e, rfl⟩ : ∃ e : Nat, x = e := ⟨x.toNat, by omega⟩
          have hp := tPl_rg R.2 (e := e) (by omega)
          rw [q_placeOf R (by omega), bk_i, zL_1, zI_add, Int.toNat_natCast]
          have ih := q_isAtOrBeneath_5 R hto n k (i + 1) (tPl T e) (by omega) (by omega) hp.1 hp.2
          rw [show ((i + 1 : Nat) : Int) = (i : Int) + 1 by omega] at ih
          exact ih
theorem q_isAtOrBeneath (R : tOk S t T) (hN : 49 ≤ N) {to : Nat} (hto : to < 48) {x : Int} (h1 : -2 ≤ x) (h2 : x < 48) : pX8_isAtOrBeneath N t (zI x) (zI (to : Nat)) S = some (zB (pCome (fun e => tPl T e) 48 x to), S) :=
  q_isAtOrBeneath_5 R hto N 48 0 x (by omega) (by omega) h1 h2
/-- the names that are shown -/
theorem tBn_rg (R : tW T) {e : Nat} (he : e < 48) : tBn T e < 1000000 := R.2.2.2.2.2.1 e he
theorem anyF_s (p : Nat → Bool) (i n : Nat) : anyF p i (n + 1) = (p i || anyF p (i + 1) n) := rfl
theorem q_shownName_8 (R : tOk S t T) {e : Nat} (he : e < 48) (hl : tTh T e = true) {k73 k84 : Int32 → kS → Option (Int32 × kS)} {r1 r2 : Option (Int32 × kS)} (h73 : k73 (zI (e : Nat)) S = r1) (h84 : k84 (zI (e : Nat)) S = r2) : ∀ (n k i : Nat), 1 ≤ i → i + k = 48 → k < n → pX8_shownName_8 N t k73 k84 n (zI (e : Nat)) (zI (tPl T e)) (zI (i : Nat)) S = if anyF (tCl T e) i k then r1 else r2
  | 0, k, i, hi, hk, hn => by omega
  | n + 1, k, i, hi, hk, hn => by
    have hpe := tPl_rg R.2 he
    simp only [pX8_shownName_8, pX8_shownName_49, pX8_shownName_78, nm_i]
    rw [zL_48, il_le (by omega) (by omega) (by omega) (by omega)]
    cases k with
    | zero =>
      rw [if_pos (by omega), h84]
      rfl
    | succ k =>
      have hik : i < 48 := by omega
      have hpi := tPl_rg R.2 hik
      have hn1 := R.2.2.2.1 e he
      have hn2 := R.2.2.2.1 i hik
      have ih := q_shownName_8 R he hl h73 h84 n k (i + 1) (by omega) (by omega) (by omega)
      rw [show ((i + 1 : Nat) : Int) = (i : Int) + 1 by omega] at ih
      have ih2 : pX8_shownName_8 N t k73 k84 n (zI (e : Nat)) (zI (tPl T e)) (zI (i : Nat) + 1) S = if anyF (tCl T e) (i + 1) k then r1 else r2 := by
        rw [zL_1, zI_add]; exact ih
      rw [if_neg (by omega)]
      simp only [gd_n hik (show (48 : Nat) < 2147483648 by omega), gd_n he (show (48 : Nat) < 2147483648 by omega), zI_cn (show i < 2147483648 by omega), zI_cn (show e < 2147483648 by omega), R.1.1 e he, R.1.1 i hik, ih2]
      rw [il_eq (by omega) (by omega) (by omega) (by omega)]
      by_cases hnm : tNm T i = tNm T e
      · rw [if_pos hnm]
        by_cases hth : tTh T i = true
        · have hb1 := tBn_rg R.2 he
          have hb2 := tBn_rg R.2 hik
          rw [R.1.2.2.2.2.1 e he hl, R.1.2.2.2.2.1 i hik hth, il_le (by omega) (by omega) (by omega) (by omega)]
          by_cases hbn : tBn T i < tBn T e
          · rw [if_neg (by omega), if_neg (by decide), q_isLive R (by omega) (by omega), bk_i, il_B]
            cases hlv : tLv T i with
            | false =>
              rw [if_neg (by decide)]
              have : tCl T e i = false := by unfold tCl; rw [hlv]; rfl
              rw [anyF_s, this, Bool.false_or]
              try exact ih2
            | true =>
              rw [if_pos rfl, q_placeOf R hik, bk_i, il_eq (by omega) (by omega) (by omega) (by omega)]
              by_cases hpl : tPl T i = tPl T e
              · rw [if_pos hpl, h73]
                have : tCl T e i = true := by unfold tCl; simp [hlv, hpl, hnm, hbn]
                rw [anyF_s, this, Bool.true_or, if_pos rfl]
              · rw [if_neg hpl]
                have : tCl T e i = false := by unfold tCl; simp [hpl]
                rw [anyF_s, this, Bool.false_or]
                try exact ih2
          · rw [if_pos (by omega), if_pos trivial]
            have : tCl T e i = false := by unfold tCl; simp [hbn]
            rw [anyF_s, this, Bool.false_or]
            try exact ih2
        · have hnl : tLv T i = false := by rw [tLv_in hik, Bool.eq_false_iff.mpr hth]; rfl
          have : tCl T e i = false := by unfold tCl; rw [hnl]; rfl
          rw [anyF_s, this, Bool.false_or]
          try exact ih2
          split
          · rw [if_pos trivial]
          · rw [if_neg (by decide), q_isLive R (by omega) (by omega), bk_i, il_B, hnl, if_neg (by decide)]
            try exact ih2
      · rw [if_neg hnm, if_pos trivial]
        have : tCl T e i = false := by unfold tCl; simp [hnm]
        rw [anyF_s, this, Bool.false_or]
        try exact ih2
theorem q_shownName (R : tOk S t T) (hN : 48 ≤ N) {e : Nat} (he : e < 48) (hl : tTh T e = true) : pX8_shownName N t (zI (e : Nat)) S = some (zI (tSh T e), S) := by
  simp only [pX8_shownName]
  rw [q_placeOf R he, bk_i, zL_1, show (1 : Int) = ((1 : Nat) : Int) from rfl, q_shownName_8 R he hl (r1 := some (zI (100 + (e : Int)), S)) (r2 := some (zI (tNm T e), S)) (by simp only [pX8_shownName_73]; rw [zL_100, zI_add]) (by simp only [pX8_shownName_84]; rw [gd_n he (by omega), zI_cn (by omega), R.1.1 e he]) N 47 1 (by omega) (by omega) (by omega)]
  unfold tSh
  split <;> rfl
end QT
