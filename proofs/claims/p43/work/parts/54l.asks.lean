-- LEVEL 2, WHAT A TREE OF THE CLASS ANSWERS
def tShP (T : sT) (place name but : Int) (e : Nat) : Bool := decide ((e : Int) ≠ but) && (tLv T e && (decide (tPl T e = place) && decide (tSh T e = name)))
theorem tSh_rg {T : sT} (R : tW T) {e : Nat} (he : e < 48) : 0 ≤ tSh T e ∧ tSh T e < 148 := by
  have h := R.2.2.1 e he
  unfold tSh
  split <;> omega
/-- the values between two codes -/
def tBw (T : sT) (e lo hi : Nat) : Nat := (tVs T).countP (fun x => decide (x.1 = e) && (decide (lo ≤ x.2.1 * 1000 + x.2.2) && decide (x.2.1 * 1000 + x.2.2 ≤ hi)))
theorem tW_v {T : sT} (h : tW T) : ∀ x ∈ tVs T, vOk x := h.2.2.2.2.2.2.1
theorem tCnt_bw {T : sT} (h : tW T) {e a : Nat} : tBw T e (a * 1000) (a * 1000 + 999) = tCnt T e a := by
  unfold tBw tCnt
  apply List.countP_congr
  intro x hx
  have := tW_v h x hx
  obtain ⟨h1, h2, h3⟩ := this
  simp only [Bool.and_eq_true, decide_eq_true_eq]
  omega
theorem tMt_bw {T : sT} (h : tW T) {H : sH} {e a v : Nat} (hv : v < 1000) : tBw T e (a * 1000 + vLo H a v) (a * 1000 + vHi H a v) = tMt H T e a v := by
  unfold tBw tMt
  apply List.countP_congr
  intro x hx
  have := tW_v h x hx
  obtain ⟨h1, h2, h3⟩ := this
  have hh := vHi_lt H a hv
  have hl := vLo_le H a v
  have hk := vKey_iff (H := H) (a := a) (v := v) (w := x.2.2)
  unfold vGoes
  simp only [Bool.and_eq_true, decide_eq_true_eq, Bool.false_or]
  rw [hk]
  omega
section QA
variable {N : Nat} {S : kS} {t : Nat} {T : sT} {H : sH}
theorem q_isShown_3 (R : tOk S t T) (hN : 48 ≤ N) {place name but : Int} (h1 : -3 ≤ place) (h2 : place < 1000) (h3 : -1 ≤ name) (h4 : name < 1000) (h5 : -1 ≤ but) (h6 : but < 1000) : ∀ (n k i : Nat), 1 ≤ i → i + k = 48 → k < n → pX8_isShown_3 N t n (zI place) (zI name) (zI but) (zI (i : Nat)) S = some (zB (anyF (tShP T place name but) i k), S)
  | 0, k, i, hi, hk, hn => by omega
  | n + 1, k, i, hi, hk, hn => by
    simp only [pX8_isShown_3, pX8_isShown_40, pX8_isShown_59, nm_i]
    rw [zL_48, il_le (by omega) (by omega) (by omega) (by omega)]
    cases k with
    | zero => rw [if_pos (by omega)]; rfl
    | succ k =>
      have hik : i < 48 := by omega
      have hpi := tPl_rg R.2 hik
      have hsi := tSh_rg R.2 hik
      have ih := q_isShown_3 R hN h1 h2 h3 h4 h5 h6 n k (i + 1) (by omega) (by omega) (by omega)
      rw [show ((i + 1 : Nat) : Int) = (i : Int) + 1 by omega] at ih
      have ih2 : pX8_isShown_3 N t n (zI place) (zI name) (zI but) (zI (i : Nat) + 1) S = some (zB (anyF (tShP T place name but) (i + 1) k), S) := by
        rw [zL_1, zI_add]; exact ih
      rw [if_neg (by omega), il_eq (by omega) (by omega) (by omega) (by omega), anyF_s]
      simp only [ih2]
      by_cases hb : (i : Int) = but
      · rw [if_pos hb, if_pos trivial]
        have : tShP T place name but i = false := by unfold tShP; simp [hb]
        rw [this, Bool.false_or]
      · rw [if_neg hb, q_isLive R (by omega) (by omega), bk_i, il_B]
        cases hlv : tLv T i with
        | false =>
          rw [if_neg (by decide), if_pos trivial]
          have : tShP T place name but i = false := by unfold tShP; simp [hlv]
          rw [this, Bool.false_or]
          exact ih2
        | true =>
          rw [if_pos rfl, q_placeOf R hik, bk_i, il_eq (by omega) (by omega) (by omega) (by omega)]
          by_cases hpl : tPl T i = place
          · have hth : tTh T i = true := by
              rw [tLv_in hik] at hlv
              simp only [Bool.and_eq_true] at hlv
              exact hlv.1
            rw [if_pos hpl, if_neg (by decide), q_shownName R hN hik hth, bk_i, il_eq (by omega) (by omega) (by omega) (by omega)]
            by_cases hsh : tSh T i = name
            · rw [if_pos hsh]
              have : tShP T place name but i = true := by unfold tShP; simp [hlv, hpl, hsh, hb]
              rw [this, Bool.true_or]; rfl
            · rw [if_neg hsh]
              have : tShP T place name but i = false := by unfold tShP; simp [hsh]
              rw [this, Bool.false_or]
              exact ih2
          · rw [if_neg hpl, if_pos trivial]
            have : tShP T place name but i = false := by unfold tShP; simp [hpl]
            rw [this, Bool.false_or]
            exact ih2
theorem q_isShown (R : tOk S t T) (hN : 48 ≤ N) {place name but : Int} (h1 : -3 ≤ place) (h2 : place < 1000) (h3 : -1 ≤ name) (h4 : name < 1000) (h5 : -1 ≤ but) (h6 : but < 1000) : pX8_isShown N t (zI place) (zI name) (zI but) S = some (zB (tShd T place name but), S) :=
  q_isShown_3 R hN h1 h2 h3 h4 h5 h6 N 47 1 (by omega) (by omega) (by omega)
theorem q_childrenAt_5 (R : tOk S t T) {place : Int} (h1 : -3 ≤ place) (h2 : place < 1000) : ∀ (n k i : Nat) (w : Int64), 1 ≤ i → i + k = 48 → k < n → (∀ j, j < 64 → lb w j = (decide (1 ≤ j) && (decide (j < i) && tCh T place j))) → ∃ w', pX8_childrenAt_5 N t n (zI place) w (zI (i : Nat)) S = some (w', S) ∧ ∀ j, j < 64 → lb w' j = (decide (1 ≤ j) && (decide (j < 48) && tCh T place j))
  | 0, k, i, w, hi, hk, hn, hw => by omega
  | n + 1, k, i, w, hi, hk, hn, hw => by
    simp only [pX8_childrenAt_5, pX8_childrenAt_38, nm_i, nml_i]
    rw [zL_48, il_le (by omega) (by omega) (by omega) (by omega)]
    cases k with
    | zero =>
      rw [if_pos (by omega)]
      exact ⟨w, rfl, fun j hj => by rw [hw j hj, show i = 48 by omega]⟩
    | succ k =>
      have hik : i < 48 := by omega
      have hpi := tPl_rg R.2 hik
      rw [if_neg (by omega), zL_1, zI_add, show (i : Int) + 1 = ((i + 1 : Nat) : Int) by omega, q_isLive R (by omega) (by omega), bk_i, il_B]
      have no : tCh T place i = false → ∀ j, j < 64 → lb w j = (decide (1 ≤ j) && (decide (j < i + 1) && tCh T place j)) := fun h j hj => by
        rw [hw j hj]
        by_cases q : j = i
        · rw [q, h]; simp
        · by_cases q2 : j < i
          · simp [q2, show j < i + 1 by omega]
          · simp [q2, show ¬ j < i + 1 by omega]
      cases hlv : tLv T i with
      | false =>
        rw [if_neg (by decide)]
        exact q_childrenAt_5 R h1 h2 n k (i + 1) w (by omega) (by omega) (by omega) (no (by unfold tCh; rw [hlv]; rfl))
      | true =>
        rw [if_pos rfl, q_placeOf R hik, bk_i, il_eq (by omega) (by omega) (by omega) (by omega)]
        by_cases hpl : tPl T i = place
        · rw [if_pos hpl]
          refine q_childrenAt_5 R h1 h2 n k (i + 1) _ (by omega) (by omega) (by omega) (fun j hj => ?_)
          have hc : tCh T place i = true := by unfold tCh; simp [hlv, hpl]
          rw [lb_or, hw j hj, lb_shl1 (by omega) hj]
          by_cases q : j = i
          · rw [q, hc]; simp [hi]
          · by_cases q2 : j < i
            · simp [q, q2, show j < i + 1 by omega]
            · simp [q, q2, show ¬ j < i + 1 by omega]
        · rw [if_neg hpl]
          exact q_childrenAt_5 R h1 h2 n k (i + 1) w (by omega) (by omega) (by omega) (no (by unfold tCh; simp [hpl]))
theorem q_childrenAt (R : tOk S t T) (hN : 48 ≤ N) {place : Int} (h1 : -3 ≤ place) (h2 : place < 1000) : ∃ w', pX8_childrenAt N t (zI place) S = some (w', S) ∧ ∀ j, j < 64 → lb w' j = (decide (1 ≤ j) && (decide (j < 48) && tCh T place j)) :=
  q_childrenAt_5 R h1 h2 N 47 1 0 (by omega) (by omega) (by omega) (fun j hj => by
    rw [lb_0]
    by_cases q : 1 ≤ j
    · simp [show ¬ j < 1 by omega]
    · simp [q])
/-- how many values -/
theorem q_valuesBetween (R : tOk S t T) (hN : 11 ≤ N) {e lo hi : Nat} (he : e < 48) (hl : lo ≤ hi) (hh : hi < 10000) : pX8_valuesBetween N t (zI (e : Nat)) (zI (lo : Nat)) (zI (hi : Nat)) S = some (zI (tBw T e lo hi : Nat), S) := by
  obtain ⟨⟨-, -, -, -, -, -, -, -, -, l1, l2, n1, n2, p1, p2⟩, hW⟩ := R
  simp only [pX8_valuesBetween]
  rw [zL_10000]
  simp only [zI_mul, zI_add]
  rw [q_countBetween n1 (by omega) (by omega) (by omega) (by omega) hN, bk_i]
  have h := nCt_sub (l := l1) (lo := (e : Int) * 10000 + (lo : Int)) (hi := (e : Int) * 10000 + (hi : Int) + 1) (by omega)
  have h2 : l1.countP (fun x : Nat => decide ((e : Int) * 10000 + (lo : Int) ≤ (x : Int)) && decide ((x : Int) < (e : Int) * 10000 + (hi : Int) + 1)) = tBw T e lo hi := by
    rw [p1.countP_eq, List.countP_map]
    unfold tBw
    apply List.countP_congr
    intro x hx
    obtain ⟨h1, h2, h3⟩ := tW_v hW x hx
    simp only [Function.comp, Bool.and_eq_true, decide_eq_true_eq]
    unfold vC1
    omega
  rw [h2] at h
  congr 3
  omega
theorem q_valuesOf (R : tOk S t T) (hN : 11 ≤ N) {e a : Nat} (he : e < 48) (ha : a < 10) : pX8_valuesOf N t (zI (e : Nat)) (zI (a : Nat)) S = some (zI (tCnt T e a : Nat), S) := by
  simp only [pX8_valuesOf]
  rw [zL_1000, zL_1]
  simp only [zI_mul, zI_add, zI_sub]
  rw [show (a : Int) * 1000 + 1000 - 1 = ((a * 1000 + 999 : Nat) : Int) by omega, show (a : Int) * 1000 = ((a * 1000 : Nat) : Int) by omega, q_valuesBetween R hN he (by omega) (by omega), bk_i, tCnt_bw R.2]
theorem q_matching (R : tOk S t T) (hH : hR S H) (hN : 11 ≤ N) {e a v : Nat} (he : e < 48) (ha : a < 10) (hv : v < 1000) : pX8_matching N t (zI (e : Nat)) (zI (a : Nat)) (zI (v : Nat)) S = some (zI (tMt H T e a v : Nat), S) := by
  have hh := vHi_lt H a hv
  have hl := vLo_le H a v
  simp only [pX8_matching]
  rw [q_lowest hH (by omega) hv, bk_i, q_highest hH (by omega) hv, bk_i, zL_1000]
  simp only [zI_mul, zI_add]
  rw [show (a : Int) * 1000 + (vLo H a v : Nat) = ((a * 1000 + vLo H a v : Nat) : Int) by omega, show (a : Int) * 1000 + (vHi H a v : Nat) = ((a * 1000 + vHi H a v : Nat) : Int) by omega, q_valuesBetween R hN he (by omega) (by omega), bk_i, tMt_bw R.2 hv]
end QA
