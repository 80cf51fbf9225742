-- LEVEL 2, ROWS OF NUMBERS IN ORDER
def nSt (l : List Nat) : Prop := l.Pairwise (· < ·)
/-- how many are below z -/
def nCt (l : List Nat) (z : Int) : Nat := l.countP (fun x : Nat => decide ((x : Int) < z))
theorem nCt_le (l : List Nat) (z : Int) : nCt l z ≤ l.length := List.countP_le_length
theorem nCt_cons (a : Nat) (l : List Nat) (z : Int) : nCt (a :: l) z = nCt l z + (if (a : Int) < z then 1 else 0) := by
  unfold nCt
  rw [List.countP_cons]
  by_cases h : (a : Int) < z <;> simp [h]
theorem nCt_0 {l : List Nat} {z : Int} (h : ∀ x : Nat, x ∈ l → z ≤ (x : Int)) : nCt l z = 0 := by
  unfold nCt
  rw [List.countP_eq_zero]
  intro x hx
  have := h x hx
  simp; omega
theorem nCt_at {z : Int} : ∀ {l : List Nat}, nSt l → ∀ {i : Nat} (hi : i < l.length), ((l[i] : Int) < z) ↔ i < nCt l z
  | a :: l, h, i, hi => by
    obtain ⟨h1, h2⟩ := List.pairwise_cons.mp h
    rw [nCt_cons]
    by_cases ha : (a : Int) < z
    · rw [if_pos ha]
      cases i with
      | zero => simp [ha]
      | succ i =>
        have := nCt_at (z := z) h2 (i := i) (by simpa using hi)
        simp only [List.getElem_cons_succ]
        rw [this]; omega
    · rw [if_neg ha, nCt_0 (l := l) (fun x hx => by have := h1 x hx; omega)]
      cases i with
      | zero => simp [ha]
      | succ i =>
        have hm : l[i]'(by simpa using hi) ∈ l := List.getElem_mem _
        have := h1 _ hm
        simp only [List.getElem_cons_succ]
        omega
/-- the row of numbers j of the tree t -/
def nR (S : kS) (t j : Nat) (l : List Nat) : Prop := kI S (40 + 3 * t + j) = zI (l.length : Nat) ∧ (∀ (i : Nat) (h : i < l.length), kA S (26 + 15 * t + 10 + 2 * j) i = zI (l[i] : Nat)) ∧ nSt l ∧ (∀ x ∈ l, x < 1000000) ∧ l.length ≤ kNl j
theorem kNl_le (j : Nat) : kNl j ≤ 826 := by unfold kNl; split <;> omega
theorem pow10 {k : Nat} (h : k ≤ 9) : 2 ^ k ≤ 512 := Nat.pow_le_pow_right (n := 2) (by omega) h
theorem q_indexOf_6 {S : kS} {t j : Nat} {l : List Nat} (R : nR S t j l) {z : Int} (h1 : -2147483648 ≤ z) (h2 : z < 2147483648) {N : Nat} : ∀ (k n i : Nat), k ≤ 10 → k < n → i ≤ nCt l z → nCt l z < i + 2 ^ k → pX5_indexOf_6 N t j n (zI z) (zI (i : Nat)) (zI ((2 ^ k / 2 : Nat) : Int)) S = some (zI (nCt l z : Nat), S)
  | 0, n + 1, i, _, _, hi, hc => by
    have e : i = nCt l z := by
      have : (2 : Nat) ^ 0 = 1 := rfl
      omega
    simp only [pX5_indexOf_6]
    rw [if_pos (show zI ((2 ^ 0 / 2 : Nat) : Int) ≤ 0 from Int32.le_refl _), e]
  | k + 1, n + 1, i, hk, hn, hi, hc => by
    obtain ⟨R1, R2, R3, R4, R5⟩ := R
    have hle := nCt_le l z
    have hN := kNl_le j
    have hp := pow10 (k := k) (by omega)
    have hp0 : 0 < 2 ^ k := Nat.two_pow_pos k
    have e1 : (2 ^ (k + 1) / 2 : Nat) = 2 ^ k := by rw [Nat.pow_succ]; omega
    have e2 : (2 : Nat) ^ (k + 1) = 2 ^ k + 2 ^ k := by rw [Nat.pow_succ]; omega
    have ih := fun i' => q_indexOf_6 ⟨R1, R2, R3, R4, R5⟩ h1 h2 (N := N) k n i' (by omega) (by omega)
    have ediv : zI ((2 ^ k : Nat) : Int) / 2 = zI ((2 ^ k / 2 : Nat) : Int) := by
      rw [zL_2, zI_div (by omega) (by omega) (by omega) (by omega)]
      rfl
    rw [e1]
    simp only [pX5_indexOf_6, pX5_indexOf_38, nm_i, ediv]
    rw [if_neg (by rw [zL_0, zI_le (by omega) (by omega) (by omega) (by omega)]; omega), R1, zI_add, il_lt (by omega) (by omega) (by omega) (by omega)]
    by_cases hb : (l.length : Int) < (i : Int) + ((2 ^ k : Nat) : Int)
    · rw [if_pos hb]
      exact ih i hi (by omega)
    · rw [if_neg hb, zL_1, zI_sub, gd_z (by omega) (by omega) (by omega), zI_clamp (by omega) (by omega)]
      have hi2 : i + 2 ^ k - 1 < l.length := by omega
      rw [show ((i : Int) + ((2 ^ k : Nat) : Int) - 1).toNat = i + 2 ^ k - 1 by omega, R2 _ hi2]
      have hx := R4 _ (List.getElem_mem hi2)
      have hat := nCt_at (z := z) R3 hi2
      rw [il_le (by omega) (by omega) (by omega) (by omega)]
      by_cases hq : z ≤ (l[i + 2 ^ k - 1] : Int)
      · rw [if_pos hq]
        exact ih i hi (by omega)
      · rw [if_neg hq]
        have : i + 2 ^ k - 1 < nCt l z := hat.mp (by omega)
        have := ih (i + 2 ^ k) (by omega) (by omega)
        rw [show ((i + 2 ^ k : Nat) : Int) = (i : Int) + ((2 ^ k : Nat) : Int) by omega] at this
        exact this
theorem q_indexOf {S : kS} {t j : Nat} {l : List Nat} (R : nR S t j l) {z : Int} (h1 : -2147483648 ≤ z) (h2 : z < 2147483648) {N : Nat} (hN : 11 ≤ N) : pX5_indexOf N t j (zI z) S = some (zI (nCt l z : Nat), S) := by
  have hle := nCt_le l z
  have hn := kNl_le j
  have := R.2.2.2.2
  exact q_indexOf_6 R h1 h2 10 N 0 (by omega) (by omega) (by omega) (by show _ < 0 + 1024; omega)
theorem q_countBetween {S : kS} {t j : Nat} {l : List Nat} (R : nR S t j l) {lo hi : Int} (h1 : -2147483648 ≤ lo) (h2 : lo < 2147483647) (h3 : -2147483648 ≤ hi) (h4 : hi < 2147483647) {N : Nat} (hN : 11 ≤ N) : pX5_countBetween N t j (zI lo) (zI hi) S = some (zI ((nCt l (hi + 1) : Nat) - (nCt l lo : Nat)), S) := by
  simp only [pX5_countBetween]
  rw [zL_1, zI_add, q_indexOf R (by omega) (by omega) hN, bk_i, q_indexOf R (by omega) (by omega) hN, bk_i, zI_sub]
theorem q_at {S : kS} {t j : Nat} {l : List Nat} (R : nR S t j l) {i : Nat} (hi : i < l.length) {N : Nat} : pX5_at N t j (zI (i : Nat)) S = some (zI (l[i] : Nat), S) := by
  obtain ⟨R1, R2, R3, R4, R5⟩ := R
  have hn := kNl_le j
  simp only [pX5_at]
  rw [if_neg (by rw [zL_0, zI_lt (by omega) (by omega) (by omega) (by omega)]; omega), R1, if_neg (by rw [zI_le (by omega) (by omega) (by omega) (by omega)]; omega), gd_n (by omega) (by omega), zI_cn (by omega), R2 i hi]
theorem q_at_out {S : kS} {t j : Nat} {l : List Nat} (R : nR S t j l) {z : Int} (h1 : -2147483648 ≤ z) (h2 : z < 2147483648) (h : z < 0 ∨ (l.length : Int) ≤ z) {N : Nat} : pX5_at N t j (zI z) S = some (zI (-1), S) := by
  obtain ⟨R1, R2, R3, R4, R5⟩ := R
  have hn := kNl_le j
  simp only [pX5_at]
  by_cases h0 : z < 0
  · rw [if_pos (by rw [zL_0, zI_lt (by omega) (by omega) (by omega) (by omega)]; omega)]; rfl
  · rw [if_neg (by rw [zL_0, zI_lt (by omega) (by omega) (by omega) (by omega)]; omega), R1, if_pos (by rw [zI_le (by omega) (by omega) (by omega) (by omega)]; omega)]; rfl
-- between two numbers
theorem nCt_sub {l : List Nat} {lo hi : Int} (h : lo ≤ hi) : nCt l lo + l.countP (fun x : Nat => decide (lo ≤ (x : Int)) && decide ((x : Int) < hi)) = nCt l hi := by
  unfold nCt
  induction l with
  | nil => rfl
  | cons a l ih =>
    simp only [List.countP_cons]
    by_cases h1 : (a : Int) < lo
    · have h2 : (a : Int) < hi := by omega
      have h3 : ¬ lo ≤ (a : Int) := by omega
      simp [h1, h2, h3]; omega
    · have h3 : lo ≤ (a : Int) := by omega
      by_cases h2 : (a : Int) < hi
      · simp [h1, h2, h3]; omega
      · simp [h1, h2, h3]; omega
-- a number comes
def nIns (l : List Nat) (x : Nat) : List Nat := l.take (nCt l x) ++ x :: l.drop (nCt l x)
theorem nIns_perm (l : List Nat) (x : Nat) : (nIns l x).Perm (x :: l) := by
  unfold nIns
  have := (List.perm_middle (a := x) (l₁ := l.take (nCt l x)) (l₂ := l.drop (nCt l x)))
  rwa [List.take_append_drop] at this
theorem nSt_take {l : List Nat} (h : nSt l) {z : Int} {y : Nat} (hy : y ∈ l.take (nCt l z)) : (y : Int) < z := by
  obtain ⟨i, hi, e⟩ := List.getElem_of_mem hy
  have hl : i < nCt l z := by rw [List.length_take] at hi; omega
  rw [List.getElem_take] at e
  rw [← e]
  exact (nCt_at h _).mpr hl
theorem nSt_drop {l : List Nat} (h : nSt l) {z : Int} {y : Nat} (hy : y ∈ l.drop (nCt l z)) : z ≤ (y : Int) := by
  obtain ⟨i, hi, e⟩ := List.getElem_of_mem hy
  rw [List.length_drop] at hi
  rw [List.getElem_drop] at e
  rw [← e]
  have := (nCt_at (z := z) h (i := nCt l z + i) (by omega))
  omega
theorem nIns_st {l : List Nat} (h : nSt l) {x : Nat} (hx : x ∉ l) : nSt (nIns l x) := by
  unfold nIns nSt
  rw [List.pairwise_append]
  refine ⟨h.sublist (List.take_sublist _ _), List.pairwise_cons.mpr ⟨fun y hy => ?_, h.sublist (List.drop_sublist _ _)⟩, fun y hy z hz => ?_⟩
  · have h1 := nSt_drop h hy
    have h2 : y ∈ l := List.mem_of_mem_drop hy
    have h3 : y ≠ x := fun e => hx (e ▸ h2)
    omega
  · have h1 := nSt_take h hy
    rcases List.mem_cons.mp hz with rfl | hz
    · omega
    · have h2 := nSt_drop h hz
      omega
theorem nIns_get {l : List Nat} {x i : Nat} : (nIns l x)[i]? = if i < nCt l x then l[i]? else if i = nCt l x then some x else l[i - 1]? := by
  have hle := nCt_le l x
  unfold nIns
  have ht : (l.take (nCt l x)).length = nCt l x := by rw [List.length_take]; omega
  by_cases h : i < nCt l x
  · rw [if_pos h, List.getElem?_append_left (by omega), List.getElem?_take_of_lt h]
  · rw [if_neg h, List.getElem?_append_right (by omega), ht]
    by_cases h2 : i = nCt l x
    · rw [if_pos h2, h2, Nat.sub_self, List.getElem?_cons_zero]
    · rw [if_neg h2, show i - nCt l x = (i - nCt l x - 1) + 1 by omega, List.getElem?_cons_succ, List.getElem?_drop]
      congr 1
      omega

