-- LEVEL 2, WHAT A TREE OF THE CLASS ANSWERS, MORE
def hIs (H : sH) (k : Int) : Bool := decide (0 ≤ k) && decide (k < (hC H : Int))
def hReq (H : sH) (k : Int) : Int32 := if hIs H k then hRq H k.toNat else 0
def hAll (H : sH) (k : Int) : Int32 := if hIs H k then hAl H k.toNat else 0
section QS
variable {N : Nat} {S : kS} {H : sH}
theorem q_isClass (hH : hR S H) (hW : hW H) {k : Int} (h1 : -2147483648 ≤ k) (h2 : k < 2147483648) : pX7_isClass N (zI k) S = some (zB (hIs H k), S) := by
  have h8 := hW.2.1
  simp only [pX7_isClass]
  rw [zL_0, il_lt h1 h2 (by omega) (by omega), hH.2.1, il_le (by omega) (by omega) h1 h2]
  unfold hIs
  by_cases q : k < 0
  · rw [if_pos q]; simp [show ¬ 0 ≤ k by omega]; rfl
  · rw [if_neg q]
    by_cases q2 : (hC H : Int) ≤ k
    · rw [if_pos q2]; simp [show ¬ k < (hC H : Int) by omega]; rfl
    · rw [if_neg q2]; simp [show 0 ≤ k by omega, show k < (hC H : Int) by omega]; rfl
theorem q_requiredBy (hH : hR S H) (hW : hW H) {k : Int} (h1 : -2147483648 ≤ k) (h2 : k < 2147483648) : pX7_requiredBy N (zI k) S = some (hReq H k, S) := by
  have h8 := hW.2.1
  simp only [pX7_requiredBy]
  rw [q_isClass hH hW h1 h2, bk_i, il_B]
  unfold hReq
  cases h : hIs H k with
  | false => rw [if_neg (by decide), if_neg (by decide)]
  | true =>
    have h3 : 0 ≤ k ∧ k < (hC H : Int) := by
      unfold hIs at h
      simpa only [Bool.and_eq_true, decide_eq_true_eq] using h
    rw [if_pos rfl, if_pos rfl, gd_z (by omega) (by omega) (by omega), zI_clamp (by omega) (by omega), hH.2.2.2.2.2.1 _ (by omega)]
theorem q_allowedBy (hH : hR S H) (hW : hW H) {k : Int} (h1 : -2147483648 ≤ k) (h2 : k < 2147483648) : pX7_allowedBy N (zI k) S = some (hAll H k, S) := by
  have h8 := hW.2.1
  simp only [pX7_allowedBy]
  rw [q_isClass hH hW h1 h2, bk_i, il_B]
  unfold hAll
  cases h : hIs H k with
  | false => rw [if_neg (by decide), if_neg (by decide)]
  | true =>
    have h3 : 0 ≤ k ∧ k < (hC H : Int) := by
      unfold hIs at h
      simpa only [Bool.and_eq_true, decide_eq_true_eq] using h
    rw [if_pos rfl, if_pos rfl, gd_z (by omega) (by omega) (by omega), zI_clamp (by omega) (by omega), hH.2.2.2.2.2.2 _ (by omega)]
theorem q_isRequired (hH : hR S H) (hW : hW H) {k : Int} (h1 : -2147483648 ≤ k) (h2 : k < 2147483648) {a : Nat} (ha : a < 32) : pX7_isRequired N (zI k) (zI (a : Nat)) S = some (zB (ib (hReq H k) a), S) := by
  simp only [pX7_isRequired]
  rw [q_requiredBy hH hW h1 h2, bk_i, il_ibit ha]
  cases ib (hReq H k) a <;> rfl
theorem q_isAllowed (hH : hR S H) (hW : hW H) {k : Int} (h1 : -2147483648 ≤ k) (h2 : k < 2147483648) {a : Nat} (ha : a < 32) : pX7_isAllowed N (zI k) (zI (a : Nat)) S = some (zB (ib (hAll H k) a), S) := by
  simp only [pX7_isAllowed]
  rw [q_allowedBy hH hW h1 h2, bk_i, il_ibit ha]
  cases ib (hAll H k) a <;> rfl
/-- a class is another one, or beneath it -/
def hUp (H : sH) : Nat → Int → Int → Bool
  | 0, _, _ => false
  | n + 1, k, o => if hIs H k then (if k = o then true else hUp H n (hPr H k.toNat) o) else false
theorem q_isOrBeneath_5 (hH : hR S H) (hW : hW H) {o : Int} (h3 : -2147483648 ≤ o) (h4 : o < 2147483648) : ∀ (n k i : Nat) (x : Int), i + k = 8 → k < n → -1 ≤ x → x < 2147483648 → pX7_isOrBeneath_5 N n (zI o) (zI x) (zI (i : Nat)) S = some (zB (hUp H k x o), S)
  | 0, k, i, x, hk, hn, _, _ => by omega
  | n + 1, k, i, x, hk, hn, h1, h2 => by
    have h8 := hW.2.1
    simp only [pX7_isOrBeneath_5, nm_i]
    rw [zL_8, il_le (by omega) (by omega) (by omega) (by omega)]
    cases k with
    | zero => rw [if_pos (by omega)]; rfl
    | succ k =>
      rw [if_neg (by omega), q_isClass hH hW (by omega) h2, bk_i, il_B]
      unfold hUp
      cases h : hIs H x with
      | false => rw [if_neg (by decide), if_neg (by decide)]; rfl
      | true =>
        have h5 : 0 ≤ x ∧ x < (hC H : Int) := by
          unfold hIs at h
          simpa only [Bool.and_eq_true, decide_eq_true_eq] using h
        rw [if_pos rfl, if_pos rfl, il_eq (by omega) (by omega) (by omega) (by omega)]
        by_cases q : x = o
        · rw [if_pos q, if_pos q]; rfl
        · have hp := hW.2.2.1 x.toNat (by omega)
          rw [if_neg q, if_neg q, gd_z (by omega) (by omega) (by omega), zI_clamp (by omega) (by omega), hH.2.2.2.2.1 _ (by omega), zL_1, zI_add, show (i : Int) + 1 = ((i + 1 : Nat) : Int) by omega]
          exact q_isOrBeneath_5 hH hW h3 h4 n k (i + 1) _ (by omega) (by omega) hp.1 (by omega)
theorem q_isOrBeneath (hH : hR S H) (hW : hW H) (hN : 9 ≤ N) {x o : Int} (h1 : -1 ≤ x) (h2 : x < 2147483648) (h3 : -2147483648 ≤ o) (h4 : o < 2147483648) : pX7_isOrBeneath N (zI x) (zI o) S = some (zB (hUp H 8 x o), S) :=
  q_isOrBeneath_5 hH hW h3 h4 N 8 0 x (by omega) (by omega) h1 h2
end QS
theorem anyF_iff {p : Nat → Bool} : ∀ {n i : Nat}, anyF p i n = true ↔ ∃ j, i ≤ j ∧ j < i + n ∧ p j = true
  | 0, i => by
    constructor
    · intro h; exact Bool.noConfusion (show false = true from h)
    · rintro ⟨j, h1, h2, -⟩; omega
  | n + 1, i => by
    rw [anyF_s, Bool.or_eq_true, anyF_iff]
    constructor
    · rintro (h | ⟨j, h1, h2, h3⟩)
      · exact ⟨i, by omega, by omega, h⟩
      · exact ⟨j, by omega, by omega, h3⟩
    · rintro ⟨j, h1, h2, h3⟩
      by_cases q : j = i
      · exact Or.inl (q ▸ h3)
      · exact Or.inr ⟨j, by omega, by omega, h3⟩
theorem nCt_get {l : List Nat} (h : nSt l) {i : Nat} (hi : i < l.length) : nCt l (l[i] : Nat) = i := by
  have h1 := nCt_at (z := ((l[i] : Nat) : Int)) h hi
  have h2 := nCt_le l ((l[i] : Nat) : Int)
  rcases Nat.lt_trichotomy (nCt l ((l[i] : Nat) : Int)) i with g | g | g
  · have h3 := nCt_at (z := ((l[i] : Nat) : Int)) h (i := nCt l ((l[i] : Nat) : Int)) (by omega)
    have h4 := List.pairwise_iff_getElem.mp h _ _ (by omega) hi g
    have := h3.mp (by omega)
    omega
  · exact g
  · have := h1.mpr g
    omega
/-- what the attribute's value with an index is -/
def tVal (T : sT) (e a idx : Nat) (r : Int) : Prop := (tCnt T e a ≤ idx ∧ r = -1) ∨ ∃ v : Nat, r = v ∧ (e, a, v) ∈ tVs T ∧ (tVs T).countP (fun x => decide (x.1 = e) && (decide (x.2.1 = a) && decide (x.2.2 < v))) = idx
section QB
variable {N : Nat} {S : kS} {t : Nat} {T : sT} {H : sH}
theorem q_isIncomplete_16 (R : tOk S t T) (hN : 11 ≤ N) {e : Nat} (he : e < 48) {w : Int32} : ∀ (n k i : Nat), i + k = 10 → k < n → pX8_isIncomplete_16 N t n (zI (e : Nat)) w (zI (i : Nat)) S = some (zB (anyF (fun a => ib w a && decide (tCnt T e a = 0)) i k), S)
  | 0, k, i, hk, hn => by omega
  | n + 1, k, i, hk, hn => by
    simp only [pX8_isIncomplete_16, pX8_isIncomplete_42, nm_i]
    rw [zL_10, il_le (by omega) (by omega) (by omega) (by omega)]
    cases k with
    | zero => rw [if_pos (by omega)]; rfl
    | succ k =>
      have ih := q_isIncomplete_16 R hN he (w := w) n k (i + 1) (by omega) (by omega)
      have hlen : tCnt T e i ≤ 1000 ∨ True := Or.inr trivial
      rw [show ((i + 1 : Nat) : Int) = (i : Int) + 1 by omega] at ih
      rw [if_neg (by omega), il_ibit (by omega), anyF_s, zL_1]
      simp only [zI_add]
      by_cases hb : ib w i = true
      · rw [if_pos hb, q_valuesOf R hN he (by omega), bk_i, hb, Bool.true_and]
        have hc : tCnt T e i < 2147483648 := by
          obtain ⟨⟨-, -, -, -, -, -, -, -, -, l1, l2, n1, n2, p1, p2⟩, hW⟩ := R
          have h5 := n1.2.2.2.2
          have h6 := p1.length_eq
          rw [List.length_map] at h6
          have h7 : tCnt T e i ≤ (tVs T).length := List.countP_le_length
          have h8 := kNl_le 0
          omega
        rw [zL_0, il_eq (by omega) (by omega) (by omega) (by omega)]
        by_cases h0 : tCnt T e i = 0
        · rw [if_pos (by omega)]; simp [h0]; rfl
        · rw [if_neg (by omega)]; simp [h0]; exact ih
      · rw [if_neg hb, Bool.eq_false_iff.mpr hb, Bool.false_and, Bool.false_or]
        exact ih
def tInc (H : sH) (T : sT) (e : Nat) : Bool := anyF (fun a => ib (hReq H (tKl T e)) a && decide (tCnt T e a = 0)) 0 10
theorem q_isIncomplete (R : tOk S t T) (hH : hR S H) (hW : hW H) (hN : 11 ≤ N) {e : Nat} (he : e < 48) : pX8_isIncomplete N t (zI (e : Nat)) S = some (zB (tInc H T e), S) := by
  have hk := R.2.2.2.2.1 e he
  simp only [pX8_isIncomplete]
  rw [gd_n he (by omega), zI_cn (by omega), R.1.2.1 e he, q_requiredBy hH hW (by omega) (by omega), bk_i]
  exact q_isIncomplete_16 R hN he N 10 0 (by omega) (by omega)
theorem q_valueNumbered (R : tOk S t T) (hN : 11 ≤ N) {e a idx : Nat} (he : e < 48) (ha : a < 10) (hi : idx < 2147483648) : ∃ r : Int, pX8_valueNumbered N t (zI (e : Nat)) (zI (a : Nat)) (zI (idx : Nat)) S = some (zI r, S) ∧ tVal T e a idx r := by
  simp only [pX8_valueNumbered]
  have q := q_valuesOf R hN he ha
  obtain ⟨⟨-, -, -, -, -, -, -, -, -, l1, l2, n1, n2, p1, p2⟩, hW⟩ := R
  have h5 := n1.2.2.2.2
  have h6 := p1.length_eq
  rw [List.length_map] at h6
  have h7 : tCnt T e a ≤ (tVs T).length := List.countP_le_length
  have h8 := kNl_le 0
  rw [q, bk_i, il_lt (by omega) (by omega) (by omega) (by omega)]
  by_cases hlt : idx < tCnt T e a
  · have hs := nCt_sub (l := l1) (lo := ((e * 10000 + a * 1000 : Nat) : Int)) (hi := ((e * 10000 + a * 1000 + 1000 : Nat) : Int)) (by omega)
    have h2 : l1.countP (fun x : Nat => decide (((e * 10000 + a * 1000 : Nat) : Int) ≤ (x : Int)) && decide ((x : Int) < ((e * 10000 + a * 1000 + 1000 : Nat) : Int))) = tCnt T e a := by
      rw [p1.countP_eq, List.countP_map]
      unfold tCnt
      apply List.countP_congr
      intro x hx
      obtain ⟨h1, h2, h3⟩ := tW_v hW x hx
      simp only [Function.comp, Bool.and_eq_true, decide_eq_true_eq]
      unfold vC1
      omega
    rw [h2] at hs
    have hle := nCt_le l1 ((e * 10000 + a * 1000 + 1000 : Nat) : Int)
    have hix : nCt l1 ((e * 10000 + a * 1000 : Nat) : Int) + idx < l1.length := by omega
    have c1 := nCt_at (z := ((e * 10000 + a * 1000 : Nat) : Int)) n1.2.2.1 hix
    have c2 := nCt_at (z := ((e * 10000 + a * 1000 + 1000 : Nat) : Int)) n1.2.2.1 hix
    have c3 := c2.mpr (by omega)
    have c4 : ¬ ((l1[nCt l1 ((e * 10000 + a * 1000 : Nat) : Int) + idx] : Int) < ((e * 10000 + a * 1000 : Nat) : Int)) := fun h => by have := c1.mp h; omega
    have hg := nCt_get n1.2.2.1 hix
    have hm := List.getElem_mem hix
    obtain ⟨x, hx, hxe⟩ := List.mem_map.mp (p1.mem_iff.mp hm)
    have hv := tW_v hW x hx
    obtain ⟨v1, v2, v3⟩ := id hv
    have hx1 : x.1 = e ∧ x.2.1 = a := by unfold vC1 at hxe; omega
    rw [if_pos (by omega), zL_10000, zL_1000]
    simp only [zI_mul, zI_add]
    rw [show (e : Int) * 10000 + (a : Int) * 1000 = ((e * 10000 + a * 1000 : Nat) : Int) by omega, q_indexOf n1 (by omega) (by omega) hN, bk_i]
    simp only [zI_add]
    rw [show (nCt l1 ((e * 10000 + a * 1000 : Nat) : Int) : Int) + (idx : Int) = ((nCt l1 ((e * 10000 + a * 1000 : Nat) : Int) + idx : Nat) : Int) by omega, q_at n1 hix, bk_i, ← hxe, zI_div (by omega) (by have := vC1_lt hv; omega) (by omega) (by omega), zI_mul, zI_sub]
    refine ⟨_, rfl, Or.inr ⟨x.2.2, ?_, ?_, ?_⟩⟩
    · unfold vC1; omega
    · rw [← hx1.1, ← hx1.2]; exact hx
    · have hs2 := nCt_sub (l := l1) (lo := ((e * 10000 + a * 1000 : Nat) : Int)) (hi := ((vC1 x : Nat) : Int)) (by rw [hxe]; omega)
      rw [← hxe] at hg
      rw [hg] at hs2
      have h3 : l1.countP (fun y : Nat => decide (((e * 10000 + a * 1000 : Nat) : Int) ≤ (y : Int)) && decide ((y : Int) < ((vC1 x : Nat) : Int))) = (tVs T).countP (fun y => decide (y.1 = e) && (decide (y.2.1 = a) && decide (y.2.2 < x.2.2))) := by
        rw [p1.countP_eq, List.countP_map]
        apply List.countP_congr
        intro y hy
        obtain ⟨h1, h2, h3⟩ := tW_v hW y hy
        simp only [Function.comp, Bool.and_eq_true, decide_eq_true_eq]
        unfold vC1
        omega
      rw [h3] at hs2
      omega
  · rw [if_neg (by omega)]
    exact ⟨-1, rfl, Or.inl ⟨by omega, rfl⟩⟩
end QB
