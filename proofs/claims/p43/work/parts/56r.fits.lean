-- LEVEL 2, THE CALL ADD: DRAFTED VALUES FIT
def dA (D : List (Nat × Nat)) (i : Nat) : Nat := (D.getD i (0, 0)).1
def dV (D : List (Nat × Nat)) (i : Nat) : Nat := (D.getD i (0, 0)).2
def dSt (D : List (Nat × Nat)) : Nat → Int32
  | 0 => 0
  | i + 1 => dSt D i ||| ((1 : Int32) <<< (zI (dA D i : Nat) &&& 31))
/-- a drafted value goes with those before it -/
def dOkI (H : sH) (D : List (Nat × Nat)) (k : Int) (j : Nat) : Prop := ib (hAll H k) (dA D j) = true ∧ ∀ o, o < j → dA D o = dA D j → hSg H (dA D j) = false ∧ hKey H (dA D j) (dV D o) ≠ hKey H (dA D j) (dV D j)
theorem d_at {D : List (Nat × Nat)} {i : Nat} (h : i < D.length) : dA D i = D[i].1 ∧ dV D i = D[i].2 := by
  unfold dA dV
  rw [List.getD_eq_getElem?_getD, List.getElem?_eq_getElem h]
  exact ⟨rfl, rfl⟩
theorem dSt_bit {D : List (Nat × Nat)} : ∀ {i a : Nat}, a < 32 → (∀ o, o < i → dA D o < 32) → (ib (dSt D i) a = true ↔ ∃ o, o < i ∧ dA D o = a)
  | 0, a, _, _ => by
    show ib 0 a = true ↔ _
    rw [ib_0]
    exact ⟨fun h => Bool.noConfusion h, fun ⟨o, h, _⟩ => by omega⟩
  | i + 1, a, ha, h => by
    show ib (dSt D i ||| ((1 : Int32) <<< (zI (dA D i : Nat) &&& 31))) a = true ↔ _
    rw [ib_or, ib_shl1 (h i (by omega)) ha, Bool.or_eq_true, dSt_bit ha (fun o ho => h o (by omega)), decide_eq_true_eq]
    constructor
    · rintro (⟨o, h1, h2⟩ | h1)
      · exact ⟨o, by omega, h2⟩
      · exact ⟨i, by omega, h1.symm⟩
    · rintro ⟨o, h1, h2⟩
      by_cases q : o = i
      · exact Or.inr (by rw [← h2, q])
      · exact Or.inl ⟨o, by omega, h2⟩
section FT
variable {N : Nat} {S : kS} {H : sH} {D : List (Nat × Nat)} {kl : Int}
/-- the class's row of drafted values -/
def dK (S : kS) (D : List (Nat × Nat)) : Prop := kI S 5 = zI (D.length : Nat) ∧ ∀ i, i < D.length → kA S 6 i = zI ((dA D i * 1000 + dV D i : Nat) : Int)
def dIn (H : sH) (D : List (Nat × Nat)) : Prop := D.length ≤ 12 ∧ ∀ i, i < D.length → dA D i < hA H ∧ dV D i < 1000
theorem q_isMatched_65 (K : dK S D) (I : dIn H D) (h10 : hA H ≤ 10) {i lo hi : Nat} (hi12 : i ≤ D.length) (hl : lo < 20000) (hh : hi < 20000) : ∀ (n k o : Nat), o + k = i → k < n → ∃ b, pX1_isMatchedBefore_65 N n (zI (i : Nat)) (zI (lo : Nat)) (zI (hi : Nat)) (zI (o : Nat)) S = some (zB b, S) ∧ (b = true ↔ ∃ p, o ≤ p ∧ p < i ∧ lo ≤ dA D p * 1000 + dV D p ∧ dA D p * 1000 + dV D p ≤ hi)
  | 0, k, o, hk, hn => by omega
  | n + 1, k, o, hk, hn => by
    have hlen := I.1
    simp only [pX1_isMatchedBefore_65, pX1_isMatchedBefore_96, nm_i]
    rw [il_le (by omega) (by omega) (by omega) (by omega)]
    cases k with
    | zero =>
      rw [if_pos (by omega)]
      exact ⟨false, rfl, fun h => Bool.noConfusion h, fun ⟨p, a, b, _⟩ => by omega⟩
    | succ k =>
      have ho : o < D.length := by omega
      obtain ⟨i1, i2⟩ := I.2 o ho
      have ek : zI (o : Nat) + 1 = zI ((o + 1 : Nat) : Int) := by rw [zL_1, zI_add]; congr 1
      obtain ⟨b, e1, e2⟩ := q_isMatched_65 K I h10 hi12 hl hh n k (o + 1) (by omega) (by omega)
      have no : ¬ (lo ≤ dA D o * 1000 + dV D o ∧ dA D o * 1000 + dV D o ≤ hi) → (b = true ↔ ∃ p, o ≤ p ∧ p < i ∧ lo ≤ dA D p * 1000 + dV D p ∧ dA D p * 1000 + dV D p ≤ hi) := fun g => e2.trans ⟨fun ⟨p, a, c⟩ => ⟨p, by omega, c⟩, fun ⟨p, a, c, d⟩ => ⟨p, by
        by_cases q : p = o
        · subst q; exact absurd d g
        · omega, c, d⟩⟩
      rw [if_neg (by omega), gd_n (show o < 12 by omega) (by omega), gd_n (show o < 12 by omega) (by omega), zI_cn (by omega), K.2 o ho, il_lt (by omega) (by omega) (by omega) (by omega), il_lt (by omega) (by omega) (by omega) (by omega), ek]
      by_cases q1 : dA D o * 1000 + dV D o < lo
      · rw [if_pos (by omega)]
        exact ⟨b, e1, no (by omega)⟩
      · rw [if_neg (by omega)]
        by_cases q2 : hi < dA D o * 1000 + dV D o
        · rw [if_pos (by omega)]
          exact ⟨b, e1, no (by omega)⟩
        · rw [if_neg (by omega)]
          exact ⟨true, rfl, fun _ => ⟨o, Nat.le_refl _, by omega, by omega, by omega⟩, fun _ => rfl⟩
theorem q_isMatchedBefore (hN : 100 ≤ N) (hR0 : hR S H) (K : dK S D) (I : dIn H D) (h10 : hA H ≤ 10) {i : Nat} (hi : i < D.length) : ∃ b, pX1_isMatchedBefore N (zI (i : Nat)) S = some (zB b, S) ∧ (b = true ↔ ∃ p, p < i ∧ dA D p = dA D i ∧ hKey H (dA D i) (dV D p) = hKey H (dA D i) (dV D i)) := by
  have hlen := I.1
  obtain ⟨i1, i2⟩ := I.2 i hi
  have l1 := vLo_le H (dA D i) (dV D i)
  have l2 := vHi_lt H (dA D i) i2
  obtain ⟨b, e1, e2⟩ := q_isMatched_65 (N := N) (S := S) K I h10 (i := i) (lo := dA D i * 1000 + vLo H (dA D i) (dV D i)) (hi := dA D i * 1000 + vHi H (dA D i) (dV D i)) (by omega) (by omega) (by omega) N i 0 (by omega) (by omega)
  have e1 : pX1_isMatchedBefore_65 N N (zI (i : Nat)) (zI ((dA D i * 1000 + vLo H (dA D i) (dV D i) : Nat) : Int)) (zI ((dA D i * 1000 + vHi H (dA D i) (dV D i) : Nat) : Int)) 0 S = _ := e1
  have c1 : zI ((dA D i * 1000 + dV D i : Nat) : Int) / zI 1000 = zI (dA D i : Nat) := by
    rw [zI_div (by omega) (by omega) (by omega) (by omega)]
    congr 1
    omega
  have c2 : zI ((dA D i * 1000 + dV D i : Nat) : Int) - zI (dA D i : Nat) * zI 1000 = zI (dV D i : Nat) := by
    rw [zI_mul, zI_sub]
    congr 1
    omega
  simp only [pX1_isMatchedBefore, nm_i]
  rw [gd_n (show i < 12 by omega) (by omega), gd_n (show i < 12 by omega) (by omega), zI_cn (by omega), K.2 i hi, zL_1000, c1, c2, q_lowest hR0 (by omega) i2, bk_i, gd_n (show i < 12 by omega) (by omega), K.2 i hi, c1, c2, q_highest hR0 (by omega) i2, bk_i, zI_mul, zI_add, zI_add, show (dA D i : Int) * 1000 + (vLo H (dA D i) (dV D i) : Nat) = ((dA D i * 1000 + vLo H (dA D i) (dV D i) : Nat) : Int) by omega, show (dA D i : Int) * 1000 + (vHi H (dA D i) (dV D i) : Nat) = ((dA D i * 1000 + vHi H (dA D i) (dV D i) : Nat) : Int) by omega, e1]
  refine ⟨b, rfl, e2.trans ⟨fun ⟨p, _, a, c⟩ => ?_, fun ⟨p, a, c, d⟩ => ⟨p, Nat.zero_le _, a, ?_⟩⟩⟩
  · obtain ⟨p1, p2⟩ := I.2 p (by omega)
    have : dA D p = dA D i := by omega
    refine ⟨p, a, this, vKey_iff.mpr ?_⟩
    rw [this] at c
    omega
  · have := vKey_iff.mp d
    rw [c]
    omega
theorem q_fits_4 (hN : 100 ≤ N) (hR0 : hR S H) (hw : hW H) (K : dK S D) (I : dIn H D) (h1 : -2147483648 ≤ kl) (h2 : kl < 2147483648) : ∀ (n k i : Nat), i + k = D.length → k < n → (∀ j, j < i → dOkI H D kl j) → ∃ b, pX1_fits_4 N (pX1_fits_96 N) n (zI kl) (dSt D i) (zI (i : Nat)) S = some (zB b, S) ∧ (b = true ↔ (∀ j, j < D.length → dOkI H D kl j) ∧ hReq H kl &&& (dSt D D.length ^^^ (-1)) = 0)
  | 0, k, i, hk, hn, hp => by omega
  | n + 1, k, i, hk, hn, hp => by
    have hlen := I.1
    have h10 := hw.1
    simp only [pX1_fits_4, pX1_fits_39, pX1_fits_73, nm_i]
    rw [K.1, il_le (by omega) (by omega) (by omega) (by omega)]
    cases k with
    | zero =>
      have : i = D.length := by omega
      subst this
      rw [if_pos (by omega)]
      simp only [pX1_fits_96]
      rw [q_requiredBy hR0 hw h1 h2, bk_i]
      by_cases g : hReq H kl &&& (dSt D D.length ^^^ (-1)) = 0
      · rw [if_pos g]
        exact ⟨true, rfl, fun _ => ⟨hp, g⟩, fun _ => rfl⟩
      · rw [if_neg g]
        exact ⟨false, rfl, fun h => Bool.noConfusion h, fun h => absurd h.2 g⟩
    | succ k =>
      have hi : i < D.length := by omega
      obtain ⟨i1, i2⟩ := I.2 i hi
      have ek : zI (i : Nat) + 1 = zI ((i + 1 : Nat) : Int) := by rw [zL_1, zI_add]; congr 1
      have c1 : zI ((dA D i * 1000 + dV D i : Nat) : Int) / zI 1000 = zI (dA D i : Nat) := by
        rw [zI_div (by omega) (by omega) (by omega) (by omega)]
        congr 1
        omega
      have seen := dSt_bit (D := D) (i := i) (a := dA D i) (by omega) (fun o ho => by have := (I.2 o (by omega)).1; omega)
      obtain ⟨bm, m1, m2⟩ := q_isMatchedBefore hN hR0 K I h10 hi
      -- no
      have no : ¬ dOkI H D kl i → ∃ b, some ((0 : Int32), S) = some (zB b, S) ∧ (b = true ↔ (∀ j, j < D.length → dOkI H D kl j) ∧ hReq H kl &&& (dSt D D.length ^^^ (-1)) = 0) := fun g => ⟨false, rfl, fun h => Bool.noConfusion h, fun h => absurd (h.1 i hi) g⟩
      rw [if_neg (by omega), gd_n (show i < 12 by omega) (by omega), zI_cn (by omega), K.2 i hi, zL_1000, c1, ek, il_ibit (by omega)]
      have next : ib (hAll H kl) (dA D i) = true → ((∃ o, o < i ∧ dA D o = dA D i) → hSg H (dA D i) = false) → ∃ b, (if zB bm = 0 then pX1_fits_4 N (pX1_fits_96 N) n (zI kl) (dSt D i ||| ((1 : Int32) <<< (zI (dA D i : Nat) &&& 31))) (zI ((i + 1 : Nat) : Int)) S else some ((0 : Int32), S)) = some (zB b, S) ∧ (b = true ↔ (∀ j, j < D.length → dOkI H D kl j) ∧ hReq H kl &&& (dSt D D.length ^^^ (-1)) = 0) := fun qa hs => by
        rw [il_B]
        cases bm with
        | true =>
          rw [if_pos rfl]
          obtain ⟨p, p1, p2, p3⟩ := m2.mp rfl
          exact no (fun g => (g.2 p p1 p2).2 p3)
        | false =>
          rw [if_neg (by decide)]
          refine q_fits_4 hN hR0 hw K I h1 h2 n k (i + 1) (by omega) (by omega) (fun j hj => ?_)
          by_cases e : j = i
          · subst e
            exact ⟨qa, fun o ho hd => ⟨hs ⟨o, ho, hd⟩, fun hk => Bool.noConfusion (m2.mpr ⟨o, ho, hd, hk⟩)⟩⟩
          · exact hp j (by omega)
      by_cases qs : ib (dSt D i) (dA D i) = true
      · rw [if_pos qs, q_isAllowed hR0 hw h1 h2 (by omega), bk_i, il_B]
        by_cases qa : ib (hAll H kl) (dA D i) = true
        · rw [if_pos qa, if_neg (by decide), q_isSingle hR0 (by omega), bk_i, il_B]
          by_cases hs : hSg H (dA D i) = true
          · rw [if_pos hs]
            obtain ⟨o, o1, o2⟩ := seen.mp qs
            exact no (fun g => by
              have := (g.2 o o1 o2).1
              rw [hs] at this
              exact Bool.noConfusion this)
          · rw [if_neg hs, m1, bk_i]
            exact next qa (fun _ => Bool.eq_false_iff.mpr hs)
        · rw [if_neg qa]
          exact no (fun g => qa g.1)
      · rw [if_neg qs, q_isAllowed hR0 hw h1 h2 (by omega), bk_i, il_B]
        by_cases qa : ib (hAll H kl) (dA D i) = true
        · rw [if_pos qa, if_pos trivial, m1, bk_i]
          exact next qa (fun g => absurd (seen.mpr g) qs)
        · rw [if_neg qa]
          exact no (fun g => qa g.1)
theorem q_fits (hN : 100 ≤ N) (hR0 : hR S H) (hw : hW H) (K : dK S D) (I : dIn H D) (h1 : -2147483648 ≤ kl) (h2 : kl < 2147483648) : ∃ b, pX1_fits N (zI kl) S = some (zB b, S) ∧ (b = true ↔ (∀ j, j < D.length → dOkI H D kl j) ∧ hReq H kl &&& (dSt D D.length ^^^ (-1)) = 0) := by
  have hlen := I.1
  exact q_fits_4 (N := N) hN hR0 hw K I h1 h2 N D.length 0 (by omega) (by omega) (fun j hj => by omega)
end FT
