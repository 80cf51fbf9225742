-- LEVEL 2, CALLS THAT CHANGE VALUES: WHAT THEY NEED; REPLACE
section OB
variable {N : Nat} {S : kS} {M : mS} {W : sW}
def pre3 (N : Nat) (x y z w : Int32) (S : kS) (k : Nat → kS → Option ((Int32 ⊕ Nat) × kS)) : Option ((Int32 ⊕ Nat) × kS) :=
  bx (pX9_masterAt N x S) fun v101 S102 => gn v101 4 <| bx (pX9_needChangeable N v101 y S102) fun _ S105 => bx (pX9_needAttribute N z S105) fun _ S108 => bx (pX9_needValue N w S108) fun _ S111 => bx (pX9_needRoom N S111) fun _ S114 => bx (pX9_needWrite N v101 y S114) fun _ S117 => k v101 S117
theorem pre3_ok (hN : 20000 ≤ N) (h : wOk W) (K : kRel S W) (R : mRel M W) {x y z w : Int} (h1 : -2147483648 ≤ x) (h2 : x < 2147483648) (h3 : -2147483648 ≤ y) (h4 : y < 2147483648) (h5 : -2147483648 ≤ z) (h6 : z < 2147483648) (h7 : -2147483648 ≤ w) (h8 : w < 2147483648) : ∃ M' code, pf_refuses N (zI x) (zI y) (zI z) (zI w) M = some (code, M') ∧ mRel M' W ∧ ((code = 0 ∧ ∃ m e a v : Nat, x = m ∧ y = e ∧ z = a ∧ w = v ∧ m < 4 ∧ 1 ≤ e ∧ e < 48 ∧ a < hA (wH W) ∧ v < 1000 ∧ wN W < 250 ∧ tLv (wTr W m) e = true ∧ rLd M' (wTr W m) ∧ ∀ k, pre3 N (zI x) (zI y) (zI z) (zI w) S k = k m S) ∨ ∃ kk, (∀ k, pre3 N (zI x) (zI y) (zI z) (zI w) S k = some (.inr kk, S)) ∧ ((kk = 1 ∧ code = 1) ∨ (kk = 2 ∧ code = 2) ∨ (kk = 3 ∧ code = 3))) := by
  have hlen := h.2.2.2.1.2.1
  have hn250 := h.2.2.2.1.1
  have h10 := h.1.1
  simp only [pf_refuses, pre3]
  obtain ⟨M', R', f, ⟨q, e⟩ | ⟨m, hm, rfl, e, L, -⟩⟩ := w_isAt (N := N) hN h R h1 h2 h3 h4
  · rw [e, bd_i, il_B, if_neg (by decide)]
    exact ⟨M', 1, rfl, R', Or.inr ⟨1, fun k => by rw [g_masterNo h1 h2 q, bx_r], Or.inl ⟨rfl, rfl⟩⟩⟩
  · have Q := kRel_t h K hm
    rw [e, bd_i, il_B]
    simp only [g_master hm, bx_l, gn_l hm, g_changeable Q h3 h4]
    by_cases hl : tLv (wTr W m) y = true
    · have hy := tLv_lt hl
      have e0 : (zI y = (0 : Int32)) ↔ y = 0 := by rw [zL_0, zI_eq h3 h4 (by omega) (by omega)]
      rw [if_pos hl]
      by_cases hy0 : y = 0
      · rw [if_pos (e0.mpr hy0)]
        exact ⟨M', 1, rfl, R', Or.inr ⟨1, fun k => by rw [if_neg (fun g => g.1 hy0), bx_r], Or.inl ⟨rfl, rfl⟩⟩⟩
      · obtain ⟨e1, rfl⟩ : ∃ e1 : Nat, y = e1 := ⟨y.toNat, by omega⟩
        have he : e1 < 48 := by omega
        rw [if_neg (show ¬ zI (e1 : Nat) = 0 from fun g => hy0 (e0.mp g))]
        simp only [pf_isAttribute, pf_isValue]
        have ea : pf_in N (zI z) 0 (M'.1 1 - 1) = some (zB (decide (0 ≤ z) && decide (z ≤ (hA (wH W) : Nat) - 1))) := by
          rw [R'.1.1, zL_1, zI_sub]
          exact r_in (a := 0) h5 h6 (by omega) (by omega) (by omega) (by omega)
        have e9 : pf_in N (zI w) 0 999 = some (zB (decide (0 ≤ w) && decide (w ≤ 999))) := r_in (a := 0) (b := 999) h7 h8 (by omega) (by omega) (by omega) (by omega)
        have c1 : ((e1 : Int) ≠ 0 ∧ tLv (wTr W m) (e1 : Int) = true) := ⟨hy0, hl⟩
        simp only [if_pos c1, bx_l, g_attribute K.1 h.1 h5 h6]
        rw [ea, bs_i, zr_B, bd_i, il_B]
        by_cases q : 0 ≤ z ∧ z < (hA (wH W) : Int)
        · rw [if_pos (in_yes (by omega)), e9, bs_i, zs_B, bs_i, il_B]
          simp only [if_pos q, bx_l, g_value h7 h8]
          by_cases q1 : 0 ≤ w ∧ w < 1000
          · rw [if_pos (in_yes (by omega)), r_isFull R' h, bd_i, il_B]
            simp only [if_pos q1, bx_l, g_room K.2.2.2.2.1.1 (show (wO W).length ≤ 250 by omega), hlen]
            by_cases q2 : wN W < 250
            · rw [decide_eq_false (show ¬ wN W = 250 by omega), if_neg (by decide), r_mayWrite (by omega) h R' hm L (by omega) (by omega), bd_i, il_B]
              simp only [if_pos q2, bx_l, g_write (N := N) (x := (e1 : Int)) (by omega) h K hm (by omega) (by omega)]
              by_cases q3 : tMay (wH W) (wTr W m) (wU W m) (e1 : Int) 1 = true
              · rw [if_pos q3]
                obtain ⟨a, rfl⟩ : ∃ a : Nat, z = a := ⟨z.toNat, by omega⟩
                obtain ⟨v, rfl⟩ : ∃ v : Nat, w = v := ⟨w.toNat, by omega⟩
                exact ⟨M', 0, rfl, R', Or.inl ⟨rfl, m, e1, a, v, rfl, rfl, rfl, rfl, hm, by omega, he, by omega, by omega, q2, hl, L, fun k => by rw [if_pos q3, bx_l]⟩⟩
              · rw [if_neg q3]
                exact ⟨M', 3, rfl, R', Or.inr ⟨3, fun k => by rw [if_neg q3, bx_r], Or.inr (Or.inr ⟨rfl, rfl⟩)⟩⟩
            · rw [decide_eq_true (show wN W = 250 by omega), if_pos rfl]
              exact ⟨M', 3, rfl, R', Or.inr ⟨3, fun k => by rw [if_neg q2, bx_r], Or.inr (Or.inr ⟨rfl, rfl⟩)⟩⟩
          · rw [if_neg (in_no (by omega))]
            exact ⟨M', 2, rfl, R', Or.inr ⟨2, fun k => by rw [if_neg q1, bx_r], Or.inr (Or.inl ⟨rfl, rfl⟩)⟩⟩
        · rw [if_neg (in_no (by omega))]
          exact ⟨M', 1, rfl, R', Or.inr ⟨1, fun k => by rw [if_neg q, bx_r], Or.inl ⟨rfl, rfl⟩⟩⟩
    · rw [if_neg hl]
      exact ⟨M', 1, rfl, R', Or.inr ⟨1, fun k => by rw [if_neg (fun g => hl g.2), bx_r], Or.inl ⟨rfl, rfl⟩⟩⟩
end OB
