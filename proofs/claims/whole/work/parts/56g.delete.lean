-- LEVEL 2, THE CALL DELETE
section OM
variable {N : Nat} {S : kS} {M : mS} {W : sW} {T : sT}
theorem r_isEmpty_4 (L : rLd M T) {e : Nat} (he : e < 48) : ∀ (n k i : Nat) (b : Bool), 1 ≤ i → i + k = 48 → k < n → pf_isEmpty_4 N n (zI (e : Nat)) (zB b) (zI (i : Nat)) M = some (zB (b && !anyF (tCh T (e : Nat)) i k), M)
  | 0, k, i, b, hi, hk, hn => by omega
  | n + 1, k, i, b, hi, hk, hn => by
    simp only [pf_isEmpty_4, pf_isEmpty_37, nm_i]
    rw [zL_48, il_le (by omega) (by omega) (by omega) (by omega)]
    cases k with
    | zero =>
      rw [if_pos (by omega), zr_B]
      show _ = some (zB (b && true), M)
      rw [Bool.and_true]
    | succ k =>
      have ih := fun b => r_isEmpty_4 L he n k (i + 1) b (by omega) (by omega) (by omega)
      have ek : zI (i : Nat) + 1 = zI ((i + 1 : Nat) : Int) := by rw [zL_1, zI_add]; congr 1
      have ih0 : pf_isEmpty_4 N n (zI (e : Nat)) 0 (zI ((i + 1 : Nat) : Int)) M = _ := ih false
      have ih1 : pf_isEmpty_4 N n (zI (e : Nat)) 1 (zI ((i + 1 : Nat) : Int)) M = _ := ih true
      have hpl := tPl_rg L.2.1 (show i < 48 by omega)
      rw [Bool.false_and] at ih0
      rw [Bool.true_and] at ih1
      rw [if_neg (by omega), il_B, anyF_s, ek, ih0]
      cases b with
      | false => rw [if_neg (by decide)]; rfl
      | true =>
        rw [if_pos rfl, Bool.true_and, r_isLive L.1 (by omega) (by omega), bd_i, il_B]
        unfold tCh
        by_cases q : tLv T (i : Nat) = true
        · rw [if_pos q, gd_n (show i < 48 by omega) (by omega), zI_cn (by omega), L.2.2.1 i (by omega), il_eq (by omega) (by omega) (by omega) (by omega), q, Bool.true_and]
          by_cases q2 : tPl T (i : Nat) = (e : Int)
          · rw [if_pos q2, decide_eq_true q2]; exact ih0
          · rw [if_neg q2, decide_eq_false q2, Bool.false_or]
            exact ih1
        · rw [if_neg q, Bool.eq_false_iff.mpr q, Bool.false_and, Bool.false_or]
          exact ih1
theorem r_isEmpty (hN : 48 ≤ N) (L : rLd M T) {e : Nat} (he : e < 48) : pf_isEmpty N (zI (e : Nat)) M = some (zB (!anyF (tCh T (e : Nat)) 1 47), M) := by
  have := r_isEmpty_4 (N := N) L he N 47 1 true (by omega) (by omega) (by omega)
  rw [Bool.true_and] at this
  exact this
theorem op_delete (hN : 20000 ≤ N) (h : wOk W) (K : kRel S W) (R : mRel M W) (x y : Int32) : opOk 1 3 0 (pX9_delete N x y S) (pf_delete N x y M) := by
  obtain ⟨x, h1, h2, rfl⟩ := zI_of x
  obtain ⟨y, h3, h4, rfl⟩ := zI_of y
  have hlen := h.2.2.2.1.2.1
  have hn250 := h.2.2.2.1.1
  have n1 : ∀ S : kS, pX9_need N 1 S = some (.inl (), S) := fun S => by
    have := g_need (N := N) (S := S) (b := true)
    rw [if_pos rfl] at this
    exact this
  have n0 : ∀ S : kS, pX9_need N 0 S = some (.inr 3, S) := fun S => by
    have := g_need (N := N) (S := S) (b := false)
    rw [if_neg (by decide)] at this
    exact this
  simp only [pX9_delete, pX9_delete_38, pf_delete, pf_delete_18, pf_delete_48, sv_i, svk_i, n1, n0, bx_l, bx_r]
  obtain ⟨M', R', f, ⟨q, e⟩ | ⟨m, hm, rfl, e, L, -⟩⟩ := w_isAt (N := N) hN h (mRel_0 (v := (0 : Int32)) R) h1 h2 h3 h4
  · rw [e, bd_i, il_B, if_neg (by decide), fails_i, bd_i, g_masterNo h1 h2 q, bx_r]
    exact opOk_x rfl rfl (Or.inl ⟨rfl, thr_k⟩) h K (mRel_0 R')
  · have Q := kRel_t h K hm
    have no1 : ∀ {A : Option ((Int32 ⊕ Nat) × kS)}, A = some (.inr 1, S) → opOk 1 3 0 A (bd (pf_fails N 1 M') fun v1 S2 => some (v1, S2)) := fun hA => by
      rw [fails_i, bd_i]
      exact opOk_x hA rfl (Or.inl ⟨rfl, thr_k⟩) h K (mRel_0 R')
    have no : ∀ {A : Option ((Int32 ⊕ Nat) × kS)}, A = some (.inr 3, S) → opOk 1 3 0 A (bd (pf_fails N 2 M') fun v1 S2 => some (v1, S2)) := fun hA => by
      rw [fails_i, bd_i]
      exact opOk_x hA rfl (Or.inr (Or.inl ⟨rfl, thr_k⟩)) h K (mRel_0 R')
    rw [e, bd_i, il_B, g_master hm, bx_l, gn_l hm, g_changeable Q h3 h4]
    by_cases hl : tLv (wTr W m) y = true
    · have hy := tLv_lt hl
      have e0 : (zI y = (0 : Int32)) ↔ y = 0 := by rw [zL_0, zI_eq h3 h4 (by omega) (by omega)]
      rw [if_pos hl]
      by_cases hy0 : y = 0
      · rw [if_neg (fun g => g.1 hy0), bx_r, if_pos (e0.mpr hy0)]
        exact no1 rfl
      · obtain ⟨e1, rfl⟩ : ∃ e1 : Nat, y = e1 := ⟨y.toNat, by omega⟩
        have he : e1 < 48 := by omega
        have ht := tLv_th he hl
        rw [if_pos ⟨hy0, hl⟩, bx_l, if_neg (show ¬ zI (e1 : Nat) = 0 from fun g => hy0 (e0.mp g)), g_room K.2.2.2.2.1.1 (by omega), r_isFull R' h, bd_i, il_B, hlen]
        by_cases q2 : wN W < 250
        · rw [if_pos q2, bx_l, decide_eq_false (show ¬ wN W = 250 by omega), if_neg (by decide), g_write (by omega) h K hm (by omega) (by omega), r_mayWrite (by omega) h R' hm L (by omega) (by omega), bd_i, il_B]
          by_cases q3 : tMay (wH W) (wTr W m) (wU W m) (e1 : Int) 1 = true
          · obtain ⟨w, c1, c2⟩ := q_childrenAt (N := N) Q (by omega) (place := (e1 : Int)) (by omega) (by omega)
            have cz : (lg_cmp w (0 : Int64) = 0) ↔ anyF (tCh (wTr W m) (e1 : Nat)) 1 47 = false := by
              rw [lb_zero, Bool.eq_false_iff]
              constructor
              · intro g g2
                obtain ⟨j, j1, j2, j3⟩ := anyF_iff.mp g2
                have := g j (by omega)
                rw [c2 j (by omega), decide_eq_true j1, decide_eq_true (show j < 48 by omega), j3] at this
                exact Bool.noConfusion this
              · intro g j hj
                rw [c2 j hj]
                by_cases a1 : 1 ≤ j
                · by_cases a2 : j < 48
                  · cases a3 : tCh (wTr W m) (e1 : Nat) j with
                    | false => rw [Bool.and_false, Bool.and_false]
                    | true => exact absurd (anyF_iff.mpr ⟨j, a1, by omega, a3⟩) g
                  · rw [decide_eq_false a2, Bool.false_and, Bool.and_false]
                · rw [decide_eq_false a1, Bool.false_and]
            rw [if_pos q3, bx_l, if_pos q3, c1, bk_i, r_isEmpty (by omega) L he, bd_i, il_B]
            by_cases q4 : anyF (tCh (wTr W m) (e1 : Nat)) 1 47 = false
            · have c0 := mk_of (X := 0) (Y := 0) h hm q2 (K := 8) (E := e1) (by omega) (by omega) ht he (fun a b => by omega) (fun e => by omega) (fun e => by omega) (fun e => by omega) (fun e => by omega) (fun e => by omega)
              obtain ⟨w1, S1, w2, U1⟩ := k_new (N := N) (c := wCh W m 8 e1 0 0) (x := -1) (y := -1) (z := -1) K (by show ¬ 8 = 0; omega) (fun a b => absurd b (by show ¬ 8 ≤ 3; omega)) (fun e => absurd e (by show ¬ (8 = 4 ∨ 8 = 5 ∨ 8 = 7); omega)) (fun e => absurd e (by show ¬ 8 = 6; omega))
              obtain ⟨S2, w3, K2⟩ := k_made (N := N) (by omega) h U1 hm q2 c0
              obtain ⟨M2, w4, R2, w5⟩ := m_made (N := N) (c := wCh W m 8 e1 0 0) (x := 0) (y := 0) (z := 0) (by omega) h R' hm q2 (by show ¬ 8 = 0; omega) c0 (Or.inl rfl) (fun e => absurd e (by show ¬ (8 ≤ 3 ∨ 8 = 6); omega))
              have W2 := w_made h hm q2 (by show ¬ 8 = 0; omega) c0
              have w2 : pX0_init N (kn S) (8 : Int32) (zI (e1 : Nat)) (-1) (-1) (-1) (nU S) = some ((), S1) := by rw [K.2.2.2.1.1]; exact w2
              have w3 : pX9_record N m (kn S) S1 = some (.inl (), S2) := by rw [K.2.2.2.1.1]; exact w3
              have w4 : pf_makes N (zI (m : Nat)) (8 : Int32) (zI (e1 : Nat)) 0 0 0 M' = some (zI (wN W : Nat), M2) := w4
              have gn : ∀ {γ : Type} (A : Option γ), gNew S A = A := fun A => if_pos w1
              obtain ⟨w6, w7, w8⟩ := q_marks (N := N) W2 K2 hm
              rw [if_pos (cz.mpr q4), q4, if_pos (show (!false) = true from rfl), gn, w2, bk_i, w3, bx_l, w7, bk_i, q_bitCount, bk_i, ct_marks W2 w8, w4, bd_i, r_marksOf (by omega) W2 R2 hm, bd_i]
              exact opOk_v rfl rfl (by rw [w5]; exact thr_0 f) W2 K2 R2
            · rw [if_neg (fun g => q4 (cz.mp g)), if_neg (by
                rw [Bool.not_eq_true', ]; exact q4)]
              exact no rfl
          · rw [if_neg q3, bx_r, if_neg q3]
            exact no rfl
        · rw [if_neg q2, bx_r, decide_eq_true (show wN W = 250 by omega), if_pos rfl]
          exact no rfl
    · rw [if_neg hl, if_neg (fun g => hl g.2), bx_r]
      exact no1 rfl
end OM
