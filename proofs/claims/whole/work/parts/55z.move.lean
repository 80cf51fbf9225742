-- LEVEL 2, THE CALL MOVE
section OH
variable {N : Nat} {S : kS} {M : mS} {W : sW}
theorem op_move (hN : 20000 ≤ N) (h : wOk W) (K : kRel S W) (R : mRel M W) (x y z : Int32) : opOk 1 3 0 (pX9_move N x y z S) (pf_move N x y z M) := by
  obtain ⟨x, h1, h2, rfl⟩ := zI_of x
  obtain ⟨y, h3, h4, rfl⟩ := zI_of y
  obtain ⟨z, h5, h6, rfl⟩ := zI_of z
  have hlen := h.2.2.2.1.2.1
  have hn250 := h.2.2.2.1.1
  have n1 : ∀ S : kS, pX9_need N 1 S = some (.inl (), S) := fun S => by
    have := g_need (N := N) (S := S) (b := true)
    rw [if_pos rfl] at this
    exact this
  have n0 : ∀ S : kS, pX9_need N 0 S = some (.inr 3, S) := fun S => by
    have := g_need (N := N) (S := S) (b := false)
    rw [if_neg (by decide)] at this
    exact this
  simp only [pX9_move, pX9_move_53, pf_move, pf_move_26, pf_move_81, sv_i, svk_i, n1, n0, bx_l, bx_r]
  obtain ⟨M', R', f, ⟨q, e⟩ | ⟨m, hm, rfl, e, L, -⟩⟩ := w_isAt (N := N) hN h (mRel_0 (v := (0 : Int32)) R) h1 h2 h3 h4
  · rw [e, bd_i, il_B, if_neg (by decide), fails_i, bd_i, g_masterNo h1 h2 q, bx_r]
    exact opOk_x rfl rfl (Or.inl ⟨rfl, thr_k⟩) h K (mRel_0 R')
  · have Q := kRel_t h K hm
    have no1 : ∀ {A : Option ((Int32 ⊕ Nat) × kS)}, A = some (.inr 1, S) → opOk 1 3 0 A (bd (pf_fails N 1 M') fun v1 S2 => some (v1, S2)) := fun hA => by
      rw [fails_i, bd_i]
      exact opOk_x hA rfl (Or.inl ⟨rfl, thr_k⟩) h K (mRel_0 R')
    have no : ∀ {A : Option ((Int32 ⊕ Nat) × kS)}, A = some (.inr 3, S) → opOk 1 3 0 A (bd (pf_fails N 2 M') fun v1 S2 => some (v1, S2)) := fun hA => by
      rw [fails_i, bd_i]
      exact opOk_x hA rfl (Or.inr (Or.inl ⟨rfl, thr_k⟩)) h K (mRel_0 R')
    rw [e, bd_i, il_B, g_master hm, bx_l, gn_l hm, g_changeable Q h3 h4]
    by_cases hl : tLv (wTr W m) y = true
    · have hy := tLv_lt hl
      have e0 : (zI y = (0 : Int32)) ↔ y = 0 := by rw [zL_0, zI_eq h3 h4 (by omega) (by omega)]
      rw [if_pos hl]
      by_cases hy0 : y = 0
      · rw [if_neg (fun g => g.1 hy0), bx_r, if_pos (e0.mpr hy0)]
        exact no1 rfl
      · obtain ⟨e1, rfl⟩ : ∃ e1 : Nat, y = e1 := ⟨y.toNat, by omega⟩
        have he : e1 < 48 := by omega
        have ht := tLv_th he hl
        rw [if_pos ⟨hy0, hl⟩, bx_l, if_neg (show ¬ zI (e1 : Nat) = 0 from fun g => hy0 (e0.mp g)), g_entry Q h5 h6, r_isLive L.1 h5 h6, bd_i, il_B]
        by_cases hp : tLv (wTr W m) z = true
        · have hz := tLv_lt hp
          obtain ⟨p, rfl⟩ : ∃ p : Nat, z = p := ⟨z.toNat, by omega⟩
          have hp48 : p < 48 := by omega
          have htp := tLv_th hp48 hp
          rw [if_pos hp, if_pos hp, bx_l, g_room K.2.2.2.2.1.1 (by omega), r_isFull R' h, bd_i, il_B, hlen]
          by_cases q2 : wN W < 250
          · rw [if_pos q2, bx_l, decide_eq_false (show ¬ wN W = 250 by omega), if_neg (by decide), g_write (by omega) h K hm (by omega) (by omega), r_mayWrite (by omega) h R' hm L (by omega) (by omega), bd_i, il_B]
            by_cases q3 : tMay (wH W) (wTr W m) (wU W m) (e1 : Int) 1 = true
            · rw [if_pos q3, bx_l, if_pos q3, g_write (by omega) h K hm (by omega) (by omega), r_mayWrite (by omega) h R' hm L (by omega) (by omega), bd_i, il_B]
              by_cases q5 : tMay (wH W) (wTr W m) (wU W m) (p : Int) 1 = true
              · rw [if_pos q5, bx_l, if_pos q5, q_comesTo Q (by omega) he (by omega) (by omega), bk_i, il_B, r_isUp (by omega) L.1 L.2.1 he (by omega) (by omega), bd_i, il_B]
                by_cases q6 : pCome (tPa (wTr W m)) 48 (p : Int) e1 = true
                · rw [if_pos q6, if_pos q6]
                  exact no rfl
                · have pe := tPl_rg Q.2 he
                  have ne := Q.2.2.2.1 e1 he
                  rw [if_neg q6, if_neg q6, gd_n he (by omega), gd_n he (by omega), zI_cn (by omega), Q.1.1 e1 he, g_free (by omega) Q (by omega) (by omega) (by omega) (by omega) (by omega) (by omega), L.1.2.2.2.2.1 e1 he, r_isNamed (by omega) L (by omega) (by omega) (by omega) (by omega) (by omega) (by omega), bd_i, il_B]
                  by_cases q4 : tShd (wTr W m) p (tNm (wTr W m) e1) e1 = true
                  · rw [if_pos q4, bx_r, if_pos q4]
                    exact no rfl
                  · have c0 := mk_of (Y := 0) h hm q2 (K := 7) (E := e1) (X := (p : Int)) (by omega) (by omega) ht he (fun a b => by omega) (fun e => by omega) (fun e => by omega) (fun e => by omega) (fun _ => ⟨by omega, by omega, by rw [Int.toNat_natCast]; exact htp⟩) (fun e => by omega)
                    obtain ⟨w1, S1, w2, U1⟩ := k_new (N := N) (c := wCh W m 7 e1 (p : Int) 0) (x := (p : Int)) (y := -1) (z := -1) K (by show ¬ 7 = 0; omega) (fun a b => absurd b (by show ¬ 7 ≤ 3; omega)) (fun _ => rfl) (fun e => absurd e (by show ¬ 7 = 6; omega))
                    obtain ⟨S2, w3, K2⟩ := k_made (N := N) (by omega) h U1 hm q2 c0
                    obtain ⟨M2, w4, R2, w5⟩ := m_made (N := N) (c := wCh W m 7 e1 (p : Int) 0) (x := (p : Int)) (y := 0) (z := 0) (by omega) h R' hm q2 (by show ¬ 7 = 0; omega) c0 (Or.inl rfl) (fun e => absurd e (by show ¬ (7 ≤ 3 ∨ 7 = 6); omega))
                    have W2 := w_made h hm q2 (by show ¬ 7 = 0; omega) c0
                    have w2 : pX0_init N (kn S) (7 : Int32) (zI (e1 : Nat)) (zI (p : Nat)) (-1) (-1) (nU S) = some ((), S1) := by rw [K.2.2.2.1.1]; exact w2
                    have w3 : pX9_record N m (kn S) S1 = some (.inl (), S2) := by rw [K.2.2.2.1.1]; exact w3
                    have w4 : pf_makes N (zI (m : Nat)) (7 : Int32) (zI (e1 : Nat)) (zI (p : Nat)) 0 0 M' = some (zI (wN W : Nat), M2) := w4
                    have gn : ∀ {γ : Type} (A : Option γ), gNew S A = A := fun A => if_pos w1
                    rw [if_neg q4, bx_l, if_neg q4, q_placeOf Q he, bk_i, gn, w2, bk_i, w3, bx_l, gd_n he (by omega), L.2.2.1 e1 he]
                    simp only [nm_i]
                    rw [w4, bd_i]
                    exact opOk_v rfl rfl (by rw [w5]; exact thr_0 f) W2 K2 R2
              · rw [if_neg q5, bx_r, if_neg q5]
                exact no rfl
            · rw [if_neg q3, bx_r, if_neg q3]
              exact no rfl
          · rw [if_neg q2, bx_r, decide_eq_true (show wN W = 250 by omega), if_pos rfl]
            exact no rfl
        · rw [if_neg hp, bx_r, if_neg hp]
          exact no1 rfl
    · rw [if_neg hl, if_neg (fun g => hl g.2), bx_r]
      exact no1 rfl
end OH
