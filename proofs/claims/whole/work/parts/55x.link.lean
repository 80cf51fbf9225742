-- LEVEL 2, THE CALL LINK
section OF
variable {N : Nat} {S : kS} {M : mS} {W : sW}
theorem link_no (hN : 20000 ≤ N) (h : wOk W) (K : kRel S W) (R : mRel M W) {x y : Int} (h1 : -2147483648 ≤ x) (h2 : x < 2147483648) (h3 : -2147483648 ≤ y) (h4 : y < 2147483648) {t : Bool} {z : Int32} {A : Option ((Int32 ⊕ Nat) × kS)} (hA : A = some (.inr 1, S)) (hno : ∀ m : Nat, m < 4 → x = m → tLv (wTr W m) y = true → y ≠ 0 → t = false) : opOk 1 3 0 A (pf_link_35 N (zB t) (zI x) (zI y) z M) := by
  simp only [pf_link_35, pf_link_55]
  obtain ⟨M', R', f, ⟨q, e⟩ | ⟨m, hm, rfl, e, L, -⟩⟩ := w_isAt (N := N) hN h R h1 h2 h3 h4
  · rw [e, bd_i, il_B, if_neg (by decide), fails_i, bd_i]
    exact opOk_x hA rfl (Or.inl ⟨rfl, thr_k⟩) h K (mRel_0 R')
  · rw [e, bd_i, il_B]
    by_cases hl : tLv (wTr W m) y = true
    · have e0 : (zI y = (0 : Int32)) ↔ y = 0 := by rw [zL_0, zI_eq h3 h4 (by omega) (by omega)]
      rw [if_pos hl]
      by_cases hy0 : y = 0
      · rw [if_pos (e0.mpr hy0), fails_i, bd_i]
        exact opOk_x hA rfl (Or.inl ⟨rfl, thr_k⟩) h K (mRel_0 R')
      · rw [if_neg (fun g => hy0 (e0.mp g)), hno m hm rfl hl hy0, il_B, if_neg (by decide), fails_i, bd_i]
        exact opOk_x hA rfl (Or.inl ⟨rfl, thr_k⟩) h K (mRel_0 R')
    · rw [if_neg hl, fails_i, bd_i]
      exact opOk_x hA rfl (Or.inl ⟨rfl, thr_k⟩) h K (mRel_0 R')
theorem link_yes (hN : 20000 ≤ N) (h : wOk W) (K : kRel S W) (R : mRel M W) (h0 : M.1 0 = 0) {m e1 : Nat} (hm : m < 4) (hl : tLv (wTr W m) e1 = true) (he1 : 1 ≤ e1) (he : e1 < 48) {z : Int} (hz : -1 ≤ z ∧ z < 104) : opOk 1 3 0 (pX9_link_36 N (zI (e1 : Nat)) (zI z) m S) (pf_link_35 N 1 (zI (m : Nat)) (zI (e1 : Nat)) (zI z) M) := by
  have hlen := h.2.2.2.1.2.1
  have hn250 := h.2.2.2.1.1
  have Q := kRel_t h K hm
  have ht := tLv_th he hl
  simp only [pf_link_35, pf_link_55, pf_link_82, pX9_link_36, pX9_link_56, svk_i]
  obtain ⟨M', R', f, ⟨q, e⟩ | ⟨m', hm', em, e, L, -⟩⟩ := w_isAt (N := N) hN h R (x := (m : Int)) (y := (e1 : Int)) (by omega) (by omega) (by omega) (by omega)
  · omega
  · have : m' = m := by omega
    subst this
    have t0 : M'.1 0 = 0 := by rw [f.1 0 (by omega) (by omega)]; exact h0
    have n1 : ∀ S : kS, pX9_need N 1 S = some (.inl (), S) := fun S => by
      have := g_need (N := N) (S := S) (b := true)
      rw [if_pos rfl] at this
      exact this
    have n0 : ∀ S : kS, pX9_need N 0 S = some (.inr 3, S) := fun S => by
      have := g_need (N := N) (S := S) (b := false)
      rw [if_neg (by decide)] at this
      exact this
    have no : ∀ {A : Option ((Int32 ⊕ Nat) × kS)}, A = some (.inr 3, S) → opOk 1 3 0 A (bd (pf_fails N 2 M') fun v1 S2 => some (v1, S2)) := fun hA => by
      rw [fails_i, bd_i]
      exact opOk_x hA rfl (Or.inr (Or.inl ⟨rfl, thr_k⟩)) h K (mRel_0 R')
    have ex : (zI z = zI (e1 : Nat)) ↔ z = e1 := by rw [zI_eq (by omega) (by omega) (by omega) (by omega)]
    simp only [n1, n0, bx_l, bx_r]
    rw [e, bd_i, il_B, if_pos hl, if_neg (show ¬ zI (e1 : Nat) = 0 by rw [zL_0, zI_eq (by omega) (by omega) (by omega) (by omega)]; omega), if_neg (show ¬ (1 : Int32) = 0 by decide), g_room K.2.2.2.2.1.1 (by omega), r_isFull R' h, bd_i, il_B, hlen]
    by_cases q2 : wN W < 250
    · rw [if_pos q2, bx_l, decide_eq_false (show ¬ wN W = 250 by omega), if_neg (by decide), g_write (by omega) h K hm (by omega) (by omega), r_mayWrite (by omega) h R' hm L (by omega) (by omega), bd_i, il_B]
      by_cases q3 : tMay (wH W) (wTr W m') (wU W m') (e1 : Int) 1 = true
      · rw [if_pos q3, bx_l, if_pos q3]
        by_cases q4 : z = e1
        · rw [if_pos (ex.mpr q4), if_pos (ex.mpr q4)]
          exact no rfl
        · rw [if_neg (fun g => q4 (ex.mp g)), if_neg (fun g => q4 (ex.mp g))]
          have c0 := mk_of (Y := 0) h hm q2 (K := 5) (E := e1) (X := z) (by omega) (by omega) ht he (fun a b => by omega) (fun e => by omega) (fun _ => hz) (fun e => by omega) (fun e => by omega) (fun e => by omega)
          obtain ⟨w1, S1, w2, U1⟩ := k_new (N := N) (c := wCh W m' 5 e1 z 0) (x := z) (y := -1) (z := -1) K (by show ¬ 5 = 0; omega) (fun a b => absurd b (by show ¬ 5 ≤ 3; omega)) (fun _ => rfl) (fun e => absurd e (by show ¬ 5 = 6; omega))
          obtain ⟨S2, w3, K2⟩ := k_made (N := N) (by omega) h U1 hm q2 c0
          obtain ⟨M2, w4, R2, w5⟩ := m_made (N := N) (c := wCh W m' 5 e1 z 0) (x := z) (y := 0) (z := 0) (by omega) h R' hm q2 (by show ¬ 5 = 0; omega) c0 (Or.inl rfl) (fun e => absurd e (by show ¬ (5 ≤ 3 ∨ 5 = 6); omega))
          have W2 := w_made h hm q2 (by show ¬ 5 = 0; omega) c0
          have w2 : pX0_init N (kn S) (5 : Int32) (zI (e1 : Nat)) (zI z) (-1) (-1) (nU S) = some ((), S1) := by rw [K.2.2.2.1.1]; exact w2
          have w3 : pX9_record N m' (kn S) S1 = some (.inl (), S2) := by rw [K.2.2.2.1.1]; exact w3
          have w4 : pf_makes N (zI (m' : Nat)) (5 : Int32) (zI (e1 : Nat)) (zI z) 0 0 M' = some (zI (wN W : Nat), M2) := w4
          have gn : ∀ {γ : Type} (A : Option γ), gNew S A = A := fun A => if_pos w1
          simp only [nm_i]
          rw [gd_n he (by omega), gd_n he (by omega), zI_cn (by omega), Q.1.2.2.1 e1 he, gn, w2, bk_i, w3, bx_l, w4, bd_i, L.1.2.2.2.2.2.1 e1 he]
          exact opOk_v rfl rfl (by rw [w5]; exact t0) W2 K2 R2
      · rw [if_neg q3, bx_r, if_neg q3]
        exact no rfl
    · rw [if_neg q2, bx_r, decide_eq_true (show wN W = 250 by omega), if_pos rfl]
      exact no rfl
end OF
