-- LEVEL 2, CALLS THAT CHANGE: RENAME
section OA
variable {N : Nat} {S : kS} {M : mS} {W : sW}
/-- the change that a master makes -/
def wCh (W : sW) (m K E : Nat) (X Y : Int) : sCh := (K, E, X, Y, 0, [], m, wT W m m m, gst (wT W m) m (wC W) (wN W) + 1)
theorem th_lt (h : wOk W) {m y : Nat} (hy : tTh (wTr W m) y = true) : y < wE W := by
  rcases th_add _ _ hy with g | ⟨k, h1, h2, h3⟩
  · have : y = 0 := of_decide_eq_true g
    have := h.2.2.2.2.2.2.1.1
    omega
  · have hk := (h.2.2.2.1.2.2.1 k).mp (knl_sub.subset h1)
    have := (h.2.2.2.1.2.2.2.2.2.1 k hk).1
    omega
theorem mk_of (h : wOk W) {m K E : Nat} {X Y : Int} (hm : m < 4) (hn : wN W < 250) (hK : K ≠ 0) (hK8 : K ≤ 8) (hE : tTh (wTr W m) E = true) (hE2 : E < 48) (h1 : 1 ≤ K → K ≤ 3 → 0 ≤ X ∧ X < (hA (wH W) : Int) ∧ 0 ≤ Y ∧ Y < 1000) (h4 : K = 4 → 0 ≤ X ∧ X < 100) (h5 : K = 5 → -1 ≤ X ∧ X < 104) (h6 : K = 6 → 0 ≤ X ∧ X < 330 ∧ 0 ≤ Y ∧ Y ≤ 2) (h7 : K = 7 → 0 ≤ X ∧ X < 48 ∧ tTh (wTr W m) X.toNat = true) (h8 : K = 8 → 1 ≤ E) : mkOk (wH W) (wC W) (wN W) (wE W) m (wO W) (wT W) (wCh W m K E X Y) := by
  have g := h.2.2.2.1
  have T := h.2.2.2.2.1
  have h10 := h.1.1
  have ht : wT W m m m < 250 := by
    have := (T m m m hm hm hm).2.2
    have := nMk_le (cs := wC W) (j := m) (wN W)
    omega
  have hg : gst (wT W m) m (wC W) (wN W) ≤ wN W := gst_le _ (fun k hk _ => by have := (g.2.2.2.2.2.2.2.2.1 k hk).2; omega)
  refine ⟨⟨hK8, hE2, hm, ht, by show gst (wT W m) m (wC W) (wN W) + 1 ≤ 250; omega, fun e => absurd e hK, fun a b => ?_, h4, h5, h6, fun e => ⟨(h7 e).1, (h7 e).2.1⟩, h8⟩, rfl, rfl, rfl, ?_, fun e => absurd e hK, fun e => (h7 e).2.2⟩
  · obtain ⟨q1, q2, q3, q4⟩ := h1 a b
    exact ⟨q1, by show X < 10; omega, q3, q4⟩
  · rw [if_neg (show ¬ cK (wCh W m K E X Y) = 0 from hK)]
    exact ⟨th_lt h hE, fun e => absurd e hK, fun a b => (h1 a b).2.1, fun e => by
      obtain ⟨a1, a2, a3⟩ := h7 e
      have := th_lt h a3
      show X < (wE W : Int)
      omega⟩
theorem r_isFull (R : mRel M W) (h : wOk W) : pf_isFull N M = some (zB (decide (wN W = 250)), M) := by
  have := h.2.2.2.1.1
  simp only [pf_isFull]
  rw [R.2.2.2.1.1, zL_250, il_eq (by omega) (by omega) (by omega) (by omega)]
  by_cases q : wN W = 250
  · rw [if_pos (by omega), decide_eq_true q]; rfl
  · rw [if_neg (by omega), decide_eq_false q]; rfl
theorem r_mayWrite (hN : 901 ≤ N) (h : wOk W) (R : mRel M W) {m : Nat} (hm : m < 4) (L : rLd M (wTr W m)) {x : Int} (h1 : -2 ≤ x) (h2 : x < 48) : pf_mayWrite N (zI (m : Nat)) (zI x) M = some (zB (tMay (wH W) (wTr W m) (wU W m) x 1), M) := by
  have e := r_mayDo (N := N) hN R.1 h.1 L (wTr_X h m) (h.2.2.2.2.2.1 m hm) (what := 1) (by omega) h1 h2
  have e : pf_mayDo N (zI (wU W m : Nat)) (zI x) 1 M = _ := e
  simp only [pf_mayWrite]
  rw [gd_n hm (by omega), zI_cn (by omega), R.2.2.2.2.2.2.1 m hm, e, bd_i, zr_B]
theorem op_rename (hN : 20000 ≤ N) (h : wOk W) (K : kRel S W) (R : mRel M W) (x y z : Int32) : opOk 1 2 3 (pX9_rename N x y z S) (pf_rename N x y z M) := by
  obtain ⟨x, h1, h2, rfl⟩ := zI_of x
  obtain ⟨y, h3, h4, rfl⟩ := zI_of y
  obtain ⟨z, h5, h6, rfl⟩ := zI_of z
  have hlen := h.2.2.2.1.2.1
  have hn250 := h.2.2.2.1.1
  simp only [pX9_rename, pf_rename, pf_rename_18, pf_rename_71, sv_i, svk_i]
  obtain ⟨M', R', f, ⟨q, e⟩ | ⟨m, hm, rfl, e, L, -⟩⟩ := w_isAt (N := N) hN h (mRel_0 (v := (0 : Int32)) R) h1 h2 h3 h4
  · rw [e, bd_i, il_B, if_neg (by decide), fails_i, bd_i, g_masterNo h1 h2 q, bx_r]
    exact opOk_x rfl rfl (Or.inl ⟨rfl, thr_k⟩) h K (mRel_0 R')
  · have Q := kRel_t h K hm
    rw [e, bd_i, il_B, g_master hm, bx_l, gn_l hm, g_changeable Q h3 h4]
    by_cases hl : tLv (wTr W m) y = true
    · have hy := tLv_lt hl
      have e0 : (zI y = (0 : Int32)) ↔ y = 0 := by rw [zL_0, zI_eq h3 h4 (by omega) (by omega)]
      rw [if_pos hl]
      by_cases hy0 : y = 0
      · rw [if_neg (fun g => g.1 hy0), bx_r, if_pos (e0.mpr hy0), fails_i, bd_i]
        exact opOk_x rfl rfl (Or.inl ⟨rfl, thr_k⟩) h K (mRel_0 R')
      · obtain ⟨e1, rfl⟩ : ∃ e1 : Nat, y = e1 := ⟨y.toNat, by omega⟩
        have he : e1 < 48 := by omega
        have ht := tLv_th he hl
        have e9 : pf_in N (zI z) 0 99 = some (zB (decide (0 ≤ z) && decide (z ≤ 99))) := r_in (a := 0) (b := 99) h5 h6 (by omega) (by omega) (by omega) (by omega)
        rw [if_pos ⟨hy0, hl⟩, bx_l, if_neg (show ¬ zI (e1 : Nat) = 0 from fun g => hy0 (e0.mp g)), g_name h5 h6, e9, bs_i, il_B]
        by_cases q1 : 0 ≤ z ∧ z < 100
        · rw [if_pos q1, bx_l, if_pos (in_yes (by omega)), g_room K.2.2.2.2.1.1 (by omega), r_isFull R' h, bd_i, il_B, hlen]
          by_cases q2 : wN W < 250
          · rw [if_pos q2, bx_l, decide_eq_false (show ¬ wN W = 250 by omega), if_neg (by decide), g_write (by omega) h K hm (by omega) (by omega), r_mayWrite (by omega) h R' hm L (by omega) (by omega), bd_i, il_B]
            by_cases q3 : tMay (wH W) (wTr W m) (wU W m) (e1 : Int) 1 = true
            · have pe := tPl_rg Q.2 he
              rw [if_pos q3, bx_l, if_pos q3, q_placeOf Q he, bk_i, g_free (by omega) Q (by omega) (by omega) (by omega) (by omega) (by omega) (by omega), gd_n he (by omega), zI_cn (by omega), L.2.2.1 e1 he, r_isNamed (by omega) L (by omega) (by omega) (by omega) (by omega) (by omega) (by omega), bd_i, il_B]
              by_cases q4 : tShd (wTr W m) (tPl (wTr W m) e1) z e1 = true
              · rw [if_pos q4, bx_r, if_pos q4, fails_i, bd_i]
                exact opOk_x rfl rfl (Or.inr (Or.inr ⟨rfl, thr_k⟩)) h K (mRel_0 R')
              · have c0 := mk_of (Y := 0) h hm q2 (K := 4) (E := e1) (X := z) (by omega) (by omega) ht he (fun a b => by omega) (fun _ => ⟨q1.1, q1.2⟩) (fun e => by omega) (fun e => by omega) (fun e => by omega) (fun e => by omega)
                obtain ⟨w1, S1, w2, U1⟩ := k_new (N := N) (c := wCh W m 4 e1 z 0) (x := z) (y := -1) (z := -1) K (by show ¬ 4 = 0; omega) (fun a b => absurd b (by show ¬ 4 ≤ 3; omega)) (fun _ => rfl) (fun e => absurd e (by show ¬ 4 = 6; omega))
                obtain ⟨S2, w3, K2⟩ := k_made (N := N) (by omega) h U1 hm q2 c0
                obtain ⟨M2, w4, R2, w5⟩ := m_made (N := N) (x := z) (y := 0) (z := 0) (by omega) h R' hm q2 (by show ¬ 4 = 0; omega) c0 (Or.inl rfl) (fun e => absurd e (by show ¬ (4 ≤ 3 ∨ 4 = 6); omega))
                have W2 := w_made h hm q2 (by show ¬ 4 = 0; omega) c0
                have w2 : pX0_init N (kn S) (4 : Int32) (zI (e1 : Nat)) (zI z) (-1) (-1) (nU S) = some ((), S1) := by rw [K.2.2.2.1.1]; exact w2
                have w3 : pX9_record N m (kn S) S1 = some (.inl (), S2) := by rw [K.2.2.2.1.1]; exact w3
                have w4 : pf_makes N (zI (m : Nat)) (4 : Int32) (zI (e1 : Nat)) (zI z) 0 0 M' = some (zI (wN W : Nat), M2) := w4
                have gn : ∀ {γ : Type} (A : Option γ), gNew S A = A := fun A => if_pos w1
                rw [if_neg q4, bx_l, if_neg q4, q_shownName Q (by omega) he ht, bk_i, gn, w2, bk_i, w3, bx_l, gd_n he (by omega), L.2.2.2 e1 he ht]
                simp only [nm_i]
                rw [w4, bd_i]
                exact opOk_v rfl rfl (by rw [w5]; exact thr_0 f) W2 K2 R2
            · rw [if_neg q3, bx_r, if_neg q3, fails_i, bd_i]
              exact opOk_x rfl rfl (Or.inr (Or.inr ⟨rfl, thr_k⟩)) h K (mRel_0 R')
          · rw [if_neg q2, bx_r, decide_eq_true (show wN W = 250 by omega), if_pos rfl, fails_i, bd_i]
            exact opOk_x rfl rfl (Or.inr (Or.inr ⟨rfl, thr_k⟩)) h K (mRel_0 R')
        · rw [if_neg q1, bx_r, if_neg (in_no (by omega)), fails_i, bd_i]
          exact opOk_x rfl rfl (Or.inr (Or.inl ⟨rfl, thr_k⟩)) h K (mRel_0 R')
    · rw [if_neg hl, if_neg (fun g => hl g.2), bx_r, fails_i, bd_i]
      exact opOk_x rfl rfl (Or.inl ⟨rfl, thr_k⟩) h K (mRel_0 R')
end OA
