-- LEVEL 2, THE CALL REPLACE
section OC
variable {N : Nat} {S : kS} {M : mS} {W : sW}
/-- a change of a value, made by both -/
theorem both_made (hN : 20000 ≤ N) (h : wOk W) (K : kRel S W) (R : mRel M W) {m kk e a v : Nat} (hm : m < 4) (hk : 1 ≤ kk) (hk3 : kk ≤ 3) (he : e < 48) (ha : a < hA (wH W)) (hv : v < 1000) (hn : wN W < 250) (hl : tLv (wTr W m) e = true) : (∀ {γ : Type} (A : Option γ), gNew S A = A) ∧ ∃ S1 S2 M2 c, pX0_init N (kn S) (zI (kk : Nat)) (zI (e : Nat)) (zI (a : Nat)) (zI (v : Nat)) (-1) (nU S) = some ((), S1) ∧ pX9_record N m (kn S) S1 = some (.inl (), S2) ∧ pf_makes N (zI (m : Nat)) (zI (kk : Nat)) (zI (e : Nat)) (zI (a : Nat)) (zI (v : Nat)) 0 M = some (zI (wN W : Nat), M2) ∧ wOk (wNx W m c) ∧ kRel S2 (wNx W m c) ∧ mRel M2 (wNx W m c) ∧ M2.1 0 = M.1 0 := by
  have ht := tLv_th he hl
  have k0 : kk ≠ 0 := by omega
  have c0 := mk_of h hm hn (K := kk) (E := e) (X := (a : Int)) (Y := (v : Int)) k0 (by omega) ht he (fun _ _ => ⟨by omega, by omega, by omega, by omega⟩) (fun e => by omega) (fun e => by omega) (fun e => by omega) (fun e => by omega) (fun e => by omega)
  obtain ⟨w1, S1, w2, U1⟩ := k_new (N := N) (c := wCh W m kk e (a : Int) (v : Int)) (x := (a : Int)) (y := (v : Int)) (z := -1) K k0 (fun _ _ => ⟨rfl, rfl⟩) (fun e => absurd e (by show ¬ (kk = 4 ∨ kk = 5 ∨ kk = 7); omega)) (fun e => absurd e (by show ¬ kk = 6; omega))
  obtain ⟨S2, w3, K2⟩ := k_made (N := N) (by omega) h U1 hm hn c0
  obtain ⟨M2, w4, R2, w5⟩ := m_made (N := N) (c := wCh W m kk e (a : Int) (v : Int)) (x := (a : Int)) (y := (v : Int)) (z := 0) (by omega) h R hm hn k0 c0 (Or.inl rfl) (fun _ => rfl)
  refine ⟨fun A => if_pos w1, S1, S2, M2, wCh W m kk e (a : Int) (v : Int), ?_, ?_, w4, w_made h hm hn k0 c0, K2, R2, w5⟩
  · rw [K.2.2.2.1.1]; exact w2
  · rw [K.2.2.2.1.1]; exact w3
theorem op_replace (hN : 20000 ≤ N) (h : wOk W) (K : kRel S W) (R : mRel M W) (x y z w : Int32) : opOk 1 2 3 (pX9_replace N x y z w S) (pf_replace N x y z w M) := by
  obtain ⟨x, h1, h2, rfl⟩ := zI_of x
  obtain ⟨y, h3, h4, rfl⟩ := zI_of y
  obtain ⟨z, h5, h6, rfl⟩ := zI_of z
  obtain ⟨w, h7, h8, rfl⟩ := zI_of w
  obtain ⟨M', code, e, R', ⟨rfl, m, e1, a, v, rfl, rfl, rfl, rfl, hm, he1, he, ha, hv, hn, hl, L, hp⟩ | ⟨kk, hp, hc⟩⟩ := pre3_ok (N := N) hN h K R h1 h2 h3 h4 h5 h6 h7 h8
  · have Q := kRel_t h K hm
    have h10 := h.1.1
    have hk := Q.2.2.2.2.1 e1 he
    have hx := (wTr_X h m).1 e1 he
    have e0 : pX9_replace N (zI (m : Nat)) (zI (e1 : Nat)) (zI (a : Nat)) (zI (v : Nat)) S = _ := hp _
    rw [e0]
    simp only [pf_replace, sv_i]
    rw [e, bd_i, thr_k, if_pos (show (0 : Int32) ≤ 0 by decide), gd_n he (by omega), gd_n he (by omega), zI_cn (by omega), Q.1.2.1 e1 he, q_isAllowed K.1 h.1 (by omega) (by omega) (by omega), bk_i, g_need]
    have R0 := mRel_0 (v := (0 : Int32)) R'
    have L0 : rLd (mI M' 0 0) (wTr W m) := rLd_e (M := M') (by rw [mI_1, upd_o _ _ (by omega)]) (fun _ _ _ => rfl) L
    have t40 : (mI M' 0 0).2 40 e1 = zI (tKl (wTr W m) e1) := L0.1.2.2.1 e1 he
    rw [t40, r_allowedBy (by omega) R0.1 h.1 hk.1 hx, bd_i]
    by_cases q : ib (hAll (wH W) (tKl (wTr W m) e1)) a = true
    · obtain ⟨gn, S1, S2, M2, c, w2, w3, w4, W2, K2, R2, w5⟩ := both_made (N := N) hN h K R0 (m := m) (kk := 3) (e := e1) (a := a) (v := v) hm (by omega) (by omega) he ha hv hn hl
      have w2 : pX0_init N (kn S) (3 : Int32) (zI (e1 : Nat)) (zI (a : Nat)) (zI (v : Nat)) (-1) (nU S) = some ((), S1) := w2
      have w4 : pf_makes N (zI (m : Nat)) (3 : Int32) (zI (e1 : Nat)) (zI (a : Nat)) (zI (v : Nat)) 0 (mI M' 0 0) = some (zI (wN W : Nat), M2) := w4
      rw [if_pos q, bx_l, q_valuesOf Q (by omega) he (by omega), bk_i, gn, svk_i, w2, bk_i, w3, bx_l, if_neg (by rw [ib_test0 (by omega), q]; decide), r_countOf (by omega) L0.1 L0.2.1 he (by omega), bd_i, w4, bd_i]
      exact opOk_v rfl rfl (by rw [w5]; exact thr_k) W2 K2 R2
    · rw [if_neg q, bx_r, if_pos (by rw [ib_test0 (by omega)]; exact Bool.eq_false_iff.mpr q), fails_i, bd_i]
      exact opOk_x rfl rfl (Or.inr (Or.inr ⟨rfl, thr_k⟩)) h K (mRel_0 R0)
  · have e0 : pX9_replace N (zI x) (zI y) (zI z) (zI w) S = _ := hp _
    rw [e0]
    simp only [pf_replace, sv_i]
    rw [e, bd_i, thr_k, if_neg (by rcases hc with ⟨-, rfl⟩ | ⟨-, rfl⟩ | ⟨-, rfl⟩ <;> decide)]
    exact opOk_x rfl rfl (by rw [thr_k]; exact hc) h K (mRel_0 R')
end OC
