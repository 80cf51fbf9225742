-- LEVEL 2, THE CALL ADD VALUE
section OD
variable {N : Nat} {S : kS} {M : mS} {W : sW}
/-- how many values there are then -/
theorem both_count (hN : 20000 ≤ N) {W : sW} (h : wOk W) (K : kRel S W) (R : mRel M W) {m e a : Nat} (hm : m < 4) (he : e < 48) (ha : a < 10) : pX8_valuesOf N m (zI (e : Nat)) (zI (a : Nat)) S = some (zI (tCnt (wTr W m) e a : Nat), S) ∧ ∃ M', pf_valuesBehind N (zI (m : Nat)) (zI (e : Nat)) (zI (a : Nat)) M = some (zI (tCnt (wTr W m) e a : Nat), M') ∧ mRel M' W ∧ M'.1 0 = M.1 0 := by
  refine ⟨q_valuesOf (kRel_t h K hm) (by omega) he ha, ?_⟩
  obtain ⟨M', e1, L, -, R', f⟩ := w_lays (N := N) hN h R hm
  refine ⟨M', ?_, R', f.1 0 (by omega) (by omega)⟩
  simp only [pf_valuesBehind]
  rw [e1, bd_i, r_countOf (by omega) L.1 L.2.1 he (by omega), bd_i]
theorem op_addValue (hN : 20000 ≤ N) (h : wOk W) (K : kRel S W) (R : mRel M W) (x y z w : Int32) : opOk 1 2 3 (pX9_addValue N x y z w S) (pf_addValue N x y z w M) := by
  obtain ⟨x, h1, h2, rfl⟩ := zI_of x
  obtain ⟨y, h3, h4, rfl⟩ := zI_of y
  obtain ⟨z, h5, h6, rfl⟩ := zI_of z
  obtain ⟨w, h7, h8, rfl⟩ := zI_of w
  obtain ⟨M', code, e, R', ⟨rfl, m, e1, a, v, rfl, rfl, rfl, rfl, hm, he1, he, ha, hv, hn, hl, L, hp⟩ | ⟨kk, hp, hc⟩⟩ := pre3_ok (N := N) hN h K R h1 h2 h3 h4 h5 h6 h7 h8
  · have Q := kRel_t h K hm
    have h10 := h.1.1
    have hk := Q.2.2.2.2.1 e1 he
    have hx := (wTr_X h m).1 e1 he
    have e0 : pX9_addValue N (zI (m : Nat)) (zI (e1 : Nat)) (zI (a : Nat)) (zI (v : Nat)) S = _ := hp _
    rw [e0]
    simp only [pf_addValue, pf_addValue_68, sv_i]
    rw [e, bd_i, thr_k, if_pos (show (0 : Int32) ≤ 0 by decide), gd_n he (by omega), gd_n he (by omega), zI_cn (by omega), Q.1.2.1 e1 he, q_isAllowed K.1 h.1 (by omega) (by omega) (by omega), bk_i, g_need]
    have R0 := mRel_0 (v := (0 : Int32)) R'
    have L0 : rLd (mI M' 0 0) (wTr W m) := rLd_e (M := M') (by rw [mI_1, upd_o _ _ (by omega)]) (fun _ _ _ => rfl) L
    have t40 : (mI M' 0 0).2 40 e1 = zI (tKl (wTr W m) e1) := L0.1.2.2.1 e1 he
    have no : ∀ {A : Option ((Int32 ⊕ Nat) × kS)}, A = some (.inr 3, S) → opOk 1 2 3 A (bd (pf_fails N 3 (mI M' 0 0)) fun v1 S2 => some (v1, S2)) := fun hA => by
      rw [fails_i, bd_i]
      exact opOk_x hA rfl (Or.inr (Or.inr ⟨rfl, thr_k⟩)) h K (mRel_0 R0)
    rw [t40, r_allowedBy (by omega) R0.1 h.1 hk.1 hx, bd_i]
    by_cases q : ib (hAll (wH W) (tKl (wTr W m) e1)) a = true
    · rw [if_pos q, bx_l, q_matching Q K.1 (by omega) he (by omega) hv, bk_i, if_neg (show ¬ ((hAll (wH W) (tKl (wTr W m) e1) >>> (zI (a : Nat) &&& 31)) &&& 1) = 0 by rw [ib_test0 (by omega), q]; decide), r_hasMatch (by omega) L0.1 L0.2.1 R0.1.2.2.2.1 he (by omega) hv, bd_i, il_B]
      have ml : tMt (wH W) (wTr W m) e1 a v ≤ 900 := Nat.le_trans List.countP_le_length L.1.2.2.2.2.2.2.1.2.1
      have z0 : (zI (tMt (wH W) (wTr W m) e1 a v : Nat) = (0 : Int32)) ↔ tMt (wH W) (wTr W m) e1 a v = 0 := by rw [zL_0, zI_eq (by omega) (by omega) (by omega) (by omega)]; omega
      simp only [pX9_addValue_75, pX9_addValue_104, svk_i]
      have n1 : ∀ S : kS, pX9_need N 1 S = some (.inl (), S) := fun S => by
        have := g_need (N := N) (S := S) (b := true)
        rw [if_pos rfl] at this
        exact this
      have n0 : ∀ S : kS, pX9_need N 0 S = some (.inr 3, S) := fun S => by
        have := g_need (N := N) (S := S) (b := false)
        rw [if_neg (by decide)] at this
        exact this
      simp only [n1, n0, bx_l, bx_r]
      by_cases q2 : tMt (wH W) (wTr W m) e1 a v = 0
      · have fin : opOk 1 2 3 (gNew S (bk (pX0_init N (kn S) (1 : Int32) (zI (e1 : Nat)) (zI (a : Nat)) (zI (v : Nat)) (-1) (nU S)) fun v106 S107 => bx (pX9_record N m (kn S) S107) fun v108 S109 => bk (pX8_valuesOf N m (zI (e1 : Nat)) (zI (a : Nat)) S109) fun v111 S112 => some (.inl v111, S112))) (pf_addValue_74 N (zI (m : Nat)) (zI (e1 : Nat)) (zI (a : Nat)) (zI (v : Nat)) (mI M' 0 0)) := by
          obtain ⟨gn, S1, S2, M2, c, w2, w3, w4, W2, K2, R2, w5⟩ := both_made (N := N) hN h K R0 (m := m) (kk := 1) (e := e1) (a := a) (v := v) hm (by omega) (by omega) he ha hv hn hl
          have w2 : pX0_init N (kn S) (1 : Int32) (zI (e1 : Nat)) (zI (a : Nat)) (zI (v : Nat)) (-1) (nU S) = some ((), S1) := w2
          have w4 : pf_makes N (zI (m : Nat)) (1 : Int32) (zI (e1 : Nat)) (zI (a : Nat)) (zI (v : Nat)) 0 (mI M' 0 0) = some (zI (wN W : Nat), M2) := w4
          obtain ⟨c1, M3, c2, R3, c3⟩ := both_count (N := N) hN W2 K2 R2 (m := m) (e := e1) (a := a) hm he (by omega)
          simp only [pf_addValue_74]
          rw [gn, w2, bk_i, w3, bx_l, c1, bk_i, w4, bd_i, c2, bd_i]
          exact opOk_v rfl rfl (by rw [c3, w5]; exact thr_k) W2 K2 R3
        rw [if_pos (z0.mpr q2), if_neg (by rw [decide_eq_true_eq]; omega), gd_n (show a < 10 by omega) (by omega), zI_cn (by omega), R0.1.2.2.1 a (by omega), il_B, q_isSingle K.1 (by omega), bk_i, il_B]
        cases hs : hSg (wH W) a with
        | false =>
          rw [if_neg (by decide), if_neg (by decide)]
          exact fin
        | true =>
          have cl : tCnt (wTr W m) e1 a ≤ 900 := Nat.le_trans tCnt_le L.1.2.2.2.2.2.2.1.2.1
          rw [if_pos rfl, if_pos rfl, q_valuesOf Q (by omega) he (by omega), bk_i, r_countOf (by omega) L0.1 L0.2.1 he (by omega), bd_i, zL_0, il_le (by omega) (by omega) (by omega) (by omega), il_eq (by omega) (by omega) (by omega) (by omega)]
          by_cases q3 : tCnt (wTr W m) e1 a = 0
          · rw [if_pos (show (tCnt (wTr W m) e1 a : Int) = 0 by omega), if_pos (show (tCnt (wTr W m) e1 a : Int) ≤ 0 by omega)]
            exact fin
          · rw [if_neg (show ¬ (tCnt (wTr W m) e1 a : Int) = 0 by omega), if_neg (show ¬ (tCnt (wTr W m) e1 a : Int) ≤ 0 by omega)]
            exact no rfl
      · rw [if_neg (fun g => q2 (z0.mp g)), if_pos (by rw [decide_eq_true_eq]; omega)]
        exact no rfl
    · rw [if_neg q, bx_r, if_pos (show ((hAll (wH W) (tKl (wTr W m) e1) >>> (zI (a : Nat) &&& 31)) &&& 1) = 0 by rw [ib_test0 (by omega)]; exact Bool.eq_false_iff.mpr q)]
      exact no rfl
  · have e0 : pX9_addValue N (zI x) (zI y) (zI z) (zI w) S = _ := hp _
    rw [e0]
    simp only [pf_addValue, sv_i]
    rw [e, bd_i, thr_k, if_neg (by rcases hc with ⟨-, rfl⟩ | ⟨-, rfl⟩ | ⟨-, rfl⟩ <;> decide)]
    exact opOk_x rfl rfl (by rw [thr_k]; exact hc) h K (mRel_0 R')
end OD
