-- LEVEL 2, CALLS THAT ASK
section O2
variable {N : Nat} {S : kS} {M : mS} {W : sW}
theorem in_yes {x a b : Int} (h : a ≤ x ∧ x ≤ b) : (decide (a ≤ x) && decide (x ≤ b)) = true := by rw [decide_eq_true h.1, decide_eq_true h.2]; rfl
theorem in_no {x a b : Int} (h : ¬ (a ≤ x ∧ x ≤ b)) : ¬ (decide (a ≤ x) && decide (x ≤ b)) = true := by rw [Bool.and_eq_true, decide_eq_true_eq, decide_eq_true_eq]; exact h
theorem thr_0 {M' : mS} (f : rfL (mI M 0 0) M') : M'.1 0 = 0 := by rw [f.1 0 (by omega) (by omega), mI_1, upd_s]
theorem thr_k {k : Int32} : (mI M 0 k).1 0 = k := by rw [mI_1, upd_s]
/-- what only writes the tree anew -/
theorem kRel_4 {S' : kS} (K : kRel S W) (f : frT 4 S S') (h0 : kA S' (26 + 15 * 4 + 5) 0 = zI 0) : kRel S' W := by
  obtain ⟨k1, ⟨k2, k3⟩, ⟨k4, k5, k6⟩, ⟨k7, k7b⟩, ⟨k8, k9⟩, k10, k11, k12, k13, k14, k15, k16, ⟨k17, k18⟩⟩ := K
  obtain ⟨d1, d2, d3, d4, d5, d6, d7, d8⟩ := kD_eq f.2.2.2.2
  have u : ∀ q, q < 52 → kI S' q = kI S q := fun q hq => f.2.2.2.1 q (by omega)
  have a : ∀ c, c < 86 → kA S' c = kA S c := fun c hc => f.1 c (by omega)
  exact ⟨frT_hR f k1, ⟨by rw [u _ (by omega)]; exact k2, by rw [a _ (by omega)]; exact k3⟩, ⟨by rw [u _ (by omega)]; exact k4, by rw [u _ (by omega)]; exact k5, by rw [a _ (by omega), a _ (by omega), a _ (by omega)]; exact k6⟩, ⟨by rw [d1]; exact k7, fun k hk => cRS_D f.2.2.2.2 (k7b k hk)⟩, ⟨lgR_fr (u _ (by omega)) f.2.2.2.2 k8, by rw [d3, d4]; exact k9⟩, fun j hj => tdR_fr (u _ (by omega)) (a _ (by omega)) (k10 j hj), fun j hj => by rw [u _ (by omega)]; exact k11 j hj, fun j hj => by rw [u _ (by omega)]; exact k12 j hj, fun j e hj he => by rw [f.2.2.1 _ (by omega) (by omega)]; exact k13 j e hj he, by rw [u _ (by omega)]; exact k14, fun j hj => tR_fr f (by omega) (k15 j hj), h0, ⟨by rw [u _ (by omega)]; exact k17, by rw [a _ (by omega)]; exact k18⟩⟩
theorem w_redo (hN : 1001 ≤ N) (h : wOk W) (K : kRel S W) {m : Nat} (hm : m < 4) : ∃ S', pX9_redo N 4 m S = some ((), S') ∧ tOk S' 4 (wTr W m) ∧ kRel S' W := by
  obtain ⟨-, -, -, ⟨g1, g2, g3, ⟨ar, g4⟩, g5, -⟩, -, -, ⟨g7, g8⟩, -⟩ := h
  obtain ⟨S', e, t, f, z⟩ := q_redo (N := N) (t := 4) (ar := ar) hN hm (by omega) (S := S) ⟨K.1, K.2.2.2.2.1.1, fun k hk => K.2.2.2.1.2 k ((g3 k).mp hk), K.2.2.2.2.2.1 m hm⟩ K.2.2.2.2.2.2.2.2.2.2.2.1 g4 (by omega)
  exact ⟨S', e, t, kRel_4 K f z⟩
theorem op_parentOf (hN : 20000 ≤ N) (h : wOk W) (K : kRel S W) (R : mRel M W) (x y : Int32) : opOk 1 0 0 (pX9_parentOf N x y S) (pf_parentOf N x y M) := by
  obtain ⟨x, h1, h2, rfl⟩ := zI_of x
  obtain ⟨y, h3, h4, rfl⟩ := zI_of y
  simp only [pX9_parentOf, pf_parentOf, sv_i]
  obtain ⟨M', R', f, ⟨q, e⟩ | ⟨m, hm, rfl, e, L, -⟩⟩ := w_isAt (N := N) hN h (mRel_0 (v := (0 : Int32)) R) h1 h2 h3 h4
  · rw [e, bd_i, il_B, if_neg (by decide), fails_i, bd_i, g_masterNo h1 h2 q, bx_r]
    exact opOk_x rfl rfl (Or.inl ⟨rfl, thr_k⟩) h K (mRel_0 R')
  · have Q := kRel_t h K hm
    rw [e, bd_i, il_B, g_master hm, bx_l, gn_l hm, g_entry Q h3 h4]
    by_cases hl : tLv (wTr W m) y = true
    · have hy := tLv_lt hl
      obtain ⟨z, rfl⟩ : ∃ z : Nat, y = z := ⟨y.toNat, by omega⟩
      rw [if_pos hl, if_pos hl, bx_l, q_placeOf Q (by omega), bk_i, gd_n (by omega) (by omega), zI_cn (by omega), L.2.2.1 z (by omega)]
      exact opOk_v rfl rfl (thr_0 f) h K R'
    · rw [if_neg hl, if_neg hl, bx_r, fails_i, bd_i]
      exact opOk_x rfl rfl (Or.inl ⟨rfl, thr_k⟩) h K (mRel_0 R')
theorem op_parentAnew (hN : 20000 ≤ N) (h : wOk W) (K : kRel S W) (R : mRel M W) (x y : Int32) : opOk 1 0 0 (pX9_parentAnew N x y S) (pf_parentAnew N x y M) := by
  obtain ⟨x, h1, h2, rfl⟩ := zI_of x
  obtain ⟨y, h3, h4, rfl⟩ := zI_of y
  simp only [pX9_parentAnew, pf_parentAnew, sv_i]
  obtain ⟨M', R', f, ⟨q, e⟩ | ⟨m, hm, rfl, e, L, -⟩⟩ := w_isAt (N := N) hN h (mRel_0 (v := (0 : Int32)) R) h1 h2 h3 h4
  · rw [e, bd_i, il_B, if_neg (by decide), fails_i, bd_i, g_masterNo h1 h2 q, bx_r]
    exact opOk_x rfl rfl (Or.inl ⟨rfl, thr_k⟩) h K (mRel_0 R')
  · have Q := kRel_t h K hm
    rw [e, bd_i, il_B, g_master hm, bx_l, gn_l hm, g_entry Q h3 h4]
    by_cases hl : tLv (wTr W m) y = true
    · have hy := tLv_lt hl
      obtain ⟨z, rfl⟩ : ∃ z : Nat, y = z := ⟨y.toNat, by omega⟩
      obtain ⟨S', e2, Q2, K2⟩ := w_redo (N := N) (by omega) h K hm
      rw [if_pos hl, if_pos hl, bx_l, e2, bk_i, q_placeOf Q2 (by omega), bk_i, gd_n (by omega) (by omega), zI_cn (by omega), L.2.2.1 z (by omega)]
      exact opOk_v rfl rfl (thr_0 f) h K2 R'
    · rw [if_neg hl, if_neg hl, bx_r, fails_i, bd_i]
      exact opOk_x rfl rfl (Or.inl ⟨rfl, thr_k⟩) h K (mRel_0 R')
theorem op_nameOf (hN : 20000 ≤ N) (h : wOk W) (K : kRel S W) (R : mRel M W) (x y : Int32) : opOk 1 0 0 (pX9_nameOf N x y S) (pf_nameOf N x y M) := by
  obtain ⟨x, h1, h2, rfl⟩ := zI_of x
  obtain ⟨y, h3, h4, rfl⟩ := zI_of y
  simp only [pX9_nameOf, pf_nameOf, sv_i]
  obtain ⟨M', R', f, ⟨q, e⟩ | ⟨m, hm, rfl, e, L, -⟩⟩ := w_isAt (N := N) hN h (mRel_0 (v := (0 : Int32)) R) h1 h2 h3 h4
  · rw [e, bd_i, il_B, if_neg (by decide), fails_i, bd_i, g_masterNo h1 h2 q, bx_r]
    exact opOk_x rfl rfl (Or.inl ⟨rfl, thr_k⟩) h K (mRel_0 R')
  · have Q := kRel_t h K hm
    rw [e, bd_i, il_B, g_master hm, bx_l, gn_l hm, g_entry Q h3 h4]
    by_cases hl : tLv (wTr W m) y = true
    · have hy := tLv_lt hl
      obtain ⟨z, rfl⟩ : ∃ z : Nat, y = z := ⟨y.toNat, by omega⟩
      have ht := tLv_th (show z < 48 by omega) hl
      rw [if_pos hl, if_pos hl, bx_l, q_shownName Q (by omega) (by omega) ht, bk_i, gd_n (by omega) (by omega), zI_cn (by omega), L.2.2.2 z (by omega) ht]
      exact opOk_v rfl rfl (thr_0 f) h K R'
    · rw [if_neg hl, if_neg hl, bx_r, fails_i, bd_i]
      exact opOk_x rfl rfl (Or.inl ⟨rfl, thr_k⟩) h K (mRel_0 R')
theorem op_linkOf (hN : 20000 ≤ N) (h : wOk W) (K : kRel S W) (R : mRel M W) (x y : Int32) : opOk 1 0 0 (pX9_linkOf N x y S) (pf_linkOf N x y M) := by
  obtain ⟨x, h1, h2, rfl⟩ := zI_of x
  obtain ⟨y, h3, h4, rfl⟩ := zI_of y
  simp only [pX9_linkOf, pf_linkOf, sv_i]
  obtain ⟨M', R', f, ⟨q, e⟩ | ⟨m, hm, rfl, e, L, -⟩⟩ := w_isAt (N := N) hN h (mRel_0 (v := (0 : Int32)) R) h1 h2 h3 h4
  · rw [e, bd_i, il_B, if_neg (by decide), fails_i, bd_i, g_masterNo h1 h2 q, bx_r]
    exact opOk_x rfl rfl (Or.inl ⟨rfl, thr_k⟩) h K (mRel_0 R')
  · have Q := kRel_t h K hm
    rw [e, bd_i, il_B, g_master hm, bx_l, gn_l hm, g_entry Q h3 h4]
    by_cases hl : tLv (wTr W m) y = true
    · have hy := tLv_lt hl
      obtain ⟨z, rfl⟩ : ∃ z : Nat, y = z := ⟨y.toNat, by omega⟩
      rw [if_pos hl, if_pos hl, bx_l, gd_n (by omega) (by omega), gd_n (by omega) (by omega), zI_cn (by omega), L.1.2.2.2.2.2.1 z (by omega), Q.1.2.2.1 z (by omega)]
      exact opOk_v rfl rfl (thr_0 f) h K R'
    · rw [if_neg hl, if_neg hl, bx_r, fails_i, bd_i]
      exact opOk_x rfl rfl (Or.inl ⟨rfl, thr_k⟩) h K (mRel_0 R')
theorem op_knows (h : wOk W) (K : kRel S W) (R : mRel M W) (x y : Int32) : opOk 1 0 0 (pX9_knows N x y S) (pf_knows N x y M) := by
  obtain ⟨x, h1, h2, rfl⟩ := zI_of x
  obtain ⟨y, h3, h4, rfl⟩ := zI_of y
  simp only [pX9_knows, pf_knows, pf_knows_33, sv_i]
  rw [r_isMaster h1 h2, bs_i, il_B, r_isMaster h3 h4, bs_i, il_B]
  by_cases q : 0 ≤ x ∧ x < 4
  · obtain ⟨m, rfl⟩ : ∃ m : Nat, x = m := ⟨x.toNat, by omega⟩
    have hm : m < 4 := by omega
    rw [if_pos (in_yes (by omega)), g_master hm, bx_l, gn_l hm]
    by_cases q2 : 0 ≤ y ∧ y < 4
    · obtain ⟨z, rfl⟩ : ∃ z : Nat, y = z := ⟨y.toNat, by omega⟩
      have hz : z < 4 := by omega
      have K10 := K.2.2.2.2.2.1
      rw [if_pos (in_yes (by omega)), g_master hz, bx_l, gn_l hz, (K10 z hz).1, q_toldOf (K10 m hm) hm hz, bk_i, zL_20, zI_mul, zI_add, show (20 : Int) * (m : Int) + (z : Int) = ((16 * m + 4 * m + z : Nat) : Int) by omega, gd_n (by omega) (by omega), zI_cn (by omega), mI_2, (R.2.2.2.2.2.1 m m z hm hm hz).1]
      exact opOk_v rfl rfl thr_k h K (mRel_0 R)
    · rw [if_neg (in_no (by omega)), g_masterNo h3 h4 q2, bx_r, fails_i, bd_i]
      exact opOk_x rfl rfl (Or.inl ⟨rfl, thr_k⟩) h K (mRel_0 (mRel_0 R))
  · rw [if_neg (in_no (by omega)), g_masterNo h1 h2 q, bx_r, fails_i, bd_i]
    exact opOk_x rfl rfl (Or.inl ⟨rfl, thr_k⟩) h K (mRel_0 (mRel_0 R))
theorem op_found (h : wOk W) (K : kRel S W) (R : mRel M W) (x : Int32) : opOk 1 0 0 (pX9_found N x S) (pf_found N x M) := by
  obtain ⟨x, h1, h2, rfl⟩ := zI_of x
  obtain ⟨f1, f2⟩ := h.2.2.2.2.2.2.2.1
  obtain ⟨k1, k2⟩ := K.2.2.2.2.2.2.2.2.2.2.2.2
  obtain ⟨r1, r2⟩ := R.2.2.2.2.2.2.2.2.2.2.1
  simp only [pX9_found, pX9_found_15, pf_found, sv_i]
  have e1 : (mI M 0 0).1 52 = zI ((wF W).length : Nat) := by rw [mI_1, upd_o _ _ (by omega)]; exact r1
  rw [e1, zL_0, zL_1, zI_sub, r_in h1 h2 (by omega) (by omega) (by omega) (by omega), bs_i, ← zL_0, il_B, zL_0, il_lt h1 h2 (by omega) (by omega), k1, il_lt h1 h2 (by omega) (by omega)]
  by_cases q : 0 ≤ x ∧ x < ((wF W).length : Int)
  · obtain ⟨i, rfl⟩ : ∃ i : Nat, x = i := ⟨x.toNat, by omega⟩
    have hi : i < (wF W).length := by omega
    rw [if_pos (in_yes (by omega)), if_neg (by omega), if_pos (by omega), gd_n (by omega) (by omega), gd_n (by omega) (by omega), zI_cn (by omega), k2 i hi]
    have e2 : (mI M 0 (zI 0)).2 53 i = zI ((wF W)[i] : Nat) := r2 i hi
    rw [e2]
    exact opOk_v rfl rfl thr_k h K (mRel_0 R)
  · rw [if_neg (in_no (by omega)), fails_i, bd_i]
    by_cases q2 : x < 0
    · rw [if_pos q2]
      exact opOk_x rfl rfl (Or.inl ⟨rfl, thr_k⟩) h K (mRel_0 (mRel_0 R))
    · rw [if_neg q2, if_neg (by omega)]
      exact opOk_x rfl rfl (Or.inl ⟨rfl, thr_k⟩) h K (mRel_0 (mRel_0 R))
end O2
