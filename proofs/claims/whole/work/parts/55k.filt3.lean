-- LEVEL 2, CALLS: MORE PARTS OF FILTERS
section O6
variable {N : Nat} {S : kS} {M : mS} {W : sW}
theorem op_equal (h : wOk W) (K : kRel S W) (R : mRel M W) (x y : Int32) : opOk 1 2 3 (pX9_equal N x y S) (pf_equal N x y M) := by
  obtain ⟨x, h1, h2, rfl⟩ := zI_of x
  obtain ⟨y, h3, h4, rfl⟩ := zI_of y
  have h10 := h.1.1
  simp only [pX9_equal, pX2_putRange, pf_equal, pf_equal_36, pf_isAttribute, pf_isValue, sv_i]
  have e9 : pf_in N (zI y) 0 999 = some (zB (decide (0 ≤ y) && decide (y ≤ 999))) := r_in (a := 0) (b := 999) h3 h4 (by omega) (by omega) (by omega) (by omega)
  rw [R.1.1, show (zI (hA (wH W) : Nat) - 1 : Int32) = zI ((hA (wH W) : Nat) - 1) by rw [zL_1, zI_sub]]
  have ea : pf_in N (zI x) 0 (zI ((hA (wH W) : Nat) - 1)) = some (zB (decide (0 ≤ x) && decide (x ≤ (hA (wH W) : Nat) - 1))) := r_in (a := 0) h1 h2 (by omega) (by omega) (by omega) (by omega)
  rw [ea, bs_i, zr_B, bd_i, il_B, g_attribute K.1 h.1 h1 h2]
  by_cases q : 0 ≤ x ∧ x < (hA (wH W) : Int)
  · obtain ⟨a, rfl⟩ : ∃ a : Nat, x = a := ⟨x.toNat, by omega⟩
    rw [if_pos q, bx_l, if_pos (in_yes (by omega)), g_value h3 h4, e9, bs_i, zs_B, bs_i, il_B]
    by_cases q1 : 0 ≤ y ∧ y < 1000
    · obtain ⟨v, rfl⟩ : ∃ v : Nat, y = v := ⟨y.toNat, by omega⟩
      rw [if_pos q1, bx_l, if_pos (in_yes (by omega)), g_roomF K h, r_isCrowded R h, bd_i, il_B]
      by_cases q2 : (wK W).length < 8 ∧ (wP W).length < 15
      · rw [if_pos q2, bx_l, decide_eq_true q2.1, decide_eq_true q2.2, if_neg (by decide)]
        have t0 : (mI M 0 0).1 0 = 0 := thr_k
        rw [t0, if_pos (show (0 : Int32) ≤ 0 by decide), q_lowest K.1 (by omega) (by omega), bk_i, q_highest K.1 (by omega) (by omega), bk_i]
        obtain ⟨u, S', M', W', e1, e2, e3, e4, e5, e6⟩ := f_fin (N := N) (M := mI M 0 0) (p := (0, (a : Int), (v : Int))) (F := wK W) h K (mRel_0 (v := (0 : Int32)) R) q2.2 q2.1 ⟨[], (List.append_nil _).symm⟩ ⟨by show 0 ≤ 6; omega, fun _ => ⟨by show (0 : Int) ≤ (a : Int); omega, q.2, by show (0 : Int) ≤ (v : Int); omega, by show (v : Int) < 1000; omega⟩, fun e => absurd e (by show ¬ 0 = 3; omega), fun e => absurd e (by show ¬ 4 ≤ 0; omega)⟩ ⟨fun _ => rfl, fun e => absurd e (by show ¬ 0 = 6; omega), fun e => absurd e (by show ¬ (0 = 4 ∨ 0 = 5); omega)⟩ (A := pX2_put N 0 ((zI (a : Nat) * 1000) + zI (vLo (wH W) a v : Nat)) ((zI (a : Nat) * 1000) + zI (vHi (wH W) a v : Nat)) 1 S) (B := pf_puts N 0 (zI (a : Nat)) (zI (v : Nat)) (mI M 0 0)) (by
          rw [show (((wK W).length + 1 : Nat) : Int) - (((wK W).length : Nat) : Int) = 1 by omega, show pcK (0, (a : Int), (v : Int)) = 0 from rfl, show pcL (wH W) (0, (a : Int), (v : Int)) = (a : Int) * 1000 + (vLo (wH W) a v : Nat) from rfl, show pcH (wH W) (0, (a : Int), (v : Int)) = (a : Int) * 1000 + (vHi (wH W) a v : Nat) from rfl]
          show pX2_put N (zI 0) (zI (a : Nat) * zI 1000 + zI (vLo (wH W) a v : Nat)) (zI (a : Nat) * zI 1000 + zI (vHi (wH W) a v : Nat)) (zI 1) S = _
          simp only [zI_mul, zI_add]) rfl (fun _ _ => rfl) rfl (mRel_0 (v := (0 : Int32)) R).2.2.1.2.1 thr_k
        rw [e1, e2, bk_i, bk_i, bd_i]
        exact opOk_v rfl rfl e3 e4 e5 e6
      · have hb : (!(decide ((wK W).length < 8) && decide ((wP W).length < 15))) = true := by
          rw [← Bool.decide_and, decide_eq_false q2]; rfl
        rw [if_neg q2, bx_r, hb, if_pos rfl, thr_k, if_neg (by decide)]
        exact opOk_x rfl rfl (Or.inr (Or.inr ⟨rfl, thr_k⟩)) h K (mRel_0 R)
    · rw [if_neg q1, bx_r, if_neg (in_no (by omega)), thr_k, if_neg (by decide)]
      exact opOk_x rfl rfl (Or.inr (Or.inl ⟨rfl, thr_k⟩)) h K (mRel_0 R)
  · rw [if_neg q, bx_r, if_neg (in_no (by omega)), thr_k, if_neg (by decide)]
    exact opOk_x rfl rfl (Or.inl ⟨rfl, thr_k⟩) h K (mRel_0 R)
theorem op_atLeast (h : wOk W) (K : kRel S W) (R : mRel M W) (x y : Int32) : opOk 1 2 3 (pX9_atLeast N x y S) (pf_atLeast N x y M) := by
  obtain ⟨x, h1, h2, rfl⟩ := zI_of x
  obtain ⟨y, h3, h4, rfl⟩ := zI_of y
  have h10 := h.1.1
  simp only [pX9_atLeast, pX2_putRange, pf_atLeast, pf_atLeast_36, pf_isAttribute, pf_isValue, sv_i]
  have e9 : pf_in N (zI y) 0 999 = some (zB (decide (0 ≤ y) && decide (y ≤ 999))) := r_in (a := 0) (b := 999) h3 h4 (by omega) (by omega) (by omega) (by omega)
  rw [R.1.1, show (zI (hA (wH W) : Nat) - 1 : Int32) = zI ((hA (wH W) : Nat) - 1) by rw [zL_1, zI_sub]]
  have ea : pf_in N (zI x) 0 (zI ((hA (wH W) : Nat) - 1)) = some (zB (decide (0 ≤ x) && decide (x ≤ (hA (wH W) : Nat) - 1))) := r_in (a := 0) h1 h2 (by omega) (by omega) (by omega) (by omega)
  rw [ea, bs_i, zr_B, bd_i, il_B, g_attribute K.1 h.1 h1 h2]
  by_cases q : 0 ≤ x ∧ x < (hA (wH W) : Int)
  · obtain ⟨a, rfl⟩ : ∃ a : Nat, x = a := ⟨x.toNat, by omega⟩
    rw [if_pos q, bx_l, if_pos (in_yes (by omega)), g_value h3 h4, e9, bs_i, zs_B, bs_i, il_B]
    by_cases q1 : 0 ≤ y ∧ y < 1000
    · obtain ⟨v, rfl⟩ : ∃ v : Nat, y = v := ⟨y.toNat, by omega⟩
      rw [if_pos q1, bx_l, if_pos (in_yes (by omega)), g_roomF K h, r_isCrowded R h, bd_i, il_B]
      by_cases q2 : (wK W).length < 8 ∧ (wP W).length < 15
      · rw [if_pos q2, bx_l, decide_eq_true q2.1, decide_eq_true q2.2, if_neg (by decide)]
        have t0 : (mI M 0 0).1 0 = 0 := thr_k
        rw [t0, if_pos (show (0 : Int32) ≤ 0 by decide), q_lowest K.1 (by omega) (by omega), bk_i]
        obtain ⟨u, S', M', W', e1, e2, e3, e4, e5, e6⟩ := f_fin (N := N) (M := mI M 0 0) (p := (1, (a : Int), (v : Int))) (F := wK W) h K (mRel_0 (v := (0 : Int32)) R) q2.2 q2.1 ⟨[], (List.append_nil _).symm⟩ ⟨by show 1 ≤ 6; omega, fun _ => ⟨by show (0 : Int) ≤ (a : Int); omega, q.2, by show (0 : Int) ≤ (v : Int); omega, by show (v : Int) < 1000; omega⟩, fun e => absurd e (by show ¬ 1 = 3; omega), fun e => absurd e (by show ¬ 4 ≤ 1; omega)⟩ ⟨fun _ => rfl, fun e => absurd e (by show ¬ 1 = 6; omega), fun e => absurd e (by show ¬ (1 = 4 ∨ 1 = 5); omega)⟩ (A := pX2_put N 0 ((zI (a : Nat) * 1000) + zI (vLo (wH W) a v : Nat)) ((zI (a : Nat) * 1000) + 999) 1 S) (B := pf_puts N 1 (zI (a : Nat)) (zI (v : Nat)) (mI M 0 0)) (by
          rw [show (((wK W).length + 1 : Nat) : Int) - (((wK W).length : Nat) : Int) = 1 by omega, show pcK (1, (a : Int), (v : Int)) = 0 from rfl, show pcL (wH W) (1, (a : Int), (v : Int)) = (a : Int) * 1000 + (vLo (wH W) a v : Nat) from rfl, show pcH (wH W) (1, (a : Int), (v : Int)) = (a : Int) * 1000 + 999 from rfl]
          show pX2_put N (zI 0) (zI (a : Nat) * zI 1000 + zI (vLo (wH W) a v : Nat)) (zI (a : Nat) * zI 1000 + zI 999) (zI 1) S = _
          simp only [zI_mul, zI_add]) rfl (fun _ _ => rfl) rfl (mRel_0 (v := (0 : Int32)) R).2.2.1.2.1 thr_k
        rw [e1, e2, bk_i, bk_i, bd_i]
        exact opOk_v rfl rfl e3 e4 e5 e6
      · have hb : (!(decide ((wK W).length < 8) && decide ((wP W).length < 15))) = true := by
          rw [← Bool.decide_and, decide_eq_false q2]; rfl
        rw [if_neg q2, bx_r, hb, if_pos rfl, thr_k, if_neg (by decide)]
        exact opOk_x rfl rfl (Or.inr (Or.inr ⟨rfl, thr_k⟩)) h K (mRel_0 R)
    · rw [if_neg q1, bx_r, if_neg (in_no (by omega)), thr_k, if_neg (by decide)]
      exact opOk_x rfl rfl (Or.inr (Or.inl ⟨rfl, thr_k⟩)) h K (mRel_0 R)
  · rw [if_neg q, bx_r, if_neg (in_no (by omega)), thr_k, if_neg (by decide)]
    exact opOk_x rfl rfl (Or.inl ⟨rfl, thr_k⟩) h K (mRel_0 R)
theorem op_ofClass (h : wOk W) (K : kRel S W) (R : mRel M W) (x : Int32) : opOk 1 3 0 (pX9_ofClass N x S) (pf_ofClass N x M) := by
  obtain ⟨x, h1, h2, rfl⟩ := zI_of x
  have h8 := h.1.2.1
  simp only [pX9_ofClass, pX2_putClass, pf_ofClass, pf_ofClass_25, pf_isClass, sv_i]
  rw [R.1.2.1, show (zI (hC (wH W) : Nat) - 1 : Int32) = zI ((hC (wH W) : Nat) - 1) by rw [zL_1, zI_sub]]
  have ea : pf_in N (zI x) 0 (zI ((hC (wH W) : Nat) - 1)) = some (zB (decide (0 ≤ x) && decide (x ≤ (hC (wH W) : Nat) - 1))) := r_in (a := 0) h1 h2 (by omega) (by omega) (by omega) (by omega)
  rw [ea, bs_i, zr_B, bd_i, il_B, g_class K.1 h.1 h1 h2]
  by_cases q : 0 ≤ x ∧ x < (hC (wH W) : Int)
  · obtain ⟨a, rfl⟩ : ∃ a : Nat, x = a := ⟨x.toNat, by omega⟩
    have hi : hIs (wH W) (a : Int) = true := by unfold hIs; rw [decide_eq_true q.1, decide_eq_true q.2]; rfl
    rw [if_pos hi, bx_l, if_pos (in_yes (by omega)), g_roomF K h, r_isCrowded R h, bd_i, il_B]
    by_cases q2 : (wK W).length < 8 ∧ (wP W).length < 15
    · rw [if_pos q2, bx_l, decide_eq_true q2.1, decide_eq_true q2.2, if_neg (by decide)]
      have t0 : (mI M 0 0).1 0 = 0 := thr_k
      rw [t0, if_pos (show (0 : Int32) ≤ 0 by decide)]
      obtain ⟨u, S', M', W', e1, e2, e3, e4, e5, e6⟩ := f_fin (N := N) (M := mI M 0 0) (p := (3, (a : Int), 0)) (F := wK W) h K (mRel_0 (v := (0 : Int32)) R) q2.2 q2.1 ⟨[], (List.append_nil _).symm⟩ ⟨by show 3 ≤ 6; omega, fun e => absurd e (by show ¬ 3 ≤ 2; omega), fun _ => ⟨by show (0 : Int) ≤ (a : Int); omega, q.2⟩, fun e => absurd e (by show ¬ 4 ≤ 3; omega)⟩ ⟨fun _ => rfl, fun e => absurd e (by show ¬ 3 = 6; omega), fun e => absurd e (by show ¬ (3 = 4 ∨ 3 = 5); omega)⟩ (A := pX2_put N 1 (zI (a : Nat)) (zI (a : Nat)) 1 S) (B := pf_puts N 3 (zI (a : Nat)) 0 (mI M 0 0)) (by
        rw [show (((wK W).length + 1 : Nat) : Int) - (((wK W).length : Nat) : Int) = 1 by omega, show pcK (3, (a : Int), 0) = 1 from rfl, show pcL (wH W) (3, (a : Int), 0) = (a : Int) from rfl, show pcH (wH W) (3, (a : Int), 0) = (a : Int) from rfl]
        rfl) rfl (fun _ _ => rfl) rfl (mRel_0 (v := (0 : Int32)) R).2.2.1.2.1 thr_k
      rw [e1, e2, bk_i, bk_i, bd_i]
      exact opOk_v rfl rfl e3 e4 e5 e6
    · have hb : (!(decide ((wK W).length < 8) && decide ((wP W).length < 15))) = true := by
        rw [← Bool.decide_and, decide_eq_false q2]; rfl
      rw [if_neg q2, bx_r, hb, if_pos rfl, thr_k, if_neg (by decide)]
      exact opOk_x rfl rfl (Or.inr (Or.inl ⟨rfl, thr_k⟩)) h K (mRel_0 R)
  · have hi : ¬ hIs (wH W) x = true := by unfold hIs; rw [Bool.and_eq_true, decide_eq_true_eq, decide_eq_true_eq]; exact q
    rw [if_neg hi, bx_r, if_neg (in_no (by omega)), thr_k, if_neg (by decide)]
    exact opOk_x rfl rfl (Or.inl ⟨rfl, thr_k⟩) h K (mRel_0 R)
end O6
