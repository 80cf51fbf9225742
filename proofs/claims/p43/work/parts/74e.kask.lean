-- LEVEL 2, THE CLASS'S CALLS ALONE: LIVE, MARKS, CONFLICTS, CHILD AT, SWEEP
section KE2
variable {N : Nat} {S : kS} {W : sW} {m e : Nat}
theorem k_live (h : wOk W) (K : kRel S W) (hm : m < 4) : kOk (pX9_live N (zI (m : Nat)) S) (fb_ct (fun e => tLv (wTr W m) (e : Nat)) 48 : Nat) W := by
  have Q := kRel_t h K hm
  have ec : fb_ct (lb (kL S (8 + 2 * m) &&& (kL S (9 + 2 * m) ^^^ (-1 : Int64)))) 64 = fb_ct (fun e => tLv (wTr W m) (e : Nat)) 48 := by
    rw [fb_ct_cong (q := fun e => tLv (wTr W m) (e : Nat)) (fun k hk => lv_bit Q hk)]
    exact fb_ct_ext (by omega) (fun k h1 h2 => tLv_out (Or.inr (by omega)))
  simp only [pX9_live]
  rw [g_master hm, bx_l, gn_l hm, q_living, bk_i, q_bitCount, bk_i, ec]
  exact ⟨S, rfl, h, K⟩
theorem k_marks (h : wOk W) (K : kRel S W) (hm : m < 4) : kOk (pX9_marks N (zI (m : Nat)) S) (fb_ct (mkd W m) (wE W) : Nat) W := by
  obtain ⟨w, e1, e2⟩ := q_marks (N := N) h K hm
  simp only [pX9_marks]
  rw [g_master hm, bx_l, gn_l hm, e1, bk_i, q_bitCount, bk_i, ct_marks h e2]
  exact ⟨S, rfl, h, K⟩
theorem k_conflicts (hN : 20000 ≤ N) (h : wOk W) (K : kRel S W) (hm : m < 4) {s : Nat} (hs : s < 3) : kOk (pX9_conflicts N (zI (m : Nat)) (zI (s : Nat)) S) (cfN (wH W) (wTr W m) s 1 47 : Nat) W := by
  have ec := q_conflicts_35 (N := N) (by omega) (kRel_t h K hm) K.1 h.1 (sort := s) (by omega) N 47 1 0 (by omega) (by omega) (by omega)
  rw [Nat.zero_add] at ec
  simp only [pX9_conflicts, pX9_conflicts_18]
  rw [g_master hm, bx_l, gn_l hm, zL_0, il_lt (by omega) (by omega) (by omega) (by omega), zL_3, il_lt (by omega) (by omega) (by omega) (by omega), if_neg (by omega), if_pos (by omega)]
  have ec : pX9_conflicts_35 N N (zI (s : Nat)) m (zI 0) 1 S = _ := ec
  rw [ec]
  exact ⟨S, rfl, h, K⟩
theorem k_childAt_19 (hN : 20000 ≤ N) (h : wOk W) (K : kRel S W) (hm : m < 4) {y : Int} (h1 : -2 ≤ y) (h2 : y < 48) {i : Nat} (hi : i < 1000) : ∃ l, chL (wTr W m) y l ∧ kOk (pX9_childAt_19 N (zI y) (zI (i : Nat)) m S) (chE l i) W := by
  have Q := kRel_t h K hm
  obtain ⟨S', l, a1, a2, a3, a4⟩ := q_rankedAt (N := N) Q (by omega) (place := y) (by omega) (by omega)
  have C : chL (wTr W m) y l := ⟨a2.2.2.1, Nat.le_trans a2.2.2.2.2 (by decide), a3⟩
  have hlen := C.2.1
  have K2 := kRel_2 hm K a4
  refine ⟨l, C, ?_⟩
  simp only [pX9_childAt_19]
  rw [g_index (by omega) (by omega), if_pos (by omega), bx_l, a1, bk_i, a2.1, il_le (by omega) (by omega) (by omega) (by omega)]
  by_cases q2 : i < l.length
  · have hx := a2.2.2.2.1 _ (List.getElem_mem q2)
    rw [if_neg (by omega), q_at a2 q2, bk_i, zL_48, zI_div (by omega) (by omega) (by omega) (by omega), zI_mul, zI_sub]
    have : (l[i] : Int) - (l[i] : Int) / 48 * 48 = chE l i := by
      unfold chE
      rw [dif_pos q2]
      omega
    rw [this]
    exact ⟨S', rfl, h, K2⟩
  · rw [if_pos (by omega)]
    have : chE l i = -1 := by
      unfold chE
      rw [dif_neg q2]
    rw [this]
    exact ⟨S', rfl, h, K2⟩
theorem k_childAt (hN : 20000 ≤ N) (h : wOk W) (K : kRel S W) (hm : m < 4) {y : Int} (hy : y = -2 ∨ tLv (wTr W m) y = true) {i : Nat} (hi : i < 1000) : ∃ l, chL (wTr W m) y l ∧ kOk (pX9_childAt N (zI (m : Nat)) (zI y) (zI (i : Nat)) S) (chE l i) W := by
  have Q := kRel_t h K hm
  simp only [pX9_childAt]
  rw [g_master hm, bx_l, gn_l hm]
  by_cases q2 : y = -2
  · subst q2
    rw [if_pos (show zI (-2) = (-2 : Int32) from rfl)]
    exact k_childAt_19 hN h K hm (by omega) (by omega) hi
  · have g : tLv (wTr W m) y = true := by
      rcases hy with g | g
      · exact absurd g q2
      · exact g
    have hy := tLv_lt g
    rw [zL_m2, il_eq (by omega) (by omega) (by omega) (by omega), if_neg q2, g_entry Q (by omega) (by omega), if_pos g, bx_l]
    exact k_childAt_19 hN h K hm (by omega) (by omega) hi
theorem k_sweep (hN : 20000 ≤ N) (h : wOk W) (K : kRel S W) (hm : m < 4) : kOk (pX9_sweep N (zI (m : Nat)) S) (fb_ct (swp W m) (wE W) : Nat) (wSw W m) := by
  have hE := h.2.2.2.2.2.2.1
  obtain ⟨w, e1, e2⟩ := q_marks (N := N) h K hm
  obtain ⟨d0, a0, b0⟩ := q_deletionsKnownBy (N := N) (by omega) h K hm (i := 0) (by omega)
  obtain ⟨d1, a1, b1⟩ := q_deletionsKnownBy (N := N) (by omega) h K hm (i := 1) (by omega)
  obtain ⟨d2, a2, b2⟩ := q_deletionsKnownBy (N := N) (by omega) h K hm (i := 2) (by omega)
  obtain ⟨d3, a3, b3⟩ := q_deletionsKnownBy (N := N) (by omega) h K hm (i := 3) (by omega)
  obtain ⟨N', rfl⟩ : ∃ N', N = N' + 5 := ⟨N - 5, by omega⟩
  have a0 : pX9_deletionsKnownBy (N' + 5) m 0 S = some (d0, S) := a0
  have a1 : pX9_deletionsKnownBy (N' + 5) m (0 + 1) S = some (d1, S) := a1
  have a2 : pX9_deletionsKnownBy (N' + 5) m (0 + 1 + 1) S = some (d2, S) := a2
  have a3 : pX9_deletionsKnownBy (N' + 5) m (0 + 1 + 1 + 1) S = some (d3, S) := a3
  have loop : ∀ w, pX9_sweep_14 (N' + 5) (pX9_sweep_36 (N' + 5)) (N' + 5) m w 0 S = pX9_sweep_36 (N' + 5) m ((((w &&& d0) &&& d1) &&& d2) &&& d3) S := fun w => by
    simp only [pX9_sweep_14, nm_i, nml_i]
    rw [if_neg (by decide), a0, bk_i, if_neg (by decide), a1, bk_i, if_neg (by decide), a2, bk_i, if_neg (by decide), a3, bk_i, if_pos (by decide)]
  have hb : ∀ e, e < 64 → lb ((((w &&& d0) &&& d1) &&& d2) &&& d3) e = (decide (e < 48) && swp W m e) := fun e he => by
    rw [lb_and, lb_and, lb_and, lb_and, e2 e he, b0 e he, b1 e he, b2 e he, b3 e he]
    unfold swp
    rw [Bool.and_assoc, Bool.and_assoc, Bool.and_assoc, Bool.and_assoc]
  have ct : fb_ct (lb ((((w &&& d0) &&& d1) &&& d2) &&& d3)) 64 = fb_ct (swp W m) (wE W) := by
    rw [fb_ct_cong (q := fun e => decide (e < 48) && swp W m e) (fun k hk => hb k hk), fb_ct_ext (a := wE W) (by omega) (fun k h1 h2 => by show (_ && _) = _; rw [swp_lt h h1, Bool.and_false])]
    exact fb_ct_cong (fun k hk => by show (_ && _) = _; rw [decide_eq_true (show k < 48 by omega), Bool.true_and])
  simp only [pX9_sweep]
  rw [g_master hm, bx_l, gn_l hm, e1, bk_i, loop]
  simp only [pX9_sweep_36, svk_i]
  rw [q_bitCount, bk_i, ct]
  refine ⟨_, rfl, ?_, ?_⟩
  · obtain ⟨o1, o2, o3, o4, o5, o6, o7, o8⟩ := h
    exact ⟨o1, o2, o3, o4, o5, o6, o7, o8⟩
  · obtain ⟨k1, k2, k3, k4, ⟨k5, k5b⟩, k6, k7, k8, k9, k10, k11, k12, k13⟩ := K
    refine ⟨fr_hR k1 (fun q hq => rfl) (fun c _ => rfl), k2, k3, k4, ⟨lgR_fr rfl rfl k5, k5b⟩, fun j hj => tdR_fr rfl rfl (k6 j hj), k7, k8, fun a e ha he => ?_, k10, fun j hj => ?_, k12, k13⟩
    · show lb (vp_updL (kL S) m _ a) e = (decide (e < 48) && (wX W a e || (decide (a = m) && swp W m e)))
      by_cases g : a = m
      · subst g
        rw [updL_s, lb_or, k9 a e ha he, hb e he, decide_eq_true rfl, Bool.true_and]
        cases decide (e < 48) <;> rfl
      · rw [updL_o _ _ g, k9 a e ha he, decide_eq_false g, Bool.false_and, Bool.or_false]
    · have kj : tR S j (wTr W j) := k11 j hj
      show tR _ j (wTr W j)
      exact tR_other (S := S) (fun _ _ _ => rfl) (fun _ _ _ => rfl) (fun _ _ _ => rfl) (updL_o (kL S) _ (show 8 + 2 * j ≠ m by omega)) (updL_o (kL S) _ (show 9 + 2 * j ≠ m by omega)) kj
end KE2
