-- LEVEL 2, THE LAW: WHAT AN ENTRY SHOWS
section LQ8
variable {N m : Nat} {S : kS} {L : lS} {W : sW} {z : Int32}
def lGoS (o : Option (Int32 × kS × lS)) (L : lS) (W : sW) : Prop := ∃ S', o = some (zB true, S', L) ∧ kRel S' W
theorem lq_entry_145 (hN : 20000 ≤ N) (h : lOk W) (hm : m < 4) (Q : lTr L (wTr W m)) {e a : Nat} (hl : tLv (wTr W m) (e : Nat) = true) (he : e < 12) (ha : a < 3) (hnd : (tVs (wTr W m)).Nodup) {x3 : Int32} (K : Int32 → Int32 → Int32 → Int32 → Int32 → Int32 → kS → lS → Nat → Nat → Option (Int32 × kS × lS)) : ∀ (n k v : Nat) (S : kS) (C D : Nat), v + k = 60 → k < n → kRel S W → C + 4 * k ≤ 800 → D + 24 * k ≤ 5000 → ∃ S' C' D', pL_entry_145 N K n (zI (m : Nat)) (zI (e : Nat)) x3 (1 : Int32) (zI (a : Nat)) (zI (cLs (wTr W m) e a v : Nat)) (zI (v : Nat)) S L C D = K (zI (m : Nat)) (zI (e : Nat)) x3 (1 : Int32) (zI (a : Nat)) (zI (cLs (wTr W m) e a 60 : Nat)) S' L C' D' ∧ kRel S' W ∧ C' ≤ C + 4 * k ∧ D' ≤ D + 24 * k
  | 0, k, v, S, C, D, _, hn, _, _, _ => by omega
  | n + 1, k, v, S, C, D, hk, hn, hK, hC, hD => by
    simp only [pL_entry_145, pL_entry_176, pL_entry_208, pL_entry_222, nm_i]
    rw [zL_60, il_le (by omega) (by omega) (by omega) (by omega)]
    cases k with
    | zero =>
      rw [if_pos (by omega), show v = 60 by omega]
      exact ⟨S, C, D, rfl, hK, by omega, by omega⟩
    | succ k =>
      have hA3 := h.2.1.1
      have hcl : cLs (wTr W m) e a v ≤ 900 := Nat.le_trans List.countP_le_length (wTr_len h.1 (m := m))
      rw [if_neg (by omega), z3_a, gd_c (by omega) (by omega), zI_cn (by omega), il_bit (by omega), Q.2 e a v he ha (by omega)]
      simp only [if_neg (show ¬ (1 : Int32) = 0 by decide)]
      have es := cLs_suc hnd (e := e) (a := a) (n := v)
      by_cases g : (e, a, v) ∈ tVs (wTr W m)
      · rw [decide_eq_true g, if_pos rfl]
        rw [decide_eq_true g, if_pos rfl] at es
        obtain ⟨r, ⟨S1, p1, p2, p3⟩, p4⟩ := k_valueAt (N := N) hN h.1 hK hm hl (a := a) (i := cLs (wTr W m) e a v) (by omega) (by omega)
        have er : r = (v : Int) := tVal_one p4 (Or.inr ⟨v, rfl, g, rfl⟩)
        rw [p1, lbx_i (by omega), er, if_pos rfl, zs1 v, zs1 (cLs (wTr W m) e a v), ← es]
        obtain ⟨S', C', D', q1, q2, q3, q4⟩ := lq_entry_145 hN h hm Q hl he ha hnd (x3 := x3) K n k (v + 1) S1 (C + 4) (D + 24) (by omega) (by omega) p3 (by omega) (by omega)
        exact ⟨S', C', D', q1, q2, by omega, by omega⟩
      · rw [decide_eq_false g, if_neg (by decide)]
        rw [decide_eq_false g, if_neg (by decide), Nat.add_zero] at es
        obtain ⟨S', C', D', q1, q2, q3, q4⟩ := lq_entry_145 hN h hm Q hl he ha hnd (x3 := x3) K n k (v + 1) S C D (by omega) (by omega) hK (by omega) (by omega)
        have e0 : zI (cLs (wTr W m) e a v : Nat) + (0 : Int32) = zI (cLs (wTr W m) e a (v + 1) : Nat) := by
          rw [zL_0, zI_add, Int.add_zero]
          exact congrArg (fun q : Nat => zI (q : Int)) (by omega)
        simp only [if_true, i0e0]
        rw [zs1 v, e0]
        exact ⟨S', C', D', q1, q2, by omega, by omega⟩
set_option maxRecDepth 4096 in
theorem lq_entry_125 (hN : 20000 ≤ N) (h : lOk W) (R : lRel L W) (hm : m < 4) (Q : lTr L (wTr W m)) {e : Nat} (hl : tLv (wTr W m) (e : Nat) = true) (he : e < 12) (hnd : (tVs (wTr W m)).Nodup) {x3 : Int32} (K : Int32 → Int32 → Int32 → Int32 → kS → lS → Nat → Nat → Option (Int32 × kS × lS)) : ∀ (n k c : Nat) (S : kS) (C D : Nat), c + k = 3 → k < n → kRel S W → C + 247 * k ≤ 790 → D + 1482 * k ≤ 4900 → ∃ S' C' D', pL_entry_125 N K n (zI (m : Nat)) (zI (e : Nat)) x3 (1 : Int32) (zI (c : Nat)) S L C D = K (zI (m : Nat)) (zI (e : Nat)) x3 (1 : Int32) S' L C' D' ∧ kRel S' W ∧ C' ≤ C + 247 * k ∧ D' ≤ D + 1482 * k
  | 0, k, c, S, C, D, _, hn, _, _, _ => by omega
  | n + 1, k, c, S, C, D, hk, hn, hK, hC, hD => by
    have hA3 := h.2.1.1
    simp only [pL_entry_125]
    rw [gq2, aq2 R, il_le (by omega) (by omega) (by omega) (by omega)]
    cases k with
    | zero =>
      rw [if_pos (by omega)]
      exact ⟨S, C, D, rfl, hK, by omega, by omega⟩
    | succ k =>
      have hc0 : cLs (wTr W m) e c 0 = 0 := by
        rw [cLs_ct hnd]; rfl
      obtain ⟨S1, C1, D1, p1, p2, p3, p4⟩ := lq_entry_145 (N := N) hN h hm Q hl he (show c < 3 by omega) hnd (x3 := x3) (pL_entry_231 N (pL_entry_125 N K n)) N 60 0 S C D (Nat.zero_add 60) (by omega) hK (by omega) (by omega)
      rw [hc0] at p1
      have p1 : pL_entry_145 N (pL_entry_231 N (pL_entry_125 N K n)) N (zI (m : Nat)) (zI (e : Nat)) x3 (1 : Int32) (zI (c : Nat)) (0 : Int32) (0 : Int32) S L C D = _ := p1
      have ecn : cLs (wTr W m) e c 60 = tCnt (wTr W m) e c := by rw [cLs_ct hnd, tCnt_ct hnd (lTo_w h hm)]
      have hcl : tCnt (wTr W m) e c ≤ 900 := Nat.le_trans tCnt_le (wTr_len h.1 (m := m))
      rw [if_neg (by omega), if_neg (show ¬ (1 : Int32) = 0 by decide), p1, ecn]
      simp only [pL_entry_231, pL_entry_268, nm_i]
      obtain ⟨S2, q1, q2, q3⟩ := k_valuesAnew (N := N) hN h.1 p2 hm hl (a := c) (by omega)
      obtain ⟨r, ⟨S3, r1, r2, r3⟩, r4⟩ := k_valueAt (N := N) hN h.1 q3 hm hl (a := c) (i := tCnt (wTr W m) e c) (by omega) (by omega)
      have er : r = -1 := tVal_one r4 (Or.inl ⟨Nat.le_refl _, rfl⟩)
      rw [if_neg (show ¬ (1 : Int32) = 0 by decide), q1, lbx_i (by omega), if_pos rfl, r1, lbx_i (by omega), er, if_pos (show zI (-1) = (-1 : Int32) from rfl), zs1]
      obtain ⟨S', C', D', t1, t2, t3, t4⟩ := lq_entry_125 hN h R hm Q hl he hnd (x3 := x3) K n k (c + 1) S3 (C1 + 3 + 4) (D1 + 18 + 24) (by omega) (by omega) r3 (by omega) (by omega)
      exact ⟨S', C', D', t1, t2, by omega, by omega⟩
theorem lq_entry (hN : 20000 ≤ N) (h : lOk W) (K : kRel S W) (R : lRel L W) (hm : m < 4) (Q : lTr L (wTr W m)) {e : Nat} (he : e < wE W) : lGoS (pL_entry N (zI (m : Nat)) (zI (e : Nat)) z S L) L W := by
  have hE := h.2.2.1
  simp only [pL_entry]
  rw [g36 (by omega), cn36 (by omega)]
  by_cases gl : tLv (wTr W m) (e : Nat) = true
  · have te := tLv_th (show e < 48 by omega) gl
    have hnd := tVs_nd h.1 K hm
    obtain ⟨u, hu, l1⟩ := q_low (N := N) (L := L) (x := z) (n := 4) (by omega) (by omega)
    have l1 : pL_low N z (4 : Int32) L = _ := l1
    obtain ⟨r, hr, l2⟩ := q_low (N := N) (L := L) (x := z >>> ((2 : Int32) &&& 31)) (n := 2) (by omega) (by omega)
    have l2 : pL_low N (z >>> ((2 : Int32) &&& 31)) (2 : Int32) L = _ := l2
    obtain ⟨S1, a1, a2, a3⟩ := k_parentOf (N := N) h.1 K hm gl
    obtain ⟨S2, b1, b2, b3⟩ := k_parentAnew (N := N) hN h.1 a3 hm gl
    obtain ⟨S3, c1, c2, c3⟩ := k_nameOf (N := N) hN h.1 b3 hm gl
    obtain ⟨S4, d1, d2, d3⟩ := k_linkOf (N := N) h.1 c3 hm gl
    obtain ⟨S5, C5, D5, e1, e2, e3, e4⟩ := lq_entry_125 (N := N) hN h R hm Q gl (by omega) hnd (x3 := z) (pL_entry_276 N) N 3 0 S4 8 48 (by omega) (by omega) d3 (by omega) (by omega)
    have e1 : pL_entry_125 N (pL_entry_276 N) N (zI (m : Nat)) (zI (e : Nat)) z (1 : Int32) (0 : Int32) S4 L 8 48 = _ := e1
    obtain ⟨S6, f1, f2, f3⟩ := k_may (N := N) hN h.1 e2 (u := u) (r := r) hm (by omega) hr gl
    rw [if_pos ((lv_9 Q (by omega)).mpr gl), lq_place (lTo_w h hm) Q (by omega) (Or.inr te), lba_i, a1, lbx_i (by omega), if_pos rfl, b1, lbx_i (by omega), if_pos rfl, c1, lbx_i (by omega), lq_shown (by omega) h R hm Q gl, lba_i, if_pos rfl, d1, lbx_i (by omega), lq_link (by omega) h R hm (by omega), lba_i, if_pos rfl]
    simp only [pL_entry_120]
    rw [e1]
    simp only [pL_entry_276]
    rw [l1, lba_i, l2, lba_i, if_neg (show ¬ (1 : Int32) = 0 by decide), f1, lbx_i (by omega), lq_may (by omega) h R hm Q (by omega) hr (by omega), lba_i, if_pos rfl, zlB_1 (by omega)]
    exact ⟨S6, rfl, f3⟩
  · rw [if_neg (fun q => gl ((lv_9 Q (by omega)).mp q))]
    obtain ⟨S1, a1, a2, a3⟩ := lc_9 (N := N) (L := L) (c := 0) (d := 0) (ans_1 (k_parentOf_no (N := N) h.1 K hm (by omega) gl))
    rw [a1, lbb_i (by omega), if_pos (show zI (-9) = (-9 : Int32) from rfl), zlB_1 (by omega)]
    exact ⟨S1, rfl, a3⟩
end LQ8
