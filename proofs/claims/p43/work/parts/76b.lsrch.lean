-- LEVEL 2, THE LAW: SEARCHES
section LSR
variable {N m : Nat} {S : kS} {L : lS} {W : sW} {z : Int32}
theorem fL_pre {W : sW} {m sc b i : Nat} : ∀ d, ∃ t, fL W m sc b (i + d) = fL W m sc b i ++ t
  | 0 => ⟨[], (List.append_nil _).symm⟩
  | d + 1 => by
    obtain ⟨t, ht⟩ := fL_pre (W := W) (m := m) (sc := sc) (b := b) (i := i) d
    rw [show i + (d + 1) = (i + d) + 1 from rfl, fL_s]
    split
    · exact ⟨t ++ [100 * m + (i + d)], by rw [ht, List.append_assoc]⟩
    · exact ⟨t, ht⟩
theorem fL_at {W : sW} {m sc b e n : Nat} (he : e < n) (hf : fnd W m sc b e = true) : ∃ h : (fL W m sc b e).length < (fL W m sc b n).length, (fL W m sc b n)[(fL W m sc b e).length] = 100 * m + e := by
  obtain ⟨t, ht⟩ := fL_pre (W := W) (m := m) (sc := sc) (b := b) (i := e + 1) (n - (e + 1))
  rw [show e + 1 + (n - (e + 1)) = n by omega, fL_s, if_pos hf] at ht
  have hl : (fL W m sc b e).length < (fL W m sc b n).length := by rw [ht]; simp
  refine ⟨hl, ?_⟩
  simp only [ht, List.append_assoc]
  simp
theorem pCome_neg {pa : Nat → Int} {x to : Int} (h : x < 0) : ∀ n, pCome pa n x to = false
  | 0 => rfl
  | n + 1 => if_pos h
theorem lq_srch_215 (h : lOk W) (hm : m < 4) (Q : lTr L (wTr W m)) {b : Nat} (hb : b < 12) {x1 x13 x14 x15 x16 x19 x20 x21 x22 x23 : Int32} {C D : Nat} (K : Int32 → Int32 → Int32 → Int32 → Int32 → Int32 → Int32 → Int32 → Int32 → Int32 → Int32 → Int32 → Int32 → kS → lS → Nat → Nat → Option (Int32 × kS × lS)) : ∀ (n k : Nat) (x : Int), k < n → climb (fun q => tPl (wTr W m) q) k x < 0 → -2 ≤ x → x < 12 → ∃ x' : Int, pL_searches_215 N K n x1 x13 x14 x15 x16 (zI (b : Nat)) (2 : Int32) x19 x20 x21 x22 x23 (zI x) S L C D = K x1 x13 x14 x15 x16 (zI (b : Nat)) (2 : Int32) x19 x20 x21 x22 x23 (zI x') S L C D ∧ (x' = (b : Int) ↔ pCome (fun q => tPl (wTr W m) q) k x b = true) ∧ -2 ≤ x' ∧ x' < 12
  | 0, k, x, hn, _, _, _ => by omega
  | n + 1, k, x, hn, hc, h1, h2 => by
    simp only [pL_searches_215, if_true]
    rw [zL_0, il_lt (by omega) (by omega) (by omega) (by omega)]
    by_cases g : x < 0
    · rw [if_pos g]
      exact ⟨x, rfl, ⟨fun q => by omega, fun q => by rw [pCome_neg g] at q; cases q⟩, h1, h2⟩
    · rw [if_neg g, il_eq (by omega) (by omega) (by omega) (by omega)]
      obtain ⟨e, rfl⟩ : ∃ e : Nat, x = e := ⟨x.toNat, by omega⟩
      cases k with
      | zero => exact absurd hc g
      | succ k =>
        have ep : pCome (fun q => tPl (wTr W m) q) (k + 1) (e : Nat) b = if (e : Int) = (b : Int) then true else pCome (fun q => tPl (wTr W m) q) k (tPl (wTr W m) e) b := by
          show (if (e : Int) < 0 then false else if (e : Int) = (b : Int) then true else pCome (fun q => tPl (wTr W m) q) k ((fun q : Nat => tPl (wTr W m) q) (e : Int).toNat) b) = _
          rw [if_neg g]
          rfl
        by_cases g2 : (e : Int) = (b : Int)
        · rw [if_pos g2]
          exact ⟨(e : Int), rfl, ⟨fun _ => by rw [ep, if_pos g2], fun _ => g2⟩, h1, h2⟩
        · obtain ⟨p, p1, p2, p3, p4⟩ := lq_place2 (N := N) (lTo_w h hm) Q (show e < 12 by omega)
          rw [climb_s (by omega), Int.toNat_natCast] at hc
          have hc : climb (fun q => tPl (wTr W m) q) k (tPl (wTr W m) e) < 0 := hc
          have hcp : climb (fun q => tPl (wTr W m) q) k p < 0 := by
            rcases p2 with q | ⟨q1, q2⟩
            · rw [q]; exact hc
            · rw [climb_neg _ q1]; exact q1
          have hpp : pCome (fun q => tPl (wTr W m) q) k p b = pCome (fun q => tPl (wTr W m) q) k (tPl (wTr W m) e) b := by
            rcases p2 with q | ⟨q1, q2⟩
            · rw [q]
            · rw [pCome_neg q1, pCome_neg q2]
          rw [if_neg g2, p1, lba_i, ep, if_neg g2, ← hpp]
          exact lq_srch_215 h hm Q hb K n k p (by omega) hcp p3 p4
def wFdS (W : sW) (m sc b : Nat) : sW := wFd W (fL W m sc b 48)
theorem lq_srch_198 (hN : 20000 ≤ N) (h : lOk W) (R : lRel L W) (hm : m < 4) (Q : lTr L (wTr W m)) (hnd : (tVs (wTr W m)).Nodup) {form a v kl b sc : Nat} (hf : form < 7) (ha : a < 3) (hv : v < 60) (hkl : kl < 3) (hb : b < wE W) (hsc : sc < 3) (hfit : ∀ T e, wFt W T e = lFit (wH W) T e form a v (kl : Nat)) {x20 x21 : Int32} (K : Int32 → Int32 → Int32 → Int32 → kS → lS → Nat → Nat → Option (Int32 × kS × lS)) : ∀ (n k e : Nat) (S : kS) (C D : Nat), e + k = wE W → k < n → wOk (wFdS W m sc b) → kRel S (wFdS W m sc b) → C = 34 + 11 * (fL W m sc b e).length → D = 942 + 435 * (fL W m sc b e).length → ∃ S', pL_searches_198 N K n (zI (m : Nat)) (zI (form : Nat)) (zI (a : Nat)) (zI (v : Nat)) (zI (kl : Nat)) (zI (b : Nat)) (zI (sc : Nat)) (zI ((fL W m sc b e).length : Nat)) x20 x21 (1 : Int32) (zI (e : Nat)) S L C D = K (zI ((fL W m sc b (wE W)).length : Nat)) x20 x21 (1 : Int32) S' L (34 + 11 * (fL W m sc b (wE W)).length) (942 + 435 * (fL W m sc b (wE W)).length) ∧ kRel S' (wFdS W m sc b)
  | 0, k, e, S, C, D, _, hn, _, _, _, _ => by omega
  | n + 1, k, e, S, C, D, hk, hn, w2, k2, hC, hD => by
    have hE := h.2.2.1
    have hT := lTo_w h hm
    have hW := (wTr_ok h.1 m).1
    simp only [pL_searches_198]
    rw [gq0, aq0 R, il_le (by omega) (by omega) (by omega) (by omega)]
    cases k with
    | zero =>
      rw [if_pos (by omega)]
      rw [show e = wE W by omega] at hC hD ⊢
      rw [hC, hD]
      exact ⟨S, rfl, k2⟩
    | succ k =>
      have he : e < 12 := by omega
      have hlen := fL_len (W := W) (m := m) (sc := sc) (b := b) e
      have no : fnd W m sc b e = false → ∃ S', pL_searches_407 N (pL_searches_198 N K n) (zI (m : Nat)) (zI (form : Nat)) (zI (a : Nat)) (zI (v : Nat)) (zI (kl : Nat)) (zI (b : Nat)) (zI (sc : Nat)) (zI ((fL W m sc b e).length : Nat)) x20 x21 (1 : Int32) (zI (e : Nat)) S L C D = K (zI ((fL W m sc b (wE W)).length : Nat)) x20 x21 (1 : Int32) S' L (34 + 11 * (fL W m sc b (wE W)).length) (942 + 435 * (fL W m sc b (wE W)).length) ∧ kRel S' (wFdS W m sc b) := fun g => by
        have es : fL W m sc b (e + 1) = fL W m sc b e := by rw [fL_s, if_neg (by rw [g]; decide)]
        simp only [pL_searches_407, nm_i]
        have ih := lq_srch_198 hN h R hm Q hnd hf ha hv hkl hb hsc hfit (x20 := x20) (x21 := x21) K n k (e + 1) S C D (by omega) (by omega) w2 k2 (by rw [es]; exact hC) (by rw [es]; exact hD)
        rw [es] at ih
        rw [zs1 e]
        exact ih
      have body : ∀ its : Bool, (tLv (wTr W m) (e : Nat) = true → its = scp (wTr W m) sc b e) → ∃ S', pL_searches_303 N (pL_searches_198 N K n) (zB its) (zI (m : Nat)) (zI (form : Nat)) (zI (a : Nat)) (zI (v : Nat)) (zI (kl : Nat)) (zI (b : Nat)) (zI (sc : Nat)) (zI ((fL W m sc b e).length : Nat)) x20 x21 (1 : Int32) (zI (e : Nat)) S L C D = K (zI ((fL W m sc b (wE W)).length : Nat)) x20 x21 (1 : Int32) S' L (34 + 11 * (fL W m sc b (wE W)).length) (942 + 435 * (fL W m sc b (wE W)).length) ∧ kRel S' (wFdS W m sc b) := fun its hits => by
        simp only [pL_searches_303]
        rw [g36 he, cn36 he]
        by_cases g : tLv (wTr W m) (e : Nat) = true
        · have hits := hits g
          rw [if_pos ((lv_9 Q he).mpr g), il_B]
          cases hi : its with
          | false =>
            rw [if_neg (by decide)]
            exact no (by unfold fnd; rw [← hits, hi]; simp)
          | true =>
            rw [if_pos rfl, lq_fits (by omega) R.2.2.2.1 h.2.1.2 h.1.1 hT hnd Q hf ha hv hkl he, lba_i, il_B, ← hfit]
            cases hw : wFt W (wTr W m) e with
            | false =>
              rw [if_neg (by decide)]
              exact no (by unfold fnd; rw [hw]; simp)
            | true =>
              rw [if_pos rfl, g4p hm, lq_mayR (by omega) h R hm Q hm he, il_B]
              cases hy : tMay (wH W) (wTr W m) (wU W m) (e : Nat) 0 with
              | false =>
                rw [if_neg (by decide)]
                exact no (by unfold fnd; rw [hy]; simp)
              | true =>
                have hf1 : fnd W m sc b e = true := by unfold fnd; rw [g, ← hits, hi, hw, hy]; rfl
                obtain ⟨hl, el⟩ := fL_at (n := 48) (show e < 48 by omega) hf1
                have hkf := k_found (N := N) w2 k2 (i := (fL W m sc b e).length) hl
                have hkf : kOk (pX9_found N (zI ((fL W m sc b e).length : Nat)) S) ((fL W m sc b 48)[(fL W m sc b e).length] : Nat) (wFdS W m sc b) := hkf
                rw [el] at hkf
                obtain ⟨S1, p1, p2, p3⟩ := lc_13 (N := N) (L := L) (b := 0) (c := 0) (d := 0) (ans_ok hkf)
                have es : fL W m sc b (e + 1) = fL W m sc b e ++ [100 * m + e] := by rw [fL_s, if_pos hf1]
                have el2 : (fL W m sc b (e + 1)).length = (fL W m sc b e).length + 1 := by rw [es, List.length_append, List.length_singleton]
                have e100 : ((100 : Int32) * zI (m : Nat)) + zI (e : Nat) = zI ((100 * m + e : Nat) : Int) := by rw [zL_100, zI_mul, zI_add]; rfl
                have ih := lq_srch_198 hN h R hm Q hnd hf ha hv hkl hb hsc hfit (x20 := x20) (x21 := x21) K n k (e + 1) S1 (C + 11) (D + 435) (by omega) (by omega) p2 p3 (by rw [el2, hC]; omega) (by rw [el2, hD]; omega)
                rw [el2] at ih
                rw [if_pos rfl, p1, lbb_i (by omega), e100, if_pos rfl]
                simp only [pL_searches_402, pL_searches_407, nm_i]
                rw [zs1 e, zs1 (fL W m sc b e).length]
                exact ih
        · rw [if_neg (fun q => g ((lv_9 Q he).mp q))]
          exact no (by unfold fnd; rw [Bool.eq_false_iff.mpr g]; rfl)
      rw [if_neg (by omega), if_neg (show ¬ (1 : Int32) = 0 by decide)]
      obtain ⟨n1, hn1⟩ : ∃ n1, N = n1 + 1 := ⟨N - 1, by omega⟩
      rcases (show sc = 0 ∨ sc = 1 ∨ sc = 2 by omega) with h0 | h0 | h0
      · have e215 : pL_searches_215 N (pL_searches_245 N (pL_searches_198 N K n)) N (zI (m : Nat)) (zI (form : Nat)) (zI (a : Nat)) (zI (v : Nat)) (zI (kl : Nat)) (zI (b : Nat)) (zI (sc : Nat)) (zI ((fL W m sc b e).length : Nat)) x20 x21 (1 : Int32) (zI (e : Nat)) (zI (e : Nat)) S L C D = pL_searches_245 N (pL_searches_198 N K n) (zI (m : Nat)) (zI (form : Nat)) (zI (a : Nat)) (zI (v : Nat)) (zI (kl : Nat)) (zI (b : Nat)) (zI (sc : Nat)) (zI ((fL W m sc b e).length : Nat)) x20 x21 (1 : Int32) (zI (e : Nat)) (zI (e : Nat)) S L C D := by
          have : ∀ (n1 : Nat), pL_searches_215 N (pL_searches_245 N (pL_searches_198 N K n)) (n1 + 1) (zI (m : Nat)) (zI (form : Nat)) (zI (a : Nat)) (zI (v : Nat)) (zI (kl : Nat)) (zI (b : Nat)) (zI (sc : Nat)) (zI ((fL W m sc b e).length : Nat)) x20 x21 (1 : Int32) (zI (e : Nat)) (zI (e : Nat)) S L C D = pL_searches_245 N (pL_searches_198 N K n) (zI (m : Nat)) (zI (form : Nat)) (zI (a : Nat)) (zI (v : Nat)) (zI (kl : Nat)) (zI (b : Nat)) (zI (sc : Nat)) (zI ((fL W m sc b e).length : Nat)) x20 x21 (1 : Int32) (zI (e : Nat)) (zI (e : Nat)) S L C D := fun n1 => by
            simp only [pL_searches_215]
            exact if_neg (show ¬ zI (sc : Nat) = (2 : Int32) from nk (by omega) (by omega) (j := 2) (by omega))
          have t := this n1
          rw [← hn1] at t
          exact t
        rw [e215]
        simp only [pL_searches_245]
        rw [if_pos (show zI (sc : Nat) = (0 : Int32) by rw [h0]; rfl), il_eq (by omega) (by omega) (by omega) (by omega)]
        have es : scp (wTr W m) sc b e = decide (e = b) := by unfold scp; rw [if_pos h0]
        by_cases g : e = b
        · rw [if_pos (by omega)]
          exact body true (fun _ => by rw [es, decide_eq_true g])
        · rw [if_neg (by omega)]
          exact body false (fun _ => by rw [es, decide_eq_false g])
      · have e215 : pL_searches_215 N (pL_searches_245 N (pL_searches_198 N K n)) N (zI (m : Nat)) (zI (form : Nat)) (zI (a : Nat)) (zI (v : Nat)) (zI (kl : Nat)) (zI (b : Nat)) (zI (sc : Nat)) (zI ((fL W m sc b e).length : Nat)) x20 x21 (1 : Int32) (zI (e : Nat)) (zI (e : Nat)) S L C D = pL_searches_245 N (pL_searches_198 N K n) (zI (m : Nat)) (zI (form : Nat)) (zI (a : Nat)) (zI (v : Nat)) (zI (kl : Nat)) (zI (b : Nat)) (zI (sc : Nat)) (zI ((fL W m sc b e).length : Nat)) x20 x21 (1 : Int32) (zI (e : Nat)) (zI (e : Nat)) S L C D := by
          have : ∀ (n1 : Nat), pL_searches_215 N (pL_searches_245 N (pL_searches_198 N K n)) (n1 + 1) (zI (m : Nat)) (zI (form : Nat)) (zI (a : Nat)) (zI (v : Nat)) (zI (kl : Nat)) (zI (b : Nat)) (zI (sc : Nat)) (zI ((fL W m sc b e).length : Nat)) x20 x21 (1 : Int32) (zI (e : Nat)) (zI (e : Nat)) S L C D = pL_searches_245 N (pL_searches_198 N K n) (zI (m : Nat)) (zI (form : Nat)) (zI (a : Nat)) (zI (v : Nat)) (zI (kl : Nat)) (zI (b : Nat)) (zI (sc : Nat)) (zI ((fL W m sc b e).length : Nat)) x20 x21 (1 : Int32) (zI (e : Nat)) (zI (e : Nat)) S L C D := fun n1 => by
            simp only [pL_searches_215]
            exact if_neg (show ¬ zI (sc : Nat) = (2 : Int32) from nk (by omega) (by omega) (j := 2) (by omega))
          have t := this n1
          rw [← hn1] at t
          exact t
        rw [e215]
        simp only [pL_searches_245]
        obtain ⟨p, p1, p2, p3, p4⟩ := lq_place2 (N := N) hT Q he
        rw [if_neg (show ¬ zI (sc : Nat) = (0 : Int32) from nk (by omega) (by omega) (j := 0) (by omega)), if_pos (show zI (sc : Nat) = (1 : Int32) by rw [h0]; rfl), p1, lba_i, il_eq (by omega) (by omega) (by omega) (by omega)]
        have es : scp (wTr W m) sc b e = decide (tPl (wTr W m) e = (b : Int)) := by unfold scp; rw [if_neg (by omega), if_pos h0]
        have ep : (p = (b : Int)) ↔ (tPl (wTr W m) e = (b : Int)) := by
          rcases p2 with q | ⟨q1, q2⟩
          · rw [q]
          · omega
        by_cases g : p = (b : Int)
        · rw [if_pos g]
          exact body true (fun _ => by rw [es, decide_eq_true (ep.mp g)])
        · rw [if_neg g]
          exact body false (fun _ => by rw [es, decide_eq_false (fun q => g (ep.mpr q))])
      · have hend := (tPl_end hW.1).at (show ((e : Nat) : Int) < 48 by omega)
        obtain ⟨x', q1, q2, q3, q4⟩ := lq_srch_215 (N := N) (S := S) (L := L) h hm Q (show b < 12 by omega) (x1 := zI (m : Nat)) (x13 := zI (form : Nat)) (x14 := zI (a : Nat)) (x15 := zI (v : Nat)) (x16 := zI (kl : Nat)) (x19 := zI ((fL W m sc b e).length : Nat)) (x20 := x20) (x21 := x21) (x22 := (1 : Int32)) (x23 := zI (e : Nat)) (C := C) (D := D) (pL_searches_245 N (pL_searches_198 N K n)) N 48 (e : Nat) (by omega) hend (by omega) (by omega)
        have z2 : zI (sc : Nat) = (2 : Int32) := by rw [h0]; rfl
        rw [z2] at body ⊢
        rw [q1]
        simp only [pL_searches_245]
        rw [if_neg (show ¬ (2 : Int32) = 0 by decide), if_neg (show ¬ (2 : Int32) = 1 by decide), il_eq (by omega) (by omega) (by omega) (by omega)]
        have es : scp (wTr W m) sc b e = pCome (fun q => tPl (wTr W m) q) 48 (e : Nat) (b : Nat) := by unfold scp; rw [if_neg (by omega), if_neg (by omega)]
        by_cases g : x' = (b : Int)
        · rw [if_pos g]
          exact body true (fun _ => by rw [es]; exact (q2.mp g).symm)
        · rw [if_neg g]
          exact body false (fun _ => by rw [es]; exact (Bool.eq_false_iff.mpr (fun q => g (q2.mpr q))).symm)
theorem lq_srch_81 (hN : 20000 ≤ N) (h : lOk W) (K : kRel S W) (R : lRel L W) (hm : m < 4) (Q : lTr L (wTr W m)) {form a v kl b : Nat} (hf : form < 7) (ha : a < 3) (hv : v < 60) (hkl : kl < 3) (hb : b < wE W) : lGo (pL_searches_81 N (zI (b : Nat)) (zI (m : Nat)) z (zI (form : Nat)) (zI (a : Nat)) (zI (v : Nat)) (zI (kl : Nat)) S L 0 0) := by
  have hE := h.2.2.1
  obtain ⟨sc, hsc, l1⟩ := q_low (N := N) (L := L) (x := z >>> ((13 : Int32) &&& 31)) (n := 3) (by omega) (by omega)
  have l1 : pL_low N (z >>> ((13 : Int32) &&& 31)) (3 : Int32) L = _ := l1
  obtain ⟨S1, d1, d2, d3⟩ := lq_draws (N := N) (L := L) h.1 K hf (show a < hA (wH W) by rw [h.2.1.1]; exact ha) (show v < 1000 by omega) (show kl < hC (wH W) by rw [h.2.1.2]; exact hkl)
  have hO1 : lOk (wFl W (dPl form a v kl) (dKl form)) := ⟨d2, h.2⟩
  have hR1 : lRel L (wFl W (dPl form a v kl) (dKl form)) := R
  have hQ1 : lTr L (wTr (wFl W (dPl form a v kl) (dKl form)) m) := Q
  have hfit : ∀ T e, wFt (wFl W (dPl form a v kl) (dKl form)) T e = lFit (wH (wFl W (dPl form a v kl) (dKl form))) T e form a v (kl : Nat) := fun T e => wFt_l hf
  have hK1 : (wK (wFl W (dPl form a v kl) (dKl form))).length = 1 := dKl_1
  have hb1 : b < wE (wFl W (dPl form a v kl) (dKl form)) := hb
  have hE1 : wE (wFl W (dPl form a v kl) (dKl form)) ≤ 12 := hE
  generalize wFl W (dPl form a v kl) (dKl form) = W1 at *
  simp only [pL_searches_81]
  rw [l1, lba_i, d1, lbb_i (by omega), if_neg (show ¬ zB true = 0 by decide), g36 (by omega), cn36 (by omega)]
  by_cases gl : tLv (wTr W1 m) (b : Nat) = true
  · obtain ⟨S2, p1, p2, p3⟩ := lc_12 (N := N) (L := L) (d := 0) (ans_ok (k_walk (N := N) hN d2 d3 hm (by omega) hsc hK1 gl))
    obtain ⟨S3, q1, q2, q3⟩ := lc_10 (N := N) (L := L) (d := 0) (ans_ok (k_search (N := N) hN d2 p3 hm (by omega) hsc hK1 gl))
    have hnd := tVs_nd d2 d3 hm
    obtain ⟨S4, r1, r2⟩ := lq_srch_198 (N := N) hN hO1 hR1 hm hQ1 hnd hf ha hv hkl hb1 hsc hfit (x20 := zI (fb_ct (fnd W1 m sc b) 48 : Nat)) (x21 := zI ((fL W1 m sc b 48).length : Nat)) (pL_searches_413 N) N (wE W1) 0 S3 34 942 (by omega) (by omega) q2 q3 rfl rfl
    have r1 : pL_searches_198 N (pL_searches_413 N) N (zI (m : Nat)) (zI (form : Nat)) (zI (a : Nat)) (zI (v : Nat)) (zI (kl : Nat)) (zI (b : Nat)) (zI (sc : Nat)) (0 : Int32) (zI (fb_ct (fnd W1 m sc b) 48 : Nat)) (zI ((fL W1 m sc b 48).length : Nat)) (1 : Int32) (0 : Int32) S3 L 34 942 = _ := r1
    have el : (fL W1 m sc b 48).length = (fL W1 m sc b (wE W1)).length := by
      rw [fL_ct, fL_ct]
      exact fb_ct_ext (by omega) (fun k h1 h2 => by
        have : tLv (wTr W1 m) (k : Nat) = false := by
          rw [Bool.eq_false_iff]
          intro q
          have := tLv_wE hO1 q
          omega
        unfold fnd
        rw [this]; rfl)
    have elw := fL_len (W := W1) (m := m) (sc := sc) (b := b) (wE W1)
    have kno := k_found_no (N := N) q2 r2 (i := (fL W1 m sc b 48).length) (Nat.le_refl _) (by omega)
    obtain ⟨S5, t1, t2, t3⟩ := lc_13 (N := N) (L := L) (b := 0) (c := 0) (d := 0) (ans_1 kno)
    rw [el] at t1
    rw [if_pos ((lv_9 hQ1 (by omega)).mpr gl), p1, lbb_i (by omega), q1, lbb_i (by omega), r1]
    simp only [pL_searches_413]
    rw [if_neg (show ¬ (1 : Int32) = 0 by decide), el, if_pos rfl, ← fL_ct, el, if_pos rfl, t1, lbb_i (by omega), if_pos (show zI (-9) = (-9 : Int32) from rfl), zlB_1 (by omega)]
    exact ⟨S5, L, wFdS W1 m sc b, rfl, ⟨q2, hO1.2⟩, t3, hR1⟩
  · have kn := k_noS (N := N) d2 d3 hm (by omega) hsc hK1 gl
    obtain ⟨S2, p1, p2, p3⟩ := lc_10 (N := N) (L := L) (d := 0) (ans_1 kn.1)
    have kn2 := k_noS (N := N) d2 p3 hm (by omega) hsc hK1 gl
    obtain ⟨S3, q1, q2, q3⟩ := lc_12 (N := N) (L := L) (d := 0) (ans_1 kn2.2.1)
    rw [if_neg (fun q => gl ((lv_9 hQ1 (by omega)).mp q)), p1, lbb_i (by omega), if_pos (show zI (-9) = (-9 : Int32) from rfl), q1, lbb_i (by omega), if_pos (show zI (-9) = (-9 : Int32) from rfl), zlB_1 (by omega)]
    exact ⟨S3, L, W1, rfl, hO1, q3, hR1⟩
theorem lq_searches (hN : 20000 ≤ N) (h : lOk W) (K : kRel S W) (R : lRel L W) (hm : m < 4) (Q : lTr L (wTr W m)) : lGo (pL_searches N (zI (m : Nat)) z S L) := by
  have hE1 := h.1.2.2.2.2.2.2.1.1
  have hE := h.2.2.1
  obtain ⟨form, hf, l1⟩ := q_low (N := N) (L := L) (x := z) (n := 7) (by omega) (by omega)
  have l1 : pL_low N z (7 : Int32) L = _ := l1
  obtain ⟨a, ha, l2⟩ := q_low (N := N) (L := L) (x := z >>> ((3 : Int32) &&& 31)) (n := 3) (by omega) (by omega)
  obtain ⟨d, hd, l3⟩ := q_low (N := N) (L := L) (x := z >>> ((10 : Int32) &&& 31)) (n := 2) (by omega) (by omega)
  have l3 : pL_low N (z >>> ((10 : Int32) &&& 31)) (2 : Int32) L = _ := l3
  obtain ⟨v1, hv1, l4⟩ := q_low (N := N) (L := L) (x := z >>> ((5 : Int32) &&& 31)) (n := 60) (by omega) (by omega)
  have l4 : pL_low N (z >>> ((5 : Int32) &&& 31)) (60 : Int32) L = _ := l4
  obtain ⟨v2, hv2, l5⟩ := q_low (N := N) (L := L) (x := z >>> ((5 : Int32) &&& 31)) (n := 5) (by omega) (by omega)
  have l5 : pL_low N (z >>> ((5 : Int32) &&& 31)) (5 : Int32) L = _ := l5
  obtain ⟨kl, hkl, l6⟩ := q_low (N := N) (L := L) (x := z >>> ((7 : Int32) &&& 31)) (n := 3) (by omega) (by omega)
  obtain ⟨c, hc, l7⟩ := q_low (N := N) (L := L) (x := z >>> ((9 : Int32) &&& 31)) (n := 3) (by omega) (by omega)
  have l7 : pL_low N (z >>> ((9 : Int32) &&& 31)) (3 : Int32) L = _ := l7
  obtain ⟨b, hb, l8⟩ := q_low (N := N) (L := L) (x := z >>> ((11 : Int32) &&& 31)) (n := wE W) (by omega) (by omega)
  have go : ∀ v : Nat, v < 60 → ∀ n : Int32, pL_low N (z >>> ((5 : Int32) &&& 31)) n L = some (zI (v : Nat), L) → lGo (pL_searches_39 N n (z >>> ((5 : Int32) &&& 31)) (zI (m : Nat)) z (zI (form : Nat)) (zI (a : Nat)) S L 0 0) := fun v hv n ln => by
    simp only [pL_searches_39]
    rw [ln, lba_i, gq3, aq3 R, l6, lba_i, l7, lba_i, zL_0, il_le (by omega) (by omega) (by omega) (by omega), ← zL_0]
    by_cases g : c = 0
    · rw [if_pos (by omega), gq0, aq0 R, l8, lba_i]
      exact lq_srch_81 hN h K R hm Q hf ha hv hkl hb
    · rw [if_neg (by omega)]
      exact lq_srch_81 hN h K R hm Q hf ha hv hkl (b := 0) (by omega)
  simp only [pL_searches]
  rw [l1, lba_i, gq2, aq2 R, l2, lba_i, l3, lba_i]
  by_cases g : d = 0
  · rw [if_pos (by rw [g]; rfl)]
    exact go v1 hv1 _ l4
  · rw [if_neg (show ¬ zI (d : Nat) = (0 : Int32) from nk g (by omega) (j := 0) (by omega))]
    exact go v2 (by omega) _ l5
end LSR
