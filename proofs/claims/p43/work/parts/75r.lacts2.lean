-- LEVEL 2, THE LAW: LINKS, DELETIONS
section LQ2
variable {N m : Nat} {S : kS} {L : lS} {W : sW} {z : Int32}
theorem lq_links_57 (hN : 20000 ≤ N) (h : lOk W) (K : kRel S W) (R : lRel L W) (hm : m < 4) (Q : lTr L (wTr W m)) (hn : wN W < 40) {e : Nat} (he : e < wE W) {y : Int} (hy : y = -1 ∨ (0 ≤ y ∧ y < (wE W : Int)) ∨ (100 ≤ y ∧ y < 104)) : lGo (pL_links_57 N (zI y) (zI (m : Nat)) (zI (e : Nat)) S L 0 0) := by
  have hE := h.2.2.1
  simp only [pL_links_57, pL_links_103, pL_links_176, pL_links_197, pL_links_230]
  simp only [if_true, i0e0, i1n0, if_false, show ((-9 : Int32) = -9) = True from eq_self _, show ((-7 : Int32) = -9) = False from eq_false (by decide), show ((-7 : Int32) = -7) = True from eq_self _]
  rw [zL_0, il_le (by omega) (by omega) (by omega) (by omega), ← zL_0]
  by_cases g0 : e = 0
  · rw [if_pos (by omega)]
    exact lGo_tail (lc_5 (ans_1 (k_noR (N := N) h.1 K hm (by omega) (fun q => by omega) _).2.2.2)) rfl h R
  · rw [if_neg (by omega), g36 (by omega), cn36 (by omega)]
    by_cases gl : tLv (wTr W m) (e : Nat) = true
    · have te := tLv_th (show e < 48 by omega) gl
      have hW := (wTr_ok h.1 m).1
      have hlk := hW.2.2.2.2.1 e (by omega)
      have kr := k_link (N := N) hN h.1 K hm (by omega) gl (z := y) ⟨by omega, by omega⟩ (by omega)
      rw [if_pos ((lv_9 Q (by omega)).mpr gl)]
      have go : lkT (wTr W m) y = true → lGo (if zI y = zI (e : Nat) then lbb 11 435 11 435 0 0 (pL_calls N (5 : Int32) (zI (m : Nat)) (zI (e : Nat)) (zI y) (0 : Int32) S L) (fun v101 S102 L103 C104 D105 => if v101 = (-7 : Int32) then zlB 11 435 C104 D105 (1 : Int32) S102 L103 else zlB 11 435 C104 D105 (0 : Int32) S102 L103) else gd ((4 : Int32) + zI (m : Nat)) 20 (lba (pL_may N (zI (m : Nat)) (aI L 0 ((4 : Int32) + zI (m : Nat)).toNatClampNeg) (zI (e : Nat)) (1 : Int32) L) fun v101 L102 => if v101 = (0 : Int32) then lbb 11 435 11 435 0 0 (pL_calls N (5 : Int32) (zI (m : Nat)) (zI (e : Nat)) (zI y) (0 : Int32) S L102) (fun v101 S102 L103 C104 D105 => if v101 = (-7 : Int32) then zlB 11 435 C104 D105 (1 : Int32) S102 L103 else zlB 11 435 C104 D105 (0 : Int32) S102 L103) else lba (pL_link N (zI (m : Nat)) (zI (e : Nat)) L102) fun v103 L104 => if v103 = (-9 : Int32) then lbb 11 435 11 435 0 0 (pL_calls N (5 : Int32) (zI (m : Nat)) (zI (e : Nat)) (zI y) (0 : Int32) S L104) (fun v101 S102 L103 C104 D105 => if v101 = v103 then zlB 11 435 C104 D105 (1 : Int32) S102 L103 else zlB 11 435 C104 D105 (0 : Int32) S102 L103) else if v103 = (-7 : Int32) then lbb 11 435 11 435 0 0 (pL_calls N (5 : Int32) (zI (m : Nat)) (zI (e : Nat)) (zI y) (0 : Int32) S L104) (fun v101 S102 L103 C104 D105 => if v101 = v103 then zlB 11 435 C104 D105 (1 : Int32) S102 L103 else zlB 11 435 C104 D105 (0 : Int32) S102 L103) else lba (pL_makes N (zI (m : Nat)) (5 : Int32) (zI (e : Nat)) (zI y) (0 : Int32) (0 : Int64) L104) fun v105 L106 => lbb 11 435 11 435 0 0 (pL_calls N (5 : Int32) (zI (m : Nat)) (zI (e : Nat)) (zI y) (0 : Int32) S L106) (fun v101 S102 L103 C104 D105 => if v101 = v103 then zlB 11 435 C104 D105 (1 : Int32) S102 L103 else zlB 11 435 C104 D105 (0 : Int32) S102 L103))) := fun gt => by
        rw [if_pos gt] at kr
        unfold cLk at kr
        rw [il_eq (by omega) (by omega) (by omega) (by omega)]
        by_cases g1 : y = (e : Int)
        · rw [decide_eq_true g1, Bool.not_true, Bool.and_false, if_neg (by decide)] at kr
          rw [if_pos g1]
          exact lGo_tail (lc_5 (ans_3 kr)) rfl h R
        · rw [decide_eq_false g1, Bool.not_false, Bool.and_true] at kr
          rw [if_neg g1, g4p hm, lq_mayU (by omega) h R hm Q (by omega), il_B]
          by_cases g2 : tMay (wH W) (wTr W m) (wU W m) (e : Nat) 1 = true
          · rw [if_pos g2] at kr
            have c0 := mk_of (Y := 0) h.1 hm (by omega) (K := 5) (E := e) (X := y) (by omega) (by omega) te (by omega) (fun a b => by omega) (fun e => by omega) (fun _ => ⟨by omega, by omega⟩) (fun e => by omega) (fun e => by omega) (fun e => by omega)
            obtain ⟨L', p1, p2, -⟩ := lq_makes (N := N) (by omega) h R hm hn c0 (xa := zI y) (xb := 0) (w := 0) (fun _ => rfl) (fun g => absurd g (by show ¬ (5 ≤ 3 ∨ 5 = 6); omega)) (fun g => by have g : 5 = 0 := g; omega)
            have p1 : pL_makes N (zI (m : Nat)) (5 : Int32) (zI (e : Nat)) (zI y) (0 : Int32) (0 : Int64) L = _ := p1
            rw [if_pos g2, lq_link (by omega) h R hm (by omega), lba_i, zL_m9, il_eq (by omega) (by omega) (by omega) (by omega), if_neg (by omega), zL_m7, il_eq (by omega) (by omega) (by omega) (by omega), if_neg (by omega), p1, lba_i]
            obtain ⟨S', q1, q2, q3⟩ := id kr
            exact lGo_tail (lc_5 (ans_ok kr)) rfl (lOk_nx h hm hn q2 c0 ⟨by show e < 12; omega, fun g => by have g : 5 = 0 := g; omega, fun a b => by have b : 5 ≤ 3 := b; omega, fun g => by have g : 5 = 4 := g; omega, fun _ => by show y < 12 ∨ 100 ≤ y; omega, fun g => by have g : 5 = 6 := g; omega, fun g => by have g : 5 = 7 := g; omega⟩ ⟨by show 5 ≠ 0; omega, te⟩) p2
          · rw [if_neg g2] at kr
            rw [if_neg g2]
            exact lGo_tail (lc_5 (ans_3 kr)) rfl h R
      unfold lkT at kr go
      rw [zL_0, il_lt (by omega) (by omega) (by omega) (by omega), ← zL_0, zL_99, il_lt (by omega) (by omega) (by omega) (by omega)]
      by_cases g1 : y < 0
      · rw [if_pos g1]
        exact go (by rw [decide_eq_true g1]; rfl)
      · rw [if_neg g1]
        by_cases g2 : 99 < y
        · rw [if_pos g2]
          exact go (by rw [decide_eq_true g2, Bool.true_or, Bool.or_true])
        · obtain ⟨q, rfl⟩ : ∃ q : Nat, y = q := ⟨y.toNat, by omega⟩
          rw [if_neg g2, g36 (by omega), cn36 (by omega)]
          by_cases g3 : tLv (wTr W m) (q : Nat) = true
          · rw [if_pos ((lv_9 Q (by omega)).mpr g3)]
            exact go (by rw [g3, Bool.or_true, Bool.or_true])
          · rw [decide_eq_false g1, decide_eq_false g2, Bool.eq_false_iff.mpr g3, if_neg (by decide)] at kr
            rw [if_neg (fun r => g3 ((lv_9 Q (by omega)).mp r))]
            exact lGo_tail (lc_5 (ans_1 kr)) rfl h R
    · rw [if_neg (fun q => gl ((lv_9 Q (by omega)).mp q))]
      exact lGo_tail (lc_5 (ans_1 (k_noR (N := N) h.1 K hm (by omega) (fun q => gl q.2) _).2.2.2)) rfl h R
theorem lq_links (hN : 20000 ≤ N) (h : lOk W) (K : kRel S W) (R : lRel L W) (hm : m < 4) (Q : lTr L (wTr W m)) (hn : wN W < 40) : lGo (pL_links N (zI (m : Nat)) z S L) := by
  have hE := h.2.2.1
  have hE1 := h.1.2.2.2.2.2.2.1.1
  obtain ⟨e, he, l1⟩ := q_low (N := N) (L := L) (x := z) (n := wE W) (by omega) (by omega)
  obtain ⟨y, hy, l2⟩ := q_low (N := N) (L := L) (x := z >>> ((4 : Int32) &&& 31)) (n := 4) (by omega) (by omega)
  have l2 : pL_low N (z >>> ((4 : Int32) &&& 31)) (4 : Int32) L = _ := l2
  obtain ⟨a, ha, l3⟩ := q_low (N := N) (L := L) (x := z >>> ((6 : Int32) &&& 31)) (n := 4) (by omega) (by omega)
  have l3 : pL_low N (z >>> ((6 : Int32) &&& 31)) (4 : Int32) L = _ := l3
  obtain ⟨b, hb, l4⟩ := q_low (N := N) (L := L) (x := z >>> ((6 : Int32) &&& 31)) (n := wE W) (by omega) (by omega)
  simp only [pL_links]
  rw [gq0, aq0 R, l1, lba_i, l2, lba_i]
  by_cases g0 : y = 0
  · rw [if_pos (by rw [g0]; rfl), zL_m1]
    exact lq_links_57 hN h K R hm Q hn he (Or.inl rfl)
  · rw [if_neg (show ¬ zI (y : Nat) = (0 : Int32) from nk g0 (by omega) (j := 0) (by omega))]
    by_cases g1 : y = 1
    · rw [if_pos (by rw [g1]; rfl), l3, lba_i, zL_100, zI_add]
      exact lq_links_57 hN h K R hm Q hn he (y := 100 + (a : Int)) (Or.inr (Or.inr ⟨by omega, by omega⟩))
    · rw [if_neg (show ¬ zI (y : Nat) = (1 : Int32) from nk g1 (by omega) (j := 1) (by omega)), gq0, aq0 R, l4, lba_i]
      exact lq_links_57 hN h K R hm Q hn he (y := (b : Int)) (Or.inr (Or.inl ⟨by omega, by omega⟩))
theorem lq_deletes_79 (h : lOk W) (R : lRel L W) (hm : m < 4) (Q : lTr L (wTr W m)) {e C D : Nat} (he : e < 12) {x14 : Int32} (K : Int32 → Int32 → Int32 → Int32 → kS → lS → Nat → Nat → Option (Int32 × kS × lS)) : ∀ (n k i : Nat) (b : Bool), i + k = wE W → k < n → 1 ≤ i → pL_deletes_79 N K n (zI (m : Nat)) (zI (e : Nat)) x14 (zB b) (zI (i : Nat)) S L C D = K (zI (m : Nat)) (zI (e : Nat)) x14 (zB (b && !anyF (tCh (wTr W m) (e : Nat)) i k)) S L C D
  | 0, k, i, b, _, hn, _ => by omega
  | n + 1, k, i, b, hk, hn, hi1 => by
    have hE := h.2.2.1
    have hW := (wTr_ok h.1 m).1
    have hT := lTo_w h hm
    simp only [pL_deletes_79, pL_deletes_120, nm_i]
    rw [gq0, aq0 R, il_le (by omega) (by omega) (by omega) (by omega)]
    cases k with
    | zero =>
      rw [if_pos (by omega)]
      show _ = K _ _ _ (zB (b && !false)) S L C D
      rw [Bool.not_false, Bool.and_true]
    | succ k =>
      have ih := fun b => lq_deletes_79 h R hm Q he (C := C) (D := D) (x14 := x14) K n k (i + 1) b (by omega) (by omega) (by omega)
      have hi : i < 12 := by omega
      rw [if_neg (by omega), il_B, zs1, anyF_s]
      cases b with
      | false =>
        rw [if_neg (by decide), Bool.false_and]
        exact (ih false).trans (by rw [Bool.false_and])
      | true =>
        rw [if_pos rfl, g36 hi, cn36 hi, Bool.true_and, Bool.not_or]
        have yes : tCh (wTr W m) (e : Nat) i = false → pL_deletes_79 N K n (zI (m : Nat)) (zI (e : Nat)) x14 (1 : Int32) (zI ((i + 1 : Nat) : Int)) S L C D = K (zI (m : Nat)) (zI (e : Nat)) x14 (zB (!tCh (wTr W m) (e : Nat) i && !anyF (tCh (wTr W m) (e : Nat)) (i + 1) k)) S L C D := fun g => by
          rw [g, Bool.not_false, Bool.true_and]
          exact (ih true).trans (by rw [Bool.true_and])
        by_cases g2 : tLv (wTr W m) (i : Nat) = true
        · have ti := tLv_th (show i < 48 by omega) g2
          have pi := tPl_rg hW (show i < 48 by omega)
          rw [if_pos ((lv_9 Q hi).mpr g2), lq_place hT Q hi (Or.inr ti), lba_i, il_eq (by omega) (by omega) (by omega) (by omega)]
          by_cases g3 : tPl (wTr W m) i = (e : Int)
          · have : tCh (wTr W m) (e : Nat) i = true := by unfold tCh; rw [g2, decide_eq_true g3]; rfl
            rw [if_pos g3, this, Bool.not_true, Bool.false_and]
            exact (ih false).trans (by rw [Bool.false_and])
          · rw [if_neg g3]
            exact yes (by unfold tCh; rw [decide_eq_false g3, Bool.and_false])
        · rw [if_neg (fun q => g2 ((lv_9 Q hi).mp q))]
          exact yes (by unfold tCh; rw [Bool.eq_false_iff.mpr g2]; rfl)
theorem lq_deletes (hN : 20000 ≤ N) (h : lOk W) (K : kRel S W) (R : lRel L W) (hm : m < 4) (Q : lTr L (wTr W m)) (hn : wN W < 40) : lGo (pL_deletes N (zI (m : Nat)) z S L) := by
  have hE := h.2.2.1
  have hE1 := h.1.2.2.2.2.2.2.1.1
  obtain ⟨e, he, l1⟩ := q_low (N := N) (L := L) (x := z) (n := wE W) (by omega) (by omega)
  have lp : ∀ (x14 : Int32) (b : Bool), pL_deletes_79 N (pL_deletes_128 N) N (zI (m : Nat)) (zI (e : Nat)) x14 (zB b) (1 : Int32) S L 0 0 = pL_deletes_128 N (zI (m : Nat)) (zI (e : Nat)) x14 (zB (b && !anyF (tCh (wTr W m) (e : Nat)) 1 (wE W - 1))) S L 0 0 := fun x14 b => lq_deletes_79 h R hm Q (by omega) (pL_deletes_128 N) N (wE W - 1) 1 b (by omega) (by omega) (by omega)
  have ec : anyF (tCh (wTr W m) (e : Nat)) 1 47 = anyF (tCh (wTr W m) (e : Nat)) 1 (wE W - 1) := anyF_cut (by omega) (by omega) (fun j h1 h2 => by
    unfold tCh
    have : tLv (wTr W m) (j : Nat) = false := by
      rw [Bool.eq_false_iff]
      intro q
      have := tLv_wE h q
      omega
    rw [this]; rfl)
  have l00 : pL_deletes_79 N (pL_deletes_128 N) N (zI (m : Nat)) (zI (e : Nat)) (0 : Int32) (0 : Int32) (1 : Int32) S L 0 0 = pL_deletes_128 N (zI (m : Nat)) (zI (e : Nat)) (0 : Int32) (0 : Int32) S L 0 0 := lp 0 false
  have l10 : pL_deletes_79 N (pL_deletes_128 N) N (zI (m : Nat)) (zI (e : Nat)) (1 : Int32) (0 : Int32) (1 : Int32) S L 0 0 = pL_deletes_128 N (zI (m : Nat)) (zI (e : Nat)) (1 : Int32) (0 : Int32) S L 0 0 := lp 1 false
  have l11 : pL_deletes_79 N (pL_deletes_128 N) N (zI (m : Nat)) (zI (e : Nat)) (1 : Int32) (1 : Int32) (1 : Int32) S L 0 0 = pL_deletes_128 N (zI (m : Nat)) (zI (e : Nat)) (1 : Int32) (zB (!anyF (tCh (wTr W m) (e : Nat)) 1 47)) S L 0 0 := (lp 1 true).trans (by rw [Bool.true_and, ec])
  have no : lAns (pL_calls N (8 : Int32) (zI (m : Nat)) (zI (e : Nat)) (0 : Int32) (0 : Int32) S L) (-9) L W → lGo (pL_deletes_128 N (zI (m : Nat)) (zI (e : Nat)) (0 : Int32) (0 : Int32) S L 0 0) := fun g => by
    simp only [pL_deletes_128, pL_deletes_159, pL_deletes_203]
    simp only [if_true, i0e0]
    exact lGo_tail g rfl h R
  have no7 : lAns (pL_calls N (8 : Int32) (zI (m : Nat)) (zI (e : Nat)) (0 : Int32) (0 : Int32) S L) (-7) L W → lGo (pL_deletes_128 N (zI (m : Nat)) (zI (e : Nat)) (1 : Int32) (0 : Int32) S L 0 0) := fun g => by
    simp only [pL_deletes_128, pL_deletes_159, pL_deletes_203]
    simp only [if_true, i0e0, i1n0, if_false]
    exact lGo_tail g rfl h R
  simp only [pL_deletes, pL_deletes_30, pL_deletes_74]
  simp only [if_true, i0e0, i1n0, if_false]
  rw [gq0, aq0 R, l1, lba_i, zL_0, il_le (by omega) (by omega) (by omega) (by omega), ← zL_0, l00]
  by_cases g0 : e = 0
  · rw [if_pos (by omega)]
    exact no (lc_8 (ans_1 (k_noR (N := N) h.1 K hm (by omega) (fun q => by omega) 0).2.2.1))
  · rw [if_neg (by omega), g36 (by omega), cn36 (by omega)]
    by_cases gl : tLv (wTr W m) (e : Nat) = true
    · have te := tLv_th (show e < 48 by omega) gl
      have kr := k_delete (N := N) hN h.1 K hm (by omega) gl (by omega)
      unfold cDl at kr
      rw [if_pos ((lv_9 Q (by omega)).mpr gl), g4p hm, lq_mayU (by omega) h R hm Q (by omega), il_B]
      by_cases g1 : tMay (wH W) (wTr W m) (wU W m) (e : Nat) 1 = true
      · rw [g1, Bool.true_and] at kr
        rw [if_pos g1, l11]
        cases g2 : anyF (tCh (wTr W m) (e : Nat)) 1 47 with
        | true =>
          rw [g2, if_neg (by decide)] at kr
          exact no7 (lc_8 (ans_3 kr))
        | false =>
          rw [g2, if_pos (by decide)] at kr
          have c0 := mk_of (X := 0) (Y := 0) h.1 hm (by omega) (K := 8) (E := e) (by omega) (by omega) te (by omega) (fun a b => by omega) (fun e => by omega) (fun e => by omega) (fun e => by omega) (fun e => by omega) (fun e => by omega)
          obtain ⟨L', p1, p2, -⟩ := lq_makes (N := N) (by omega) h R hm hn c0 (xa := 0) (xb := 0) (w := 0) (fun g => absurd rfl g) (fun g => absurd g (by show ¬ (8 ≤ 3 ∨ 8 = 6); omega)) (fun g => by have g : 8 = 0 := g; omega)
          have p1 : pL_makes N (zI (m : Nat)) (8 : Int32) (zI (e : Nat)) (0 : Int32) (0 : Int32) (0 : Int64) L = _ := p1
          obtain ⟨S', q1, q2, q3⟩ := id kr
          have hO := lOk_nx h hm hn q2 c0 ⟨by show e < 12; omega, fun g => by have g : 8 = 0 := g; omega, fun a b => by have b : 8 ≤ 3 := b; omega, fun g => by have g : 8 = 4 := g; omega, fun g => by have g : 8 = 5 := g; omega, fun g => by have g : 8 = 6 := g; omega, fun g => by have g : 8 = 7 := g; omega⟩ ⟨by show 8 ≠ 0; omega, te⟩
          have hmk := lq_marks (N := N) (by omega) hO p2 hm
          have hmk : pL_marks N (zI (m : Nat)) L' = some (zI (fb_ct (mkd (wNx W m (wCh W m 8 e 0 0)) m) (wE W) : Nat), L') := hmk
          obtain ⟨S9, e9, w9, k9⟩ := lc_8 (N := N) (L := L') (c := 0) (d := 0) (ans_ok kr)
          simp only [pL_deletes_128, pL_deletes_159, pL_deletes_203]
          rw [if_neg (show ¬ zB (!false) = 0 by decide), p1, lba_i, e9, lbb_i (by omega), if_neg (show ¬ (1 : Int32) = 0 by decide), if_neg (show ¬ zB (!false) = 0 by decide), hmk, lba_i, if_pos rfl, zlB_1 (by omega)]
          exact ⟨S9, L', _, rfl, hO, k9, p2⟩
      · rw [Bool.eq_false_iff.mpr g1, Bool.false_and, if_neg (by decide)] at kr
        rw [if_neg g1, l10]
        exact no7 (lc_8 (ans_3 kr))
    · rw [if_neg (fun q => gl ((lv_9 Q (by omega)).mp q))]
      exact no (lc_8 (ans_1 (k_noR (N := N) h.1 K hm (by omega) (fun q => gl q.2) 0).2.2.1))
end LQ2
