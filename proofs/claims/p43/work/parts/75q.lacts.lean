-- LEVEL 2, THE LAW: CALLS THAT CHANGE ENTRIES
section LQ1
variable {N m : Nat} {S : kS} {L : lS} {W : sW} {z : Int32}
theorem wTr_nx (h : wOk W) (hm : m < 4) {c : sCh} (c0 : mkOk (wH W) (wC W) (wN W) (wE W) m (wO W) (wT W) c) : wTr (wNx W m c) m = tTake (wH W) (wTr W m) c := by
  obtain ⟨-, -, -, gc, tc, -⟩ := id h
  obtain ⟨ar, g4⟩ := gc.2.2.2.1
  exact shw_own hm tc gc.2.2.2.2.2.2.2.1 (fun k hk => wO_in h hk) c0.2.1 c0.2.2.1 c0.2.2.2.1 g4.1 (fun k hk => (wC_ok h hk).2.2.1)
theorem i1n0 : ((1 : Int32) = 0) = False := eq_false (by decide)
theorem i0e0 : ((0 : Int32) = 0) = True := eq_self 0
theorem user6 (h : lOk W) (hm : m < 4) : wU W m < 6 := h.1.2.2.2.2.2.1 m hm
theorem lq_renames (hN : 20000 ≤ N) (h : lOk W) (K : kRel S W) (R : lRel L W) (hm : m < 4) (Q : lTr L (wTr W m)) (hn : wN W < 40) : lGo (pL_renames N (zI (m : Nat)) z S L) := by
  have hE := h.2.2.1
  have hE1 := h.1.2.2.2.2.2.2.1.1
  obtain ⟨e, he, l1⟩ := q_low (N := N) (L := L) (x := z) (n := wE W) (by omega) (by omega)
  obtain ⟨nm, hnm, l2⟩ := q_low (N := N) (L := L) (x := z >>> ((4 : Int32) &&& 31)) (n := 4) (by omega) (by omega)
  have l2 : pL_low N (z >>> ((4 : Int32) &&& 31)) (4 : Int32) L = _ := l2
  simp only [pL_renames, pL_renames_126, pL_renames_159]
  rw [gq0, aq0 R, l1, lba_i, l2, lba_i]
  by_cases g0 : e = 0
  · rw [if_pos (by rw [g0]; rfl), if_pos (show (-9 : Int32) < 0 by decide)]
    exact lGo_tail (lc_4 (ans_1 (k_noR (N := N) h.1 K hm (by omega) (fun q => by omega) _).1)) rfl h R
  · rw [if_neg (show ¬ zI (e : Nat) = (0 : Int32) from nk g0 (by omega) (j := 0) (by omega)), g36 (by omega), cn36 (by omega)]
    by_cases gl : tLv (wTr W m) (e : Nat) = true
    · have te := tLv_th (show e < 48 by omega) gl
      have hW := (wTr_ok h.1 m).1
      have hp := tPl_rg hW (show e < 48 by omega)
      have hs := tSh_rg hW (show e < 48 by omega)
      have kr := k_rename (N := N) hN h.1 K hm (by omega) gl (z := (nm : Int)) ⟨by omega, by omega⟩ (by omega)
      unfold cRn at kr
      rw [if_pos ((lv_9 Q (by omega)).mpr gl), g4p hm, lq_mayU (by omega) h R hm Q (by omega), il_B]
      by_cases g1 : tMay (wH W) (wTr W m) (wU W m) (e : Nat) 1 = true
      · rw [g1, Bool.true_and] at kr
        rw [if_pos g1, lq_place (lTo_w h hm) Q (by omega) (Or.inr te), lba_i, lq_named (by omega) h R hm Q hp (by omega) (by omega), lba_i, il_B]
        cases g2 : tShd (wTr W m) (tPl (wTr W m) e) (nm : Int) e with
        | true =>
          rw [g2, if_neg (by decide)] at kr
          rw [if_pos rfl, if_pos (show (-7 : Int32) < 0 by decide)]
          exact lGo_tail (lc_4 (ans_3 kr)) rfl h R
        | false =>
          rw [g2, if_pos (by decide)] at kr
          have c0 := mk_of (Y := 0) h.1 hm (by omega) (K := 4) (E := e) (X := (nm : Int)) (by omega) (by omega) te (by omega) (fun a b => by omega) (fun _ => ⟨by omega, by omega⟩) (fun e => by omega) (fun e => by omega) (fun e => by omega) (fun e => by omega)
          obtain ⟨L', p1, p2, -⟩ := lq_makes (N := N) (by omega) h R hm hn c0 (xa := zI (nm : Nat)) (xb := 0) (w := 0) (fun _ => rfl) (fun g => absurd g (by show ¬ (4 ≤ 3 ∨ 4 = 6); omega)) (fun g => by have g : 4 = 0 := g; omega)
          have p1 : pL_makes N (zI (m : Nat)) (4 : Int32) (zI (e : Nat)) (zI (nm : Nat)) (0 : Int32) (0 : Int64) L = _ := p1
          rw [if_neg (by decide), lq_shown (by omega) h R hm Q gl, lba_i, if_neg (by rw [zL_0, zI_lt (by omega) (by omega) (by omega) (by omega)]; omega), p1, lba_i]
          obtain ⟨S', q1, q2, q3⟩ := id kr
          exact lGo_tail (lc_4 (ans_ok kr)) rfl (lOk_nx h hm hn q2 c0 ⟨by show e < 12; omega, fun g => by have g : 4 = 0 := g; omega, fun a b => by have b : 4 ≤ 3 := b; omega, fun _ => by show 1 ≤ e; omega, fun g => by have g : 4 = 5 := g; omega, fun g => by have g : 4 = 6 := g; omega, fun g => by have g : 4 = 7 := g; omega⟩ ⟨by show 4 ≠ 0; omega, te⟩) p2
      · rw [Bool.eq_false_iff.mpr g1, Bool.false_and, if_neg (by decide)] at kr
        rw [if_neg g1, if_pos (show (-7 : Int32) < 0 by decide)]
        exact lGo_tail (lc_4 (ans_3 kr)) rfl h R
    · rw [if_neg (fun q => gl ((lv_9 Q (by omega)).mp q)), if_pos (show (-9 : Int32) < 0 by decide)]
      exact lGo_tail (lc_4 (ans_1 (k_noR (N := N) h.1 K hm (by omega) (fun q => gl q.2) _).1)) rfl h R
theorem lq_moves (hN : 20000 ≤ N) (h : lOk W) (K : kRel S W) (R : lRel L W) (hm : m < 4) (Q : lTr L (wTr W m)) (hn : wN W < 40) : lGo (pL_moves N (zI (m : Nat)) z S L) := by
  have hE := h.2.2.1
  have hE1 := h.1.2.2.2.2.2.2.1.1
  obtain ⟨e, he, l1⟩ := q_low (N := N) (L := L) (x := z) (n := wE W) (by omega) (by omega)
  obtain ⟨p, hp, l2⟩ := q_low (N := N) (L := L) (x := z >>> ((4 : Int32) &&& 31)) (n := wE W) (by omega) (by omega)
  simp only [pL_moves, pL_moves_52, pL_moves_181, pL_moves_210, pL_moves_244]
  rw [gq0, aq0 R, l1, lba_i, gq0, aq0 R, l2, lba_i]
  simp only [if_true, i0e0, i1n0, if_false]
  rw [zL_0, il_le (by omega) (by omega) (by omega) (by omega), ← zL_0]
  by_cases g0 : e = 0
  · rw [if_pos (by omega)]
    exact lGo_tail (lc_7 (ans_1 (k_noR (N := N) h.1 K hm (by omega) (fun q => by omega) _).2.1)) rfl h R
  · rw [if_neg (by omega), g36 (by omega), cn36 (by omega)]
    by_cases gl : tLv (wTr W m) (e : Nat) = true
    · have te := tLv_th (show e < 48 by omega) gl
      have hW := (wTr_ok h.1 m).1
      have hT := lTo_w h hm
      have hpl := tPl_rg hW (show e < 48 by omega)
      rw [if_pos ((lv_9 Q (by omega)).mpr gl), g36 (by omega), cn36 (by omega)]
      by_cases gp : tLv (wTr W m) (p : Nat) = true
      · have tp := tLv_th (show p < 48 by omega) gp
        have kr := k_move (N := N) hN h.1 K hm (by omega) gl gp (by omega)
        unfold cMv at kr
        rw [if_pos ((lv_9 Q (by omega)).mpr gp), g4p hm, lq_mayU (by omega) h R hm Q (by omega), il_B]
        by_cases g1 : tMay (wH W) (wTr W m) (wU W m) (e : Nat) 1 = true
        · rw [g1, Bool.true_and] at kr
          rw [if_pos g1, g4p hm, lq_mayU (by omega) h R hm Q (by omega), il_B]
          by_cases g2 : tMay (wH W) (wTr W m) (wU W m) (p : Nat) 1 = true
          · rw [g2, Bool.true_and] at kr
            rw [if_pos g2, lq_up (by omega) hT (fun x hx => (Q.1 x hx).2.2) (by omega) (by omega) (by omega), lba_i, il_B]
            cases g3 : pCome (tPa (wTr W m)) 48 (p : Int) e with
            | true =>
              rw [g3, Bool.not_true, Bool.false_and, if_neg (by decide)] at kr
              rw [if_pos rfl]
              exact lGo_tail (lc_7 (ans_3 kr)) rfl h R
            | false =>
              have hnm := hW.2.2.1 e (by omega)
              rw [g3, Bool.not_false, Bool.true_and] at kr
              rw [if_neg (by decide), lq_name (by omega) h R hm (by omega) te, lba_i, lq_named (by omega) h R hm Q (by omega) (by omega) (by omega), lba_i, il_B]
              cases g4 : tShd (wTr W m) (p : Int) (tNm (wTr W m) e) e with
              | true =>
                rw [g4, if_neg (by decide)] at kr
                rw [if_pos rfl]
                exact lGo_tail (lc_7 (ans_3 kr)) rfl h R
              | false =>
                rw [g4, if_pos (by decide)] at kr
                have c0 := mk_of (Y := 0) h.1 hm (by omega) (K := 7) (E := e) (X := (p : Int)) (by omega) (by omega) te (by omega) (fun a b => by omega) (fun e => by omega) (fun e => by omega) (fun e => by omega) (fun _ => ⟨by omega, by omega, by rw [Int.toNat_natCast]; exact tp⟩) (fun e => by omega)
                obtain ⟨L', p1, p2, -⟩ := lq_makes (N := N) (by omega) h R hm hn c0 (xa := zI (p : Nat)) (xb := 0) (w := 0) (fun _ => rfl) (fun g => absurd g (by show ¬ (7 ≤ 3 ∨ 7 = 6); omega)) (fun g => by have g : 7 = 0 := g; omega)
                have p1 : pL_makes N (zI (m : Nat)) (7 : Int32) (zI (e : Nat)) (zI (p : Nat)) (0 : Int32) (0 : Int64) L = _ := p1
                rw [if_neg (by decide), lq_place hT Q (by omega) (Or.inr te), lba_i, p1, lba_i]
                obtain ⟨S', q1, q2, q3⟩ := id kr
                exact lGo_tail (lc_7 (ans_ok kr)) rfl (lOk_nx h hm hn q2 c0 ⟨by show e < 12; omega, fun g => by have g : 7 = 0 := g; omega, fun a b => by have b : 7 ≤ 3 := b; omega, fun g => by have g : 7 = 4 := g; omega, fun g => by have g : 7 = 5 := g; omega, fun g => by have g : 7 = 6 := g; omega, fun _ => ⟨by show (p : Int) < 12; omega, by show 1 ≤ e; omega⟩⟩ ⟨by show 7 ≠ 0; omega, te⟩) p2
          · rw [Bool.eq_false_iff.mpr g2, Bool.false_and, if_neg (by decide)] at kr
            rw [if_neg g2]
            exact lGo_tail (lc_7 (ans_3 kr)) rfl h R
        · rw [Bool.eq_false_iff.mpr g1, Bool.false_and, if_neg (by decide)] at kr
          rw [if_neg g1]
          exact lGo_tail (lc_7 (ans_3 kr)) rfl h R
      · rw [if_neg (fun q => gp ((lv_9 Q (by omega)).mp q))]
        exact lGo_tail (lc_7 (ans_1 (k_move_no (N := N) h.1 K hm (by omega) gl (by omega) gp))) rfl h R
    · rw [if_neg (fun q => gl ((lv_9 Q (by omega)).mp q))]
      exact lGo_tail (lc_7 (ans_1 (k_noR (N := N) h.1 K hm (by omega) (fun q => gl q.2) _).2.1)) rfl h R
end LQ1
