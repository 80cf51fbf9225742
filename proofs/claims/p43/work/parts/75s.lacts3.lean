-- LEVEL 2, THE LAW: RULES, VALUES
section LQ3
variable {N m : Nat} {S : kS} {L : lS} {W : sW} {z : Int32}
theorem lq_rule_114 (hN : 20000 ≤ N) (h : lOk W) (K : kRel S W) (R : lRel L W) (hm : m < 4) (Q : lTr L (wTr W m)) (hn : wN W < 40) {e p r w s cd : Nat} {y : Int} (he : e < wE W) (hp : p < 3) (hr : r < 2) (hw : w < 3) (hys : (y = -1 ∧ s = 54 ∧ cd = 18) ∨ (∃ u : Nat, y = u ∧ u < 4 ∧ s = u ∧ cd = u) ∨ (∃ i : Nat, y = 100 + (i : Int) ∧ i < wE W ∧ s = i + 6 ∧ cd = i + 6)) : lGo (pL_rule_114 N (zI (cd : Nat)) (zI (m : Nat)) (zI (e : Nat)) (zI y) (zI (p : Nat)) (zI (r : Nat)) (zI (w : Nat)) S L 0 0) := by
  have hE := h.2.2.1
  simp only [pL_rule_114, pL_rule_153, pL_rule_227, pL_rule_273]
  simp only [if_true, i0e0, i1n0, if_false, show ((-9 : Int32) < 0) = True from eq_true (by decide), show ((-7 : Int32) < 0) = True from eq_true (by decide)]
  have hy : y = -1 ∨ (0 ≤ y ∧ y < 6) ∨ (100 ≤ y ∧ y < 112) := by
    rcases hys with ⟨g, -⟩ | ⟨u, g, g2, -⟩ | ⟨i, g, g2, -⟩
    · exact Or.inl g
    · exact Or.inr (Or.inl (by omega))
    · exact Or.inr (Or.inr (by omega))
  have no : ¬ (tLv (wTr W m) (e : Nat) = true ∧ rlT (wTr W m) y = true) → lGo (lbb 9 417 9 417 0 0 (pL_rules N (zI (m : Nat)) (zI (e : Nat)) (zI y) (zI (p : Nat)) (zI (r : Nat)) (zI (w : Nat)) S L) (fun v101 S102 L103 C104 D105 => if v101 = (-9 : Int32) then zlB 9 417 C104 D105 (1 : Int32) S102 L103 else zlB 9 417 C104 D105 (0 : Int32) S102 L103)) := fun g =>
    lGo_tail (lc_rules (ans_1 (k_rule_no (N := N) h.1 K hm (by omega) (by omega) g))) rfl h R
  rw [g36 (by omega), cn36 (by omega)]
  by_cases gl : tLv (wTr W m) (e : Nat) = true
  · have te := tLv_th (show e < 48 by omega) gl
    have hs2 := (wTr_ok h.1 m).1.2.2.2.2.2.2.2.1
    have go : rlT (wTr W m) y = true → lGo (gd ((4 : Int32) + zI (m : Nat)) 20 (lba (pL_may N (zI (m : Nat)) (aI L 0 ((4 : Int32) + zI (m : Nat)).toNatClampNeg) (zI (e : Nat)) (1 : Int32) L) fun v101 L102 => if v101 = (0 : Int32) then lbb 9 417 9 417 0 0 (pL_rules N (zI (m : Nat)) (zI (e : Nat)) (zI y) (zI (p : Nat)) (zI (r : Nat)) (zI (w : Nat)) S L102) (fun v101 S102 L103 C104 D105 => if v101 = (-7 : Int32) then zlB 9 417 C104 D105 (1 : Int32) S102 L103 else zlB 9 417 C104 D105 (0 : Int32) S102 L103) else lba (pL_says N (zI (m : Nat)) (zI (e : Nat)) (zI (cd : Nat)) (zI (p : Nat)) (zI (r : Nat)) L102) fun v103 L104 => if v103 < (0 : Int32) then lbb 9 417 9 417 0 0 (pL_rules N (zI (m : Nat)) (zI (e : Nat)) (zI y) (zI (p : Nat)) (zI (r : Nat)) (zI (w : Nat)) S L104) (fun v101 S102 L103 C104 D105 => if v101 = v103 then zlB 9 417 C104 D105 (1 : Int32) S102 L103 else zlB 9 417 C104 D105 (0 : Int32) S102 L103) else lba (pL_makes N (zI (m : Nat)) (6 : Int32) (zI (e : Nat)) ((((6 : Int32) * zI (cd : Nat)) + ((2 : Int32) * zI (p : Nat))) + zI (r : Nat)) (zI (w : Nat)) (0 : Int64) L104) fun v105 L106 => lbb 9 417 9 417 0 0 (pL_rules N (zI (m : Nat)) (zI (e : Nat)) (zI y) (zI (p : Nat)) (zI (r : Nat)) (zI (w : Nat)) S L106) (fun v101 S102 L103 C104 D105 => if v101 = v103 then zlB 9 417 C104 D105 (1 : Int32) S102 L103 else zlB 9 417 C104 D105 (0 : Int32) S102 L103))) := fun gt => by
      have hs55 : s < 55 ∧ (s < 18 ∨ s = 54) ∧ sSub s = y ∧ 6 * cd + 2 * p + r = cde (6 * s + 2 * p + r) := by
        rcases hys with ⟨g1, g2, g3⟩ | ⟨u, g1, g2, g3, g4⟩ | ⟨i, g1, g2, g3, g4⟩
        · rw [g1, g2, g3]
          refine ⟨by omega, Or.inr rfl, rfl, ?_⟩
          unfold cde
          rw [if_neg (by omega)]
          omega
        · rw [g1, g3, g4]
          refine ⟨by omega, Or.inl (by omega), if_pos (by omega), ?_⟩
          unfold cde
          rw [if_pos (by omega)]
        · rw [g1, g3, g4]
          refine ⟨by omega, Or.inl (by omega), ?_, ?_⟩
          · unfold sSub
            rw [if_neg (by omega), if_pos (by omega)]
            omega
          · unfold cde
            rw [if_pos (by omega)]
      obtain ⟨a1, a2, a3, a4⟩ := hs55
      have hz : y = -1 ∨ (0 ≤ y ∧ y < 6) ∨ (100 ≤ y ∧ y < 148 ∧ tLv (wTr W m) (y - 100) = true) := by
        rcases hy with g | g | g
        · exact Or.inl g
        · exact Or.inr (Or.inl g)
        · unfold rlT at gt
          rw [decide_eq_false (by omega), Bool.false_or] at gt
          exact Or.inr (Or.inr ⟨g.1, by omega, gt⟩)
      have kr := k_rule (N := N) hN h.1 K hm gl a1 a3 hz hp hr (show w ≤ 2 by omega) (by omega)
      have hsy := hs2 e (6 * s + 2 * p + r)
      rw [g4p hm, lq_mayU (by omega) h R hm Q (by omega), il_B]
      by_cases g2 : tMay (wH W) (wTr W m) (wU W m) (e : Nat) 1 = true
      · rw [if_pos g2] at kr
        have c0 := mk_of (Y := (w : Int)) h.1 hm (by omega) (K := 6) (E := e) (X := ((6 * s + 2 * p + r : Nat) : Int)) (by omega) (by omega) te (by omega) (fun a b => by omega) (fun e => by omega) (fun e => by omega) (fun _ => ⟨by omega, by omega, by omega, by omega⟩) (fun e => by omega) (fun e => by omega)
        have eA : (((6 : Int32) * zI (cd : Nat)) + ((2 : Int32) * zI (p : Nat))) + zI (r : Nat) = zI (lA (wCh W m 6 e ((6 * s + 2 * p + r : Nat) : Int) (w : Int))) := by
          have e1 : lA (wCh W m 6 e ((6 * s + 2 * p + r : Nat) : Int) (w : Int)) = if ((6 * s + 2 * p + r : Nat) : Int) < 324 then ((6 * s + 2 * p + r : Nat) : Int) else ((6 * s + 2 * p + r : Nat) : Int) - 216 := by
            unfold lA
            rw [if_neg (show ¬ cK (wCh W m 6 e ((6 * s + 2 * p + r : Nat) : Int) (w : Int)) = 0 by show ¬ (6 : Nat) = 0; omega), if_pos (show cK (wCh W m 6 e ((6 * s + 2 * p + r : Nat) : Int) (w : Int)) = 6 from rfl)]
            rfl
          rw [e1, zL_6, zL_2, zI_mul, zI_mul, zI_add, zI_add]
          refine congrArg zI ?_
          unfold cde at a4
          split at a4 <;> split <;> omega
        obtain ⟨L', p1, p2, -⟩ := lq_makes (N := N) (by omega) h R hm hn c0 (xa := (((6 : Int32) * zI (cd : Nat)) + ((2 : Int32) * zI (p : Nat))) + zI (r : Nat)) (xb := zI (w : Nat)) (w := 0) (fun _ => eA) (fun _ => rfl) (fun g => by have g : 6 = 0 := g; omega)
        have p1 : pL_makes N (zI (m : Nat)) (6 : Int32) (zI (e : Nat)) ((((6 : Int32) * zI (cd : Nat)) + ((2 : Int32) * zI (p : Nat))) + zI (r : Nat)) (zI (w : Nat)) (0 : Int64) L = _ := p1
        rw [if_pos g2, lq_says (N := N) (by omega) h R hm (e := e) (s := 6 * s + 2 * p + r) (by omega) (by omega) a4, lba_i, if_neg (by rw [zL_0, zI_lt (by omega) (by omega) (by omega) (by omega)]; omega), p1, lba_i]
        obtain ⟨S', q1, q2, q3⟩ := id kr
        exact lGo_tail (lc_rules (ans_ok kr)) rfl (lOk_nx h hm hn q2 c0 ⟨by show e < 12; omega, fun g => by have g : 6 = 0 := g; omega, fun a b => by have b : 6 ≤ 3 := b; omega, fun g => by have g : 6 = 4 := g; omega, fun g => by have g : 6 = 5 := g; omega, fun _ => by show ((6 * s + 2 * p + r : Nat) : Int) < 108 ∨ 324 ≤ ((6 * s + 2 * p + r : Nat) : Int); omega, fun g => by have g : 6 = 7 := g; omega⟩ ⟨by show 6 ≠ 0; omega, te⟩) p2
      · rw [if_neg g2] at kr
        rw [if_neg g2]
        exact lGo_tail (lc_rules (ans_3 kr)) rfl h R
    unfold rlT at go no
    rw [if_pos ((lv_9 Q (by omega)).mpr gl), zL_100, il_lt (by omega) (by omega) (by omega) (by omega)]
    by_cases g1 : y < 100
    · rw [if_pos g1]
      exact go (by rw [decide_eq_true g1]; rfl)
    · obtain ⟨i, hi1, hi2⟩ : ∃ i : Nat, y = 100 + (i : Int) ∧ i < 12 := ⟨(y - 100).toNat, by omega, by omega⟩
      have e1 : y - 100 = (i : Nat) := by omega
      rw [if_neg g1, zI_sub, e1, g36 hi2, cn36 hi2]
      rw [e1] at go no
      by_cases g3 : tLv (wTr W m) (i : Nat) = true
      · rw [if_pos ((lv_9 Q hi2).mpr g3)]
        exact go (by rw [g3, Bool.or_true])
      · rw [if_neg (fun q => g3 ((lv_9 Q hi2).mp q))]
        exact no (fun q => by
          rw [decide_eq_false g1, Bool.false_or] at q
          exact g3 q.2)
  · rw [if_neg (fun q => gl ((lv_9 Q (by omega)).mp q))]
    exact no (fun q => gl q.1)
theorem lq_rule (hN : 20000 ≤ N) (h : lOk W) (K : kRel S W) (R : lRel L W) (hm : m < 4) (Q : lTr L (wTr W m)) (hn : wN W < 40) : lGo (pL_rule N (zI (m : Nat)) z S L) := by
  have hE := h.2.2.1
  have hE1 := h.1.2.2.2.2.2.2.1.1
  obtain ⟨e, he, l1⟩ := q_low (N := N) (L := L) (x := z) (n := wE W) (by omega) (by omega)
  obtain ⟨y, hy, l2⟩ := q_low (N := N) (L := L) (x := z >>> ((3 : Int32) &&& 31)) (n := 4) (by omega) (by omega)
  have l2 : pL_low N (z >>> ((3 : Int32) &&& 31)) (4 : Int32) L = _ := l2
  obtain ⟨a, ha, l3⟩ := q_low (N := N) (L := L) (x := z >>> ((5 : Int32) &&& 31)) (n := 4) (by omega) (by omega)
  have l3 : pL_low N (z >>> ((5 : Int32) &&& 31)) (4 : Int32) L = _ := l3
  obtain ⟨b, hb, l4⟩ := q_low (N := N) (L := L) (x := z >>> ((5 : Int32) &&& 31)) (n := wE W) (by omega) (by omega)
  obtain ⟨p, hp, l5⟩ := q_low (N := N) (L := L) (x := z >>> ((7 : Int32) &&& 31)) (n := 3) (by omega) (by omega)
  have l5 : pL_low N (z >>> ((7 : Int32) &&& 31)) (3 : Int32) L = _ := l5
  obtain ⟨r, hr, l6⟩ := q_low (N := N) (L := L) (x := z >>> ((9 : Int32) &&& 31)) (n := 2) (by omega) (by omega)
  have l6 : pL_low N (z >>> ((9 : Int32) &&& 31)) (2 : Int32) L = _ := l6
  obtain ⟨w, hw, l7⟩ := q_low (N := N) (L := L) (x := z >>> ((10 : Int32) &&& 31)) (n := 3) (by omega) (by omega)
  have l7 : pL_low N (z >>> ((10 : Int32) &&& 31)) (3 : Int32) L = _ := l7
  simp only [pL_rule, pL_rule_55]
  rw [gq0, aq0 R, l1, lba_i, l2, lba_i]
  by_cases g0 : y = 0
  · rw [if_pos (by rw [g0]; rfl), l5, lba_i, l6, lba_i, l7, lba_i, if_neg (show ¬ (0 : Int32) ≤ -1 by decide), zL_m1]
    exact lq_rule_114 hN h K R hm Q hn he hp hr hw (cd := 18) (s := 54) (y := -1) (Or.inl ⟨rfl, rfl, rfl⟩)
  · rw [if_neg (show ¬ zI (y : Nat) = (0 : Int32) from nk g0 (by omega) (j := 0) (by omega))]
    by_cases g1 : y = 1
    · rw [if_pos (by rw [g1]; rfl), gq0, aq0 R, l4, lba_i, l5, lba_i, l6, lba_i, l7, lba_i, zL_100, zI_add, zL_0, il_le (by omega) (by omega) (by omega) (by omega), if_pos (by omega), zL_99, il_le (by omega) (by omega) (by omega) (by omega), if_neg (by omega), show (94 : Int32) = zI 94 from rfl, zI_sub, show (100 + (b : Int) - 94) = ((b + 6 : Nat) : Int) by omega]
      exact lq_rule_114 hN h K R hm Q hn he hp hr hw (cd := b + 6) (s := b + 6) (y := 100 + (b : Int)) (Or.inr (Or.inr ⟨b, rfl, hb, rfl, rfl⟩))
    · rw [if_neg (show ¬ zI (y : Nat) = (1 : Int32) from nk g1 (by omega) (j := 1) (by omega)), l3, lba_i, l5, lba_i, l6, lba_i, l7, lba_i, zL_0, il_le (by omega) (by omega) (by omega) (by omega), if_pos (by omega), zL_99, il_le (by omega) (by omega) (by omega) (by omega), if_pos (by omega)]
      exact lq_rule_114 hN h K R hm Q hn he hp hr hw (cd := a) (s := a) (y := (a : Int)) (Or.inr (Or.inl ⟨a, rfl, ha, rfl, rfl⟩))
end LQ3
