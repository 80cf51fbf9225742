-- LEVEL 2, THE LAW: ADDS; DRAFTED VALUES IN ONE WORD
theorem tl_n : ∀ n : Nat, n < 1024 → (zI (n : Int)).toInt64 = lN n := by decide +kernel
theorem ti_n : ∀ n : Nat, n < 1024 → (lN n).toInt32 = nI n := by decide +kernel
theorem lb_n {n i : Nat} (hn : n < 1024) (hi : i < 64) : lb ((zI (n : Int)).toInt64) i = n.testBit i := by rw [tl_n n hn, lb_lN hi]
theorem tb_10 {n i : Nat} (hn : n < 1024) (hi : 10 ≤ i) : n.testBit i = false := Nat.testBit_lt_two_pow (Nat.lt_of_lt_of_le hn (show 2 ^ 10 ≤ 2 ^ i from Nat.pow_le_pow_right (by omega) hi))
theorem to_n {x : Int64} {n : Nat} (hn : n < 1024) (h : ∀ i, i < 64 → lb x i = n.testBit i) : x.toInt32 = zI (n : Int) := by
  have e : x = lN n := lb_ext (fun i hi => by rw [h i hi, lb_lN hi])
  rw [e, ti_n n hn, zI_n]
/-- the word w keeps the first j values of val, and how many there are -/
def wBt (len : Nat) (val : Nat → Nat) (j : Nat) (w : Int64) : Prop := ∀ b, b < 64 → lb w b = if 50 ≤ b then len.testBit (b - 50) else (decide (b / 10 < j) && (val (b / 10)).testBit (b % 10))
theorem wBt_0 {len : Nat} {val : Nat → Nat} (hl : len < 1024) : wBt len val 0 (((zI (len : Int)).toInt64) <<< ((50 : Int32).toInt64 &&& 63)) := fun b hb => by
  have e := lb_shlx (k := 50) (i := b) (by omega) hb ((zI (len : Int)).toInt64)
  have e : lb (((zI (len : Int)).toInt64) <<< ((50 : Int32).toInt64 &&& 63)) b = _ := e
  rw [e]
  by_cases g : 50 ≤ b
  · rw [if_pos g, decide_eq_true g, Bool.true_and, lb_n hl (by omega)]
  · rw [if_neg g, decide_eq_false g, decide_eq_false (show ¬ b / 10 < 0 by omega), Bool.false_and, Bool.false_and]
theorem wBt_s {len j : Nat} {val : Nat → Nat} {w : Int64} (hj : j < 4) (hv : val j < 1024) (h : wBt len val j w) : wBt len val (j + 1) (w ||| (((zI (val j : Int)).toInt64) <<< ((zI ((10 * j : Nat) : Int)).toInt64 &&& 63))) := fun b hb => by
  rw [lb_or, h b hb, lb_shlx (by omega) hb]
  by_cases g : 50 ≤ b
  · rw [if_pos g, if_pos g, decide_eq_true (show 10 * j ≤ b by omega), Bool.true_and, lb_n hv (by omega), tb_10 hv (by omega), Bool.or_false]
  · rw [if_neg g, if_neg g]
    rcases Nat.lt_trichotomy (b / 10) j with q | q | q
    · rw [decide_eq_true q, decide_eq_true (show b / 10 < j + 1 by omega), decide_eq_false (show ¬ 10 * j ≤ b by omega), Bool.false_and, Bool.or_false]
    · rw [decide_eq_false (show ¬ b / 10 < j by omega), decide_eq_true (show b / 10 < j + 1 by omega), decide_eq_true (show 10 * j ≤ b by omega), Bool.false_and, Bool.false_or, Bool.true_and, Bool.true_and, lb_n hv (by omega), q, show b - 10 * j = b % 10 by omega]
    · rw [decide_eq_false (show ¬ b / 10 < j by omega), decide_eq_false (show ¬ b / 10 < j + 1 by omega), Bool.false_and, Bool.false_or]
      by_cases g2 : 10 * j ≤ b
      · rw [decide_eq_true g2, Bool.true_and, lb_n hv (by omega), tb_10 hv (by omega)]
      · rw [decide_eq_false g2, Bool.false_and]
theorem wBt_lW {D : List (Nat × Nat)} {w : Int64} (hD : D.length ≤ 4) (hv : ∀ i (h : i < D.length), 100 * D[i].1 + D[i].2 < 1024) (h : wBt D.length (fun i => 100 * dA D i + dV D i) D.length w) : lW w D := by
  constructor
  · refine to_n (by omega) (fun i hi => ?_)
    have e := lb_sshr (k := 50) (i := i) (by omega) hi w
    have e : lb (w >>> ((50 : Int32).toInt64 &&& 63)) i = _ := e
    rw [e]
    by_cases g : 50 + i < 64
    · rw [if_pos g, h _ g, if_pos (by omega), show 50 + i - 50 = i by omega]
    · rw [if_neg g, h 63 (by omega), if_pos (by omega), tb_10 (by omega) (by omega), tb_10 (by omega) (by omega)]
  · intro j hj
    have hvj := hv j hj
    have ed := d_at hj
    refine to_n hvj (fun i hi => ?_)
    rw [lb_and, lb_1023 i hi, lb_sshr (by omega) hi]
    by_cases g : i < 10
    · rw [decide_eq_true g, Bool.and_true, if_pos (by omega), h _ (by omega), if_neg (by omega), show (10 * j + i) / 10 = j by omega, show (10 * j + i) % 10 = i by omega, decide_eq_true hj, Bool.true_and]
      show (100 * dA D j + dV D j).testBit i = _
      rw [ed.1, ed.2]
    · rw [decide_eq_false g, Bool.and_false, tb_10 hvj (by omega)]
section LQ5
variable {N m : Nat} {S : kS} {L : lS} {W : sW} {z : Int32}
theorem lq_adds_186 (h : lOk W) (R : lRel L W) {x1 x14 x15 x16 x17 : Int32} {C D : Nat} (K : Int32 → Int32 → Int32 → Int32 → Int32 → Int64 → kS → lS → Nat → Nat → Option (Int32 × kS × lS)) : ∀ (n k j : Nat) (w : Int64), j + k = (wD W).length → k < n → wBt (wD W).length (fun i => 100 * dA (wD W) i + dV (wD W) i) j w → ∃ w', pL_adds_186 N K n x1 x14 x15 x16 x17 w (zI (j : Nat)) S L C D = K x1 x14 x15 x16 x17 w' S L C D ∧ wBt (wD W).length (fun i => 100 * dA (wD W) i + dV (wD W) i) (wD W).length w'
  | 0, k, j, w, _, hn, _ => by omega
  | n + 1, k, j, w, hk, hn, hw => by
    have hD := h.2.2.2.2.2.1.1
    simp only [pL_adds_186, nm_i, nml_i]
    rw [gq8, aq8 R, il_le (by omega) (by omega) (by omega) (by omega)]
    cases k with
    | zero =>
      rw [if_pos (by omega)]
      rw [show j = (wD W).length by omega] at hw
      exact ⟨w, rfl, hw⟩
    | succ k =>
      have hj : j < (wD W).length := by omega
      obtain ⟨a1, a2⟩ := lqDb h hj
      have e1 : (10 : Int32) * zI (j : Nat) = zI ((10 * j : Nat) : Int) := by rw [zL_10, zI_mul]; rfl
      rw [if_neg (by omega), z9p, gd_c (by omega) (by omega), zI_cn (by omega), lqD R hj, e1, zs1]
      exact lq_adds_186 h R K n k (j + 1) _ (by omega) (by omega) (wBt_s (val := fun i => 100 * dA (wD W) i + dV (wD W) i) (by omega) (by show 100 * dA (wD W) j + dV (wD W) j < 1024; omega) hw)
theorem lRel_ad {L' : lS} {c : sCh} (h : lOk W) (R : lRel L' (wNx W m c)) : lRel (uI (uI L' 0 0 (zI ((wE W + 1 : Nat) : Int))) 0 8 0) (wAd W m c) := by
  obtain ⟨⟨r1, r2, r3, r4⟩, r5, ⟨r6, r7⟩, ⟨r8, r8b⟩, r9, r10, r11⟩ := R
  refine ⟨⟨?_, ?_, ?_, ?_⟩, fun a ha => ?_, ⟨?_, fun i hi => absurd hi (Nat.not_lt_zero i)⟩, ⟨fun a ha => ?_, fun k hk => ?_⟩, fun a e ha he => ?_, fun i hi => ?_, fun a i j ha hi hj => ?_⟩
  · simp [aU]; rfl
  · simp [aU]; exact r2
  · simp [aU]; exact r3
  · simp [aU]; exact r4
  · simp [aU, show ¬ 4 + a = 8 by omega]; exact r5 a ha
  · simp [aU]; rfl
  · simp [aU, show ¬ 13 + a = 8 by omega]; exact r8 a ha
  · simp [aU]; exact r8b k hk
  · simp [aU, show ¬ 16 + a = 8 by omega]; exact r9 a e ha he
  · refine lCh_eq ?_ ?_ ?_ ?_ ?_ ?_ (r10 i hi)
    all_goals simp [aU, aJ_uI]
  · simp [aU]; exact r11 a i j ha hi hj
theorem lq_adds_65 (hN : 20000 ≤ N) (h : lOk W) (K : kRel S W) (R : lRel L W) (hm : m < 4) (Q : lTr L (wTr W m)) (hn : wN W < 40) (hE12 : wE W < 12) {p kl nm : Nat} (hp : p < wE W) (hkl : kl < 3) (hnm : nm < 100) : lGo (if aI L 9 (3 * p) = (1 : Int32) then gd (0 : Int32) 20 (pL_adds_65 N (aI L 0 (0 : Int32).toNatClampNeg) (zI (m : Nat)) (zI (p : Nat)) (zI (kl : Nat)) (zI (nm : Nat)) S L 0 0) else pL_adds_65 N (-9 : Int32) (zI (m : Nat)) (zI (p : Nat)) (zI (kl : Nat)) (zI (nm : Nat)) S L 0 0) := by
  have hE1 := h.1.2.2.2.2.2.2.1.1
  have hC3 := h.2.1.2
  by_cases gl : tLv (wTr W m) (p : Nat) = true
  · have tp := tLv_th (show p < 48 by omega) gl
    obtain ⟨b, hb, kr⟩ := k_add (N := N) hN h.1 K hm gl (z := (kl : Int)) (w := (nm : Int)) ⟨by omega, by omega⟩ ⟨by omega, by omega⟩ (by omega) (by omega)
    rw [if_pos ((lv_9 Q (by omega)).mpr gl), gq0, aq0 R]
    have n9 : (zI (wE W : Nat) = (-9 : Int32)) = False := eq_false (by rw [zL_m9, zI_eq (by omega) (by omega) (by omega) (by omega)]; omega)
    simp only [pL_adds_65, pL_adds_145, pL_adds_166, n9, if_false, if_true, i0e0, i1n0]
    rw [zL_0, il_le (by omega) (by omega) (by omega) (by omega), if_neg (by omega), ← zL_0, g4p hm, lq_mayU (by omega) h R hm Q (by omega), il_B]
    have no : kNo (pX9_add N (zI (m : Nat)) (zI (p : Nat)) (zI (kl : Nat)) (zI (nm : Nat)) S) 3 W → lGo (pL_adds_267 N (zI (m : Nat)) (zI (p : Nat)) (zI (kl : Nat)) (zI (nm : Nat)) (-7 : Int32) S L 0 0) := fun g => by
      unfold pL_adds_267
      exact lGo_tail (lc_0 (ans_3 g)) rfl h R
    by_cases g1 : tMay (wH W) (wTr W m) (wU W m) (p : Nat) 1 = true
    · rw [g1, Bool.true_and] at kr
      have hnd := lq_named (N := N) (by omega) h R hm Q (p := (p : Int)) (y := (nm : Int)) (u := -1) (by omega) (by omega) (by omega)
      have hnd : pL_named N (zI (m : Nat)) (zI (p : Nat)) (-1 : Int32) (zI (nm : Nat)) L = _ := hnd
      rw [if_pos g1, hnd, lba_i, il_B]
      cases g2 : tShd (wTr W m) (p : Int) (nm : Int) (-1) with
      | true =>
        rw [g2, Bool.not_true, Bool.false_and, if_neg (by decide)] at kr
        rw [if_pos rfl]
        exact no kr
      | false =>
        rw [g2, Bool.not_false, Bool.true_and] at kr
        obtain ⟨b2, hb2, e2⟩ := lq_drafted (N := N) (by omega) h R (k0 := (kl : Int)) (by omega) (by omega)
        have ebb : b2 = b := by rw [Bool.eq_iff_iff, hb2, hb]
        rw [if_neg (by decide), e2, lba_i, il_B, ebb]
        cases hbb : b with
        | false =>
          rw [hbb, if_neg (by decide)] at kr
          rw [if_neg (by decide)]
          exact no kr
        | true =>
          rw [hbb, if_pos rfl] at kr
          have hD := h.2.2.2.2.2.1.1
          have c0 := mk_add h.1 hm (by omega) (by omega) (k := (kl : Int)) ⟨by omega, by omega⟩ (p := (p : Int)) (by omega) (by rw [Int.toNat_natCast]; exact tp) (nm := (nm : Int)) ⟨by omega, by omega⟩
          obtain ⟨w, w1, w2⟩ := lq_adds_186 (N := N) (S := S) h R (x1 := zI (m : Nat)) (x14 := zI (p : Nat)) (x15 := zI (kl : Nat)) (x16 := zI (nm : Nat)) (x17 := zI (wE W : Nat)) (C := 0) (D := 0) (pL_adds_220 N) N (wD W).length 0 (((zI ((wD W).length : Nat)).toInt64) <<< ((50 : Int32).toInt64 &&& 63)) (by omega) (by omega) (wBt_0 (by omega))
          have w1 : pL_adds_186 N (pL_adds_220 N) N (zI (m : Nat)) (zI (p : Nat)) (zI (kl : Nat)) (zI (nm : Nat)) (zI (wE W : Nat)) (((zI ((wD W).length : Nat)).toInt64) <<< ((50 : Int32).toInt64 &&& 63)) (0 : Int32) S L 0 0 = _ := w1
          have hlw : lW w (wD W) := wBt_lW hD (fun i hi => by
            have := lqDb h hi
            rw [(d_at hi).1, (d_at hi).2] at this
            omega) w2
          have eA : ((100 : Int32) * zI (kl : Nat)) + zI (nm : Nat) = zI (lA (wChA W m (kl : Int) (p : Int) (nm : Int))) := by
            rw [zL_100, zI_mul, zI_add]
            rfl
          obtain ⟨L', p1, p2, p3, -⟩ := lq_makes (N := N) (by omega) h R hm hn c0 (xa := ((100 : Int32) * zI (kl : Nat)) + zI (nm : Nat)) (xb := zI (p : Nat)) (w := w) (fun _ => eA) (fun _ => rfl) (fun _ => hlw)
          have p1 : pL_makes N (zI (m : Nat)) (0 : Int32) (zI (wE W : Nat)) (((100 : Int32) * zI (kl : Nat)) + zI (nm : Nat)) (zI (p : Nat)) w L = _ := p1
          obtain ⟨S', q1, q2, q3⟩ := id kr
          rw [if_pos rfl, gq8, aq8 R]
          simp only [nml_i]
          rw [w1]
          simp only [pL_adds_220, slv_i]
          rw [gq0, aq0 R, p1, lba_i, gq0, gq0, gq8, p3 _ (by decide), aq0 R, zs1]
          unfold pL_adds_267
          have hO := lOk_ad h hm hn hE12 q2 c0 ⟨by show wE W < 12; omega, fun _ => ⟨by show (kl : Int) < 3; omega, by show (p : Int) < 12; omega, hD, fun x hx => by
            obtain ⟨i, hi, e⟩ := List.getElem_of_mem hx
            have hi : i < (wD W).length := hi
            have e : (wD W)[i] = x := e
            have := lqDb h hi
            rw [(d_at hi).1, (d_at hi).2, e] at this
            exact this⟩, fun a b => by have a : 1 ≤ 0 := a; omega, fun g => by have g : 0 = 4 := g; omega, fun g => by have g : 0 = 5 := g; omega, fun g => by have g : 0 = 6 := g; omega, fun g => by have g : 0 = 7 := g; omega⟩ rfl
          exact lGo_tail (lc_0 (ans_ok kr)) rfl hO (lRel_ad h p2)
    · rw [Bool.eq_false_iff.mpr g1, Bool.false_and, if_neg (by decide)] at kr
      rw [if_neg g1]
      exact no kr
  · rw [if_neg (fun q => gl ((lv_9 Q (by omega)).mp q))]
    simp only [pL_adds_65, pL_adds_145, pL_adds_166, if_true, i0e0]
    rw [if_pos (show (-9 : Int32) ≤ 0 by decide)]
    unfold pL_adds_267
    exact lGo_tail (lc_0 (ans_1 (k_add_no (N := N) h.1 K hm (by omega) gl))) rfl h R
theorem lq_adds (hN : 20000 ≤ N) (h : lOk W) (K : kRel S W) (R : lRel L W) (hm : m < 4) (Q : lTr L (wTr W m)) (hn : wN W < 40) (hE12 : wE W < 12) : lGo (pL_adds N (zI (m : Nat)) z S L) := by
  have hE1 := h.1.2.2.2.2.2.2.1.1
  obtain ⟨p, hp, l1⟩ := q_low (N := N) (L := L) (x := z) (n := wE W) (by omega) (by omega)
  obtain ⟨kl, hkl, l2⟩ := q_low (N := N) (L := L) (x := z >>> ((4 : Int32) &&& 31)) (n := 3) (by omega) (by omega)
  obtain ⟨b, hb, l3⟩ := q_low (N := N) (L := L) (x := z >>> ((12 : Int32) &&& 31)) (n := 2) (by omega) (by omega)
  have l3 : pL_low N (z >>> ((12 : Int32) &&& 31)) (2 : Int32) L = _ := l3
  obtain ⟨n1, hn1, l4⟩ := q_low (N := N) (L := L) (x := z >>> ((6 : Int32) &&& 31)) (n := 100) (by omega) (by omega)
  have l4 : pL_low N (z >>> ((6 : Int32) &&& 31)) (100 : Int32) L = _ := l4
  obtain ⟨n2, hn2, l5⟩ := q_low (N := N) (L := L) (x := z >>> ((6 : Int32) &&& 31)) (n := 3) (by omega) (by omega)
  have l5 : pL_low N (z >>> ((6 : Int32) &&& 31)) (3 : Int32) L = _ := l5
  simp only [pL_adds, pL_adds_41]
  rw [gq0, aq0 R, l1, lba_i, gq3, aq3 R, l2, lba_i, l3, lba_i]
  by_cases g : b = 0
  · rw [if_pos (by rw [g]; rfl), l4, lba_i, g36 (by omega), cn36 (by omega)]
    exact lq_adds_65 hN h K R hm Q hn hE12 hp hkl hn1
  · rw [if_neg (show ¬ zI (b : Nat) = (0 : Int32) from nk g (by omega) (j := 0) (by omega)), l5, lba_i, g36 (by omega), cn36 (by omega)]
    exact lq_adds_65 hN h K R hm Q hn hE12 hp hkl (by omega)
end LQ5
