-- LEVEL 2, THE LAW: DRAFTS OF A TURN, ALL TURNS
section LTD
variable {N n9 m : Nat} {xs9 : Nat → Int32} {S : kS} {L : lS} {W : sW} {z0 x20 : Int32} {j C0 D0 : Nat} {Kn : Int32 → kS → lS → Nat → Nat → Option (Int32 × kS × lS)}
theorem lOk_dr (h : lOk W) {D : List (Nat × Nat)} (hw : wOk (wDr W D)) (h4 : D.length ≤ 4) (h5 : ∀ x ∈ D, x.2 < 60) : lOk (wDr W D) := by
  obtain ⟨-, h2, h3, h3b, h3c, -, h7⟩ := h
  exact ⟨hw, h2, h3, h3b, h3c, ⟨h4, h5⟩, h7⟩
theorem lRel_dr (R : lRel L W) {D : List (Nat × Nat)} {L' : lS} (hD : D.length ≤ 4) (e0 : ∀ i, (i < 8 ∨ 13 ≤ i) → aI L' 0 i = aI L 0 i) (ek : ∀ k, k ≠ 0 → aI L' k = aI L k) (eJ : aJ L' = aJ L) (e8 : aI L' 0 8 = zI (D.length : Nat)) (e9 : ∀ i (h : i < D.length), aI L' 0 (9 + i) = zI ((100 * D[i].1 + D[i].2 : Nat) : Int)) : lRel L' (wDr W D) := by
  obtain ⟨⟨r1, r2, r3, r4⟩, r5, -, ⟨r8, r8b⟩, r9, r10, r11⟩ := R
  refine ⟨⟨?_, ?_, ?_, ?_⟩, fun a ha => ?_, ⟨e8, e9⟩, ⟨fun a ha => ?_, fun k hk => ?_⟩, fun a e ha he => ?_, fun i hi => ?_, fun a i j ha hi hj => ?_⟩
  · rw [e0 _ (by omega)]; exact r1
  · rw [e0 _ (by omega)]; exact r2
  · rw [e0 _ (by omega)]; exact r3
  · rw [e0 _ (by omega)]; exact r4
  · rw [e0 _ (by omega)]; exact r5 a ha
  · rw [e0 _ (by omega)]; exact r8 a ha
  · rw [ek 1 (by omega)]; exact r8b k hk
  · rw [e0 _ (by omega)]; exact r9 a e ha he
  · refine lCh_eq ?_ ?_ ?_ ?_ ?_ ?_ (r10 i hi)
    all_goals first | rw [eJ] | rw [ek _ (by omega)]
  · rw [ek 8 (by omega)]; exact r11 a i j ha hi hj
theorem lq_550 (hN : 20000 ≤ N) (h : lOk W) (K : kRel S W) (R : lRel L W) (hm : m < 4) (Q : lTr L (wTr W m)) (B : tRm C0 D0) (hx : ¬ x20 = 0 → wN W < 40) {a : Nat} (ha : a < 34) : tGo Kn j C0 D0 (pL_law_550 N n9 xs9 Kn (zI (j : Nat)) z0 (zI (a : Nat)) (zI (m : Nat)) x20 S L C0 D0) := by
  obtain ⟨B1, B2⟩ := id B
  unfold pL_law_550
  by_cases g1 : zI (a : Nat) = (11 : Int32)
  · rw [if_pos g1]
    obtain ⟨S1, a1, a2, a3⟩ := k_undraft (N := N) h.1 K
    rw [a1, lbm_i, gq8, aq8 R, if_pos rfl]
    simp only [pL_law_573, slv_i]
    rw [gq8]
    refine lq_1117 (C := C0) (D := D0) (L := uI L 0 (8 : Int32).toNatClampNeg 0) hN (lOk_dr h a2 (by show 0 ≤ 4; omega) (fun x hx => absurd hx List.not_mem_nil)) a3 (lRel_dr R (by show 0 ≤ 4; omega) (fun i hi => ?_) (fun k hk => ?_) rfl ?_ (fun i hi => absurd hi (Nat.not_lt_zero i))) B (by omega) (by omega)
    · rw [show (8 : Int32).toNatClampNeg = 8 from rfl, aU, if_neg (by omega)]
    · rw [aI_uI_o _ _ _ hk]
    · rw [show (8 : Int32).toNatClampNeg = 8 from rfl, aU, if_pos ⟨rfl, rfl⟩]; rfl
  · rw [if_neg g1]
    by_cases g2 : zI (a : Nat) ≤ (11 : Int32)
    · rw [if_pos g2]; exact lq_655 hN h K R hm Q B hx
    · rw [if_neg g2]
      by_cases g3 : (16 : Int32) ≤ zI (a : Nat)
      · rw [if_pos g3]; exact lq_655 hN h K R hm Q B hx
      · rw [if_neg g3]
        by_cases g4 : x20 = 0
        · rw [if_pos g4]; exact lq_655 hN h K R hm Q B hx
        · rw [if_neg g4]
          have hn := hx g4
          have g2 : ¬ a ≤ 11 := fun q => g2 (by rw [zL_11, zI_le (by omega) (by omega) (by omega) (by omega)]; omega)
          have g3 : ¬ 16 ≤ a := fun q => g3 (by rw [zL_16, zI_le (by omega) (by omega) (by omega) (by omega)]; omega)
          have e12 : zI (a : Nat) - (12 : Int32) = zI ((a - 12 : Nat) : Int) := by
            rw [show (12 : Int32) = zI 12 from rfl, zI_sub]
            congr 1
            omega
          simp only [pL_law_622]
          rw [e12]
          by_cases g5 : zI ((a - 12 : Nat) : Int) = (0 : Int32)
          · rw [if_pos g5]
            exact lq_act hN B (by omega) (by omega) (lq_values hN h K R hm Q hn (kk := 1) (by omega))
          · rw [if_neg g5]
            have : a - 12 ≠ 0 := fun q => g5 (by rw [q]; rfl)
            exact lq_act hN B (by omega) (by omega) (lq_values hN h K R hm Q hn (kk := a - 12) (by omega))
theorem lq_462 (hN : 20000 ≤ N) (h : lOk W) (K : kRel S W) (R : lRel L W) (hm : m < 4) (Q : lTr L (wTr W m)) (B : tRm C0 D0) (hx : ¬ x20 = 0 → wN W < 40) {a : Nat} (ha : a < 34) : tGo Kn j C0 D0 (pL_law_462 N n9 xs9 Kn (zI (j : Nat)) z0 (zI (a : Nat)) (zI (m : Nat)) x20 S L C0 D0) := by
  obtain ⟨B1, B2⟩ := id B
  have hD4 := h.2.2.2.2.2.1.1
  have hD5 := h.2.2.2.2.2.1.2
  simp only [pL_law_462, slv_i]
  by_cases g1 : (11 : Int32) ≤ zI (a : Nat)
  · rw [if_pos g1]; exact lq_550 hN h K R hm Q B hx ha
  · rw [if_neg g1, gq8, aq8 R, zL_4, il_le (by omega) (by omega) (by omega) (by omega)]
    by_cases g2 : 4 ≤ (wD W).length
    · rw [if_pos (by omega)]; exact lq_550 hN h K R hm Q B hx ha
    · rw [if_neg (by omega)]
      obtain ⟨p, hp, l1⟩ := q_low (N := N) (L := L) (x := z0 >>> ((7 : Int32) &&& 31)) (n := 3) (by omega) (by omega)
      have l1 : pL_low N (z0 >>> ((7 : Int32) &&& 31)) (3 : Int32) L = _ := l1
      obtain ⟨v, hv, l2⟩ := q_low (N := N) (L := L) (x := z0 >>> ((9 : Int32) &&& 31)) (n := 60) (by omega) (by omega)
      have l2 : pL_low N (z0 >>> ((9 : Int32) &&& 31)) (60 : Int32) L = _ := l2
      obtain ⟨S1, a1, a2, a3⟩ := k_draft (N := N) h.1 K (a := p) (v := v) (by rw [h.2.1.1]; exact hp) (by omega) (by omega)
      have ev : ((100 : Int32) * zI (p : Nat)) + zI (v : Nat) = zI ((100 * p + v : Nat) : Int) := by rw [zL_100, zI_mul, zI_add]; rfl
      rw [l1, lba_i, l2, lba_i, gq8, aq8 R, z9p, gd_c (by omega) (by omega), zI_cn (by omega), ev, gq8, gq8]
      generalize hL1 : uI L 0 (9 + (wD W).length) (zI ((100 * p + v : Nat) : Int)) = L1
      have f8 : aI L1 0 (8 : Int32).toNatClampNeg = zI ((wD W).length : Nat) := by
        rw [← hL1, show (8 : Int32).toNatClampNeg = 8 from rfl, aU, if_neg (by omega)]
        exact aq8 R
      rw [f8, zs1, a1, lbx_i (by omega), gq8]
      have f8b : ∀ w : Int32, aI (uI L1 0 (8 : Int32).toNatClampNeg w) 0 (8 : Int32).toNatClampNeg = w := fun w => by
        rw [aU, if_pos ⟨rfl, rfl⟩]
      rw [f8b, if_pos rfl]
      simp only [pL_law_545]
      have el : ((wD W) ++ [(p, v)]).length = (wD W).length + 1 := by rw [List.length_append]; rfl
      refine lq_1117 hN (lOk_dr h a2 (by rw [el]; omega) (fun x hx => ?_)) a3 (lRel_dr R (by rw [el]; omega) (fun i hi => ?_) (fun k hk => ?_) ?_ ?_ (fun i hi => ?_)) B (by omega) (by omega)
      · rcases List.mem_append.mp hx with hx | hx
        · exact hD5 x hx
        · rw [List.mem_singleton.mp hx]; exact hv
      · rw [show (8 : Int32).toNatClampNeg = 8 from rfl, aU, if_neg (by omega), ← hL1, aU, if_neg (by omega)]
      · rw [aI_uI_o _ _ _ hk, ← hL1, aI_uI_o _ _ _ hk]
      · rw [aJ_uI, ← hL1, aJ_uI]
      · rw [show (8 : Int32).toNatClampNeg = 8 from rfl, aU, if_pos ⟨rfl, rfl⟩, el]
      · rw [show (8 : Int32).toNatClampNeg = 8 from rfl, aU, if_neg (by omega), ← hL1, aU]
        have hi2 : i < (wD W).length + 1 := by rw [← el]; exact hi
        by_cases g : i < (wD W).length
        · rw [if_neg (by omega), List.getElem_append_left g]
          exact R.2.2.1.2 i g
        · have : i = (wD W).length := by omega
          subst this
          rw [if_pos ⟨rfl, rfl⟩, List.getElem_append_right (Nat.le_refl _)]
          simp
theorem lq_380 (hN : 20000 ≤ N) (h : lOk W) (K : kRel S W) (R : lRel L W) (hm : m < 4) (B : tRm C0 D0) (hx : ¬ x20 = 0 → wN W < 40) {a : Nat} (ha : a < 34) : tGo Kn j C0 D0 (pL_law_380 N n9 xs9 Kn x20 (zI (j : Nat)) z0 (zI (a : Nat)) (zI (m : Nat)) S L C0 D0) := by
  obtain ⟨L1, p1, p2, Q⟩ := lq_lays (N := N) (by omega) h R hm
  have R1 := frL_lRel p2 R
  have hE := h.2.2.1
  unfold pL_law_380
  rw [p1, lba_i]
  by_cases g1 : (8 : Int32) ≤ zI (a : Nat)
  · rw [if_pos g1]; exact lq_462 hN h K R1 hm Q B hx ha
  · rw [if_neg g1, gq0, aq0 R1, show (12 : Int32) = zI 12 from rfl, il_le (by omega) (by omega) (by omega) (by omega)]
    by_cases g2 : 12 ≤ wE W
    · rw [if_pos (by omega)]; exact lq_462 hN h K R1 hm Q B hx ha
    · rw [if_neg (by omega)]
      by_cases g3 : x20 = 0
      · rw [if_pos g3]; exact lq_462 hN h K R1 hm Q B hx ha
      · rw [if_neg g3]
        exact lq_act hN B (by omega) (by omega) (lq_adds hN h K R1 hm Q (hx g3) (by omega))
theorem lq_359 (hN : 20000 ≤ N) (h : lOk W) (K : kRel S W) (R : lRel L W) (B : tRm C0 D0) {t : Nat} (ht : 0 < t) (ht4 : t ≤ 4) {y : Int32} {a : Nat} (ha : a < 34) : tGo Kn j C0 D0 (pL_law_359 N n9 xs9 Kn (zI (t : Nat)) y (zI (j : Nat)) z0 (zI (a : Nat)) S L C0 D0) := by
  have hn40 := h.2.2.2.1
  obtain ⟨m, hm, l1⟩ := q_low (N := N) (L := L) (x := y) (n := t) ht (by omega)
  unfold pL_law_359
  rw [l1, lba_i, gq1, aq1 R, show (40 : Int32) = zI 40 from rfl, il_le (by omega) (by omega) (by omega) (by omega)]
  by_cases g : 40 ≤ wN W
  · rw [if_pos (by omega)]
    exact lq_380 hN h K R (by omega) B (fun q => absurd rfl q) ha
  · rw [if_neg (by omega)]
    exact lq_380 hN h K R (by omega) B (fun _ => by omega) ha
theorem scr_some (hn : n9 ≤ 260) {k : Nat} (hk : k < 76) : ∃ v, scrI n9 xs9 (zI (k : Nat)) = some v := by
  unfold scrI
  by_cases g : Int32.ofNat n9 ≤ zI (k : Nat)
  · rw [if_pos g]; exact ⟨_, rfl⟩
  · rw [if_neg g]
    have e : Int32.ofNat n9 = zI (n9 : Int) := zI_n n9
    rw [e, zI_le (by omega) (by omega) (by omega) (by omega)] at g
    rw [gd_c (by omega) (by omega)]
    exact ⟨_, rfl⟩
theorem lbc_i {β : Type} {v : Int32} {k : Int32 → Option β} : lbc (some v) k = k v := rfl
set_option maxRecDepth 65536 in
theorem lq_314 (hN : 20000 ≤ N) (hn : n9 ≤ 260) : ∀ (n k j : Nat) (S : kS) (L : lS) (W : sW) (C D : Nat), j + k = 76 → k < n → lOk W → kRel S W → lRel L W → C + 1460 * k ≤ 600074 → D + 27860 * k ≤ 7301550 → ∃ S' L', pL_law_314 N n9 xs9 n (zI (j : Nat)) S L C D = some (1, S', L')
  | 0, k, j, S, L, W, C, D, _, hk, _, _, _, _, _ => by omega
  | n + 1, 0, j, S, L, W, C, D, hj, hk, h, K, R, hC, hD => by
    refine ⟨S, L, ?_⟩
    unfold pL_law_314
    have hj : j = 76 := by omega
    subst hj
    rw [if_pos (show (76 : Int32) ≤ zI ((76 : Nat) : Int) by decide), lre_i (by omega)]
  | n + 1, k + 1, j, S, L, W, C, D, hj, hk, h, K, R, hC, hD => by
    obtain ⟨v, hv⟩ := scr_some (xs9 := xs9) hn (k := j) (by omega)
    obtain ⟨a, ha, l1⟩ := q_low (N := N) (L := L) (x := v) (n := 34) (by omega) (by omega)
    have l1 : pL_low N v (34 : Int32) L = _ := l1
    obtain ⟨b, hb, l2⟩ := q_low (N := N) (L := L) (x := v >>> ((16 : Int32) &&& 31)) (n := 2) (by omega) (by omega)
    have l2 : pL_low N (v >>> ((16 : Int32) &&& 31)) (2 : Int32) L = _ := l2
    unfold pL_law_314
    rw [if_neg (show ¬ (76 : Int32) ≤ zI (j : Nat) by rw [show (76 : Int32) = zI 76 from rfl, zI_le (by omega) (by omega) (by omega) (by omega)]; omega), hv, lbc_i, l1, lba_i, l2, lba_i]
    have fin : ∀ o, tGo (pL_law_314 N n9 xs9 n) j C D o → ∃ S' L', o = some (1, S', L') := fun o g => by
      obtain ⟨S1, L1, W1, C1, D1, e, h1, h2, h3, h4, h5⟩ := g
      rw [e]
      exact lq_314 hN hn n k (j + 1) S1 L1 W1 C1 D1 (by omega) (by omega) h1 h2 h3 (by omega) (by omega)
    have hC1 : C + 1460 ≤ 600074 := by omega
    have hD1 : D + 27860 ≤ 7301550 := by omega
    have B : tRm C D := ⟨hC1, hD1⟩
    by_cases g : zI (b : Nat) = (0 : Int32)
    · rw [if_pos g]
      exact fin _ (lq_359 hN h K R B (t := 4) (by omega) (by omega) ha)
    · rw [if_neg g]
      exact fin _ (lq_359 hN h K R B (t := 2) (by omega) (by omega) ha)
end LTD
