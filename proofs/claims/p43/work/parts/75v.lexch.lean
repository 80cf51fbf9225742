-- LEVEL 2, THE LAW: EXCHANGES
section LQ6
variable {N m : Nat} {S : kS} {L : lS} {W : sW} {z : Int32}
def frE (L L' : lS) : Prop := (∀ k, k ≠ 8 → aI L' k = aI L k) ∧ aJ L' = aJ L
theorem frE.trans {L L1 L2 : lS} (h : frE L L1) (h2 : frE L1 L2) : frE L L2 := ⟨fun k hk => (h2.1 k hk).trans (h.1 k hk), h2.2.trans h.2⟩
theorem frE_u (L : lS) (j : Nat) (v : Int32) : frE L (uI L 8 j v) := ⟨fun k hk => aI_uI_o _ _ _ hk, rfl⟩
theorem frE_lCh {L L' : lS} (f : frE L L') {i : Nat} {c : sCh} (C : lCh L i c) : lCh L' i c := by
  refine lCh_eq ?_ ?_ ?_ ?_ ?_ ?_ C
  · rw [f.1 2 (by omega)]
  · rw [f.1 3 (by omega)]
  · rw [f.1 4 (by omega)]
  · rw [f.1 5 (by omega)]
  · rw [f.1 6 (by omega)]
  · rw [f.2]
theorem lq_exch_55 (h : lOk W) (R : lRel L W) {g r most : Nat} (hg : g < 4) (hr : r < 4) (hgr : g ≠ r) (hmost : most ≤ 250) {C D : Nat} (K : Int32 → Int32 → Int32 → Int32 → kS → lS → Nat → Nat → Option (Int32 × kS × lS)) : ∀ (n k i c : Nat) (tl : Nat → Nat → Nat) (L1 : lS), i + k = (wO W).length → k < n → c ≤ i → frE L L1 → lTd L1 (up3 (wT W) r tl) → exO W g r tl → exI W g r i tl → ∃ L', pL_exchanges_55 N K n (zI (g : Nat)) (zI (r : Nat)) (zI (most : Nat)) (zI (c : Nat)) (zI (i : Nat)) S L1 C D = K (zI (g : Nat)) (zI (r : Nat)) (zI (most : Nat)) (zI ((exT (wC W) (wT W g) g r most ((wO W).drop i) tl c).2 : Nat)) S L' C D ∧ frE L L' ∧ lTd L' (up3 (wT W) r (exT (wC W) (wT W g) g r most ((wO W).drop i) tl c).1)
  | 0, k, i, c, tl, L1, _, hn, _, _, _, _, _ => by omega
  | n + 1, k, i, c, tl, L1, hk, hn, hci, fr, T1, O1, I1 => by
    have ho := lq_ho h
    have hlen := wO_len h.1
    simp only [pL_exchanges_55, pL_exchanges_122, nm_i, slv_i]
    rw [gq1, show aI L1 0 (1 : Int32).toNatClampNeg = zI (wN W : Nat) by rw [fr.1 0 (by omega)]; exact aq1 R, il_le (by omega) (by omega) (by omega) (by omega)]
    cases k with
    | zero =>
      rw [if_pos (by omega), List.drop_eq_nil_of_le (by omega)]
      exact ⟨L1, rfl, fr, T1⟩
    | succ k =>
      rw [if_neg (by omega), il_le (by omega) (by omega) (by omega) (by omega)]
      by_cases gm : most ≤ c
      · rw [if_pos (by omega), exT_full gm]
        exact ⟨L1, rfl, fr, T1⟩
      · have hi : i < (wO W).length := by omega
        have hmem : (wO W)[i] ∈ wO W := List.getElem_mem hi
        have Ch := frE_lCh fr (R.2.2.2.2.2.1 i hi)
        have hc := lq_hO h _ hmem
        have hcM := hc.2.2.1
        have hcN := hc.2.2.2.1
        have hcS := hc.2.2.2.2.1
        have hR : cR (wC W (wO W)[i]) < 2000 := by unfold cR; omega
        have hR4 : cR (wC W (wO W)[i]) % 4 = cM (wC W (wO W)[i]) := by unfold cR; omega
        have hn40 := h.2.2.2.1
        have wgg := wT_le h.1 hg hg hcM
        have wrr := wT_le h.1 hr hr hcM
        have tb : tl r (cM (wC W (wO W)[i])) ≤ 40 := by
          rcases O1.2.2 (cM (wC W (wO W)[i])) with q | q <;> omega
        have ed : (wO W).drop i = (wO W)[i] :: (wO W).drop (i + 1) := List.drop_eq_getElem_cons hi
        have kg := q_known (N := N) (t := up3 (wT W) r tl) hg (show i < 41 by omega) Ch hc T1 (by rw [up3_o _ _ hgr]; omega)
        rw [up3_o _ _ hgr] at kg
        have kr := q_known (N := N) (t := up3 (wT W) r tl) hr (show i < 41 by omega) Ch hc T1 (by rw [up3_s]; omega)
        rw [up3_s] at kr
        rw [if_neg (by omega), kg, lba_i, il_B, zs1 i, ed]
        have eT : exT (wC W) (wT W g) g r most ((wO W)[i] :: (wO W).drop (i + 1)) tl c = if c < most ∧ gotB (wT W g) g (wC W (wO W)[i]) = true ∧ gotB tl r (wC W (wO W)[i]) = false then exT (wC W) (wT W g) g r most ((wO W).drop (i + 1)) (up2 tl r (cM (wC W (wO W)[i])) (cN (wC W (wO W)[i]) + 1)) (c + 1) else exT (wC W) (wT W g) g r most ((wO W).drop (i + 1)) tl c := rfl
        rw [eT]
        cases q1 : gotB (wT W g) g (wC W (wO W)[i]) with
        | false =>
          rw [if_neg (by decide), if_neg (show ¬ (c < most ∧ false = true ∧ gotB tl r (wC W (wO W)[i]) = false) from fun q => Bool.noConfusion q.2.1)]
          exact lq_exch_55 h R hg hr hgr hmost K n k (i + 1) c tl L1 (by omega) (by omega) (by omega) fr T1 O1 (ex_inv hi I1 (fun b => Nat.le_refl _) (fun q => by rw [q1] at q; cases q))
        | true =>
          rw [if_pos rfl, kr, lba_i, il_B]
          cases q2 : gotB tl r (wC W (wO W)[i]) with
          | true =>
            rw [if_pos rfl, if_neg (show ¬ (c < most ∧ true = true ∧ true = false) from fun q => Bool.noConfusion q.2.2)]
            exact lq_exch_55 h R hg hr hgr hmost K n k (i + 1) c tl L1 (by omega) (by omega) (by omega) fr T1 O1 (ex_inv hi I1 (fun b => Nat.le_refl _) (fun _ => q2))
          | false =>
            have en := ex_num h.1 hi I1 q1 q2
            have e1 : ((20 : Int32) * zI (r : Nat)) + (zI (cR (wC W (wO W)[i]) : Nat) - zI (cR (wC W (wO W)[i]) : Nat) / (4 : Int32) * (4 : Int32)) = zI ((20 * r + cM (wC W (wO W)[i]) : Nat) : Int) := by
              rw [show (4 : Int32) = zI ((4 : Nat) : Int) from rfl, z_mod (by omega) (by omega) (by omega), hR4, zL_20, zI_mul, zI_add]
              rfl
            have g64 : ∀ {β : Type} {K : Option β}, gd (zI ((20 * r + cM (wC W (wO W)[i]) : Nat) : Int)) 64 K = K := gd_c (by omega) (by omega)
            have t9 := T1 r r (cM (wC W (wO W)[i])) hr hr hcM
            rw [up3_s, show 16 * r + 4 * r + cM (wC W (wO W)[i]) = 20 * r + cM (wC W (wO W)[i]) by omega] at t9
            rw [if_neg (by decide), if_pos (show c < most ∧ true = true ∧ false = false from ⟨by omega, rfl, rfl⟩), gd_c (by omega) (by omega), zI_cn (by omega), Ch.1, e1, g64, g64, zI_cn (by omega), t9, zs1 c, zs1 (tl r _)]
            have hup : ∀ b, tl r b ≤ up2 tl r (cM (wC W (wO W)[i])) (cN (wC W (wO W)[i]) + 1) r b := fun b => by
              by_cases q : b = cM (wC W (wO W)[i])
              · rw [q, up2_s]; omega
              · rw [up2_o _ _ (fun x => q x.2)]; exact Nat.le_refl _
            refine lq_exch_55 h R hg hr hgr hmost K n k (i + 1) (c + 1) _ _ (by omega) (by omega) (by omega) (fr.trans (frE_u _ _ _)) (fun a i' j ha hi' hj => ?_) ⟨fun a ha => ?_, fun b => Nat.le_trans (O1.2.1 b) (hup b), fun b => ?_⟩ (ex_inv hi I1 hup (fun _ => by rw [gotB_iff, up2_s]; omega))
            · have tt := T1 a i' j ha hi' hj
              rw [aI_uI_s]
              by_cases q : a = r
              · rw [q, up3_s] at tt ⊢
                by_cases q2 : i' = r ∧ j = cM (wC W (wO W)[i])
                · rw [q2.1, q2.2, up2_s, show 16 * r + 4 * r + cM (wC W (wO W)[i]) = 20 * r + cM (wC W (wO W)[i]) by omega, upd_s, en]
                · rw [up2_o _ _ q2, upd_o _ _ (fun x => q2 (by omega))]
                  exact tt
              · rw [up3_o _ _ q] at tt ⊢
                rw [upd_o _ _ (fun x => q (by omega))]
                exact tt
            · funext b
              rw [up2_o _ _ (fun x => ha x.1)]
              exact congrFun (O1.1 a ha) b
            · by_cases q : b = cM (wC W (wO W)[i])
              · rw [q, up2_s]
                exact Or.inr (gotB_iff.mp q1)
              · rw [up2_o _ _ (fun x => q x.2)]
                exact O1.2.2 b
/-- the two rows of what is told, merged up to the place i -/
def mgI (L1 : lS) (T : Nat → Nat → Nat → Nat) (M : Nat → Nat → Nat) (g r i : Nat) : Prop := ∀ a q, a < 4 → q < 16 → aI L1 8 (16 * a + q) = if q < i ∧ (a = g ∨ a = r) then zI (M (q / 4) (q % 4) : Nat) else zI (T a (q / 4) (q % 4) : Nat)
theorem lq_exch_131 {T : Nat → Nat → Nat → Nat} {M : Nat → Nat → Nat} {g r : Nat} (hg : g < 4) (hr : r < 4) (hgr : g ≠ r) (hM : ∀ i j, M i j = max (T g i j) (T r i j)) (hT : ∀ a i j, a < 4 → i < 4 → j < 4 → T a i j < 1000) {C D : Nat} {x8 x9 : Int32} (K : Int32 → Int32 → Int32 → Int32 → kS → lS → Nat → Nat → Option (Int32 × kS × lS)) : ∀ (n k i : Nat) (L1 : lS), i + k = 16 → k < n → frE L L1 → mgI L1 T M g r i → ∃ L', pL_exchanges_131 N K n (zI (g : Nat)) (zI (r : Nat)) x8 x9 (zI (i : Nat)) S L1 C D = K (zI (g : Nat)) (zI (r : Nat)) x8 x9 S L' C D ∧ frE L L' ∧ mgI L' T M g r 16
  | 0, k, i, L1, _, hn, _, _ => by omega
  | n + 1, k, i, L1, hk, hn, fr, I => by
    simp only [pL_exchanges_131, pL_exchanges_198, nm_i, slv_i]
    rw [zL_16, il_le (by omega) (by omega) (by omega) (by omega), ← zL_16]
    cases k with
    | zero =>
      rw [if_pos (by omega)]
      rw [show i = 16 by omega] at I
      exact ⟨L1, rfl, fr, I⟩
    | succ k =>
      have hi : i < 16 := by omega
      have eg : ((16 : Int32) * zI (g : Nat)) + zI (i : Nat) = zI ((16 * g + i : Nat) : Int) := by rw [zL_16, zI_mul, zI_add]; rfl
      have er : ((16 : Int32) * zI (r : Nat)) + zI (i : Nat) = zI ((16 * r + i : Nat) : Int) := by rw [zL_16, zI_mul, zI_add]; rfl
      have g1 : ∀ {β : Type} {K : Option β}, gd (zI ((16 * g + i : Nat) : Int)) 64 K = K := gd_c (by omega) (by omega)
      have g2 : ∀ {β : Type} {K : Option β}, gd (zI ((16 * r + i : Nat) : Int)) 64 K = K := gd_c (by omega) (by omega)
      have ig := I g i hg hi
      have ir := I r i hr hi
      rw [if_neg (fun q => by omega)] at ig ir
      have hgT := hT g (i / 4) (i % 4) hg (by omega) (by omega)
      have hrT := hT r (i / 4) (i % 4) hr (by omega) (by omega)
      have ih := fun (v : Nat) (hv : v = M (i / 4) (i % 4)) => lq_exch_131 hg hr hgr hM hT (C := C) (D := D) (x8 := x8) (x9 := x9) K n k (i + 1) (uI (uI L1 8 (16 * g + i) (zI (v : Nat))) 8 (16 * r + i) (zI (v : Nat))) (by omega) (by omega) (fr.trans ((frE_u _ _ _).trans (frE_u _ _ _))) (fun a q ha hq => by
        have iq := I a q ha hq
        simp only [aU, true_and]
        by_cases c1 : a = r ∧ q = i
        · rw [c1.1, c1.2, if_pos rfl, if_pos ⟨by omega, Or.inr rfl⟩, hv]
        · rw [if_neg (show ¬ 16 * a + q = 16 * r + i by omega)]
          by_cases c2 : a = g ∧ q = i
          · rw [c2.1, c2.2, if_pos rfl, if_pos ⟨by omega, Or.inl rfl⟩, hv]
          · rw [if_neg (show ¬ 16 * a + q = 16 * g + i by omega), iq]
            by_cases c3 : q < i ∧ (a = g ∨ a = r)
            · rw [if_pos c3, if_pos ⟨by omega, c3.2⟩]
            · rw [if_neg c3, if_neg (fun x => c3 ⟨by
                by_cases c4 : q = i
                · rcases x.2 with y | y
                  · exact absurd ⟨y, c4⟩ c2
                  · exact absurd ⟨y, c4⟩ c1
                · omega, x.2⟩)])
      rw [if_neg (by omega), eg, er]
      simp only [g1, g2, zI_cn (show 16 * g + i < 2147483648 by omega), zI_cn (show 16 * r + i < 2147483648 by omega), aI_uI_s, upd_s]
      rw [ig, ir, il_le (by omega) (by omega) (by omega) (by omega), zs1]
      have hMx := hM (i / 4) (i % 4)
      by_cases c : T r (i / 4) (i % 4) ≤ T g (i / 4) (i % 4)
      · rw [if_pos (by omega)]
        exact ih _ (by omega)
      · rw [if_neg (by omega)]
        exact ih _ (by omega)
theorem lq_exchanges (hN : 20000 ≤ N) (h : lOk W) (K : kRel S W) (R : lRel L W) : lGo (pL_exchanges N z S L) := by
  obtain ⟨g, hg, l1⟩ := q_low (N := N) (L := L) (x := z) (n := 4) (by omega) (by omega)
  have l1 : pL_low N z (4 : Int32) L = _ := l1
  obtain ⟨d, hd, l2⟩ := q_low (N := N) (L := L) (x := z >>> ((2 : Int32) &&& 31)) (n := 3) (by omega) (by omega)
  have l2 : pL_low N (z >>> ((2 : Int32) &&& 31)) (3 : Int32) L = _ := l2
  obtain ⟨b, hb, l3⟩ := q_low (N := N) (L := L) (x := z >>> ((9 : Int32) &&& 31)) (n := 2) (by omega) (by omega)
  have l3 : pL_low N (z >>> ((9 : Int32) &&& 31)) (2 : Int32) L = _ := l3
  obtain ⟨n1, hn1, l4⟩ := q_low (N := N) (L := L) (x := z >>> ((4 : Int32) &&& 31)) (n := 251) (by omega) (by omega)
  have l4 : pL_low N (z >>> ((4 : Int32) &&& 31)) (251 : Int32) L = _ := l4
  obtain ⟨n2, hn2, l5⟩ := q_low (N := N) (L := L) (x := z >>> ((4 : Int32) &&& 31)) (n := 4) (by omega) (by omega)
  have l5 : pL_low N (z >>> ((4 : Int32) &&& 31)) (4 : Int32) L = _ := l5
  have er : ((zI (g : Nat) + (1 : Int32)) + zI (d : Nat)) - ((zI (g : Nat) + (1 : Int32)) + zI (d : Nat)) / (4 : Int32) * (4 : Int32) = zI (((g + 1 + d) % 4 : Nat) : Int) := by
    rw [zs1, zI_add, show (4 : Int32) = zI ((4 : Nat) : Int) from rfl, show ((g + 1 : Nat) : Int) + (d : Int) = ((g + 1 + d : Nat) : Int) from rfl, z_mod (by omega) (by omega) (by omega)]
  have hr : (g + 1 + d) % 4 < 4 := Nat.mod_lt _ (by omega)
  have hgr : g ≠ (g + 1 + d) % 4 := by omega
  have go : ∀ most : Nat, most ≤ 250 → lGo (pL_exchanges_55 N (pL_exchanges_128 N) N (zI (g : Nat)) (zI (((g + 1 + d) % 4 : Nat) : Int)) (zI (most : Nat)) (0 : Int32) (0 : Int32) S L 0 0) := fun most hmost => by
    generalize (g + 1 + d) % 4 = r at hr hgr
    have hlen := lq_ho h
    have hn40 := h.2.2.2.1
    obtain ⟨L1, p1, p2, p3⟩ := lq_exch_55 (N := N) (S := S) (C := 0) (D := 0) h R hg hr hgr hmost (pL_exchanges_128 N) N (wO W).length 0 0 (wT W r) L (by omega) (by omega) (by omega) ⟨fun _ _ => rfl, rfl⟩ (by
      have : up3 (wT W) r (wT W r) = wT W := by
        funext a
        by_cases q : a = r
        · rw [q, up3_s]
        · rw [up3_o _ _ q]
      rw [this]
      exact R.2.2.2.2.2.2) ⟨fun _ _ => rfl, fun _ => Nat.le_refl _, fun _ => Or.inl (Nat.le_refl _)⟩ (fun q hq hq0 => by omega)
    have p1 : pL_exchanges_55 N (pL_exchanges_128 N) N (zI (g : Nat)) (zI (r : Nat)) (zI (most : Nat)) (0 : Int32) (0 : Int32) S L 0 0 = _ := p1
    rw [List.drop_zero] at p1 p3
    have ok := exT_ok (cs := wC W) (tg := wT W g) (g := g) (r := r) (most := most) (wO W) (wT W r) 0
    have k9 := k_exchange (N := N) hN h.1 K hg hr hgr hmost
    unfold exTl exNo at k9
    generalize exT (wC W) (wT W g) g r most (wO W) (wT W r) 0 = X at p1 p3 ok k9
    obtain ⟨tl, c⟩ := X
    obtain ⟨o1, o2, o3, -⟩ := ok
    have hT : ∀ a i j, a < 4 → i < 4 → j < 4 → up3 (wT W) r tl a i j < 1000 := fun a i j ha hi hj => by
      have w1 := wT_le h.1 ha hi hj
      have w2 := wT_le h.1 hr hi hj
      have w3 := wT_le h.1 hg hg hj
      have w4 := wT_le h.1 hr hr hj
      by_cases q : a = r
      · rw [q, up3_s]
        by_cases q2 : i = r
        · rw [q2]
          rcases o3 j with y | y
          · have y : tl r j ≤ wT W r r j := y
            omega
          · have y : tl r j ≤ wT W g g j := y
            omega
        · have : tl i j = wT W r i j := congrFun (o1 i q2) j
          rw [this]; omega
      · rw [up3_o _ _ q]; omega
    obtain ⟨L2, q1, q2, q3⟩ := lq_exch_131 (N := N) (L := L) (S := S) (T := up3 (wT W) r tl) (M := mrg (wT W g) tl) hg hr hgr (fun i j => by
      rw [up3_o _ _ hgr, up3_s]; rfl) hT (C := 0) (D := 0) (x8 := zI (most : Nat)) (x9 := zI (c : Nat)) (pL_exchanges_227 N) N 16 0 L1 (by omega) (by omega) p2 (fun a q ha hq => by
        rw [if_neg (fun x => by omega)]
        have := p3 a (q / 4) (q % 4) ha (by omega) (by omega)
        rw [show 16 * a + 4 * (q / 4) + q % 4 = 16 * a + q by omega] at this
        exact this)
    have q1 : pL_exchanges_131 N (pL_exchanges_227 N) N (zI (g : Nat)) (zI (r : Nat)) (zI (most : Nat)) (zI (c : Nat)) (0 : Int32) S L1 0 0 = _ := q1
    rw [p1]
    simp only [pL_exchanges_128]
    rw [q1]
    simp only [pL_exchanges_227]
    obtain ⟨S', a1, a2, a3⟩ := k9
    rw [a1, lbx_i (by omega), if_pos rfl, zlB_1 (by omega)]
    refine ⟨S', L2, wEx W g r tl, rfl, ?_, a3, ?_⟩
    · obtain ⟨-, b2, b3, b4, b5, b6, b7, b8⟩ := h
      exact ⟨a2, b2, b3, b4, b5, b6, b7, b8⟩
    · obtain ⟨r1, r2, r3, r4, r5, r6, r7⟩ := R
      have e0 := q2.1 0 (by omega)
      refine ⟨by rw [e0]; exact r1, by rw [e0]; exact r2, by rw [e0]; exact r3, ⟨by rw [e0]; exact r4.1, by rw [q2.1 1 (by omega)]; exact r4.2⟩, by rw [e0]; exact r5, fun i hi => frE_lCh q2 (r6 i hi), fun a i j ha hi hj => ?_⟩
      have := q3 a (4 * i + j) ha (by omega)
      rw [show (4 * i + j) / 4 = i by omega, show (4 * i + j) % 4 = j by omega, ← Nat.add_assoc] at this
      rw [this]
      show _ = zI (exM W g r tl a i j : Nat)
      unfold exM
      by_cases c1 : a = g
      · rw [if_pos ⟨by omega, Or.inl c1⟩, c1, up3_s]
      · rw [up3_o _ _ c1]
        by_cases c2 : a = r
        · rw [if_pos ⟨by omega, Or.inr c2⟩, c2, up3_s]
        · rw [if_neg (fun x => by rcases x.2 with y | y; exact c1 y; exact c2 y), up3_o _ _ c2, up3_o _ _ c2]
  have fin : lGo (pL_exchanges N z S L) := by
    simp only [pL_exchanges, pL_exchanges_44, nm_i]
    rw [l1, lba_i, l2, lba_i, er, l3, lba_i]
    by_cases gb : b = 0
    · rw [if_pos (by rw [gb]; rfl), l4, lba_i]
      exact go n1 (by omega)
    · rw [if_neg (show ¬ zI (b : Nat) = (0 : Int32) from nk gb (by omega) (j := 0) (by omega)), l5, lba_i]
      exact go n2 (by omega)
  exact fin
end LQ6
