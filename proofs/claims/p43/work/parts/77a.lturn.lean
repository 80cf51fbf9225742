-- LEVEL 2, THE LAW: ONE TURN
section LTN
variable {N n9 m : Nat} {xs9 : Nat → Int32} {S : kS} {L : lS} {W : sW} {z0 : Int32} {j C0 D0 : Nat} {Kn : Int32 → kS → lS → Nat → Nat → Option (Int32 × kS × lS)}
/-- a turn ends at the next one, the law's rows and the class showing one state -/
def tGo (Kn : Int32 → kS → lS → Nat → Nat → Option (Int32 × kS × lS)) (j C0 D0 : Nat) (o : Option (Int32 × kS × lS)) : Prop := ∃ S' L' W' C' D', o = Kn (zI ((j + 1 : Nat) : Int)) S' L' C' D' ∧ lOk W' ∧ kRel S' W' ∧ lRel L' W' ∧ C' ≤ C0 + 1460 ∧ D' ≤ D0 + 27860
def tRm (C0 D0 : Nat) : Prop := C0 + 1460 ≤ 600074 ∧ D0 + 27860 ≤ 7301550
theorem lq_1117 (hN : 20000 ≤ N) (h : lOk W) (K : kRel S W) (R : lRel L W) (B : tRm C0 D0) {C D : Nat} (hC : C ≤ C0 + 600) (hD : D ≤ D0 + 22500) : tGo Kn j C0 D0 (pL_law_1117 N n9 xs9 Kn (zI (j : Nat)) z0 (zB true) S L C D) := by
  obtain ⟨B1, B2⟩ := B
  have hE1 := h.1.2.2.2.2.2.2.1.1
  have hE := h.2.2.1
  obtain ⟨o, ho, l1⟩ := q_low (N := N) (L := L) (x := z0 >>> ((8 : Int32) &&& 31)) (n := 4) (by omega) (by omega)
  have l1 : pL_low N (z0 >>> ((8 : Int32) &&& 31)) (4 : Int32) L = _ := l1
  obtain ⟨L1, p1, p2, p3⟩ := lq_lays (N := N) (by omega) h R ho
  have R1 := frL_lRel p2 R
  obtain ⟨S2, a1, a2⟩ := lq_master (N := N) (z := z0 >>> ((10 : Int32) &&& 31)) hN h K R1 ho p3
  obtain ⟨e, he, l2⟩ := q_low (N := N) (L := L1) (x := z0 >>> ((9 : Int32) &&& 31)) (n := wE W) (by omega) (by omega)
  obtain ⟨S3, b1, b2⟩ := lq_entry (N := N) (z := z0 >>> ((12 : Int32) &&& 31)) hN h a2 R1 ho p3 he
  simp only [pL_law_1117, nm_i]
  rw [l1, lba_i, p1, lba_i, if_neg (show ¬ zB true = 0 by decide), a1, lbb_i (by omega), if_neg (show ¬ zB true = 0 by decide), gq0, aq0 R1, l2, lba_i, b1, lbb_i (by omega), if_neg (show ¬ zB true = 0 by decide), zs1]
  exact ⟨S3, L1, W, C + 60 + 800, D + 360 + 5000, rfl, h, b2, R1, by omega, by omega⟩
theorem lq_act (hN : 20000 ≤ N) (B : tRm C0 D0) {mc ms : Nat} (hmc : mc ≤ 600) (hms : ms ≤ 22500) {o : Option (Int32 × kS × lS)} (g : lGo o) : tGo Kn j C0 D0 (lbb mc ms 600074 7301550 C0 D0 o fun v S L C D => pL_law_1117 N n9 xs9 Kn (zI (j : Nat)) z0 v S L C D) := by
  obtain ⟨S', L', W', e, h1, h2, h3⟩ := g
  have B' := B
  obtain ⟨B1, B2⟩ := B'
  rw [e, lbb_i (by omega)]
  exact lq_1117 hN h1 h2 h3 B (by omega) (by omega)
theorem lRel_sv (hm : m < 4) (R : lRel L W) {u : Nat} : lRel (uI L 0 (4 + m) (zI (u : Nat))) (wSv W m u) := by
  obtain ⟨⟨r1, r2, r3, r4⟩, r5, ⟨r6, r7⟩, ⟨r8, r8b⟩, r9, r10, r11⟩ := R
  refine ⟨⟨?_, ?_, ?_, ?_⟩, fun a ha => ?_, ⟨?_, fun i hi => ?_⟩, ⟨fun a ha => ?_, fun k hk => ?_⟩, fun a e ha he => ?_, fun i hi => ?_, fun a i j ha hi hj => ?_⟩
  · rw [aU, if_neg (by omega)]; exact r1
  · rw [aU, if_neg (by omega)]; exact r2
  · rw [aU, if_neg (by omega)]; exact r3
  · rw [aU, if_neg (by omega)]; exact r4
  · show aI (uI L 0 (4 + m) (zI (u : Nat))) 0 (4 + a) = zI (upf (wU W) m u a : Nat)
    rw [aU]
    by_cases g : a = m
    · rw [if_pos ⟨rfl, by omega⟩, g, upf_s]
    · rw [if_neg (fun q => g (by omega)), upf_o _ _ g]; exact r5 a ha
  · rw [aU, if_neg (by omega)]; exact r6
  · rw [aU, if_neg (by omega)]; exact r7 i hi
  · rw [aU, if_neg (by omega)]; exact r8 a ha
  · rw [aI_uI_o _ _ _ (show (1 : Nat) ≠ 0 by decide)]; exact r8b k hk
  · rw [aU, if_neg (by omega)]; exact r9 a e ha he
  · refine lCh_eq ?_ ?_ ?_ ?_ ?_ ?_ (r10 i hi)
    all_goals simp [aU, aJ_uI]
  · rw [aI_uI_o _ _ _ (show (8 : Nat) ≠ 0 by decide)]; exact r11 a i j ha hi hj
theorem lq_968 (hN : 20000 ≤ N) (h : lOk W) (K : kRel S W) (R : lRel L W) (hm : m < 4) (B : tRm C0 D0) {t : Nat} (ht : 0 < t) (ht4 : t ≤ 4) {y : Int32} : tGo Kn j C0 D0 (pL_law_968 N n9 xs9 Kn (zI (t : Nat)) y (zI (j : Nat)) z0 (zI (m : Nat)) S L C0 D0) := by
  obtain ⟨B1, B2⟩ := id B
  obtain ⟨u, hu, l1⟩ := q_low (N := N) (L := L) (x := y) (n := t) ht (by omega)
  obtain ⟨S1, a1, a2, a3⟩ := k_serve (N := N) h.1 K (u := u) hm (by omega)
  have e4 : aI L 0 (4 + m) = zI (wU W m : Nat) := R.2.1 m hm
  simp only [pL_law_968, slv_i, nm_i, pL_law_1007]
  rw [l1, lba_i, g4p hm, g4p hm, z4p, zI_cn (by omega), e4, a1, lbx_i (by omega), if_pos rfl]
  have hO : lOk (wSv W m u) := by
    obtain ⟨h1, h2, h3, h4, h5, h6⟩ := h
    refine ⟨a2, h2, h3, h4, fun q hq => ?_, h6⟩
    show upf (wU W) m u q < 4
    by_cases g : q = m
    · rw [g, upf_s]; omega
    · rw [upf_o _ _ g]; exact h5 q hq
  exact lq_1117 hN hO a3 (lRel_sv hm R) B (by omega) (by omega)
theorem lq_939 (hN : 20000 ≤ N) (h : lOk W) (K : kRel S W) (R : lRel L W) (hm : m < 4) (Q : lTr L (wTr W m)) (B : tRm C0 D0) {x17 : Int32} : tGo Kn j C0 D0 (pL_law_939 N n9 xs9 Kn (zI (j : Nat)) z0 x17 (zI (m : Nat)) S L C0 D0) := by
  unfold pL_law_939
  by_cases g1 : x17 = (29 : Int32)
  · rw [if_pos g1]
    obtain ⟨u, hu, l1⟩ := q_low (N := N) (L := L) (x := z0 >>> ((10 : Int32) &&& 31)) (n := 2) (by omega) (by omega)
    have l1 : pL_low N (z0 >>> ((10 : Int32) &&& 31)) (2 : Int32) L = _ := l1
    rw [l1, lba_i]
    by_cases g : zI (u : Nat) = (0 : Int32)
    · rw [if_pos g]
      exact lq_968 hN h K R hm B (t := 4) (by omega) (by omega)
    · rw [if_neg g]
      exact lq_968 hN h K R hm B (t := 1) (by omega) (by omega)
  · rw [if_neg g1]
    by_cases g2 : x17 = (30 : Int32)
    · rw [if_pos g2]
      exact lq_act hN B (by omega) (by omega) (lq_sweeps hN h K R hm)
    · rw [if_neg g2]
      by_cases g3 : x17 = (31 : Int32)
      · rw [if_pos g3]
        exact lq_act hN B (by omega) (by omega) (lq_follows hN h K R hm Q)
      · rw [if_neg g3]
        exact lq_act hN B (by omega) (by omega) (lq_searches hN h K R hm Q)
theorem lq_904 (hN : 20000 ≤ N) (h : lOk W) (K : kRel S W) (R : lRel L W) (hm : m < 4) (Q : lTr L (wTr W m)) (B : tRm C0 D0) {x17 : Int32} : tGo Kn j C0 D0 (pL_law_904 N n9 xs9 Kn (zI (j : Nat)) z0 x17 (zI (m : Nat)) S L C0 D0) := by
  unfold pL_law_904
  by_cases g1 : x17 ≤ (23 : Int32)
  · rw [if_pos g1]; exact lq_939 hN h K R hm Q B
  · rw [if_neg g1]
    by_cases g2 : (29 : Int32) ≤ x17
    · rw [if_pos g2]; exact lq_939 hN h K R hm Q B
    · rw [if_neg g2]
      exact lq_act hN B (by omega) (by omega) (lq_exchanges hN h K R)
section LTC
variable {x17 x20 : Int32}
theorem lq_850 (hN : 20000 ≤ N) (h : lOk W) (K : kRel S W) (R : lRel L W) (hm : m < 4) (Q : lTr L (wTr W m)) (B : tRm C0 D0) (hx : ¬ x20 = 0 → wN W < 40) : tGo Kn j C0 D0 (pL_law_850 N n9 xs9 Kn (zI (j : Nat)) z0 x17 (zI (m : Nat)) x20 S L C0 D0) := by
  unfold pL_law_850
  by_cases g1 : x17 ≤ (21 : Int32)
  · rw [if_pos g1]; exact lq_904 hN h K R hm Q B
  · rw [if_neg g1]
    by_cases g2 : (24 : Int32) ≤ x17
    · rw [if_pos g2]; exact lq_904 hN h K R hm Q B
    · rw [if_neg g2]
      by_cases g3 : x20 = 0
      · rw [if_pos g3]; exact lq_904 hN h K R hm Q B
      · rw [if_neg g3]
        exact lq_act hN B (by omega) (by omega) (lq_rule hN h K R hm Q (hx g3))
theorem lq_803 (hN : 20000 ≤ N) (h : lOk W) (K : kRel S W) (R : lRel L W) (hm : m < 4) (Q : lTr L (wTr W m)) (B : tRm C0 D0) (hx : ¬ x20 = 0 → wN W < 40) : tGo Kn j C0 D0 (pL_law_803 N n9 xs9 Kn (zI (j : Nat)) z0 x17 (zI (m : Nat)) x20 S L C0 D0) := by
  unfold pL_law_803
  by_cases g1 : x17 = (21 : Int32)
  · rw [if_pos g1]
    by_cases g3 : x20 = 0
    · rw [if_pos g3]; exact lq_850 hN h K R hm Q B hx
    · rw [if_neg g3]
      exact lq_act hN B (by omega) (by omega) (lq_links hN h K R hm Q (hx g3))
  · rw [if_neg g1]; exact lq_850 hN h K R hm Q B hx
theorem lq_756 (hN : 20000 ≤ N) (h : lOk W) (K : kRel S W) (R : lRel L W) (hm : m < 4) (Q : lTr L (wTr W m)) (B : tRm C0 D0) (hx : ¬ x20 = 0 → wN W < 40) : tGo Kn j C0 D0 (pL_law_756 N n9 xs9 Kn (zI (j : Nat)) z0 x17 (zI (m : Nat)) x20 S L C0 D0) := by
  unfold pL_law_756
  by_cases g1 : x17 = (20 : Int32)
  · rw [if_pos g1]
    by_cases g3 : x20 = 0
    · rw [if_pos g3]; exact lq_803 hN h K R hm Q B hx
    · rw [if_neg g3]
      exact lq_act hN B (by omega) (by omega) (lq_deletes hN h K R hm Q (hx g3))
  · rw [if_neg g1]; exact lq_803 hN h K R hm Q B hx
theorem lq_702 (hN : 20000 ≤ N) (h : lOk W) (K : kRel S W) (R : lRel L W) (hm : m < 4) (Q : lTr L (wTr W m)) (B : tRm C0 D0) (hx : ¬ x20 = 0 → wN W < 40) : tGo Kn j C0 D0 (pL_law_702 N n9 xs9 Kn (zI (j : Nat)) z0 x17 (zI (m : Nat)) x20 S L C0 D0) := by
  unfold pL_law_702
  by_cases g1 : x17 ≤ (16 : Int32)
  · rw [if_pos g1]; exact lq_756 hN h K R hm Q B hx
  · rw [if_neg g1]
    by_cases g2 : (20 : Int32) ≤ x17
    · rw [if_pos g2]; exact lq_756 hN h K R hm Q B hx
    · rw [if_neg g2]
      by_cases g3 : x20 = 0
      · rw [if_pos g3]; exact lq_756 hN h K R hm Q B hx
      · rw [if_neg g3]
        exact lq_act hN B (by omega) (by omega) (lq_moves hN h K R hm Q (hx g3))
theorem lq_655 (hN : 20000 ≤ N) (h : lOk W) (K : kRel S W) (R : lRel L W) (hm : m < 4) (Q : lTr L (wTr W m)) (B : tRm C0 D0) (hx : ¬ x20 = 0 → wN W < 40) : tGo Kn j C0 D0 (pL_law_655 N n9 xs9 Kn (zI (j : Nat)) z0 x17 (zI (m : Nat)) x20 S L C0 D0) := by
  unfold pL_law_655
  by_cases g1 : x17 = (16 : Int32)
  · rw [if_pos g1]
    by_cases g3 : x20 = 0
    · rw [if_pos g3]; exact lq_702 hN h K R hm Q B hx
    · rw [if_neg g3]
      exact lq_act hN B (by omega) (by omega) (lq_renames hN h K R hm Q (hx g3))
  · rw [if_neg g1]; exact lq_702 hN h K R hm Q B hx
end LTC
end LTN
