-- LEVEL 2, THE LAW: SWEEPS
section LQ7
variable {N m : Nat} {S : kS} {L : lS} {W : sW} {z : Int32}
/-- the state with other marks swept -/
def wSx (W : sW) (X : Nat → Nat → Bool) : sW := wMk (wH W) (wD W) (wP W) (wK W) (wC W) (wN W) (wO W) (wT W) X (wU W) (wE W) (wF W)
theorem lOk_sx (h : lOk W) {X : Nat → Nat → Bool} : lOk (wSx W X) := h
theorem swp_eq (hm : m < 4) {e : Nat} : swp W m e = (!wX W m e && (kDl W m 0 e && (kDl W m 1 e && (kDl W m 2 e && kDl W m 3 e)))) := by
  unfold swp mkd
  rcases (show m = 0 ∨ m = 1 ∨ m = 2 ∨ m = 3 by omega) with rfl | rfl | rfl | rfl
  · cases wX W 0 e <;> cases kDl W 0 0 e <;> rfl
  · cases wX W 1 e <;> cases kDl W 1 0 e <;> cases kDl W 1 1 e <;> rfl
  · cases wX W 2 e <;> cases kDl W 2 0 e <;> cases kDl W 2 1 e <;> cases kDl W 2 2 e <;> rfl
  · cases wX W 3 e <;> cases kDl W 3 0 e <;> cases kDl W 3 1 e <;> cases kDl W 3 2 e <;> cases kDl W 3 3 e <;> rfl
theorem lq_sweeps_38 (hN : 1000 ≤ N) (h : lOk W) (R : lRel L W) (hm : m < 4) {e : Nat} (he : e < 12) {x7 : Int32} {C D : Nat} (K : Int32 → Int32 → Int32 → Int32 → kS → lS → Nat → Nat → Option (Int32 × kS × lS)) : ∀ (n : Nat) (b : Bool), pL_sweeps_38 N K (n + 5) (zI (m : Nat)) x7 (zI (e : Nat)) (zB b) (0 : Int32) S L C D = K (zI (m : Nat)) x7 (zI (e : Nat)) (zB (b && (kDl W m 0 e && (kDl W m 1 e && (kDl W m 2 e && kDl W m 3 e))))) S L C D := fun n b => by
  have step : ∀ (n o : Nat) (b : Bool), o < 4 → pL_sweeps_38 N K (n + 1) (zI (m : Nat)) x7 (zI (e : Nat)) (zB b) (zI (o : Nat)) S L C D = pL_sweeps_38 N K n (zI (m : Nat)) x7 (zI (e : Nat)) (zB (b && kDl W m o e)) (zI ((o + 1 : Nat) : Int)) S L C D := fun n o b ho => by
    have e1 : pL_sweeps_38 N K (n + 1) (zI (m : Nat)) x7 (zI (e : Nat)) (zB b) (zI (o : Nat)) S L C D = if (4 : Int32) ≤ zI (o : Nat) then K (zI (m : Nat)) x7 (zI (e : Nat)) (zB b) S L C D else if zB b = 0 then pL_sweeps_73 N (pL_sweeps_38 N K n) (0 : Int32) (zI (m : Nat)) x7 (zI (e : Nat)) (zI (o : Nat)) S L C D else lba (pL_gone N (zI (m : Nat)) (zI (o : Nat)) (zI (e : Nat)) L) fun v101 L102 => if v101 = (0 : Int32) then pL_sweeps_73 N (pL_sweeps_38 N K n) (0 : Int32) (zI (m : Nat)) x7 (zI (e : Nat)) (zI (o : Nat)) S L102 C D else pL_sweeps_73 N (pL_sweeps_38 N K n) (1 : Int32) (zI (m : Nat)) x7 (zI (e : Nat)) (zI (o : Nat)) S L102 C D := rfl
    rw [e1, zL_4, il_le (by omega) (by omega) (by omega) (by omega), if_neg (by omega), il_B, lq_gone hN h R hm ho he, lba_i, il_B]
    simp only [pL_sweeps_73, nm_i]
    rw [zs1]
    cases b with
    | false => rw [if_neg (by decide), Bool.false_and]; rfl
    | true =>
      rw [if_pos rfl, Bool.true_and]
      cases kDl W m o e with
      | false => rw [if_neg (by decide)]; rfl
      | true => rw [if_pos rfl]; rfl
  have s0 := step (n + 4) 0 b (by omega)
  have s1 := step (n + 3) 1 (b && kDl W m 0 e) (by omega)
  have s2 := step (n + 2) 2 (b && kDl W m 0 e && kDl W m 1 e) (by omega)
  have s3 := step (n + 1) 3 (b && kDl W m 0 e && kDl W m 1 e && kDl W m 2 e) (by omega)
  have s0 : pL_sweeps_38 N K (n + 5) (zI (m : Nat)) x7 (zI (e : Nat)) (zB b) (0 : Int32) S L C D = _ := s0
  rw [s0, s1, s2, s3]
  have s4 : ∀ c : Bool, pL_sweeps_38 N K (n + 1) (zI (m : Nat)) x7 (zI (e : Nat)) (zB c) (zI ((3 + 1 : Nat) : Int)) S L C D = K (zI (m : Nat)) x7 (zI (e : Nat)) (zB c) S L C D := fun c => by
    simp only [pL_sweeps_38]
    exact if_pos (by decide)
  rw [s4, Bool.and_assoc, Bool.and_assoc, Bool.and_assoc]
theorem lRel_sx {X X' : Nat → Nat → Bool} (hm : m < 4) (hD4 : (wD W).length ≤ 4) (R : lRel L (wSx W X)) {v : Int32} (hv : ∀ e, e < 12 → ib v e = X' m e) (ho : ∀ a e, a ≠ m → X' a e = X a e) : lRel (uI L 0 (16 + m) v) (wSx W X') := by
  obtain ⟨⟨r1, r2, r3, r4⟩, r5, ⟨r6, r7⟩, ⟨r8, r8b⟩, r9, r10, r11⟩ := R
  refine ⟨⟨?_, ?_, ?_, ?_⟩, fun a ha => ?_, ⟨?_, fun i hi => ?_⟩, ⟨fun a ha => ?_, fun k hk => ?_⟩, fun a e ha he => ?_, fun i hi => ?_, fun a i j ha hi hj => ?_⟩
  · simp [aU, show ¬ 0 = 16 + m by omega]; exact r1
  · simp [aU, show ¬ 1 = 16 + m by omega]; exact r2
  · simp [aU, show ¬ 2 = 16 + m by omega]; exact r3
  · simp [aU, show ¬ 3 = 16 + m by omega]; exact r4
  · simp [aU, show ¬ 4 + a = 16 + m by omega]; exact r5 a ha
  · simp [aU, show ¬ 8 = 16 + m by omega]; exact r6
  · have h4 : i < (wD (wSx W X)).length := hi
    have h4 : i < (wD W).length := h4
    simp [aU, show ¬ 9 + i = 16 + m by omega]; exact r7 i hi
  · simp [aU, show ¬ 13 + a = 16 + m by omega]; exact r8 a ha
  · simp [aU]; exact r8b k hk
  · show ib (aI (uI L 0 (16 + m) v) 0 (16 + a)) e = X' a e
    rw [aU]
    by_cases g : a = m
    · rw [if_pos ⟨rfl, by omega⟩, g]; exact hv e he
    · rw [if_neg (fun q => g (by omega)), ho a e g]; exact r9 a e ha he
  · refine lCh_eq ?_ ?_ ?_ ?_ ?_ ?_ (r10 i hi)
    all_goals simp [aU, aJ_uI]
  · simp [aU]; exact r11 a i j ha hi hj
theorem lq_sweeps_6 (hN : 1000 ≤ N) (h : lOk W) (hm : m < 4) {C D : Nat} (K : Int32 → Int32 → kS → lS → Nat → Nat → Option (Int32 × kS × lS)) : ∀ (n k e : Nat) (L1 : lS), e + k = wE W → k < n → 1 ≤ e → lRel L1 (wSx W (fun a q => wX W a q || (decide (a = m) && (decide (q < e) && swp W m q)))) → ∃ L', pL_sweeps_6 N K n (zI (m : Nat)) (zI (fb_ct (swp W m) e : Nat)) (zI (e : Nat)) S L1 C D = K (zI (m : Nat)) (zI (fb_ct (swp W m) (wE W) : Nat)) S L' C D ∧ lRel L' (wSx W (fun a q => wX W a q || (decide (a = m) && (decide (q < wE W) && swp W m q))))
  | 0, k, e, L1, _, hn, _, _ => by omega
  | n + 1, k, e, L1, hk, hn, h1, R1 => by
    have hE := h.2.2.1
    have hO := lOk_sx h (X := fun a q => wX W a q || (decide (a = m) && (decide (q < e) && swp W m q)))
    have hD4 := h.2.2.2.2.2.1.1
    simp only [pL_sweeps_6, pL_sweeps_33]
    rw [gq0, show aI L1 0 (0 : Int32).toNatClampNeg = zI (wE W : Nat) from R1.1.1, il_le (by omega) (by omega) (by omega) (by omega)]
    cases k with
    | zero =>
      rw [if_pos (by omega)]
      rw [show e = wE W by omega] at R1 ⊢
      exact ⟨L1, rfl, R1⟩
    | succ k =>
      have he : e < 12 := by omega
      have hx := R1.2.2.2.2.1 m e hm he
      have hx : ib (aI L1 0 (16 + m)) e = (wX W m e || (decide (m = m) && (decide (e < e) && swp W m e))) := hx
      rw [decide_eq_false (Nat.lt_irrefl e), Bool.false_and, Bool.and_false, Bool.or_false] at hx
      obtain ⟨n5, hn5⟩ : ∃ n5, N = n5 + 5 := ⟨N - 5, by omega⟩
      have fin : ∀ b : Bool, b = !wX W m e → ∃ L', pL_sweeps_38 N (pL_sweeps_81 N (pL_sweeps_6 N K n)) N (zI (m : Nat)) (zI (fb_ct (swp W m) e : Nat)) (zI (e : Nat)) (zB b) (0 : Int32) S L1 C D = K (zI (m : Nat)) (zI (fb_ct (swp W m) (wE W) : Nat)) S L' C D ∧ lRel L' (wSx W (fun a q => wX W a q || (decide (a = m) && (decide (q < wE W) && swp W m q)))) := fun b hb => by
        have h38 := lq_sweeps_38 (N := N) (S := S) hN hO R1 hm he (x7 := zI (fb_ct (swp W m) e : Nat)) (C := C) (D := D) (pL_sweeps_81 N (pL_sweeps_6 N K n)) n5 b
        rw [← hn5] at h38
        have esw : (b && (kDl W m 0 e && (kDl W m 1 e && (kDl W m 2 e && kDl W m 3 e)))) = swp W m e := by rw [swp_eq hm, hb]
        have h38 : pL_sweeps_38 N (pL_sweeps_81 N (pL_sweeps_6 N K n)) N (zI (m : Nat)) (zI (fb_ct (swp W m) e : Nat)) (zI (e : Nat)) (zB b) (0 : Int32) S L1 C D = pL_sweeps_81 N (pL_sweeps_6 N K n) (zI (m : Nat)) (zI (fb_ct (swp W m) e : Nat)) (zI (e : Nat)) (zB (b && (kDl W m 0 e && (kDl W m 1 e && (kDl W m 2 e && kDl W m 3 e))))) S L1 C D := h38
        rw [h38, esw]
        simp only [pL_sweeps_81, pL_sweeps_101, pL_sweeps_115, slv_i, nm_i]
        rw [z16p]
        have g16 : ∀ {β : Type} {K : Option β}, gd (zI ((16 + m : Nat) : Int)) 20 K = K := gd_c (by omega) (by omega)
        simp only [g16, zI_cn (show 16 + m < 2147483648 by omega)]
        have ec : fb_ct (swp W m) (e + 1) = fb_ct (swp W m) e + if swp W m e then 1 else 0 := fb_ct_succ _ _
        have nx : ∀ v : Int32, (∀ q, q < 12 → ib v q = (ib (aI L1 0 (16 + m)) q || (decide (q = e) && swp W m e))) → lRel (uI L1 0 (16 + m) v) (wSx W (fun a q => wX W a q || (decide (a = m) && (decide (q < e + 1) && swp W m q)))) := fun v hv => lRel_sx hm hD4 R1 (fun q hq => by
          have hq2 := R1.2.2.2.2.1 m q hm hq
          have hq2 : ib (aI L1 0 (16 + m)) q = (wX W m q || (decide (m = m) && (decide (q < e) && swp W m q))) := hq2
          rw [hv q hq, hq2, decide_eq_true (rfl : m = m), Bool.true_and, Bool.true_and]
          by_cases g : q = e
          · rw [g, decide_eq_true (rfl : e = e), decide_eq_false (Nat.lt_irrefl e), decide_eq_true (Nat.lt_succ_self e)]
            cases wX W m e <;> cases swp W m e <;> rfl
          · rw [decide_eq_false g, show decide (q < e + 1) = decide (q < e) from decide_eq_decide.mpr (by omega)]
            cases wX W m q <;> cases swp W m q <;> cases decide (q < e) <;> rfl) (fun a q ha => by
          show (wX W a q || (decide (a = m) && (decide (q < e + 1) && swp W m q))) = (wX W a q || (decide (a = m) && (decide (q < e) && swp W m q)))
          rw [decide_eq_false ha]; rfl)
        cases hs : swp W m e with
        | false =>
          rw [hs, if_neg (by decide), Nat.add_zero] at ec
          rw [if_pos (show zB false = 0 from rfl), if_pos (show zB false = 0 from rfl), zs1, show zI (fb_ct (swp W m) e : Nat) + (0 : Int32) = zI (fb_ct (swp W m) (e + 1) : Nat) by rw [ec, zL_0, zI_add, Int.add_zero]; rfl]
          exact lq_sweeps_6 hN h hm K n k (e + 1) _ (by omega) (by omega) (by omega) (nx _ (fun q hq => by
            rw [ib_or, ib_0, hs, Bool.and_false]))
        | true =>
          rw [hs, if_pos rfl] at ec
          rw [if_neg (show ¬ zB true = 0 by decide), if_neg (show ¬ zB true = 0 by decide), zs1, zs1, ← ec]
          exact lq_sweeps_6 hN h hm K n k (e + 1) _ (by omega) (by omega) (by omega) (nx _ (fun q hq => by
            rw [ib_or, ib_shl1 (by omega) (by omega), hs, Bool.and_true]))
      rw [if_neg (by omega), z16p, gd_c (by omega) (by omega), zI_cn (by omega)]
      cases hxb : wX W m e with
      | true =>
        rw [if_neg (by rw [ib_test0 (by omega), hx, hxb]; decide)]
        exact fin false (by rw [hxb]; rfl)
      | false =>
        rw [if_pos (by rw [ib_test0 (by omega), hx, hxb])]
        exact fin true (by rw [hxb]; rfl)
theorem lq_sweeps (hN : 20000 ≤ N) (h : lOk W) (K : kRel S W) (R : lRel L W) (hm : m < 4) : lGo (pL_sweeps N (zI (m : Nat)) S L) := by
  have hE := h.2.2.1
  have hE1 := h.1.2.2.2.2.2.2.1.1
  have s0 : swp W m 0 = false := by
    rw [swp_eq hm]
    rw [kDl_0 h, kDl_0 h, kDl_0 h, kDl_0 h]
    simp
  have e1 : fb_ct (swp W m) 1 = 0 := by
    show 0 + (if swp W m 0 then 1 else 0) = 0
    rw [s0]; rfl
  obtain ⟨L', p1, p2⟩ := lq_sweeps_6 (N := N) (S := S) (C := 0) (D := 0) (by omega) h hm (pL_sweeps_124 N) N (wE W - 1) 1 L (by omega) (by omega) (by omega) (by
    have : (fun a q => wX W a q || (decide (a = m) && (decide (q < 1) && swp W m q))) = wX W := by
      funext a q
      by_cases g : q < 1
      · rw [show q = 0 by omega, s0]; simp
      · rw [decide_eq_false g]; simp
    rw [this]
    exact R)
  rw [e1] at p1
  have p1 : pL_sweeps_6 N (pL_sweeps_124 N) N (zI (m : Nat)) (0 : Int32) (1 : Int32) S L 0 0 = _ := p1
  simp only [pL_sweeps]
  rw [p1]
  simp only [pL_sweeps_124]
  obtain ⟨S', a1, a2, a3⟩ := k_sweep (N := N) hN h.1 K hm
  rw [a1, lbx_i (by omega), if_pos rfl, zlB_1 (by omega)]
  refine ⟨S', L', wSw W m, rfl, ?_, a3, ?_⟩
  · obtain ⟨-, b2, b3, b4, b5, b6, b7, b8⟩ := h
    exact ⟨a2, b2, b3, b4, b5, b6, b7, b8⟩
  · have : (fun a q => wX W a q || (decide (a = m) && (decide (q < wE W) && swp W m q))) = (fun a q => wX W a q || (decide (a = m) && swp W m q)) := by
      funext a q
      by_cases g : q < wE W
      · rw [decide_eq_true g, Bool.true_and]
      · have : swp W m q = false := by
          rw [swp_eq hm]
          have : kDl W m 0 q = false := by
            rw [Bool.eq_false_iff]
            intro x
            obtain ⟨k, h1, h2, h3, -⟩ := kDl_iff.mp x
            have := (h.1.2.2.2.1.2.2.2.2.2.1 k h1).1
            omega
          rw [this]; simp
        rw [this, Bool.and_false]
    rw [this] at p2
    exact p2
end LQ7
