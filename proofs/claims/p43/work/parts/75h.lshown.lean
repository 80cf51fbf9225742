-- LEVEL 2, THE LAW: NAMES THAT ARE SHOWN
theorem anyF_cut {p : Nat → Bool} {n k : Nat} (h1 : 1 ≤ n) (h2 : n ≤ 1 + k) (h : ∀ j, n ≤ j → j < 1 + k → p j = false) : anyF p 1 k = anyF p 1 (n - 1) := by
  rw [Bool.eq_iff_iff, anyF_iff, anyF_iff]
  constructor
  · rintro ⟨j, a, b, c⟩
    refine ⟨j, a, ?_, c⟩
    rcases Nat.lt_or_ge j n with g | g
    · omega
    · rw [h j g b] at c; cases c
  · rintro ⟨j, a, b, c⟩
    exact ⟨j, a, by omega, c⟩
section LI
variable {N m : Nat} {L : lS} {W : sW}
theorem wO_lt (h : wOk W) {i j : Nat} (hi : i < (wO W).length) (hj : j < (wO W).length) : cR (wC W (wO W)[i]) < cR (wC W (wO W)[j]) ↔ i < j := by
  obtain ⟨-, -, -, ⟨-, -, -, ⟨ar, g4⟩, -⟩, -⟩ := h
  have hp := List.pairwise_iff_getElem.mp g4.1
  rcases Nat.lt_trichotomy i j with g | g | g
  · have := hp i j hi hj g
    omega
  · subst g; omega
  · have := hp j i hj hi g
    omega
theorem tLv_12 (h : lOk W) (hm : m < 4) {j : Nat} (hj : 12 ≤ j) : tLv (wTr W m) (j : Nat) = false := by
  rcases Nat.lt_or_ge j 48 with g | g
  · rw [tLv_in g, (lTo_w h hm).2.2.2.2.1 j hj]; rfl
  · exact tLv_out (Or.inr (by omega))
theorem tLv_wE (h : lOk W) {j : Nat} (hj : tLv (wTr W m) (j : Nat) = true) : j < wE W := tTh_lt h.1 (tLv_th (by have := tLv_lt hj; omega) hj)
theorem lv_9 {T : sT} (Q : lTr L T) {i : Nat} (hi : i < 12) : (aI L 9 (3 * i) = (1 : Int32)) ↔ tLv T (i : Nat) = true := by
  rw [(Q.1 i hi).1, ← sSt_lv (show i < 48 by omega), zL_1]
  have hs := sSt_rg (T := T) (e := i)
  rw [zI_eq (by omega) (by omega) (by omega) (by omega)]
theorem g36 {β : Type} {K : Option β} {i : Nat} (hi : i < 12) : gd ((3 : Int32) * zI (i : Nat)) 36 K = K := by rw [z3_0]; exact gd_c (by omega) (by omega)
theorem cn36 {i : Nat} (hi : i < 12) : ((3 : Int32) * zI (i : Nat)).toNatClampNeg = 3 * i := by rw [z3_0]; exact zI_cn (by omega)
theorem lq_shown_23 (hN : 1000 ≤ N) (h : lOk W) (R : lRel L W) (hm : m < 4) (Q : lTr L (wTr W m)) {e : Nat} (h1 : 1 ≤ e) (hl : tLv (wTr W m) (e : Nat) = true) (K : Int32 → Int32 → Int32 → lS → Option (Int32 × lS)) : ∀ (n k i : Nat) (b : Bool), i + k = wE W → k < n → 1 ≤ i → pL_shown_23 N K n (zI (m : Nat)) (zI (e : Nat)) (zI (tNm (wTr W m) e)) (zB b) (zI (i : Nat)) L = K (zI (e : Nat)) (zI (tNm (wTr W m) e)) (zB (b || anyF (tCl (wTr W m) e) i k)) L
  | 0, k, i, b, _, hn, _ => by omega
  | n + 1, k, i, b, hk, hn, hi1 => by
    have hE := h.2.2.1
    have he := tLv_wE h hl
    have hW := (wTr_ok h.1 m).1
    have hT := lTo_w h hm
    simp only [pL_shown_23, pL_shown_117, nm_i]
    rw [gq0, aq0 R, il_le (by omega) (by omega) (by omega) (by omega)]
    cases k with
    | zero =>
      rw [if_pos (by omega)]
      show _ = K _ _ (zB (b || false)) L
      rw [Bool.or_false]
    | succ k =>
      have ih := fun b => lq_shown_23 hN h R hm Q h1 hl K n k (i + 1) b (by omega) (by omega) (by omega)
      have hi : i < 12 := by omega
      rw [if_neg (by omega), zL_0, il_le (by omega) (by omega) (by omega) (by omega), if_neg (by omega), ← zL_0, il_B, zs1, anyF_s]
      have no : ∀ {hc : tCl (wTr W m) e i = false} {hb : b = false}, pL_shown_23 N K n (zI (m : Nat)) (zI (e : Nat)) (zI (tNm (wTr W m) e)) (0 : Int32) (zI ((i + 1 : Nat) : Int)) L = K (zI (e : Nat)) (zI (tNm (wTr W m) e)) (zB (b || (tCl (wTr W m) e i || anyF (tCl (wTr W m) e) (i + 1) k))) L := fun {hc hb} => by
        rw [hc, hb, Bool.false_or, Bool.false_or]
        exact (ih false).trans (by rw [Bool.false_or])
      cases hb : b with
      | true =>
        rw [if_pos rfl, Bool.true_or]
        exact (ih true).trans (by rw [Bool.true_or])
      | false =>
        rw [if_neg (by decide), ← hb, il_eq (by omega) (by omega) (by omega) (by omega)]
        by_cases g1 : i = e
        · rw [if_pos (by omega)]
          refine no (hc := ?_) (hb := hb)
          rw [g1]
          unfold tCl
          rw [decide_eq_false (Nat.lt_irrefl _)]
          simp
        · rw [if_neg (by omega), g36 hi, cn36 hi]
          by_cases g2 : tLv (wTr W m) (i : Nat) = true
          · have ti := tLv_th (show i < 48 by omega) g2
            have te := tLv_th (show e < 48 by omega) hl
            have pi := tPl_rg hW (show i < 48 by omega)
            have pe := tPl_rg hW (show e < 48 by omega)
            have ni := hW.2.2.1 i (by omega)
            have ne := hW.2.2.1 e (by omega)
            rw [if_pos ((lv_9 Q hi).mpr g2), lq_place hT Q hi (Or.inr ti), lba_i, lq_place hT Q (by omega) (Or.inr te), lba_i, il_eq (by omega) (by omega) (by omega) (by omega)]
            by_cases g3 : tPl (wTr W m) i = tPl (wTr W m) e
            · rw [if_pos g3, lq_name hN h R hm hi ti, lba_i, il_eq (by omega) (by omega) (by omega) (by omega)]
              by_cases g4 : tNm (wTr W m) i = tNm (wTr W m) e
              · obtain ⟨a1, a2, a3, a4⟩ := lq_born (N := N) hN h R hi hi1 ti
                obtain ⟨b1, b2, b3, b4⟩ := lq_born (N := N) hN h R (show e < 12 by omega) h1 te
                have hlen := lq_ho h
                rw [if_pos g4, a4, lba_i, b4, lba_i, il_le (by omega) (by omega) (by omega) (by omega)]
                have hlt : tBn (wTr W m) i < tBn (wTr W m) e ↔ a1 < b1 := by rw [a3, b3]; exact wO_lt h.1 a2 b2
                by_cases g5 : a1 < b1
                · rw [if_neg (by omega), hb]
                  have : tCl (wTr W m) e i = true := by
                    unfold tCl
                    rw [g2, decide_eq_true g3, decide_eq_true g4, decide_eq_true (hlt.mpr g5)]; rfl
                  rw [this, Bool.true_or, Bool.or_true]
                  exact (ih true).trans (by rw [Bool.true_or])
                · rw [if_pos (by omega)]
                  refine no (hc := ?_) (hb := hb)
                  unfold tCl
                  rw [decide_eq_false (fun q => g5 (hlt.mp q))]
                  simp
              · rw [if_neg g4]
                refine no (hc := ?_) (hb := hb)
                unfold tCl
                rw [decide_eq_false g4]
                simp
            · rw [if_neg g3]
              refine no (hc := ?_) (hb := hb)
              unfold tCl
              rw [decide_eq_false g3]
              simp
          · rw [if_neg (fun q => g2 ((lv_9 Q hi).mp q))]
            refine no (hc := ?_) (hb := hb)
            unfold tCl
            rw [Bool.eq_false_iff.mpr g2]
            rfl
theorem lq_shown (hN : 1000 ≤ N) (h : lOk W) (R : lRel L W) (hm : m < 4) (Q : lTr L (wTr W m)) {e : Nat} (hl : tLv (wTr W m) (e : Nat) = true) : pL_shown N (zI (m : Nat)) (zI (e : Nat)) L = some (zI (tSh (wTr W m) e), L) := by
  have hE := h.2.2.1
  have he := tLv_wE h hl
  have te := tLv_th (show e < 48 by omega) hl
  simp only [pL_shown]
  rw [lq_name hN h R hm (by omega) te, lba_i]
  by_cases g : e = 0
  · subst g
    obtain ⟨n, rfl⟩ : ∃ n, N = n + 1 := ⟨N - 1, by omega⟩
    simp only [pL_shown_23, pL_shown_125]
    have e1 : ∀ {X Y : Option (Int32 × lS)}, (if zI ((0 : Nat) : Int) ≤ (0 : Int32) then X else Y) = X := fun {X Y} => if_pos (by decide)
    rw [gq0, e1, tSh_0]
    simp
  · have h3 := lq_shown_23 (N := N) hN h R hm Q (by omega) hl (pL_shown_125 N) N (wE W - 1) 1 false (by omega) (by omega) (by omega)
    have h3 : pL_shown_23 N (pL_shown_125 N) N (zI (m : Nat)) (zI (e : Nat)) (zI (tNm (wTr W m) e)) (0 : Int32) (1 : Int32) L = _ := h3
    rw [h3, Bool.false_or]
    simp only [pL_shown_125]
    rw [il_B]
    have ec : anyF (tCl (wTr W m) e) 1 47 = anyF (tCl (wTr W m) e) 1 (wE W - 1) := anyF_cut (by omega) (by omega) (fun j h1 h2 => by
      unfold tCl
      have : tLv (wTr W m) (j : Nat) = false := by
        rw [Bool.eq_false_iff]
        intro q
        have := tLv_wE h q
        omega
      rw [this]; rfl)
    unfold tSh
    rw [ec]
    cases anyF (tCl (wTr W m) e) 1 (wE W - 1) with
    | true => rw [if_pos rfl, if_pos rfl, zL_100, zI_add]
    | false => rw [if_neg (by decide), if_neg (by decide)]
theorem lq_named_6 (hN : 1000 ≤ N) (h : lOk W) (R : lRel L W) (hm : m < 4) (Q : lTr L (wTr W m)) {p y u : Int} (hp : -2 ≤ p ∧ p < 48) (hy : -1000 ≤ y ∧ y < 1000) (hu : -1 ≤ u ∧ u < 48) : ∀ (n k i : Nat) (b : Bool), i + k = wE W → k < n → 1 ≤ i → pL_named_6 N n (zI (m : Nat)) (zI p) (zI u) (zI y) (zB b) (zI (i : Nat)) L = some (zB (b || anyF (tShP (wTr W m) p y u) i k), L)
  | 0, k, i, b, _, hn, _ => by omega
  | n + 1, k, i, b, hk, hn, hi1 => by
    have hE := h.2.2.1
    have hW := (wTr_ok h.1 m).1
    have hT := lTo_w h hm
    simp only [pL_named_6, pL_named_77, nm_i]
    rw [gq0, aq0 R, il_le (by omega) (by omega) (by omega) (by omega)]
    cases k with
    | zero =>
      rw [if_pos (by omega), zlA_B]
      show _ = some (zB (b || false), L)
      rw [Bool.or_false]
    | succ k =>
      have ih := fun b => lq_named_6 hN h R hm Q hp hy hu n k (i + 1) b (by omega) (by omega) (by omega)
      have hi : i < 12 := by omega
      rw [if_neg (by omega), il_B, zs1, anyF_s]
      have no : ∀ {hc : tShP (wTr W m) p y u i = false} {hb : b = false}, pL_named_6 N n (zI (m : Nat)) (zI p) (zI u) (zI y) (0 : Int32) (zI ((i + 1 : Nat) : Int)) L = some (zB (b || (tShP (wTr W m) p y u i || anyF (tShP (wTr W m) p y u) (i + 1) k)), L) := fun {hc hb} => by
        rw [hc, hb, Bool.false_or, Bool.false_or]
        exact (ih false).trans (by rw [Bool.false_or])
      cases hb : b with
      | true =>
        rw [if_pos rfl, Bool.true_or]
        exact (ih true).trans (by rw [Bool.true_or])
      | false =>
        rw [if_neg (by decide), ← hb, il_eq (by omega) (by omega) (by omega) (by omega)]
        by_cases g1 : (i : Int) = u
        · rw [if_pos g1]
          refine no (hc := ?_) (hb := hb)
          unfold tShP
          rw [decide_eq_false (fun q => q g1)]; rfl
        · rw [if_neg g1, g36 hi, cn36 hi]
          by_cases g2 : tLv (wTr W m) (i : Nat) = true
          · have ti := tLv_th (show i < 48 by omega) g2
            have pi := tPl_rg hW (show i < 48 by omega)
            have ni := tSh_rg hW (show i < 48 by omega)
            rw [if_pos ((lv_9 Q hi).mpr g2), lq_place hT Q hi (Or.inr ti), lba_i, il_eq (by omega) (by omega) (by omega) (by omega)]
            by_cases g3 : tPl (wTr W m) i = p
            · rw [if_pos g3, lq_shown hN h R hm Q g2, lba_i, il_eq (by omega) (by omega) (by omega) (by omega)]
              by_cases g4 : tSh (wTr W m) i = y
              · rw [if_pos g4, hb]
                have : tShP (wTr W m) p y u i = true := by
                  unfold tShP
                  rw [g2, decide_eq_true g3, decide_eq_true g4, decide_eq_true g1]; rfl
                rw [this, Bool.true_or, Bool.or_true]
                exact (ih true).trans (by rw [Bool.true_or])
              · rw [if_neg g4]
                refine no (hc := ?_) (hb := hb)
                unfold tShP
                rw [decide_eq_false g4]
                simp
            · rw [if_neg g3]
              refine no (hc := ?_) (hb := hb)
              unfold tShP
              rw [decide_eq_false g3]
              simp
          · rw [if_neg (fun q => g2 ((lv_9 Q hi).mp q))]
            refine no (hc := ?_) (hb := hb)
            unfold tShP
            rw [Bool.eq_false_iff.mpr g2]
            simp
theorem lq_named (hN : 1000 ≤ N) (h : lOk W) (R : lRel L W) (hm : m < 4) (Q : lTr L (wTr W m)) {p y u : Int} (hp : -2 ≤ p ∧ p < 48) (hy : -1000 ≤ y ∧ y < 1000) (hu : -1 ≤ u ∧ u < 48) : pL_named N (zI (m : Nat)) (zI p) (zI u) (zI y) L = some (zB (tShd (wTr W m) p y u), L) := by
  have hE := h.2.2.1
  have hE1 := h.1.2.2.2.2.2.2.1.1
  simp only [pL_named]
  have h3 := lq_named_6 (N := N) hN h R hm Q hp hy hu N (wE W - 1) 1 false (by omega) (by omega) (by omega)
  have h3 : pL_named_6 N N (zI (m : Nat)) (zI p) (zI u) (zI y) (0 : Int32) (1 : Int32) L = _ := h3
  rw [h3, Bool.false_or]
  have ec : anyF (tShP (wTr W m) p y u) 1 47 = anyF (tShP (wTr W m) p y u) 1 (wE W - 1) := anyF_cut (by omega) (by omega) (fun j h1 h2 => by
    unfold tShP
    have : tLv (wTr W m) (j : Nat) = false := by
      rw [Bool.eq_false_iff]
      intro q
      have := tLv_wE h q
      omega
    rw [this]; simp)
  show _ = some (zB (anyF (tShP (wTr W m) p y u) 1 47), L)
  rw [ec]
end LI
