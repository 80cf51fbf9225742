-- LEVEL 2, THE LAW: DELETIONS THAT ARE KNOWN, MARKS
section LGN
variable {N m : Nat} {L : lS} {W : sW}
theorem lq_gone_6 (h : lOk W) (R : lRel L W) {by' whom e : Nat} (hb4 : by' < 4) (hw4 : whom < 4) (he : e < 12) : ∀ (n k i : Nat) (b : Bool), i + k = (wO W).length → k < n → pL_gone_6 N n (zI (by' : Nat)) (zI (whom : Nat)) (zI (e : Nat)) (zB b) (zI (i : Nat)) L = some (zB (b || ((wO W).drop i).any (kDp W by' whom e)), L)
  | 0, k, i, b, _, hn => by omega
  | n + 1, k, i, b, hk, hn => by
    have ho := lq_ho h
    have hlen := wO_len h.1
    simp only [pL_gone_6, pL_gone_79, nm_i]
    rw [gq1, aq1 R, il_le (by omega) (by omega) (by omega) (by omega)]
    cases k with
    | zero =>
      rw [if_pos (by omega), zlA_B, List.drop_eq_nil_of_le (by omega)]
      show _ = some (zB (b || false), L)
      rw [Bool.or_false]
    | succ k =>
      have hi : i < (wO W).length := by omega
      have hmem : (wO W)[i] ∈ wO W := List.getElem_mem hi
      have C := R.2.2.2.2.2.1 i hi
      have hc := lq_hO h _ hmem
      have hcE := (lq_hl h _ hmem).1
      have hcK := hc.1
      have hcM := hc.2.2.1
      have hcN := hc.2.2.2.1
      have hcS := hc.2.2.2.2.1
      have hR : cR (wC W (wO W)[i]) < 2000 := by unfold cR; omega
      have hR4 : cR (wC W (wO W)[i]) % 4 = cM (wC W (wO W)[i]) := by unfold cR; omega
      have ih := fun b => lq_gone_6 h R hb4 hw4 he n k (i + 1) b (by omega) (by omega)
      have ed : (wO W).drop i = (wO W)[i] :: (wO W).drop (i + 1) := List.drop_eq_getElem_cons hi
      rw [if_neg (by omega), ed, List.any_cons, il_B, zs1]
      have no : ∀ {hp : kDp W by' whom e (wO W)[i] = false} {hb : b = false}, pL_gone_6 N n (zI (by' : Nat)) (zI (whom : Nat)) (zI (e : Nat)) (0 : Int32) (zI ((i + 1 : Nat) : Int)) L = some (zB (b || (kDp W by' whom e (wO W)[i] || ((wO W).drop (i + 1)).any (kDp W by' whom e))), L) := fun {hp hb} => by
        rw [hp, hb, Bool.false_or, Bool.false_or]
        exact (ih false).trans (by rw [Bool.false_or])
      cases hb : b with
      | true =>
        rw [if_pos rfl, Bool.true_or]
        exact (ih true).trans (by rw [Bool.true_or])
      | false =>
        have g41 : ∀ {β : Type} {K : Option β}, gd (zI (i : Nat)) 41 K = K := gd_c (by omega) (by omega)
        rw [if_neg (by decide), ← hb, g41, zI_cn (by omega), C.2.2.1, show (128 : Int32) = zI ((128 : Nat) : Int) from rfl, zI_add, il_eq (by omega) (by omega) (by omega) (by omega)]
        by_cases g : ((16 * cK (wC W (wO W)[i]) + cE (wC W (wO W)[i]) : Nat) : Int) = ((128 : Nat) : Int) + (e : Int)
        · have g1 : cK (wC W (wO W)[i]) = 8 ∧ cE (wC W (wO W)[i]) = e := by omega
          rw [if_pos g, q_known hb4 (by omega) C hc R.2.2.2.2.2.2 (lq_ht h hb4 _ hcM), lba_i, il_B]
          have hp : kDp W by' whom e (wO W)[i] = (gotB (wT W by') by' (wC W (wO W)[i]) && gotB (wT W by') whom (wC W (wO W)[i])) := by
            unfold kDp
            rw [decide_eq_true g1.1, decide_eq_true g1.2, Bool.true_and, Bool.true_and]
          cases q1 : gotB (wT W by') by' (wC W (wO W)[i]) with
          | false =>
            rw [if_neg (by decide)]
            exact no (hp := by rw [hp, q1]; rfl) (hb := hb)
          | true =>
            have e1 : (((16 : Int32) * zI (by' : Nat)) + ((4 : Int32) * zI (whom : Nat))) + (zI (cR (wC W (wO W)[i]) : Nat) - zI (cR (wC W (wO W)[i]) : Nat) / (4 : Int32) * (4 : Int32)) = zI ((16 * by' + 4 * whom + cM (wC W (wO W)[i]) : Nat) : Int) := by
              rw [show (4 : Int32) = zI ((4 : Nat) : Int) from rfl, z_mod (by omega) (by omega) (by omega), hR4, zL_16, zI_mul, zI_mul, zI_add, zI_add]
              rfl
            have ht := wT_le h.1 hb4 hw4 hcM
            have hn40 := h.2.2.2.1
            rw [if_pos rfl, g41, g41, C.1, e1, gd_c (by omega) (by omega), zI_cn (by omega), C.2.1, R.2.2.2.2.2.2 by' whom _ hb4 hw4 hcM, il_le (by omega) (by omega) (by omega) (by omega)]
            by_cases q2 : cN (wC W (wO W)[i]) < wT W by' whom (cM (wC W (wO W)[i]))
            · rw [if_neg (by omega), hp, q1]
              have : gotB (wT W by') whom (wC W (wO W)[i]) = true := decide_eq_true q2
              rw [this, Bool.true_and, Bool.true_or, Bool.or_true]
              exact (ih true).trans (by rw [Bool.true_or])
            · rw [if_pos (by omega)]
              exact no (hp := by rw [hp, q1, Bool.true_and]; exact decide_eq_false q2) (hb := hb)
        · rw [if_neg g]
          refine no (hp := ?_) (hb := hb)
          unfold kDp
          by_cases q1 : cK (wC W (wO W)[i]) = 8
          · rw [decide_eq_false (show ¬ cE (wC W (wO W)[i]) = e by omega)]; simp
          · rw [decide_eq_false q1]; rfl
theorem lq_gone (hN : 1000 ≤ N) (h : lOk W) (R : lRel L W) {by' whom e : Nat} (hb4 : by' < 4) (hw4 : whom < 4) (he : e < 12) : pL_gone N (zI (by' : Nat)) (zI (whom : Nat)) (zI (e : Nat)) L = some (zB (kDl W by' whom e), L) := by
  have ho := lq_ho h
  have h6 := lq_gone_6 (N := N) h R hb4 hw4 he N (wO W).length 0 false (by omega) (by omega)
  have h6 : pL_gone_6 N N (zI (by' : Nat)) (zI (whom : Nat)) (zI (e : Nat)) (0 : Int32) (0 : Int32) L = _ := h6
  simp only [pL_gone]
  rw [h6, Bool.false_or, List.drop_zero]
  congr 2
  congr 1
  rw [Bool.eq_iff_iff, List.any_eq_true]
  unfold kDl
  rw [anyF_iff]
  have hio := h.1.2.2.2.1.2.2.1
  constructor
  · rintro ⟨k, h1, h2⟩
    exact ⟨k, by omega, by have := (hio k).mp h1; omega, h2⟩
  · rintro ⟨k, -, h1, h2⟩
    exact ⟨k, (hio k).mpr (by omega), h2⟩
theorem kDl_0 (h : lOk W) {a b : Nat} : kDl W a b 0 = false := by
  rw [Bool.eq_false_iff]
  intro g
  obtain ⟨k, h1, h2, h3, -⟩ := kDl_iff.mp g
  have := (wC_ok h.1 h1).2.2.2.2.2.2.2.2.2.2.2 h2
  omega
theorem lq_marks_6 (hN : 1000 ≤ N) (h : lOk W) (R : lRel L W) (hm : m < 4) : ∀ (n k e : Nat), e + k = wE W → k < n → 1 ≤ e → pL_marks_6 N n (zI (m : Nat)) (zI (fb_ct (mkd W m) e : Nat)) (zI (e : Nat)) L = some (zI (fb_ct (mkd W m) (wE W) : Nat), L)
  | 0, k, e, _, hn, _ => by omega
  | n + 1, k, e, hk, hn, h1 => by
    have hE := h.2.2.1
    simp only [pL_marks_6, pL_marks_52, nm_i]
    rw [gq0, aq0 R, il_le (by omega) (by omega) (by omega) (by omega)]
    cases k with
    | zero => rw [if_pos (by omega), show e = wE W by omega]
    | succ k =>
      have ih := lq_marks_6 hN h R hm n k (e + 1) (by omega) (by omega) (by omega)
      have ec : fb_ct (mkd W m) (e + 1) = fb_ct (mkd W m) e + if mkd W m e then 1 else 0 := fb_ct_succ _ _
      have hx := R.2.2.2.2.1 m e hm (by omega)
      have a0 : zI (fb_ct (mkd W m) e : Nat) + (0 : Int32) = zI (fb_ct (mkd W m) e : Nat) := by rw [zL_0, zI_add, Int.add_zero]
      rw [if_neg (by omega), lq_gone hN h R hm hm (by omega), lba_i, il_B, zs1, zs1, a0, z16p, gd_c (by omega) (by omega), zI_cn (by omega)]
      have no : mkd W m e = false → pL_marks_6 N n (zI (m : Nat)) (zI (fb_ct (mkd W m) e : Nat)) (zI ((e + 1 : Nat) : Int)) L = some (zI (fb_ct (mkd W m) (wE W) : Nat), L) := fun g => by
        rw [ec, g, if_neg (by decide), Nat.add_zero] at ih
        exact ih
      cases hg : kDl W m m e with
      | false =>
        rw [if_neg (by decide)]
        exact no (by unfold mkd; rw [hg, Bool.and_false])
      | true =>
        rw [if_pos rfl]
        cases hx2 : wX W m e with
        | true =>
          rw [if_neg (by rw [ib_test0 (by omega), hx, hx2]; decide)]
          exact no (by unfold mkd; rw [hx2]; rfl)
        | false =>
          rw [if_pos (by rw [ib_test0 (by omega), hx, hx2])]
          have : mkd W m e = true := by unfold mkd; rw [hx2, hg]; rfl
          rw [ec, this, if_pos rfl] at ih
          exact ih
theorem lq_marks (hN : 1000 ≤ N) (h : lOk W) (R : lRel L W) (hm : m < 4) : pL_marks N (zI (m : Nat)) L = some (zI (fb_ct (mkd W m) (wE W) : Nat), L) := by
  have hE := h.2.2.1
  have hE1 := h.1.2.2.2.2.2.2.1.1
  have h6 := lq_marks_6 (N := N) hN h R hm N (wE W - 1) 1 (by omega) (by omega) (by omega)
  have e1 : fb_ct (mkd W m) 1 = 0 := by
    show 0 + (if mkd W m 0 then 1 else 0) = 0
    have : mkd W m 0 = false := by unfold mkd; rw [kDl_0 h, Bool.and_false]
    rw [this]; rfl
  rw [e1] at h6
  have h6 : pL_marks_6 N N (zI (m : Nat)) (0 : Int32) (1 : Int32) L = _ := h6
  simp only [pL_marks]
  exact h6
end LGN
