-- LEVEL 2, THE LAW: RULES OF ONE SORT, THE NEAREST THAT TELL
section LR
variable {N m : Nat} {L : lS} {W : sW}
theorem tApp_54 {H : sH} {T : sT} {who : Nat} : tApp H T who 54 = true := rfl
theorem lq_sort_one (hN : 1000 ≤ N) (h : lOk W) (R : lRel L W) (hm : m < 4) {who e up r q s : Nat} (he : e < 12) (hup : up < 100) (hr : r < 2) (hqs : (q < 18 ∧ s = q) ∨ (q = 18 ∧ s = 54)) (ha : tApp (wH W) (wTr W m) who s = true) {x5 : Int32} (h5 : ¬ x5 = (1 : Int32)) {n : Nat} : pL_sort_55 N (n + 2) (zI (m : Nat)) (zI (who : Nat)) (zI (e : Nat)) (zI (up : Nat)) (zI (r : Nat)) x5 (0 : Int32) (zI (q : Nat)) (zI (q : Nat)) L = some (zI (lvv (wH W) (wTr W m) who e up r s : Nat), L) := by
  have h1 := lq_sort_117 (N := N) (its := true) hN h R hm he hup hr hqs (show 0 ≤ 2 by omega) (x1 := zI (who : Nat)) (x5 := x5) (x17 := zI (q : Nat)) (pL_sort_55 N (n + 1))
  have h1 : pL_sort_117 N (pL_sort_55 N (n + 1)) (1 : Int32) (zI (m : Nat)) (zI (who : Nat)) (zI (e : Nat)) (zI (up : Nat)) (zI (r : Nat)) x5 (0 : Int32) (zI (q : Nat)) (zI (q : Nat)) L = _ := h1
  have e1 : pL_sort_55 N (n + 2) (zI (m : Nat)) (zI (who : Nat)) (zI (e : Nat)) (zI (up : Nat)) (zI (r : Nat)) x5 (0 : Int32) (zI (q : Nat)) (zI (q : Nat)) L = if zI (q : Nat) < zI (q : Nat) then some ((0 : Int32), L) else if x5 = (1 : Int32) then _ else pL_sort_117 N (pL_sort_55 N (n + 1)) (1 : Int32) (zI (m : Nat)) (zI (who : Nat)) (zI (e : Nat)) (zI (up : Nat)) (zI (r : Nat)) x5 (0 : Int32) (zI (q : Nat)) (zI (q : Nat)) L := rfl
  rw [e1, il_lt (by omega) (by omega) (by omega) (by omega), if_neg (by omega), if_neg h5, h1]
  simp only [pL_sort_55]
  rw [il_lt (by omega) (by omega) (by omega) (by omega), if_pos (by omega), if_pos trivial, Nat.zero_max]
  unfold lvv
  rw [if_pos ha]
theorem lq_sort_grp (hN : 1000 ≤ N) (h : lOk W) (R : lRel L W) (hm : m < 4) (Q : lTr L (wTr W m)) {who e up r : Nat} (hw : who < 60) (he : e < 12) (hup : up < 100) (hr : r < 2) : ∀ (n k q c : Nat), q + k = 18 → k < n → 6 ≤ q → c ≤ 2 → pL_sort_55 N n (zI (m : Nat)) (zI (who : Nat)) (zI (e : Nat)) (zI (up : Nat)) (zI (r : Nat)) (1 : Int32) (zI (c : Nat)) (17 : Int32) (zI (q : Nat)) L = some (zI ((max c (mxF (lvv (wH W) (wTr W m) who e up r) q k) : Nat) : Int), L)
  | 0, k, q, c, _, hn, _, _ => by omega
  | n + 1, k, q, c, hk, hn, h6, hc => by
    have hs2 := (wTr_ok h.1 m).1.2.2.2.2.2.2.2.1
    have hT := lTo_w h hm
    simp only [pL_sort_55]
    rw [zL_17, il_lt (by omega) (by omega) (by omega) (by omega)]
    cases k with
    | zero =>
      rw [if_pos (by omega)]
      show _ = some (zI ((max c 0 : Nat) : Int), L)
      rw [Nat.max_zero]
    | succ k =>
      obtain ⟨i, rfl⟩ : ∃ i, q = i + 6 := ⟨q - 6, by omega⟩
      have hi : i < 12 := by omega
      have e6 : zI ((i + 6 : Nat) : Int) - (6 : Int32) = zI (i : Nat) := by
        rw [zL_6, zI_sub]
        congr 1
        omega
      have fin : ∀ its : Bool, its = tApp (wH W) (wTr W m) who (i + 6) → pL_sort_117 N (pL_sort_55 N n) (zB its) (zI (m : Nat)) (zI (who : Nat)) (zI (e : Nat)) (zI (up : Nat)) (zI (r : Nat)) (1 : Int32) (zI (c : Nat)) (zI 17) (zI ((i + 6 : Nat) : Int)) L = some (zI ((max c (mxF (lvv (wH W) (wTr W m) who e up r) (i + 6) (k + 1)) : Nat) : Int), L) := fun its hits => by
        have hv := lvv_le (H := wH W) (T := wTr W m) (who := who) (e := e) (up := up) (what := r) (s := i + 6) hs2
        have e9 : (if its then max (tNear (wTr W m) e (i + 6) up r) (tSy (wTr W m) e (6 * (i + 6) + r + 4)) else 0) = lvv (wH W) (wTr W m) who e up r (i + 6) := by
          rw [hits]; rfl
        rw [lq_sort_117 hN h R hm he hup hr (Or.inl ⟨by omega, rfl⟩) hc, e9, ← zL_17, lq_sort_grp hN h R hm Q hw he hup hr n k (i + 6 + 1) _ (by omega) (by omega) (by omega) (by omega), Nat.max_assoc]
        rfl
      have tA : tApp (wH W) (wTr W m) who (i + 6) = (tLv (wTr W m) (i : Nat) && decide (0 < tMt (wH W) (wTr W m) i 0 who)) := by
        unfold tApp
        rw [if_neg (by omega), if_neg (by omega), show ((i + 6 : Nat) : Int) - 6 = (i : Nat) by omega, show i + 6 - 6 = i by omega]
      rw [if_neg (by omega), if_pos trivial, e6, g36 hi, cn36 hi]
      by_cases g : tLv (wTr W m) (i : Nat) = true
      · obtain ⟨w, m1, m2⟩ := lq_match (N := N) R.2.2.2.1 (show 0 < 3 by omega) hw
        have m1 : pL_match N (0 : Int32) (zI (who : Nat)) L = some (w, L) := m1
        rw [if_pos ((lv_9 Q hi).mpr g), gq2, aq2 R, zL_0, il_le (by omega) (by omega) (by omega) (by omega), if_neg (by omega), ← zL_0, g36 hi, m1, lba_i]
        have hz := has_iff (H := wH W) (v := who) hT Q hi (show 0 < 3 by omega) m2
        rw [Nat.add_zero] at hz
        by_cases g2 : tMt (wH W) (wTr W m) i 0 who = 0
        · rw [if_pos (hz.mpr g2)]
          exact fin false (by rw [tA, g, decide_eq_false (by omega)]; rfl)
        · rw [if_neg (fun q => g2 (hz.mp q))]
          exact fin true (by rw [tA, g, decide_eq_true (by omega)]; rfl)
      · rw [if_neg (fun q => g ((lv_9 Q hi).mp q))]
        exact fin false (by rw [tA, Bool.eq_false_iff.mpr g]; rfl)
/-- what the rules of a sort tell -/
def lDt (H : sH) (T : sT) (who e up what κ : Nat) : Nat := if κ = 0 then tDec1 H T who e up what 0 6 else if κ = 1 then tDec1 H T who e up what 6 48 else tDec1 H T who e up what 54 1
theorem lDt_le {H : sH} {T : sT} {who e up what κ : Nat} (hs : ∀ e k, tSy T e k ≤ 2) : lDt H T who e up what κ ≤ 2 := by
  unfold lDt
  rw [tDec1_mx hs, tDec1_mx hs, tDec1_mx hs]
  split
  · exact mxF_le (fun j => lvv_le hs)
  · split
    · exact mxF_le (fun j => lvv_le hs)
    · exact mxF_le (fun j => lvv_le hs)
theorem lq_sort (hN : 1000 ≤ N) (h : lOk W) (R : lRel L W) (hm : m < 4) (Q : lTr L (wTr W m)) {who e up r κ : Nat} (hw : who < 6) (he : e < 12) (hup : up < 100) (hr : r < 2) (hκ : κ < 3) : pL_sort N (zI (m : Nat)) (zI (who : Nat)) (zI (e : Nat)) (zI (up : Nat)) (zI (r : Nat)) (zI (κ : Nat)) L = some (zI (lDt (wH W) (wTr W m) who e up r κ : Nat), L) := by
  have hs2 := (wTr_ok h.1 m).1.2.2.2.2.2.2.2.1
  obtain ⟨n, hn⟩ : ∃ n, N = n + 2 := ⟨N - 2, by omega⟩
  unfold lDt
  rw [tDec1_mx hs2, tDec1_mx hs2, tDec1_mx hs2]
  simp only [pL_sort, pL_sort_25, pL_sort_49]
  rcases (show κ = 0 ∨ κ = 1 ∨ κ = 2 by omega) with rfl | rfl | rfl
  · rw [if_pos (show zI ((0 : Nat) : Int) = (0 : Int32) from rfl), if_pos (show zI ((0 : Nat) : Int) = (0 : Int32) from rfl), if_pos rfl]
    have e1 := lq_sort_one (N := N) (who := who) (q := who) (s := who) hN h R hm he hup hr (Or.inl ⟨by omega, rfl⟩) (by unfold tApp; rw [if_pos hw]; exact decide_eq_true rfl) (x5 := zI ((0 : Nat) : Int)) (by decide) (n := n)
    rw [← hn] at e1
    rw [e1, mxF_one hw (fun j hj hne => by unfold lvv tApp; rw [if_pos (show j < 6 by omega), decide_eq_false hne]; rfl)]
  · rw [if_neg (show ¬ zI ((1 : Nat) : Int) = (0 : Int32) by decide), if_pos (show zI ((1 : Nat) : Int) = (1 : Int32) from rfl), if_neg (show ¬ zI ((1 : Nat) : Int) = (0 : Int32) by decide), if_pos (show zI ((1 : Nat) : Int) = (1 : Int32) from rfl), if_neg (by omega), if_pos rfl]
    have e1 := lq_sort_grp (N := N) hN h R hm Q (show who < 60 by omega) he hup hr N 12 6 0 (by omega) (by omega) (by omega) (by omega)
    have e1 : pL_sort_55 N N (zI (m : Nat)) (zI (who : Nat)) (zI (e : Nat)) (zI (up : Nat)) (zI (r : Nat)) (zI ((1 : Nat) : Int)) (0 : Int32) (17 : Int32) (6 : Int32) L = _ := e1
    rw [e1, Nat.zero_max, show (48 : Nat) = 12 + 36 from rfl, mxF_split, mxF_zero (i := 6 + 12) (n := 36) (fun j a b => by
      have t1 := tLv_12 h hm (j := j - 6) (by omega)
      rw [show ((j - 6 : Nat) : Int) = (j : Int) - 6 by omega] at t1
      have t2 : tApp (wH W) (wTr W m) who j = false := by
        unfold tApp
        rw [if_neg (show ¬ j < 6 by omega), if_neg (show ¬ j = 54 by omega), t1]; rfl
      unfold lvv
      rw [t2]; rfl), Nat.max_zero]
  · rw [if_neg (show ¬ zI ((2 : Nat) : Int) = (0 : Int32) by decide), if_neg (show ¬ zI ((2 : Nat) : Int) = (1 : Int32) by decide), if_neg (show ¬ zI ((2 : Nat) : Int) = (0 : Int32) by decide), if_neg (show ¬ zI ((2 : Nat) : Int) = (1 : Int32) by decide), if_neg (by omega), if_neg (by omega)]
    have e1 := lq_sort_one (N := N) (who := who) (q := 18) (s := 54) hN h R hm he hup hr (Or.inr ⟨rfl, rfl⟩) tApp_54 (x5 := zI ((2 : Nat) : Int)) (by decide) (n := n)
    rw [← hn] at e1
    have e1 : pL_sort_55 N N (zI (m : Nat)) (zI (who : Nat)) (zI (e : Nat)) (zI (up : Nat)) (zI (r : Nat)) (zI ((2 : Nat) : Int)) (0 : Int32) (18 : Int32) (18 : Int32) L = _ := e1
    rw [e1]
    show _ = some (zI ((max (lvv (wH W) (wTr W m) who e up r 54) 0 : Nat) : Int), L)
    rw [Nat.max_zero]
theorem tDec_l {H : sH} {T : sT} {who e up what : Nat} : tDec H T who e up what = if lDt H T who e up what 0 ≠ 0 then lDt H T who e up what 0 else if lDt H T who e up what 1 ≠ 0 then lDt H T who e up what 1 else lDt H T who e up what 2 := rfl
theorem lq_may_20 (hN : 1000 ≤ N) (h : lOk W) (R : lRel L W) (hm : m < 4) (Q : lTr L (wTr W m)) {who e up r : Nat} (hw : who < 6) (he : e < 12) (hup : up < 100) (hr : r < 2) (K63 : Int32 → lS → Option (Int32 × lS)) (K81 : Int32 → Int32 → Int32 → Int32 → Int32 → lS → Option (Int32 × lS)) : pL_may_20 N K63 K81 N (zI (m : Nat)) (zI (who : Nat)) (zI (r : Nat)) (zI (e : Nat)) (zI (up : Nat)) (0 : Int32) L = if tDec (wH W) (wTr W m) who e up r = 0 then K81 (zI (m : Nat)) (zI (who : Nat)) (zI (r : Nat)) (zI (e : Nat)) (zI (up : Nat)) L else K63 (zI (tDec (wH W) (wTr W m) who e up r : Nat)) L := by
  have hs2 := (wTr_ok h.1 m).1.2.2.2.2.2.2.2.1
  have step : ∀ (n κ : Nat), κ < 3 → pL_may_20 N K63 K81 (n + 1) (zI (m : Nat)) (zI (who : Nat)) (zI (r : Nat)) (zI (e : Nat)) (zI (up : Nat)) (zI (κ : Nat)) L = if lDt (wH W) (wTr W m) who e up r κ = 0 then pL_may_20 N K63 K81 n (zI (m : Nat)) (zI (who : Nat)) (zI (r : Nat)) (zI (e : Nat)) (zI (up : Nat)) (zI ((κ + 1 : Nat) : Int)) L else K63 (zI (lDt (wH W) (wTr W m) who e up r κ : Nat)) L := fun n κ hκ => by
    have hd := lDt_le (H := wH W) (T := wTr W m) (who := who) (e := e) (up := up) (what := r) (κ := κ) hs2
    have e1 : pL_may_20 N K63 K81 (n + 1) (zI (m : Nat)) (zI (who : Nat)) (zI (r : Nat)) (zI (e : Nat)) (zI (up : Nat)) (zI (κ : Nat)) L = if (3 : Int32) ≤ zI (κ : Nat) then K81 (zI (m : Nat)) (zI (who : Nat)) (zI (r : Nat)) (zI (e : Nat)) (zI (up : Nat)) L else lba (pL_sort N (zI (m : Nat)) (zI (who : Nat)) (zI (e : Nat)) (zI (up : Nat)) (zI (r : Nat)) (zI (κ : Nat)) L) fun v101 L102 => if v101 ≤ (0 : Int32) then pL_may_20 N K63 K81 n (zI (m : Nat)) (zI (who : Nat)) (zI (r : Nat)) (zI (e : Nat)) (zI (up : Nat)) (zI (κ : Nat) + (1 : Int32)) L102 else K63 v101 L102 := rfl
    rw [e1, zL_3, il_le (by omega) (by omega) (by omega) (by omega), if_neg (by omega), lq_sort hN h R hm Q hw he hup hr hκ, lba_i, zL_0, il_le (by omega) (by omega) (by omega) (by omega), zs1]
    by_cases g : lDt (wH W) (wTr W m) who e up r κ = 0
    · rw [if_pos (by omega), if_pos g]
    · rw [if_neg (by omega), if_neg g]
  obtain ⟨n, hn⟩ : ∃ n, N = n + 1 + 1 + 1 + 1 := ⟨N - 4, by omega⟩
  have s0 := step (n + 1 + 1 + 1) 0 (by omega)
  have s1 := step (n + 1 + 1) 1 (by omega)
  have s2 := step (n + 1) 2 (by omega)
  have s3 : pL_may_20 N K63 K81 (n + 1) (zI (m : Nat)) (zI (who : Nat)) (zI (r : Nat)) (zI (e : Nat)) (zI (up : Nat)) (zI ((2 + 1 : Nat) : Int)) L = K81 (zI (m : Nat)) (zI (who : Nat)) (zI (r : Nat)) (zI (e : Nat)) (zI (up : Nat)) L := by
    simp only [pL_may_20]
    exact if_pos (by decide)
  rw [← hn] at s0
  have s0 : pL_may_20 N K63 K81 N (zI (m : Nat)) (zI (who : Nat)) (zI (r : Nat)) (zI (e : Nat)) (zI (up : Nat)) (0 : Int32) L = _ := s0
  rw [s0, s1, s2, s3, tDec_l]
  by_cases g0 : lDt (wH W) (wTr W m) who e up r 0 = 0
  · rw [if_pos g0, if_neg (show ¬ lDt (wH W) (wTr W m) who e up r 0 ≠ 0 from fun q => q g0)]
    by_cases g1 : lDt (wH W) (wTr W m) who e up r 1 = 0
    · rw [if_pos g1, if_neg (show ¬ lDt (wH W) (wTr W m) who e up r 1 ≠ 0 from fun q => q g1)]
    · rw [if_neg g1, if_pos (show lDt (wH W) (wTr W m) who e up r 1 ≠ 0 from g1), if_neg g1]
  · rw [if_neg g0, if_pos (show lDt (wH W) (wTr W m) who e up r 0 ≠ 0 from g0), if_neg g0]
theorem tDec_2 {H : sH} {T : sT} {who e up what : Nat} (hs : ∀ e k, tSy T e k ≤ 2) : tDec H T who e up what ≤ 2 := by
  rw [tDec_l]
  split
  · exact lDt_le hs
  · split
    · exact lDt_le hs
    · exact lDt_le hs
theorem lq_place2 {T : sT} (hT : lTo T) (Q : lTr L T) {e : Nat} (he : e < 12) : ∃ p : Int, pL_place N (zI (e : Nat)) L = some (zI p, L) ∧ (p = tPl T e ∨ (p < 0 ∧ tPl T e < 0)) ∧ -2 ≤ p ∧ p < 12 := by
  have hp := tPl_rg hT.1 (show e < 48 by omega)
  have h12 : tPl T e < 12 := by
    unfold tPl
    split
    · omega
    · split
      · rw [Int.toNat_natCast]; exact hT.2.2.2.1 e (by omega)
      · omega
  by_cases g : e = 0 ∨ tTh T e = true
  · exact ⟨tPl T e, lq_place hT Q he g, Or.inl rfl, hp.1, h12⟩
  · obtain ⟨r1, r2, r3⟩ := Q.1 e he
    have hb := hT.1.2.1 e (by omega)
    have hc := hT.2.2.2.1 e (by omega)
    by_cases g2 : 0 ≤ tPa T e
    · refine ⟨tPl T e, ?_, Or.inl rfl, hp.1, h12⟩
      simp only [pL_place]
      rw [z3_2]
      have g3 : ∀ {β : Type} {K : Option β}, gd (zI ((3 * e + 2 : Nat) : Int)) 36 K = K := gd_c (by omega) (by omega)
      simp only [g3, zI_cn (show 3 * e + 2 < 2147483648 by omega)]
      obtain ⟨p, hp2⟩ : ∃ p : Nat, tPa T e = p := ⟨(tPa T e).toNat, by omega⟩
      have hp12 : p < 12 := by omega
      rw [r3, zL_0, il_le (by omega) (by omega) (by omega) (by omega), if_pos g2, hp2, g36 hp12, cn36 hp12]
      unfold tPl
      rw [if_neg (show ¬ (e : Int) = 0 by omega), Int.toNat_natCast, hp2]
      by_cases gl : tLv T (p : Nat) = true
      · rw [if_pos ((lv_9 Q hp12).mpr gl), if_pos gl]
      · rw [if_neg (fun q => gl ((lv_9 Q hp12).mp q)), if_neg gl]; rfl
    · refine ⟨-1, ?_, Or.inr ⟨by omega, ?_⟩, by omega, by omega⟩
      · simp only [pL_place]
        rw [z3_2, gd_c (by omega) (by omega), zI_cn (by omega), r3, zL_0, il_le (by omega) (by omega) (by omega) (by omega), if_neg g2]
        rfl
      · unfold tPl
        split
        · omega
        · rw [Int.toNat_natCast]
          split
          · omega
          · omega
theorem tTold_neg {H : sH} {T : sT} {who what k up : Nat} {x : Int} (h : x < 0) : tTold H T who what k up x = 0 := by
  cases k with
  | zero => rfl
  | succ k => exact if_pos h
theorem lq_may_12 (hN : 1000 ≤ N) (h : lOk W) (R : lRel L W) (hm : m < 4) (Q : lTr L (wTr W m)) {who r : Nat} (hw : who < 6) (hr : r < 2) : ∀ (n k up : Nat) (x : Int), k < n → up + k ≤ 60 → climb (fun z => tPl (wTr W m) z) k x < 0 → -2 ≤ x → x < 12 → pL_may_12 N (pL_may_63 N) (pL_may_96 N) n (zI (m : Nat)) (zI (who : Nat)) (zI (r : Nat)) (zI x) (zI (up : Nat)) L = some (zB (if tTold (wH W) (wTr W m) who r k up x = 0 then decide (r = 0) else decide (tTold (wH W) (wTr W m) who r k up x = 1)), L)
  | 0, k, up, x, hn, _, _, _, _ => by omega
  | n + 1, k, up, x, hn, hup, hc, h2, hx => by
    have hs2 := (wTr_ok h.1 m).1.2.2.2.2.2.2.2.1
    have e1 : pL_may_12 N (pL_may_63 N) (pL_may_96 N) (n + 1) (zI (m : Nat)) (zI (who : Nat)) (zI (r : Nat)) (zI x) (zI (up : Nat)) L = if zI x < (0 : Int32) then pL_may_96 N (zI (r : Nat)) L else pL_may_20 N (pL_may_63 N) (pL_may_81 N (pL_may_12 N (pL_may_63 N) (pL_may_96 N) n)) N (zI (m : Nat)) (zI (who : Nat)) (zI (r : Nat)) (zI x) (zI (up : Nat)) (0 : Int32) L := rfl
    rw [e1, zL_0, il_lt (by omega) (by omega) (by omega) (by omega), ← zL_0]
    by_cases g : x < 0
    · have t0 : tTold (wH W) (wTr W m) who r k up x = 0 := by
        cases k with
        | zero => rfl
        | succ k => exact if_pos g
      rw [if_pos g, t0, if_pos rfl]
      simp only [pL_may_96]
      by_cases g3 : r = 0
      · rw [if_pos (by rw [g3]; rfl), decide_eq_true g3, zlA_1]
      · rw [if_neg (show ¬ zI (r : Nat) = (0 : Int32) from nk g3 (by omega) (j := 0) (by omega)), decide_eq_false g3, zlA_0]
    · obtain ⟨e, rfl⟩ : ∃ e : Nat, x = e := ⟨x.toNat, by omega⟩
      have he : e < 12 := by omega
      cases k with
      | zero => exact absurd hc g
      | succ k =>
        have et : tTold (wH W) (wTr W m) who r (k + 1) up (e : Int) = if tDec (wH W) (wTr W m) who e up r ≠ 0 then tDec (wH W) (wTr W m) who e up r else tTold (wH W) (wTr W m) who r k (up + 1) (tPl (wTr W m) e) := by
          show (if (e : Int) < 0 then 0 else if tDec (wH W) (wTr W m) who (e : Int).toNat up r ≠ 0 then tDec (wH W) (wTr W m) who (e : Int).toNat up r else tTold (wH W) (wTr W m) who r k (up + 1) (tPl (wTr W m) (e : Int))) = _
          rw [if_neg g, Int.toNat_natCast]
        rw [if_neg g, lq_may_20 hN h R hm Q hw he (by omega) hr, et]
        have hd := tDec_2 (H := wH W) (T := wTr W m) (who := who) (e := e) (up := up) (what := r) hs2
        by_cases g4 : tDec (wH W) (wTr W m) who e up r = 0
        · rw [if_pos g4, if_neg (show ¬ tDec (wH W) (wTr W m) who e up r ≠ 0 from fun q => q g4)]
          simp only [pL_may_81, nm_i]
          obtain ⟨p, p1, p2, p3, p4⟩ := lq_place2 (N := N) (lTo_w h hm) Q he
          rw [p1, lba_i, zs1]
          rw [climb_s (by omega), Int.toNat_natCast] at hc
          have e9 : tTold (wH W) (wTr W m) who r k (up + 1) (tPl (wTr W m) e) = tTold (wH W) (wTr W m) who r k (up + 1) p := by
            rcases p2 with q | ⟨q1, q2⟩
            · rw [q]
            · rw [tTold_neg q1, tTold_neg q2]
          rw [e9]
          refine lq_may_12 hN h R hm Q hw hr n k (up + 1) p (by omega) (by omega) ?_ p3 p4
          rcases p2 with q | ⟨q1, q2⟩
          · rw [q]; exact hc
          · rw [climb_neg _ q1]; exact q1
        · rw [if_neg g4, if_pos (show tDec (wH W) (wTr W m) who e up r ≠ 0 from g4), if_neg g4]
          simp only [pL_may_63]
          by_cases g5 : tDec (wH W) (wTr W m) who e up r = 1
          · rw [if_pos (by rw [g5]; rfl), decide_eq_true g5, zlA_1]
          · rw [if_neg (show ¬ zI (tDec (wH W) (wTr W m) who e up r : Nat) = (1 : Int32) from nk g5 (by omega) (j := 1) (by omega)), decide_eq_false g5, zlA_0]
theorem lq_may (hN : 1000 ≤ N) (h : lOk W) (R : lRel L W) (hm : m < 4) (Q : lTr L (wTr W m)) {who e r : Nat} (hw : who < 6) (hr : r < 2) (he : e < 12) : pL_may N (zI (m : Nat)) (zI (who : Nat)) (zI (e : Nat)) (zI (r : Nat)) L = some (zB (tMay (wH W) (wTr W m) who (e : Nat) r), L) := by
  simp only [pL_may]
  unfold tMay
  by_cases g : who = 0
  · rw [if_pos (by rw [g]; rfl), decide_eq_true g, Bool.true_or, zlA_1]
  · rw [if_neg (show ¬ zI (who : Nat) = (0 : Int32) from nk g (by omega) (j := 0) (by omega)), decide_eq_false g, Bool.false_or]
    exact lq_may_12 hN h R hm Q hw hr N 48 0 (e : Nat) (by omega) (by omega) ((tPl_end (wTr_ok h.1 m).1.1).at (show (e : Int) < 48 by omega)) (by omega) (by omega)
theorem g4p {β : Type} {K : Option β} (hm : m < 4) : gd ((4 : Int32) + zI (m : Nat)) 20 K = K := by rw [z4p]; exact gd_c (by omega) (by omega)
theorem lq_mayU (hN : 1000 ≤ N) (h : lOk W) (R : lRel L W) (hm : m < 4) (Q : lTr L (wTr W m)) {e : Nat} (he : e < 12) {β : Type} {k : Int32 → lS → Option β} : lba (pL_may N (zI (m : Nat)) (aI L 0 ((4 : Int32) + zI (m : Nat)).toNatClampNeg) (zI (e : Nat)) (1 : Int32) L) k = k (zB (tMay (wH W) (wTr W m) (wU W m) (e : Nat) 1)) L := by
  have hu := h.1.2.2.2.2.2.1 m hm
  have h9 := lq_may (N := N) hN h R hm Q (who := wU W m) (e := e) (r := 1) hu (by omega) he
  have h9 : pL_may N (zI (m : Nat)) (zI (wU W m : Nat)) (zI (e : Nat)) (1 : Int32) L = _ := h9
  rw [z4p, zI_cn (by omega), R.2.1 m hm, h9, lba_i]
theorem lq_mayR (hN : 1000 ≤ N) (h : lOk W) (R : lRel L W) (hm : m < 4) (Q : lTr L (wTr W m)) {e m2 : Nat} (hm2 : m2 < 4) (he : e < 12) {β : Type} {k : Int32 → lS → Option β} : lba (pL_may N (zI (m : Nat)) (aI L 0 ((4 : Int32) + zI (m2 : Nat)).toNatClampNeg) (zI (e : Nat)) (0 : Int32) L) k = k (zB (tMay (wH W) (wTr W m) (wU W m2) (e : Nat) 0)) L := by
  have hu := h.1.2.2.2.2.2.1 m2 hm2
  have h9 := lq_may (N := N) hN h R hm Q (who := wU W m2) (e := e) (r := 0) hu (by omega) he
  have h9 : pL_may N (zI (m : Nat)) (zI (wU W m2 : Nat)) (zI (e : Nat)) (0 : Int32) L = _ := h9
  rw [z4p, zI_cn (by omega), R.2.1 m2 hm2, h9, lba_i]
end LR
