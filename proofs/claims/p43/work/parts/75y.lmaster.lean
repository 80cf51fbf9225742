-- LEVEL 2, THE LAW: WHAT A MASTER SHOWS
theorem nCt_in {l : List Nat} (h : nSt l) {r : Nat} (hr : r ∈ l) : nCt l ((r + 1 : Nat) : Int) = nCt l (r : Nat) + 1 ∧ ∃ hi : nCt l (r : Nat) < l.length, l[nCt l (r : Nat)] = r := by
  obtain ⟨hi, e⟩ := nCt_mem h hr
  refine ⟨?_, hi, e⟩
  have a1 := (nCt_at (z := ((r + 1 : Nat) : Int)) h hi).mp (by rw [e]; omega)
  have a2 : ¬ nCt l (r : Nat) + 1 < nCt l ((r + 1 : Nat) : Int) := fun g => by
    have hl := nCt_le l ((r + 1 : Nat) : Int)
    have h1 : nCt l (r : Nat) + 1 < l.length := by omega
    have h2 := (nCt_at (z := ((r + 1 : Nat) : Int)) h h1).mpr g
    have h3 := List.pairwise_iff_getElem.mp h _ _ hi h1 (Nat.lt_succ_self _)
    rw [e] at h3
    omega
  omega
theorem nCt_out {l : List Nat} {r : Nat} (hr : r ∉ l) : nCt l ((r + 1 : Nat) : Int) = nCt l (r : Nat) := by
  unfold nCt
  refine List.countP_congr (fun x hx => ?_)
  have : x ≠ r := fun e => hr (by rw [← e]; exact hx)
  rw [decide_eq_true_eq, decide_eq_true_eq]
  omega
theorem tKl_take {H : sH} {T : sT} {c : sCh} {e : Nat} : tKl (tTake H T c) e = if cK c = 0 ∧ cE c = e then cX c else tKl T e := by
  unfold tTake
  by_cases k0 : cK c = 0
  · rw [if_pos k0]
    show upf (tKl T) (cE c) (cX c) e = _
    rw [upf_if]
    by_cases g : cE c = e
    · rw [if_pos g, if_pos ⟨k0, g⟩]
    · rw [if_neg g, if_neg (fun q => g q.2)]
  · rw [if_neg k0, if_neg (show ¬ (cK c = 0 ∧ cE c = e) from fun q => k0 q.1)]
    repeat' split
    all_goals rfl
theorem rpl_kl0 {H : sH} {cs : Nat → sCh} (l : List Nat) : (∀ k ∈ l, cOk (cs k)) → tKl (rpl H cs tNew l) 0 = -1 := by
  induction l using snoc_ind with
  | h0 => intro _; rfl
  | h1 l k ih =>
    intro h
    have ih := ih (fun q hq => h q (List.mem_append_left _ hq))
    have hc := h k (List.mem_append_right _ (List.mem_singleton.mpr rfl))
    rw [rpl_snoc, tKl_take, if_neg (fun q => by
      have := (hc.2.2.2.2.2.1 q.1).1
      omega), ih]
theorem cfN_ct {H : sH} {T : sT} {s : Nat} : ∀ (n i : Nat), fb_ct (fun e => tLv T (e : Nat) && cfl H T s e) i + cfN H T s i n = fb_ct (fun e => tLv T (e : Nat) && cfl H T s e) (i + n)
  | 0, i => rfl
  | n + 1, i => by
    have e1 : cfN H T s i (n + 1) = (if tLv T (i : Nat) && cfl H T s i then 1 else 0) + cfN H T s (i + 1) n := rfl
    have e2 := cfN_ct (H := H) (T := T) (s := s) n (i + 1)
    rw [fb_ct_succ] at e2
    rw [e1, show i + (n + 1) = i + 1 + n by omega, ← e2]
    omega
section LQ9
variable {N m : Nat} {S : kS} {L : lS} {W : sW} {z : Int32}
theorem tX_l (h : lOk W) (hm : m < 4) : tX (wH W) (wTr W m) := by
  have hT := lTo_w h hm
  refine ⟨fun e he => ?_, fun x hx => ?_⟩
  · rw [h.2.1.2]; exact hT.2.2.1 e he
  · rw [h.2.1.1]; exact (hT.2.1 x hx).2.1
theorem tInc_0 (h : lOk W) : tInc (wH W) (wTr W m) 0 = false := by
  have e := rpl_kl0 (H := wH W) (cs := wC W) (lkn W m) (fun k hk => lkn_ok h.1 hk)
  have e : tKl (wTr W m) 0 = -1 := e
  unfold tInc
  rw [Bool.eq_false_iff]
  intro g
  obtain ⟨j, h1, h2, h3⟩ := anyF_iff.mp g
  rw [e, hReq_n (by omega), ib_0] at h3
  cases h3
theorem cfl_0 (h : lOk W) (hm : m < 4) {s : Nat} : cfl (wH W) (wTr W m) s 0 = false := by
  unfold cfl
  split
  · rw [tSh_0, (lTo_w h hm).2.2.2.2.2.1.2]; rfl
  · split
    · rfl
    · exact tInc_0 h
theorem cfN_l (h : lOk W) (hm : m < 4) {s : Nat} : cfN (wH W) (wTr W m) s 1 47 = fb_ct (fun e => tLv (wTr W m) (e : Nat) && cfl (wH W) (wTr W m) s e) (wE W) := by
  have hE := h.2.2.1
  have e1 := cfN_ct (H := wH W) (T := wTr W m) (s := s) 47 1
  have e2 : fb_ct (fun e => tLv (wTr W m) (e : Nat) && cfl (wH W) (wTr W m) s e) 1 = 0 := by
    show 0 + (if tLv (wTr W m) (0 : Nat) && cfl (wH W) (wTr W m) s 0 then 1 else 0) = 0
    rw [cfl_0 h hm, Bool.and_false]; rfl
  rw [e2, Nat.zero_add] at e1
  rw [e1]
  exact fb_ct_ext (by omega) (fun k h1 h2 => by
    have : tLv (wTr W m) (k : Nat) = false := by
      rw [Bool.eq_false_iff]
      intro q
      have := tLv_wE h q
      omega
    rw [this]; rfl)
theorem live_l (h : lOk W) : fb_ct (fun e => tLv (wTr W m) (e : Nat)) 48 = fb_ct (fun e => tLv (wTr W m) (e : Nat)) (wE W) := by
  have hE := h.2.2.1
  exact fb_ct_ext (by omega) (fun k h1 h2 => by
    rw [Bool.eq_false_iff]
    intro q
    have := tLv_wE h q
    omega)
theorem z_orB {b c : Bool} : zB b ||| zB c = zB (b || c) := by cases b <;> cases c <;> rfl
theorem lq_master_29 (hN : 1000 ≤ N) (h : lOk W) (R : lRel L W) (hm : m < 4) (Q : lTr L (wTr W m)) (hnd : (tVs (wTr W m)).Nodup) {e : Nat} (he : e < 12) {x1 x2 x13 x14 x15 x16 : Int32} {C D : Nat} (K : Int32 → Int32 → Int32 → Int32 → Int32 → Int32 → Int32 → Int32 → kS → lS → Nat → Nat → Option (Int32 × kS × lS)) : ∀ (n k c : Nat) (b : Bool), c + k = 3 → k < n → pL_master_29 N K n x1 x2 x13 x14 x15 x16 (zI (e : Nat)) (zB b) (zI (c : Nat)) S L C D = K x1 x2 x13 x14 x15 x16 (zI (e : Nat)) (zB (b || anyF (fun a => ib (hReq (wH W) (tKl (wTr W m) e)) a && decide (tCnt (wTr W m) e a = 0)) c k)) S L C D
  | 0, k, c, b, _, hn => by omega
  | n + 1, k, c, b, hk, hn => by
    have hT := lTo_w h hm
    have hkl := hT.2.2.1 e (by omega)
    have hkl2 := (hT.1.2.2.2.1 e (by omega)).1
    simp only [pL_master_29, pL_master_82, nm_i]
    rw [gq2, aq2 R, il_le (by omega) (by omega) (by omega) (by omega)]
    cases k with
    | zero =>
      rw [if_pos (by omega)]
      show _ = K x1 x2 x13 x14 x15 x16 (zI (e : Nat)) (zB (b || false)) S L C D
      rw [Bool.or_false]
    | succ k =>
      have ih := fun b => lq_master_29 hN h R hm Q hnd he (x1 := x1) (x2 := x2) (x13 := x13) (x14 := x14) (x15 := x15) (x16 := x16) (C := C) (D := D) K n k (c + 1) b (by omega) (by omega)
      have hc : c < 3 := by omega
      have fin : ∀ b2 : Bool, b2 = (ib (hReq (wH W) (tKl (wTr W m) e)) c && decide (tCnt (wTr W m) e c = 0)) → pL_master_29 N K n x1 x2 x13 x14 x15 x16 (zI (e : Nat)) (zB b ||| zB b2) (zI ((c + 1 : Nat) : Int)) S L C D = K x1 x2 x13 x14 x15 x16 (zI (e : Nat)) (zB (b || anyF (fun a => ib (hReq (wH W) (tKl (wTr W m) e)) a && decide (tCnt (wTr W m) e a = 0)) c (k + 1))) S L C D := fun b2 hb2 => by
        rw [z_orB, ih, anyF_s, ← hb2, Bool.or_assoc]
      rw [if_neg (by omega), z3_1, gd_c (by omega) (by omega), zI_cn (by omega), (Q.1 e he).2.1, lq_requires R.2.2.2.1 h.2.1.2 h.1.1 hkl2 hkl, lba_i, il_ibit (by omega), z3_a, gd_c (by omega) (by omega), zI_cn (by omega), zs1]
      have hz := emp_iff hnd hT Q he hc
      by_cases g1 : ib (hReq (wH W) (tKl (wTr W m) e)) c = true
      · rw [if_pos g1]
        by_cases g2 : tCnt (wTr W m) e c = 0
        · rw [if_pos (hz.mpr g2)]
          exact fin true (by rw [g1, decide_eq_true g2]; rfl)
        · rw [if_neg (fun q => g2 (hz.mp q))]
          exact fin false (by rw [decide_eq_false g2, Bool.and_false])
      · rw [if_neg g1]
        exact fin false (by rw [Bool.eq_false_iff.mpr g1]; rfl)
def mC (W : sW) (m s e : Nat) : Nat := fb_ct (fun e => tLv (wTr W m) (e : Nat) && cfl (wH W) (wTr W m) s e) e
def mL (W : sW) (m e : Nat) : Nat := fb_ct (fun e => tLv (wTr W m) (e : Nat)) e
theorem lq_master_15 (hN : 1000 ≤ N) (h : lOk W) (R : lRel L W) (hm : m < 4) (Q : lTr L (wTr W m)) (hnd : (tVs (wTr W m)).Nodup) {x2 : Int32} {C D : Nat} (K : Int32 → Int32 → Int32 → Int32 → Int32 → Int32 → kS → lS → Nat → Nat → Option (Int32 × kS × lS)) : ∀ (n k e : Nat), e + k = wE W → k < n → pL_master_15 N K n (zI (m : Nat)) x2 (zI (mL W m e : Nat)) (zI (mC W m 0 e : Nat)) (zI (mC W m 1 e : Nat)) (zI (mC W m 2 e : Nat)) (zI (e : Nat)) S L C D = K (zI (m : Nat)) x2 (zI (mL W m (wE W) : Nat)) (zI (mC W m 0 (wE W) : Nat)) (zI (mC W m 1 (wE W) : Nat)) (zI (mC W m 2 (wE W) : Nat)) S L C D
  | 0, k, e, _, hn => by omega
  | n + 1, k, e, hk, hn => by
    have hE := h.2.2.1
    simp only [pL_master_15]
    rw [gq0, aq0 R, il_le (by omega) (by omega) (by omega) (by omega)]
    cases k with
    | zero => rw [if_pos (by omega), show e = wE W by omega]
    | succ k =>
      have he : e < 12 := by omega
      have hT := lTo_w h hm
      have hW := (wTr_ok h.1 m).1
      have ih := lq_master_15 hN h R hm Q hnd (x2 := x2) (C := C) (D := D) K n k (e + 1) (by omega) (by omega)
      have h29 := lq_master_29 (N := N) (S := S) hN h R hm Q hnd he (x1 := zI (m : Nat)) (x2 := x2) (x13 := zI (mL W m e : Nat)) (x14 := zI (mC W m 0 e : Nat)) (x15 := zI (mC W m 1 e : Nat)) (x16 := zI (mC W m 2 e : Nat)) (C := C) (D := D) (pL_master_91 N (pL_master_15 N K n)) N 3 0 false (by omega) (by omega)
      have eI : anyF (fun a => ib (hReq (wH W) (tKl (wTr W m) e)) a && decide (tCnt (wTr W m) e a = 0)) 0 3 = tInc (wH W) (wTr W m) e := by
        have := tInc_H h.1.1 h.1.2.2.2.2.2.2.2.2 (tX_l h hm) (show e < 48 by omega)
        rw [h.2.1.1] at this
        exact this
      rw [Bool.false_or, eI] at h29
      have h29 : pL_master_29 N (pL_master_91 N (pL_master_15 N K n)) N (zI (m : Nat)) x2 (zI (mL W m e : Nat)) (zI (mC W m 0 e : Nat)) (zI (mC W m 1 e : Nat)) (zI (mC W m 2 e : Nat)) (zI (e : Nat)) (0 : Int32) (0 : Int32) S L C D = _ := h29
      rw [if_neg (by omega), h29]
      simp only [pL_master_91, pL_master_109, pL_master_154, pL_master_187, pL_master_209, nm_i]
      rw [g36 he, cn36 he, g36 he, g36 he]
      have eL : mL W m (e + 1) = mL W m e + if tLv (wTr W m) (e : Nat) then 1 else 0 := fb_ct_succ _ _
      have eC : ∀ s, mC W m s (e + 1) = mC W m s e + if tLv (wTr W m) (e : Nat) && cfl (wH W) (wTr W m) s e then 1 else 0 := fun s => fb_ct_succ _ _
      have z0 : ∀ x : Nat, zI (x : Nat) + (0 : Int32) = zI (x : Nat) := fun x => by rw [zL_0, zI_add, Int.add_zero]
      by_cases g : tLv (wTr W m) (e : Nat) = true
      · have te := tLv_th (show e < 48 by omega) g
        have hsr := tSh_rg hW (show e < 48 by omega)
        have hpr := tPl_rg hW (show e < 48 by omega)
        rw [g, if_pos rfl] at eL
        simp only [g, Bool.true_and] at eC
        have e0 := eC 0
        have e1 := eC 1
        have e2 := eC 2
        have c0 : cfl (wH W) (wTr W m) 0 e = decide (100 ≤ tSh (wTr W m) e) := if_pos rfl
        have c1 : cfl (wH W) (wTr W m) 1 e = decide (tPl (wTr W m) e = -2) := by
          unfold cfl
          rw [if_neg (by omega), if_pos rfl]
        have c2 : cfl (wH W) (wTr W m) 2 e = tInc (wH W) (wTr W m) e := by
          unfold cfl
          rw [if_neg (by omega), if_neg (by omega)]
        rw [c0] at e0
        rw [c1] at e1
        rw [c2] at e2
        have i9 := (lv_9 Q he).mpr g
        simp only [i9, if_true, zs1, lq_shown hN h R hm Q g, lba_i, lq_place hT Q he (Or.inr te), g36 he, cn36 he]
        rw [zL_99, il_le (by omega) (by omega) (by omega) (by omega), zL_m2, il_eq (by omega) (by omega) (by omega) (by omega)]
        have zt : zI (mC W m 2 e : Nat) + zB (tInc (wH W) (wTr W m) e) = zI (mC W m 2 (e + 1) : Nat) := by
          rw [e2]
          cases tInc (wH W) (wTr W m) e with
          | true => exact zs1 _
          | false => exact z0 _
        have f : ∀ a b : Nat, a = mC W m 0 (e + 1) → b = mC W m 1 (e + 1) → pL_master_15 N K n (zI (m : Nat)) x2 (zI ((mL W m e + 1 : Nat) : Int)) (zI (a : Nat)) (zI (b : Nat)) (zI (mC W m 2 (e + 1) : Nat)) (zI ((e + 1 : Nat) : Int)) S L C D = K (zI (m : Nat)) x2 (zI (mL W m (wE W) : Nat)) (zI (mC W m 0 (wE W) : Nat)) (zI (mC W m 1 (wE W) : Nat)) (zI (mC W m 2 (wE W) : Nat)) S L C D := fun a b ha hb => by
          rw [ha, hb, ← eL]
          exact ih
        rw [il_eq (by omega) (by omega) (by omega) (by omega), zt]
        by_cases g1 : tSh (wTr W m) e ≤ 99
        · rw [decide_eq_false (show ¬ 100 ≤ tSh (wTr W m) e by omega), if_neg (by decide)] at e0
          rw [if_pos g1, z0]
          by_cases g2 : tPl (wTr W m) e = -2
          · rw [decide_eq_true g2, if_pos rfl] at e1
            rw [if_pos g2]
            exact f _ _ (by omega) (by omega)
          · rw [decide_eq_false g2, if_neg (by decide)] at e1
            rw [if_neg g2, z0]
            exact f _ _ (by omega) (by omega)
        · rw [decide_eq_true (show 100 ≤ tSh (wTr W m) e by omega), if_pos rfl] at e0
          rw [if_neg g1]
          by_cases g2 : tPl (wTr W m) e = -2
          · rw [decide_eq_true g2, if_pos rfl] at e1
            rw [if_pos g2]
            exact f _ _ (by omega) (by omega)
          · rw [decide_eq_false g2, if_neg (by decide)] at e1
            rw [if_neg g2, z0]
            exact f _ _ (by omega) (by omega)
      · rw [Bool.eq_false_iff.mpr g, if_neg (by decide), Nat.add_zero] at eL
        simp only [Bool.eq_false_iff.mpr g, Bool.false_and] at eC
        have e0 := eC 0
        have e1 := eC 1
        have e2 := eC 2
        rw [if_neg (by decide), Nat.add_zero] at e0 e1 e2
        have i9 : ¬ aI L 9 (3 * e) = (1 : Int32) := fun q => g ((lv_9 Q he).mp q)
        simp only [if_neg i9, g36 he, cn36 he, z0, zs1]
        rw [eL, e0, e1, e2] at ih
        exact ih
theorem kid_ok (h : wOk W) (y : Int) : chL (wTr W m) y (kidL (wTr W m) y 48) := by
  obtain ⟨k1, k2, k3⟩ := kidL_ok (wTr_ok h m).1 (p := y) 48 (Nat.le_refl _)
  exact ⟨k1, by rw [k3]; exact fb_ct_le _ _, k2⟩
theorem kid_len (h : lOk W) (hm : m < 4) (y : Int) : (kidL (wTr W m) y 48).length ≤ 11 := by
  obtain ⟨-, -, k3⟩ := kidL_ok (wTr_ok h.1 m).1 (p := y) 48 (Nat.le_refl _)
  rw [k3]
  have e1 : fb_ct (fun e => decide (1 ≤ e) && tCh (wTr W m) y e) 48 = fb_ct (fun e => decide (1 ≤ e) && tCh (wTr W m) y e) 12 := fb_ct_ext (by omega) (fun k h1 h2 => by
    unfold tCh
    rw [tLv_12 h hm h1, Bool.false_and, Bool.and_false])
  have e2 := fb_ct_split (fun e => decide (1 ≤ e) && tCh (wTr W m) y e) 1 11
  have e3 := fb_ct_le (fun k => decide (1 ≤ 1 + k) && tCh (wTr W m) y (1 + k)) 11
  have e4 : fb_ct (fun e => decide (1 ≤ e) && tCh (wTr W m) y e) 1 = 0 := rfl
  rw [e1, show (12 : Nat) = 1 + 11 from rfl, e2, e4]
  omega
theorem k_child (hN : 20000 ≤ N) (h : lOk W) (K : kRel S W) (hm : m < 4) {y : Int} (hy : y = -2 ∨ tLv (wTr W m) y = true) {i : Nat} (hi : i < 1000) : kOk (pX9_childAt N (zI (m : Nat)) (zI y) (zI (i : Nat)) S) (chE (kidL (wTr W m) y 48) i) W := by
  obtain ⟨l, c1, c2⟩ := k_childAt (N := N) hN h.1 K hm hy hi
  have c0 := kid_ok h.1 y (m := m)
  have : l = kidL (wTr W m) y 48 := nSt_ext c1.1 c0.1 (fun x => (c1.2.2 x).trans (c0.2.2 x).symm)
  rw [← this]
  exact c2
theorem kid_mem (h : lOk W) {y : Int} {c b : Nat} (h1 : 1 ≤ c) (hc : c < 48) : (b * 48 + c ∈ kidL (wTr W m) y 48) ↔ (tCh (wTr W m) y c = true ∧ tSh (wTr W m) c = (b : Int)) := by
  have c0 := kid_ok h.1 y (m := m)
  have hW := (wTr_ok h.1 m).1
  rw [c0.2.2]
  constructor
  · rintro ⟨e, e1, e2, e3, e4⟩
    have hs := tSh_rg hW e2
    unfold tRk at e4
    have : e = c := by omega
    subst this
    exact ⟨e3, by omega⟩
  · rintro ⟨g1, g2⟩
    refine ⟨c, h1, hc, g1, ?_⟩
    unfold tRk
    rw [g2, Int.toNat_natCast]
theorem lq_master_401 (hN : 20000 ≤ N) (h : lOk W) (R : lRel L W) (hm : m < 4) (Q : lTr L (wTr W m)) {y : Int} (hy : y = -2 ∨ tLv (wTr W m) y = true) (hyr : -2 ≤ y ∧ y < 48) {b : Nat} (hb : b < 148) (K : Int32 → Int32 → Int32 → Int32 → Int32 → kS → lS → Nat → Nat → Option (Int32 × kS × lS)) : ∀ (n k c : Nat) (S : kS) (C D : Nat), c + k = wE W → k < n → 1 ≤ c → kRel S W → C ≤ 16 + 3 * nCt (kidL (wTr W m) y 48) ((b * 48 + c : Nat) : Int) → D ≤ 96 + 18 * nCt (kidL (wTr W m) y 48) ((b * 48 + c : Nat) : Int) → ∃ S' C' D', pL_master_401 N K n (zI (m : Nat)) (1 : Int32) (zI y) (zI (nCt (kidL (wTr W m) y 48) ((b * 48 + c : Nat) : Int) : Nat)) (zI (b : Nat)) (zI (c : Nat)) S L C D = K (zI (m : Nat)) (1 : Int32) (zI y) (zI (nCt (kidL (wTr W m) y 48) ((b * 48 + wE W : Nat) : Int) : Nat)) (zI (b : Nat)) S' L C' D' ∧ kRel S' W ∧ C' ≤ 16 + 3 * nCt (kidL (wTr W m) y 48) ((b * 48 + wE W : Nat) : Int) ∧ D' ≤ 96 + 18 * nCt (kidL (wTr W m) y 48) ((b * 48 + wE W : Nat) : Int)
  | 0, k, c, S, C, D, _, hn, _, _, _, _ => by omega
  | n + 1, k, c, S, C, D, hk, hn, h1, hK, hC, hD => by
    have hE := h.2.2.1
    have hW := (wTr_ok h.1 m).1
    simp only [pL_master_401, pL_master_485, pL_master_480, nm_i]
    rw [gq0, aq0 R, il_le (by omega) (by omega) (by omega) (by omega)]
    cases k with
    | zero =>
      rw [if_pos (by omega)]
      rw [show c = wE W by omega] at hC hD ⊢
      exact ⟨S, C, D, rfl, hK, hC, hD⟩
    | succ k =>
      have hc : c < 12 := by omega
      have hlen := kid_len h hm y
      have c0 := kid_ok h.1 y (m := m)
      have hnl := nCt_le (kidL (wTr W m) y 48) ((b * 48 + c : Nat) : Int)
      have hmem := kid_mem (m := m) h (y := y) (c := c) (b := b) h1 (by omega)
      have no : ¬ (tCh (wTr W m) y c = true ∧ tSh (wTr W m) c = (b : Int)) → ∃ S' C' D', pL_master_401 N K n (zI (m : Nat)) (1 : Int32) (zI y) (zI (nCt (kidL (wTr W m) y 48) ((b * 48 + c : Nat) : Int) : Nat)) (zI (b : Nat)) (zI ((c + 1 : Nat) : Int)) S L C D = K (zI (m : Nat)) (1 : Int32) (zI y) (zI (nCt (kidL (wTr W m) y 48) ((b * 48 + wE W : Nat) : Int) : Nat)) (zI (b : Nat)) S' L C' D' ∧ kRel S' W ∧ C' ≤ 16 + 3 * nCt (kidL (wTr W m) y 48) ((b * 48 + wE W : Nat) : Int) ∧ D' ≤ 96 + 18 * nCt (kidL (wTr W m) y 48) ((b * 48 + wE W : Nat) : Int) := fun g => by
        have en := nCt_out (l := kidL (wTr W m) y 48) (r := b * 48 + c) (fun q => g (hmem.mp q))
        have ih := lq_master_401 hN h R hm Q hy hyr hb K n k (c + 1) S C D (by omega) (by omega) (by omega) hK
        rw [show b * 48 + (c + 1) = b * 48 + c + 1 from rfl, en] at ih
        exact ih hC hD
      rw [if_neg (by omega), g36 hc, cn36 hc, zs1 c]
      by_cases g : tLv (wTr W m) (c : Nat) = true
      · have tc := tLv_th (show c < 48 by omega) g
        have hsr := tSh_rg hW (show c < 48 by omega)
        have hpr := tPl_rg hW (show c < 48 by omega)
        rw [if_pos ((lv_9 Q hc).mpr g), lq_place (lTo_w h hm) Q hc (Or.inr tc), lba_i, il_eq (by omega) (by omega) (by omega) (by omega)]
        by_cases g2 : tPl (wTr W m) c = y
        · rw [if_pos g2, lq_shown (by omega) h R hm Q g, lba_i, il_eq (by omega) (by omega) (by omega) (by omega)]
          have tc2 : tCh (wTr W m) y c = true := by unfold tCh; rw [g, decide_eq_true g2]; rfl
          by_cases g3 : tSh (wTr W m) c = (b : Int)
          · obtain ⟨en, hi, ei⟩ := nCt_in c0.1 (hmem.mpr ⟨tc2, g3⟩)
            obtain ⟨S1, p1, p2, p3⟩ := k_child (N := N) hN h hK hm hy (i := nCt (kidL (wTr W m) y 48) ((b * 48 + c : Nat) : Int)) (by omega)
            have ec : chE (kidL (wTr W m) y 48) (nCt (kidL (wTr W m) y 48) ((b * 48 + c : Nat) : Int)) = (c : Int) := by
              unfold chE
              rw [dif_pos hi, ei, show (b * 48 + c) % 48 = c by omega]
            rw [if_pos g3, if_neg (show ¬ (1 : Int32) = 0 by decide), p1, lbx_i (by omega), ec, if_pos rfl, zs1 (nCt _ _), ← en]
            have ih := lq_master_401 hN h R hm Q hy hyr hb K n k (c + 1) S1 (C + 3) (D + 18) (by omega) (by omega) (by omega) p3
            rw [show b * 48 + (c + 1) = b * 48 + c + 1 from rfl] at ih
            exact ih (by omega) (by omega)
          · rw [if_neg g3]
            exact no (fun q => g3 q.2)
        · rw [if_neg g2]
          exact no (fun q => g2 (by
            have := q.1
            unfold tCh at this
            rw [Bool.and_eq_true, decide_eq_true_eq] at this
            exact this.2))
      · rw [if_neg (fun q => g ((lv_9 Q hc).mp q))]
        exact no (fun q => g (by
          have := q.1
          unfold tCh at this
          rw [Bool.and_eq_true] at this
          exact this.1))
theorem kid_gap (h : lOk W) (hm : m < 4) {y : Int} {b : Nat} : nCt (kidL (wTr W m) y 48) ((b * 48 + wE W : Nat) : Int) = nCt (kidL (wTr W m) y 48) (((b + 1) * 48 + 1 : Nat) : Int) := by
  have hE := h.2.2.1
  have c0 := kid_ok h.1 y (m := m)
  unfold nCt
  refine List.countP_congr (fun x hx => ?_)
  obtain ⟨e, e1, e2, e3, e4⟩ := (c0.2.2 x).mp hx
  have hl : e < wE W := by
    unfold tCh at e3
    rw [Bool.and_eq_true] at e3
    exact tLv_wE h e3.1
  unfold tRk at e4
  rw [decide_eq_true_eq, decide_eq_true_eq, e4]
  omega
theorem lq_master_385 (hN : 20000 ≤ N) (h : lOk W) (R : lRel L W) (hm : m < 4) (Q : lTr L (wTr W m)) {y : Int} (hy : y = -2 ∨ tLv (wTr W m) y = true) (hyr : -2 ≤ y ∧ y < 48) (K : Int32 → Int32 → Int32 → Int32 → kS → lS → Nat → Nat → Option (Int32 × kS × lS)) : ∀ (n k b : Nat) (S : kS) (C D : Nat), b + k = 148 → k < n → kRel S W → C ≤ 16 + 3 * nCt (kidL (wTr W m) y 48) ((b * 48 + 1 : Nat) : Int) → D ≤ 96 + 18 * nCt (kidL (wTr W m) y 48) ((b * 48 + 1 : Nat) : Int) → ∃ S' C' D', pL_master_385 N K n (zI (m : Nat)) (1 : Int32) (zI y) (zI (nCt (kidL (wTr W m) y 48) ((b * 48 + 1 : Nat) : Int) : Nat)) (zI (b : Nat)) S L C D = K (zI (m : Nat)) (1 : Int32) (zI y) (zI ((kidL (wTr W m) y 48).length : Nat)) S' L C' D' ∧ kRel S' W ∧ C' ≤ 16 + 3 * (kidL (wTr W m) y 48).length ∧ D' ≤ 96 + 18 * (kidL (wTr W m) y 48).length
  | 0, k, b, S, C, D, _, hn, _, _, _ => by omega
  | n + 1, k, b, S, C, D, hk, hn, hK, hC, hD => by
    have hE1 := h.1.2.2.2.2.2.2.1.1
    have hE := h.2.2.1
    have c0 := kid_ok h.1 y (m := m)
    have hW := (wTr_ok h.1 m).1
    simp only [pL_master_385]
    rw [show (148 : Int32) = zI 148 from rfl, il_le (by omega) (by omega) (by omega) (by omega)]
    cases k with
    | zero =>
      have e9 : nCt (kidL (wTr W m) y 48) ((b * 48 + 1 : Nat) : Int) = (kidL (wTr W m) y 48).length := by
        unfold nCt
        rw [List.countP_eq_length]
        intro x hx
        obtain ⟨e, e1, e2, e3, e4⟩ := (c0.2.2 x).mp hx
        have := tSh_rg hW e2
        unfold tRk at e4
        rw [decide_eq_true_eq, e4]
        omega
      rw [e9] at hC hD ⊢
      rw [if_pos (by omega)]
      exact ⟨S, C, D, rfl, hK, hC, hD⟩
    | succ k =>
      obtain ⟨S1, C1, D1, p1, p2, p3, p4⟩ := lq_master_401 (N := N) hN h R hm Q hy hyr (show b < 148 by omega) (pL_master_491 N (pL_master_385 N K n)) N (wE W - 1) 1 S C D (by omega) (by omega) (by omega) hK hC hD
      have p1 : pL_master_401 N (pL_master_491 N (pL_master_385 N K n)) N (zI (m : Nat)) (1 : Int32) (zI y) (zI (nCt (kidL (wTr W m) y 48) ((b * 48 + 1 : Nat) : Int) : Nat)) (zI (b : Nat)) (1 : Int32) S L C D = _ := p1
      rw [if_neg (by omega), if_neg (show ¬ (1 : Int32) = 0 by decide), p1]
      rw [kid_gap h hm] at p3 p4 ⊢
      simp only [pL_master_491, nm_i]
      rw [zs1 b]
      exact lq_master_385 hN h R hm Q hy hyr K n k (b + 1) S1 C1 D1 (by omega) (by omega) p2 p3 p4
theorem lq_master_377 (hN : 20000 ≤ N) (h : lOk W) (hK : kRel S W) (R : lRel L W) (hm : m < 4) (Q : lTr L (wTr W m)) {y : Int} (hy : y = -2 ∨ tLv (wTr W m) y = true) (hyr : -2 ≤ y ∧ y < 48) : lGoS (pL_master_377 N (zI y) (zI (m : Nat)) (1 : Int32) S L 16 96) L W := by
  have c0 := kid_ok h.1 y (m := m)
  have hlen := kid_len h hm y
  have e0 : nCt (kidL (wTr W m) y 48) ((0 * 48 + 1 : Nat) : Int) = 0 := nCt_0 (fun x hx => by
    obtain ⟨e, e1, e2, e3, e4⟩ := (c0.2.2 x).mp hx
    unfold tRk at e4
    omega)
  obtain ⟨S1, C1, D1, p1, p2, p3, p4⟩ := lq_master_385 (N := N) hN h R hm Q hy hyr (pL_master_497 N) N 148 0 S 16 96 (Nat.zero_add _) (by omega) hK (by omega) (by omega)
  rw [e0] at p1
  have p1 : pL_master_385 N (pL_master_497 N) N (zI (m : Nat)) (1 : Int32) (zI y) (0 : Int32) (0 : Int32) S L 16 96 = _ := p1
  simp only [pL_master_377]
  rw [p1]
  simp only [pL_master_497]
  obtain ⟨S2, q1, q2, q3⟩ := k_child (N := N) hN h p2 hm hy (i := (kidL (wTr W m) y 48).length) (by omega)
  have ec : chE (kidL (wTr W m) y 48) (kidL (wTr W m) y 48).length = -1 := by
    unfold chE
    rw [dif_neg (Nat.lt_irrefl _)]
  rw [if_neg (show ¬ (1 : Int32) = 0 by decide), q1, lbx_i (by omega), ec, if_pos (show zI (-1) = (-1 : Int32) from rfl), zlB_1 (by omega)]
  exact ⟨S2, rfl, q3⟩
theorem lq_master_k (h : lOk W) (R : lRel L W) (hm : m < 4) {x2 : Int32} (K : Int32 → Int32 → Int32 → kS → lS → Nat → Nat → Option (Int32 × kS × lS)) : ∀ (n k c : Nat) (S : kS) (C D : Nat), c + k = 4 → k < n → kRel S W → C = 8 + 2 * c → D = 48 + 12 * c → ∃ S', pL_master_292 N K n (zI (m : Nat)) x2 (1 : Int32) (zI (c : Nat)) S L C D = K (zI (m : Nat)) x2 (1 : Int32) S' L 16 96 ∧ kRel S' W
  | 0, k, c, S, C, D, _, hn, _, _, _ => by omega
  | n + 1, k, c, S, C, D, hk, hn, hK, hC, hD => by
    simp only [pL_master_292, pL_master_328, nm_i]
    rw [zL_4, il_le (by omega) (by omega) (by omega) (by omega)]
    cases k with
    | zero =>
      rw [if_pos (by omega), show C = 16 by omega, show D = 96 by omega]
      exact ⟨S, rfl, hK⟩
    | succ k =>
      obtain ⟨S1, p1, p2, p3⟩ := k_knows (N := N) h.1 hK hm (z := c) (by omega)
      have e20 : ((20 : Int32) * zI (m : Nat)) + zI (c : Nat) = zI ((20 * m + c : Nat) : Int) := by rw [zL_20, zI_mul, zI_add]; rfl
      have tt := R.2.2.2.2.2.2 m m c hm hm (by omega)
      rw [show 16 * m + 4 * m + c = 20 * m + c by omega] at tt
      rw [if_neg (by omega), if_neg (show ¬ (1 : Int32) = 0 by decide), p1, lbx_i (by omega), e20, gd_c (by omega) (by omega), zI_cn (by omega), tt, if_pos rfl, zs1]
      exact lq_master_k h R hm K n k (c + 1) S1 _ _ (by omega) (by omega) p3 (by omega) (by omega)
theorem lq_master (hN : 20000 ≤ N) (h : lOk W) (K : kRel S W) (R : lRel L W) (hm : m < 4) (Q : lTr L (wTr W m)) : lGoS (pL_master N (zI (m : Nat)) z S L) L W := by
  have hE1 := h.1.2.2.2.2.2.2.1.1
  have hE := h.2.2.1
  have hnd := tVs_nd h.1 K hm
  have h15 := lq_master_15 (N := N) (S := S) (by omega) h R hm Q hnd (x2 := z) (C := 0) (D := 0) (pL_master_218 N) N (wE W) 0 (by omega) (by omega)
  have h15 : pL_master_15 N (pL_master_218 N) N (zI (m : Nat)) z (0 : Int32) (0 : Int32) (0 : Int32) (0 : Int32) (0 : Int32) S L 0 0 = _ := h15
  obtain ⟨S1, a1, a2, a3⟩ := k_live (N := N) h.1 K hm
  obtain ⟨S2, b1, b2, b3⟩ := k_conflicts (N := N) hN h.1 a3 hm (s := 0) (by omega)
  have b1 : pX9_conflicts N (zI (m : Nat)) (0 : Int32) S1 = _ := b1
  obtain ⟨S3, c1, c2, c3⟩ := k_conflicts (N := N) hN h.1 b3 hm (s := 1) (by omega)
  have c1 : pX9_conflicts N (zI (m : Nat)) (1 : Int32) S2 = _ := c1
  obtain ⟨S4, d1, d2, d3⟩ := k_conflicts (N := N) hN h.1 c3 hm (s := 2) (by omega)
  have d1 : pX9_conflicts N (zI (m : Nat)) (2 : Int32) S3 = _ := d1
  obtain ⟨S5, e1, e2, e3⟩ := k_marks (N := N) h.1 d3 hm
  obtain ⟨S6, f1, f2⟩ := lq_master_k (N := N) h R hm (x2 := z) (pL_master_336 N) N 4 0 S5 8 48 (by omega) (by omega) e3 (by omega) (by omega)
  have f1 : pL_master_292 N (pL_master_336 N) N (zI (m : Nat)) z (1 : Int32) (0 : Int32) S5 L 8 48 = _ := f1
  rw [live_l h] at a1
  rw [cfN_l h hm] at b1 c1 d1
  have a1 : pX9_live N (zI (m : Nat)) S = some (.inl (zI (mL W m (wE W) : Nat)), S1) := a1
  have b1 : pX9_conflicts N (zI (m : Nat)) (0 : Int32) S1 = some (.inl (zI (mC W m 0 (wE W) : Nat)), S2) := b1
  have c1 : pX9_conflicts N (zI (m : Nat)) (1 : Int32) S2 = some (.inl (zI (mC W m 1 (wE W) : Nat)), S3) := c1
  have d1 : pX9_conflicts N (zI (m : Nat)) (2 : Int32) S3 = some (.inl (zI (mC W m 2 (wE W) : Nat)), S4) := d1
  obtain ⟨r, hr, l1⟩ := q_low (N := N) (L := L) (x := z) (n := wE W + 1) (by omega) (by omega)
  simp only [pL_master]
  rw [h15]
  simp only [pL_master_218]
  rw [a1, lbx_i (by omega), if_pos rfl, b1, lbx_i (by omega), if_pos rfl, c1, lbx_i (by omega), if_pos rfl, d1, lbx_i (by omega), if_pos rfl, e1, lbx_i (by omega), lq_marks (by omega) h R hm, lba_i, if_pos rfl]
  simp only [pL_master_287]
  rw [f1]
  simp only [pL_master_336, nm_i]
  have e1 : zI (r : Nat) - (2 : Int32) = zI ((r : Int) - 2) := by rw [zL_2, zI_sub]
  have hr0 : tLv (wTr W m) ((0 : Nat) : Int) = true := by
    rw [tLv_in (by omega), (wTr_ok h.1 m).1.2.2.2.2.2.2.2.2.1, (wTr_ok h.1 m).1.2.2.2.2.2.2.2.2.2]; rfl
  have root := lq_master_377 (N := N) hN h f2 R hm Q (y := 0) (Or.inr hr0) (by omega)
  have root : lGoS (pL_master_377 N (0 : Int32) (zI (m : Nat)) (1 : Int32) S6 L 16 96) L W := root
  rw [gq0, aq0 R, zs1, l1, lba_i, e1, zL_m1, il_eq (by omega) (by omega) (by omega) (by omega)]
  by_cases g1 : (r : Int) - 2 = -1
  · rw [if_pos g1]
    exact root
  · rw [if_neg g1, zL_0, il_lt (by omega) (by omega) (by omega) (by omega), ← zL_0]
    by_cases g2 : (r : Int) - 2 < 0
    · rw [if_pos g2]
      exact lq_master_377 hN h f2 R hm Q (Or.inl (by omega)) (by omega)
    · obtain ⟨y, hy⟩ : ∃ y : Nat, (r : Int) - 2 = y := ⟨((r : Int) - 2).toNat, by omega⟩
      rw [if_neg g2, hy, g36 (by omega), cn36 (by omega)]
      by_cases g3 : tLv (wTr W m) (y : Nat) = true
      · rw [if_pos ((lv_9 Q (by omega)).mpr g3)]
        exact lq_master_377 hN h f2 R hm Q (Or.inr g3) (by omega)
      · rw [if_neg (fun q => g3 ((lv_9 Q (by omega)).mp q))]
        exact root
end LQ9
