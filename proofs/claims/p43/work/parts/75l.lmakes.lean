-- LEVEL 2, THE LAW: IT MAKES A CHANGE
theorem i21 {a i j m : Nat} (ha : a < 4) (hi : i < 4) (hj : j < 4) (hm : m < 4) (h : 16 * a + 4 * i + j = 21 * m) : a = m ∧ i = m ∧ j = m := by
  rcases (show m = 0 ∨ m = 1 ∨ m = 2 ∨ m = 3 by omega) with rfl | rfl | rfl | rfl
  all_goals
    rcases (show i = 0 ∨ i = 1 ∨ i = 2 ∨ i = 3 by omega) with rfl | rfl | rfl | rfl
    all_goals omega
section LM2
variable {N m : Nat} {L : lS} {W : sW} {cs : Nat → sCh}
def mxG (tl : Nat → Nat → Nat) (m : Nat) (cs : Nat → sCh) (l : List Nat) : Nat := l.foldl (fun r k => if gotB tl m (cs k) then max r (cS (cs k)) else r) 0
theorem mxG_snoc {tl : Nat → Nat → Nat} {l : List Nat} {k : Nat} : mxG tl m cs (l ++ [k]) = if gotB tl m (cs k) then max (mxG tl m cs l) (cS (cs k)) else mxG tl m cs l := by
  unfold mxG
  rw [List.foldl_append]; rfl
theorem mxG_le {tl : Nat → Nat → Nat} {b : Nat} (l : List Nat) : (∀ k ∈ l, gotB tl m (cs k) = true → cS (cs k) ≤ b) → mxG tl m cs l ≤ b := by
  induction l using snoc_ind with
  | h0 => intro _; exact Nat.zero_le _
  | h1 l k ih =>
    intro h
    have ih := ih (fun q hq => h q (List.mem_append_left _ hq))
    rw [mxG_snoc]
    split
    · rename_i g
      exact Nat.max_le.mpr ⟨ih, h k (List.mem_append_right _ (List.mem_singleton.mpr rfl)) g⟩
    · exact ih
theorem mxG_ge {tl : Nat → Nat → Nat} {k : Nat} (l : List Nat) : k ∈ l → gotB tl m (cs k) = true → cS (cs k) ≤ mxG tl m cs l := by
  induction l using snoc_ind with
  | h0 => intro h; exact absurd h List.not_mem_nil
  | h1 l k' ih =>
    intro h g
    rw [mxG_snoc]
    rcases List.mem_append.mp h with q | q
    · have := ih q g
      split
      · exact Nat.le_trans this (Nat.le_max_left _ _)
      · exact this
    · rw [List.mem_singleton.mp q] at g ⊢
      rw [if_pos g]
      exact Nat.le_max_right _ _
theorem mxG_gst (h : wOk W) {tl : Nat → Nat → Nat} : mxG tl m (wC W) (wO W) = gst tl m (wC W) (wN W) := by
  have ho := h.2.2.2.1.2.2.1
  refine Nat.le_antisymm (mxG_le _ (fun k hk g => gst_ge _ k ((ho k).mp hk) g)) (gst_le _ (fun k hk g => mxG_ge _ ((ho k).mpr hk) g))
theorem lq_makes_6 (h : lOk W) (R : lRel L W) (hm : m < 4) {x1 x2 x3 x4 : Int32} {w : Int64} (K : Int32 → Int32 → Int32 → Int32 → Int32 → Int64 → Int32 → lS → Option (Unit × lS)) : ∀ (n k i : Nat), i + k = (wO W).length → k < n → pL_makes_6 N K n (zI (m : Nat)) x1 x2 x3 x4 w (zI (mxG (wT W m) m (wC W) ((wO W).take i) : Nat)) (zI (i : Nat)) L = K (zI (m : Nat)) x1 x2 x3 x4 w (zI (mxG (wT W m) m (wC W) (wO W) : Nat)) L
  | 0, k, i, _, hn => by omega
  | n + 1, k, i, hk, hn => by
    have ho := lq_ho h
    have hlen := wO_len h.1
    simp only [pL_makes_6, pL_makes_54, nm_i]
    rw [gq1, aq1 R, il_le (by omega) (by omega) (by omega) (by omega)]
    cases k with
    | zero => rw [if_pos (by omega), List.take_of_length_le (by omega)]
    | succ k =>
      have hi : i < (wO W).length := by omega
      have hmem : (wO W)[i] ∈ wO W := List.getElem_mem hi
      have C := R.2.2.2.2.2.1 i hi
      have hc := lq_hO h _ hmem
      have ih := lq_makes_6 h R hm (x1 := x1) (x2 := x2) (x3 := x3) (x4 := x4) (w := w) K n k (i + 1) (by omega) (by omega)
      have hb : mxG (wT W m) m (wC W) ((wO W).take i) ≤ 250 := mxG_le _ (fun k hk _ => (lq_hO h _ (List.mem_of_mem_take hk)).2.2.2.2.1)
      have hS := hc.2.2.2.2.1
      have hM := hc.2.2.1
      have hR : cR (wC W (wO W)[i]) < 2000 := by unfold cR; omega
      have hR4 : cR (wC W (wO W)[i]) / 4 = cS (wC W (wO W)[i]) := by unfold cR; omega
      have ed : (wO W).take (i + 1) = (wO W).take i ++ [(wO W)[i]] := List.take_succ_eq_append_getElem hi
      rw [if_neg (by omega), q_known hm (by omega) C hc R.2.2.2.2.2.2 (lq_ht h hm _ hM), lba_i, il_B, gd_c (by omega) (by omega), zI_cn (by omega), C.1, show (4 : Int32) = zI ((4 : Nat) : Int) from rfl, z_div (by omega) (by omega) (by omega), hR4, il_le (by omega) (by omega) (by omega) (by omega), zs1, gd_c (by omega) (by omega)]
      rw [ed, mxG_snoc] at ih
      cases hg : gotB (wT W m) m (wC W (wO W)[i]) with
      | false =>
        rw [hg, if_neg (by decide)] at ih
        rw [if_neg (by decide)]
        exact ih
      | true =>
        rw [hg, if_pos rfl] at ih
        rw [if_pos rfl]
        by_cases g : cS (wC W (wO W)[i]) ≤ mxG (wT W m) m (wC W) ((wO W).take i)
        · rw [if_pos (by omega)]
          rw [Nat.max_eq_left g] at ih
          exact ih
        · rw [if_neg (by omega)]
          rw [Nat.max_eq_right (by omega)] at ih
          exact ih
theorem lCh_eq {L L' : lS} {i i' : Nat} {c : sCh} (h2 : aI L' 2 i' = aI L 2 i) (h3 : aI L' 3 i' = aI L 3 i) (h4 : aI L' 4 i' = aI L 4 i) (h5 : aI L' 5 i' = aI L 5 i) (h6 : aI L' 6 i' = aI L 6 i) (h7 : aJ L' 7 i' = aJ L 7 i) (C : lCh L i c) : lCh L' i' c := by
  unfold lCh
  rw [h2, h3, h4, h5, h6, h7]
  exact C
def mkI (L L1 : lS) (o : List Nat) (cs : Nat → sCh) (j : Nat) : Prop := (∀ k, (k < 2 ∨ 6 < k) → aI L1 k = aI L k) ∧ (∀ k, k ≠ 7 → aJ L1 k = aJ L k) ∧ (∀ i (h : i < o.length), i < j → lCh L1 i (cs o[i])) ∧ ∀ i (h : i < o.length), j ≤ i → lCh L1 (i + 1) (cs o[i])
theorem aU (L : lS) (k q j : Nat) (v : Int32) (i : Nat) : aI (uI L k j v) q i = if q = k ∧ i = j then v else aI L q i := by
  by_cases g : q = k
  · rw [g, aI_uI_s]
    by_cases g2 : i = j
    · rw [if_pos ⟨rfl, g2⟩, g2, upd_s]
    · rw [if_neg (fun r => g2 r.2), upd_o _ _ g2]
  · rw [aI_uI_o _ _ _ g, if_neg (fun r => g r.1)]
theorem aV (L : lS) (k q j : Nat) (v : Int64) (i : Nat) : aJ (uJ L k j v) q i = if q = k ∧ i = j then v else aJ L q i := by
  by_cases g : q = k
  · rw [g, aJ_uJ_s]
    by_cases g2 : i = j
    · rw [if_pos ⟨rfl, g2⟩, g2, updL_s]
    · rw [if_neg (fun r => g2 r.2), updL_o _ _ g2]
  · rw [aJ_uJ_o _ _ _ g, if_neg (fun r => g r.1)]
theorem lq_makes_78 {o : List Nat} (ho : o.length ≤ 40) (hC : ∀ k ∈ o, cOk (cs k)) (hs : o.Pairwise (fun a b => cR (cs a) < cR (cs b))) {key : Nat} (hkey : key < 2000) (hne : ∀ k ∈ o, cR (cs k) ≠ key) {x0 x1 x2 x3 x4 : Int32} {w : Int64} (K : Int32 → Int32 → Int32 → Int32 → Int32 → Int64 → Int32 → Int32 → lS → Option (Unit × lS)) : ∀ (n j : Nat) (L1 : lS), j < n → j ≤ o.length → mkI L L1 o cs j → (∀ i (h : i < o.length), j ≤ i → key < cR (cs o[i])) → ∃ L', pL_makes_78 N K n x0 x1 x2 x3 x4 w (zI (key : Nat)) (zI (j : Nat)) L1 = K x0 x1 x2 x3 x4 w (zI (key : Nat)) (zI (plc cs o key : Nat)) L' ∧ mkI L L' o cs (plc cs o key)
  | 0, j, L1, hn, _, _, _ => by omega
  | n + 1, j, L1, hn, hj, I, hgt => by
    simp only [pL_makes_78, nm_i, slv_i]
    rw [zL_0, il_le (by omega) (by omega) (by omega) (by omega)]
    cases j with
    | zero =>
      have hp : 0 = plc cs o key := plc_of hs (by omega) hgt (Or.inl rfl)
      rw [if_pos (by omega), ← hp]
      exact ⟨L1, rfl, I⟩
    | succ j =>
      obtain ⟨i1, i2, i3, i4⟩ := I
      have hjl : j < o.length := by omega
      have hmem : o[j] ∈ o := List.getElem_mem hjl
      have C := i3 j hjl (by omega)
      have hc := hC _ hmem
      have hR : cR (cs o[j]) < 2000 := by have := hc.2.2.1; have := hc.2.2.2.2.1; unfold cR; omega
      have e1 : zI ((j + 1 : Nat) : Int) - (1 : Int32) = zI (j : Nat) := by
        rw [zL_1, zI_sub]
        congr 1
        omega
      have e2 : zI ((j + 1 : Nat) : Int) + (-1 : Int32) = zI (j : Nat) := by
        rw [zL_m1, zI_add]
        congr 1
        omega
      have g1 : ∀ {β : Type} {K : Option β}, gd (zI (j : Nat)) 41 K = K := gd_c (by omega) (by omega)
      have g2 : ∀ {β : Type} {K : Option β}, gd (zI ((j + 1 : Nat) : Int)) 41 K = K := gd_c (by omega) (by omega)
      rw [if_neg (by omega), e1, e2]
      simp only [g1, g2, zI_cn (show j < 2147483648 by omega), zI_cn (show j + 1 < 2147483648 by omega)]
      rw [C.1, il_le (by omega) (by omega) (by omega) (by omega)]
      have hne' := hne _ hmem
      by_cases g : cR (cs o[j]) ≤ key
      · have hp : j + 1 = plc cs o key := plc_of hs (by omega) hgt (Or.inr ⟨by show j + 1 - 1 < o.length; omega, by
          have : o[j + 1 - 1]'(by omega) = o[j] := by congr 1
          rw [this]; omega⟩)
        rw [if_pos (by omega), ← hp]
        exact ⟨L1, rfl, i1, i2, i3, i4⟩
      · rw [if_neg (by omega)]
        refine lq_makes_78 ho hC hs hkey hne K n j _ (by omega) (by omega) ⟨fun k hk => ?_, fun k hk => ?_, fun i hi hij => ?_, fun i hi hij => ?_⟩ (fun i hi hij => ?_)
        · rw [aI_uJ, aI_uI_o _ _ _ (by omega), aI_uI_o _ _ _ (by omega), aI_uI_o _ _ _ (by omega), aI_uI_o _ _ _ (by omega), aI_uI_o _ _ _ (by omega)]
          exact i1 k hk
        · rw [aJ_uJ_o _ _ _ hk]
          exact i2 k hk
        · refine lCh_eq ?_ ?_ ?_ ?_ ?_ ?_ (i3 i hi (by omega))
          all_goals simp [aI_uJ, aJ_uI, aU, aV, show ¬ i = j + 1 by omega]
        · by_cases q : i = j
          · subst q
            refine lCh_eq ?_ ?_ ?_ ?_ ?_ ?_ (i3 i hi (by omega))
            all_goals simp [aI_uJ, aJ_uI, aU, aV, C.1]
          · refine lCh_eq ?_ ?_ ?_ ?_ ?_ ?_ (i4 i hi (by omega))
            all_goals simp [aI_uJ, aJ_uI, aU, aV, show ¬ i = j by omega]
        · by_cases q : i = j
          · subst q; omega
          · exact hgt i hi (by omega)
theorem lq_makes (hN : 1000 ≤ N) (h : lOk W) (R : lRel L W) (hm : m < 4) (hn : wN W < 40) {c : sCh} (c0 : mkOk (wH W) (wC W) (wN W) (wE W) m (wO W) (wT W) c) {xa xb : Int32} {w : Int64} (hA : cK c ≠ 8 → xa = zI (lA c)) (hB : (cK c ≤ 3 ∨ cK c = 6) → xb = zI (cY c)) (hw : cK c = 0 → lW w (cV c)) : ∃ L', pL_makes N (zI (m : Nat)) (zI (cK c : Nat)) (zI (cE c : Nat)) xa xb w L = some ((), L') ∧ lRel L' (wNx W m c) ∧ (∀ j, j ≠ 1 → aI L' 0 j = aI L 0 j) ∧ aJ L' 10 = aJ L 10 ∧ aI L' 9 = aI L 9 := by
  obtain ⟨oc, oM, oN, oS, -⟩ := id c0
  have hlen := wO_len h.1
  have ho := lq_ho h
  obtain ⟨-, -, -, gc, tc, -⟩ := id h.1
  have hK := oc.1
  have hE := oc.2.1
  have g4 := gc.2.2.2.1
  obtain ⟨ar, g4⟩ := g4
  have hgs : gst (wT W m) m (wC W) (wN W) ≤ 250 := gst_le _ (fun k hk _ => (wC_ok h.1 hk).2.2.2.2.1)
  have hS := oc.2.2.2.2.1
  have hR : cR c < 2000 := by unfold cR; omega
  have h6 := lq_makes_6 (N := N) h R hm (x1 := zI (cK c : Nat)) (x2 := zI (cE c : Nat)) (x3 := xa) (x4 := xb) (w := w) (pL_makes_62 N) N (wO W).length 0 (by omega) (by omega)
  have h6 : pL_makes_6 N (pL_makes_62 N) N (zI (m : Nat)) (zI (cK c : Nat)) (zI (cE c : Nat)) xa xb w (0 : Int32) (0 : Int32) L = _ := h6
  simp only [pL_makes]
  rw [h6, mxG_gst h.1]
  simp only [pL_makes_62, nm_i]
  have ek : (((4 : Int32) * zI (gst (wT W m) m (wC W) (wN W) : Nat)) + (4 : Int32)) + zI (m : Nat) = zI (cR c : Nat) := by
    rw [zL_4, zI_mul, zI_add, zI_add]
    congr 1
    unfold cR
    rw [oS, oM]
    omega
  obtain ⟨L1, p1, ⟨i1, i2, i3, i4⟩⟩ := lq_makes_78 (N := N) (L := L) (cs := wC W) (o := wO W) (by omega) (lq_hO h) g4.1 hR (mk_ne hm gc tc c0) (x0 := zI (m : Nat)) (x1 := zI (cK c : Nat)) (x2 := zI (cE c : Nat)) (x3 := xa) (x4 := xb) (w := w) (pL_makes_173 N) N (wO W).length L (by omega) (by omega) ⟨fun _ _ => rfl, fun _ _ => rfl, fun i hi _ => R.2.2.2.2.2.1 i hi, fun i hi q => by omega⟩ (fun i hi q => by omega)
  rw [ek, gq1, aq1 R, ← hlen, p1]
  have hp : plc (wC W) (wO W) (cR c) ≤ (wO W).length := plc_le
  generalize hpp : plc (wC W) (wO W) (cR c) = p at *
  have g1 : ∀ {β : Type} {K : Option β}, gd (zI (p : Nat)) 41 K = K := gd_c (by omega) (by omega)
  have e21 : (21 : Int32) * zI (m : Nat) = zI ((21 * m : Nat) : Int) := by rw [zL_21, zI_mul]; rfl
  have g2 : ∀ {β : Type} {K : Option β}, gd (zI ((21 * m : Nat) : Int)) 64 K = K := gd_c (by omega) (by omega)
  have ekk : ((16 : Int32) * zI (cK c : Nat)) + zI (cE c : Nat) = zI ((16 * cK c + cE c : Nat) : Int) := by
    rw [zL_16, zI_mul, zI_add]; rfl
  have tm := R.2.2.2.2.2.2 m m m hm hm hm
  rw [show 16 * m + 4 * m + m = 21 * m by omega] at tm
  simp only [pL_makes_173, slv_i]
  rw [e21, ekk]
  simp only [g1, g2, gq1, zI_cn (show p < 2147483648 by omega), zI_cn (show 21 * m < 2147483648 by omega)]
  refine ⟨_, rfl, ?_, ?_, ?_, ?_⟩
  · obtain ⟨⟨r1, r2, r3, r4⟩, r5, ⟨r6, r7⟩, r8, r9, r10, r11⟩ := R
    have e0 := i1 0 (by omega)
    have e8 := i1 8 (by omega)
    have n1 : (1 : Int32).toNatClampNeg = 1 := rfl
    refine ⟨⟨?_, ?_, ?_, ?_⟩, fun a ha => ?_, ⟨?_, fun i hi => ?_⟩, ⟨fun a ha => ?_, fun k hk => ?_⟩, fun a e ha he => ?_, fun i hi => ?_, fun a i j ha hi hj => ?_⟩
    · simp [aI_uJ, aU, n1, e0, r1]; rfl
    · simp [aI_uJ, aU, n1, e0, r2]
      rw [zs1]; rfl
    · simp [aI_uJ, aU, n1, e0, r3]
    · simp [aI_uJ, aU, n1, e0, r4]
    · simp [aI_uJ, aU, n1, e0, r5 a ha]
      rw [if_neg (by omega)]
      rfl
    · simp [aI_uJ, aU, n1, e0, r6]; rfl
    · simp [aI_uJ, aU, n1, e0]
      rw [if_neg (by omega)]
      exact r7 i hi
    · simp [aI_uJ, aU, n1, e0]
      rw [if_neg (by omega)]
      exact r8.1 a ha
    · have e1 := i1 1 (by omega)
      simp [aI_uJ, aU, e1]
      exact r8.2 k hk
    · simp [aI_uJ, aU, n1, e0]
      rw [if_neg (by omega)]
      exact r9 a e ha he
    · have eO : wO (wNx W m c) = ins (wO W) p (wN W) := by
        show ins (wO W) (plc (wC W) (wO W) (cR c)) (wN W) = _
        rw [hpp]
      have hlt : i < (ins (wO W) p (wN W)).length := by rw [← eO]; exact hi
      have hq : (ins (wO W) p (wN W))[i]? = some ((wO (wNx W m c))[i]) := by
        rw [List.getElem?_eq_getElem hlt]
        congr 1
        simp only [eO]
      generalize (wO (wNx W m c))[i] = q at hq
      rw [ins_len hp] at hlt
      rw [ins_get hp] at hq
      show lCh _ i (upf (wC W) (wN W) c q)
      have go : ∀ (i0 : Nat) (h0 : i0 < (wO W).length), q = (wO W)[i0] → upf (wC W) (wN W) c q = wC W (wO W)[i0] := fun i0 h0 g => by
        rw [g, upf_o _ _ (Nat.ne_of_lt (wO_in h.1 (List.getElem_mem h0)))]
      by_cases q1 : i < p
      · rw [if_pos q1, List.getElem?_eq_getElem (by omega)] at hq
        rw [go i (by omega) (Option.some.inj hq).symm]
        refine lCh_eq ?_ ?_ ?_ ?_ ?_ ?_ (i3 i (by omega) q1)
        all_goals simp [aI_uJ, aJ_uI, aU, aV, show ¬ i = p by omega]
      · rw [if_neg q1] at hq
        by_cases q2 : i = p
        · rw [if_pos q2] at hq
          rw [← Option.some.inj hq, upf_s, q2]
          refine ⟨?_, ?_, ?_, fun g => ?_, fun g => ?_, fun g => ?_⟩
          · simp [aI_uJ, aU]
          · simp [aI_uJ, aU, e8, tm, oN]
          · simp [aI_uJ, aU]
          · simp [aI_uJ, aU, hA g]
          · simp [aI_uJ, aU, hB g]
          · have := hw g
            simp only [aJ_uI, aV]
            rw [if_pos ⟨trivial, trivial⟩]
            exact this
        · rw [if_neg q2, List.getElem?_eq_getElem (by omega)] at hq
          rw [go (i - 1) (by omega) (Option.some.inj hq).symm]
          have := i4 (i - 1) (by omega) (by omega)
          rw [show i - 1 + 1 = i by omega] at this
          refine lCh_eq ?_ ?_ ?_ ?_ ?_ ?_ this
          all_goals simp [aI_uJ, aJ_uI, aU, aV, q2]
    · show _ = zI (tNx (wT W) m a i j : Nat)
      have r := r11 a i j ha hi hj
      by_cases g : a = m ∧ i = m ∧ j = m
      · obtain ⟨g1, g2, g3⟩ := g
        rw [g1, g2, g3, tNx_m, show 16 * m + 4 * m + m = 21 * m by omega]
        simp [aI_uJ, aU, e8, tm]
        rw [zs1]; rfl
      · rw [tNx_o g]
        have hne : ¬ 16 * a + 4 * i + j = 21 * m := fun g2 => g (i21 ha hi hj hm g2)
        simp [aI_uJ, aU, e8, r, hne]
  · intro j hj
    simp [aI_uJ, aU, show (1 : Int32).toNatClampNeg = 1 from rfl, hj, i1 0 (by omega)]
  · rw [aJ_uI, aJ_uI, aJ_uJ_o _ _ _ (by omega)]
    exact i2 10 (by omega)
  · funext j
    simp [aI_uJ, aU, i1 9 (by omega)]
end LM2
