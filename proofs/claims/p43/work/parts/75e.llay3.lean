-- LEVEL 2, THE LAW: IT LAYS ALL THAT A MASTER KNOWS
theorem tDd_take {H : sH} {T : sT} {c : sCh} {x : Nat} (h : x ≠ cE c) : tDd (tTake H T c) x = tDd T x := by
  unfold tTake
  repeat' split
  all_goals first | rfl | exact upf_o _ _ h
def gDd (cs : Nat → sCh) (T : sT) (l : List Nat) : Prop := ∀ k ∈ l, cK (cs k) = 0 → tDd T (cE (cs k)) = false
theorem gDd_take {H : sH} {cs : Nat → sCh} {T : sT} {k : Nat} {l : List Nat} (h : gLo cs (k :: l)) (p : gDd cs T (k :: l)) : gDd cs (tTake H T (cs k)) l := fun k' hk h0 => by
  rw [tDd_take (fun g => (List.pairwise_cons.mp h).1 k' hk h0 g.symm)]
  exact p k' (List.mem_cons_of_mem _ hk) h0
section LN
variable {N : Nat} {H : sH} {cs : Nat → sCh} {ar : Nat → Nat} {t : Nat → Nat → Nat → Nat} {o : List Nat} {m : Nat}
def clr (L : lS) (i : Nat) : Prop := ∀ e, e < i → aI L 9 (3 * e) = zI (sSt tNew e) ∧ aI L 9 (3 * e + 1) = zI (-1) ∧ aI L 9 (3 * e + 2) = zI (-1) ∧ ∀ a, a < 3 → aJ L 10 (3 * e + a) = 0
theorem a10 (L : lS) (q j : Nat) (v : Int64) : aJ (uJ L 10 q v) 10 j = if j = q then v else aJ L 10 j := by rw [aJ_uJ_s]; rfl
theorem lq_lays_26 {L : lS} {i : Nat} {v : Int32} (hi : i < 12) (hc : clr L i) (hv : v = zI (sSt tNew i)) (K : Int32 → Int32 → lS → Option (Unit × lS)) : ∃ L', pL_lays_26 N K v ((3 : Int32) * zI (i : Nat)) (zI (m : Nat)) (zI (i : Nat)) L = K (zI (m : Nat)) (zI ((i + 1 : Nat) : Int)) L' ∧ frL L L' ∧ clr L' (i + 1) := by
  simp only [pL_lays_26, slv_i, nm_i]
  rw [z3_1, z3_2, z3_0, zs1]
  have g0 : ∀ {β : Type} {K : Option β}, gd (zI ((3 * i : Nat) : Int)) 36 K = K := gd_c (by omega) (by omega)
  have g1 : ∀ {β : Type} {K : Option β}, gd (zI ((3 * i + 1 : Nat) : Int)) 36 K = K := gd_c (by omega) (by omega)
  have g2 : ∀ {β : Type} {K : Option β}, gd (zI ((3 * i + 2 : Nat) : Int)) 36 K = K := gd_c (by omega) (by omega)
  simp only [g0, g1, g2, zI_cn (show 3 * i < 2147483648 by omega), zI_cn (show 3 * i + 1 < 2147483648 by omega), zI_cn (show 3 * i + 2 < 2147483648 by omega)]
  refine ⟨_, rfl, (fr9 _ _ _).trans ((fr9 _ _ _).trans ((fr9 _ _ _).trans ((fr10 _ _ _).trans ((fr10 _ _ _).trans (fr10 _ _ _))))), fun e he => ?_⟩
  simp only [aI_uJ, a9, a10]
  by_cases g : e = i
  · rw [g, if_neg (show ¬ 3 * i = 3 * i + 2 by omega), if_neg (show ¬ 3 * i = 3 * i + 1 by omega), if_pos rfl, if_neg (show ¬ 3 * i + 1 = 3 * i + 2 by omega), if_pos rfl, if_pos rfl]
    refine ⟨hv, rfl, rfl, fun a ha => ?_⟩
    by_cases a2 : a = 2
    · rw [a2, if_pos rfl]
    · rw [if_neg (by omega)]
      by_cases a1 : a = 1
      · rw [a1, if_pos rfl]
      · rw [if_neg (by omega), if_pos (by omega)]
  · obtain ⟨r1, r2, r3, r4⟩ := hc e (by omega)
    rw [if_neg (show ¬ 3 * e = 3 * i + 2 by omega), if_neg (show ¬ 3 * e = 3 * i + 1 by omega), if_neg (show ¬ 3 * e = 3 * i by omega), if_neg (show ¬ 3 * e + 1 = 3 * i + 2 by omega), if_neg (show ¬ 3 * e + 1 = 3 * i + 1 by omega), if_neg (show ¬ 3 * e + 1 = 3 * i by omega), if_neg (show ¬ 3 * e + 2 = 3 * i + 2 by omega), if_neg (show ¬ 3 * e + 2 = 3 * i + 1 by omega), if_neg (show ¬ 3 * e + 2 = 3 * i by omega)]
    refine ⟨r1, r2, r3, fun a ha => ?_⟩
    rw [if_neg (by omega), if_neg (by omega), if_neg (by omega)]
    exact r4 a ha
theorem lq_lays_3 (K81 : Int32 → lS → Option (Unit × lS)) : ∀ (n k i : Nat) (L : lS), i + k = 12 → k < n → clr L i → ∃ L', pL_lays_3 N K81 n (zI (m : Nat)) (zI (i : Nat)) L = K81 (zI (m : Nat)) L' ∧ frL L L' ∧ clr L' 12
  | 0, k, i, L, _, hn, _ => by omega
  | n + 1, k, i, L, hk, hn, hc => by
    simp only [pL_lays_3]
    rw [zL_12, il_le (by omega) (by omega) (by omega) (by omega)]
    cases k with
    | zero =>
      rw [if_pos (by omega)]
      rw [show i = 12 by omega] at hc
      exact ⟨L, rfl, frL.rf, hc⟩
    | succ k =>
      rw [if_neg (by omega), show (0 : Int32) = zI ((0 : Nat) : Int) from rfl, il_eq (by omega) (by omega) (by omega) (by omega)]
      by_cases g : i = 0
      · rw [if_pos (by omega)]
        obtain ⟨L1, p1, p2, p3⟩ := lq_lays_26 (N := N) (m := m) (v := 1) (by omega) hc (by rw [g]; rfl) (pL_lays_3 N K81 n)
        obtain ⟨L', q1, q2, q3⟩ := lq_lays_3 K81 n k (i + 1) L1 (by omega) (by omega) p3
        exact ⟨L', p1.trans q1, p2.trans q2, q3⟩
      · rw [if_neg (by omega)]
        obtain ⟨L1, p1, p2, p3⟩ := lq_lays_26 (N := N) (m := m) (v := 0) (by omega) hc (by
          have : sSt tNew i = 0 := by
            show (if false then 2 else if decide (i = 0) then 1 else 0 : Int) = 0
            rw [decide_eq_false g]; rfl
          rw [this]; rfl) (pL_lays_3 N K81 n)
        obtain ⟨L', q1, q2, q3⟩ := lq_lays_3 K81 n k (i + 1) L1 (by omega) (by omega) p3
        exact ⟨L', p1.trans q1, p2.trans q2, q3⟩
theorem clr_new {L : lS} (h : clr L 12) : lTr L tNew := by
  refine ⟨fun e he => ?_, fun e a v he ha hv => ?_⟩
  · obtain ⟨h1, h2, h3, -⟩ := h e he
    exact ⟨h1, h2, h3⟩
  · obtain ⟨-, -, -, h4⟩ := h e he
    rw [h4 a ha, lb_0]
    rfl
theorem lTo_new : lTo tNew := ⟨tW_new, fun x hx => absurd hx List.not_mem_nil, fun e _ => (show (-1 : Int) < 3 by omega), fun e _ => (show (-1 : Int) < 12 by omega), fun e he => decide_eq_false (by omega), ⟨rfl, rfl⟩, fun e he h1 h2 => by
  have h2 : decide (e = 0) = true := h2
  rw [decide_eq_true_eq] at h2
  omega⟩
/-- what the law's loop over changes needs -/
def ldR (L : lS) (H : sH) (cs : Nat → sCh) (t : Nat → Nat → Nat → Nat) (o : List Nat) : Prop := aI L 0 1 = zI (o.length : Nat) ∧ lSc L H ∧ (∀ i (h : i < o.length), lCh L i (cs o[i])) ∧ lTd L t
theorem ldR_fr {L L' : lS} (f : frL L L') (R : ldR L H cs t o) : ldR L' H cs t o := ⟨by rw [f.1 0 (by omega)]; exact R.1, frL_lSc f R.2.1, fun i hi => frL_lCh f (R.2.2.1 i hi), frL_lTd f R.2.2.2⟩
theorem lq_lays_84 (hN : 100 ≤ N) (hm : m < 4) (ho : o.length ≤ 40) (ht : ∀ j, j < 4 → t m m j < 1000) (hO : ∀ k ∈ o, cOk (cs k)) (hl : ∀ k ∈ o, lcOk (cs k)) : ∀ (n k i : Nat) (L : lS) (T : sT), i + k = o.length → k < n → ldR L H cs t o → lTr L T → lTo T → gAr cs ar (knl (t m) m cs (o.drop i)) → gPa cs ar T (knl (t m) m cs (o.drop i)) → gLo cs (knl (t m) m cs (o.drop i)) → gDd cs T (knl (t m) m cs (o.drop i)) → ∃ L', pL_lays_84 N n (zI (m : Nat)) (zI (i : Nat)) L = some ((), L') ∧ frL L L' ∧ lTr L' (rpl H cs T (knl (t m) m cs (o.drop i))) ∧ lTo (rpl H cs T (knl (t m) m cs (o.drop i)))
  | 0, k, i, L, T, _, hn, _, _, _, _, _, _, _ => by omega
  | n + 1, k, i, L, T, hk, hn, R, Q, W, hA, hP, hG, hD => by
    obtain ⟨r1, r2, r3, r4⟩ := id R
    simp only [pL_lays_84, nm_i]
    rw [gq1, show (1 : Int32).toNatClampNeg = 1 from rfl, r1, il_le (by omega) (by omega) (by omega) (by omega)]
    cases k with
    | zero =>
      rw [if_pos (by omega), List.drop_eq_nil_of_le (by omega)]
      exact ⟨L, rfl, frL.rf, Q, W⟩
    | succ k =>
      have hi : i < o.length := by omega
      have hmem : o[i] ∈ o := List.getElem_mem hi
      have C := r3 i hi
      have hc := hO _ hmem
      have hlc := hl _ hmem
      have hcE := hlc.1
      have hcK := hc.1
      rw [if_neg (by omega), gd_c (by omega) (by omega), q_known hm (by omega) C hc r4 (ht _ hc.2.2.1), lba_i, il_B, zI_cn (by omega), C.2.2.1, gd_c (by omega) (by omega), show (16 : Int32) = zI ((16 : Nat) : Int) from rfl, z_mod (by omega) (by omega) (by omega), z_div (by omega) (by omega) (by omega), show (16 * cK (cs o[i]) + cE (cs o[i])) % 16 = cE (cs o[i]) by omega, show (16 * cK (cs o[i]) + cE (cs o[i])) / 16 = cK (cs o[i]) by omega]
      have ed : o.drop i = o[i] :: o.drop (i + 1) := List.drop_eq_getElem_cons hi
      cases hg : gotB (t m) m (cs o[i]) with
      | false =>
        have e1 : knl (t m) m cs (o.drop i) = knl (t m) m cs (o.drop (i + 1)) := by unfold knl; rw [ed, List.filter_cons, hg]; rfl
        rw [e1] at hA hP hG hD ⊢
        rw [if_neg (by decide), show (99 : Int32) = zI ((99 : Nat) : Int) from rfl, lq_stn (by omega) (by omega) (by omega) (by omega) (by omega) (by omega) (by omega)]
        simp only [pL_lays_401, nm_i]
        rw [zs1]
        exact lq_lays_84 hN hm ho ht hO hl n k (i + 1) L T (by omega) (by omega) R Q W hA hP hG hD
      | true =>
        have e1 : knl (t m) m cs (o.drop i) = o[i] :: knl (t m) m cs (o.drop (i + 1)) := by unfold knl; rw [ed, List.filter_cons, hg]; rfl
        rw [e1] at hA hP hG hD ⊢
        rw [if_pos rfl]
        obtain ⟨L1, q1, f1, t1⟩ := lq_step (N := N) (m := m) (K := pL_lays_84 N n) hN r2 (show i < 41 by omega) C hc hlc W (fun h0 => hD _ List.mem_cons_self h0) Q
        rw [q1]
        simp only [pL_lays_401, nm_i]
        rw [zs1]
        obtain ⟨L', q2, f2, t2, w2⟩ := lq_lays_84 hN hm ho ht hO hl n k (i + 1) L1 (tTake H T (cs o[i])) (by omega) (by omega) (ldR_fr f1 R) t1 (lTo_take W hc hlc (gPa_no hA hP)) hA.tail (gPa_take hA hP) (List.pairwise_cons.mp hG).2 (gDd_take hG hD)
        exact ⟨L', q2, f1.trans f2, t2, w2⟩
end LN
section LO
variable {N m : Nat} {L : lS} {W : sW}
theorem tl_le {cs : Nat → sCh} {j : Nat} : ∀ n, nMk cs j n ≤ n
  | 0 => Nat.le_refl _
  | n + 1 => by
    have := tl_le (cs := cs) (j := j) n
    show nMk cs j n + (if cM (cs n) = j then 1 else 0) ≤ n + 1
    split <;> omega
theorem wT_le (h : wOk W) {a i j : Nat} (ha : a < 4) (hi : i < 4) (hj : j < 4) : wT W a i j ≤ wN W := by
  have h1 := h.2.2.2.2.1 a i j ha hi hj
  have h2 := tl_le (cs := wC W) (j := j) (wN W)
  omega
theorem wO_in (h : wOk W) {k : Nat} (hk : k ∈ wO W) : k < wN W := (h.2.2.2.1.2.2.1 k).mp hk
theorem wO_len (h : wOk W) : (wO W).length = wN W := h.2.2.2.1.2.1
theorem wC_ok (h : wOk W) {k : Nat} (hk : k < wN W) : cOk (wC W k) := by
  obtain ⟨-, -, -, ⟨-, -, g3, ⟨ar, g4⟩, -⟩, -⟩ := h
  exact (g4.2 k ((g3 k).mpr hk)).1
theorem lRel_ld (h : lOk W) (R : lRel L W) : ldR L (wH W) (wC W) (wT W) (wO W) := ⟨by rw [wO_len h.1]; exact R.1.2.1, R.2.2.2.1, R.2.2.2.2.2.1, R.2.2.2.2.2.2⟩
theorem lq_lays (hN : 1000 ≤ N) (h : lOk W) (R : lRel L W) (hm : m < 4) : ∃ L', pL_lays N (zI (m : Nat)) L = some ((), L') ∧ frL L L' ∧ lTr L' (wTr W m) := by
  have R0 := lRel_ld h R
  obtain ⟨h0, -, hE, hn, -, -, hl, hg⟩ := h
  obtain ⟨-, -, -, ⟨-, g2, g3, ⟨ar, g4⟩, -⟩, -⟩ := id h0
  simp only [pL_lays]
  obtain ⟨L1, p1, p2, p3⟩ := lq_lays_3 (N := N) (m := m) (pL_lays_81 N) N 12 0 L (by omega) (by omega) (fun e he => absurd he (Nat.not_lt_zero _))
  have p1 : pL_lays_3 N (pL_lays_81 N) N (zI (m : Nat)) (0 : Int32) L = pL_lays_81 N (zI (m : Nat)) L1 := p1
  rw [p1]
  simp only [pL_lays_81]
  obtain ⟨L2, q1, q2, q3, q4⟩ := lq_lays_84 (N := N) (m := m) (H := wH W) (cs := wC W) (t := wT W) (o := wO W) (ar := ar) (by omega) hm (by omega) (fun j hj => by have := wT_le h0 hm hm hj; omega) (fun k hk => wC_ok h0 (wO_in h0 hk)) (fun k hk => hl k (wO_in h0 hk)) N (wO W).length 0 L1 tNew (by omega) (by omega) (ldR_fr p2 R0) (clr_new p3) lTo_new (by rw [List.drop_zero]; exact g4.sub knl_sub) gPa_new (by rw [List.drop_zero]; exact hg.sublist knl_sub) (fun k _ _ => rfl)
  rw [List.drop_zero] at q3
  exact ⟨L2, q1, p2.trans q2, q3⟩
theorem lTo_w (h : lOk W) (hm : m < 4) : lTo (wTr W m) := by
  obtain ⟨h0, -, hE, hn, -, -, hl, hg⟩ := h
  obtain ⟨-, -, -, ⟨-, g2, g3, ⟨ar, g4⟩, -⟩, -⟩ := id h0
  have go : ∀ (l : List Nat) (T : sT), (∀ k ∈ l, cOk (wC W k) ∧ lcOk (wC W k)) → gAr (wC W) ar l → gPa (wC W) ar T l → lTo T → lTo (rpl (wH W) (wC W) T l) := by
    intro l
    induction l with
    | nil => intro T _ _ _ w; exact w
    | cons k l ih =>
      intro T hk hA hP w
      obtain ⟨a1, a2⟩ := hk k List.mem_cons_self
      exact ih _ (fun q hq => hk q (List.mem_cons_of_mem _ hq)) hA.tail (gPa_take hA hP) (lTo_take w a1 a2 (gPa_no hA hP))
  exact go _ tNew (fun k hk => by
    have := wO_in h0 (knl_sub.subset hk)
    exact ⟨wC_ok h0 this, hl k this⟩) (g4.sub knl_sub) gPa_new lTo_new
end LO
