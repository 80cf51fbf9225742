-- LEVEL 2, THE CALL EXCHANGE, ALL OF IT
def frX (r : Nat) (S S' : kS) : Prop := (∀ q, q ≠ 18 + 4 * r → (q < 40 + 3 * r ∨ 42 + 3 * r < q) → kI S' q = kI S q) ∧ (∀ c, c ≠ 19 + 2 * r → (c < 26 + 15 * r ∨ 26 + 15 * r + 14 < c) → kA S' c = kA S c) ∧ (∀ c, (c < 26 + 15 * r ∨ 26 + 15 * r + 14 < c) → kJ S' c = kJ S c) ∧ (∀ q, q ≠ 8 + 2 * r → q ≠ 9 + 2 * r → kL S' q = kL S q) ∧ S'.2.2.2.2 = S.2.2.2.2
section EZ
variable {N : Nat} {S : kS} {M : mS} {W : sW} {g r : Nat}
theorem ex_gst (h : wOk W) (hg : g < 4) (hr : r < 4) (hgr : g ≠ r) {tl : Nat → Nat → Nat} (O : exO W g r tl) {a : Nat} (ha : a < 4) {k : Nat} (hk : k < wN W) : gotB (exM W g r tl a) a (wC W k) = gotB (if a = r then tl else wT W a) a (wC W k) := by
  obtain ⟨g1, g2, g3, ⟨ar, g4⟩, -⟩ := h.2.2.2.1
  have hM := (g4.2 k ((g3 k).mpr hk)).1.2.2.1
  unfold gotB
  rw [exM_own h hg hr hgr O ha hM]
  by_cases e : a = r
  · rw [if_pos e, if_pos e, e]
  · rw [if_neg e, if_neg e]
theorem k_exch (h : wOk W) (K : kRel S W) (hg : g < 4) (hr : r < 4) (hgr : g ≠ r) {tl : Nat → Nat → Nat} (O : exO W g r tl) {S3 : kS} (F : frX r S S3) (A : tdR S3 r tl) (G : kI S3 (18 + 4 * r) = zI (gst tl r (wC W) (wN W) : Nat)) (T3 : tR S3 r (shw (wH W) (wC W) tl r (wO W))) (hN : 17 ≤ N) : ∃ S4, pX4_talkTo N g r S3 = some ((), S4) ∧ kRel S4 (wEx W g r tl) := by
  obtain ⟨k1, ⟨k2, k3⟩, ⟨k4, k5, k6⟩, ⟨k7, k7b⟩, ⟨k8, k9⟩, k10, k11, k12, k13, k14, k15, k16, ⟨k17, k18⟩⟩ := K
  obtain ⟨f1, f2, f3, f4, f5⟩ := F
  obtain ⟨d1, d2, d3, d4, d5, d6, d7, d8⟩ := kD_eq f5
  have Rg : tdR S3 g (wT W g) := tdR_fr (f1 _ (by omega) (by omega)) (f2 _ (by omega) (by omega)) (k10 g hg)
  obtain ⟨S4, e1, tg, tr, p1, p2, p3, p4, p5⟩ := q_talkTo (N := N) hN hgr Rg A
  have u : ∀ q, q ≠ 18 + 4 * r → (q < 40 + 3 * r ∨ 42 + 3 * r < q) → kI S4 q = kI S q := fun q a b => by rw [p1]; exact f1 q a b
  have a : ∀ c, c < 19 → kA S4 c = kA S c := fun c hc => by rw [p2 c (by omega) (by omega)]; exact f2 c (by omega) (by omega)
  have g3 := h.2.2.2.1.2.2.1
  refine ⟨S4, e1, fr_hR k1 (fun q hq => u q (by omega) (by omega)) (fun c hc => a c (by omega)), ⟨by rw [u _ (by omega) (by omega)]; exact k2, by rw [a _ (by omega)]; exact k3⟩, ⟨by rw [u _ (by omega) (by omega)]; exact k4, by rw [u _ (by omega) (by omega)]; exact k5, by rw [a _ (by omega), a _ (by omega), a _ (by omega)]; exact k6⟩, ⟨by rw [(kD_eq p5).1, d1]; exact k7, fun k hk => cRS_D p5 (cRS_D f5 (k7b k hk))⟩, ⟨lgR_fr (u _ (by omega) (by omega)) (p5.trans f5) k8, by rw [(kD_eq p5).2.2.1, (kD_eq p5).2.2.2.1, d3, d4]; exact k9⟩, fun m hm => ?_, fun m hm => by rw [u _ (by omega) (by omega)]; exact k11 m hm, fun m hm => ?_, fun m e hm he => ?_, by rw [u _ (by omega) (by omega)]; exact k14, fun m hm => ?_, by rw [p2 _ (by omega) (by omega), f2 _ (by omega) (by omega)]; exact k16, ⟨by rw [u _ (by omega) (by omega)]; exact k17, by rw [a _ (by omega)]; exact k18⟩⟩
  · show tdR S4 m (exM W g r tl m)
    unfold exM
    by_cases z : m = g
    · subst z; rw [up3_s]; exact tg
    · rw [up3_o _ _ z]
      by_cases z2 : m = r
      · subst z2; rw [up3_s]; exact tr
      · rw [up3_o _ _ z2]
        exact tdR_fr (u _ (by omega) (by omega)) (by rw [p2 _ (by omega) (by omega)]; exact f2 _ (by omega) (by omega)) (k10 m hm)
  · show kI S4 (18 + 4 * m) = zI (gst (exM W g r tl m) m (wC W) (wN W) : Nat)
    rw [gst_row (tl := if m = r then tl else wT W m) (wN W) (fun k hk => ex_gst h hg hr hgr O hm hk)]
    by_cases z : m = r
    · subst z
      rw [if_pos rfl, p1]
      exact G
    · rw [if_neg z, u _ (by omega) (by omega)]
      exact k12 m hm
  · rw [p3, f4 _ (by omega) (by omega)]
    exact k13 m e hm he
  · have e : wTr (wEx W g r tl) m = shw (wH W) (wC W) (if m = r then tl else wT W m) m (wO W) := by
      show shw (wH W) (wC W) (exM W g r tl m) m (wO W) = _
      exact shw_row (fun k hk => ex_gst h hg hr hgr O hm ((g3 k).mp hk))
    rw [e]
    have fin : ∀ {T : sT}, tR S3 m T → tR S4 m T := fun t => tR_other (fun q _ _ => by rw [p1]) (fun c _ _ => p2 c (by omega) (by omega)) (fun c _ _ => by rw [p4]) (by rw [p3]) (by rw [p3]) t
    by_cases z : m = r
    · subst z
      rw [if_pos rfl]
      exact fin T3
    · rw [if_neg z]
      refine fin (tR_other (fun q _ _ => f1 q (by omega) (by omega)) (fun c _ _ => f2 c (by omega) (by omega)) (fun c _ _ => f3 c (by omega)) (f4 _ (by omega) (by omega)) (f4 _ (by omega) (by omega)) (k15 m hm))
theorem m_exch (h : wOk W) (R : mRel M W) (hg : g < 4) (hr : r < 4) (hgr : g ≠ r) {tl : Nat → Nat → Nat} {M3 : mS} (f : rf1 19 M M3) (ht : ∀ a b d, a < 4 → b < 4 → d < 4 → up3 (wT W) r tl a b d ≤ 250) (V : exV M3 (up3 (wT W) r tl) g r 16) : mRel (mI M3 37 (-1)) (wEx W g r tl) := by
  obtain ⟨r1, r2, ⟨r4, r5, r6, r7⟩, r8, r11, r12, r13, r14, r15, r16, ⟨r17, r18⟩, r19⟩ := R
  have u : ∀ c, c ≠ 19 → (mI M3 37 (-1)).2 c = M.2 c := fun c hc => by rw [mI_2]; exact f.2 c hc
  have v : ∀ q, q ≠ 37 → (mI M3 37 (-1)).1 q = M.1 q := fun q hq => by rw [mI_1, upd_o _ _ hq, f.1]
  refine ⟨rSc_e (v _ (by omega)) (v _ (by omega)) (fun d hd => u d (by omega)) r1, ⟨by rw [v _ (by omega)]; exact r2.1, by rw [u 9 (by omega), u 10 (by omega)]; exact r2.2⟩, ⟨by rw [v _ (by omega)]; exact r4, by rw [v _ (by omega)]; exact r5, by rw [u 12 (by omega), u 13 (by omega), u 14 (by omega)]; exact r6, by rw [u 17 (by omega)]; exact r7⟩, ?_, by rw [u 36 (by omega)]; exact r11, fun a b d ha hb hd => ?_, by rw [u 18 (by omega)]; exact r13, by rw [u 20 (by omega)]; exact r14, by rw [v _ (by omega)]; exact r15, Or.inl (by rw [mI_1, upd_s]; rfl), ⟨by rw [v _ (by omega)]; exact r17, by rw [u 53 (by omega)]; exact r18⟩, by rw [v 31 (by omega), u 33 (by omega)]; exact r19⟩
  · obtain ⟨c1, c2, c3⟩ := r8
    exact ⟨by rw [v _ (by omega)]; exact c1, c2, fun k hk => ⟨rCh_e (fun d a b => u d (by omega)) (c3 k hk).1, (c3 k hk).2⟩⟩
  · have q := V a b d ha hb hd
    rw [mI_2]
    have tg := ht g b d hg hb hd
    have tr := ht r b d hr hb hd
    rw [up3_o _ _ hgr] at tg
    rw [up3_s] at tr
    show M3.2 19 (16 * a + 4 * b + d) = zI (exM W g r tl a b d : Nat) ∧ exM W g r tl a b d ≤ 250
    by_cases e : a = g ∨ a = r
    · have x : exM W g r tl a b d = max (up3 (wT W) r tl g b d) (up3 (wT W) r tl r b d) := by
        rw [up3_o _ _ hgr, up3_s]
        unfold exM
        rcases e with e | e
        · rw [e, up3_s]; rfl
        · rw [e, up3_o _ _ (fun x => hgr x.symm), up3_s]; rfl
      rw [if_pos ⟨e, by omega⟩] at q
      rw [x]
      refine ⟨q, ?_⟩
      rw [up3_o _ _ hgr, up3_s]
      exact Nat.max_le.mpr ⟨tg, tr⟩
    · have x : exM W g r tl a b d = up3 (wT W) r tl a b d := by
        unfold exM
        rw [up3_o _ _ (fun x => e (Or.inl x)), up3_o _ _ (fun x => e (Or.inr x)), up3_o _ _ (fun x => e (Or.inr x))]
      rw [if_neg (fun y => e y.1)] at q
      rw [x]
      exact ⟨q, ht a b d ha hb hd⟩
theorem op_exchange (hN : 20000 ≤ N) (h : wOk W) (K : kRel S W) (R : mRel M W) (x y z : Int32) : opOk 1 2 0 (pX9_exchange N x y z S) (pf_exchange N x y z M) := by
  obtain ⟨x, h1, h2, rfl⟩ := zI_of x
  obtain ⟨y, h3, h4, rfl⟩ := zI_of y
  obtain ⟨z, h5, h6, rfl⟩ := zI_of z
  have R0 := mRel_0 (v := (0 : Int32)) R
  have ez : pf_in N (zI z) 0 250 = some (zB (decide (0 ≤ z) && decide (z ≤ 250))) := r_in (a := 0) (b := 250) h5 h6 (by omega) (by omega) (by omega) (by omega)
  simp only [pX9_exchange, pX9_exchange_30, pf_exchange, pf_exchange_19, pf_exchange_41, sv_i]
  rw [r_isMaster h1 h2, bs_i, il_B, r_isMaster h3 h4, bs_i, il_B, ez, bs_i, il_B, il_eq h1 h2 h3 h4]
  have bad : ∀ {A : Option ((Int32 ⊕ Nat) × kS)}, A = some (.inr 1, S) → opOk 1 2 0 A (bd (pf_fails N 1 (mI M 0 0)) fun v1 S2 => some (v1, S2)) := fun hA => by
    rw [fails_i, bd_i]
    exact opOk_x hA rfl (Or.inl ⟨rfl, thr_k⟩) h K (mRel_0 R0)
  have bad2 : ∀ {A : Option ((Int32 ⊕ Nat) × kS)}, A = some (.inr 2, S) → opOk 1 2 0 A (bd (pf_fails N 2 (mI M 0 0)) fun v1 S2 => some (v1, S2)) := fun hA => by
    rw [fails_i, bd_i]
    exact opOk_x hA rfl (Or.inr (Or.inl ⟨rfl, thr_k⟩)) h K (mRel_0 R0)
  by_cases q : 0 ≤ x ∧ x < 4
  · obtain ⟨g, rfl⟩ : ∃ g : Nat, x = g := ⟨x.toNat, by omega⟩
    have hg : g < 4 := by omega
    rw [if_pos (in_yes (by omega)), g_master hg, bx_l, gn_l hg]
    by_cases q2 : 0 ≤ y ∧ y < 4
    · obtain ⟨r, rfl⟩ : ∃ r : Nat, y = r := ⟨y.toNat, by omega⟩
      have hr : r < 4 := by omega
      rw [if_pos (in_yes (by omega)), g_master hr, bx_l, gn_l hr, il_eq h1 h2 h3 h4]
      by_cases q3 : (g : Int) = (r : Int)
      · rw [if_pos q3, if_pos q3]
        exact bad2 rfl
      · have hgr : g ≠ r := by omega
        rw [if_neg q3, if_neg q3, zL_0, il_lt h5 h6 (by omega) (by omega), zL_250, il_le h5 h6 (by omega) (by omega)]
        by_cases q4 : 0 ≤ z ∧ z ≤ 250
        · obtain ⟨most, rfl⟩ : ∃ most : Nat, z = most := ⟨z.toNat, by omega⟩
          have g1 := h.2.2.2.1.1
          have g2 := h.2.2.2.1.2.1
          obtain ⟨S2, c1, c2, c3, c4⟩ := q_exchange_46 (N := N) h K hg hr hgr (most := most) (by omega) (k114 := pX9_exchange_114 N) N (wO W).length 0 S (wT W r) 0 (by omega) (by omega) (by omega) frM.rf (K.2.2.2.2.2.1 r hr) (K.2.2.2.2.2.2.2.1 r hr) (fun _ q _ hq => by omega)
          have V0 : rVw (mI M 0 0) (up3 (wT W) r (wT W r)) := fun a b d ha hb hd => by
            have := R0.2.2.2.2.2.1 a b d ha hb hd
            by_cases e : a = r
            · subst e; rw [up3_s]; exact this
            · rw [up3_o _ _ e]; exact this
          obtain ⟨M2, d1, d2, d3⟩ := r_exchange_53 (N := N) h R0 hg hr hgr (most := most) (by omega) (k127 := pf_exchange_127 N) N (wO W).length 0 (mI M 0 0) (wT W r) 0 (by omega) (by omega) (by omega) rf1.rf V0 (fun _ q _ hq => by omega)
          have c1 : pX9_exchange_46 N (pX9_exchange_114 N) N (zI (most : Nat)) g r 0 0 S = _ := c1
          have d1 : pf_exchange_53 N (pf_exchange_127 N) N (zI (g : Nat)) (zI (r : Nat)) (zI (most : Nat)) 0 0 (mI M 0 0) = _ := d1
          rw [List.drop_zero] at c1 c3 c4 d1 d3
          obtain ⟨a1, a2, a3, a4, a5, a6⟩ := exT_ok (cs := wC W) (tg := wT W g) (g := g) (r := r) (most := most) (wO W) (wT W r) 0
          generalize (exT (wC W) (wT W g) g r most (wO W) (wT W r) 0).1 = tl at c1 c3 c4 d1 d3 a1 a2 a3 a4 a5 a6
          generalize (exT (wC W) (wT W g) g r most (wO W) (wT W r) 0).2 = c' at c1 c3 c4 d1 d3 a1 a2 a3 a4 a5 a6
          have O : exO W g r tl := ⟨a1, a2, a3⟩
          have ht : ∀ a b d, a < 4 → b < 4 → d < 4 → up3 (wT W) r tl a b d ≤ 250 := fun a b d ha hb hd => (d3 a b d ha hb hd).2
          obtain ⟨M3, b1, b2, b3⟩ := r_exchange_130 (N := N) (M := mI M 0 0) ht hg hr hgr (x4 := zI (c' : Nat)) (k227 := pf_exchange_227 N) N 16 0 M2 (by omega) (by omega) d2 (fun a b d ha hb hd => by rw [if_neg (by omega)]; exact (d3 a b d ha hb hd).1)
          have b1 : pf_exchange_130 N (pf_exchange_227 N) N (zI (g : Nat)) (zI (r : Nat)) (zI (c' : Nat)) 0 M2 = _ := b1
          have ref : pf_exchange_53 N (pf_exchange_127 N) N (zI (g : Nat)) (zI (r : Nat)) (zI (most : Nat)) 0 0 (mI M 0 0) = some (zI (c' : Nat), mI M3 37 (-1)) := by
            rw [d1]
            simp only [pf_exchange_127]
            rw [b1]
            rfl
          have R4 := m_exch h R0 hg hr hgr b2 ht b3
          have t0 : (mI M3 37 (-1)).1 0 = 0 := by rw [mI_1, upd_o _ _ (by omega), b2.1]; exact thr_k
          have W4 : wOk (wEx W g r tl) := by
            have T4 := exM_le h hg hr hgr O
            obtain ⟨o1, o2, o3, o4, o5, o6, o7, o8⟩ := h
            exact ⟨o1, o2, o3, o4, T4, o6, o7, o8⟩
          have cls : ∃ S4, pX9_exchange_114 N g r (zI (c' : Nat)) S2 = some (.inl (zI (c' : Nat)), S4) ∧ kRel S4 (wEx W g r tl) := by
            simp only [pX9_exchange_114, pX9_exchange_130]
            rw [zL_0, il_le (by omega) (by omega) (by omega) (by omega)]
            by_cases q5 : c' = 0
            · have etl : tl = wT W r := a6 q5
              rw [if_pos (by omega)]
              have F : frX r S S2 := ⟨fun q a _ => c2.1 q a, fun c a _ => c2.2.1 c a, fun c _ => by rw [c2.2.2.2.1], fun q _ _ => by rw [c2.2.2.1], c2.2.2.2.2⟩
              obtain ⟨S4, e1, e2⟩ := k_exch (N := N) h K hg hr hgr O F c3 c4 (by
                rw [etl]
                exact tR_other (fun q _ _ => c2.1 q (by omega)) (fun c _ _ => c2.2.1 c (by omega)) (fun c _ _ => by rw [c2.2.2.2.1]) (by rw [c2.2.2.1]) (by rw [c2.2.2.1]) (K.2.2.2.2.2.2.2.2.2.2.1 r hr)) (by omega)
              exact ⟨S4, by rw [e1, bk_i], e2⟩
            · rw [if_neg (by omega)]
              obtain ⟨-, -, g3, ⟨ar, g4⟩, g5, -⟩ := h.2.2.2.1
              have hE := h.2.2.2.2.2.2.1
              have w := wTr_ok h r
              have rt0 : kA S2 (26 + 15 * r + 5) 0 = zI 0 := by
                rw [c2.2.1 _ (by omega)]
                have t := (K.2.2.2.2.2.2.2.2.2.2.1 r hr).2.2.2.2.1 0 (by omega) w.1.2.2.2.2.2.2.2.2.1
                rw [w.2.2] at t
                exact t
              obtain ⟨S3, e1, e2, e3, -⟩ := q_redo (N := N) (t := r) (ar := ar) (H := wH W) (tl := tl) (m := r) (by omega) hr (show (wO W).length ≤ 250 by omega) (S := S2) ⟨fr_hR K.1 (fun q hq => c2.1 q (by omega)) (fun c hc => c2.2.1 c (by omega)), lgR_fr (c2.1 _ (by omega)) c2.2.2.2.2 K.2.2.2.2.1.1, fun k hk => cRS_D c2.2.2.2.2 (K.2.2.2.1.2 k ((g3 k).mp hk)), c3⟩ rt0 g4 (by omega)
              have F : frX r S S3 := ⟨fun q a b => by rw [e3.2.2.2.1 q b, c2.1 q a], fun c a b => by rw [e3.1 c b, c2.2.1 c a], fun c b => by rw [e3.2.1 c b, c2.2.2.2.1], fun q a b => by rw [e3.2.2.1 q a b, c2.2.2.1], e3.2.2.2.2.trans c2.2.2.2.2⟩
              obtain ⟨S4, e4, e5⟩ := k_exch (N := N) h K hg hr hgr O F (tdR_fr (e3.2.2.2.1 _ (by omega)) (e3.1 _ (by omega)) c3) (by rw [e3.2.2.2.1 _ (by omega)]; exact c4) e2.1 (by omega)
              exact ⟨S4, by rw [e1, bk_i, e4, bk_i], e5⟩
          obtain ⟨S4, e1, e2⟩ := cls
          have c1 : pX9_exchange_46 N (pX9_exchange_114 N) N (zI (most : Nat)) g r (zI 0) (zI 0) S = _ := c1
          have ref : pf_exchange_53 N (pf_exchange_127 N) N (zI (g : Nat)) (zI (r : Nat)) (zI (most : Nat)) (zI 0) (zI 0) (mI M 0 (zI 0)) = _ := ref
          rw [if_neg (by omega), if_pos (by omega), if_pos (in_yes (by omega)), c1, e1, ref]
          exact opOk_v rfl rfl t0 W4 e2 R4
        · rw [if_neg (in_no q4)]
          by_cases q5 : z < 0
          · rw [if_pos q5]
            exact bad2 rfl
          · rw [if_neg q5, if_neg (by omega)]
            exact bad2 rfl
    · rw [if_neg (in_no (by omega)), g_masterNo h3 h4 q2, bx_r]
      exact bad rfl
  · rw [if_neg (in_no (by omega)), g_masterNo h1 h2 q, bx_r]
    exact bad rfl
end EZ
