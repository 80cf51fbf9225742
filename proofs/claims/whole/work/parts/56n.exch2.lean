-- LEVEL 2, THE CALL EXCHANGE: THE CLASS AND THE REFERENCE
section EY
variable {N : Nat} {S : kS} {M : mS} {W : sW} {g r : Nat}
theorem q_exchange_46 (h : wOk W) (K : kRel S W) (hg : g < 4) (hr : r < 4) (hgr : g ≠ r) {most : Nat} (hm : most ≤ 250) {k114 : Nat → Nat → Int32 → kS → Option ((Int32 ⊕ Nat) × kS)} : ∀ (n k i : Nat) (S' : kS) (tl : Nat → Nat → Nat) (c : Nat), i + k = (wO W).length → k < n → c ≤ i → frM r S S' → tdR S' r tl → kI S' (18 + 4 * r) = zI (gst tl r (wC W) (wN W) : Nat) → (c < most → exI W g r i tl) → ∃ S2, pX9_exchange_46 N k114 n (zI (most : Nat)) g r (zI (c : Nat)) (zI (i : Nat)) S' = k114 g r (zI ((exT (wC W) (wT W g) g r most ((wO W).drop i) tl c).2 : Nat)) S2 ∧ frM r S S2 ∧ tdR S2 r (exT (wC W) (wT W g) g r most ((wO W).drop i) tl c).1 ∧ kI S2 (18 + 4 * r) = zI (gst (exT (wC W) (wT W g) g r most ((wO W).drop i) tl c).1 r (wC W) (wN W) : Nat)
  | 0, k, i, S', tl, c, hk, hn, hc, f, R, G, I => by omega
  | n + 1, k, i, S', tl, c, hk, hn, hc, f, R, G, I => by
    obtain ⟨g1, g2, g3, ⟨ar, g4⟩, g5, g6, g7, g8, g9, g10⟩ := id h.2.2.2.1
    have L' : lgR S' (wO W) := lgR_fr (f.1 12 (by omega)) f.2.2.2.2 K.2.2.2.2.1.1
    simp only [pX9_exchange_46, pX9_exchange_108, nm_i]
    rw [q_logSize L', bk_i, il_le (by omega) (by omega) (by omega) (by omega), il_le (by omega) (by omega) (by omega) (by omega)]
    cases k with
    | zero =>
      rw [if_pos (by omega), List.drop_eq_nil_of_le (by omega)]
      exact ⟨S', rfl, f, R, G⟩
    | succ k =>
      have hi : i < (wO W).length := by omega
      have hmem : (wO W)[i] ∈ wO W := List.getElem_mem hi
      have hkn := (g3 _).mp hmem
      have hco := (g4.2 _ hmem).1
      rw [if_neg (by omega)]
      by_cases q : most ≤ c
      · rw [if_pos (by omega), exT_full q]
        exact ⟨S', rfl, f, R, G⟩
      · have I := I (by omega)
        have C' : cRS S' (wO W)[i] (wC W (wO W)[i]) := cRS_D f.2.2.2.2 (K.2.2.2.1.2 _ hkn)
        have Rg : tdR S' g (wT W g) := tdR_fr (f.1 _ (by omega)) (f.2.1 _ (by omega)) (K.2.2.2.2.2.1 g hg)
        have ek : zI (i : Nat) + 1 = zI ((i + 1 : Nat) : Int) := by rw [zL_1, zI_add]; congr 1
        have ec : zI (c : Nat) + 1 = zI ((c + 1 : Nat) : Int) := by rw [zL_1, zI_add]; congr 1
        have dr : (wO W).drop i = (wO W)[i] :: (wO W).drop (i + 1) := List.drop_eq_getElem_cons hi
        rw [if_neg (by omega), q_logGet L' hi, bk_i, gn_l C'.1, q_hasGot Rg hg C' hco, bk_i, il_B, dr]
        unfold exT
        by_cases a1 : gotB (wT W g) g (wC W (wO W)[i]) = true
        · rw [if_pos a1, q_hasGot R hr C' hco, bk_i, il_B]
          by_cases a2 : gotB tl r (wC W (wO W)[i]) = true
          · rw [if_pos a2, if_neg (fun x => by rw [a2] at x; exact Bool.noConfusion x.2.2), ek]
            exact q_exchange_46 h K hg hr hgr hm n k (i + 1) S' tl c (by omega) (by omega) (by omega) f R G (fun _ => ex_inv hi I (fun _ => Nat.le_refl _) (fun _ => a2))
          · have a2 := Bool.eq_false_iff.mpr a2
            have hnum := ex_num h hi I a1 a2
            have gl := gst_learn (tl := tl) (r := r) g8 hkn hnum
            have gle : gst tl r (wC W) (wN W) ≤ 250 := gst_le _ (fun k hk _ => by have := (g9 k hk).2; omega)
            obtain ⟨S3, l1, l2, l3, l4⟩ := q_learn (N := N) R hr G gle C' hco
            rw [a2, if_neg (by decide), l1, bk_i, if_pos ⟨by omega, a1, rfl⟩, ek, ec]
            have lt2 := gotB_no.mp a2
            exact q_exchange_46 h K hg hr hgr hm n k (i + 1) S3 _ (c + 1) (by omega) (by omega) (by omega) (f.trans l4) l2 (by rw [gl]; exact l3) (fun _ => ex_inv hi I (fun b => by
              by_cases e : b = cM (wC W (wO W)[i])
              · rw [e, up2_s]; omega
              · rw [up2_o _ _ (fun x => e x.2)]; exact Nat.le_refl _) (fun _ => by rw [gotB_iff, up2_s]; omega))
        · rw [if_neg a1, if_neg (fun x => a1 x.2.1), ek]
          exact q_exchange_46 h K hg hr hgr hm n k (i + 1) S' tl c (by omega) (by omega) (by omega) f R G (fun _ => ex_inv hi I (fun _ => Nat.le_refl _) (fun x => absurd x a1))
/-- the reference: what the getter gets -/
theorem rCs_1 {M' : mS} {c : Nat} {cs : Nat → sCh} {n : Nat} (hc : c < 23 ∨ 35 < c) (f : rf1 c M M') (C : rCs M cs n) : rCs M' cs n := by
  obtain ⟨c1, c2, c3⟩ := C
  exact ⟨by rw [f.1]; exact c1, c2, fun k hk => ⟨rCh_e (fun d a b => f.2 d (by omega)) (c3 k hk).1, (c3 k hk).2⟩⟩
theorem r_exchange_53 (h : wOk W) (R : mRel M W) (hg : g < 4) (hr : r < 4) (hgr : g ≠ r) {most : Nat} (hm : most ≤ 250) {k127 : Int32 → Int32 → Int32 → mS → Option (Int32 × mS)} : ∀ (n k i : Nat) (M' : mS) (tl : Nat → Nat → Nat) (c : Nat), i + k = (wO W).length → k < n → c ≤ i → rf1 19 M M' → rVw M' (up3 (wT W) r tl) → (c < most → exI W g r i tl) → ∃ M2, pf_exchange_53 N k127 n (zI (g : Nat)) (zI (r : Nat)) (zI (most : Nat)) (zI (c : Nat)) (zI (i : Nat)) M' = k127 (zI (g : Nat)) (zI (r : Nat)) (zI ((exT (wC W) (wT W g) g r most ((wO W).drop i) tl c).2 : Nat)) M2 ∧ rf1 19 M M2 ∧ rVw M2 (up3 (wT W) r (exT (wC W) (wT W g) g r most ((wO W).drop i) tl c).1)
  | 0, k, i, M', tl, c, hk, hn, hc, f, V, I => by omega
  | n + 1, k, i, M', tl, c, hk, hn, hc, f, V, I => by
    obtain ⟨g1, g2, g3, ⟨ar, g4⟩, g5, g6, g7, g8, g9, g10⟩ := id h.2.2.2.1
    have C := rCs_1 (by omega) f R.2.2.2.1
    have Or : ∀ i (h : i < (wO W).length), M'.2 36 i = zI ((wO W)[i] : Nat) := by rw [f.2 36 (by omega)]; exact R.2.2.2.2.1
    simp only [pf_exchange_53, pf_exchange_121, nm_i]
    rw [C.1, il_le (by omega) (by omega) (by omega) (by omega)]
    cases k with
    | zero =>
      rw [if_pos (by omega), List.drop_eq_nil_of_le (by omega)]
      exact ⟨M', rfl, f, V⟩
    | succ k =>
      have hi : i < (wO W).length := by omega
      have hmem : (wO W)[i] ∈ wO W := List.getElem_mem hi
      have hkn := (g3 _).mp hmem
      have hco := (g4.2 _ hmem).1
      have ek : zI (i : Nat) + 1 = zI ((i + 1 : Nat) : Int) := by rw [zL_1, zI_add]; congr 1
      have ec : zI (c : Nat) + 1 = zI ((c + 1 : Nat) : Int) := by rw [zL_1, zI_add]; congr 1
      have dr : (wO W).drop i = (wO W)[i] :: (wO W).drop (i + 1) := List.drop_eq_getElem_cons hi
      rw [if_neg (by omega), gd_n (show i < 250 by omega) (by omega), zI_cn (show i < 2147483648 by omega), Or i hi, il_le (by omega) (by omega) (by omega) (by omega), ek, dr]
      unfold exT
      by_cases q : most ≤ c
      · rw [if_pos (by omega), if_neg (fun x => by omega)]
        exact r_exchange_53 h R hg hr hgr hm n k (i + 1) M' tl c (by omega) (by omega) (by omega) f V (fun x => by omega)
      · have I := I (by omega)
        obtain ⟨c1, c2⟩ := C.2.2 _ hkn
        have kg := r_isKnown (N := N) V hg c1 c2 (by omega)
        have kr := r_isKnown (N := N) V hr c1 c2 (by omega)
        rw [up3_o _ _ hgr] at kg
        rw [up3_s] at kr
        rw [if_neg (by omega), kg, bd_i, il_B]
        by_cases a1 : gotB (wT W g) g (wC W (wO W)[i]) = true
        · rw [if_pos a1, kr, bd_i, il_B]
          by_cases a2 : gotB tl r (wC W (wO W)[i]) = true
          · rw [if_pos a2, if_neg (fun x => by rw [a2] at x; exact Bool.noConfusion x.2.2)]
            exact r_exchange_53 h R hg hr hgr hm n k (i + 1) M' tl c (by omega) (by omega) (by omega) f V (fun _ => ex_inv hi I (fun _ => Nat.le_refl _) (fun _ => a2))
          · have a2 := Bool.eq_false_iff.mpr a2
            have hnum := ex_num h hi I a1 a2
            have hM4 := hco.2.2.1
            have hN250 := hco.2.2.2.1
            have hv := V r r (cM (wC W (wO W)[i])) hr hr hM4
            rw [up3_s] at hv
            rw [a2, if_neg (by decide), gd_n (show (wO W)[i] < 250 by omega) (by omega), zI_cn (show (wO W)[i] < 2147483648 by omega), c1.2.2.2.1, zL_20, zI_mul, zI_add, show (20 : Int) * (r : Nat) + (cM (wC W (wO W)[i]) : Nat) = ((16 * r + 4 * r + cM (wC W (wO W)[i]) : Nat) : Int) by omega]
            simp only [gd_n (show 16 * r + 4 * r + cM (wC W (wO W)[i]) < 64 by omega) (show (64 : Nat) < 2147483648 by omega), zI_cn (show 16 * r + 4 * r + cM (wC W (wO W)[i]) < 2147483648 by omega), sv_i]
            rw [hv.1, if_pos ⟨by omega, a1, trivial⟩, ec]
            have et : zI (tl r (cM (wC W (wO W)[i])) : Nat) + 1 = zI ((cN (wC W (wO W)[i]) + 1 : Nat) : Int) := by rw [zL_1, zI_add, hnum]; congr 1
            rw [et]
            refine r_exchange_53 h R hg hr hgr hm n k (i + 1) _ _ (c + 1) (by omega) (by omega) (by omega) (f.trans rf1_mA) (fun a b d ha hb hd => ?_) (fun _ => ex_inv hi I (fun b => by
              by_cases e : b = cM (wC W (wO W)[i])
              · rw [e, up2_s]; omega
              · rw [up2_o _ _ (fun x => e x.2)]; exact Nat.le_refl _) (fun _ => by rw [gotB_iff, up2_s]; omega))
            rw [mA_s]
            have hv2 := V a b d ha hb hd
            by_cases ea : a = r
            · subst ea
              rw [up3_s] at hv2 ⊢
              by_cases eb : b = a ∧ d = cM (wC W (wO W)[i])
              · obtain ⟨rfl, rfl⟩ := eb
                rw [upd_s, up2_s]
                exact ⟨rfl, by omega⟩
              · rw [upd_o _ _ (by omega), up2_o _ _ eb]
                exact hv2
            · rw [up3_o _ _ ea] at hv2 ⊢
              rw [upd_o _ _ (by omega)]
              exact hv2
        · rw [if_neg a1, if_neg (fun x => a1 x.2.1)]
          exact r_exchange_53 h R hg hr hgr hm n k (i + 1) M' tl c (by omega) (by omega) (by omega) f V (fun _ => ex_inv hi I (fun _ => Nat.le_refl _) (fun x => absurd x a1))
/-- the two tell one another -/
def exV (M : mS) (t1 : Nat → Nat → Nat → Nat) (g r i : Nat) : Prop := ∀ a b d, a < 4 → b < 4 → d < 4 → M.2 19 (16 * a + 4 * b + d) = zI ((if (a = g ∨ a = r) ∧ 4 * b + d < i then max (t1 g b d) (t1 r b d) else t1 a b d : Nat) : Int)
theorem r_exchange_130 {t1 : Nat → Nat → Nat → Nat} (ht : ∀ a b d, a < 4 → b < 4 → d < 4 → t1 a b d ≤ 250) (hg : g < 4) (hr : r < 4) (hgr : g ≠ r) {x4 : Int32} {k227 : Int32 → mS → Option (Int32 × mS)} : ∀ (n k i : Nat) (M' : mS), i + k = 16 → k < n → rf1 19 M M' → exV M' t1 g r i → ∃ M2, pf_exchange_130 N k227 n (zI (g : Nat)) (zI (r : Nat)) x4 (zI (i : Nat)) M' = k227 x4 M2 ∧ rf1 19 M M2 ∧ exV M2 t1 g r 16
  | 0, k, i, M', hk, hn, f, V => by omega
  | n + 1, k, i, M', hk, hn, f, V => by
    simp only [pf_exchange_130, pf_exchange_191, nm_i, sv_i]
    rw [zL_16, il_le (by omega) (by omega) (by omega) (by omega)]
    cases k with
    | zero =>
      have : i = 16 := by omega
      subst this
      rw [if_pos (by omega)]
      exact ⟨M', rfl, f, V⟩
    | succ k =>
      have hb : i / 4 < 4 := by omega
      have hd : i % 4 < 4 := by omega
      have ig : ∀ a : Nat, 16 * a + i = 16 * a + 4 * (i / 4) + i % 4 := fun a => by omega
      have vg := V g (i / 4) (i % 4) hg hb hd
      have vr := V r (i / 4) (i % 4) hr hb hd
      rw [if_neg (by omega), ← ig] at vg vr
      have tg := ht g (i / 4) (i % 4) hg hb hd
      have tr := ht r (i / 4) (i % 4) hr hb hd
      have ek : zI (i : Nat) + 1 = zI ((i + 1 : Nat) : Int) := by rw [zL_1, zI_add]; congr 1
      have step : ∀ v : Nat, v = max (t1 g (i / 4) (i % 4)) (t1 r (i / 4) (i % 4)) → exV (mA (mA M' 19 (16 * g + i) (zI (v : Nat))) 19 (16 * r + i) (zI (v : Nat))) t1 g r (i + 1) := fun v hv a b d ha hb' hd' => by
        rw [mA_s, mA_s]
        by_cases e1 : 16 * a + 4 * b + d = 16 * r + i
        · have z1 : a = r := by omega
          have z2 : 4 * b + d = i := by omega
          have z3 : b = i / 4 := by omega
          have z4 : d = i % 4 := by omega
          rw [e1, upd_s, if_pos ⟨Or.inr z1, by omega⟩, hv, z3, z4]
        · rw [upd_o _ _ e1]
          by_cases e2 : 16 * a + 4 * b + d = 16 * g + i
          · have z1 : a = g := by omega
            have z2 : 4 * b + d = i := by omega
            have z3 : b = i / 4 := by omega
            have z4 : d = i % 4 := by omega
            rw [e2, upd_s, if_pos ⟨Or.inl z1, by omega⟩, hv, z3, z4]
          · rw [upd_o _ _ e2, V a b d ha hb' hd']
            by_cases e3 : (a = g ∨ a = r) ∧ 4 * b + d < i
            · rw [if_pos e3, if_pos ⟨e3.1, by omega⟩]
            · rw [if_neg e3, if_neg (fun x => e3 ⟨x.1, by
                rcases x.1 with y | y
                · subst y; omega
                · subst y; omega⟩)]
      have ih := fun v hv => r_exchange_130 ht hg hr hgr (x4 := x4) (k227 := k227) n k (i + 1) (mA (mA M' 19 (16 * g + i) (zI (v : Nat))) 19 (16 * r + i) (zI (v : Nat))) (by omega) (by omega) ((f.trans rf1_mA).trans rf1_mA) (step v hv)
      rw [if_neg (by omega), zI_mul, zI_add, zI_mul, zI_add, show (16 : Int) * (g : Nat) + (i : Nat) = ((16 * g + i : Nat) : Int) by omega, show (16 : Int) * (r : Nat) + (i : Nat) = ((16 * r + i : Nat) : Int) by omega, ek]
      simp only [gd_n (show 16 * g + i < 64 by omega) (show (64 : Nat) < 2147483648 by omega), gd_n (show 16 * r + i < 64 by omega) (show (64 : Nat) < 2147483648 by omega), zI_cn (show 16 * g + i < 2147483648 by omega), zI_cn (show 16 * r + i < 2147483648 by omega)]
      rw [vg, vr, il_le (by omega) (by omega) (by omega) (by omega)]
      by_cases q : t1 g (i / 4) (i % 4) ≤ t1 r (i / 4) (i % 4)
      · rw [if_pos (by omega)]
        exact ih _ (Nat.max_eq_right q).symm
      · rw [if_neg (by omega)]
        exact ih _ (Nat.max_eq_left (by omega)).symm
end EY
