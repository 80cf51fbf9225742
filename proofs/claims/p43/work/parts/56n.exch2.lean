-- LEVEL 2, THE CALL EXCHANGE: THE CLASS AND THE REFERENCE
section EY
variable {N : Nat} {S : kS} {W : sW} {g r : Nat}
theorem q_exchange_46 (h : wOk W) (K : kRel S W) (hg : g < 4) (hr : r < 4) (hgr : g ≠ r) {most : Nat} (hm : most ≤ 250) {k114 : Nat → Nat → Int32 → kS → Option ((Int32 ⊕ Nat) × kS)} : ∀ (n k i : Nat) (S' : kS) (tl : Nat → Nat → Nat) (c : Nat), i + k = (wO W).length → k < n → c ≤ i → frM r S S' → tdR S' r tl → kI S' (18 + 4 * r) = zI (gst tl r (wC W) (wN W) : Nat) → (c < most → exI W g r i tl) → ∃ S2, pX9_exchange_46 N k114 n (zI (most : Nat)) g r (zI (c : Nat)) (zI (i : Nat)) S' = k114 g r (zI ((exT (wC W) (wT W g) g r most ((wO W).drop i) tl c).2 : Nat)) S2 ∧ frM r S S2 ∧ tdR S2 r (exT (wC W) (wT W g) g r most ((wO W).drop i) tl c).1 ∧ kI S2 (18 + 4 * r) = zI (gst (exT (wC W) (wT W g) g r most ((wO W).drop i) tl c).1 r (wC W) (wN W) : Nat)
  | 0, k, i, S', tl, c, hk, hn, hc, f, R, G, I => by omega
  | n + 1, k, i, S', tl, c, hk, hn, hc, f, R, G, I => by
    obtain ⟨g1, g2, g3, ⟨ar, g4⟩, g5, g6, g7, g8, g9, g10⟩ := id h.2.2.2.1
    have L' : lgR S' (wO W) := lgR_fr (f.1 12 (by omega)) f.2.2.2.2 K.2.2.2.2.1.1
    simp only [pX9_exchange_46, pX9_exchange_108, nm_i]
    rw [q_logSize L', bk_i, il_le (by omega) (by omega) (by omega) (by omega), il_le (by omega) (by omega) (by omega) (by omega)]
    cases k with
    | zero =>
      rw [if_pos (by omega), List.drop_eq_nil_of_le (by omega)]
      exact ⟨S', rfl, f, R, G⟩
    | succ k =>
      have hi : i < (wO W).length := by omega
      have hmem : (wO W)[i] ∈ wO W := List.getElem_mem hi
      have hkn := (g3 _).mp hmem
      have hco := (g4.2 _ hmem).1
      rw [if_neg (by omega)]
      by_cases q : most ≤ c
      · rw [if_pos (by omega), exT_full q]
        exact ⟨S', rfl, f, R, G⟩
      · have I := I (by omega)
        have C' : cRS S' (wO W)[i] (wC W (wO W)[i]) := cRS_D f.2.2.2.2 (K.2.2.2.1.2 _ hkn)
        have Rg : tdR S' g (wT W g) := tdR_fr (f.1 _ (by omega)) (f.2.1 _ (by omega)) (K.2.2.2.2.2.1 g hg)
        have ek : zI (i : Nat) + 1 = zI ((i + 1 : Nat) : Int) := by rw [zL_1, zI_add]; congr 1
        have ec : zI (c : Nat) + 1 = zI ((c + 1 : Nat) : Int) := by rw [zL_1, zI_add]; congr 1
        have dr : (wO W).drop i = (wO W)[i] :: (wO W).drop (i + 1) := List.drop_eq_getElem_cons hi
        rw [if_neg (by omega), q_logGet L' hi, bk_i, gn_l C'.1, q_hasGot Rg hg C' hco, bk_i, il_B, dr]
        unfold exT
        by_cases a1 : gotB (wT W g) g (wC W (wO W)[i]) = true
        · rw [if_pos a1, q_hasGot R hr C' hco, bk_i, il_B]
          by_cases a2 : gotB tl r (wC W (wO W)[i]) = true
          · rw [if_pos a2, if_neg (fun x => by rw [a2] at x; exact Bool.noConfusion x.2.2), ek]
            exact q_exchange_46 h K hg hr hgr hm n k (i + 1) S' tl c (by omega) (by omega) (by omega) f R G (fun _ => ex_inv hi I (fun _ => Nat.le_refl _) (fun _ => a2))
          · have a2 := Bool.eq_false_iff.mpr a2
            have hnum := ex_num h hi I a1 a2
            have gl := gst_learn (tl := tl) (r := r) g8 hkn hnum
            have gle : gst tl r (wC W) (wN W) ≤ 250 := gst_le _ (fun k hk _ => by have := (g9 k hk).2; omega)
            obtain ⟨S3, l1, l2, l3, l4⟩ := q_learn (N := N) R hr G gle C' hco
            rw [a2, if_neg (by decide), l1, bk_i, if_pos ⟨by omega, a1, rfl⟩, ek, ec]
            have lt2 := gotB_no.mp a2
            exact q_exchange_46 h K hg hr hgr hm n k (i + 1) S3 _ (c + 1) (by omega) (by omega) (by omega) (f.trans l4) l2 (by rw [gl]; exact l3) (fun _ => ex_inv hi I (fun b => by
              by_cases e : b = cM (wC W (wO W)[i])
              · rw [e, up2_s]; omega
              · rw [up2_o _ _ (fun x => e x.2)]; exact Nat.le_refl _) (fun _ => by rw [gotB_iff, up2_s]; omega))
        · rw [if_neg a1, if_neg (fun x => a1 x.2.1), ek]
          exact q_exchange_46 h K hg hr hgr hm n k (i + 1) S' tl c (by omega) (by omega) (by omega) f R G (fun _ => ex_inv hi I (fun _ => Nat.le_refl _) (fun x => absurd x a1))
end EY
