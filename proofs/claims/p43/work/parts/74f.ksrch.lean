-- LEVEL 2, THE CLASS'S CALLS ALONE: SEARCH, WALK, FOLLOW
section KF2
variable {N : Nat} {S : kS} {W : sW} {m b sc : Nat}
theorem k_needS (h : wOk W) (K : kRel S W) (hm : m < 4) (hb : b < 48) (hsc : sc < 3) (hK1 : (wK W).length = 1) : pX9_needSearch N (zI (m : Nat)) (zI (b : Nat)) (zI (sc : Nat)) S = if tLv (wTr W m) (b : Nat) = true then some (.inl (), S) else some (.inr 1, S) := by
  have Q := kRel_t h K hm
  have f2 := K.2.2.1.2.1
  simp only [pX9_needSearch]
  rw [g_master hm, bx_l, gn_l hm, g_entry Q (by omega) (by omega)]
  by_cases g : tLv (wTr W m) (b : Nat) = true
  · rw [if_pos g, bx_l, g_scope (by omega) (by omega), if_pos (show (0 : Int) ≤ (sc : Int) ∧ (sc : Int) < 3 by omega), bx_l, f2, hK1, if_pos (show zI ((1 : Nat) : Int) = (1 : Int32) from rfl)]
  · rw [if_neg g, bx_r]
theorem k_noS (h : wOk W) (K : kRel S W) (hm : m < 4) (hb : b < 48) (hsc : sc < 3) (hK1 : (wK W).length = 1) (hl : ¬ tLv (wTr W m) (b : Nat) = true) : kNo (pX9_search N (zI (m : Nat)) (zI (b : Nat)) (zI (sc : Nat)) S) 1 W ∧ kNo (pX9_searchByWalk N (zI (m : Nat)) (zI (b : Nat)) (zI (sc : Nat)) S) 1 W ∧ kNo (pX9_follow N (zI (m : Nat)) (zI (b : Nat)) (zI (sc : Nat)) S) 1 W := by
  have hp := k_needS (N := N) h K hm hb hsc hK1
  rw [if_neg hl] at hp
  refine ⟨?_, ?_, ?_⟩
  · simp only [pX9_search]
    rw [hp, bx_r]
    exact ⟨S, rfl, h, K⟩
  · simp only [pX9_searchByWalk]
    rw [hp, bx_r]
    exact ⟨S, rfl, h, K⟩
  · simp only [pX9_follow]
    rw [hp, bx_r]
    exact ⟨S, rfl, h, K⟩
theorem k_search (hN : 20000 ≤ N) (h : wOk W) (K : kRel S W) (hm : m < 4) (hb : b < 48) (hsc : sc < 3) (hK1 : (wK W).length = 1) (hl : tLv (wTr W m) (b : Nat) = true) : kOk (pX9_search N (zI (m : Nat)) (zI (b : Nat)) (zI (sc : Nat)) S) ((fL W m sc b 48).length : Nat) (wFd W (fL W m sc b 48)) := by
  have hp := k_needS (N := N) h K hm hb hsc hK1
  rw [if_pos hl] at hp
  simp only [pX9_search, pX3_byIndex, svk_i]
  have hU := K.2.2.2.2.2.2.1 m hm
  rw [hp, bx_l, gm_n hm, gm_n hm, hU]
  generalize hS2 : sI (sI S 10 (zI (wU W m : Nat))) 8 0 = S2
  have i2 : ∀ q, q ≠ 8 → q ≠ 10 → kI S2 q = kI S q := fun q h1 h2 => by rw [← hS2, kI_sI, upd_o _ _ h1, kI_sI, upd_o _ _ h2]
  have a2 : kA S2 = kA S := by rw [← hS2]; rfl
  have j2 : kJ S2 = kJ S := by rw [← hS2]; rfl
  have l2 : kL S2 = kL S := by rw [← hS2]; rfl
  have d2 : S2.2.2.2.2 = S.2.2.2.2 := by rw [← hS2]; rfl
  have u2 : kI S2 10 = zI (wU W m : Nat) := by rw [← hS2, kI_sI, upd_o _ _ (by omega), kI_sI, upd_s]
  have z2 : kI S2 8 = zI (([] : List Nat).length : Nat) := by rw [← hS2, kI_sI, upd_s]; rfl
  have K2 : kRel S2 (wFd W []) := kRel_F K (fun q hq => i2 q (by omega) (by omega)) (fun c _ _ => by rw [a2]) (fun c _ => by rw [j2]) l2 d2 ⟨z2, fun i hi => absurd hi (Nat.not_lt_zero i)⟩
  have hF0 : wOk (wFd W []) := wFd_ok h (Nat.zero_le _) (fun s hs => absurd hs List.not_mem_nil)
  obtain ⟨w, S3, c1, c2, c3⟩ := q_appliesTo (N := N) (W := wFd W []) (by omega) hF0 (kRel_t hF0 K2 hm) K2.1 K2.2.2.1 hK1
  have K3 : kRel S3 (wFd W (fL W m sc b 0)) := kRel_F (W := wFd W []) K2 (fun q _ => by rw [c2.2.2.2.1]) (fun c _ _ => by rw [c2.2.1]) (fun c hc => c2.1 c (by omega)) c2.2.2.1 c2.2.2.2.2 ⟨by rw [c2.2.2.2.1]; exact z2, fun i hi => absurd hi (Nat.not_lt_zero i)⟩
  obtain ⟨S4, e1, e2⟩ := q_byIndex_43 (N := N) hN h hm hsc hb c3 N 48 0 S3 (by omega) (by omega) K3 (by rw [c2.2.2.2.1]; exact u2)
  have e1 : pX3_byIndex_43 N (pX3_byIndex_118 N) N (zI (m : Nat)) (zI (b : Nat)) (zI (sc : Nat)) m w 0 S3 = _ := e1
  have hlen := fL_len (W := W) (m := m) (sc := sc) (b := b) 48
  rw [c1, bk_i, e1, bk_i]
  exact ⟨S4, rfl, wFd_ok h (by omega) (fL_lt hm (by omega)), e2⟩
theorem k_walk (hN : 20000 ≤ N) (h : wOk W) (K : kRel S W) (hm : m < 4) (hb : b < 48) (hsc : sc < 3) (hK1 : (wK W).length = 1) (hl : tLv (wTr W m) (b : Nat) = true) : kOk (pX9_searchByWalk N (zI (m : Nat)) (zI (b : Nat)) (zI (sc : Nat)) S) (fb_ct (fnd W m sc b) 48 : Nat) W := by
  have hp := k_needS (N := N) h K hm hb hsc hK1
  rw [if_pos hl] at hp
  have Q := kRel_t h K hm
  have s1 : (zI (sc : Nat) = (1 : Int32)) ↔ sc = 1 := by rw [zL_1, zI_eq (by omega) (by omega) (by omega) (by omega)]; omega
  have f0 : ∀ p : Nat → Bool, (∀ e, p e = false) → fb_ct p 48 = 0 := fun p hp => fb_ct_zero.mpr (fun k _ => hp k)
  have go : ∀ (A : Nat → Bool) (w : Int64), wkI (wTr W m) sc b A (fun _ => false) → (∀ e, e < 64 → lb w e = (decide (e < 48) && A e)) → pX3_byWalk_28 N w (zI (m : Nat)) (zI (sc : Nat)) m S = some (zI (fb_ct (fnd W m sc b) 48 : Nat), S) := fun A w I hw => by
    have := q_byWalk_36 (N := N) hN h K hm hsc hb hK1 N 48 A (fun _ => false) w (by rw [f0 _ (fun _ => rfl)]) (by omega) I hw
    rw [f0 (fun e => false && fit W m e) (fun _ => rfl), f0 (fun _ => false) (fun _ => rfl)] at this
    simp only [pX3_byWalk_28]
    exact this
  have cls : pX3_byWalk N (zI (m : Nat)) (zI (b : Nat)) (zI (sc : Nat)) S = some (zI (fb_ct (fnd W m sc b) 48 : Nat), S) := by
    simp only [pX3_byWalk]
    rw [gm_n hm]
    by_cases q1 : sc = 1
    · obtain ⟨cw, c1, c2⟩ := q_childrenAt (N := N) Q (by omega) (place := (b : Int)) (by omega) (by omega)
      rw [if_pos (s1.mpr q1), c1, bk_i]
      have hs : ∀ e, scp (wTr W m) sc b e = decide (tPl (wTr W m) e = (b : Int)) := fun e => by
        unfold scp
        rw [if_neg (by omega), if_pos q1]
      refine go (fun e => tCh (wTr W m) (b : Nat) e) cw ⟨fun e he g => ?_, fun e he g1 g2 => Bool.noConfusion g2, fun _ e he g1 g2 => Or.inl ?_, fun g => absurd g (by omega)⟩ (fun e he => ?_)
      · rcases g with g | g
        · have g : tCh (wTr W m) (b : Nat) e = true := g
          unfold tCh at g
          rw [Bool.and_eq_true] at g
          exact ⟨g.1, by rw [hs]; exact g.2⟩
        · exact Bool.noConfusion g
      · show tCh (wTr W m) (b : Nat) e = true
        unfold tCh
        rw [g1, ← hs, g2]; rfl
      · rw [c2 e he]
        by_cases g : 1 ≤ e
        · rw [decide_eq_true g, Bool.true_and]
        · have : e = 0 := by omega
          subst this
          have : tCh (wTr W m) (b : Nat) 0 = false := by
            unfold tCh
            rw [show tPl (wTr W m) ((0 : Nat) : Int) = -1 from rfl, decide_eq_false (by omega), Bool.and_false]
          rw [this, decide_eq_false g, Bool.false_and, Bool.and_false]
    · rw [if_neg (fun g => q1 (s1.mp g))]
      refine go (fun e => decide (e = b)) _ ⟨fun e he g => ?_, fun e he g1 g2 => Bool.noConfusion g2, fun g e he g1 g2 => Or.inl ?_, fun g => ⟨Or.inl (decide_eq_true rfl), fun e he g1 g2 hne => ?_⟩⟩ (fun e he => ?_)
      · rcases g with g | g
        · have g := of_decide_eq_true g
          rw [g]
          refine ⟨hl, ?_⟩
          unfold scp
          by_cases q0 : sc = 0
          · rw [if_pos q0, decide_eq_true rfl]
          · rw [if_neg q0, if_neg q1]
            exact (pCome_iff (by omega) 48 (b : Int)).mpr ⟨0, by omega, rfl⟩
        · exact Bool.noConfusion g
      · unfold scp at g2
        rw [if_pos (by omega)] at g2
        exact g2
      · constructor
        · rintro ⟨-, k⟩; exact Bool.noConfusion k
        · rintro (k | k)
          · exact absurd (of_decide_eq_true k) hne
          · exact Bool.noConfusion k
      · rw [lb_shl1 (by omega) he]
        by_cases g : e < 48
        · rw [decide_eq_true g, Bool.true_and]
        · rw [decide_eq_false g, Bool.false_and, decide_eq_false (by omega)]
  simp only [pX9_searchByWalk]
  rw [hp, bx_l, cls, bk_i]
  exact ⟨S, rfl, h, K⟩
theorem k_follow (hN : 20000 ≤ N) (h : wOk W) (K : kRel S W) (hm : m < 4) (hb : b < 48) (hsc : sc < 3) (hK1 : (wK W).length = 1) (hl : tLv (wTr W m) (b : Nat) = true) : kOk (pX9_follow N (zI (m : Nat)) (zI (b : Nat)) (zI (sc : Nat)) S) ((flF W m sc b).length : Nat) (wFd W (flF W m sc b)) := by
  have hp := k_needS (N := N) h K hm hb hsc hK1
  rw [if_pos hl] at hp
  obtain ⟨S1, a1, a2⟩ := q_byLinks (N := N) hN h K hm hb hsc hK1
  have ok := lpF_ok h (u := wU W m) (sc := sc) 192 _ _ _ (fJ_base (u := wU W m) (sc := sc) h hm hb)
  have hW : wOk (wFd W (flF W m sc b)) := wFd_ok h ok.1 ok.2
  simp only [pX9_follow]
  rw [hp, bx_l, a1, bk_i]
  exact ⟨S1, rfl, hW, a2⟩
end KF2
