-- LEVEL 2, THE CALL RULE, ALL OF IT
section OJ
variable {N : Nat} {S : kS} {M : mS} {W : sW} {T : sT}
theorem op_rule (hN : 20000 ≤ N) (h : wOk W) (K : kRel S W) (R : mRel M W) (x y z p r w : Int32) : opOk 1 2 3 (pX9_rule N x y z p r w S) (pf_rule N x y z p r w M) := by
  obtain ⟨x, h1, h2, rfl⟩ := zI_of x
  obtain ⟨y, h3, h4, rfl⟩ := zI_of y
  obtain ⟨z, h5, h6, rfl⟩ := zI_of z
  obtain ⟨p, h7, h8, rfl⟩ := zI_of p
  obtain ⟨r, h9, h10, rfl⟩ := zI_of r
  obtain ⟨w, h11, h12, rfl⟩ := zI_of w
  have hlen := h.2.2.2.1.2.1
  have hn250 := h.2.2.2.1.1
  simp only [pX9_rule, pf_rule, pf_rule_43, pf_rule_81, sv_i]
  obtain ⟨M', R', f, ⟨q, e⟩ | ⟨m, hm, rfl, e, L, -⟩⟩ := w_isAt (N := N) hN h (mRel_0 (v := (0 : Int32)) R) h1 h2 h3 h4
  · rw [e, bd_i, il_B, if_neg (by decide), fails_i, bd_i, g_masterNo h1 h2 q, bx_r]
    exact opOk_x rfl rfl (Or.inl ⟨rfl, thr_k⟩) h K (mRel_0 R')
  · have Q := kRel_t h K hm
    have no1 : ∀ {A : Option ((Int32 ⊕ Nat) × kS)}, A = some (.inr 1, S) → opOk 1 2 3 A (bd (pf_fails N 1 M') fun v1 S2 => some (v1, S2)) := fun hA => by
      rw [fails_i, bd_i]
      exact opOk_x hA rfl (Or.inl ⟨rfl, thr_k⟩) h K (mRel_0 R')
    have no : ∀ {A : Option ((Int32 ⊕ Nat) × kS)}, A = some (.inr 3, S) → opOk 1 2 3 A (bd (pf_fails N 3 M') fun v1 S2 => some (v1, S2)) := fun hA => by
      rw [fails_i, bd_i]
      exact opOk_x hA rfl (Or.inr (Or.inr ⟨rfl, thr_k⟩)) h K (mRel_0 R')
    have z1 : (zI z = (-1 : Int32)) ↔ z = -1 := by rw [zL_m1, zI_eq h5 h6 (by omega) (by omega)]
    rw [e, bd_i, il_B, g_master hm, bx_l, gn_l hm, g_entry Q h3 h4]
    by_cases hl : tLv (wTr W m) y = true
    · have hy := tLv_lt hl
      obtain ⟨e1, rfl⟩ : ∃ e1 : Nat, y = e1 := ⟨y.toNat, by omega⟩
      have he : e1 < 48 := by omega
      have ht := tLv_th he hl
      rw [if_pos hl, if_pos hl, bx_l, zL_100, il_lt h5 h6 (by omega) (by omega)]
      rcases r_subjectOf (N := N) L.1 h5 h6 with ⟨s, hs, hsz, es, hc⟩ | ⟨es, hz, hc⟩
      · have cls : ∀ A : kS → Option ((Int32 ⊕ Nat) × kS), (if z < 100 then (if zI z = -1 then A S else bx (pX9_needUser N (zI z) S) fun v107 S108 => A S108) else bx (pX9_needEntry N m (zI z - zI 100) S) fun v110 S111 => A S111) = A S := fun A => by
          rcases hc with g | ⟨g1, g2, g3, g4⟩ | ⟨g1, g2⟩
          · rw [if_pos (by omega), if_pos (z1.mpr g)]
          · rw [if_pos g1, if_neg (fun g => g2 (z1.mp g)), g_user h5 h6, if_pos ⟨g3, g4⟩, bx_l]
          · rw [if_neg (by omega), zI_sub, g_entry Q (by omega) (by omega), if_pos g2, bx_l]
        rw [cls (fun S' => pX9_rule_40 N (zI (e1 : Nat)) (zI z) (zI p) (zI r) (zI w) m S'), es, bd_i, if_neg (show ¬ zI (s : Nat) = (-1 : Int32) by rw [zL_m1, zI_eq (by omega) (by omega) (by omega) (by omega)]; omega)]
        simp only [pX9_rule_40, pX9_rule_61, pX6_slot, svk_i, bk_i]
        have ep : pf_in N (zI p) 0 2 = some (zB (decide (0 ≤ p) && decide (p ≤ 2))) := r_in (a := 0) (b := 2) h7 h8 (by omega) (by omega) (by omega) (by omega)
        have er : pf_in N (zI r) 0 1 = some (zB (decide (0 ≤ r) && decide (r ≤ 1))) := r_in (a := 0) (b := 1) h9 h10 (by omega) (by omega) (by omega) (by omega)
        have ew : pf_in N (zI w) 0 2 = some (zB (decide (0 ≤ w) && decide (w ≤ 2))) := r_in (a := 0) (b := 2) h11 h12 (by omega) (by omega) (by omega) (by omega)
        rw [ep, bs_i, il_B, er, bs_i, il_B, ew, bs_i, il_B, g_scope h7 h8]
        by_cases q1 : 0 ≤ p ∧ p < 3
        · rw [if_pos q1, bx_l, if_pos (in_yes (by omega)), g_right h9 h10]
          by_cases q2 : 0 ≤ r ∧ r < 2
          · have w0 : (zI w < (0 : Int32)) ↔ w < 0 := by rw [zL_0, zI_lt h11 h12 (by omega) (by omega)]
            have w2 : (zI w ≤ (2 : Int32)) ↔ w ≤ 2 := by rw [zL_2, zI_le h11 h12 (by omega) (by omega)]
            rw [if_pos q2, bx_l, if_pos (in_yes (by omega))]
            by_cases q3 : 0 ≤ w ∧ w ≤ 2
            · obtain ⟨p', rfl⟩ : ∃ p' : Nat, p = p' := ⟨p.toNat, by omega⟩
              obtain ⟨r', rfl⟩ : ∃ r' : Nat, r = r' := ⟨r.toNat, by omega⟩
              obtain ⟨w', rfl⟩ : ∃ w' : Nat, w = w' := ⟨w.toNat, by omega⟩
              rw [if_neg (fun g => by have := w0.mp g; omega), if_pos (w2.mpr q3.2), if_pos (in_yes q3), g_room K.2.2.2.2.1.1 (by omega), r_isFull R' h, bd_i, il_B, hlen]
              by_cases q4 : wN W < 250
              · rw [if_pos q4, bx_l, decide_eq_false (show ¬ wN W = 250 by omega), if_neg (by decide), g_write (by omega) h K hm (by omega) (by omega), r_mayWrite (by omega) h R' hm L (by omega) (by omega), bd_i, il_B]
                by_cases q5 : tMay (wH W) (wTr W m) (wU W m) (e1 : Int) 1 = true
                · have c0 := mk_of (Y := (w' : Int)) h hm q4 (K := 6) (E := e1) (X := ((6 * s + 2 * p' + r' : Nat) : Int)) (by omega) (by omega) ht he (fun a b => by omega) (fun e => by omega) (fun e => by omega) (fun _ => ⟨by omega, by omega, by omega, by omega⟩) (fun e => by omega) (fun e => by omega)
                  obtain ⟨v1, S1, v2, U1⟩ := k_new (N := N) (c := wCh W m 6 e1 ((6 * s + 2 * p' + r' : Nat) : Int) (w' : Int)) (x := (((e1 * 3 + p') * 2 + r' : Nat) : Int)) (y := z) (z := (w' : Int)) K (by show ¬ 6 = 0; omega) (fun a b => absurd b (by show ¬ 6 ≤ 3; omega)) (fun e => absurd e (by show ¬ (6 = 4 ∨ 6 = 5 ∨ 6 = 7); omega)) (fun _ => ⟨s, p', r', hs, by omega, by omega, rfl, rfl, hsz.symm, rfl⟩)
                  obtain ⟨S2, v3, K2⟩ := k_made (N := N) (by omega) h U1 hm q4 c0
                  obtain ⟨M2, v4, R2, v5⟩ := m_made (N := N) (c := wCh W m 6 e1 ((6 * s + 2 * p' + r' : Nat) : Int) (w' : Int)) (x := ((6 * s + 2 * p' + r' : Nat) : Int)) (y := (w' : Int)) (z := 0) (by omega) h R' hm q4 (by show ¬ 6 = 0; omega) c0 (Or.inl rfl) (fun _ => rfl)
                  have W2 := w_made h hm q4 (by show ¬ 6 = 0; omega) c0
                  have v2 : pX0_init N (kn S) (6 : Int32) (zI (e1 : Nat)) (zI (((e1 * 3 + p') * 2 + r' : Nat) : Int)) (zI z) (zI (w' : Nat)) (nU S) = some ((), S1) := by rw [K.2.2.2.1.1]; exact v2
                  have v3 : pX9_record N m (kn S) S1 = some (.inl (), S2) := by rw [K.2.2.2.1.1]; exact v3
                  have v4 : pf_makes N (zI (m : Nat)) (6 : Int32) (zI (e1 : Nat)) (zI ((6 * s + 2 * p' + r' : Nat) : Int)) (zI (w' : Nat)) 0 M' = some (zI (wN W : Nat), M2) := v4
                  have gn : ∀ {γ : Type} (A : Option γ), gNew S A = A := fun A => if_pos v1
                  have sd := q_saidOf (N := N) Q (e := e1) (p := p') (r := r') (s := s) he (by omega) (by omega) hs
                  rw [hsz] at sd
                  have sl : (((zI (e1 : Nat) * 3) + zI (p' : Nat)) * 2) + zI (r' : Nat) = zI (((e1 * 3 + p') * 2 + r' : Nat) : Int) := by
                    rw [zL_3, zL_2]; simp only [zI_mul, zI_add]; congr 1
                  have sy : ((6 * zI (s : Nat)) + (2 * zI (p' : Nat))) + zI (r' : Nat) = zI ((6 * s + 2 * p' + r' : Nat) : Int) := by
                    rw [zL_6, zL_2]; simp only [zI_mul, zI_add]; congr 1
                  have s3 : (330 * zI (e1 : Nat)) + zI ((6 * s + 2 * p' + r' : Nat) : Int) = zI ((330 * e1 + (6 * s + 2 * p' + r') : Nat) : Int) := by
                    rw [zL_330]; simp only [zI_mul, zI_add]; congr 1
                  rw [if_pos q5, bx_l, if_pos q5, sl, sd, bk_i, gn, v2, bk_i, v3, bx_l, es, bd_i]
                  simp only [nm_i]
                  rw [sy, s3, gd_n (by omega) (by omega), zI_cn (by omega), L.1.2.2.2.2.2.2.2 e1 _ he (by omega), v4, bd_i]
                  exact opOk_v rfl rfl (by rw [v5]; exact thr_0 f) W2 K2 R2
                · rw [if_neg q5, bx_r, if_neg q5]
                  exact no rfl
              · rw [if_neg q4, bx_r, decide_eq_true (show wN W = 250 by omega), if_pos rfl]
                exact no rfl
            · rw [if_neg (in_no q3), fails_i, bd_i]
              by_cases q6 : w < 0
              · rw [if_pos (w0.mpr q6)]
                exact opOk_x rfl rfl (Or.inr (Or.inl ⟨rfl, thr_k⟩)) h K (mRel_0 R')
              · rw [if_neg (fun g => q6 (w0.mp g)), if_neg (fun g => by have := w2.mp g; omega)]
                exact opOk_x rfl rfl (Or.inr (Or.inl ⟨rfl, thr_k⟩)) h K (mRel_0 R')
          · rw [if_neg q2, bx_r, if_neg (in_no (by omega))]
            exact no1 rfl
        · rw [if_neg q1, bx_r, if_neg (in_no (by omega))]
          exact no1 rfl
      · rw [es, bd_i, if_pos rfl]
        rcases hc with ⟨g1, g2⟩ | ⟨g1, g2⟩
        · rw [if_pos g1, if_neg (fun g => hz (z1.mp g)), g_user h5 h6, if_neg g2, bx_r]
          exact no1 rfl
        · rw [if_neg (by omega), zI_sub, g_entry Q (by omega) (by omega), if_neg g2, bx_r]
          exact no1 rfl
    · rw [if_neg hl, if_neg hl, bx_r]
      exact no1 rfl
end OJ
