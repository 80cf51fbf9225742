-- LEVEL 2, THE CALL LINK, ALL OF IT
section OG
variable {N : Nat} {S : kS} {M : mS} {W : sW}
theorem op_link (hN : 20000 ≤ N) (h : wOk W) (K : kRel S W) (R : mRel M W) (x y z : Int32) : opOk 1 3 0 (pX9_link N x y z S) (pf_link N x y z M) := by
  obtain ⟨x, h1, h2, rfl⟩ := zI_of x
  obtain ⟨y, h3, h4, rfl⟩ := zI_of y
  obtain ⟨z, h5, h6, rfl⟩ := zI_of z
  have R0 := mRel_0 (v := (0 : Int32)) R
  have z1 : (zI z = (-1 : Int32)) ↔ z = -1 := by rw [zL_m1, zI_eq h5 h6 (by omega) (by omega)]
  have e1 : pf_in N (zI z) 100 103 = some (zB (decide (100 ≤ z) && decide (z ≤ 103))) := r_in (a := 100) (b := 103) h5 h6 (by omega) (by omega) (by omega) (by omega)
  -- the reference, when the class says no at once
  have bad : ∀ {A : Option ((Int32 ⊕ Nat) × kS)}, A = some (.inr 1, S) → (∀ m : Nat, m < 4 → x = m → tLv (wTr W m) y = true → y ≠ 0 → False) → opOk 1 3 0 A (pf_link N (zI x) (zI y) (zI z) M) := fun hA hno => by
    simp only [pf_link, sv_i]
    by_cases q : z = -1
    · rw [if_pos (z1.mpr q)]
      exact link_no (t := true) hN h K R0 h1 h2 h3 h4 hA (fun m a b c d => (hno m a b c d).elim)
    · rw [if_neg (fun g => q (z1.mp g)), e1, bs_i, il_B]
      by_cases q2 : 100 ≤ z ∧ z ≤ 103
      · rw [if_pos (in_yes q2)]
        exact link_no (t := true) hN h K R0 h1 h2 h3 h4 hA (fun m a b c d => (hno m a b c d).elim)
      · rw [if_neg (in_no q2)]
        obtain ⟨M', R', f, ⟨-, e⟩ | ⟨m, hm, -, e, L, -⟩⟩ := w_isAt (N := N) hN h R0 h1 h2 h5 h6
        · rw [e, bd_i, il_B, if_neg (by decide)]
          exact link_no (t := false) hN h K R' h1 h2 h3 h4 hA (fun m a b c d => rfl)
        · rw [e, bd_i, il_B]
          split
          · exact link_no (t := true) hN h K R' h1 h2 h3 h4 hA (fun m a b c d => (hno m a b c d).elim)
          · exact link_no (t := false) hN h K R' h1 h2 h3 h4 hA (fun m a b c d => rfl)
  by_cases qm : 0 ≤ x ∧ x < 4
  · obtain ⟨m, rfl⟩ : ∃ m : Nat, x = m := ⟨x.toNat, by omega⟩
    have hm : m < 4 := by omega
    have Q := kRel_t h K hm
    by_cases hl : y ≠ 0 ∧ tLv (wTr W m) y = true
    · have hy := tLv_lt hl.2
      obtain ⟨e0, rfl⟩ : ∃ e0 : Nat, y = e0 := ⟨y.toNat, by omega⟩
      have he1 : 1 ≤ e0 := by have := hl.1; omega
      simp only [pX9_link, pX9_link_30, pf_link, sv_i]
      rw [g_master hm, bx_l, gn_l hm, g_changeable Q h3 h4, if_pos hl, bx_l]
      by_cases q : z = -1
      · rw [if_pos (z1.mpr q), if_pos (z1.mpr q)]
        exact link_yes hN h K R0 thr_k hm hl.2 he1 (by omega) (by omega)
      · rw [if_neg (fun g => q (z1.mp g)), if_neg (fun g => q (z1.mp g)), zL_100, il_lt h5 h6 (by omega) (by omega), zL_104, il_lt h5 h6 (by omega) (by omega)]
        have e1 : pf_in N (zI z) (zI 100) 103 = _ := e1
        rw [e1, bs_i, il_B]
        by_cases q2 : 100 ≤ z ∧ z ≤ 103
        · rw [if_neg (by omega), if_pos (by omega), if_pos (in_yes q2)]
          exact link_yes hN h K R0 thr_k hm hl.2 he1 (by omega) (by omega)
        · rw [if_neg (in_no q2)]
          have cls : (if z < 100 then bx (pX9_needEntry N m (zI z) S) fun v101 S102 => pX9_link_36 N (zI (e0 : Nat)) (zI z) m S102 else if z < 104 then pX9_link_36 N (zI (e0 : Nat)) (zI z) m S else bx (pX9_needEntry N m (zI z) S) fun v101 S102 => pX9_link_36 N (zI (e0 : Nat)) (zI z) m S102) = if tLv (wTr W m) z = true then pX9_link_36 N (zI (e0 : Nat)) (zI z) m S else some (.inr 1, S) := by
            have one : (bx (pX9_needEntry N m (zI z) S) fun v101 S102 => pX9_link_36 N (zI (e0 : Nat)) (zI z) m S102) = if tLv (wTr W m) z = true then pX9_link_36 N (zI (e0 : Nat)) (zI z) m S else some (.inr 1, S) := by
              rw [g_entry Q h5 h6]
              by_cases g : tLv (wTr W m) z = true
              · rw [if_pos g, if_pos g, bx_l]
              · rw [if_neg g, if_neg g, bx_r]
            by_cases g : z < 100
            · rw [if_pos g]; exact one
            · rw [if_neg g, if_neg (by omega)]; exact one
          rw [cls]
          obtain ⟨M', R', f, ⟨q4, e⟩ | ⟨m', hm', em, e, L, -⟩⟩ := w_isAt (N := N) hN h R0 (x := (m : Int)) h1 h2 h5 h6
          · omega
          · have : m' = m := by omega
            subst this
            rw [e, bd_i, il_B]
            by_cases g : tLv (wTr W m') z = true
            · have hz := tLv_lt g
              rw [if_pos g, if_pos g]
              exact link_yes hN h K R' (thr_0 f) hm hl.2 he1 (by omega) (by omega)
            · rw [if_neg g, if_neg g]
              exact link_no (t := false) hN h K R' h1 h2 h3 h4 rfl (fun m a b c d => rfl)
    · refine bad ?_ (fun m2 a b c d => ?_)
      · simp only [pX9_link]
        rw [g_master hm, bx_l, gn_l hm, g_changeable Q h3 h4, if_neg hl, bx_r]
      · have : m2 = m := by omega
        subst this
        exact hl ⟨d, c⟩
  · refine bad ?_ (fun m2 a b c d => by omega)
    simp only [pX9_link]
    rw [g_masterNo h1 h2 qm, bx_r]
end OG
