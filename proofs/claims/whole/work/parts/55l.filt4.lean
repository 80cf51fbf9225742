-- LEVEL 2, CALLS: COMBINE, NOT
section O7
variable {N : Nat} {S : kS} {M : mS} {W : sW}
theorem last2 {l : List Nat} (h : 2 ≤ l.length) : ∃ F x y, l = F ++ [x, y] := by
  refine ⟨l.take (l.length - 2), l[l.length - 2], l[l.length - 1], ?_⟩
  have e : l = l.take (l.length - 2) ++ l.drop (l.length - 2) := (List.take_append_drop _ _).symm
  have d : l.drop (l.length - 2) = [l[l.length - 2], l[l.length - 1]] := by
    rw [List.drop_eq_getElem_cons (by omega), List.drop_eq_getElem_cons (by omega)]
    have e2 : l.length - 2 + 1 = l.length - 1 := by omega
    simp only [e2]
    rw [List.drop_eq_nil_of_le (by omega)]
  rw [d] at e
  exact e
theorem last1 {l : List Nat} (h : 1 ≤ l.length) : ∃ F x, l = F ++ [x] := by
  refine ⟨l.take (l.length - 1), l[l.length - 1], ?_⟩
  have e : l = l.take (l.length - 1) ++ l.drop (l.length - 1) := (List.take_append_drop _ _).symm
  have d : l.drop (l.length - 1) = [l[l.length - 1]] := by
    rw [List.drop_eq_getElem_cons (by omega), List.drop_eq_nil_of_le (by omega)]
  rw [d] at e
  exact e
theorem op_combine (h : wOk W) (K : kRel S W) (R : mRel M W) (x : Int32) : opOk 3 0 0 (pX9_combine N x S) (pf_combine N x M) := by
  obtain ⟨f1, f2, f3⟩ := K.2.2.1
  obtain ⟨r1, r2, r3, r4⟩ := R.2.2.1
  obtain ⟨p1, p2, p3, -⟩ := h.2.2.1
  simp only [pX9_combine, pX9_combine_23, pX2_putCombined, pX2_putCombined_10, pf_combine, pf_combine_23, pf_combine_55, sv_i]
  rw [f1, f2, r1, r2, zL_15, zL_2, il_lt (by omega) (by omega) (by omega) (by omega), il_lt (by omega) (by omega) (by omega) (by omega), il_lt (by omega) (by omega) (by omega) (by omega), il_eq (by omega) (by omega) (by omega) (by omega)]
  by_cases q1 : (wK W).length < 2
  · rw [if_pos (show ((wK W).length : Int) < 2 by omega), if_pos (show ((wK W).length : Int) < 2 by omega), thr_k, if_neg (by decide)]
    exact opOk_x rfl rfl (Or.inl ⟨rfl, thr_k⟩) h K (mRel_0 R)
  · rw [if_neg (show ¬ ((wK W).length : Int) < 2 by omega), if_neg (show ¬ ((wK W).length : Int) < 2 by omega)]
    by_cases q2 : (wP W).length < 15
    · rw [if_pos (show ((wP W).length : Int) < 15 by omega), if_neg (show ¬ ((wP W).length : Int) = 15 by omega)]
      have t0 : (mI M 0 0).1 0 = 0 := thr_k
      rw [t0, if_pos (show (0 : Int32) ≤ 0 by decide)]
      obtain ⟨F, u, v, hK⟩ := last2 (show 2 ≤ (wK W).length by omega)
      have hlen : (wK W).length = F.length + 2 := by rw [hK, List.length_append]; rfl
      have hu := p3 u (by rw [hK]; simp)
      have hv := p3 v (by rw [hK]; simp)
      have g16 : (mI M 0 0).1 16 = zI ((wK W).length : Nat) := (mRel_0 (v := (0 : Int32)) R).2.2.1.2.1
      rw [g16, zI_sub, show ((wK W).length : Int) - 2 = ((F.length : Nat) : Int) by omega]
      have c16 : (mI (mI M 0 0) 16 (zI (F.length : Nat))).1 16 = zI (F.length : Nat) := by rw [mI_1, upd_s]
      have cu : (mI (mI M 0 0) 16 (zI (F.length : Nat))).2 17 F.length = zI (u : Nat) := by
        have := r4 F.length (by omega)
        have e : (wK W)[F.length]? = some u := by rw [hK, List.getElem?_append_right (Nat.le_refl _), Nat.sub_self]; rfl
        rw [List.getElem?_eq_getElem (by omega)] at e
        rw [Option.some.inj e] at this
        exact this
      have cv : (mI (mI M 0 0) 16 (zI (F.length : Nat))).2 17 (F.length + 1) = zI (v : Nat) := by
        have := r4 (F.length + 1) (by omega)
        have e : (wK W)[F.length + 1]? = some v := by rw [hK, List.getElem?_append_right (by omega), show F.length + 1 - F.length = 1 by omega]; rfl
        rw [List.getElem?_eq_getElem (by omega)] at e
        rw [Option.some.inj e] at this
        exact this
      have hF8 : F.length < 8 := by omega
      rw [c16, show zI (F.length : Nat) + 1 = zI ((F.length + 1 : Nat) : Int) by rw [zL_1, zI_add]; congr 1]
      simp only [gd_n hF8 (show (8 : Nat) < 2147483648 by omega), gd_n (show F.length + 1 < 8 by omega) (show (8 : Nat) < 2147483648 by omega), zI_cn (show F.length < 2147483648 by omega), zI_cn (show F.length + 1 < 2147483648 by omega)]
      rw [cu, cv]
      have fin : ∀ (kk : Nat) (ck : Int), (kk = 4 ∨ kk = 5) → pcK (kk, (u : Int), (v : Int)) = ck → opOk 3 0 0 (bk (bk (pX2_put N (zI ck) 0 0 (-1) S) fun v101 S102 => some (v101, S102)) fun v101 S102 => some (.inl v101, S102)) (bd (pf_puts N (zI (kk : Nat)) (zI (u : Nat)) (zI (v : Nat)) (mI (mI M 0 0) 16 (zI (F.length : Nat)))) fun v1 S2 => some (v1, S2)) := fun kk ck hk hc => by
        have el : pcL (wH W) (kk, (u : Int), (v : Int)) = 0 := by
          unfold pcL
          rw [if_neg (by show ¬ kk ≤ 1; omega), if_neg (by show ¬ kk = 2; omega), if_neg (by show ¬ kk = 3; omega)]
        have eh : pcH (wH W) (kk, (u : Int), (v : Int)) = 0 := by
          unfold pcH
          rw [if_neg (by show ¬ kk = 0; omega), if_neg (by show ¬ kk ≤ 2; omega), if_neg (by show ¬ kk = 3; omega)]
        obtain ⟨w, S', M', W', e1, e2, e3, e4, e5, e6⟩ := f_fin (N := N) (M := mI (mI M 0 0) 16 (zI (F.length : Nat))) (p := (kk, (u : Int), (v : Int))) (F := F) h K (mRel_0 (v := (0 : Int32)) R) q2 hF8 ⟨[u, v], hK⟩ ⟨by show kk ≤ 6; omega, fun e => absurd e (by show ¬ kk ≤ 2; omega), fun e => absurd e (by show ¬ kk = 3; omega), fun _ => ⟨by show (0 : Int) ≤ (u : Int); omega, by show (u : Int) < _; omega, by show (0 : Int) ≤ (v : Int); omega, fun _ => by show (v : Int) < _; omega⟩⟩ ⟨fun e => absurd e (by show ¬ kk ≤ 3; omega), fun e => absurd e (by show ¬ kk = 6; omega), fun _ => hK⟩ (A := pX2_put N (zI ck) 0 0 (-1) S) (B := pf_puts N (zI (kk : Nat)) (zI (u : Nat)) (zI (v : Nat)) (mI (mI M 0 0) 16 (zI (F.length : Nat)))) (by
          rw [show ((F.length + 1 : Nat) : Int) - (((wK W).length : Nat) : Int) = -1 by omega, hc, el, eh]
          rfl) rfl (fun q hq => by rw [mI_1, upd_o _ _ hq]) rfl c16 thr_k
        rw [e1, e2, bk_i, bk_i, bd_i]
        exact opOk_v rfl rfl e3 e4 e5 e6
      by_cases qx : x = 0
      · rw [if_pos qx, if_pos qx]
        exact fin 5 3 (Or.inr rfl) rfl
      · rw [if_neg qx, if_neg qx]
        exact fin 4 2 (Or.inl rfl) rfl
    · rw [if_neg (show ¬ ((wP W).length : Int) < 15 by omega), if_pos (show ((wP W).length : Int) = 15 by omega), thr_k, if_neg (by decide)]
      exact opOk_x rfl rfl (Or.inl ⟨rfl, thr_k⟩) h K (mRel_0 R)
theorem op_not (h : wOk W) (K : kRel S W) (R : mRel M W) : opOk 3 0 0 (pX9_not N S) (pf_not N M) := by
  obtain ⟨f1, f2, f3⟩ := K.2.2.1
  obtain ⟨r1, r2, r3, r4⟩ := R.2.2.1
  obtain ⟨p1, p2, p3, -⟩ := h.2.2.1
  simp only [pX9_not, pX9_not_23, pX2_putNot, pf_not, pf_not_22, sv_i]
  rw [f1, f2, r1, r2, zL_15]
  have z3 : (zI ((wK W).length : Nat) = (0 : Int32)) ↔ (wK W).length = 0 := by rw [zL_0, zI_eq (by omega) (by omega) (by omega) (by omega)]; omega
  have z4 : (zI ((wP W).length : Nat) = zI 15) ↔ (wP W).length = 15 := by rw [zI_eq (by omega) (by omega) (by omega) (by omega)]; omega
  have e1 : (zI ((wK W).length : Nat) < (1 : Int32)) ↔ (wK W).length < 1 := by rw [zL_1, zI_lt (by omega) (by omega) (by omega) (by omega)]; omega
  have e2 : (zI ((wP W).length : Nat) < zI 15) ↔ (wP W).length < 15 := by rw [zI_lt (by omega) (by omega) (by omega) (by omega)]; omega
  by_cases q1 : (wK W).length < 1
  · rw [if_pos (e1.mpr q1), if_pos (z3.mpr (by omega)), thr_k, if_neg (by decide)]
    exact opOk_x rfl rfl (Or.inl ⟨rfl, thr_k⟩) h K (mRel_0 R)
  · rw [if_neg (show ¬ zI ((wK W).length : Nat) < 1 from fun h => q1 (e1.mp h)), if_neg (show ¬ zI ((wK W).length : Nat) = 0 from fun h => q1 (by have := z3.mp h; omega))]
    by_cases q2 : (wP W).length < 15
    · rw [if_pos (e2.mpr q2), if_neg (show ¬ zI ((wP W).length : Nat) = zI 15 from fun h => by have := z4.mp h; omega)]
      have t0 : (mI M 0 0).1 0 = 0 := thr_k
      rw [t0, if_pos (show (0 : Int32) ≤ 0 by decide)]
      obtain ⟨F, u, hK⟩ := last1 (show 1 ≤ (wK W).length by omega)
      have hlen : (wK W).length = F.length + 1 := by rw [hK, List.length_append]; rfl
      have hu := p3 u (by rw [hK]; simp)
      have g16 : (mI M 0 0).1 16 = zI ((wK W).length : Nat) := (mRel_0 (v := (0 : Int32)) R).2.2.1.2.1
      rw [g16, show zI ((wK W).length : Nat) - 1 = zI (F.length : Nat) by rw [zL_1, zI_sub]; congr 1; omega]
      have c16 : (mI (mI M 0 0) 16 (zI (F.length : Nat))).1 16 = zI (F.length : Nat) := by rw [mI_1, upd_s]
      have cu : (mI (mI M 0 0) 16 (zI (F.length : Nat))).2 17 F.length = zI (u : Nat) := by
        have := r4 F.length (by omega)
        have e : (wK W)[F.length]? = some u := by rw [hK, List.getElem?_append_right (Nat.le_refl _), Nat.sub_self]; rfl
        rw [List.getElem?_eq_getElem (by omega)] at e
        rw [Option.some.inj e] at this
        exact this
      have hF8 : F.length < 8 := by omega
      rw [c16]
      simp only [gd_n hF8 (show (8 : Nat) < 2147483648 by omega), zI_cn (show F.length < 2147483648 by omega)]
      rw [cu]
      obtain ⟨w, S', M', W', e1, e2, e3, e4, e5, e6⟩ := f_fin (N := N) (M := mI (mI M 0 0) 16 (zI (F.length : Nat))) (p := (6, (u : Int), 0)) (F := F) h K (mRel_0 (v := (0 : Int32)) R) q2 hF8 ⟨[u], hK⟩ ⟨by show 6 ≤ 6; omega, fun e => absurd e (by show ¬ 6 ≤ 2; omega), fun e => absurd e (by show ¬ 6 = 3; omega), fun _ => ⟨by show (0 : Int) ≤ (u : Int); omega, by show (u : Int) < _; omega, by show (0 : Int) ≤ 0; omega, fun e => absurd e (by show ¬ 6 ≤ 5; omega)⟩⟩ ⟨fun e => absurd e (by show ¬ 6 ≤ 3; omega), fun _ => hK, fun e => absurd e (by show ¬ (6 = 4 ∨ 6 = 5); omega)⟩ (A := pX2_put N 4 0 0 0 S) (B := pf_puts N 6 (zI (u : Nat)) 0 (mI (mI M 0 0) 16 (zI (F.length : Nat)))) (by
        rw [show ((F.length + 1 : Nat) : Int) - (((wK W).length : Nat) : Int) = 0 by omega]
        rfl) rfl (fun q hq => by rw [mI_1, upd_o _ _ hq]) rfl c16 thr_k
      rw [e1, e2, bk_i, bk_i, bd_i]
      exact opOk_v rfl rfl e3 e4 e5 e6
    · rw [if_neg (show ¬ zI ((wP W).length : Nat) < zI 15 from fun h => q2 (e2.mp h)), if_pos (z4.mpr (by omega)), thr_k, if_neg (by decide)]
      exact opOk_x rfl rfl (Or.inl ⟨rfl, thr_k⟩) h K (mRel_0 R)
end O7
