-- LEVEL 2, CALLS: MAY, VALUES ANEW, DRAFTS
theorem tX_take {H : sH} {T : sT} {c : sCh} {en : Nat} (h : tX H T) (hc : cOk c) (hi : cIn H en c) : tX H (tTake H T c) := by
  obtain ⟨x1, x2⟩ := id h
  obtain ⟨i1, i2, i3, i4⟩ := hi
  obtain ⟨ck, ce, cm, cn, cs, cadd, cval, -⟩ := hc
  have vt : ∀ (vs : List (Nat × Nat × Nat)) (a v : Nat), a < hA H → (∀ x ∈ vs, x.2.1 < hA H) → ∀ x ∈ vTake H vs (cE c) a v, x.2.1 < hA H := fun vs a v ha hv x hx => by
    rcases List.mem_append.mp hx with g | g
    · exact hv x (List.mem_filter.mp g).1
    · rw [List.mem_singleton] at g; rw [g]; exact ha
  have va : ∀ (l : List (Nat × Nat)) (vs : List (Nat × Nat × Nat)), (∀ x ∈ l, x.1 < hA H) → (∀ x ∈ vs, x.2.1 < hA H) → ∀ x ∈ l.foldl (fun vs x => vTake H vs (cE c) x.1 x.2) vs, x.2.1 < hA H := fun l => by
    induction l with
    | nil => exact fun vs _ hv => hv
    | cons y l ih => exact fun vs hl hv => ih _ (fun x hx => hl x (List.mem_cons_of_mem _ hx)) (vt vs y.1 y.2 (hl y List.mem_cons_self) hv)
  unfold tTake
  by_cases k0 : cK c = 0
  · rw [if_pos k0]
    obtain ⟨j1, j2, j3⟩ := i2 k0
    exact ⟨upf_all (P := fun _ x => x < (hC H : Int)) x1 j1, va _ _ j3 x2⟩
  · rw [if_neg k0]
    by_cases k1 : cK c = 1
    · rw [if_pos k1]
      have := i3 (by omega) (by omega)
      have := (cval (by omega) (by omega)).1
      exact ⟨x1, vt _ _ _ (by omega) x2⟩
    · rw [if_neg k1]
      by_cases k2 : cK c = 2
      · rw [if_pos k2]
        exact ⟨x1, fun x hx => x2 x (List.mem_filter.mp hx).1⟩
      · rw [if_neg k2]
        by_cases k3 : cK c = 3
        · rw [if_pos k3]
          have := i3 (by omega) (by omega)
          have := (cval (by omega) (by omega)).1
          refine ⟨x1, fun x hx => ?_⟩
          rcases List.mem_append.mp hx with g | g
          · exact x2 x (List.mem_filter.mp g).1
          · rw [List.mem_singleton] at g
            rw [g]
            show (cX c).toNat < hA H
            omega
        · rw [if_neg k3]
          repeat' split
          all_goals exact h
theorem tX_rpl {H : sH} {cs : Nat → sCh} {en : Nat} : ∀ (l : List Nat) (T : sT), (∀ k ∈ l, cOk (cs k) ∧ cIn H en (cs k)) → tX H T → tX H (rpl H cs T l)
  | [], T, _, h => h
  | k :: l, T, hl, h => tX_rpl l _ (fun q hq => hl q (List.mem_cons_of_mem _ hq)) (tX_take h (hl k List.mem_cons_self).1 (hl k List.mem_cons_self).2)
section O3
variable {N : Nat} {S : kS} {M : mS} {W : sW}
theorem wTr_X (h : wOk W) (m : Nat) : tX (wH W) (wTr W m) := by
  obtain ⟨-, -, -, ⟨g1, g2, g3, ⟨ar, g4⟩, g5, g6, -⟩, -⟩ := h
  refine tX_rpl (en := wE W) _ _ (fun k hk => ?_) ⟨fun e _ => by show (-1 : Int) < _; omega, fun x hx => absurd hx List.not_mem_nil⟩
  have hk := knl_sub.subset hk
  exact ⟨(g4.2 k hk).1, g6 k ((g3 k).mp hk)⟩
theorem op_valuesAnew (hN : 20000 ≤ N) (h : wOk W) (K : kRel S W) (R : mRel M W) (x y z : Int32) : opOk 1 0 0 (pX9_valuesAnew N x y z S) (pf_valuesAnew N x y z M) := by
  obtain ⟨x, h1, h2, rfl⟩ := zI_of x
  obtain ⟨y, h3, h4, rfl⟩ := zI_of y
  obtain ⟨z, h5, h6, rfl⟩ := zI_of z
  have h10 := h.1.1
  simp only [pX9_valuesAnew, pf_valuesAnew, pf_valuesAnew_31, sv_i]
  obtain ⟨M', R', f, ⟨q, e⟩ | ⟨m, hm, rfl, e, L, -⟩⟩ := w_isAt (N := N) hN h (mRel_0 (v := (0 : Int32)) R) h1 h2 h3 h4
  · rw [e, bd_i, il_B, if_neg (by decide), fails_i, bd_i, g_masterNo h1 h2 q, bx_r]
    exact opOk_x rfl rfl (Or.inl ⟨rfl, thr_k⟩) h K (mRel_0 R')
  · have Q := kRel_t h K hm
    rw [e, bd_i, il_B, g_master hm, bx_l, gn_l hm, g_entry Q h3 h4]
    by_cases hl : tLv (wTr W m) y = true
    · have hy := tLv_lt hl
      obtain ⟨e0, rfl⟩ : ∃ e0 : Nat, y = e0 := ⟨y.toNat, by omega⟩
      rw [if_pos hl, if_pos hl, bx_l, g_attribute K.1 h.1 h5 h6]
      simp only [pf_isAttribute]
      rw [R'.1.1, zL_0, zL_1, zI_sub, r_in h5 h6 (by omega) (by omega) (by omega) (by omega), bs_i, zr_B, bd_i, ← zL_0, il_B]
      by_cases q : 0 ≤ z ∧ z < (hA (wH W) : Int)
      · obtain ⟨a, rfl⟩ : ∃ a : Nat, z = a := ⟨z.toNat, by omega⟩
        obtain ⟨S', e2, Q2, K2⟩ := w_redo (N := N) (by omega) h K hm
        rw [if_pos q, bx_l, e2, bk_i, q_valuesOf Q2 (by omega) (by omega) (by omega), bk_i, if_pos (in_yes (by omega)), r_countOf (by omega) L.1 L.2.1 (by omega) (by omega), bd_i]
        exact opOk_v rfl rfl (thr_0 f) h K2 R'
      · rw [if_neg q, bx_r, if_neg (in_no (by omega)), fails_i, bd_i]
        exact opOk_x rfl rfl (Or.inl ⟨rfl, thr_k⟩) h K (mRel_0 R')
    · rw [if_neg hl, if_neg hl, bx_r, fails_i, bd_i]
      exact opOk_x rfl rfl (Or.inl ⟨rfl, thr_k⟩) h K (mRel_0 R')
theorem op_may (hN : 20000 ≤ N) (h : wOk W) (K : kRel S W) (R : mRel M W) (x y z w : Int32) : opOk 1 0 0 (pX9_may N x y z w S) (pf_may N x y z w M) := by
  obtain ⟨x, h1, h2, rfl⟩ := zI_of x
  obtain ⟨y, h3, h4, rfl⟩ := zI_of y
  obtain ⟨z, h5, h6, rfl⟩ := zI_of z
  obtain ⟨w, h7, h8, rfl⟩ := zI_of w
  simp only [pX9_may, pf_may, pf_may_34, sv_i]
  have no : ∀ {M' : mS}, mRel M' W → ∀ {A : Option ((Int32 ⊕ Nat) × kS)}, A = some (.inr 1, S) → opOk 1 0 0 A (if (mI M' 0 1).1 0 = 0 then bd (pf_mayDo N (zI y) (zI z) (zI w) (mI M' 0 1)) fun v2 S3 => if v2 = 0 then some ((0 : Int32), S3) else some ((1 : Int32), S3) else some ((0 : Int32), mI M' 0 1)) := fun R' A hA => by
    rw [thr_k, if_neg (by decide)]
    exact opOk_x hA rfl (Or.inl ⟨rfl, thr_k⟩) h K (mRel_0 R')
  obtain ⟨M', R', f, ⟨q, e⟩ | ⟨m, hm, rfl, e, L, -⟩⟩ := w_isAt (N := N) hN h R h1 h2 h5 h6
  · rw [e, bd_i, il_B, if_neg (by decide)]
    exact no R' (by rw [g_masterNo h1 h2 q, bx_r])
  · have Q := kRel_t h K hm
    have e5 : pf_in N (zI y) 0 5 = some (zB (decide (0 ≤ y) && decide (y ≤ 5))) := r_in (a := 0) (b := 5) h3 h4 (by omega) (by omega) (by omega) (by omega)
    have e1 : pf_in N (zI w) 0 1 = some (zB (decide (0 ≤ w) && decide (w ≤ 1))) := r_in (a := 0) (b := 1) h7 h8 (by omega) (by omega) (by omega) (by omega)
    rw [e, bd_i, il_B, g_master hm, bx_l, gn_l hm, g_user h3 h4, e5, bs_i, il_B, e1, bs_i, il_B]
    by_cases q1 : 0 ≤ y ∧ y < 6
    · rw [if_pos q1, bx_l, g_entry Q h5 h6]
      by_cases hl : tLv (wTr W m) z = true
      · have hz := tLv_lt hl
        rw [if_pos hl, if_pos hl, bx_l, g_right h7 h8, if_pos (in_yes (by omega))]
        by_cases q2 : 0 ≤ w ∧ w < 2
        · obtain ⟨u, rfl⟩ : ∃ u : Nat, y = u := ⟨y.toNat, by omega⟩
          obtain ⟨r, rfl⟩ : ∃ r : Nat, w = r := ⟨w.toNat, by omega⟩
          have L0 : rLd (mI M' 0 0) (wTr W m) := rLd_e (M := M') (by rw [mI_1, upd_o _ _ (by omega)]) (fun _ _ _ => rfl) L
          rw [if_pos q2, bx_l, q_grants Q K.1 (by omega) (by omega) (by omega) (by omega) (by omega), bk_i, zx_B, if_pos (in_yes (by omega)), thr_k, if_pos rfl, r_mayDo (by omega) (mRel_0 R').1 h.1 L0 (wTr_X h m) (by omega) (by omega) (by omega) (by omega), bd_i, il_B]
          cases tMay (wH W) (wTr W m) u z r with
          | false => exact opOk_v rfl rfl thr_k h K (mRel_0 R')
          | true => exact opOk_v rfl rfl thr_k h K (mRel_0 R')
        · rw [if_neg q2, bx_r, if_neg (in_no (by omega))]
          exact no R' rfl
      · rw [if_neg hl, if_neg hl, bx_r]
        exact no R' rfl
    · rw [if_neg q1, bx_r, if_neg (in_no (by omega))]
      split
      · exact no R' rfl
      · exact no R' rfl
/-- other drafts, filters, entries, spots -/
theorem kRel_e {S' : kS} {D : List (Nat × Nat)} {P : List (Nat × Int × Int)} {F : List Nat} {en : Nat} {fd : List Nat} (K : kRel S W) (hI : ∀ q, (1 ≤ q ∧ q ≤ 4) ∨ q = 12 ∨ 16 ≤ q → kI S' q = kI S q) (hA : ∀ c, c ≤ 5 ∨ 18 ≤ c → kA S' c = kA S c) (hJ : ∀ c, 26 ≤ c → kJ S' c = kJ S c) (hL : kL S' = kL S) (hD : S'.2.2.2.2 = S.2.2.2.2) (d : kI S' 5 = zI (D.length : Nat) ∧ ∀ i (h : i < D.length), kA S' 6 i = zI ((D[i].1 * 1000 + D[i].2 : Nat) : Int)) (f : fcR S' (wH W) P F) (e0 : kI S' 0 = zI (en : Nat)) (fo : kI S' 8 = zI (fd.length : Nat) ∧ ∀ i (h : i < fd.length), kA S' 14 i = zI (fd[i] : Nat)) : kRel S' (wMk (wH W) D P F (wC W) (wN W) (wO W) (wT W) (wX W) (wU W) en fd) := by
  obtain ⟨k1, -, -, ⟨k7, k7b⟩, ⟨k8, k9⟩, k10, k11, k12, k13, k14, k15, k16, -⟩ := K
  obtain ⟨d1, d2, d3, d4, d5, d6, d7, d8⟩ := kD_eq hD
  have hr : hR S' (wH W) := by
    obtain ⟨r1, r2, r3, r4, r5, r6, r7⟩ := k1
    exact ⟨by rw [hI _ (by omega)]; exact r1, by rw [hI _ (by omega)]; exact r2, by rw [hI _ (by omega)]; exact r3, by rw [hI _ (by omega)]; exact r4, by rw [hA _ (by omega)]; exact r5, by rw [hA _ (by omega)]; exact r6, by rw [hA _ (by omega)]; exact r7⟩
  exact ⟨hr, d, f, ⟨by rw [d1]; exact k7, fun k hk => cRS_D hD (k7b k hk)⟩, ⟨lgR_fr (hI _ (by omega)) hD k8, by rw [d3, d4]; exact k9⟩, fun j hj => tdR_fr (hI _ (by omega)) (hA _ (by omega)) (k10 j hj), fun j hj => by rw [hI _ (by omega)]; exact k11 j hj, fun j hj => by rw [hI _ (by omega)]; exact k12 j hj, fun j e hj he => by rw [hL]; exact k13 j e hj he, e0, fun j hj => tR_other (fun q a b => hI q (by omega)) (fun c a b => hA c (by omega)) (fun c a b => hJ c (by omega)) (by rw [hL]) (by rw [hL]) (k15 j hj), by rw [hA _ (by omega)]; exact k16, fo⟩
theorem mRel_e {M' : mS} {D : List (Nat × Nat)} {P : List (Nat × Int × Int)} {F : List Nat} {fd : List Nat} (R : mRel M W) (hI : ∀ q, q = 1 ∨ q = 4 ∨ q = 21 ∨ q = 22 ∨ q = 31 ∨ q = 37 ∨ q = 47 → M'.1 q = M.1 q) (hA : ∀ c, c ≤ 7 ∨ (18 ≤ c ∧ c ≤ 51) → M'.2 c = M.2 c) (d : M'.1 8 = zI (D.length : Nat) ∧ ∀ i (h : i < D.length), M'.2 9 i = zI (D[i].1 : Nat) ∧ M'.2 10 i = zI (D[i].2 : Nat)) (f : frF M' P F) (fo : M'.1 52 = zI (fd.length : Nat) ∧ ∀ i (h : i < fd.length), M'.2 53 i = zI (fd[i] : Nat)) : mRel M' (wMk (wH W) D P F (wC W) (wN W) (wO W) (wT W) (wX W) (wU W) (wE W) fd) := by
  obtain ⟨r1, -, -, ⟨r8, r9, r10⟩, r11, r12, r13, r14, r15, r16, -, ⟨q, r19, r20⟩⟩ := R
  exact ⟨rSc_e (hI _ (by omega)) (hI _ (by omega)) (fun c hc => hA c (by omega)) r1, d, f, ⟨by rw [hI _ (by omega)]; exact r8, r9, fun k hk => ⟨rCh_e (fun c a b => hA c (by omega)) (r10 k hk).1, (r10 k hk).2⟩⟩, by rw [hA _ (by omega)]; exact r11, by unfold rVw at *; rw [hA _ (by omega)]; exact r12, by rw [hA _ (by omega)]; exact r13, by rw [hA _ (by omega)]; exact r14, by rw [hI _ (by omega)]; exact r15, rWh_e (hI _ (by omega)) (hI _ (by omega)) (fun c a b => hA c (by omega)) r16, fo, ⟨q, by rw [hI _ (by omega)]; exact r19, r20.1, by rw [hA 33 (by omega)]; exact r20.2⟩⟩
theorem op_draft (h : wOk W) (K : kRel S W) (R : mRel M W) (x y : Int32) : opOk 1 2 3 (pX9_draft N x y S) (pf_draft N x y M) := by
  obtain ⟨x, h1, h2, rfl⟩ := zI_of x
  obtain ⟨y, h3, h4, rfl⟩ := zI_of y
  obtain ⟨d1, d2⟩ := h.2.1
  have h10 := h.1.1
  have R0 := mRel_0 (v := (0 : Int32)) R
  simp only [pX9_draft, pX1_put, pX1_put_32, pf_draft, pf_isAttribute, pf_isValue, sv_i, svk_i]
  rw [R0.1.1, zL_1, zI_sub, zL_0, r_in h1 h2 (by omega) (by omega) (by omega) (by omega), bs_i, zr_B, bd_i, ← zL_0, il_B, g_attribute K.1 h.1 h1 h2]
  by_cases q : 0 ≤ x ∧ x < (hA (wH W) : Int)
  · obtain ⟨a, rfl⟩ : ∃ a : Nat, x = a := ⟨x.toNat, by omega⟩
    have e9 : pf_in N (zI y) 0 999 = some (zB (decide (0 ≤ y) && decide (y ≤ 999))) := r_in (a := 0) (b := 999) h3 h4 (by omega) (by omega) (by omega) (by omega)
    rw [if_pos q, bx_l, if_pos (in_yes (by omega)), g_value h3 h4, e9, bs_i, zs_B, bs_i, il_B]
    by_cases q2 : 0 ≤ y ∧ y < 1000
    · obtain ⟨v, rfl⟩ : ∃ v : Nat, y = v := ⟨y.toNat, by omega⟩
      have k5 := K.2.1.1
      have r8 : (mI M 0 0).1 8 = zI ((wD W).length : Nat) := R0.2.1.1
      rw [if_pos q2, bx_l, if_pos (in_yes (by omega)), k5, r8, zL_12, il_lt (by omega) (by omega) (by omega) (by omega), il_eq (by omega) (by omega) (by omega) (by omega), il_le (by omega) (by omega) (by omega) (by omega)]
      by_cases q3 : (wD W).length < 12
      · rw [if_pos (show ((wD W).length : Int) < 12 by omega), if_neg (show ¬ (12 : Int) ≤ ((wD W).length : Int) by omega), if_neg (show ¬ ((wD W).length : Int) = 12 by omega)]
        have hn : (wD W).length < 12 := q3
        rw [zL_1000]
        simp only [zI_mul, zI_add, gd_n hn (show (12 : Nat) < 2147483648 by omega), zI_cn (show (wD W).length < 2147483648 by omega)]
        have c5 : kI (sA S 6 (wD W).length (zI ((a : Int) * 1000 + (v : Int)))) 5 = zI ((wD W).length : Nat) := k5
        have c8 : (mA (mA (mI M 0 0) 9 (wD W).length (zI (a : Nat))) 10 (wD W).length (zI (v : Nat))).1 8 = zI ((wD W).length : Nat) := r8
        have c8b : (mA (mI M 0 0) 9 (wD W).length (zI (a : Nat))).1 8 = zI ((wD W).length : Nat) := r8
        rw [c5, c8b]
        simp only [gd_n hn (show (12 : Nat) < 2147483648 by omega), zI_cn (show (wD W).length < 2147483648 by omega)]
        rw [c8, zI_add]
        obtain ⟨o1, o2, o3, o4, o5, o6, o7, o8⟩ := id h
        have hlen : ((wD W) ++ [(a, v)]).length = (wD W).length + 1 := by rw [List.length_append, List.length_singleton]
        have get : ∀ i (hi : i < ((wD W) ++ [(a, v)]).length), (∃ h2 : i < (wD W).length, ((wD W) ++ [(a, v)])[i] = (wD W)[i]) ∨ (i = (wD W).length ∧ ((wD W) ++ [(a, v)])[i] = (a, v)) := fun i hi => by
          by_cases g : i < (wD W).length
          · exact Or.inl ⟨g, List.getElem_append_left g⟩
          · right
            have : i = (wD W).length := by omega
            subst this
            exact ⟨rfl, by rw [List.getElem_append_right (Nat.le_refl _)]; simp⟩
        refine ⟨.inl _, _, _, _, wMk (wH W) (wD W ++ [(a, v)]) (wP W) (wK W) (wC W) (wN W) (wO W) (wT W) (wX W) (wU W) (wE W) (wF W), rfl, rfl, ⟨?_, ?_⟩, ⟨o1, ⟨by show (wD W ++ [(a, v)]).length ≤ 12; omega, fun x hx => ?_⟩, o3, o4, o5, o6, o7, o8⟩, ?_, ?_⟩
        · rw [mI_1, upd_o _ _ (by omega)]; exact thr_k (M := M) (k := 0)
        · rw [kI_sI, upd_s, mI_1, upd_s]
        · rcases List.mem_append.mp hx with g | g
          · exact d2 x g
          · rw [List.mem_singleton] at g
            rw [g]
            exact ⟨by show a < hA (wH W); omega, by show v < 1000; omega⟩
        · obtain ⟨k1, k2, k3, k4⟩ := id K
          have uI : ∀ q, q ≠ 5 → kI (sI (sA S 6 (wD W).length (zI ((a : Int) * 1000 + (v : Int)))) 5 (zI (((wD W).length : Nat) + 1))) q = kI S q := fun q hq => upd_o _ _ hq
          have uA : ∀ c, c ≠ 6 → kA (sI (sA S 6 (wD W).length (zI ((a : Int) * 1000 + (v : Int)))) 5 (zI (((wD W).length : Nat) + 1))) c = kA S c := fun c hc => kA_sA_o _ _ _ hc
          refine kRel_e K (fun q hq => uI q (by omega)) (fun c hc => uA c (by omega)) (fun _ _ => rfl) rfl rfl ⟨?_, fun i hi => ?_⟩ ⟨by rw [uI _ (by omega)]; exact k3.1, by rw [uI _ (by omega)]; exact k3.2.1, by rw [uA _ (by omega), uA _ (by omega), uA _ (by omega)]; exact k3.2.2⟩ (by rw [uI _ (by omega)]; exact K.2.2.2.2.2.2.2.2.2.1) ⟨by rw [uI _ (by omega)]; exact K.2.2.2.2.2.2.2.2.2.2.2.2.1, by rw [uA _ (by omega)]; exact K.2.2.2.2.2.2.2.2.2.2.2.2.2⟩
          · rw [kI_sI, upd_s, hlen]; congr 1
          · rw [kA_sI, kA_sA_s]
            rcases get i hi with ⟨g1, g2⟩ | ⟨g1, g2⟩
            · rw [g2, upd_o _ _ (by omega)]; exact K.2.1.2 i g1
            · rw [g2, g1, upd_s]; congr 1
        · have uI : ∀ q, q ≠ 8 → (mI (mA (mA (mI M 0 0) 9 (wD W).length (zI (a : Nat))) 10 (wD W).length (zI (v : Nat))) 8 (zI (((wD W).length : Nat) + 1))).1 q = (mI M 0 0).1 q := fun q hq => upd_o _ _ hq
          have uA : ∀ c, c ≠ 9 → c ≠ 10 → (mI (mA (mA (mI M 0 0) 9 (wD W).length (zI (a : Nat))) 10 (wD W).length (zI (v : Nat))) 8 (zI (((wD W).length : Nat) + 1))).2 c = (mI M 0 0).2 c := fun c h1 h2 => by rw [mI_2, mA_o _ _ _ h2, mA_o _ _ _ h1]
          obtain ⟨p1, p2, p3, p4⟩ := id R0
          refine mRel_e R0 (fun q hq => uI q (by omega)) (fun c hc => uA c (by omega) (by omega)) ⟨?_, fun i hi => ?_⟩ ⟨by rw [uI _ (by omega)]; exact p3.1, by rw [uI _ (by omega)]; exact p3.2.1, by rw [uA _ (by omega) (by omega), uA _ (by omega) (by omega), uA _ (by omega) (by omega)]; exact p3.2.2.1, by rw [uA _ (by omega) (by omega)]; exact p3.2.2.2⟩ ⟨by rw [uI _ (by omega)]; exact R0.2.2.2.2.2.2.2.2.2.2.1.1, by rw [uA _ (by omega) (by omega)]; exact R0.2.2.2.2.2.2.2.2.2.2.1.2⟩
          · rw [mI_1, upd_s, hlen]; congr 1
          · rw [mI_2, mA_s, mA_o _ _ _ (by omega), mA_s]
            rcases get i hi with ⟨g1, g2⟩ | ⟨g1, g2⟩
            · rw [g2, upd_o _ _ (by omega), upd_o _ _ (by omega)]; exact p2.2 i g1
            · rw [g2, g1, upd_s, upd_s]; exact ⟨rfl, rfl⟩
      · rw [if_neg (show ¬ ((wD W).length : Int) < 12 by omega), if_pos (show ((wD W).length : Int) = 12 by omega), fails_i, bd_i]
        exact opOk_x rfl rfl (Or.inr (Or.inr ⟨rfl, thr_k⟩)) h K (mRel_0 R0)
    · rw [if_neg q2, bx_r, if_neg (in_no (by omega)), fails_i, bd_i]
      exact opOk_x rfl rfl (Or.inr (Or.inl ⟨rfl, thr_k⟩)) h K (mRel_0 R0)
  · rw [if_neg q, bx_r, if_neg (in_no (by omega)), fails_i, bd_i]
    exact opOk_x rfl rfl (Or.inl ⟨rfl, thr_k⟩) h K (mRel_0 R0)
end O3
