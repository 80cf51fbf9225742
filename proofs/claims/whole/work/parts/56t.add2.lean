-- LEVEL 2, THE CALL ADD
section AE
variable {N : Nat} {S : kS} {M : mS} {W : sW}
theorem r_add_125 {D : List (Nat × Nat)} {f : Nat} (hf : f + D.length ≤ 600) (hD : D.length ≤ 12) {M0 : mS} (K0 : dM M0 D) {x5 : Int32} {k182 : Int32 → mS → Option (Int32 × mS)} : ∀ (n k i : Nat) (M' : mS), i + k = D.length → k < n → (∀ q, q ≠ 31 → M'.1 q = M0.1 q) → (∀ c, c ≠ 34 → c ≠ 35 → M'.2 c = M0.2 c) → M'.1 31 = zI ((f + i : Nat) : Int) → (∀ j, j < i → M'.2 34 (f + j) = zI (dA D j : Nat) ∧ M'.2 35 (f + j) = zI (dV D j : Nat)) → (∀ q, q < f → M'.2 34 q = M0.2 34 q ∧ M'.2 35 q = M0.2 35 q) → ∃ M3, pf_add_125 N k182 n x5 (zI (i : Nat)) M' = k182 x5 M3 ∧ (∀ q, q ≠ 31 → M3.1 q = M0.1 q) ∧ (∀ c, c ≠ 34 → c ≠ 35 → M3.2 c = M0.2 c) ∧ M3.1 31 = zI ((f + D.length : Nat) : Int) ∧ (∀ j, j < D.length → M3.2 34 (f + j) = zI (dA D j : Nat) ∧ M3.2 35 (f + j) = zI (dV D j : Nat)) ∧ (∀ q, q < f → M3.2 34 q = M0.2 34 q ∧ M3.2 35 q = M0.2 35 q)
  | 0, k, i, M', hk, hn, h1, h2, h3, h4, h5 => by omega
  | n + 1, k, i, M', hk, hn, h1, h2, h3, h4, h5 => by
    simp only [pf_add_125, nm_i, sv_i]
    rw [h1 8 (by omega), K0.1, il_le (by omega) (by omega) (by omega) (by omega)]
    cases k with
    | zero =>
      have : i = D.length := by omega
      subst this
      rw [if_pos (by omega)]
      exact ⟨M', rfl, h1, h2, h3, h4, h5⟩
    | succ k =>
      have hi : i < D.length := by omega
      have ek : zI (i : Nat) + 1 = zI ((i + 1 : Nat) : Int) := by rw [zL_1, zI_add]; congr 1
      rw [if_neg (by omega), gd_n (show i < 12 by omega) (by omega), h3, gd_n (show f + i < 600 by omega) (by omega), zI_cn (show f + i < 2147483648 by omega), zI_cn (show i < 2147483648 by omega), h2 9 (by omega) (by omega), (K0.2 i hi).1, gd_n (show i < 12 by omega) (by omega), ek]
      generalize hM1 : mA M' 34 (f + i) (zI (dA D i : Nat)) = M1
      have a1 : M1.1 = M'.1 := by rw [← hM1]; rfl
      have b1 : ∀ q, q ≠ 34 → M1.2 q = M'.2 q := fun q hq => by rw [← hM1]; exact mA_o _ _ _ hq
      have c1 : M1.2 34 = upd (M'.2 34) (f + i) (zI (dA D i : Nat)) := by rw [← hM1]; exact mA_s _ _ _ _
      rw [a1, h3, gd_n (show f + i < 600 by omega) (by omega), zI_cn (show f + i < 2147483648 by omega), b1 10 (by omega), h2 10 (by omega) (by omega), (K0.2 i hi).2]
      generalize hM2 : mA M1 35 (f + i) (zI (dV D i : Nat)) = M2
      have a2 : M2.1 = M'.1 := by rw [← hM2, ← a1]; rfl
      have b2 : ∀ q, q ≠ 34 → q ≠ 35 → M2.2 q = M'.2 q := fun q hq hq2 => by rw [← hM2, mA_o _ _ _ hq2]; exact b1 q hq
      have c2 : M2.2 34 = upd (M'.2 34) (f + i) (zI (dA D i : Nat)) := by rw [← hM2, mA_o _ _ _ (by omega)]; exact c1
      have d2 : M2.2 35 = upd (M'.2 35) (f + i) (zI (dV D i : Nat)) := by rw [← hM2, mA_s, b1 35 (by omega)]
      rw [a2, h3]
      refine r_add_125 hf hD K0 (x5 := x5) (k182 := k182) n k (i + 1) _ (by omega) (by omega) (fun q hq => by rw [mI_1, upd_o _ _ hq, a2]; exact h1 q hq) (fun c hc hc2 => by rw [mI_2, b2 c hc hc2]; exact h2 c hc hc2) ?_ (fun j hj => ?_) (fun q hq => ?_)
      · rw [mI_1, upd_s, zL_1, zI_add]; congr 1
      · rw [mI_2, c2, d2]
        by_cases e : j = i
        · rw [e, upd_s, upd_s]; exact ⟨rfl, rfl⟩
        · rw [upd_o _ _ (by omega), upd_o _ _ (by omega)]; exact h4 j (by omega)
      · rw [mI_2, c2, d2, upd_o _ _ (by omega), upd_o _ _ (by omega)]
        exact h5 q hq
theorem zI_inj2 {a b : Nat} (ha : a < 2147483648) (hb : b < 2147483648) (h : zI (a : Nat) = zI (b : Nat)) : a = b := by
  rw [zI_eq (by omega) (by omega) (by omega) (by omega)] at h
  omega
theorem m_added (hN : 300 ≤ N) (h : wOk W) (R : mRel M W) {m : Nat} {c : sCh} (hm : m < 4) (hn : wN W < 250) (hE : wE W < 48) (hk0 : cK c = 0) (hcE : cE c = wE W) (hV : cV c = wD W) (c0 : mkOk (wH W) (wC W) (wN W) (wE W) m (wO W) (wT W) c) : ∃ M6, (bd (pf_makes N (zI (m : Nat)) 0 (zI (wE W : Nat)) (zI (cX c)) (zI (cY c)) (zI (cW c)) M) fun v15 S16 => gd v15 250 <| sv (mA S16 32 v15.toNatClampNeg (S16.1 31)) fun S17 => pf_add_125 N (pf_add_182 N) N v15 0 S17) = some (zI (wE W : Nat), M6) ∧ mRel M6 (wAd W m c) ∧ M6.1 0 = M.1 0 := by
  have dm := dM_of R
  obtain ⟨r1, r2, ⟨r4, r5, r6, r7⟩, r8, r11, r12, r13, r14, r15, r16, ⟨r17, r18⟩, ⟨f, r19, r20, r21⟩⟩ := R
  have g := h.2.2.2.1
  have T := h.2.2.2.2.1
  have hE1 := h.2.2.2.2.2.2.1
  have hD12 := h.2.1.1
  obtain ⟨g1, g2, g3, ⟨ar, g4⟩, g5, g6, g7, g8, g9, g10⟩ := id g
  obtain ⟨b1, b2, b3, b4, b5, b6, b7⟩ := id c0
  have er : (gst (wT W m) m (wC W) (wN W) + 1) * 4 + m = cR c := by unfold cR; rw [b2, b4]
  have ht : wT W m m m < 250 := by
    have := (T m m m hm hm hm).2.2
    have := nMk_le (cs := wC W) (j := m) (wN W)
    omega
  obtain ⟨M', e1, a1, a2, a3, a4, a5, ⟨n1, n2, n3, n4, n5, n6, n7, n8⟩, a7⟩ := r_makes (N := N) hN r8 r12 hm hn ht g2 (fun k hk => (g3 k).mp hk) r11 g4.1 (K := 0) (E := wE W) (X := cX c) (Y := cY c) (W := cW c) (by rw [er]; exact mk_ne hm g T c0)
  rw [er] at a4
  have e1 : pf_makes N (zI (m : Nat)) 0 (zI (wE W : Nat)) (zI (cX c)) (zI (cY c)) (zI (cW c)) M = some (zI (wN W : Nat), M') := e1
  have hf2 : f < 2147483648 := by omega
  have f31 : M'.1 31 = zI (f : Nat) := by rw [a3 _ (by omega) (by omega)]; exact r19
  generalize hM1 : mA M' 32 (wN W) (zI (f : Nat)) = M1
  have i1 : M1.1 = M'.1 := by rw [← hM1]; rfl
  have o1 : ∀ q, q ≠ 32 → M1.2 q = M'.2 q := fun q hq => by rw [← hM1]; exact mA_o _ _ _ hq
  have s1 : M1.2 32 = upd (M'.2 32) (wN W) (zI (f : Nat)) := by rw [← hM1]; exact mA_s _ _ _ _
  have dm1 : dM M1 (wD W) := ⟨by rw [i1, a3 _ (by omega) (by omega)]; exact dm.1, fun i hi => by
    rw [o1 9 (by omega), o1 10 (by omega), a7 9 (by omega) (by omega) (by omega), a7 10 (by omega) (by omega) (by omega)]
    exact dm.2 i hi⟩
  obtain ⟨M3, p1, p2, p3, p4, p5, p6⟩ := r_add_125 (N := N) (M0 := M1) (D := wD W) (f := f) (by omega) hD12 dm1 (x5 := zI (wN W : Nat)) (k182 := pf_add_182 N) N (wD W).length 0 M1 (by omega) (by omega) (fun _ _ => rfl) (fun _ _ _ => rfl) (by rw [i1]; exact f31) (fun j hj => by omega) (fun q _ => ⟨rfl, rfl⟩)
  have p1 : pf_add_125 N (pf_add_182 N) N (zI (wN W : Nat)) 0 M1 = _ := p1
  generalize hM6 : mI (mI (mA M3 33 (wN W) (zI ((f + (wD W).length : Nat) : Int))) 8 0) 21 (zI ((wE W + 1 : Nat) : Int)) = M6
  have x1 : ∀ q, q ≠ 21 → q ≠ 8 → q ≠ 31 → q ≠ 22 → q ≠ 37 → M6.1 q = M.1 q := fun q h1 h2 h3 h4 h5 => by
    rw [← hM6, mI_1, upd_o _ _ h1, mI_1, upd_o _ _ h2, mA_1, p2 q h3, i1, a3 q h4 h5]
  have x2 : M6.1 21 = zI ((wE W + 1 : Nat) : Int) := by rw [← hM6, mI_1, upd_s]
  have x3 : M6.1 8 = 0 := by rw [← hM6, mI_1, upd_o _ _ (by omega), mI_1, upd_s]
  have x4 : M6.1 31 = zI ((f + (wD W).length : Nat) : Int) := by rw [← hM6, mI_1, upd_o _ _ (by omega), mI_1, upd_o _ _ (by omega), mA_1]; exact p4
  have x5 : M6.1 22 = zI ((wN W + 1 : Nat) : Int) := by rw [← hM6, mI_1, upd_o _ _ (by omega), mI_1, upd_o _ _ (by omega), mA_1, p2 _ (by omega), i1]; exact a1
  have x6 : M6.1 37 = zI (-1) := by rw [← hM6, mI_1, upd_o _ _ (by omega), mI_1, upd_o _ _ (by omega), mA_1, p2 _ (by omega), i1]; exact a2
  have y1 : ∀ q, q ≠ 33 → M6.2 q = M3.2 q := fun q hq => by rw [← hM6, mI_2, mI_2]; exact mA_o _ _ _ hq
  have y2 : M6.2 33 = upd (M3.2 33) (wN W) (zI ((f + (wD W).length : Nat) : Int)) := by rw [← hM6, mI_2, mI_2]; exact mA_s _ _ _ _
  have y3 : ∀ q, q ≠ 32 → q ≠ 33 → q ≠ 34 → q ≠ 35 → M6.2 q = M'.2 q := fun q h1 h2 h3 h4 => by rw [y1 q h2, p3 q h3 h4, o1 q h1]
  have y4 : ∀ q, (q < 23 ∨ 35 < q) → q ≠ 19 → q ≠ 36 → M6.2 q = M.2 q := fun q h1 h2 h3 => by rw [y3 q (by omega) (by omega) (by omega) (by omega), a7 q h2 h3 (by omega)]
  have y32 : M6.2 32 = upd (M.2 32) (wN W) (zI (f : Nat)) := by rw [y1 32 (by omega), p3 32 (by omega) (by omega), s1, a7 32 (by omega) (by omega) (by omega)]
  have y33 : M6.2 33 = upd (M.2 33) (wN W) (zI ((f + (wD W).length : Nat) : Int)) := by rw [y2, p3 33 (by omega) (by omega), o1 33 (by omega), a7 33 (by omega) (by omega) (by omega)]
  have y34 : ∀ q, q < f → M6.2 34 q = M.2 34 q ∧ M6.2 35 q = M.2 35 q := fun q hq => by
    rw [y1 34 (by omega), y1 35 (by omega), (p6 q hq).1, (p6 q hq).2, o1 34 (by omega), o1 35 (by omega), a7 34 (by omega) (by omega) (by omega), a7 35 (by omega) (by omega) (by omega)]
    exact ⟨rfl, rfl⟩
  refine ⟨M6, ?_, ⟨?_, ?_, ⟨?_, ?_, ?_, ?_⟩, ⟨x5, by show wN W + 1 ≤ 250; omega, fun k hk => ?_⟩, ?_, ?_, ?_, ?_, x2, Or.inl x6, ⟨?_, ?_⟩, ⟨f + (wD W).length, x4, ?_, fun k hk hkk => ?_⟩⟩, x1 0 (by omega) (by omega) (by omega) (by omega) (by omega)⟩
  · rw [e1, bd_i, f31, gd_n (show wN W < 250 by omega) (by omega), zI_cn (by omega), sv_i, hM1, p1]
    simp only [pf_add_182, sv_i]
    rw [gd_n (show wN W < 250 by omega) (by omega), zI_cn (by omega), p4]
    have q21 : (mI (mA M3 33 (wN W) (zI ((f + (wD W).length : Nat) : Int))) 8 0).1 21 = zI (wE W : Nat) := by
      rw [mI_1, upd_o _ _ (by omega), mA_1, p2 _ (by omega), i1, a3 _ (by omega) (by omega)]
      exact r15
    rw [q21, zL_1, zI_add, show (wE W : Int) + 1 = ((wE W + 1 : Nat) : Int) by omega, hM6, x2, zI_sub]
    congr 3
    omega
  · exact rSc_e (x1 _ (by omega) (by omega) (by omega) (by omega) (by omega)) (x1 _ (by omega) (by omega) (by omega) (by omega) (by omega)) (fun d hd => y4 d (by omega) (by omega) (by omega)) r1
  · exact ⟨x3, fun i hi => absurd hi (Nat.not_lt_zero i)⟩
  · rw [x1 _ (by omega) (by omega) (by omega) (by omega) (by omega)]; exact r4
  · rw [x1 _ (by omega) (by omega) (by omega) (by omega) (by omega)]; exact r5
  · rw [y4 12 (by omega) (by omega) (by omega), y4 13 (by omega) (by omega) (by omega), y4 14 (by omega) (by omega) (by omega)]; exact r6
  · rw [y4 17 (by omega) (by omega) (by omega)]; exact r7
  · show rCh M6 k (upf (wC W) (wN W) c k) ∧ cOk (upf (wC W) (wN W) c k)
    have z23 : ∀ d, 23 ≤ d → d ≤ 30 → M6.2 d = M'.2 d := fun d h1 h2 => y3 d (by omega) (by omega) (by omega) (by omega)
    by_cases q : k = wN W
    · subst q
      rw [upf_s]
      refine ⟨?_, b1⟩
      unfold rCh
      rw [z23 23 (by omega) (by omega), z23 24 (by omega) (by omega), z23 25 (by omega) (by omega), z23 26 (by omega) (by omega), z23 27 (by omega) (by omega), z23 28 (by omega) (by omega), z23 29 (by omega) (by omega), z23 30 (by omega) (by omega), n1, n2, n3, n4, n5, n6, n7, n8, upd_s, upd_s, upd_s, upd_s, upd_s, upd_s, upd_s, upd_s, b2, b3, b4, hk0, hcE]
      refine ⟨rfl, rfl, rfl, rfl, rfl, fun _ => ⟨rfl, rfl, rfl, f, by rw [y32, upd_s], by rw [y33, upd_s, hV], by rw [hV]; omega, fun i hi => ?_⟩, fun e => absurd e (by omega), fun e => absurd e (by omega), fun e => absurd e (by omega)⟩
      have hi2 : i < (wD W).length := by rw [← hV]; exact hi
      have eg : (cV c)[i] = (wD W)[i] := List.getElem_of_eq hV hi
      rw [y1 34 (by omega), y1 35 (by omega), (p5 i hi2).1, (p5 i hi2).2, (d_at hi2).1, (d_at hi2).2, eg]
      exact ⟨rfl, rfl⟩
    · rw [upf_o _ _ q]
      have hk : k < wN W + 1 := hk
      obtain ⟨hc1, hc2⟩ := r8.2.2 k (by omega)
      refine ⟨?_, hc2⟩
      have zz : ∀ d, 23 ≤ d → d ≤ 33 → d ≠ 31 → M6.2 d k = M.2 d k := fun d h1 h2 h3 => by
        by_cases d9 : d = 32
        · rw [d9, y32, upd_o _ _ q]
        by_cases d10 : d = 33
        · rw [d10, y33, upd_o _ _ q]
        rw [z23 d h1 (by omega)]
        by_cases d1 : d = 23
        · rw [d1, n1, upd_o _ _ q]
        by_cases d2 : d = 24
        · rw [d2, n2, upd_o _ _ q]
        by_cases d3 : d = 25
        · rw [d3, n3, upd_o _ _ q]
        by_cases d4 : d = 26
        · rw [d4, n4, upd_o _ _ q]
        by_cases d5 : d = 27
        · rw [d5, n5, upd_o _ _ q]
        by_cases d6 : d = 28
        · rw [d6, n6, upd_o _ _ q]
        by_cases d7 : d = 29
        · rw [d7, n7, upd_o _ _ q]
        · have d8 : d = 30 := by omega
          rw [d8, n8, upd_o _ _ q]
      have hold := r21 k (by omega)
      unfold rCh at hc1 ⊢
      rw [zz 23 (by omega) (by omega) (by omega), zz 24 (by omega) (by omega) (by omega), zz 25 (by omega) (by omega) (by omega), zz 26 (by omega) (by omega) (by omega), zz 27 (by omega) (by omega) (by omega), zz 28 (by omega) (by omega) (by omega), zz 29 (by omega) (by omega) (by omega), zz 30 (by omega) (by omega) (by omega), zz 32 (by omega) (by omega) (by omega), zz 33 (by omega) (by omega) (by omega)]
      obtain ⟨w1, w2, w3, w4, w5, w6, w7⟩ := hc1
      refine ⟨w1, w2, w3, w4, w5, fun e0 => ?_, w7⟩
      obtain ⟨v1, v2, v3, f0, v4, v5, v6, v7⟩ := w6 e0
      obtain ⟨t, t1, t2⟩ := hold e0
      have hft : f0 + (cV (wC W k)).length ≤ f := by
        have vv := zI_inj2 (Nat.lt_of_le_of_lt t2 hf2) (Nat.lt_of_le_of_lt v6 (by decide)) (t1.symm.trans v5)
        rw [← vv]
        exact t2
      refine ⟨v1, v2, v3, f0, v4, v5, v6, fun i hi => ?_⟩
      rw [(y34 (f0 + i) (by omega)).1, (y34 (f0 + i) (by omega)).2]
      exact v7 i hi
  · rw [y3 36 (by omega) (by omega) (by omega) (by omega)]; exact a4
  · unfold rVw at a5 ⊢
    rw [y3 19 (by omega) (by omega) (by omega) (by omega)]
    exact a5
  · rw [y4 18 (by omega) (by omega) (by omega)]; exact r13
  · rw [y4 20 (by omega) (by omega) (by omega)]; exact r14
  · rw [x1 _ (by omega) (by omega) (by omega) (by omega) (by omega)]; exact r17
  · rw [y4 53 (by omega) (by omega) (by omega)]; exact r18
  · show f + (wD W).length ≤ 12 * (wE W + 1 - 1)
    omega
  · have hk : k < wN W + 1 := hk
    have hkk : cK (upf (wC W) (wN W) c k) = 0 := hkk
    rw [y33]
    by_cases q : k = wN W
    · rw [q, upd_s]
      exact ⟨_, rfl, Nat.le_refl _⟩
    · rw [upd_o _ _ q]
      rw [upf_o _ _ q] at hkk
      obtain ⟨t, t1, t2⟩ := r21 k (by omega) hkk
      exact ⟨t, t1, by omega⟩
theorem op_add (hN : 20000 ≤ N) (h : wOk W) (K : kRel S W) (R : mRel M W) (x y z w : Int32) : opOk 1 2 3 (pX9_add N x y z w S) (pf_add N x y z w M) := by
  obtain ⟨x, h1, h2, rfl⟩ := zI_of x
  obtain ⟨y, h3, h4, rfl⟩ := zI_of y
  obtain ⟨z, h5, h6, rfl⟩ := zI_of z
  obtain ⟨w, h7, h8, rfl⟩ := zI_of w
  have hlen := h.2.2.2.1.2.1
  have hn250 := h.2.2.2.1.1
  have hE := h.2.2.2.2.2.2.1
  have hC8 := h.1.2.1
  simp only [pX9_add, pf_add, pf_add_22, pf_isClass, sv_i]
  obtain ⟨M', R', f, ⟨q, e⟩ | ⟨m, hm, rfl, e, L, -⟩⟩ := w_isAt (N := N) hN h (mRel_0 (v := (0 : Int32)) R) h1 h2 h3 h4
  · rw [e, bd_i, il_B, if_neg (by decide), fails_i, bd_i, g_masterNo h1 h2 q, bx_r]
    exact opOk_x rfl rfl (Or.inl ⟨rfl, thr_k⟩) h K (mRel_0 R')
  · have Q := kRel_t h K hm
    have no1 : ∀ {A : Option ((Int32 ⊕ Nat) × kS)}, A = some (.inr 1, S) → opOk 1 2 3 A (bd (pf_fails N 1 M') fun v1 S2 => some (v1, S2)) := fun hA => by
      rw [fails_i, bd_i]
      exact opOk_x hA rfl (Or.inl ⟨rfl, thr_k⟩) h K (mRel_0 R')
    have no : ∀ {A : Option ((Int32 ⊕ Nat) × kS)}, A = some (.inr 3, S) → opOk 1 2 3 A (pf_add_89 N M') := fun hA => by
      simp only [pf_add_89]
      rw [fails_i, bd_i]
      exact opOk_x hA rfl (Or.inr (Or.inr ⟨rfl, thr_k⟩)) h K (mRel_0 R')
    have ez : pf_in N (zI z) 0 (M'.1 4 - 1) = some (zB (decide (0 ≤ z) && decide (z ≤ (hC (wH W) : Nat) - 1))) := by
      rw [R'.1.2.1, show (zI (hC (wH W) : Nat) - 1 : Int32) = zI ((hC (wH W) : Nat) - 1) by rw [zL_1, zI_sub]]
      exact r_in (N := N) (a := 0) (b := (hC (wH W) : Nat) - 1) h5 h6 (by omega) (by omega) (by omega) (by omega)
    have ew : pf_in N (zI w) 0 99 = some (zB (decide (0 ≤ w) && decide (w ≤ 99))) := r_in (a := 0) (b := 99) h7 h8 (by omega) (by omega) (by omega) (by omega)
    rw [e, bd_i, il_B, g_master hm, bx_l, gn_l hm, g_entry Q h3 h4]
    by_cases hl : tLv (wTr W m) y = true
    · have hy := tLv_lt hl
      obtain ⟨p, rfl⟩ : ∃ p : Nat, y = p := ⟨y.toNat, by omega⟩
      have hp48 : p < 48 := by omega
      have hpt := tLv_th hp48 hl
      rw [if_pos hl, bx_l, if_pos hl, ez, bs_i, zr_B, bd_i, il_B, g_class K.1 h.1 h5 h6]
      by_cases q1 : 0 ≤ z ∧ z < (hC (wH W) : Int)
      · have hi : hIs (wH W) z = true := by unfold hIs; rw [decide_eq_true q1.1, decide_eq_true q1.2]; rfl
        rw [if_pos hi, bx_l, if_pos (in_yes (by omega)), ew, bs_i, il_B, g_name h7 h8]
        by_cases q2 : 0 ≤ w ∧ w < 100
        · rw [if_pos q2, bx_l, if_pos (in_yes (by omega)), g_room K.2.2.2.2.1.1 (by omega), hlen, R'.2.2.2.2.2.2.2.2.1, zL_48, il_eq (by omega) (by omega) (by omega) (by omega), r_isFull R' h, bd_i, il_B]
          by_cases q3 : wN W < 250
          · rw [if_pos q3, bx_l, decide_eq_false (show ¬ wN W = 250 by omega), if_neg (show ¬ false = true by decide), g_write (by omega) h K hm (by omega) (by omega), r_mayWrite (by omega) h R' hm L (by omega) (by omega), bd_i, il_B]
            by_cases q4 : tMay (wH W) (wTr W m) (wU W m) (p : Int) 1 = true
            · have ef := g_free (N := N) (S := S) (by omega) Q (place := (p : Int)) (name := w) (but := -1) (by omega) (by omega) (by omega) (by omega) (by omega) (by omega)
              have ef : pX9_needFreeName N m (zI (p : Nat)) (zI w) (-1) S = _ := ef
              have en := r_isNamed (N := N) (by omega) L (place := (p : Int)) (name := w) (but := -1) (by omega) (by omega) (by omega) (by omega) (by omega) (by omega)
              have en : pf_isNamed N (zI (p : Nat)) (-1) (zI w) M' = _ := en
              rw [if_pos q4, bx_l, if_pos q4, ef, en, bd_i, il_B]
              by_cases q5 : tShd (wTr W m) (p : Int) w (-1) = true
              · rw [if_pos q5, bx_r, if_pos q5]
                split
                · exact no rfl
                · exact no rfl
              · have n1 : ∀ S : kS, pX9_need N 1 S = some (.inl (), S) := fun S => by
                  have := g_need (N := N) (S := S) (b := true)
                  rw [if_pos rfl] at this
                  exact this
                have n0 : ∀ S : kS, pX9_need N 0 S = some (.inr 3, S) := fun S => by
                  have := g_need (N := N) (S := S) (b := false)
                  rw [if_neg (by decide)] at this
                  exact this
                have nay : pX9_add_67 N 0 (zI (p : Nat)) (zI z) (zI w) m S = some (.inr 3, S) := by
                  simp only [pX9_add_67]
                  rw [n0, bx_r]
                rw [if_neg q5, bx_l, if_neg q5, K.2.2.2.2.2.2.2.2.2.1, il_le (by omega) (by omega) (by omega) (by omega), nay]
                by_cases q6 : wE W = 48
                · rw [if_pos (show (48 : Int) ≤ (wE W : Nat) by omega), if_pos (by omega)]
                  exact no rfl
                · have hE48 : wE W < 48 := by omega
                  obtain ⟨b, d1, d2⟩ := q_fits (N := N) (S := S) (kl := z) (by omega) K.1 h.1 (dK_of K) (dIn_of h) h5 h6
                  obtain ⟨b', d3, d4⟩ := r_isDrafted (N := N) (M := M') (kl := z) (by omega) R'.1 h.1 (dM_of R') (dIn_of h) (by omega) q1.2
                  have hbb : b' = b := by rw [Bool.eq_iff_iff, d2, d4]
                  rw [if_neg (show ¬ (48 : Int) ≤ (wE W : Nat) by omega), if_neg (by omega), d1, bk_i, il_B, d3, bd_i, il_B, hbb]
                  cases b with
                  | false =>
                    rw [if_neg (by decide), if_neg (by decide)]
                    exact no rfl
                  | true =>
                    have c0 := mk_add h hm q3 hE48 q1 (p := (p : Int)) (by omega) (by rw [Int.toNat_natCast]; exact hpt) (nm := w) q2
                    obtain ⟨w1, S5, S9, j, w2, w3, w4, w5, U⟩ := k_newA (N := N) (c := wChA W m z (p : Int) w) h K rfl rfl rfl
                    have w2 : pX0_init N (wN W) (0 : Int32) (zI (wE W : Nat)) (zI (p : Nat)) (zI z) (zI w) (nU S) = some ((), S5) := w2
                    obtain ⟨S10, w6, K2⟩ := k_made (N := N) (W := wNo W) (by omega) (wNo_ok h) U hm q3 c0
                    have w6 : pX9_record N m (wN W) (sC S9 (wN W) j) = some (.inl (), S10) := w6
                    obtain ⟨M6, w7, R2, w8⟩ := m_added (N := N) (by omega) h R' hm q3 hE48 (c := wChA W m z (p : Int) w) rfl rfl rfl c0
                    have w7 : (bd (pf_makes N (zI (m : Nat)) 0 (zI (wE W : Nat)) (zI z) (zI (p : Nat)) (zI w) M') fun v15 S16 => gd v15 250 (pf_add_125 N (pf_add_182 N) N v15 0 (mA S16 32 v15.toNatClampNeg (S16.1 31)))) = some (zI (wE W : Nat), M6) := w7
                    have W2 := wAd_ok h hm q3 hE48 (c := wChA W m z (p : Int) w) rfl c0
                    have gn : ∀ {γ : Type} (A : Option γ), gNew S A = A := fun A => if_pos w1
                    have hkn : kn S = wN W := K.2.2.2.1.1
                    have hk10 : kn S10 = wN W + 1 := K2.2.2.2.1.1
                    have hi0 : kI S10 0 = zI (wE W : Nat) := K2.2.2.2.2.2.2.2.2.2.1
                    have hf : kF S10 (wN W) 1 = zI (wE W : Nat) := by
                      have := (K2.2.2.2.1.2 (wN W) (by show wN W < wN W + 1; omega)).2.2.1
                      have e : wC (wNx (wNo W) m (wChA W m z (p : Int) w)) (wN W) = wChA W m z (p : Int) w := upf_s _ _ _
                      rw [e] at this
                      exact this
                    have K3 : kRel (sI S10 0 (zI ((wE W + 1 : Nat) : Int))) (wAd W m (wChA W m z (p : Int) w)) := by
                      have u : ∀ q, q ≠ 0 → kI (sI S10 0 (zI ((wE W + 1 : Nat) : Int))) q = kI S10 q := fun q hq => upd_o _ _ hq
                      have fo := K2.2.2.2.2.2.2.2.2.2.2.2.2
                      have fc := K2.2.2.1
                      exact kRel_e (W := wNx (wNo W) m (wChA W m z (p : Int) w)) (D := []) (en := wE W + 1) K2 (fun q hq => u q (by omega)) (fun _ _ => rfl) (fun _ _ => rfl) rfl rfl ⟨by rw [u 5 (by omega)]; exact K2.2.1.1, fun i hi => absurd hi (Nat.not_lt_zero i)⟩ ⟨by rw [u 6 (by omega)]; exact fc.1, by rw [u 7 (by omega)]; exact fc.2.1, fc.2.2⟩ (by rw [kI_sI, upd_s]) ⟨by rw [u 8 (by omega)]; exact fo.1, fo.2⟩
                    have i0 : kI (nU S) 0 = zI (wE W : Nat) := K.2.2.2.2.2.2.2.2.2.1
                    have yes : pX9_add_67 N 1 (zI (p : Nat)) (zI z) (zI w) m S = some (.inl (zI (wE W : Nat)), sI S10 0 (zI ((wE W + 1 : Nat) : Int))) := by
                      simp only [pX9_add_67, svk_i]
                      rw [n1, bx_l, gn, hkn, i0, w2, bk_i, gn_l (show wN W < kn S5 by omega), w4, bx_l, gn_l (show wN W < kn S9 by omega), gn_l (show wN W < kn (sC S9 (wN W) j) from by show wN W < kn S9; omega), w6, bx_l, hi0, zL_1, zI_add, show (wE W : Int) + 1 = ((wE W + 1 : Nat) : Int) by omega, gn_l (show wN W < kn (sI S10 0 (zI ((wE W + 1 : Nat) : Int))) from by show wN W < kn S10; omega), show kF (sI S10 0 (zI ((wE W + 1 : Nat) : Int))) (wN W) 1 = zI (wE W : Nat) from hf]
                    rw [if_pos rfl, if_pos rfl, yes, R'.2.2.2.2.2.2.2.2.1, w7]
                    exact opOk_v rfl rfl (by rw [w8]; exact thr_0 f) W2 K3 R2
            · rw [if_neg q4, bx_r, if_neg q4]
              split
              · exact no rfl
              · exact no rfl
          · rw [if_neg q3, bx_r, decide_eq_true (show wN W = 250 by omega), if_pos rfl]
            split
            · exact no rfl
            · exact no rfl
        · rw [if_neg q2, bx_r, if_neg (in_no (by omega)), fails_i, bd_i]
          exact opOk_x rfl rfl (Or.inr (Or.inl ⟨rfl, thr_k⟩)) h K (mRel_0 R')
      · have hi : ¬ hIs (wH W) z = true := by unfold hIs; rw [Bool.and_eq_true, decide_eq_true_eq, decide_eq_true_eq]; exact q1
        rw [if_neg hi, bx_r, if_neg (in_no (by omega))]
        exact no1 rfl
    · rw [if_neg hl, bx_r, if_neg hl]
      exact no1 rfl
end AE
