-- LEVEL 2, THE CALL ARE ALIKE: WHAT THE REFERENCE KEEPS
def kp1 (M : mS) (T : sT) (j : Nat) : Prop := M.2 57 j = zB (tLv T j) ∧ M.2 58 j = zI (tKl T j) ∧ M.2 59 j = zI (tPl T j) ∧ (tTh T j = true → M.2 60 j = zI (tSh T j)) ∧ M.2 61 j = zI (tLk T j)
def kpA (M : mS) (j : Nat) (x : Nat × Nat × Nat) : Prop := M.2 63 j = zI (x.1 : Nat) ∧ M.2 64 j = zI (x.2.1 : Nat) ∧ M.2 65 j = zI (x.2.2 : Nat)
/-- what is kept of a tree -/
def rKp (M : mS) (T : sT) : Prop := (∀ j, j < 48 → kp1 M T j) ∧ M.1 62 = zI ((tVs T).length : Nat) ∧ (∀ j x, (tVs T)[j]? = some x → kpA M j x) ∧ ∀ e k, e < 48 → k < 330 → M.2 66 (330 * e + k) = zI (tSy T e k : Nat)
def rfK (M M' : mS) : Prop := (∀ q, q ≠ 62 → M'.1 q = M.1 q) ∧ ∀ c, (c < 57 ∨ 66 < c) → M'.2 c = M.2 c
section OQ
variable {N : Nat} {S : kS} {M : mS} {W : sW} {T U : sT}
theorem mRel_K {M' : mS} (R : mRel M W) (f : rfK M M') : mRel M' W := by
  obtain ⟨r1, r2, ⟨r4, r5, r6, r7⟩, ⟨r8, r9, r10⟩, r11, r12, r13, r14, r15, r16, ⟨r17, r18⟩, r19⟩ := R
  have u : ∀ c, c < 57 → M'.2 c = M.2 c := fun c hc => f.2 c (Or.inl hc)
  have v : ∀ q, q < 57 → M'.1 q = M.1 q := fun q hq => f.1 q (by omega)
  refine ⟨rSc_e (v 1 (by omega)) (v 4 (by omega)) (fun d hd => u d (by omega)) r1, ⟨by rw [v 8 (by omega)]; exact r2.1, by rw [u 9 (by omega), u 10 (by omega)]; exact r2.2⟩, ⟨by rw [v 11 (by omega)]; exact r4, by rw [v 16 (by omega)]; exact r5, by rw [u 12 (by omega), u 13 (by omega), u 14 (by omega)]; exact r6, by rw [u 17 (by omega)]; exact r7⟩, ⟨by rw [v 22 (by omega)]; exact r8, r9, fun k hk => ⟨rCh_e (fun d a b => u d (by omega)) (r10 k hk).1, (r10 k hk).2⟩⟩, by rw [u 36 (by omega)]; exact r11, ?_, by rw [u 18 (by omega)]; exact r13, by rw [u 20 (by omega)]; exact r14, by rw [v 21 (by omega)]; exact r15, rWh_e (v 37 (by omega)) (v 47 (by omega)) (fun d a b => u d (by omega)) r16, ⟨by rw [v 52 (by omega)]; exact r17, by rw [u 53 (by omega)]; exact r18⟩, by rw [v 31 (by omega), u 33 (by omega)]; exact r19⟩
  unfold rVw at *
  rw [u 19 (by omega)]
  exact r12
def kF2 (M M' : mS) : Prop := M'.1 = M.1 ∧ ∀ c, (c < 57 ∨ 61 < c) → M'.2 c = M.2 c
theorem r_keeps_2 (L : rLd M T) {k73 : mS → Option (Int32 × mS)} : ∀ (n k i : Nat) (M' : mS), i + k = 48 → k < n → kF2 M M' → (∀ j, j < i → kp1 M' T j) → ∃ M2, pf_keeps_2 N k73 n (zI (i : Nat)) M' = k73 M2 ∧ kF2 M M2 ∧ ∀ j, j < 48 → kp1 M2 T j
  | 0, k, i, M', hk, hn, f, h => by omega
  | n + 1, k, i, M', hk, hn, f, h => by
    simp only [pf_keeps_2, nm_i, sv_i]
    rw [zL_48, il_le (by omega) (by omega) (by omega) (by omega)]
    cases k with
    | zero =>
      have : i = 48 := by omega
      subst this
      rw [if_pos (by omega)]
      exact ⟨M', rfl, f, h⟩
    | succ k =>
      have hi : i < 48 := by omega
      have L' : rLd M' T := rLd_e (by rw [f.1]) (fun d a b => f.2 d (by omega)) L
      have ek : zI (i : Nat) + 1 = zI ((i + 1 : Nat) : Int) := by rw [zL_1, zI_add]; congr 1
      rw [if_neg (by omega), r_isLive L'.1 (by omega) (by omega), bd_i]
      simp only [gd_n hi (show (48 : Nat) < 2147483648 by omega), zI_cn (show i < 2147483648 by omega)]
      rw [ek, zB_nar]
      generalize hM3 : mA M' 57 i (zB (tLv T (i : Nat))) = M3
      have a3 : ∀ q, q ≠ 57 → M3.2 q = M'.2 q := fun q hq => by rw [← hM3]; exact mA_o _ _ _ hq
      have b3 : M3.2 57 = upd (M'.2 57) i (zB (tLv T (i : Nat))) := by rw [← hM3]; exact mA_s _ _ _ _
      have c3 : M3.1 = M'.1 := by rw [← hM3]; rfl
      generalize hM4 : mA M3 58 i (M3.2 40 i) = M4
      have a4 : ∀ q, q ≠ 58 → M4.2 q = M3.2 q := fun q hq => by rw [← hM4]; exact mA_o _ _ _ hq
      have b4 : M4.2 58 = upd (M3.2 58) i (M3.2 40 i) := by rw [← hM4]; exact mA_s _ _ _ _
      have c4 : M4.1 = M3.1 := by rw [← hM4]; rfl
      generalize hM5 : mA M4 59 i (M4.2 45 i) = M5
      have a5 : ∀ q, q ≠ 59 → M5.2 q = M4.2 q := fun q hq => by rw [← hM5]; exact mA_o _ _ _ hq
      have b5 : M5.2 59 = upd (M4.2 59) i (M4.2 45 i) := by rw [← hM5]; exact mA_s _ _ _ _
      have c5 : M5.1 = M4.1 := by rw [← hM5]; rfl
      generalize hM6 : mA M5 60 i (M5.2 46 i) = M6
      have a6 : ∀ q, q ≠ 60 → M6.2 q = M5.2 q := fun q hq => by rw [← hM6]; exact mA_o _ _ _ hq
      have b6 : M6.2 60 = upd (M5.2 60) i (M5.2 46 i) := by rw [← hM6]; exact mA_s _ _ _ _
      have c6 : M6.1 = M5.1 := by rw [← hM6]; rfl
      generalize hM7 : mA M6 61 i (M6.2 43 i) = M7
      have a7 : ∀ q, q ≠ 61 → M7.2 q = M6.2 q := fun q hq => by rw [← hM7]; exact mA_o _ _ _ hq
      have b7 : M7.2 61 = upd (M6.2 61) i (M6.2 43 i) := by rw [← hM7]; exact mA_s _ _ _ _
      have c7 : M7.1 = M6.1 := by rw [← hM7]; rfl
      refine r_keeps_2 L n k (i + 1) M7 (by omega) (by omega) ⟨by rw [c7, c6, c5, c4, c3, f.1], fun c hc => ?_⟩ (fun j hj => ?_)
      · rw [a7 c (by omega), a6 c (by omega), a5 c (by omega), a4 c (by omega), a3 c (by omega)]
        exact f.2 c hc
      · unfold kp1
        rw [a7 57 (by omega), a6 57 (by omega), a5 57 (by omega), a4 57 (by omega), b3, a7 58 (by omega), a6 58 (by omega), a5 58 (by omega), b4, a3 58 (by omega), a3 40 (by omega), a7 59 (by omega), a6 59 (by omega), b5, a4 59 (by omega), a3 59 (by omega), a4 45 (by omega), a3 45 (by omega), a7 60 (by omega), b6, a5 60 (by omega), a4 60 (by omega), a3 60 (by omega), a5 46 (by omega), a4 46 (by omega), a3 46 (by omega), b7, a6 61 (by omega), a5 61 (by omega), a4 61 (by omega), a3 61 (by omega), a6 43 (by omega), a5 43 (by omega), a4 43 (by omega), a3 43 (by omega)]
        by_cases q : j = i
        · subst q
          rw [upd_s, upd_s, upd_s, upd_s, upd_s]
          exact ⟨rfl, L'.1.2.2.1 j hi, L'.2.2.1 j hi, fun ht => L'.2.2.2 j hi ht, L'.1.2.2.2.2.2.1 j hi⟩
        · rw [upd_o _ _ q, upd_o _ _ q, upd_o _ _ q, upd_o _ _ q, upd_o _ _ q]
          exact h j (by omega)
theorem r_keeps_75 {k100 : mS → Option (Int32 × mS)} : ∀ (n k i : Nat) (M' : mS), i + k = 15840 → k < n → rf1 66 M M' → (∀ j, j < i → M'.2 66 j = M.2 51 j) → ∃ M2, pf_keeps_75 N k100 n (zI (i : Nat)) M' = k100 M2 ∧ rf1 66 M M2 ∧ ∀ j, j < 15840 → M2.2 66 j = M.2 51 j
  | 0, k, i, M', hk, hn, f, h => by omega
  | n + 1, k, i, M', hk, hn, f, h => by
    simp only [pf_keeps_75, nm_i, sv_i]
    rw [zL_15840, il_le (by omega) (by omega) (by omega) (by omega)]
    cases k with
    | zero =>
      have : i = 15840 := by omega
      subst this
      rw [if_pos (by omega)]
      exact ⟨M', rfl, f, h⟩
    | succ k =>
      have ek : zI (i : Nat) + 1 = zI ((i + 1 : Nat) : Int) := by rw [zL_1, zI_add]; congr 1
      rw [if_neg (by omega), gd_n (show i < 15840 by omega) (by omega), gd_n (show i < 15840 by omega) (by omega), zI_cn (by omega), ek]
      refine r_keeps_75 n k (i + 1) _ (by omega) (by omega) (f.trans rf1_mA) (fun j hj => ?_)
      rw [mA_s]
      by_cases q : j = i
      · rw [q, upd_s, f.2 51 (by omega)]
      · rw [upd_o _ _ q]; exact h j (by omega)
def kF3 (M M' : mS) : Prop := M'.1 = M.1 ∧ ∀ c, (c < 63 ∨ 65 < c) → M'.2 c = M.2 c
theorem r_keeps_110 {vs : List (Nat × Nat × Nat)} (hv : M.1 47 = zI (vs.length : Nat) ∧ vs.length ≤ 900 ∧ ∀ j x, vs[j]? = some x → rAt M j x) : ∀ (n k i : Nat) (M' : mS), i + k = vs.length → k < n → kF3 M M' → (∀ j x, j < i → vs[j]? = some x → kpA M' j x) → ∃ M2, pf_keeps_110 N n (zI (i : Nat)) M' = some ((0 : Int32), M2) ∧ kF3 M M2 ∧ ∀ j x, vs[j]? = some x → kpA M2 j x
  | 0, k, i, M', hk, hn, f, h => by omega
  | n + 1, k, i, M', hk, hn, f, h => by
    simp only [pf_keeps_110, nm_i, sv_i]
    rw [f.1, hv.1, il_le (by omega) (by omega) (by omega) (by omega)]
    cases k with
    | zero =>
      rw [if_pos (by omega)]
      exact ⟨M', rfl, f, fun j x hx => h j x (by
        have := (List.getElem?_eq_some_iff.mp hx).1
        omega) hx⟩
    | succ k =>
      have hi : i < 900 := by omega
      have ek : zI (i : Nat) + 1 = zI ((i + 1 : Nat) : Int) := by rw [zL_1, zI_add]; congr 1
      obtain ⟨x, hx⟩ : ∃ x, vs[i]? = some x := ⟨vs[i], List.getElem?_eq_getElem (by omega)⟩
      obtain ⟨r1, r2, r3⟩ := hv.2.2 i x hx
      rw [if_neg (by omega)]
      simp only [gd_n hi (show (900 : Nat) < 2147483648 by omega), zI_cn (show i < 2147483648 by omega)]
      rw [ek]
      generalize hM3 : mA M' 63 i (M'.2 48 i) = M3
      have a3 : ∀ q, q ≠ 63 → M3.2 q = M'.2 q := fun q hq => by rw [← hM3]; exact mA_o _ _ _ hq
      have b3 : M3.2 63 = upd (M'.2 63) i (M'.2 48 i) := by rw [← hM3]; exact mA_s _ _ _ _
      have c3 : M3.1 = M'.1 := by rw [← hM3]; rfl
      generalize hM4 : mA M3 64 i (M3.2 49 i) = M4
      have a4 : ∀ q, q ≠ 64 → M4.2 q = M3.2 q := fun q hq => by rw [← hM4]; exact mA_o _ _ _ hq
      have b4 : M4.2 64 = upd (M3.2 64) i (M3.2 49 i) := by rw [← hM4]; exact mA_s _ _ _ _
      have c4 : M4.1 = M3.1 := by rw [← hM4]; rfl
      generalize hM5 : mA M4 65 i (M4.2 50 i) = M5
      have a5 : ∀ q, q ≠ 65 → M5.2 q = M4.2 q := fun q hq => by rw [← hM5]; exact mA_o _ _ _ hq
      have b5 : M5.2 65 = upd (M4.2 65) i (M4.2 50 i) := by rw [← hM5]; exact mA_s _ _ _ _
      have c5 : M5.1 = M4.1 := by rw [← hM5]; rfl
      refine r_keeps_110 hv n k (i + 1) M5 (by omega) (by omega) ⟨by rw [c5, c4, c3, f.1], fun c hc => ?_⟩ (fun j y hj hy => ?_)
      · rw [a5 c (by omega), a4 c (by omega), a3 c (by omega)]
        exact f.2 c hc
      · unfold kpA
        rw [a5 63 (by omega), a4 63 (by omega), b3, a5 64 (by omega), b4, a3 64 (by omega), a3 49 (by omega), b5, a4 65 (by omega), a3 65 (by omega), a4 50 (by omega), a3 50 (by omega)]
        by_cases q : j = i
        · subst q
          rw [upd_s, upd_s, upd_s, f.2 48 (by omega), f.2 49 (by omega), f.2 50 (by omega)]
          have : y = x := by rw [hx] at hy; exact (Option.some.inj hy).symm
          rw [this]
          exact ⟨r1, r2, r3⟩
        · rw [upd_o _ _ q, upd_o _ _ q, upd_o _ _ q]
          exact h j y (by omega) hy
theorem r_keeps (hN : 20000 ≤ N) (L : rLd M T) : ∃ M', pf_keeps N M = some ((0 : Int32), M') ∧ rKp M' T ∧ rfK M M' := by
  obtain ⟨M1, e1, f1, g1⟩ := r_keeps_2 (N := N) L (k73 := pf_keeps_73 N) N 48 0 M (by omega) (by omega) ⟨rfl, fun _ _ => rfl⟩ (fun j hj => by omega)
  obtain ⟨M2, e2, f2, g2⟩ := r_keeps_75 (N := N) (M := M1) (k100 := pf_keeps_100 N) N 15840 0 M1 (by omega) (by omega) rf1.rf (fun j hj => by omega)
  have V := L.1.2.2.2.2.2.2.1
  have hlen := V.2.1
  obtain ⟨M3, e3, f3, g3⟩ := r_keeps_110 (N := N) (M := mI M2 62 (M2.1 47)) (vs := tVs T) ⟨by rw [mI_1, upd_o _ _ (by omega), f2.1, f1.1]; exact V.1, hlen, fun j x hx => by
    obtain ⟨r1, r2, r3⟩ := V.2.2 j x hx
    unfold rAt
    rw [mI_2, f2.2 48 (by omega), f2.2 49 (by omega), f2.2 50 (by omega), f1.2 48 (by omega), f1.2 49 (by omega), f1.2 50 (by omega)]
    exact ⟨r1, r2, r3⟩⟩ N (tVs T).length 0 (mI M2 62 (M2.1 47)) (by omega) (by omega) ⟨rfl, fun _ _ => rfl⟩ (fun j x hj => by omega)
  have e1 : pf_keeps_2 N (pf_keeps_73 N) N 0 M = _ := e1
  have e2 : pf_keeps_75 N (pf_keeps_100 N) N 0 M1 = _ := e2
  have e3 : pf_keeps_110 N N 0 (mI M2 62 (M2.1 47)) = _ := e3
  have r3 : ∀ c, (c < 63 ∨ 65 < c) → M3.2 c = M2.2 c := fun c hc => by rw [f3.2 c hc, mI_2]
  have i3 : ∀ q, q ≠ 62 → M3.1 q = M.1 q := fun q hq => by rw [f3.1, mI_1, upd_o _ _ hq, f2.1, f1.1]
  refine ⟨M3, ?_, ⟨fun j hj => ?_, ?_, g3, fun e k he hk => ?_⟩, i3, fun c hc => ?_⟩
  · simp only [pf_keeps]
    rw [e1]
    simp only [pf_keeps_73]
    rw [e2]
    simp only [pf_keeps_100, sv_i]
    exact e3
  · have := g1 j hj
    unfold kp1 at *
    rw [r3 57 (by omega), r3 58 (by omega), r3 59 (by omega), r3 60 (by omega), r3 61 (by omega), f2.2 57 (by omega), f2.2 58 (by omega), f2.2 59 (by omega), f2.2 60 (by omega), f2.2 61 (by omega)]
    exact this
  · rw [f3.1, mI_1, upd_s, f2.1, f1.1]
    exact V.1
  · rw [r3 66 (by omega), g2 _ (by omega), f1.2 51 (by omega)]
    exact L.1.2.2.2.2.2.2.2 e k he hk
  · rw [r3 c (by omega), f2.2 c (by omega), f1.2 c (by omega)]
theorem rKp_l {M' : mS} (f : rfL M M') (R : rKp M U) : rKp M' U := by
  obtain ⟨r1, r2, r3, r4⟩ := R
  refine ⟨fun j hj => ?_, by rw [f.1 62 (by omega) (by omega)]; exact r2, fun j x hx => ?_, fun e k he hk => by rw [f.2 66 (by omega)]; exact r4 e k he hk⟩
  · have := r1 j hj
    unfold kp1 at *
    rw [f.2 57 (by omega), f.2 58 (by omega), f.2 59 (by omega), f.2 60 (by omega), f.2 61 (by omega)]
    exact this
  · have := r3 j x hx
    unfold kpA at *
    rw [f.2 63 (by omega), f.2 64 (by omega), f.2 65 (by omega)]
    exact this
end OQ
