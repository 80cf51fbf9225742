-- LEVEL 2, THE CALL FOLLOW
def mt0 : Nat → Nat → Bool := fun _ _ => false
def bsS (W : sW) (sc : Nat) (r : Option (Nat × Nat)) : List Nat := match r with
  | none => []
  | some (a, b) => if sc = 0 then [] else kds W a b
def bsF (W : sW) (u sc : Nat) (r : Option (Nat × Nat)) : List Nat := match r with
  | none => []
  | some (a, b) => if sc = 1 then [] else nxF W u (some (a, b)) []
section FD
variable {N : Nat} {S : kS} {M : mS} {W : sW} {u sc : Nat}
theorem fJ_base (h : wOk W) {m b : Nat} (hm : m < 4) (hb : b < 48) : fJ W (arr W 193 mt0 m b).1 (bsS W sc (arr W 193 mt0 m b).2) (bsF W u sc (arr W 193 mt0 m b).2) := by
  obtain ⟨a1, a2⟩ := arr_ok h 193 mt0 m b hm (by omega)
  obtain ⟨p1, p2⟩ := phi_arr h a1
  have p0 := phi_le (W := W) mt0
  generalize arr W 193 mt0 m b = r at *
  obtain ⟨met', o⟩ := r
  cases o with
  | none =>
    have p1 : phi W met' ≤ phi W mt0 := p1
    exact ⟨by show 0 + 0 + phi W met' ≤ 189; omega, fun s hs => absurd hs List.not_mem_nil, fun s hs => absurd hs List.not_mem_nil⟩
  | some ab =>
    obtain ⟨a, b⟩ := ab
    obtain ⟨b1, b2, b3, b4, b5⟩ := a2 a b rfl
    have q := p2 a b b1 b2 b4 b5
    have q : phi W met' + (kds W a b).length ≤ phi W mt0 := q
    have lF : (bsF W u sc (some (a, b))).length ≤ 1 := by
      show (if sc = 1 then [] else if lok W u a b = true then [] ++ [100 * a + b] else []).length ≤ 1
      split
      · exact Nat.zero_le _
      · split
        · exact Nat.le_refl _
        · exact Nat.zero_le _
    have lS : (bsS W sc (some (a, b))).length ≤ (kds W a b).length := by
      show (if sc = 0 then [] else kds W a b).length ≤ _
      split
      · exact Nat.zero_le _
      · exact Nat.le_refl _
    refine ⟨by show (bsF W u sc (some (a, b))).length + (bsS W sc (some (a, b))).length + phi W met' ≤ 189; omega, fun s hs => ?_, fun s hs => ?_⟩
    · have hs : s ∈ (if sc = 0 then [] else kds W a b) := hs
      split at hs
      · exact absurd hs List.not_mem_nil
      · exact kds_mem h b1 hs
    · have hs : s ∈ (if sc = 1 then [] else if lok W u a b = true then [] ++ [100 * a + b] else []) := hs
      split at hs
      · exact absurd hs List.not_mem_nil
      · split at hs
        · rcases List.mem_append.mp hs with g | g
          · exact absurd g List.not_mem_nil
          · rw [List.mem_singleton] at g; omega
        · exact absurd hs List.not_mem_nil
/-- what a call follow finds -/
def flF (W : sW) (m sc b : Nat) : List Nat := lpF W (wU W m) sc 192 (arr W 193 mt0 m b).1 (bsS W sc (arr W 193 mt0 m b).2) (bsF W (wU W m) sc (arr W 193 mt0 m b).2)
theorem q_byLinks (hN : 20000 ≤ N) (h : wOk W) (K : kRel S W) {m b : Nat} (hm : m < 4) (hb : b < 48) (hsc : sc < 3) (hK1 : (wK W).length = 1) : ∃ S', pX3_byLinks N (zI (m : Nat)) (zI (b : Nat)) (zI (sc : Nat)) S = some (zI ((flF W m sc b).length : Nat), S') ∧ kRel S' (wFd W (flF W m sc b)) := by
  have hu := h.2.2.2.2.2.1 m hm
  obtain ⟨S1, e1, e2, f⟩ := q_fillJ (N := N) (c := 15) (z := 4) (v := 0) (S := sI (sI (sI S 10 (zI (wU W m : Nat))) 8 0) 9 0) (by omega) (by omega)
  have i3 : kI S1 = upd (upd (upd (kI S) 10 (zI (wU W m : Nat))) 8 0) 9 0 := f.2.2.2.1
  have K1 : fK S1 W (wU W m) mt0 [] [] := by
    refine ⟨kRel_F K (fun q hq => by rw [i3, upd_o _ _ (by omega), upd_o _ _ (by omega), upd_o _ _ (by omega)]) (fun c _ _ => by rw [f.2.1]; rfl) (fun c hc => by rw [f.1 c (by omega)]; rfl) (f.2.2.1.trans rfl) (f.2.2.2.2.trans rfl) ⟨by rw [i3, upd_o _ _ (by omega), upd_s]; rfl, fun i hi => absurd hi (Nat.not_lt_zero _)⟩, by rw [i3, upd_o _ _ (by omega), upd_o _ _ (by omega), upd_s], by rw [i3, upd_s]; rfl, fun s hs => absurd hs (Nat.not_lt_zero _), fun a e ha he => ?_⟩
    rw [e2 a ha, lb_0]
    show false = (decide (e < 48) && false)
    rw [Bool.and_false]
  obtain ⟨S2, a1, a2⟩ := q_arriveFrom (N := N) hN h (show ([] : List Nat).length ≤ 192 by decide) (fun s hs => absurd hs List.not_mem_nil) K1 (x := 100 * m + b) (by omega)
  rw [show (100 * m + b) / 100 = m by omega, show (100 * m + b) % 100 = b by omega] at a1 a2
  have aok := (arr_ok h 193 mt0 m b hm (by omega)).2
  have J := fJ_base (u := wU W m) (sc := sc) h hm hb
  have s1 : (zI (sc : Nat) = (1 : Int32)) ↔ sc = 1 := by rw [zL_1, zI_eq (by omega) (by omega) (by omega) (by omega)]; omega
  have s0 : (zI (sc : Nat) = (0 : Int32)) ↔ sc = 0 := by rw [zL_0, zI_eq (by omega) (by omega) (by omega) (by omega)]; omega
  have ex : (zI (m : Nat) * (100 : Int32)) + zI (b : Nat) = zI ((100 * m + b : Nat) : Int) := by
    rw [zL_100, zI_mul, zI_add]
    congr 1
    omega
  simp only [pX3_byLinks, svk_i]
  rw [gm_n hm, K.2.2.2.2.2.2.1 m hm, e1, bk_i, ex, a1, bk_i]
  unfold flF
  have ih := q_byLinks_79 (N := N) hN h hu hsc hK1 N 192 0 (arr W 193 mt0 m b).1 (bsS W sc (arr W 193 mt0 m b).2) (bsF W (wU W m) sc (arr W 193 mt0 m b).2)
  have ih := fun S Q => ih S (by omega) (by omega) J Q
  generalize arr W 193 mt0 m b = r at *
  obtain ⟨met', o⟩ := r
  simp only [pX3_byLinks_60, pX3_byLinks_76]
  cases o with
  | none =>
    try dsimp only
    rw [if_pos (show zI (arS none) = (-1 : Int32) from rfl), if_pos (show zI (arS none) = (-1 : Int32) from rfl)]
    exact ih S2 a2
  | some ab =>
    obtain ⟨a, b'⟩ := ab
    obtain ⟨b1, b2, b3, b4, b5⟩ := aok a b' rfl
    have nm1 : ¬ zI (arS (some (a, b'))) = (-1 : Int32) := by
      show ¬ zI ((100 * a + b' : Nat) : Int) = (-1 : Int32)
      rw [zL_m1, zI_eq (by omega) (by omega) (by omega) (by omega)]
      omega
    have J0 := J.1
    have J0 : (bsF W (wU W m) sc (some (a, b'))).length + (bsS W sc (some (a, b'))).length + phi W met' ≤ 189 := J0
    have fin : ∀ S3, fK S3 W (wU W m) met' [] (bsF W (wU W m) sc (some (a, b'))) → ∃ S', (if zI (arS (some (a, b'))) = (-1 : Int32) then pX3_byLinks_79 N (pX3_byLinks_148 N) N (zI (sc : Nat)) (0 : Int32) S3 else (if zI (sc : Nat) = (0 : Int32) then pX3_byLinks_79 N (pX3_byLinks_148 N) N (zI (sc : Nat)) (0 : Int32) S3 else (bk (pX3_awaitChildrenOf N (zI (arS (some (a, b')))) S3) fun _ S102 => pX3_byLinks_79 N (pX3_byLinks_148 N) N (zI (sc : Nat)) (0 : Int32) S102))) = some (zI ((lpF W (wU W m) sc 192 met' (bsS W sc (some (a, b'))) (bsF W (wU W m) sc (some (a, b')))).length : Nat), S') ∧ kRel S' (wFd W (lpF W (wU W m) sc 192 met' (bsS W sc (some (a, b'))) (bsF W (wU W m) sc (some (a, b'))))) := fun S3 K3 => by
      rw [if_neg nm1]
      by_cases z : sc = 0
      · have hns : bsS W sc (some (a, b')) = [] := if_pos z
        rw [if_pos (s0.mpr z)]
        exact ih S3 (by show fK S3 W _ met' (bsS W sc (some (a, b'))) _; rw [hns]; exact K3)
      · have hns : bsS W sc (some (a, b')) = kds W a b' := if_neg z
        rw [hns] at J0
        obtain ⟨S4, d1, d2⟩ := q_await (N := N) hN h (show (bsF W (wU W m) sc (some (a, b'))).length ≤ 192 by omega) J.2.2 K3 b1 b2 (by rw [List.length_nil]; omega)
        have d1 : pX3_awaitChildrenOf N (zI (arS (some (a, b')))) S3 = some ((), S4) := d1
        rw [if_neg (fun g => z (s0.mp g)), d1, bk_i]
        rw [List.append_nil] at d2
        exact ih S4 (by show fK S4 W _ met' (bsS W sc (some (a, b'))) _; rw [hns]; exact d2)
    try dsimp only
    rw [if_neg nm1]
    by_cases z1 : sc = 1
    · have hns : bsF W (wU W m) sc (some (a, b')) = [] := if_pos z1
      rw [if_pos (s1.mpr z1)]
      exact fin S2 (by rw [hns]; exact a2)
    · have hns : bsF W (wU W m) sc (some (a, b')) = nxF W (wU W m) (some (a, b')) [] := if_neg z1
      obtain ⟨S3, c1, c2⟩ := q_lookAt (N := N) hN h hu hK1 (show ([] : List Nat).length < 192 by decide) (fun s hs => absurd hs List.not_mem_nil) a2 b1 b2
      have c1 : pX3_lookAt N (zI (arS (some (a, b')))) S2 = some ((), S3) := c1
      rw [if_neg (fun g => z1 (s1.mp g)), c1, bk_i]
      exact fin S3 (by rw [hns]; exact c2)
theorem r_follow_23 {k45 : Int32 → Int32 → Int32 → mS → Option (Int32 × mS)} {x1 x2 x3 : Int32} : ∀ (n k i : Nat) (M : mS), i + k = 192 → k < n → (∀ j, j < i → M.2 56 j = zB false) → ∃ M2, pf_follow_23 N k45 n x1 x2 x3 (zI (i : Nat)) M = k45 x1 x2 x3 M2 ∧ (∀ j, j < 192 → M2.2 56 j = zB false) ∧ M2.1 = M.1 ∧ ∀ d, d ≠ 56 → M2.2 d = M.2 d
  | 0, k, i, M, hi, hn, h => by omega
  | n + 1, k, i, M, hi, hn, h => by
    have b0 : vp_nar .boolean (0 : Int32) = zB false := zB_nar false
    simp only [pf_follow_23, nm_i, sv_i]
    rw [zL_192, il_le (by omega) (by omega) (by omega) (by omega)]
    cases k with
    | zero =>
      rw [if_pos (by omega)]
      exact ⟨M, rfl, fun j hj => h j (by omega), rfl, fun _ _ => rfl⟩
    | succ k =>
      have ek : zI (i : Nat) + 1 = zI ((i + 1 : Nat) : Int) := by rw [zL_1, zI_add]; congr 1
      rw [if_neg (by omega), b0, gd_n (show i < 192 by omega) (by omega), zI_cn (by omega), ek]
      obtain ⟨M2, c1, c2, c3, c4⟩ := r_follow_23 (k45 := k45) (x1 := x1) (x2 := x2) (x3 := x3) n k (i + 1) (mA M 56 i (zB false)) (by omega) (by omega) (fun j hj => by
        rw [mA_s]
        by_cases z : j = i
        · rw [z, upd_s]
        · rw [upd_o _ _ z]; exact h j (by omega))
      exact ⟨M2, c1, c2, by rw [c3, mA_1], fun d hd => by rw [c4 d hd, mA_o _ _ _ hd]⟩
theorem r_base (hN : 20000 ≤ N) (h : wOk W) {m b : Nat} (hm : m < 4) (hb : b < 48) (hsc : sc < 3) (hK1 : (wK W).length = 1) {fuel : Nat} (hf : 192 < fuel) (R : fM M W mt0 [100 * m + b] []) : ∃ M', pf_follow_70 N (pf_follow_163 N) (fuel + 1) (zI (m : Nat)) (zI (sc : Nat)) 1 M = some (zI ((flF W m sc b).length : Nat), M') ∧ mRel M' (wFd W (flF W m sc b)) ∧ M'.1 0 = 0 := by
  have hu := h.2.2.2.2.2.1 m hm
  have e54 : M.1 54 = zI 1 := R.2.2.1
  have i0 : ¬ (zI 1 ≤ (0 : Int32)) := by decide
  have es : zI 1 - (1 : Int32) = zI ((0 : Nat) : Int) := by decide
  have e9 : (mI M 54 (zI ((0 : Nat) : Int))).1 54 = zI ((0 : Nat) : Int) := by rw [mI_1, upd_s]
  have r16 : (mI M 54 (zI ((0 : Nat) : Int))).2 55 0 = zI ((100 * m + b : Nat) : Int) := R.2.2.2.1 0 (Nat.zero_lt_one)
  have R1 : fM (mI M 54 (zI ((0 : Nat) : Int))) W mt0 [] [] := by
    obtain ⟨r1, r2, r3, r4, r5⟩ := R
    exact ⟨mRel_x (W := wFd W []) r1 (fun q _ _ => by rw [mI_1, upd_o _ _ (by omega)]) (fun _ _ _ => rfl), by rw [mI_1, upd_o _ _ (by omega)]; exact r2, e9, fun s hs => absurd hs (Nat.not_lt_zero _), r5⟩
  obtain ⟨M2, a1, a2, a3⟩ := r_arrives (N := N) hN h (show ([] : List Nat).length ≤ 192 by decide) (fun s hs => absurd hs List.not_mem_nil) R1 (x := 100 * m + b) (by omega)
  rw [show (100 * m + b) / 100 = m by omega, show (100 * m + b) % 100 = b by omega] at a1 a2 a3
  have aok := (arr_ok h 193 mt0 m b hm (by omega)).2
  have J := fJ_base (u := wU W m) (sc := sc) h hm hb
  have s2 : (zI (sc : Nat) = (2 : Int32)) ↔ sc = 2 := by rw [zL_2, zI_eq (by omega) (by omega) (by omega) (by omega)]; omega
  have s1 : (zI (sc : Nat) = (1 : Int32)) ↔ sc = 1 := by rw [zL_1, zI_eq (by omega) (by omega) (by omega) (by omega)]; omega
  have one : ¬ ((1 : Int32) = 0) := by decide
  have ih := r_follow_70 (N := N) hN h hm hsc hK1 192 fuel (arr W 193 mt0 m b).1 (bsS W sc (arr W 193 mt0 m b).2) (bsF W (wU W m) sc (arr W 193 mt0 m b).2)
  have ih := fun M Q => ih M (by have := J.1; omega) hf J Q
  rw [pf_follow_70]
  simp only [sv_i]
  rw [e54, if_neg i0, es, e9, gd_n (show 0 < 400 by omega) (by omega), zI_cn (by omega), r16, a1, bd_i]
  unfold flF
  generalize arr W 193 mt0 m b = r at *
  obtain ⟨met', o⟩ := r
  cases o with
  | none =>
    try dsimp only
    rw [if_pos (show zI (arS none) = (-1 : Int32) from rfl)]
    unfold pf_follow_130 pf_follow_157
    rw [if_pos (show zI (arS none) = (-1 : Int32) from rfl)]
    exact ih M2 a2
  | some ab =>
    obtain ⟨a, b'⟩ := ab
    obtain ⟨b1, b2, b3, b4, b5⟩ := aok a b' rfl
    have nm1 : ¬ zI (arS (some (a, b'))) = (-1 : Int32) := by
      show ¬ zI ((100 * a + b' : Nat) : Int) = (-1 : Int32)
      rw [zL_m1, zI_eq (by omega) (by omega) (by omega) (by omega)]
      omega
    have rest : ∀ M3, fM M3 W met' [] (bsF W (wU W m) sc (some (a, b'))) → rLd M3 (wTr W a) → ∃ M', pf_follow_130 N (pf_follow_70 N (pf_follow_163 N) fuel) (zI (m : Nat)) (zI (sc : Nat)) 1 (zI (arS (some (a, b')))) M3 = some (zI ((lpF W (wU W m) sc 192 met' (bsS W sc (some (a, b'))) (bsF W (wU W m) sc (some (a, b')))).length : Nat), M') ∧ mRel M' (wFd W (lpF W (wU W m) sc 192 met' (bsS W sc (some (a, b'))) (bsF W (wU W m) sc (some (a, b'))))) ∧ M'.1 0 = 0 := fun M3 R3 L3 => by
      have wt : sc ≠ 0 → ∃ M', pf_follow_151 N (pf_follow_70 N (pf_follow_163 N) fuel) (zI (m : Nat)) (zI (sc : Nat)) (zI (arS (some (a, b')))) M3 = some (zI ((lpF W (wU W m) sc 192 met' (bsS W sc (some (a, b'))) (bsF W (wU W m) sc (some (a, b')))).length : Nat), M') ∧ mRel M' (wFd W (lpF W (wU W m) sc 192 met' (bsS W sc (some (a, b'))) (bsF W (wU W m) sc (some (a, b'))))) ∧ M'.1 0 = 0 := fun z => by
        have hns : bsS W sc (some (a, b')) = kds W a b' := if_neg z
        obtain ⟨M4, d1, d2⟩ := r_waits (N := N) hN h R3 b1 b2 L3 (show ([] : List Nat).length < 300 by decide)
        have d1 : pf_waits N (zI (arS (some (a, b')))) M3 = some ((0 : Int32), M4) := d1
        rw [List.append_nil] at d2
        unfold pf_follow_151 pf_follow_157
        rw [d1, bd_i]
        exact ih M4 (by show fM M4 W met' (bsS W sc (some (a, b'))) _; rw [hns]; exact d2)
      unfold pf_follow_130
      rw [if_neg nm1]
      by_cases z2 : sc = 2
      · rw [if_pos (s2.mpr z2)]
        exact wt (by omega)
      · rw [if_neg (fun g => z2 (s2.mp g))]
        by_cases z1 : sc = 1
        · rw [if_pos (s1.mpr z1), if_neg one]
          exact wt (by omega)
        · have hns : bsS W sc (some (a, b')) = [] := if_pos (by omega)
          rw [if_neg (fun g => z1 (s1.mp g))]
          unfold pf_follow_157
          exact ih M3 (by show fM M3 W met' (bsS W sc (some (a, b'))) _; rw [hns]; exact R3)
    try dsimp only
    rw [if_neg nm1]
    by_cases z1 : sc = 1
    · have hns : bsF W (wU W m) sc (some (a, b')) = [] := if_pos z1
      rw [if_pos (s1.mpr z1), if_neg one]
      exact rest M2 (by rw [hns]; exact a2) (a3 a b' rfl)
    · have hns : bsF W (wU W m) sc (some (a, b')) = nxF W (wU W m) (some (a, b')) [] := if_neg z1
      obtain ⟨M3, c1, c2, c3⟩ := r_looks (N := N) hN h hu hK1 (show ([] : List Nat).length < 192 by decide) (fun s hs => absurd hs List.not_mem_nil) a2 b1 b2 (a3 a b' rfl)
      have c1 : pf_looks N (zI (arS (some (a, b')))) (zI (wU W m : Nat)) M2 = some ((0 : Int32), M3) := c1
      rw [if_neg (fun g => z1 (s1.mp g))]
      unfold pf_follow_118
      rw [gd_n hm (by omega), zI_cn (by omega), a2.1.2.2.2.2.2.2.1 m hm]
      show ∃ M', bd (pf_looks N (zI (arS (some (a, b')))) (zI (wU W m : Nat)) M2) _ = _ ∧ _
      rw [c1, bd_i]
      exact rest M3 (by rw [hns]; exact c2) c3
theorem op_follow (hN : 20000 ≤ N) (h : wOk W) (K : kRel S W) (R : mRel M W) (x y z : Int32) : opOk 1 3 0 (pX9_follow N x y z S) (pf_follow N x y z M) := by
  obtain ⟨x, h1, h2, rfl⟩ := zI_of x
  obtain ⟨y, h3, h4, rfl⟩ := zI_of y
  obtain ⟨z, h5, h6, rfl⟩ := zI_of z
  obtain ⟨M', code, e, R', ⟨rfl, m, b, sc, rfl, rfl, rfl, hm, hb, hsc, hl, hK1, L, hp⟩ | ⟨kk, hp, hc⟩⟩ := preS_ok (N := N) hN h K R h1 h2 h3 h4 h5 h6
  · have t0 : (mI M' 0 0).1 0 = 0 := thr_k
    obtain ⟨S1, a1, a2⟩ := q_byLinks (N := N) hN h K hm hb hsc hK1
    have ok := lpF_ok h (u := wU W m) (sc := sc) 192 _ _ _ (fJ_base (u := wU W m) (sc := sc) h hm hb)
    have hW : wOk (wFd W (flF W m sc b)) := wFd_ok h ok.1 ok.2
    obtain ⟨M2, e1, e2, e3, e4⟩ := r_follow_23 (N := N) (k45 := pf_follow_45 N) (x1 := zI (m : Nat)) (x2 := zI (b : Nat)) (x3 := zI (sc : Nat)) N 192 0 (mI M' 0 0) (by omega) (by omega) (fun j hj => absurd hj (Nat.not_lt_zero _))
    have e1 : pf_follow_23 N (pf_follow_45 N) N (zI (m : Nat)) (zI (b : Nat)) (zI (sc : Nat)) 0 (mI M' 0 0) = _ := e1
    have R0 := mRel_0 (v := (0 : Int32)) R'
    have R3 : fM (mI (mA (mI M2 52 0) 55 0 (zI ((100 * m + b : Nat) : Int))) 54 1) W mt0 [100 * m + b] [] := by
      refine ⟨mRel_F R0 (fun q h1 h2 => by rw [mI_1, upd_o _ _ (by omega), mA_1, mI_1, upd_o _ _ (by omega), e3]) (fun c h1 h2 => by rw [mI_2, mA_o _ _ _ (by omega), mI_2, e4 _ (by omega)]) ⟨by rw [mI_1, upd_o _ _ (by omega), mA_1, mI_1, upd_s]; rfl, fun i hi => absurd hi (Nat.not_lt_zero _)⟩, by rw [mI_1, upd_o _ _ (by omega), mA_1, mI_1, upd_o _ _ (by omega), e3]; exact t0, by rw [mI_1, upd_s]; rfl, fun s hs => ?_, fun m e hm he => ?_⟩
      · have : s = 0 := by have : s < 1 := hs; omega
        subst this
        rw [mI_2, mA_s]
        exact upd_s _ _ _
      · rw [mI_2, mA_o _ _ _ (by omega), mI_2, e2 _ (by omega)]
        rfl
    obtain ⟨f, hf⟩ : ∃ f, N = f + 1 := ⟨N - 1, by omega⟩
    obtain ⟨M4, c1, c2, c3⟩ := r_base (N := N) hN h hm hb hsc hK1 (fuel := f) (by omega) R3
    rw [← hf] at c1
    have ex : ((100 : Int32) * zI (m : Nat)) + zI (b : Nat) = zI ((100 * m + b : Nat) : Int) := by
      rw [zL_100, zI_mul, zI_add]
      congr 1
    have ref : pf_follow_45 N (zI (m : Nat)) (zI (b : Nat)) (zI (sc : Nat)) M2 = some (zI ((flF W m sc b).length : Nat), M4) := by
      simp only [pf_follow_45, sv_i]
      rw [ex]
      exact c1
    simp only [pX9_follow, pf_follow, sv_i]
    rw [hp, bx_l, e, bd_i, t0, if_pos (show (0 : Int32) ≤ 0 by decide), a1, bk_i, e1, ref]
    exact opOk_v rfl rfl c3 hW a2 c2
  · simp only [pX9_follow, pf_follow, sv_i]
    rw [hp, bx_r, e, bd_i, thr_k, if_neg (by rcases hc with ⟨-, rfl⟩ | ⟨-, rfl⟩ <;> decide)]
    exact opOk_x rfl rfl (by rw [thr_k]; rcases hc with ⟨a, b⟩ | ⟨a, b⟩; exact Or.inl ⟨a, b⟩; exact Or.inr (Or.inl ⟨a, b⟩)) h K (mRel_0 R')
end FD
