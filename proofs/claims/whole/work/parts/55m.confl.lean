-- LEVEL 2, CALLS: CONFLICTS
section O8
variable {N : Nat} {S : kS} {M : mS} {W : sW} {H : sH} {T : sT}
def cfl (H : sH) (T : sT) (sort e : Nat) : Bool := if sort = 0 then decide (100 ≤ tSh T e) else if sort = 1 then decide (tPl T e = -2) else tInc H T e
def cfN (H : sH) (T : sT) (sort : Nat) : Nat → Nat → Nat
  | _, 0 => 0
  | i, n + 1 => (if tLv T i && cfl H T sort i then 1 else 0) + cfN H T sort (i + 1) n
theorem q_isInConflict (hN : 900 ≤ N) {t : Nat} (R : tOk S t T) (hH : hR S H) (hw : hW H) {sort e : Nat} (hs : sort < 3) (he : e < 48) (hl : tLv T e = true) : pX9_isInConflict N t (zI (e : Nat)) (zI (sort : Nat)) S = some (zB (cfl H T sort e), S) := by
  have s1 := tSh_rg R.2 he
  have p1 := tPl_rg R.2 he
  simp only [pX9_isInConflict]
  rw [zL_0, zL_1, il_eq (by omega) (by omega) (by omega) (by omega), il_eq (by omega) (by omega) (by omega) (by omega)]
  unfold cfl
  by_cases q0 : sort = 0
  · rw [if_pos (show (sort : Int) = 0 by omega), if_pos q0, q_shownName R (by omega) he (tLv_th he hl), bk_i, zL_100, il_lt (by omega) (by omega) (by omega) (by omega)]
    by_cases q : tSh T e < 100
    · rw [if_pos q, decide_eq_false (by omega)]; rfl
    · rw [if_neg q, decide_eq_true (by omega)]; rfl
  · rw [if_neg (show ¬ (sort : Int) = 0 by omega), if_neg q0]
    by_cases q1 : sort = 1
    · rw [if_pos (show (sort : Int) = 1 by omega), if_pos q1, q_placeOf R he, bk_i, zL_m2, il_eq (by omega) (by omega) (by omega) (by omega)]
      by_cases q : tPl T e = -2
      · rw [if_pos q, decide_eq_true q]; rfl
      · rw [if_neg q, decide_eq_false q]; rfl
    · rw [if_neg (show ¬ (sort : Int) = 1 by omega), if_neg q1, q_isIncomplete R hH hw (by omega) he, bk_i, zk_B]
theorem q_conflicts_35 (hN : 900 ≤ N) {t : Nat} (R : tOk S t T) (hH : hR S H) (hw : hW H) {sort : Nat} (hs : sort < 3) : ∀ (n k i c : Nat), 1 ≤ i → i + k = 48 → k < n → pX9_conflicts_35 N n (zI (sort : Nat)) t (zI (c : Nat)) (zI (i : Nat)) S = some (.inl (zI ((c + cfN H T sort i k : Nat) : Int)), S)
  | 0, k, i, c, _, hk, hn => by omega
  | n + 1, k, i, c, h1, hk, hn => by
    simp only [pX9_conflicts_35, pX9_conflicts_64, nm_i]
    rw [zL_48, il_le (by omega) (by omega) (by omega) (by omega)]
    cases k with
    | zero => rw [if_pos (by omega)]; rfl
    | succ k =>
      have hi : i < 48 := by omega
      have e : cfN H T sort i (k + 1) = (if tLv T i && cfl H T sort i then 1 else 0) + cfN H T sort (i + 1) k := rfl
      rw [if_neg (by omega), q_isLive R (by omega) (by omega), bk_i, il_B, show zI (i : Nat) + 1 = zI ((i + 1 : Nat) : Int) by rw [zL_1, zI_add]; congr 1, show zI (c : Nat) + 1 = zI ((c + 1 : Nat) : Int) by rw [zL_1, zI_add]; congr 1, e]
      cases hl : tLv T i with
      | false =>
        rw [if_neg (by decide), q_conflicts_35 hN R hH hw hs n k (i + 1) c (by omega) (by omega) (by omega), Bool.false_and, if_neg (by decide), Nat.zero_add]
      | true =>
        rw [if_pos rfl, q_isInConflict hN R hH hw hs hi hl, bk_i, il_B, Bool.true_and]
        cases cfl H T sort i with
        | false =>
          rw [if_neg (by decide), if_neg (by decide), q_conflicts_35 hN R hH hw hs n k (i + 1) c (by omega) (by omega) (by omega), Nat.zero_add]
        | true =>
          rw [if_pos rfl, if_pos rfl, q_conflicts_35 hN R hH hw hs n k (i + 1) (c + 1) (by omega) (by omega) (by omega), Nat.add_assoc]
theorem r_isIncomplete_4 (hN : 901 ≤ N) (Sc : rSc M H) (hw : hW H) (R : rT M T) (Wt : tW T) (X : tX H T) {e : Nat} (he : e < 48) : ∀ (n k i : Nat) (b : Bool), i + k = hA H → k < n → pf_isIncomplete_4 N n (zI (e : Nat)) (zB b) (zI (i : Nat)) M = some (zB (b || anyF (fun a => ib (hReq H (tKl T e)) a && decide (tCnt T e a = 0)) i k), M)
  | 0, k, i, b, hk, hn => by omega
  | n + 1, k, i, b, hk, hn => by
    have h10 := hw.1
    have hkl := Wt.2.2.2.1 e he
    have hx := X.1 e he
    simp only [pf_isIncomplete_4, pf_isIncomplete_48, nm_i]
    rw [Sc.1, il_le (by omega) (by omega) (by omega) (by omega)]
    cases k with
    | zero =>
      rw [if_pos (by omega), zr_B]
      show _ = some (zB (b || false), M)
      rw [Bool.or_false]
    | succ k =>
      rw [if_neg (by omega), il_B, anyF_s, show zI (i : Nat) + 1 = zI ((i + 1 : Nat) : Int) by rw [zL_1, zI_add]; congr 1]
      cases b with
      | true =>
        rw [if_pos rfl]
        have := r_isIncomplete_4 hN Sc hw R Wt X he n k (i + 1) true (by omega) (by omega)
        rw [Bool.true_or] at this ⊢
        exact this
      | false =>
        have ih1 : pf_isIncomplete_4 N n (zI (e : Nat)) 1 (zI ((i + 1 : Nat) : Int)) M = _ := r_isIncomplete_4 hN Sc hw R Wt X he n k (i + 1) true (by omega) (by omega)
        have ih0 : pf_isIncomplete_4 N n (zI (e : Nat)) 0 (zI ((i + 1 : Nat) : Int)) M = _ := r_isIncomplete_4 hN Sc hw R Wt X he n k (i + 1) false (by omega) (by omega)
        have hc : tCnt T e i ≤ 900 := Nat.le_trans tCnt_le R.2.2.2.2.2.2.1.2.1
        rw [if_neg (by decide), gd_n he (by omega), zI_cn (by omega), R.2.2.1 e he, r_requiredBy (by omega) Sc hw hkl.1 hx, bd_i, il_ibit (by omega)]
        by_cases q : ib (hReq H (tKl T e)) i = true
        · rw [if_pos q, r_countOf hN R Wt he (by omega), bd_i, zL_0, il_eq (by omega) (by omega) (by omega) (by omega), q]
          by_cases q2 : tCnt T e i = 0
          · rw [if_pos (show (tCnt T e i : Int) = 0 by omega), ih1, decide_eq_true q2]; simp
          · rw [if_neg (show ¬ (tCnt T e i : Int) = 0 by omega), decide_eq_false q2, ← zL_0, ih0]; simp
        · rw [if_neg q, ih0, Bool.eq_false_iff.mpr q]; simp
theorem tInc_H (hw : hW H) (hq : hQ H) (X : tX H T) {e : Nat} (he : e < 48) : anyF (fun a => ib (hReq H (tKl T e)) a && decide (tCnt T e a = 0)) 0 (hA H) = tInc H T e := by
  have h10 := hw.1
  have no : ∀ a, hA H ≤ a → a < 32 → ib (hReq H (tKl T e)) a = false := fun a h1 h2 => by
    unfold hReq
    by_cases q : hIs H (tKl T e) = true
    · rw [if_pos q]
      unfold hIs at q
      rw [Bool.and_eq_true, decide_eq_true_eq, decide_eq_true_eq] at q
      exact hq _ (by omega) a h1 h2
    · rw [if_neg q, ib_0]
  unfold tInc
  apply Bool.eq_iff_iff.mpr
  rw [anyF_iff, anyF_iff]
  constructor
  · rintro ⟨j, h1, h2, h3⟩
    exact ⟨j, h1, by omega, h3⟩
  · rintro ⟨j, h1, h2, h3⟩
    refine ⟨j, h1, ?_, h3⟩
    rw [Bool.and_eq_true] at h3
    rcases Nat.lt_or_ge j (0 + hA H) with g | g
    · exact g
    · rw [no j (by omega) (by omega)] at h3
      exact Bool.noConfusion h3.1
theorem r_isIncomplete (hN : 901 ≤ N) (Sc : rSc M H) (hw : hW H) (hq : hQ H) (R : rT M T) (Wt : tW T) (X : tX H T) {e : Nat} (he : e < 48) : pf_isIncomplete N (zI (e : Nat)) M = some (zB (tInc H T e), M) := by
  have h10 := hw.1
  have := r_isIncomplete_4 (N := N) hN Sc hw R Wt X he N (hA H) 0 false (by omega) (by omega)
  rw [Bool.false_or, tInc_H hw hq X he] at this
  exact this
theorem r_conflicts_37 (hN : 901 ≤ N) (Sc : rSc M H) (hw : hW H) (hq : hQ H) (L : rLd M T) (X : tX H T) {sort : Nat} (hs : sort < 3) : ∀ (n k i c : Nat), 1 ≤ i → i + k = 48 → k < n → pf_conflicts_37 N n (zI (sort : Nat)) (zI (c : Nat)) (zI (i : Nat)) M = some (zI ((c + cfN H T sort i k : Nat) : Int), M)
  | 0, k, i, c, _, hk, hn => by omega
  | n + 1, k, i, c, h1, hk, hn => by
    obtain ⟨R, Wt, P, Q⟩ := id L
    simp only [pf_conflicts_37]
    rw [zL_48, il_le (by omega) (by omega) (by omega) (by omega)]
    cases k with
    | zero => rw [if_pos (by omega)]; rfl
    | succ k =>
      have hi : i < 48 := by omega
      have s1 := tSh_rg Wt hi
      have p1 := tPl_rg Wt hi
      have e : cfN H T sort i (k + 1) = (if tLv T i && cfl H T sort i then 1 else 0) + cfN H T sort (i + 1) k := rfl
      have fin : ∀ b : Bool, (tLv T i = true → b = cfl H T sort i) → pf_conflicts_99 N (pf_conflicts_37 N n) (zB b) (zI (sort : Nat)) (zI (c : Nat)) (zI (i : Nat)) M = some (zI ((c + cfN H T sort i (k + 1) : Nat) : Int), M) := fun b hb => by
        simp only [pf_conflicts_99, pf_conflicts_121, nm_i]
        rw [r_isLive R (by omega) (by omega), bd_i, il_B, il_B, show zI (i : Nat) + 1 = zI ((i + 1 : Nat) : Int) by rw [zL_1, zI_add]; congr 1, show zI (c : Nat) + 1 = zI ((c + 1 : Nat) : Int) by rw [zL_1, zI_add]; congr 1, show zI (c : Nat) + 0 = zI (c : Nat) by rw [zL_0, zI_add, Int.add_zero], e]
        cases hl : tLv T i with
        | false =>
          rw [if_neg (by decide), r_conflicts_37 hN Sc hw hq L X hs n k (i + 1) c (by omega) (by omega) (by omega), Bool.false_and, if_neg (by decide), Nat.zero_add]
        | true =>
          rw [if_pos rfl, Bool.true_and, ← hb hl]
          cases b with
          | false => rw [if_neg (by decide), if_neg (by decide), r_conflicts_37 hN Sc hw hq L X hs n k (i + 1) c (by omega) (by omega) (by omega), Nat.zero_add]
          | true => rw [if_pos rfl, if_pos rfl, r_conflicts_37 hN Sc hw hq L X hs n k (i + 1) (c + 1) (by omega) (by omega) (by omega), Nat.add_assoc]
      rw [if_neg (by omega), show (0 : Int32) = zB false from rfl, show (1 : Int32) = zB true from rfl]
      have z0 : (zI (sort : Nat) = zB false) ↔ sort = 0 := by rw [show zB false = zI 0 from rfl, zI_eq (by omega) (by omega) (by omega) (by omega)]; omega
      have z1 : (zI (sort : Nat) = zB true) ↔ sort = 1 := by rw [show zB true = zI 1 from rfl, zI_eq (by omega) (by omega) (by omega) (by omega)]; omega
      by_cases q0 : sort = 0
      · rw [if_pos (z0.mpr q0), gd_n hi (by omega), zI_cn (by omega)]
        by_cases hl : tLv T i = true
        · rw [Q i hi (tLv_th hi hl), zL_100, il_lt (by omega) (by omega) (by omega) (by omega)]
          by_cases q : tSh T i < 100
          · rw [if_pos q]
            exact fin false (fun _ => by unfold cfl; rw [if_pos q0, decide_eq_false (by omega)])
          · rw [if_neg q]
            exact fin true (fun _ => by unfold cfl; rw [if_pos q0, decide_eq_true (by omega)])
        · split
          · exact fin false (fun g => absurd g hl)
          · exact fin true (fun g => absurd g hl)
      · rw [if_neg (show ¬ zI (sort : Nat) = zB false from fun g => q0 (z0.mp g))]
        by_cases q1 : sort = 1
        · rw [if_pos (z1.mpr q1), gd_n hi (by omega), zI_cn (by omega), P i hi, zL_m2, il_eq (by omega) (by omega) (by omega) (by omega)]
          by_cases q : tPl T i = -2
          · rw [if_pos q]
            exact fin true (fun _ => by unfold cfl; rw [if_neg q0, if_pos q1, decide_eq_true q])
          · rw [if_neg q]
            exact fin false (fun _ => by unfold cfl; rw [if_neg q0, if_pos q1, decide_eq_false q])
        · rw [if_neg (show ¬ zI (sort : Nat) = zB true from fun g => q1 (z1.mp g)), r_isIncomplete hN Sc hw hq R Wt X hi, bd_i]
          exact fin _ (fun _ => by unfold cfl; rw [if_neg q0, if_neg q1])
theorem op_conflicts (hN : 20000 ≤ N) (h : wOk W) (K : kRel S W) (R : mRel M W) (x y : Int32) : opOk 1 0 0 (pX9_conflicts N x y S) (pf_conflicts N x y M) := by
  obtain ⟨x, h1, h2, rfl⟩ := zI_of x
  obtain ⟨y, h3, h4, rfl⟩ := zI_of y
  have e2 : pf_in N (zI y) 0 2 = some (zB (decide (0 ≤ y) && decide (y ≤ 2))) := r_in (a := 0) (b := 2) h3 h4 (by omega) (by omega) (by omega) (by omega)
  simp only [pX9_conflicts, pX9_conflicts_18, pf_conflicts, pf_conflicts_21, sv_i]
  rw [r_isMaster h1 h2, bs_i, il_B, e2, bs_i, il_B]
  by_cases q : 0 ≤ x ∧ x < 4
  · obtain ⟨m, rfl⟩ : ∃ m : Nat, x = m := ⟨x.toNat, by omega⟩
    have hm : m < 4 := by omega
    rw [if_pos (in_yes (by omega)), g_master hm, bx_l, gn_l hm, zL_0, il_lt h3 h4 (by omega) (by omega), zL_3, il_lt h3 h4 (by omega) (by omega)]
    by_cases q2 : 0 ≤ y ∧ y < 3
    · obtain ⟨s, rfl⟩ : ∃ s : Nat, y = s := ⟨y.toNat, by omega⟩
      obtain ⟨M', e1, L, e3, R', f⟩ := w_lays (N := N) hN h (mRel_0 (v := (0 : Int32)) R) hm
      have ec := q_conflicts_35 (N := N) (by omega) (kRel_t h K hm) K.1 h.1 (sort := s) (by omega) N 47 1 0 (by omega) (by omega) (by omega)
      have er := r_conflicts_37 (N := N) (by omega) R'.1 h.1 h.2.2.2.2.2.2.2.2 L (wTr_X h m) (sort := s) (by omega) N 47 1 0 (by omega) (by omega) (by omega)
      rw [if_neg (by omega), if_pos (by omega), if_pos (in_yes (by omega))]
      have e1 : pf_lays N (zI (m : Nat)) (mI M 0 (zI 0)) = some ((0 : Int32), M') := e1
      have ec : pX9_conflicts_35 N N (zI (s : Nat)) m (zI 0) 1 S = _ := ec
      have er : pf_conflicts_37 N N (zI (s : Nat)) (zI 0) 1 M' = _ := er
      rw [e1, bd_i, ec, er]
      exact opOk_v rfl rfl (thr_0 f) h K R'
    · rw [if_neg (in_no (by omega)), fails_i, bd_i]
      by_cases q3 : y < 0
      · rw [if_pos q3]
        exact opOk_x rfl rfl (Or.inl ⟨rfl, thr_k⟩) h K (mRel_0 (mRel_0 R))
      · rw [if_neg q3, if_neg (by omega)]
        exact opOk_x rfl rfl (Or.inl ⟨rfl, thr_k⟩) h K (mRel_0 (mRel_0 R))
  · rw [if_neg (in_no (by omega)), g_masterNo h1 h2 q, bx_r, fails_i, bd_i]
    exact opOk_x rfl rfl (Or.inl ⟨rfl, thr_k⟩) h K (mRel_0 (mRel_0 R))
end O8
