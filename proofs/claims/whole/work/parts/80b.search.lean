-- LEVEL 2, THE CALL SEARCH
/-- the state with what was found last -/
def wFd (W : sW) (F : List Nat) : sW := wMk (wH W) (wD W) (wP W) (wK W) (wC W) (wN W) (wO W) (wT W) (wX W) (wU W) (wE W) F
def scp (T : sT) (sc b e : Nat) : Bool := if sc = 0 then decide (e = b) else if sc = 1 then decide (tPl T e = (b : Int)) else pCome (fun x => tPl T x) 48 (e : Nat) (b : Nat)
/-- an entry that a search finds -/
def fnd (W : sW) (m sc b e : Nat) : Bool := tLv (wTr W m) (e : Nat) && (scp (wTr W m) sc b e && (wFt W (wTr W m) e && tMay (wH W) (wTr W m) (wU W m) (e : Nat) 0))
def fL (W : sW) (m sc b i : Nat) : List Nat := ((List.range i).filter (fnd W m sc b)).map (fun e => 100 * m + e)
theorem fL_s {W : sW} {m sc b i : Nat} : fL W m sc b (i + 1) = if fnd W m sc b i = true then fL W m sc b i ++ [100 * m + i] else fL W m sc b i := by
  unfold fL
  rw [List.range_succ, List.filter_append, List.map_append]
  by_cases q : fnd W m sc b i = true
  · rw [if_pos q, List.filter_cons, if_pos q]; rfl
  · rw [if_neg q, List.filter_cons, if_neg q]
    exact List.append_nil _
theorem fL_len {W : sW} {m sc b : Nat} : ∀ i, (fL W m sc b i).length ≤ i
  | 0 => Nat.le_refl _
  | i + 1 => by
    have ih := fL_len (W := W) (m := m) (sc := sc) (b := b) i
    rw [fL_s]
    split
    · rw [List.length_append, List.length_singleton]; omega
    · omega
theorem fL_ct {W : sW} {m sc b : Nat} : ∀ i, (fL W m sc b i).length = fb_ct (fnd W m sc b) i
  | 0 => rfl
  | i + 1 => by
    have ih := fL_ct (W := W) (m := m) (sc := sc) (b := b) i
    rw [fL_s, fb_ct_succ]
    split
    · rw [List.length_append, List.length_singleton]; omega
    · omega
theorem fL_lt {W : sW} {m sc b : Nat} (hm : m < 4) {i : Nat} (hi : i ≤ 48) : ∀ s ∈ fL W m sc b i, s < 400 := fun s hs => by
  unfold fL at hs
  obtain ⟨e, h1, h2⟩ := List.mem_map.mp hs
  have := List.mem_range.mp (List.mem_filter.mp h1).1
  omega
section SE
variable {N : Nat} {S : kS} {M : mS} {W : sW} {T : sT} {H : sH}
theorem wFd_ok (h : wOk W) {F : List Nat} (h1 : F.length ≤ 192) (h2 : ∀ s ∈ F, s < 400) : wOk (wFd W F) := by
  obtain ⟨o1, o2, o3, o4, o5, o6, o7, o8, o9⟩ := h
  exact ⟨o1, o2, o3, o4, o5, o6, o7, ⟨h1, h2⟩, o9⟩
theorem kRel_F {S' : kS} {F : List Nat} (K : kRel S W) (hI : ∀ q, q ≤ 7 ∨ 11 ≤ q → kI S' q = kI S q) (hAr : ∀ c, c ≠ 14 → c ≠ 16 → kA S' c = kA S c) (hJ : ∀ c, 26 ≤ c → kJ S' c = kJ S c) (hL : kL S' = kL S) (hD : S'.2.2.2.2 = S.2.2.2.2) (fo : kI S' 8 = zI (F.length : Nat) ∧ ∀ i (h : i < F.length), kA S' 14 i = zI (F[i] : Nat)) : kRel S' (wFd W F) := by
  have f := K.2.2.1
  exact kRel_e (D := wD W) (P := wP W) (F := wK W) (en := wE W) (fd := F) K (fun q hq => hI q (by omega)) (fun c hc => hAr c (by omega) (by omega)) hJ hL hD ⟨by rw [hI 5 (by omega)]; exact K.2.1.1, by rw [hAr 6 (by omega) (by omega)]; exact K.2.1.2⟩ ⟨by rw [hI 6 (by omega)]; exact f.1, by rw [hI 7 (by omega)]; exact f.2.1, by rw [hAr 8 (by omega) (by omega), hAr 9 (by omega) (by omega), hAr 10 (by omega) (by omega)]; exact f.2.2⟩ (by rw [hI 0 (by omega)]; exact K.2.2.2.2.2.2.2.2.2.1) fo
theorem mRel_F {M' : mS} {F : List Nat} (R : mRel M W) (hI : ∀ q, q < 52 → q ≠ 0 → M'.1 q = M.1 q) (hAr : ∀ c, c < 53 → c ≠ 15 → M'.2 c = M.2 c) (fo : M'.1 52 = zI (F.length : Nat) ∧ ∀ i (h : i < F.length), M'.2 53 i = zI (F[i] : Nat)) : mRel M' (wFd W F) := by
  have f := R.2.2.1
  exact mRel_e (D := wD W) (P := wP W) (F := wK W) (fd := F) R (fun q hq => hI q (by omega) (by omega)) (fun c hc => hAr c (by omega) (by omega)) ⟨by rw [hI 8 (by omega) (by omega)]; exact R.2.1.1, by rw [hAr 9 (by omega) (by omega), hAr 10 (by omega) (by omega)]; exact R.2.1.2⟩ ⟨by rw [hI 11 (by omega) (by omega)]; exact f.1, by rw [hI 16 (by omega) (by omega)]; exact f.2.1, by rw [hAr 12 (by omega) (by omega), hAr 13 (by omega) (by omega), hAr 14 (by omega) (by omega)]; exact f.2.2.1, by rw [hAr 17 (by omega) (by omega)]; exact f.2.2.2⟩ fo
theorem mRel_x {M' : mS} (R : mRel M W) (hI : ∀ q, q < 53 → q ≠ 0 → M'.1 q = M.1 q) (hAr : ∀ c, c < 54 → c ≠ 15 → M'.2 c = M.2 c) : mRel M' W := by
  have fo := R.2.2.2.2.2.2.2.2.2.2.1
  exact mRel_F (F := wF W) R (fun q a b => hI q (by omega) b) (fun c a b => hAr c (by omega) b) ⟨by rw [hI 52 (by omega) (by omega)]; exact fo.1, by rw [hAr 53 (by omega) (by omega)]; exact fo.2⟩
theorem mRel_15 {M' : mS} (R : mRel M W) (f : rf1 15 M M') : mRel M' W := mRel_x R (fun q _ _ => by rw [f.1]) (fun c _ hc => f.2 c hc)
/-- what searches need -/
theorem preS_ok (hN : 20000 ≤ N) (h : wOk W) (K : kRel S W) (R : mRel M W) {x y z : Int} (h1 : -2147483648 ≤ x) (h2 : x < 2147483648) (h3 : -2147483648 ≤ y) (h4 : y < 2147483648) (h5 : -2147483648 ≤ z) (h6 : z < 2147483648) : ∃ M' code, pf_refusesSearch N (zI x) (zI y) (zI z) M = some (code, M') ∧ mRel M' W ∧ ((code = 0 ∧ ∃ m b sc : Nat, x = m ∧ y = b ∧ z = sc ∧ m < 4 ∧ b < 48 ∧ sc < 3 ∧ tLv (wTr W m) (b : Nat) = true ∧ (wK W).length = 1 ∧ rLd M' (wTr W m) ∧ pX9_needSearch N (zI x) (zI y) (zI z) S = some (.inl (), S)) ∨ ∃ kk, pX9_needSearch N (zI x) (zI y) (zI z) S = some (.inr kk, S) ∧ ((kk = 1 ∧ code = 1) ∨ (kk = 3 ∧ code = 2))) := by
  have hK8 := h.2.2.1.2.1
  have ez : pf_in N (zI z) 0 2 = some (zB (decide (0 ≤ z) && decide (z ≤ 2))) := r_in (a := 0) (b := 2) h5 h6 (by omega) (by omega) (by omega) (by omega)
  simp only [pf_refusesSearch, pX9_needSearch]
  obtain ⟨M', R', f, ⟨q, e⟩ | ⟨m, hm, rfl, e, L, -⟩⟩ := w_isAt (N := N) hN h R h1 h2 h3 h4
  · rw [e, bd_i, il_B, if_neg (by decide), g_masterNo h1 h2 q, bx_r]
    exact ⟨M', 1, rfl, R', Or.inr ⟨1, rfl, Or.inl ⟨rfl, rfl⟩⟩⟩
  · have Q := kRel_t h K hm
    rw [e, bd_i, il_B, g_master hm, bx_l, gn_l hm, g_entry Q h3 h4]
    by_cases hl : tLv (wTr W m) y = true
    · have hy := tLv_lt hl
      rw [if_pos hl, if_pos hl, bx_l, ez, bs_i, il_B, g_scope h5 h6]
      by_cases q1 : 0 ≤ z ∧ z < 3
      · have c7 : (zI ((wK W).length : Nat) = (1 : Int32)) ↔ (wK W).length = 1 := by
          rw [zL_1, zI_eq (by omega) (by omega) (by omega) (by omega)]; omega
        rw [if_pos q1, bx_l, if_pos (in_yes (by omega)), K.2.2.1.2.1, R'.2.2.1.2.1]
        by_cases q2 : (wK W).length = 1
        · rw [if_pos (c7.mpr q2), if_pos (c7.mpr q2)]
          obtain ⟨b, rfl⟩ : ∃ b : Nat, y = b := ⟨y.toNat, by omega⟩
          obtain ⟨sc, rfl⟩ : ∃ sc : Nat, z = sc := ⟨z.toNat, by omega⟩
          exact ⟨M', 0, rfl, R', Or.inl ⟨rfl, m, b, sc, rfl, rfl, rfl, hm, by omega, by omega, hl, q2, L, rfl⟩⟩
        · rw [if_neg (fun g => q2 (c7.mp g)), if_neg (fun g => q2 (c7.mp g))]
          exact ⟨M', 2, rfl, R', Or.inr ⟨3, rfl, Or.inr ⟨rfl, rfl⟩⟩⟩
      · rw [if_neg q1, bx_r, if_neg (in_no (by omega))]
        exact ⟨M', 1, rfl, R', Or.inr ⟨1, rfl, Or.inl ⟨rfl, rfl⟩⟩⟩
    · rw [if_neg hl, if_neg hl, bx_r]
      exact ⟨M', 1, rfl, R', Or.inr ⟨1, rfl, Or.inl ⟨rfl, rfl⟩⟩⟩
/-- the reference: whether an entry is found -/
theorem r_isBeneath_2 (L : rLd M T) {b : Nat} (hb : b < 48) : ∀ (k n : Nat) (x : Int), -2 ≤ x → x < 48 → climb (fun e => tPl T e) k x < 0 → k < n → pf_isBeneath_2 N (pf_isBeneath_21 N) n (zI (b : Nat)) (zI x) M = some (zB (pCome (fun e => tPl T e) k x (b : Nat)), M)
  | k, 0, x, h1, h2, hc, hn => by omega
  | k, n + 1, x, h1, h2, hc, hn => by
    have zb : (zI x = zI (b : Nat)) ↔ x = (b : Int) := by rw [zI_eq (by omega) (by omega) (by omega) (by omega)]
    have z0 : (zI x < (0 : Int32)) ↔ x < 0 := by rw [zL_0, zI_lt (by omega) (by omega) (by omega) (by omega)]
    simp only [pf_isBeneath_2, nm_i]
    by_cases q : x < 0
    · rw [if_pos (z0.mpr q)]
      simp only [pf_isBeneath_21]
      rw [if_neg (fun g => by have := zb.mp g; omega)]
      cases k with
      | zero => rfl
      | succ k =>
        unfold pCome
        rw [if_pos q]; rfl
    · rw [if_neg (fun g => q (z0.mp g))]
      cases k with
      | zero =>
        have hc : x < 0 := hc
        omega
      | succ k =>
        unfold pCome
        rw [if_neg q]
        by_cases q2 : x = (b : Int)
        · rw [if_pos (zb.mpr q2), if_pos q2]
          simp only [pf_isBeneath_21]
          rw [if_pos (zb.mpr q2)]; rfl
        · rw [if_neg (fun g => q2 (zb.mp g)), if_neg q2]
          obtain ⟨e, rfl⟩ : ∃ e : Nat, x = e := ⟨x.toNat, by omega⟩
          have he : e < 48 := by omega
          have hp := tPl_rg L.2.1 he
          rw [climb_s (by omega), Int.toNat_natCast] at hc
          rw [gd_n he (by omega), zI_cn (by omega), L.2.2.1 e he, Int.toNat_natCast]
          exact r_isBeneath_2 L hb k n (tPl T e) hp.1 hp.2 hc (by omega)
theorem r_isFound (hN : 20000 ≤ N) (h : wOk W) (R : mRel M W) {m sc b e : Nat} (hm : m < 4) (hsc : sc < 3) (hb : b < 48) (he : e < 48) (hK1 : (wK W).length = 1) (L : rLd M (wTr W m)) : ∃ M2, pf_isFound N (zI (m : Nat)) (zI (e : Nat)) (zI (b : Nat)) (zI (sc : Nat)) M = some (zB (fnd W m sc b e), M2) ∧ rf1 15 M M2 := by
  have fin : ∀ t : Bool, t = scp (wTr W m) sc b e → ∃ M2, pf_isFound_48 N (zB t) (zI (m : Nat)) (zI (e : Nat)) M = some (zB (fnd W m sc b e), M2) ∧ rf1 15 M M2 := fun t ht => by
    simp only [pf_isFound_48]
    unfold fnd
    rw [← ht, r_isLive L.1 (by omega) (by omega), bd_i, il_B]
    by_cases q : tLv (wTr W m) (e : Nat) = true
    · rw [if_pos q, q, Bool.true_and, il_B]
      cases t with
      | false =>
        rw [if_neg (by decide)]
        exact ⟨M, rfl, rf1.rf⟩
      | true =>
        obtain ⟨M2, e1, e2⟩ := r_fits (N := N) (by omega) h R hK1 L (wTr_X h m) he
        have L2 : rLd M2 (wTr W m) := rLd_e (by rw [e2.1]) (fun d a b => e2.2 d (by omega)) L
        have R2 := mRel_15 R e2
        have em := r_mayDo (N := N) (M := M2) (by omega) R2.1 h.1 L2 (wTr_X h m) (h.2.2.2.2.2.1 m hm) (what := 0) (by omega) (x := (e : Int)) (by omega) (by omega)
        have em : pf_mayDo N (zI (wU W m : Nat)) (zI (e : Nat)) 0 M2 = _ := em
        rw [if_pos rfl, e1, bd_i, il_B]
        by_cases q2 : wFt W (wTr W m) e = true
        · rw [if_pos q2, q2, gd_n hm (by omega), zI_cn (by omega), R2.2.2.2.2.2.2.1 m hm, em, bd_i, il_B]
          by_cases q3 : tMay (wH W) (wTr W m) (wU W m) (e : Nat) 0 = true
          · rw [if_pos q3, q3]
            exact ⟨M2, rfl, e2⟩
          · rw [if_neg q3, Bool.eq_false_iff.mpr q3]
            exact ⟨M2, rfl, e2⟩
        · rw [if_neg q2, Bool.eq_false_iff.mpr q2]
          exact ⟨M2, rfl, e2⟩
    · rw [if_neg q, Bool.eq_false_iff.mpr q]
      exact ⟨M, rfl, rf1.rf⟩
  have fin0 := fin false
  have fin1 := fin true
  have hp := tPl_rg L.2.1 he
  simp only [pf_isFound]
  have s0 : (zI (sc : Nat) = (0 : Int32)) ↔ sc = 0 := by rw [zL_0, zI_eq (by omega) (by omega) (by omega) (by omega)]; omega
  have s1 : (zI (sc : Nat) = (1 : Int32)) ↔ sc = 1 := by rw [zL_1, zI_eq (by omega) (by omega) (by omega) (by omega)]; omega
  unfold scp at fin0 fin1 fin
  by_cases q0 : sc = 0
  · rw [if_pos q0] at fin0 fin1
    rw [if_pos (s0.mpr q0), il_eq (by omega) (by omega) (by omega) (by omega)]
    by_cases z : e = b
    · rw [decide_eq_true z] at fin1
      rw [if_pos (by omega)]; exact fin1 rfl
    · rw [decide_eq_false z] at fin0
      rw [if_neg (by omega)]; exact fin0 rfl
  · rw [if_neg (fun g => q0 (s0.mp g))]
    by_cases q1 : sc = 1
    · rw [if_neg q0, if_pos q1] at fin0 fin1
      rw [if_pos (s1.mpr q1), gd_n he (by omega), zI_cn (by omega), L.2.2.1 e he, il_eq (by omega) (by omega) (by omega) (by omega)]
      by_cases z : tPl (wTr W m) e = (b : Int)
      · rw [decide_eq_true z] at fin1
        rw [if_pos z]; exact fin1 rfl
      · rw [decide_eq_false z] at fin0
        rw [if_neg z]; exact fin0 rfl
    · have eb := r_isBeneath_2 (N := N) L hb 48 N (e : Int) (by omega) (by omega) ((tPl_end L.2.1.1).at (by omega)) (by omega)
      rw [if_neg (fun g => q1 (s1.mp g))]
      simp only [pf_isBeneath]
      rw [eb, bd_i]
      exact fin _ (by rw [if_neg q0, if_neg q1])
theorem r_search_28 (hN : 20000 ≤ N) (h : wOk W) {m sc b : Nat} (hm : m < 4) (hsc : sc < 3) (hb : b < 48) (hK1 : (wK W).length = 1) : ∀ (n k i : Nat) (M : mS), i + k = 48 → k < n → mRel M (wFd W (fL W m sc b i)) → rLd M (wTr W m) → M.1 0 = 0 → ∃ M2, pf_search_28 N (pf_search_79 N) n (zI (m : Nat)) (zI (b : Nat)) (zI (sc : Nat)) (zI (i : Nat)) M = some (zI ((fL W m sc b 48).length : Nat), M2) ∧ mRel M2 (wFd W (fL W m sc b 48)) ∧ M2.1 0 = 0
  | 0, k, i, M, hk, hn, R, L, t0 => by omega
  | n + 1, k, i, M, hk, hn, R, L, t0 => by
    simp only [pf_search_28, pf_search_73, nm_i, sv_i]
    rw [zL_48, il_le (by omega) (by omega) (by omega) (by omega)]
    cases k with
    | zero =>
      have : i = 48 := by omega
      subst this
      rw [if_pos (by omega)]
      simp only [pf_search_79]
      rw [R.2.2.2.2.2.2.2.2.2.2.1.1]
      exact ⟨M, rfl, R, t0⟩
    | succ k =>
      have hi : i < 48 := by omega
      have hlen := fL_len (W := W) (m := m) (sc := sc) (b := b) i
      have ek : zI (i : Nat) + 1 = zI ((i + 1 : Nat) : Int) := by rw [zL_1, zI_add]; congr 1
      have hF : wOk (wFd W (fL W m sc b i)) := wFd_ok h (by omega) (fL_lt hm (by omega))
      obtain ⟨M2, e1, e2⟩ := r_isFound (N := N) (W := wFd W (fL W m sc b i)) hN hF R hm hsc hb hi hK1 L
      have e1 : pf_isFound N (zI (m : Nat)) (zI (i : Nat)) (zI (b : Nat)) (zI (sc : Nat)) M = some (zB (fnd W m sc b i), M2) := e1
      have R2 := mRel_15 R e2
      have L2 : rLd M2 (wTr W m) := rLd_e (by rw [e2.1]) (fun d a b => e2.2 d (by omega)) L
      have t2 : M2.1 0 = 0 := by rw [e2.1]; exact t0
      rw [if_neg (by omega), e1, bd_i, il_B, ek]
      by_cases q : fnd W m sc b i = true
      · have fo := R2.2.2.2.2.2.2.2.2.2.2.1
        have f1 : M2.1 52 = zI ((fL W m sc b i).length : Nat) := fo.1
        have f2 : ∀ j (hj : j < (fL W m sc b i).length), M2.2 53 j = zI ((fL W m sc b i)[j] : Nat) := fo.2
        have es : fL W m sc b (i + 1) = fL W m sc b i ++ [100 * m + i] := by rw [fL_s, if_pos q]
        rw [if_pos q, f1, gd_n (show (fL W m sc b i).length < 192 by omega) (by omega), zI_cn (by omega), zL_100, zI_mul, zI_add, show (100 : Int) * (m : Nat) + (i : Nat) = ((100 * m + i : Nat) : Int) by omega, mA_1, f1, zL_1, zI_add, show ((fL W m sc b i).length : Int) + 1 = (((fL W m sc b i).length + 1 : Nat) : Int) by omega]
        refine r_search_28 hN h hm hsc hb hK1 n k (i + 1) _ (by omega) (by omega) ?_ ?_ ?_
        · rw [es]
          refine mRel_F (W := wFd W (fL W m sc b i)) R2 (fun q a b => by rw [mI_1, upd_o _ _ (by omega), mA_1]) (fun c a b => by rw [mI_2, mA_o _ _ _ (by omega)]) ⟨by rw [mI_1, upd_s, List.length_append, List.length_singleton], fun j hj => ?_⟩
          rw [mI_2, mA_s]
          rw [List.length_append, List.length_singleton] at hj
          by_cases z : j = (fL W m sc b i).length
          · subst z
            rw [upd_s, List.getElem_append_right (Nat.le_refl _)]
            simp
          · rw [upd_o _ _ z, List.getElem_append_left (by omega)]
            exact f2 j (by omega)
        · exact rLd_e (by rw [mI_1, upd_o _ _ (by omega), mA_1]) (fun d a b => by rw [mI_2, mA_o _ _ _ (by omega)]) L2
        · rw [mI_1, upd_o _ _ (by omega), mA_1]; exact t2
      · have es : fL W m sc b (i + 1) = fL W m sc b i := by rw [fL_s, if_neg q]
        rw [if_neg q]
        exact r_search_28 hN h hm hsc hb hK1 n k (i + 1) M2 (by omega) (by omega) (by rw [es]; exact R2) L2 t2
/-- the class -/
theorem q_isInScope (hN : 900 ≤ N) {t : Nat} (Q : tOk S t T) {sc b e : Nat} (hsc : sc < 3) (hb : b < 48) (he : e < 48) : pX3_isInScope N t (zI (e : Nat)) (zI (b : Nat)) (zI (sc : Nat)) S = some (zB (scp T sc b e), S) := by
  have s0 : (zI (sc : Nat) = (0 : Int32)) ↔ sc = 0 := by rw [zL_0, zI_eq (by omega) (by omega) (by omega) (by omega)]; omega
  have s1 : (zI (sc : Nat) = (1 : Int32)) ↔ sc = 1 := by rw [zL_1, zI_eq (by omega) (by omega) (by omega) (by omega)]; omega
  have hp := tPl_rg Q.2 he
  simp only [pX3_isInScope]
  unfold scp
  by_cases q0 : sc = 0
  · rw [if_pos (s0.mpr q0), if_pos q0, il_eq (by omega) (by omega) (by omega) (by omega)]
    by_cases z : e = b
    · rw [if_pos (by omega), decide_eq_true z]; rfl
    · rw [if_neg (by omega), decide_eq_false z]; rfl
  · rw [if_neg (fun g => q0 (s0.mp g)), if_neg q0]
    by_cases q1 : sc = 1
    · rw [if_pos (s1.mpr q1), if_pos q1, q_placeOf Q he, bk_i, il_eq (by omega) (by omega) (by omega) (by omega)]
      by_cases z : tPl T e = (b : Int)
      · rw [if_pos z, decide_eq_true z]; rfl
      · rw [if_neg z, decide_eq_false z]; rfl
    · rw [if_neg (fun g => q1 (s1.mp g)), if_neg q1, q_isAtOrBeneath Q (by omega) hb (by omega) (by omega), bk_i, zk_B]
theorem q_keep {F : List Nat} {s : Nat} (K : kRel S (wFd W F)) (hF : F.length < 192) : ∃ S', pX3_keep N (zI (s : Nat)) S = some ((), S') ∧ kRel S' (wFd W (F ++ [s])) ∧ (∀ q, q ≠ 8 → kI S' q = kI S q) ∧ (∀ c, c ≠ 14 → kA S' c = kA S c) ∧ kJ S' = kJ S := by
  have fo := K.2.2.2.2.2.2.2.2.2.2.2.2
  have f1 : kI S 8 = zI (F.length : Nat) := fo.1
  have f2 : ∀ j (hj : j < F.length), kA S 14 j = zI (F[j] : Nat) := fo.2
  have g : kI (sA S 14 F.length (zI (s : Nat))) 8 = zI (F.length : Nat) := f1
  simp only [pX3_keep, svk_i]
  rw [f1, zL_192, il_le (by omega) (by omega) (by omega) (by omega), if_neg (by omega), gd_n hF (by omega), zI_cn (by omega), g, zL_1, zI_add, show (F.length : Int) + 1 = ((F.length + 1 : Nat) : Int) by omega]
  refine ⟨_, rfl, ?_, fun q hq => by rw [kI_sI, upd_o _ _ hq]; rfl, fun c hc => by rw [kA_sI, kA_sA_o _ _ _ hc], rfl⟩
  refine kRel_F (W := wFd W F) K (fun q hq => by rw [kI_sI, upd_o _ _ (by omega)]; rfl) (fun c h1 h2 => by rw [kA_sI, kA_sA_o _ _ _ h1]) (fun _ _ => rfl) rfl rfl ⟨by rw [kI_sI, upd_s, List.length_append, List.length_singleton], fun j hj => ?_⟩
  rw [kA_sI, kA_sA_s]
  rw [List.length_append, List.length_singleton] at hj
  by_cases z : j = F.length
  · subst z
    rw [upd_s, List.getElem_append_right (Nat.le_refl _)]
    simp
  · rw [upd_o _ _ z, List.getElem_append_left (by omega)]
    exact f2 j (by omega)
theorem q_byIndex_43 (hN : 20000 ≤ N) (h : wOk W) {m sc b : Nat} (hm : m < 4) (hsc : sc < 3) (hb : b < 48) {w : Int64} (hw : ∀ e, e < 64 → lb w e = (decide (e < 48) && (tLv (wTr W m) (e : Nat) && wFt W (wTr W m) e))) : ∀ (n k i : Nat) (S : kS), i + k = 48 → k < n → kRel S (wFd W (fL W m sc b i)) → kI S 10 = zI (wU W m : Nat) → ∃ S2, pX3_byIndex_43 N (pX3_byIndex_118 N) n (zI (m : Nat)) (zI (b : Nat)) (zI (sc : Nat)) m w (zI (i : Nat)) S = some (zI ((fL W m sc b 48).length : Nat), S2) ∧ kRel S2 (wFd W (fL W m sc b 48))
  | 0, k, i, S, hk, hn, K, U => by omega
  | n + 1, k, i, S, hk, hn, K, U => by
    simp only [pX3_byIndex_43, pX3_byIndex_79, pX3_byIndex_112, nm_i]
    rw [zL_48, il_le (by omega) (by omega) (by omega) (by omega)]
    cases k with
    | zero =>
      have : i = 48 := by omega
      subst this
      rw [if_pos (by omega)]
      simp only [pX3_byIndex_118]
      rw [K.2.2.2.2.2.2.2.2.2.2.2.2.1]
      exact ⟨S, rfl, K⟩
    | succ k =>
      have hi : i < 48 := by omega
      have hlen := fL_len (W := W) (m := m) (sc := sc) (b := b) i
      have ek : zI (i : Nat) + 1 = zI ((i + 1 : Nat) : Int) := by rw [zL_1, zI_add]; congr 1
      have hF : wOk (wFd W (fL W m sc b i)) := wFd_ok h (by omega) (fL_lt hm (by omega))
      have Q : tOk S m (wTr W m) := kRel_t hF K hm
      have no : fnd W m sc b i = false → ∃ S2, pX3_byIndex_43 N (pX3_byIndex_118 N) n (zI (m : Nat)) (zI (b : Nat)) (zI (sc : Nat)) m w (zI ((i + 1 : Nat) : Int)) S = some (zI ((fL W m sc b 48).length : Nat), S2) ∧ kRel S2 (wFd W (fL W m sc b 48)) := fun g => by
        have es : fL W m sc b (i + 1) = fL W m sc b i := by rw [fL_s, if_neg (by rw [g]; decide)]
        exact q_byIndex_43 hN h hm hsc hb hw n k (i + 1) S (by omega) (by omega) (by rw [es]; exact K) U
      have hwi := hw i (by omega)
      rw [decide_eq_true hi, Bool.true_and] at hwi
      rw [if_neg (by omega), il_bit (by omega), ek]
      by_cases q1 : lb w i = true
      · rw [q1] at hwi
        have hwi := hwi.symm
        rw [Bool.and_eq_true] at hwi
        rw [if_pos q1, q_isInScope (by omega) Q hsc hb hi, bk_i, il_B]
        by_cases q2 : scp (wTr W m) sc b i = true
        · have eg := q_grants (N := N) Q (H := wH W) K.1 (by omega) (h.2.2.2.2.2.1 m hm) (what := 0) (by omega) (x := (i : Int)) (by omega) (by omega)
          have eg : pX8_grants N m (zI (wU W m : Nat)) (zI (i : Nat)) 0 S = _ := eg
          rw [if_pos q2, if_neg (by decide), U, eg, bk_i, il_B]
          by_cases q3 : tMay (wH W) (wTr W m) (wU W m) (i : Nat) 0 = true
          · have hf : fnd W m sc b i = true := by
              unfold fnd
              rw [hwi.1, q2, hwi.2, q3]; rfl
            have es : fL W m sc b (i + 1) = fL W m sc b i ++ [100 * m + i] := by rw [fL_s, if_pos hf]
            obtain ⟨S3, c1, c2, c3, c4, c5⟩ := q_keep (N := N) (s := 100 * m + i) K (show (fL W m sc b i).length < 192 by omega)
            rw [if_pos q3, zL_100, zI_mul, zI_add, show (m : Int) * 100 + (i : Nat) = ((100 * m + i : Nat) : Int) by omega, c1, bk_i]
            exact q_byIndex_43 hN h hm hsc hb hw n k (i + 1) S3 (by omega) (by omega) (by rw [es]; exact c2) (by rw [c3 10 (by omega)]; exact U)
          · rw [if_neg q3]
            exact no (by unfold fnd; rw [Bool.eq_false_iff.mpr q3, Bool.and_false, Bool.and_false, Bool.and_false])
        · rw [if_neg q2, if_pos trivial]
          exact no (by unfold fnd; rw [Bool.eq_false_iff.mpr q2, Bool.false_and, Bool.and_false])
      · rw [if_neg q1, if_pos trivial]
        refine no ?_
        rw [Bool.eq_false_iff.mpr q1] at hwi
        unfold fnd
        cases z1 : tLv (wTr W m) (i : Nat) with
        | false => rfl
        | true =>
          rw [z1, Bool.true_and] at hwi
          rw [← hwi, Bool.false_and, Bool.and_false, Bool.and_false]
theorem op_search (hN : 20000 ≤ N) (h : wOk W) (K : kRel S W) (R : mRel M W) (x y z : Int32) : opOk 1 3 0 (pX9_search N x y z S) (pf_search N x y z M) := by
  obtain ⟨x, h1, h2, rfl⟩ := zI_of x
  obtain ⟨y, h3, h4, rfl⟩ := zI_of y
  obtain ⟨z, h5, h6, rfl⟩ := zI_of z
  obtain ⟨M', code, e, R', ⟨rfl, m, b, sc, rfl, rfl, rfl, hm, hb, hsc, hl, hK1, L, hp⟩ | ⟨kk, hp, hc⟩⟩ := preS_ok (N := N) hN h K R h1 h2 h3 h4 h5 h6
  · simp only [pX9_search, pf_search, pX3_byIndex, sv_i, svk_i]
    have hU := K.2.2.2.2.2.2.1 m hm
    rw [hp, bx_l, e, bd_i, gm_n hm, gm_n hm, hU]
    generalize hS2 : sI (sI S 10 (zI (wU W m : Nat))) 8 0 = S2
    have i2 : ∀ q, q ≠ 8 → q ≠ 10 → kI S2 q = kI S q := fun q h1 h2 => by rw [← hS2, kI_sI, upd_o _ _ h1, kI_sI, upd_o _ _ h2]
    have a2 : kA S2 = kA S := by rw [← hS2]; rfl
    have j2 : kJ S2 = kJ S := by rw [← hS2]; rfl
    have l2 : kL S2 = kL S := by rw [← hS2]; rfl
    have d2 : S2.2.2.2.2 = S.2.2.2.2 := by rw [← hS2]; rfl
    have u2 : kI S2 10 = zI (wU W m : Nat) := by rw [← hS2, kI_sI, upd_o _ _ (by omega), kI_sI, upd_s]
    have z2 : kI S2 8 = zI (([] : List Nat).length : Nat) := by rw [← hS2, kI_sI, upd_s]; rfl
    have K2 : kRel S2 (wFd W []) := kRel_F K (fun q hq => i2 q (by omega) (by omega)) (fun c _ _ => by rw [a2]) (fun c _ => by rw [j2]) l2 d2 ⟨z2, fun i hi => absurd hi (Nat.not_lt_zero i)⟩
    have hF0 : wOk (wFd W []) := wFd_ok h (Nat.zero_le _) (fun s hs => absurd hs List.not_mem_nil)
    obtain ⟨w, S3, c1, c2, c3⟩ := q_appliesTo (N := N) (W := wFd W []) (by omega) hF0 (kRel_t hF0 K2 hm) K2.1 K2.2.2.1 hK1
    have K3 : kRel S3 (wFd W (fL W m sc b 0)) := kRel_F (W := wFd W []) K2 (fun q _ => by rw [c2.2.2.2.1]) (fun c _ _ => by rw [c2.2.1]) (fun c hc => c2.1 c (by omega)) c2.2.2.1 c2.2.2.2.2 ⟨by rw [c2.2.2.2.1]; exact z2, fun i hi => absurd hi (Nat.not_lt_zero i)⟩
    obtain ⟨S4, e1, e2⟩ := q_byIndex_43 (N := N) hN h hm hsc hb c3 N 48 0 S3 (by omega) (by omega) K3 (by rw [c2.2.2.2.1]; exact u2)
    have e1 : pX3_byIndex_43 N (pX3_byIndex_118 N) N (zI (m : Nat)) (zI (b : Nat)) (zI (sc : Nat)) m w 0 S3 = _ := e1
    rw [c1, bk_i, e1, bk_i]
    have t0 : (mI M' 0 0).1 0 = 0 := thr_k
    rw [t0, if_pos (show (0 : Int32) ≤ 0 by decide)]
    have M0 : mRel (mI (mI M' 0 0) 52 0) (wFd W (fL W m sc b 0)) := mRel_F (W := W) (mRel_0 (v := (0 : Int32)) R') (fun q a b => by rw [mI_1, upd_o _ _ (by omega)]) (fun c a b => by rw [mI_2]) ⟨by rw [mI_1, upd_s]; rfl, fun i hi => absurd hi (Nat.not_lt_zero i)⟩
    have L0 : rLd (mI (mI M' 0 0) 52 0) (wTr W m) := rLd_e (M := M') (by rw [mI_1, upd_o _ _ (by omega), mI_1, upd_o _ _ (by omega)]) (fun _ _ _ => rfl) L
    obtain ⟨M4, e3, e4, e5⟩ := r_search_28 (N := N) hN h hm hsc hb hK1 N 48 0 (mI (mI M' 0 0) 52 0) (by omega) (by omega) M0 L0 (by rw [mI_1, upd_o _ _ (by omega)]; exact t0)
    have e3 : pf_search_28 N (pf_search_79 N) N (zI (m : Nat)) (zI (b : Nat)) (zI (sc : Nat)) 0 (mI (mI M' 0 0) 52 0) = _ := e3
    rw [e3]
    have hlen := fL_len (W := W) (m := m) (sc := sc) (b := b) 48
    exact opOk_v rfl rfl e5 (wFd_ok h (by omega) (fL_lt hm (by omega))) e2 e4
  · simp only [pX9_search, pf_search, sv_i]
    rw [hp, bx_r, e, bd_i, thr_k, if_neg (by rcases hc with ⟨-, rfl⟩ | ⟨-, rfl⟩ <;> decide)]
    exact opOk_x rfl rfl (by rw [thr_k]; rcases hc with ⟨a, b⟩ | ⟨a, b⟩; exact Or.inl ⟨a, b⟩; exact Or.inr (Or.inl ⟨a, b⟩)) h K (mRel_0 R')
end SE
