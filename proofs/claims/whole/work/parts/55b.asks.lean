-- LEVEL 2, WHAT THE REFERENCE ANSWERS OF A TREE THAT IS LAID
theorem anyF_e (p : Nat → Bool) (i : Nat) : ∀ n, anyF p i (n + 1) = (anyF p i n || p (i + n))
  | 0 => by
    rw [anyF_s]
    show (p i || false) = (false || p (i + 0))
    rw [Bool.or_false, Bool.false_or, Nat.add_zero]
  | n + 1 => by
    apply Bool.eq_iff_iff.mpr
    rw [Bool.or_eq_true, anyF_iff, anyF_iff]
    constructor
    · rintro ⟨j, h1, h2, h3⟩
      by_cases q : j = i + (n + 1)
      · right; rw [← q]; exact h3
      · left; exact ⟨j, h1, by omega, h3⟩
    · rintro (⟨j, h1, h2, h3⟩ | h)
      · exact ⟨j, h1, by omega, h3⟩
      · exact ⟨i + (n + 1), by omega, by omega, h⟩
/-- classes and attributes that there are -/
def tX (H : sH) (T : sT) : Prop := (∀ e, e < 48 → tKl T e < (hC H : Int)) ∧ ∀ x ∈ tVs T, x.2.1 < hA H
section RQ
variable {N : Nat} {M : mS} {T : sT} {H : sH}
theorem tCnt_le {e a : Nat} : tCnt T e a ≤ (tVs T).length := List.countP_le_length
theorem r_countOf_5 (R : rT M T) {e a : Nat} (he : e < 48) (ha : a < 1000) (W : tW T) : ∀ (n k i c : Nat), i + k = (tVs T).length → k < n → pf_countOf_5 N n (zI (e : Nat)) (zI (a : Nat)) (zI (c : Nat)) (zI (i : Nat)) M = some (zI ((c + ((tVs T).drop i).countP (fun x => decide (x.1 = e) && decide (x.2.1 = a)) : Nat) : Int), M)
  | 0, k, i, c, hk, hn => by omega
  | n + 1, k, i, c, hk, hn => by
    obtain ⟨v1, v2, v3⟩ := R.2.2.2.2.2.2.1
    simp only [pf_countOf_5, pf_countOf_42, nm_i]
    rw [v1, il_le (by omega) (by omega) (by omega) (by omega)]
    cases k with
    | zero => rw [if_pos (by omega), List.drop_eq_nil_of_le (by omega)]; rfl
    | succ k =>
      have hi : i < (tVs T).length := by omega
      obtain ⟨x1, x2, x3⟩ := v3 i _ (List.getElem?_eq_getElem hi)
      obtain ⟨o1, o2, o3⟩ := tW_v W _ (List.getElem_mem hi)
      rw [if_neg (by omega), List.drop_eq_getElem_cons hi, List.countP_cons]
      simp only [gd_n (show i < 900 by omega) (show (900 : Nat) < 2147483648 by omega), zI_cn (show i < 2147483648 by omega)]
      rw [x1, il_eq (by omega) (by omega) (by omega) (by omega), x2, il_eq (by omega) (by omega) (by omega) (by omega), zL_0, zL_1]
      simp only [zI_add]
      rw [show (i : Int) + 1 = ((i + 1 : Nat) : Int) by omega, show (c : Int) + 1 = ((c + 1 : Nat) : Int) by omega, show (c : Int) + 0 = ((c : Nat) : Int) by omega]
      by_cases q1 : (tVs T)[i].1 = e
      · rw [if_pos (show ((tVs T)[i].1 : Int) = (e : Int) by omega)]
        by_cases q2 : (tVs T)[i].2.1 = a
        · rw [if_pos (show ((tVs T)[i].2.1 : Int) = (a : Int) by omega), r_countOf_5 R he ha W n k (i + 1) (c + 1) (by omega) (by omega)]
          rw [if_pos (by rw [decide_eq_true q1, decide_eq_true q2]; rfl)]
          congr 3
          omega
        · rw [if_neg (show ¬ ((tVs T)[i].2.1 : Int) = (a : Int) by omega), r_countOf_5 R he ha W n k (i + 1) c (by omega) (by omega)]
          rw [if_neg (by rw [decide_eq_false q2, Bool.and_false]; decide)]
          rfl
      · rw [if_neg (show ¬ ((tVs T)[i].1 : Int) = (e : Int) by omega), r_countOf_5 R he ha W n k (i + 1) c (by omega) (by omega)]
        rw [if_neg (by rw [decide_eq_false q1, Bool.false_and]; decide)]
        rfl
theorem r_countOf (hN : 901 ≤ N) (R : rT M T) (W : tW T) {e a : Nat} (he : e < 48) (ha : a < 1000) : pf_countOf N (zI (e : Nat)) (zI (a : Nat)) M = some (zI (tCnt T e a : Nat), M) := by
  have := r_countOf_5 (N := N) R he ha W N (tVs T).length 0 0 (by omega) (by have := R.2.2.2.2.2.2.1.2.1; omega)
  rw [List.drop_zero, Nat.zero_add] at this
  exact this
theorem r_hasMatch_6 (R : rT M T) (hK : ∀ a, a < 10 → M.2 3 a = zB (hTn H a)) {e a v : Nat} (he : e < 48) (ha : a < 10) (hv : v < 1000) (W : tW T) : ∀ (n k i : Nat) (b : Bool), i + k = (tVs T).length → k < n → pf_hasMatch_6 N n (zI (e : Nat)) (zI (a : Nat)) (zI (v : Nat)) (zB b) (zI (i : Nat)) M = some (zB (b || decide (0 < ((tVs T).drop i).countP (vGoes H e a false v))), M)
  | 0, k, i, b, hk, hn => by omega
  | n + 1, k, i, b, hk, hn => by
    obtain ⟨v1, v2, v3⟩ := R.2.2.2.2.2.2.1
    simp only [pf_hasMatch_6, pf_hasMatch_68, nm_i]
    rw [v1, il_le (by omega) (by omega) (by omega) (by omega)]
    cases k with
    | zero =>
      rw [if_pos (by omega), List.drop_eq_nil_of_le (by omega), zr_B]
      show _ = some (zB (b || false), M)
      rw [Bool.or_false]
    | succ k =>
      have hi : i < (tVs T).length := by omega
      obtain ⟨x1, x2, x3⟩ := v3 i _ (List.getElem?_eq_getElem hi)
      obtain ⟨o1, o2, o3⟩ := tW_v W _ (List.getElem_mem hi)
      have k1 := hKey_lt (H := H) (a := a) o3
      have k2 := hKey_lt (H := H) (a := a) hv
      rw [if_neg (by omega), il_B, List.drop_eq_getElem_cons hi, List.countP_cons, show zI (i : Nat) + 1 = zI ((i + 1 : Nat) : Int) by rw [zL_1, zI_add]; congr 1]
      cases b with
      | true =>
        rw [if_pos rfl]
        have := r_hasMatch_6 R hK he ha hv W n k (i + 1) true (by omega) (by omega)
        rw [Bool.true_or] at this ⊢
        exact this
      | false =>
        have ih1 := r_hasMatch_6 R hK he ha hv W n k (i + 1) true (by omega) (by omega)
        have ih0 := r_hasMatch_6 R hK he ha hv W n k (i + 1) false (by omega) (by omega)
        have ih1 : pf_hasMatch_6 N n (zI (e : Nat)) (zI (a : Nat)) (zI (v : Nat)) 1 (zI ((i + 1 : Nat) : Int)) M = _ := ih1
        have ih0 : pf_hasMatch_6 N n (zI (e : Nat)) (zI (a : Nat)) (zI (v : Nat)) 0 (zI ((i + 1 : Nat) : Int)) M = _ := ih0
        rw [if_neg (by decide)]
        simp only [gd_n (show i < 900 by omega) (show (900 : Nat) < 2147483648 by omega), zI_cn (show i < 2147483648 by omega)]
        rw [x1, il_eq (by omega) (by omega) (by omega) (by omega), x2, il_eq (by omega) (by omega) (by omega) (by omega)]
        by_cases q1 : (tVs T)[i].1 = e
        · rw [if_pos (show ((tVs T)[i].1 : Int) = (e : Int) by omega)]
          by_cases q2 : (tVs T)[i].2.1 = a
          · rw [if_pos (show ((tVs T)[i].2.1 : Int) = (a : Int) by omega), x3, r_key hK ha o3, bd_i, r_key hK ha hv, bd_i, il_eq (by omega) (by omega) (by omega) (by omega)]
            by_cases q3 : hKey H a (tVs T)[i].2.2 = hKey H a v
            · rw [if_pos (show (hKey H a (tVs T)[i].2.2 : Int) = (hKey H a v : Int) by omega), ih1, if_pos (show vGoes H e a false v (tVs T)[i] = true by unfold vGoes; simp [q1, q2, q3])]
              simp
            · rw [if_neg (show ¬ (hKey H a (tVs T)[i].2.2 : Int) = (hKey H a v : Int) by omega), ih0, if_neg (show ¬ vGoes H e a false v (tVs T)[i] = true by unfold vGoes; simp [q3])]
              simp
          · rw [if_neg (show ¬ ((tVs T)[i].2.1 : Int) = (a : Int) by omega), ih0, if_neg (show ¬ vGoes H e a false v (tVs T)[i] = true by unfold vGoes; simp [q2])]
            simp
        · rw [if_neg (show ¬ ((tVs T)[i].1 : Int) = (e : Int) by omega), ih0, if_neg (show ¬ vGoes H e a false v (tVs T)[i] = true by unfold vGoes; simp [q1])]
          simp
theorem r_hasMatch (hN : 901 ≤ N) (R : rT M T) (W : tW T) (hK : ∀ a, a < 10 → M.2 3 a = zB (hTn H a)) {e a v : Nat} (he : e < 48) (ha : a < 10) (hv : v < 1000) : pf_hasMatch N (zI (e : Nat)) (zI (a : Nat)) (zI (v : Nat)) M = some (zB (decide (0 < tMt H T e a v)), M) := by
  have := r_hasMatch_6 (N := N) R hK he ha hv W N (tVs T).length 0 false (by omega) (by have := R.2.2.2.2.2.2.1.2.1; omega)
  rw [List.drop_zero, Bool.false_or] at this
  exact this
theorem r_isNamed_6 (L : rLd M T) {place name but : Int} (h1 : -3 ≤ place) (h2 : place < 1000) (h3 : -1 ≤ name) (h4 : name < 1000) (h5 : -1 ≤ but) (h6 : but < 1000) : ∀ (n k i : Nat) (b : Bool), 1 ≤ i → i + k = 48 → k < n → pf_isNamed_6 N n (zI place) (zI but) (zI name) (zB b) (zI (i : Nat)) M = some (zB (b || anyF (tShP T place name but) i k), M)
  | 0, k, i, b, hi, hk, hn => by omega
  | n + 1, k, i, b, hi, hk, hn => by
    obtain ⟨R, W, P, Q⟩ := id L
    simp only [pf_isNamed_6, pf_isNamed_60, nm_i]
    rw [zL_48, il_le (by omega) (by omega) (by omega) (by omega)]
    cases k with
    | zero =>
      rw [if_pos (by omega), zr_B]
      show _ = some (zB (b || false), M)
      rw [Bool.or_false]
    | succ k =>
      have hik : i < 48 := by omega
      have pi := tPl_rg W hik
      have si := tSh_rg W hik
      rw [if_neg (by omega), il_B, anyF_s, show zI (i : Nat) + 1 = zI ((i + 1 : Nat) : Int) by rw [zL_1, zI_add]; congr 1]
      cases b with
      | true =>
        rw [if_pos rfl]
        have := r_isNamed_6 L h1 h2 h3 h4 h5 h6 n k (i + 1) true (by omega) (by omega) (by omega)
        rw [Bool.true_or] at this ⊢
        exact this
      | false =>
        have ih1 : pf_isNamed_6 N n (zI place) (zI but) (zI name) 1 (zI ((i + 1 : Nat) : Int)) M = _ := r_isNamed_6 L h1 h2 h3 h4 h5 h6 n k (i + 1) true (by omega) (by omega) (by omega)
        have ih0 : pf_isNamed_6 N n (zI place) (zI but) (zI name) 0 (zI ((i + 1 : Nat) : Int)) M = _ := r_isNamed_6 L h1 h2 h3 h4 h5 h6 n k (i + 1) false (by omega) (by omega) (by omega)
        rw [if_neg (by decide), r_isLive R (by omega) (by omega), bd_i, il_B]
        cases hlv : tLv T i with
        | false =>
          rw [if_neg (by decide), ih0]
          have : tShP T place name but i = false := by unfold tShP; simp [hlv]
          rw [this, Bool.false_or, Bool.false_or]
        | true =>
          rw [if_pos rfl, il_eq (by omega) (by omega) (by omega) (by omega)]
          by_cases hb : (i : Int) = but
          · rw [if_pos hb, ih0]
            have : tShP T place name but i = false := by unfold tShP; simp [hb]
            rw [this, Bool.false_or, Bool.false_or]
          · rw [if_neg hb]
            simp only [gd_n hik (show (48 : Nat) < 2147483648 by omega), zI_cn (show i < 2147483648 by omega)]
            rw [P i hik, il_eq (by omega) (by omega) (by omega) (by omega)]
            by_cases hpl : tPl T i = place
            · rw [if_pos hpl, Q i hik (tLv_th hik hlv), il_eq (by omega) (by omega) (by omega) (by omega)]
              by_cases hsh : tSh T i = name
              · rw [if_pos hsh, ih1]
                have : tShP T place name but i = true := by unfold tShP; simp [hlv, hpl, hsh, hb]
                rw [this]
                simp
              · rw [if_neg hsh, ih0]
                have : tShP T place name but i = false := by unfold tShP; simp [hsh]
                rw [this, Bool.false_or, Bool.false_or]
            · rw [if_neg hpl, ih0]
              have : tShP T place name but i = false := by unfold tShP; simp [hpl]
              rw [this, Bool.false_or, Bool.false_or]
theorem r_isNamed (hN : 48 ≤ N) (L : rLd M T) {place name but : Int} (h1 : -3 ≤ place) (h2 : place < 1000) (h3 : -1 ≤ name) (h4 : name < 1000) (h5 : -1 ≤ but) (h6 : but < 1000) : pf_isNamed N (zI place) (zI but) (zI name) M = some (zB (tShd T place name but), M) := by
  have := r_isNamed_6 (N := N) L h1 h2 h3 h4 h5 h6 N 47 1 false (by omega) (by omega) (by omega)
  rw [Bool.false_or] at this
  exact this
theorem hReq_s {H : sH} (S : rSc M H) {k : Nat} (hk : k < hC H) : hReq H k = M.2 6 k ||| hReq H (hPr H k) := by
  rw [← S.2.2.2.2.2.1 k hk]
  unfold hReq
  rw [if_pos (by unfold hIs; simp [hk]), Int.toNat_natCast]
theorem hAll_s {H : sH} (S : rSc M H) {k : Nat} (hk : k < hC H) : hAll H k = (M.2 6 k ||| M.2 7 k) ||| hAll H (hPr H k) := by
  rw [← S.2.2.2.2.2.2 k hk]
  unfold hAll
  rw [if_pos (by unfold hIs; simp [hk]), Int.toNat_natCast]
theorem hReq_m {H : sH} : hReq H (-1) = 0 := by unfold hReq hIs; rfl
theorem hAll_m {H : sH} : hAll H (-1) = 0 := by unfold hAll hIs; rfl
theorem i32_or_assoc (a b c : Int32) : (a ||| b) ||| c = a ||| (b ||| c) := by
  apply ib_ext
  intro i hi
  rw [ib_or, ib_or, ib_or, ib_or, Bool.or_assoc]
theorem i32_or_0 (a : Int32) : a ||| 0 = a := by
  apply ib_ext
  intro i hi
  rw [ib_or, ib_0, Bool.or_false]
theorem r_requiredBy_4 (S : rSc M H) (hW : hW H) : ∀ (n : Nat) (k : Int) (w : Int32), -1 ≤ k → k < (hC H : Int) → k + 1 < n → pf_requiredBy_4 N n w (zI k) M = some (w ||| hReq H k, M)
  | 0, k, w, h1, _, hn => by omega
  | n + 1, k, w, h1, h2, hn => by
    have h8 := hW.2.1
    simp only [pf_requiredBy_4, nm_i]
    rw [zL_m1, il_eq (by omega) (by omega) (by omega) (by omega)]
    by_cases q : k = -1
    · rw [if_pos q, q, hReq_m, i32_or_0]
    · obtain ⟨j, rfl⟩ : ∃ j : Nat, k = j := ⟨k.toNat, by omega⟩
      have hj : j < hC H := by omega
      have hp := hW.2.2.1 j hj
      rw [if_neg q, gd_n (by omega) (by omega), gd_n (by omega) (by omega), zI_cn (by omega), S.2.2.2.2.1 j hj, r_requiredBy_4 S hW n _ _ hp.1 (by omega) (by omega), hReq_s S hj, i32_or_assoc]
theorem r_requiredBy (hN : 20 ≤ N) (S : rSc M H) (hW : hW H) {k : Int} (h1 : -1 ≤ k) (h2 : k < (hC H : Int)) : pf_requiredBy N (zI k) M = some (hReq H k, M) := by
  have h8 := hW.2.1
  have := r_requiredBy_4 (N := N) S hW N k 0 h1 h2 (by omega)
  rw [show (0 : Int32) ||| hReq H k = hReq H k by
    apply ib_ext
    intro i hi
    rw [ib_or, ib_0, Bool.false_or]] at this
  exact this
theorem r_allowedBy_4 (S : rSc M H) (hW : hW H) : ∀ (n : Nat) (k : Int) (w : Int32), -1 ≤ k → k < (hC H : Int) → k + 1 < n → pf_allowedBy_4 N n w (zI k) M = some (w ||| hAll H k, M)
  | 0, k, w, h1, _, hn => by omega
  | n + 1, k, w, h1, h2, hn => by
    have h8 := hW.2.1
    simp only [pf_allowedBy_4, nm_i]
    rw [zL_m1, il_eq (by omega) (by omega) (by omega) (by omega)]
    by_cases q : k = -1
    · rw [if_pos q, q, hAll_m, i32_or_0]
    · obtain ⟨j, rfl⟩ : ∃ j : Nat, k = j := ⟨k.toNat, by omega⟩
      have hj : j < hC H := by omega
      have hp := hW.2.2.1 j hj
      rw [if_neg q, gd_n (by omega) (by omega), gd_n (by omega) (by omega), gd_n (by omega) (by omega), zI_cn (by omega), S.2.2.2.2.1 j hj, r_allowedBy_4 S hW n _ _ hp.1 (by omega) (by omega), hAll_s S hj, i32_or_assoc]
theorem r_allowedBy (hN : 20 ≤ N) (S : rSc M H) (hW : hW H) {k : Int} (h1 : -1 ≤ k) (h2 : k < (hC H : Int)) : pf_allowedBy N (zI k) M = some (hAll H k, M) := by
  have h8 := hW.2.1
  have := r_allowedBy_4 (N := N) S hW N k 0 h1 h2 (by omega)
  rw [show (0 : Int32) ||| hAll H k = hAll H k by
    apply ib_ext
    intro i hi
    rw [ib_or, ib_0, Bool.false_or]] at this
  exact this
end RQ
