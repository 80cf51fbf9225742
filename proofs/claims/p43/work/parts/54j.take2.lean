-- LEVEL 2, EACH KIND OF CHANGE DONE BY THE CLASS'S TREE
theorem arr_upf {f : Nat → Int32} {g : Nat → Int} {e : Nat} {v : Int} (h : ∀ j, j < 48 → f j = zI (g j)) : ∀ j, j < 48 → upd f e (zI v) j = zI (upf g e v j) := fun j hj => by
  by_cases q : j = e
  · rw [q, upd_s, upf_s]
  · rw [upd_o _ _ q, upf_o _ _ q]; exact h j hj
theorem lb_54 : ∀ i, i < 64 → lb (18014398509481984 : Int64) i = decide (i = 54) := by decide +kernel
theorem sBt_lt {s : Nat} (h : s < 55) : sBt s < 55 := by unfold sBt; split; omega; split <;> omega
theorem sBt_inj {s u : Nat} (h : s < 55) (h2 : u < 55) (e : sBt s = sBt u) : s = u := by
  unfold sBt at e
  split at e <;> split at e <;> (try split at e) <;> (try split at e) <;> omega
section QM
variable {N : Nat} {S : kS} {t : Nat} {H : sH} {T : sT}
theorem q_bitOf {s : Nat} (hs : s < 55) : ∃ w, pX6_bitOf N (zI (sSub s)) S = some (w, S) ∧ ∀ i, i < 64 → lb w i = decide (i = sBt s) := by
  simp only [pX6_bitOf]
  unfold sSub sBt
  by_cases h6 : s < 6
  · rw [if_pos h6, if_pos h6, zL_m1, il_eq (by omega) (by omega) (by omega) (by omega), if_neg (by omega), zL_100, il_lt (by omega) (by omega) (by omega) (by omega), if_pos (by omega), zL_48, zI_add]
    refine ⟨_, rfl, fun i hi => ?_⟩
    rw [show (48 : Int) + (s : Int) = ((48 + s : Nat) : Int) by omega]
    exact lb_shl1 (by omega) hi
  · rw [if_neg h6, if_neg h6]
    by_cases h54 : s < 54
    · rw [if_pos h54, if_pos h54, zL_m1, il_eq (by omega) (by omega) (by omega) (by omega), if_neg (by omega), zL_100, il_lt (by omega) (by omega) (by omega) (by omega), if_neg (by omega), zI_sub]
      refine ⟨_, rfl, fun i hi => ?_⟩
      rw [show (100 : Int) + (s : Int) - 6 - 100 = ((s - 6 : Nat) : Int) by omega]
      exact lb_shl1 (by omega) hi
    · rw [if_neg h54, if_neg h54, zL_m1, if_pos rfl]
      exact ⟨_, rfl, fun i hi => lb_54 i hi⟩
/-- one component after another is set -/
theorem tR_nm (R : tR S t T) {e : Nat} {v : Int} : tR (sA S (26 + 15 * t + 1) e (zI v)) t (tMk (tTh T) (tDd T) (tKl T) (tPa T) (upf (tNm T) e v) (tLk T) (tBn T) (tVs T) (tSy T)) := by
  obtain ⟨r1, r2, r3, r4, r5, r6, r7, r8, r9, l1, l2, n1, n2, p1, p2⟩ := R
  refine ⟨by rw [kA_sA_s]; exact arr_upf r1, by rw [kA_sA_o _ _ _ (by omega)]; exact r2, by rw [kA_sA_o _ _ _ (by omega)]; exact r3, by rw [kA_sA_o _ _ _ (by omega)]; exact r4, by rw [kA_sA_o _ _ _ (by omega)]; exact r5, r6, r7, r8, r9, l1, l2, ?_, ?_, p1, p2⟩
  · obtain ⟨q1, q2, q3⟩ := n1; exact ⟨q1, by rw [kA_sA_o _ _ _ (by omega)]; exact q2, q3⟩
  · obtain ⟨q1, q2, q3⟩ := n2; exact ⟨q1, by rw [kA_sA_o _ _ _ (by omega)]; exact q2, q3⟩
theorem tR_kl (R : tR S t T) {e : Nat} {v : Int} : tR (sA S (26 + 15 * t + 2) e (zI v)) t (tMk (tTh T) (tDd T) (upf (tKl T) e v) (tPa T) (tNm T) (tLk T) (tBn T) (tVs T) (tSy T)) := by
  obtain ⟨r1, r2, r3, r4, r5, r6, r7, r8, r9, l1, l2, n1, n2, p1, p2⟩ := R
  refine ⟨by rw [kA_sA_o _ _ _ (by omega)]; exact r1, by rw [kA_sA_s]; exact arr_upf r2, by rw [kA_sA_o _ _ _ (by omega)]; exact r3, by rw [kA_sA_o _ _ _ (by omega)]; exact r4, by rw [kA_sA_o _ _ _ (by omega)]; exact r5, r6, r7, r8, r9, l1, l2, ?_, ?_, p1, p2⟩
  · obtain ⟨q1, q2, q3⟩ := n1; exact ⟨q1, by rw [kA_sA_o _ _ _ (by omega)]; exact q2, q3⟩
  · obtain ⟨q1, q2, q3⟩ := n2; exact ⟨q1, by rw [kA_sA_o _ _ _ (by omega)]; exact q2, q3⟩
theorem tR_lk (R : tR S t T) {e : Nat} {v : Int} : tR (sA S (26 + 15 * t + 3) e (zI v)) t (tMk (tTh T) (tDd T) (tKl T) (tPa T) (tNm T) (upf (tLk T) e v) (tBn T) (tVs T) (tSy T)) := by
  obtain ⟨r1, r2, r3, r4, r5, r6, r7, r8, r9, l1, l2, n1, n2, p1, p2⟩ := R
  refine ⟨by rw [kA_sA_o _ _ _ (by omega)]; exact r1, by rw [kA_sA_o _ _ _ (by omega)]; exact r2, by rw [kA_sA_s]; exact arr_upf r3, by rw [kA_sA_o _ _ _ (by omega)]; exact r4, by rw [kA_sA_o _ _ _ (by omega)]; exact r5, r6, r7, r8, r9, l1, l2, ?_, ?_, p1, p2⟩
  · obtain ⟨q1, q2, q3⟩ := n1; exact ⟨q1, by rw [kA_sA_o _ _ _ (by omega)]; exact q2, q3⟩
  · obtain ⟨q1, q2, q3⟩ := n2; exact ⟨q1, by rw [kA_sA_o _ _ _ (by omega)]; exact q2, q3⟩
theorem tR_pa (R : tR S t T) {e : Nat} {v : Int} : tR (sA S (26 + 15 * t + 4) e (zI v)) t (tMk (tTh T) (tDd T) (tKl T) (upf (tPa T) e v) (tNm T) (tLk T) (tBn T) (tVs T) (tSy T)) := by
  obtain ⟨r1, r2, r3, r4, r5, r6, r7, r8, r9, l1, l2, n1, n2, p1, p2⟩ := R
  refine ⟨by rw [kA_sA_o _ _ _ (by omega)]; exact r1, by rw [kA_sA_o _ _ _ (by omega)]; exact r2, by rw [kA_sA_o _ _ _ (by omega)]; exact r3, by rw [kA_sA_s]; exact arr_upf r4, by rw [kA_sA_o _ _ _ (by omega)]; exact r5, r6, r7, r8, r9, l1, l2, ?_, ?_, p1, p2⟩
  · obtain ⟨q1, q2, q3⟩ := n1; exact ⟨q1, by rw [kA_sA_o _ _ _ (by omega)]; exact q2, q3⟩
  · obtain ⟨q1, q2, q3⟩ := n2; exact ⟨q1, by rw [kA_sA_o _ _ _ (by omega)]; exact q2, q3⟩
/-- an entry is there, with its rank -/
theorem tR_th (R : tR S t T) {e r : Nat} (he : e < 48) : tR (sA (sL S (8 + 2 * t) ((kL S (8 + 2 * t)) ||| ((1 : Int64) <<< ((zI (e : Nat)).toInt64 &&& 63)))) (26 + 15 * t + 5) e (zI (r : Nat))) t (tMk (upf (tTh T) e true) (tDd T) (tKl T) (tPa T) (tNm T) (tLk T) (upf (tBn T) e r) (tVs T) (tSy T)) := by
  obtain ⟨r1, r2, r3, r4, r5, r6, r7, r8, r9, l1, l2, n1, n2, p1, p2⟩ := R
  refine ⟨by rw [kA_sA_o _ _ _ (by omega)]; exact r1, by rw [kA_sA_o _ _ _ (by omega)]; exact r2, by rw [kA_sA_o _ _ _ (by omega)]; exact r3, by rw [kA_sA_o _ _ _ (by omega)]; exact r4, fun j hj hth => ?_, fun i hi => ?_, fun i hi => ?_, r8, r9, l1, l2, ?_, ?_, p1, p2⟩
  · have hth : upf (tTh T) e true j = true := hth
    show kA (sA _ _ _ _) _ j = zI (upf (tBn T) e r j : Nat)
    rw [kA_sA_s]
    by_cases q : j = e
    · rw [q, upd_s, upf_s]
    · rw [upd_o _ _ q, upf_o _ _ q]
      rw [upf_o _ _ q] at hth
      exact r5 j hj hth
  · show lb (kL (sA _ _ _ _) (8 + 2 * t)) i = (decide (i < 48) && upf (tTh T) e true i)
    rw [kL_sA, kL_sL, updL_s, lb_or, r6 i hi, lb_shl1 (by omega) hi]
    by_cases q : i = e
    · rw [q, upf_s]; simp [he]
    · rw [upf_o _ _ q]; simp [q]
  · show lb (kL (sA _ _ _ _) (9 + 2 * t)) i = _
    rw [kL_sA, kL_sL, updL_o _ _ (by omega)]; exact r7 i hi
  · obtain ⟨q1, q2, q3⟩ := n1; exact ⟨q1, by rw [kA_sA_o _ _ _ (by omega)]; exact q2, q3⟩
  · obtain ⟨q1, q2, q3⟩ := n2; exact ⟨q1, by rw [kA_sA_o _ _ _ (by omega)]; exact q2, q3⟩
theorem tR_dd (R : tR S t T) {e : Nat} (he : e < 48) : tR (sL S (9 + 2 * t) ((kL S (9 + 2 * t)) ||| ((1 : Int64) <<< ((zI (e : Nat)).toInt64 &&& 63)))) t (tMk (tTh T) (upf (tDd T) e true) (tKl T) (tPa T) (tNm T) (tLk T) (tBn T) (tVs T) (tSy T)) := by
  obtain ⟨r1, r2, r3, r4, r5, r6, r7, r8, r9, l1, l2, n1, n2, p1, p2⟩ := R
  refine ⟨r1, r2, r3, r4, r5, fun i hi => ?_, fun i hi => ?_, r8, r9, l1, l2, n1, n2, p1, p2⟩
  · rw [kL_sL, updL_o _ _ (by omega)]; exact r6 i hi
  · show lb (kL (sL _ _ _) (9 + 2 * t)) i = (decide (i < 48) && upf (tDd T) e true i)
    rw [kL_sL, updL_s, lb_or, r7 i hi, lb_shl1 (by omega) hi]
    by_cases q : i = e
    · rw [q, upf_s]; simp [he]
    · rw [upf_o _ _ q]; simp [q]
theorem q_say (R : tR S t T) {e p r s y : Nat} (he : e < 48) (hp : p < 3) (hr : r < 2) (hs : s < 55) (hy : y ≤ 2) : ∃ S', pX6_say N t (zI (((e * 3 + p) * 2 + r : Nat) : Int)) (zI (sSub s)) (zI (y : Nat)) S = some ((), S') ∧ tR S' t (tMk (tTh T) (tDd T) (tKl T) (tPa T) (tNm T) (tLk T) (tBn T) (tVs T) (upf (tSy T) e (upf (tSy T e) (6 * s + 2 * p + r) y))) ∧ frT t S S' := by
  obtain ⟨w, hw, hb⟩ := q_bitOf (N := N) (S := S) hs
  obtain ⟨r1, r2, r3, r4, r5, r6, r7, r8, r9, l1, l2, n1, n2, p1, p2⟩ := R
  have hk : (e * 3 + p) * 2 + r < 288 := by omega
  have hsb := sBt_lt hs
  -- what the two sets are behind it
  have fin : ∀ S' : kS, (∃ fa fd : Nat → Int64, kJ S' (26 + 15 * t + 7) = vp_updL (kJ S (26 + 15 * t + 7)) ((e * 3 + p) * 2 + r) (fa 0) ∧ kJ S' (26 + 15 * t + 8) = vp_updL (kJ S (26 + 15 * t + 8)) ((e * 3 + p) * 2 + r) (fd 0) ∧ (∀ i, i < 64 → lb (fa 0) i = if i = sBt s then decide (y = 1) else lb (kJ S (26 + 15 * t + 7) ((e * 3 + p) * 2 + r)) i) ∧ (∀ i, i < 64 → lb (fd 0) i = if i = sBt s then decide (y = 2) else lb (kJ S (26 + 15 * t + 8) ((e * 3 + p) * 2 + r)) i)) → kA S' = kA S → kL S' = kL S → kI S' = kI S → tR S' t (tMk (tTh T) (tDd T) (tKl T) (tPa T) (tNm T) (tLk T) (tBn T) (tVs T) (upf (tSy T) e (upf (tSy T e) (6 * s + 2 * p + r) y))) := by
    intro S' hS hA hL hI
    obtain ⟨fa, fd, ha, hd, ba, bd⟩ := hS
    refine ⟨by rw [hA]; exact r1, by rw [hA]; exact r2, by rw [hA]; exact r3, by rw [hA]; exact r4, by rw [hA]; exact r5, by rw [hL]; exact r6, by rw [hL]; exact r7, fun e2 c2 q2 s2 h1 h2 h3 h4 => ?_, fun k i h1 h2 h3 => ?_, l1, l2, ?_, ?_, p1, p2⟩
    · show _ = decide (upf (tSy T) e (upf (tSy T e) (6 * s + 2 * p + r) y) e2 (6 * s2 + 2 * c2 + q2) = 1) ∧ _ = decide (upf (tSy T) e (upf (tSy T e) (6 * s + 2 * p + r) y) e2 (6 * s2 + 2 * c2 + q2) = 2)
      have hsb2 := sBt_lt h4
      rw [ha, hd]
      by_cases q : (e2 * 3 + c2) * 2 + q2 = (e * 3 + p) * 2 + r
      · have e1 : e2 = e := by omega
        have e3 : c2 = p := by omega
        have e4 : q2 = r := by omega
        subst e1; subst e3; subst e4
        rw [updL_s, updL_s, ba _ (by omega), bd _ (by omega), upf_s]
        by_cases q5 : s2 = s
        · rw [q5, if_pos rfl, if_pos rfl, upf_s]; exact ⟨rfl, rfl⟩
        · rw [if_neg (fun h => q5 (sBt_inj h4 hs h)), if_neg (fun h => q5 (sBt_inj h4 hs h)), upf_o _ _ (by omega)]
          exact r8 e2 c2 q2 s2 h1 h2 h3 h4
      · rw [updL_o _ _ q, updL_o _ _ q]
        by_cases q5 : e2 = e
        · subst q5
          rw [upf_s, upf_o _ _ (by omega)]
          exact r8 e2 c2 q2 s2 h1 h2 h3 h4
        · rw [upf_o _ _ q5]
          exact r8 e2 c2 q2 s2 h1 h2 h3 h4
    · rw [ha, hd]
      by_cases q : k = (e * 3 + p) * 2 + r
      · rw [q, updL_s, updL_s, ba i h3, bd i h3, if_neg (by omega), if_neg (by omega)]
        exact r9 _ i (by omega) h2 h3
      · rw [updL_o _ _ q, updL_o _ _ q]
        exact r9 k i h1 h2 h3
    · obtain ⟨q1, q2, q3⟩ := n1; exact ⟨by rw [hI]; exact q1, by rw [hA]; exact q2, q3⟩
    · obtain ⟨q1, q2, q3⟩ := n2; exact ⟨by rw [hI]; exact q1, by rw [hA]; exact q2, q3⟩
  have hm : ∀ (x : Int64) (i : Nat), i < 64 → lb (x &&& (w ^^^ (-1))) i = if i = sBt s then false else lb x i := fun x i hi => by
    rw [lb_and, lb_not _ hi, hb i hi]
    by_cases q : i = sBt s <;> simp [q]
  have hm2 : ∀ (x : Int64) (i : Nat), i < 64 → lb ((x &&& (w ^^^ (-1))) ||| w) i = if i = sBt s then true else lb x i := fun x i hi => by
    rw [lb_or, hm x i hi, hb i hi]
    by_cases q : i = sBt s <;> simp [q]
  have hJ7 : ∀ v : Int64, kJ (sJ S (26 + 15 * t + 7) ((e * 3 + p) * 2 + r) v) (26 + 15 * t + 8) = kJ S (26 + 15 * t + 8) := fun v => kJ_sJ_o _ _ _ (by omega)
  simp only [pX6_say]
  rw [hw, bk_i]
  simp only [gd_n hk (show (288 : Nat) < 2147483648 by omega), zI_cn (show (e * 3 + p) * 2 + r < 2147483648 by omega), svk_i]
  rw [zL_1, zL_2, il_eq (by omega) (by omega) (by omega) (by omega), il_eq (by omega) (by omega) (by omega) (by omega)]
  have uu : ∀ (f : Nat → Int64) (a b : Int64), vp_updL (vp_updL f ((e * 3 + p) * 2 + r) a) ((e * 3 + p) * 2 + r) b = vp_updL f ((e * 3 + p) * 2 + r) b := fun f a b => by
    funext j
    unfold vp_updL
    split <;> rfl
  by_cases y1 : (y : Int) = 1
  · rw [if_pos y1]
    refine ⟨_, rfl, fin _ ⟨fun _ => ((kJ S (26 + 15 * t + 7) ((e * 3 + p) * 2 + r)) &&& (w ^^^ (-1))) ||| w, fun _ => (kJ S (26 + 15 * t + 8) ((e * 3 + p) * 2 + r)) &&& (w ^^^ (-1)), ?_, ?_, fun i hi => ?_, fun i hi => ?_⟩ rfl rfl rfl, ?_⟩
    · rw [kJ_sJ_s, kJ_sJ_o _ _ _ (by omega), kJ_sJ_s, uu, updL_s]
    · rw [kJ_sJ_o _ _ _ (by omega), kJ_sJ_s, hJ7]
    · rw [hm2 _ i hi]; simp [show y = 1 by omega]
    · rw [hm _ i hi]; simp [show y = 1 by omega]
    · exact ((fr_sJ (by omega) (by omega)).trans (fr_sJ (by omega) (by omega))).trans (fr_sJ (by omega) (by omega))
  · rw [if_neg y1]
    by_cases y2 : (y : Int) = 2
    · rw [if_pos y2]
      refine ⟨_, rfl, fin _ ⟨fun _ => (kJ S (26 + 15 * t + 7) ((e * 3 + p) * 2 + r)) &&& (w ^^^ (-1)), fun _ => ((kJ S (26 + 15 * t + 8) ((e * 3 + p) * 2 + r)) &&& (w ^^^ (-1))) ||| w, ?_, ?_, fun i hi => ?_, fun i hi => ?_⟩ rfl rfl rfl, ?_⟩
      · rw [kJ_sJ_o _ _ _ (by omega), kJ_sJ_o _ _ _ (by omega), kJ_sJ_s]
      · rw [kJ_sJ_s, kJ_sJ_s, hJ7, uu, updL_s]
      · rw [hm _ i hi]; simp [show y = 2 by omega]
      · rw [hm2 _ i hi]; simp [show y = 2 by omega]
      · exact ((fr_sJ (by omega) (by omega)).trans (fr_sJ (by omega) (by omega))).trans (fr_sJ (by omega) (by omega))
    · rw [if_neg y2]
      refine ⟨_, rfl, fin _ ⟨fun _ => (kJ S (26 + 15 * t + 7) ((e * 3 + p) * 2 + r)) &&& (w ^^^ (-1)), fun _ => (kJ S (26 + 15 * t + 8) ((e * 3 + p) * 2 + r)) &&& (w ^^^ (-1)), ?_, ?_, fun i hi => ?_, fun i hi => ?_⟩ rfl rfl rfl, ?_⟩
      · rw [kJ_sJ_o _ _ _ (by omega), kJ_sJ_s]
      · rw [kJ_sJ_s, hJ7]
      · rw [hm _ i hi]; simp [show y = 0 by omega]
      · rw [hm _ i hi]; simp [show y = 0 by omega]
      · exact (fr_sJ (by omega) (by omega)).trans (fr_sJ (by omega) (by omega))
/-- the values of a new entry -/
theorem vTake_ok {vs : List (Nat × Nat × Nat)} (hv : ∀ x ∈ vs, vOk x) {e a v : Nat} (hx : vOk (e, a, v)) : ∀ x ∈ vTake H vs e a v, vOk x := fun x h => by
  rcases List.mem_append.mp h with h | h
  · exact vDrop_ok hv x h
  · rw [List.mem_singleton] at h; rw [h]; exact hx
theorem vTake_len {vs : List (Nat × Nat × Nat)} {e a v : Nat} : (vTake H vs e a v).length ≤ vs.length + 1 := by
  unfold vTake
  rw [List.length_append]
  have := vDrop_len (H := H) (vs := vs) (e := e) (a := a) (v := v) (all := hSg H a)
  simp only [List.length_singleton]
  omega
theorem q_takeAdd_76 (hN : 900 ≤ N) {e j n1 : Nat} (he : e < 48) {cs : List (Nat × Nat)} (hcs : ∀ x ∈ cs, x.1 < 10 ∧ x.2 < 1000) (hlen : cs.length ≤ 12) : ∀ (n k i : Nat), i + k = cs.length → k < n → ∀ (S : kS) (vs : List (Nat × Nat × Nat)), hR S H → vRs S t vs → (∀ x ∈ vs, vOk x) → vs.length + k ≤ 826 → j < km S → kl S j = cs.length → (∀ i (h : i < cs.length), kx S j i = zI ((cs[i].1 * 1000 + cs[i].2 : Nat) : Int)) → ∃ S', pX8_takeAdd_76 N t n1 n (zI (e : Nat)) j (zI (cs.length : Nat)) (zI (i : Nat)) S = some ((), S') ∧ vRs S' t ((cs.drop i).foldl (fun vs x => vTake H vs e x.1 x.2) vs) ∧ frV t S S'
  | 0, k, i, _, hk, _, _, _, _, _, _, _, _, _ => by omega
  | n + 1, k, i, hik, hk, S, vs, hH, R, hv, hl, hj, hkl, hx => by
    simp only [pX8_takeAdd_76, nm_i]
    rw [il_le (by omega) (by omega) (by omega) (by omega)]
    cases k with
    | zero =>
      rw [if_pos (by omega), List.drop_eq_nil_of_le (by omega)]
      exact ⟨S, rfl, R, frV.rf⟩
    | succ k =>
      have hi : i < cs.length := by omega
      have hc := hcs _ (List.getElem_mem hi)
      rw [if_neg (by omega), gn_l hj, gd_n (by omega) (by omega), zI_cn (by omega), hx i hi, zL_1000, zI_div (by omega) (by omega) (by omega) (by omega), zI_mul, zI_sub,
        show ((cs[i].1 * 1000 + cs[i].2 : Nat) : Int) / 1000 = ((cs[i].1 : Nat) : Int) by omega,
        show ((cs[i].1 * 1000 + cs[i].2 : Nat) : Int) - ((cs[i].1 : Nat) : Int) * 1000 = ((cs[i].2 : Nat) : Int) by omega]
      have hvx : vOk (e, cs[i].1, cs[i].2) := ⟨he, hc.1, hc.2⟩
      obtain ⟨S1, e1, R1, f1⟩ := q_takeValue (N := N) hN hH hv hvx (by omega) R
      have hlen2 := vTake_len (H := H) (vs := vs) (e := e) (a := cs[i].1) (v := cs[i].2)
      obtain ⟨g1, g2, g3, g4, g5, g6, -, -⟩ := kD_eq f1.2.2.2.2
      rw [e1, bk_i, zL_1, zI_add]
      obtain ⟨S2, e2, R2, f2⟩ := q_takeAdd_76 hN he hcs hlen n k (i + 1) (by omega) (by omega) S1 _ (frT_hR f1.t hH) R1 (vTake_ok hv hvx) (by omega) (by rw [g4]; exact hj) (by rw [g5]; exact hkl) (by rw [g6]; exact hx)
      refine ⟨S2, ?_, ?_, f1.trans f2⟩
      · rw [show ((i + 1 : Nat) : Int) = (i : Int) + 1 by omega] at e2
        exact e2
      · rw [List.drop_eq_getElem_cons hi, List.foldl_cons]
        exact R2
end QM
