-- LEVEL 2, THE LAW: WHAT CLASSES REQUIRE AND ALLOW, VALUES COUNTED
section LJ
variable {N m : Nat} {L : lS} {H : sH} {T : sT}
theorem hReq_n {k : Int} (h : k < 0) : hReq H k = 0 := by
  unfold hReq hIs
  rw [decide_eq_false (by omega)]; rfl
theorem hAll_n {k : Int} (h : k < 0) : hAll H k = 0 := by
  unfold hAll hIs
  rw [decide_eq_false (by omega)]; rfl
theorem hReq_k {k : Nat} (hC3 : hC H = 3) (h : k < 3) : hReq H (k : Nat) = hRq H k := by
  unfold hReq hIs
  rw [decide_eq_true (by omega), decide_eq_true (by omega), Int.toNat_natCast]; rfl
theorem hAll_k {k : Nat} (hC3 : hC H = 3) (h : k < 3) : hAll H (k : Nat) = hAl H k := by
  unfold hAll hIs
  rw [decide_eq_true (by omega), decide_eq_true (by omega), Int.toNat_natCast]; rfl
theorem g9 {β : Type} {K : Option β} {i : Nat} (hi : i < 3) : gd ((3 : Int32) * zI (i : Nat)) 9 K = K := by rw [z3_0]; exact gd_c (by omega) (by omega)
theorem g9a {β : Type} {K : Option β} {i : Nat} (hi : i < 3) : gd (((3 : Int32) * zI (i : Nat)) + (1 : Int32)) 9 K = K := by rw [z3_1]; exact gd_c (by omega) (by omega)
theorem g9b {β : Type} {K : Option β} {i : Nat} (hi : i < 3) : gd (((3 : Int32) * zI (i : Nat)) + (2 : Int32)) 9 K = K := by rw [z3_2]; exact gd_c (by omega) (by omega)
theorem cn9 {i : Nat} (hi : i < 3) : ((3 : Int32) * zI (i : Nat)).toNatClampNeg = 3 * i := by rw [z3_0]; exact zI_cn (by omega)
theorem cn9a {i : Nat} (hi : i < 3) : (((3 : Int32) * zI (i : Nat)) + (1 : Int32)).toNatClampNeg = 3 * i + 1 := by rw [z3_1]; exact zI_cn (by omega)
theorem cn9b {i : Nat} (hi : i < 3) : (((3 : Int32) * zI (i : Nat)) + (2 : Int32)).toNatClampNeg = 3 * i + 2 := by rw [z3_2]; exact zI_cn (by omega)
theorem lq_requires (hS : lSc L H) (hC3 : hC H = 3) (hW : hW H) {k : Int} (h1 : -1 ≤ k) (h2 : k < 3) : pL_requires N (zI k) L = some (hReq H k, L) := by
  simp only [pL_requires, pL_requires_69, pL_requires_70]
  rw [zL_0, il_le (by omega) (by omega) (by omega) (by omega)]
  by_cases g : 0 ≤ k
  · obtain ⟨i, rfl⟩ : ∃ i : Nat, k = i := ⟨k.toNat, by omega⟩
    have hi : i < 3 := by omega
    obtain ⟨s1, s2, s3⟩ := hS.2 i hi
    have hp := hW.2.2.1 i (by omega)
    rw [if_pos g, hReq_k hC3 hi, s2]
    simp only [g9 hi, g9a hi, cn9 hi, cn9a hi, s1]
    rw [il_le (by omega) (by omega) (by omega) (by omega)]
    by_cases g2 : 0 ≤ hPr H i
    · obtain ⟨j, hj⟩ : ∃ j : Nat, hPr H i = j := ⟨(hPr H i).toNat, by omega⟩
      have hj3 : j < 3 := by omega
      obtain ⟨t1, t2, t3⟩ := hS.2 j hj3
      have hp2 := hW.2.2.1 j (by omega)
      rw [if_pos g2, hj, hReq_k hC3 hj3, t2]
      simp only [g9 hj3, g9a hj3, cn9 hj3, cn9a hj3, t1]
      rw [il_le (by omega) (by omega) (by omega) (by omega)]
      by_cases g3 : 0 ≤ hPr H j
      · obtain ⟨q, hq⟩ : ∃ q : Nat, hPr H j = q := ⟨(hPr H j).toNat, by omega⟩
        have hq3 : q < 3 := by omega
        obtain ⟨u1, u2, u3⟩ := hS.2 q hq3
        have hp3 := hW.2.2.1 q (by omega)
        rw [if_pos g3, hq, hReq_k hC3 hq3, u2, hReq_n (show hPr H q < 0 by omega)]
        simp only [g9a hq3, cn9a hq3]
        rw [Int32.or_zero]
      · rw [if_neg g3, hReq_n (show hPr H j < 0 by omega), ← zL_0]
    · rw [if_neg g2, hReq_n (show hPr H i < 0 by omega), ← zL_0]
  · rw [if_neg g, hReq_n (by omega), ← zL_0]
theorem lq_allows_4 (hS : lSc L H) (hC3 : hC H = 3) (hW : hW H) : ∀ (n : Nat) (k : Int) (acc : Int32), -1 ≤ k → k < 3 → k + 1 < (n : Int) → pL_allows_4 N n acc (zI k) L = some (acc ||| hAll H k, L)
  | 0, k, acc, h1, _, hn => by omega
  | n + 1, k, acc, h1, h2, hn => by
    simp only [pL_allows_4, nm_i]
    rw [zL_0, il_lt (by omega) (by omega) (by omega) (by omega)]
    by_cases g : k < 0
    · rw [if_pos g, hAll_n g, Int32.or_zero]
    · obtain ⟨i, rfl⟩ : ∃ i : Nat, k = i := ⟨k.toNat, by omega⟩
      have hi : i < 3 := by omega
      obtain ⟨s1, s2, s3⟩ := hS.2 i hi
      have hp := hW.2.2.1 i (by omega)
      rw [if_neg g, g9a hi, g9b hi, g9 hi, cn9 hi, cn9a hi, cn9b hi, s1, lq_allows_4 hS hC3 hW n (hPr H i) _ (by omega) (by omega) (by omega), hAll_k hC3 hi, s3, Int32.or_assoc, Int32.or_assoc]
theorem lq_allows (hN : 1000 ≤ N) (hS : lSc L H) (hC3 : hC H = 3) (hW : hW H) {k : Int} (h1 : -1 ≤ k) (h2 : k < 3) : pL_allows N (zI k) L = some (hAll H k, L) := by
  simp only [pL_allows]
  rw [lq_allows_4 hS hC3 hW N k 0 h1 h2 (by omega), Int32.zero_or]
theorem lb_and1 {i : Nat} (hi : i < 64) (x : Int64) : (x >>> ((zI (i : Int)).toInt64 &&& 63)) &&& (1 : Int64) = if lb x i then 1 else 0 := by
  apply lb_ext
  intro j hj
  rw [lb_and, lb_1, lb_sshr hi hj]
  by_cases h0 : j = 0
  · subst h0
    cases hb : lb x i <;> simp [hi, hb, lb_1, lb_0]
  · cases hb : lb x i <;> simp [h0, lb_1, lb_0]
theorem lq_bits_4 {w : Int64} : ∀ (n k i c : Nat), i + k = 60 → k < n → c ≤ i → pL_bits_4 N n w (zI (c : Nat)) (zI (i : Nat)) L = some (zI ((c + fb_ct (fun j => lb w (i + j)) k : Nat) : Int), L)
  | 0, k, i, c, _, hn, _ => by omega
  | n + 1, k, i, c, hk, hn, hc => by
    simp only [pL_bits_4, nm_i]
    rw [zL_60, il_le (by omega) (by omega) (by omega) (by omega)]
    cases k with
    | zero =>
      rw [if_pos (by omega)]
      rfl
    | succ k =>
      rw [if_neg (by omega), lb_and1 (by omega), zs1]
      have e1 : zI (c : Nat) + (if lb w i = true then (1 : Int64) else 0).toInt32 = zI ((c + (if lb w i then 1 else 0) : Nat) : Int) := by
        cases lb w i with
        | true => rw [if_pos rfl, if_pos rfl, show (1 : Int64).toInt32 = (1 : Int32) from rfl, zs1]
        | false => rw [if_neg (by decide), if_neg (by decide), show (0 : Int64).toInt32 = zI (0 : Nat) from rfl, zI_add]; rfl
      rw [e1]
      rw [lq_bits_4 n k (i + 1) _ (by omega) (by omega) (by split <;> omega)]
      congr 3
      have e2 : fb_ct (fun j => lb w (i + j)) (k + 1) = fb_ct (fun j => lb w (i + j)) 1 + fb_ct (fun j => lb w (i + (1 + j))) k := by rw [Nat.add_comm k 1, fb_ct_split]
      have e3 : fb_ct (fun j => lb w (i + 1 + j)) k = fb_ct (fun j => lb w (i + (1 + j))) k := fb_ct_cong (fun j _ => by rw [Nat.add_assoc])
      have e4 : fb_ct (fun j => lb w (i + j)) 1 = if lb w i then 1 else 0 := by show 0 + (if lb w (i + 0) then 1 else 0) = _; rw [Nat.zero_add, Nat.add_zero]
      rw [e2, e3, e4]
      omega
theorem lq_bits (hN : 1000 ≤ N) {w : Int64} : pL_bits N w L = some (zI (fb_ct (fun j => lb w j) 60 : Nat), L) := by
  simp only [pL_bits]
  have h := lq_bits_4 (N := N) (L := L) (w := w) N 60 0 0 (by omega) (by omega) (by omega)
  have h : pL_bits_4 N N w (0 : Int32) (0 : Int32) L = _ := h
  rw [h, Nat.zero_add]
  congr 3
theorem cLs_suc (hn : (tVs T).Nodup) {e a n : Nat} : cLs T e a (n + 1) = cLs T e a n + if decide ((e, a, n) ∈ tVs T) then 1 else 0 := by
  by_cases g : (e, a, n) ∈ tVs T
  · rw [decide_eq_true g, if_pos rfl]
    exact cLs_next hn g (by omega) (fun u _ h => h)
  · rw [decide_eq_false g, if_neg (by decide), Nat.add_zero]
    unfold cLs
    refine List.countP_congr (fun x hx => ?_)
    simp only [Bool.and_eq_true, decide_eq_true_eq]
    refine ⟨fun q => ⟨q.1, q.2.1, ?_⟩, fun q => ⟨q.1, q.2.1, by omega⟩⟩
    have : x.2.2 ≠ n := fun r => g (by
      obtain ⟨q1, q2, -⟩ := q
      rw [← q1, ← q2, ← r]
      exact hx)
    omega
theorem cLs_ct (hn : (tVs T).Nodup) {e a : Nat} : ∀ n, cLs T e a n = fb_ct (fun v => decide ((e, a, v) ∈ tVs T)) n
  | 0 => by
    show _ = 0
    unfold cLs
    rw [List.countP_eq_zero]
    intro x _ q
    simp at q
  | n + 1 => by rw [cLs_suc hn, cLs_ct hn n, fb_ct_succ]
theorem tCnt_ct (hn : (tVs T).Nodup) (hT : lTo T) {e a : Nat} : tCnt T e a = fb_ct (fun v => decide ((e, a, v) ∈ tVs T)) 60 := by
  rw [← cLs_ct hn]
  unfold tCnt cLs
  refine List.countP_congr (fun x hx => ?_)
  have := (hT.2.1 x hx).2.2
  simp only [Bool.and_eq_true, decide_eq_true_eq]
  exact ⟨fun q => ⟨q.1, q.2, this⟩, fun q => ⟨q.1, q.2.1⟩⟩
theorem lq_cnt (hN : 1000 ≤ N) (hn : (tVs T).Nodup) (hT : lTo T) (Q : lTr L T) {e a : Nat} (he : e < 12) (ha : a < 3) : pL_bits N (aJ L 10 (3 * e + a)) L = some (zI (tCnt T e a : Nat), L) := by
  rw [lq_bits hN, tCnt_ct hn hT]
  congr 3
  exact congrArg (fun x : Nat => (x : Int)) (fb_ct_cong (fun j hj => Q.2 e a j he ha (by omega)))
theorem tMt_iff {e a v : Nat} : 0 < tMt H T e a v ↔ ∃ u, (e, a, u) ∈ tVs T ∧ hKey H a u = hKey H a v := by
  unfold tMt vGoes
  rw [List.countP_pos_iff]
  constructor
  · rintro ⟨x, hx, q⟩
    simp only [Bool.false_or, Bool.and_eq_true, decide_eq_true_eq] at q
    obtain ⟨q1, q2, q3⟩ := q
    refine ⟨x.2.2, ?_, q3⟩
    rw [← q1, ← q2]
    exact hx
  · rintro ⟨u, hu, q⟩
    refine ⟨_, hu, ?_⟩
    simp [q]
theorem has_iff (hT : lTo T) (Q : lTr L T) {e a v : Nat} {w : Int64} (he : e < 12) (ha : a < 3) (hw : ∀ j, j < 64 → lb w j = decide (hKey H a j = hKey H a v)) : (lg_cmp ((aJ L 10 (3 * e + a)) &&& w) (0 : Int64) = 0) ↔ tMt H T e a v = 0 := by
  rw [lb_zero]
  constructor
  · intro h
    refine Classical.byContradiction fun g => ?_
    obtain ⟨u, hu, q⟩ := tMt_iff.mp (Nat.pos_of_ne_zero g)
    have h60 := (hT.2.1 _ hu).2.2
    have h60 : u < 60 := h60
    have := h u (by omega)
    rw [lb_and, Q.2 e a u he ha (by omega), hw u (by omega), decide_eq_true hu, decide_eq_true q] at this
    cases this
  · intro h i hi
    rw [lb_and, Q.2 e a i he ha hi, hw i hi, ← Bool.decide_and]
    refine decide_eq_false (fun q => ?_)
    have := tMt_iff.mpr ⟨i, q.1, q.2⟩
    omega
theorem emp_iff (hn : (tVs T).Nodup) (hT : lTo T) (Q : lTr L T) {e a : Nat} (he : e < 12) (ha : a < 3) : (lg_cmp (aJ L 10 (3 * e + a)) (0 : Int64) = 0) ↔ tCnt T e a = 0 := by
  rw [lb_zero, tCnt_ct hn hT, fb_ct_zero]
  constructor
  · intro h k hk
    rw [← Q.2 e a k he ha (by omega)]
    exact h k (by omega)
  · intro h i hi
    rw [Q.2 e a i he ha hi]
    refine decide_eq_false (fun q => ?_)
    have h60 : i < 60 := (hT.2.1 _ q).2.2
    have := h i h60
    rw [decide_eq_true q] at this
    cases this
end LJ
