-- LEVEL 2, THE LAW: VALUES AS BITS, RINGS
theorem lb_shlx {k i : Nat} (hk : k < 64) (hi : i < 64) (x : Int64) : lb (x <<< ((zI (k : Int)).toInt64 &&& 63)) i = (decide (k ≤ i) && lb x (i - k)) := by
  unfold lb
  rw [lw_c k hk, Int64.toBitVec_shiftLeft]
  show (x.toBitVec <<< ((lN k).toBitVec.smod 64).toNat).getLsbD i = _
  rw [lw_sm k hk, BitVec.getLsbD_shiftLeft]
  rcases Nat.lt_or_ge i k with g | g
  · simp [g, Nat.not_le.mpr g]
  · simp [hi, g, Nat.not_lt.mpr g]
theorem lb_1023 : ∀ i, i < 64 → lb (1023 : Int64) i = decide (i < 10) := by decide +kernel
theorem mem_vDrop {H : sH} {vs : List (Nat × Nat × Nat)} {e a v : Nat} {all : Bool} {x : Nat × Nat × Nat} : x ∈ vDrop H vs e a all v ↔ x ∈ vs ∧ ¬ (x.1 = e ∧ x.2.1 = a ∧ (all = true ∨ hKey H a x.2.2 = hKey H a v)) := by
  unfold vDrop vGoes
  rw [List.mem_filter]
  refine and_congr_right (fun _ => ?_)
  by_cases h1 : x.1 = e <;> by_cases h2 : x.2.1 = a <;> cases all <;> simp [h1, h2]
theorem mem_vTake {H : sH} {vs : List (Nat × Nat × Nat)} {e a v : Nat} {x : Nat × Nat × Nat} : x ∈ vTake H vs e a v ↔ (x ∈ vs ∧ ¬ (x.1 = e ∧ x.2.1 = a ∧ (hSg H a = true ∨ hKey H a x.2.2 = hKey H a v))) ∨ x = (e, a, v) := by
  unfold vTake
  rw [List.mem_append, mem_vDrop, List.mem_singleton]
section LP
variable {N : Nat} {L : lS} {H : sH} {T : sT}
theorem lq_match (hS : lSc L H) {a v : Nat} (ha : a < 3) (hv : v < 60) : ∃ w, pL_match N (zI (a : Nat)) (zI (v : Nat)) L = some (w, L) ∧ ∀ j, j < 64 → lb w j = decide (hKey H a j = hKey H a v) := by
  have e1 := hS.1 a ha
  have hlt := lKd_lt (H := H) (a := a)
  have htn := lKd_tn (H := H) (a := a)
  simp only [pL_match]
  rw [z13, gd_c (by omega) (by omega), zI_cn (by omega), e1, zL_1, il_le (by omega) (by omega) (by omega) (by omega)]
  cases ht : hTn H a with
  | false =>
    rw [if_pos (by have := htn.mpr ht; omega)]
    refine ⟨_, rfl, fun j hj => ?_⟩
    rw [lb_shl1 (by omega) hj]
    unfold hKey
    rw [ht, if_neg (by decide), if_neg (by decide)]
  | true =>
    rw [if_neg (fun g => by have := htn.mp (by omega); rw [ht] at this; cases this)]
    refine ⟨_, rfl, fun j hj => ?_⟩
    have e2 : (zI (v : Nat) / (10 : Int32)) * (10 : Int32) = zI ((v / 10 * 10 : Nat) : Int) := by
      rw [show (10 : Int32) = zI ((10 : Nat) : Int) from rfl, z_div (by omega) (by omega) (by omega), zI_mul]
      rfl
    rw [e2, lb_shlx (by omega) hj, lb_1023 _ (by omega)]
    unfold hKey
    rw [ht, if_pos rfl, if_pos rfl, ← Bool.decide_and]
    exact decide_eq_decide.mpr (by omega)
theorem q_put43 {w : Int64} {q v : Nat} (hq : q < 36) (hv : v < 64) : ∃ L', pL_put_43 N w (zI (q : Nat)) (zI (v : Nat)) (zI (q : Nat)) L = some ((), L') ∧ aI L' = aI L ∧ (∀ k, k ≠ 10 → aJ L' k = aJ L k) ∧ (∀ j, j ≠ q → aJ L' 10 j = aJ L 10 j) ∧ ∀ j, j < 64 → lb (aJ L' 10 q) j = (lb w j || decide (j = v)) := by
  simp only [pL_put_43, slv_i]
  rw [gd_c hq (by omega), gd_c hq (by omega), gd_c hq (by omega), zI_cn (by omega)]
  refine ⟨_, rfl, rfl, fun k hk => ?_, fun j hj => ?_, fun j hj => ?_⟩
  · rw [aJ_uJ_o _ _ _ hk, aJ_uJ_o _ _ _ hk]
  · rw [aJ_uJ_s, updL_o _ _ hj, aJ_uJ_s, updL_o _ _ hj]
  · rw [aJ_uJ_s, updL_s, lb_or, aJ_uJ_s, updL_s, lb_shl1 hv hj]
theorem z3a_inj {e a e' a' : Nat} (ha : a < 3) (ha' : a' < 3) : 3 * e' + a' = 3 * e + a ↔ e' = e ∧ a' = a := by omega
theorem lq_put {vs : List (Nat × Nat × Nat)} (hS : lSc L H) (hV : lVs L vs) {e a v : Nat} (he : e < 12) (ha : a < 3) (hv : v < 60) : ∃ L', pL_put N (zI (e : Nat)) (zI (a : Nat)) (zI (v : Nat)) L = some ((), L') ∧ aI L' = aI L ∧ (∀ k, k ≠ 10 → aJ L' k = aJ L k) ∧ lVs L' (vTake H vs e a v) := by
  have e1 := hS.1 a ha
  have hlt := lKd_lt (H := H) (a := a)
  have hsg := lKd_sg (H := H) (a := a)
  simp only [pL_put, nm_i]
  rw [z3_a, z13, gd_c (by omega) (by omega), zI_cn (by omega), e1, show (2 : Int32) = zI ((2 : Nat) : Int) from rfl, z_mod (by omega) (by omega) (by omega), hsg, zL_1, il_eq (by split <;> omega) (by split <;> omega) (by omega) (by omega)]
  have fin : ∀ (w : Int64) (L' : lS), (∀ j, j ≠ 3 * e + a → aJ L' 10 j = aJ L 10 j) → (∀ j, j < 64 → lb (aJ L' 10 (3 * e + a)) j = (lb w j || decide (j = v))) → (∀ j, j < 64 → lb w j = decide ((e, a, j) ∈ vs ∧ ¬ (hSg H a = true ∨ hKey H a j = hKey H a v))) → lVs L' (vTake H vs e a v) := fun w L' f1 f2 f3 e' a' v' h1 h2 h3 => by
    by_cases g : e' = e ∧ a' = a
    · obtain ⟨rfl, rfl⟩ := g
      rw [f2 _ h3, f3 _ h3, ← Bool.decide_or]
      refine decide_eq_decide.mpr ?_
      rw [mem_vTake]
      simp
    · have hne : 3 * e' + a' ≠ 3 * e + a := fun q => g ((z3a_inj ha h2).mp q)
      rw [f1 _ hne, hV e' a' v' h1 h2 h3]
      refine decide_eq_decide.mpr ?_
      rw [mem_vTake]
      constructor
      · intro q
        exact Or.inl ⟨q, fun r => g ⟨r.1, r.2.1⟩⟩
      · rintro (q | q)
        · exact q.1
        · rw [Prod.mk.injEq, Prod.mk.injEq] at q
          exact absurd ⟨q.1, q.2.1⟩ g
  cases hs : hSg H a with
  | true =>
    rw [if_pos rfl, if_pos (by decide)]
    obtain ⟨L', p1, p2, p3, p4, p5⟩ := q_put43 (N := N) (L := L) (w := 0) (q := 3 * e + a) (v := v) (by omega) (by omega)
    refine ⟨L', p1, p2, p3, fin _ L' p4 p5 (fun j hj => ?_)⟩
    rw [lb_0]
    exact (decide_eq_false (fun g => g.2 (Or.inl hs))).symm
  | false =>
    rw [if_neg (by decide)]
    obtain ⟨w, m1, m2⟩ := lq_match (N := N) hS ha hv
    rw [gd_c (by omega) (by omega), m1, lba_i, zI_cn (by omega)]
    obtain ⟨L', p1, p2, p3, p4, p5⟩ := q_put43 (N := N) (L := L) (w := (aJ L 10 (3 * e + a)) &&& (w ^^^ (-1 : Int64))) (q := 3 * e + a) (v := v) (by omega) (by omega)
    refine ⟨L', p1, p2, p3, fin _ L' p4 p5 (fun j hj => ?_)⟩
    rw [lb_and, lb_not _ hj, hV e a j he ha hj, m2 j hj, hs, ← decide_not, ← Bool.decide_and]
    refine decide_eq_decide.mpr ?_
    simp
/-- whether one comes from an entry to another -/
theorem lq_up_2 (hR : ∀ x, x < 12 → aI L 9 (3 * x + 2) = zI (tPa T x)) (h12 : ∀ x, x < 48 → tPa T x < 12) (hm1 : ∀ x, x < 48 → -1 ≤ tPa T x) {e : Nat} (he : e < 12) : ∀ (n k : Nat) (x : Int), k < n → climb (tPa T) k x < 0 → -1 ≤ x → x < 12 → pL_up_2 N (pL_up_22 N) n (zI (e : Nat)) (zI x) L = some (zB (pCome (tPa T) k x e), L)
  | 0, k, x, hn, _, _, _ => by omega
  | n + 1, k, x, hn, hc, h1, h2 => by
    simp only [pL_up_2, pL_up_22, nm_i]
    rw [zL_0, il_lt (by omega) (by omega) (by omega) (by omega), il_eq (by omega) (by omega) (by omega) (by omega), il_eq (by omega) (by omega) (by omega) (by omega)]
    by_cases h0 : x < 0
    · rw [if_pos h0, if_neg (show ¬ x = (e : Int) by omega), ← zL_0, zlA_0]
      cases k with
      | zero => rfl
      | succ k => rw [show pCome (tPa T) (k + 1) x e = false from if_pos h0]
    · rw [if_neg h0]
      cases k with
      | zero => exact absurd hc h0
      | succ k =>
        by_cases hx : x = (e : Int)
        · rw [if_pos hx, if_pos hx, zlA_1]
          have : pCome (tPa T) (k + 1) x e = true := by
            unfold pCome
            rw [if_neg h0, if_pos hx]
          rw [this]
        · rw [if_neg hx]
          obtain ⟨y, rfl⟩ : ∃ y : Nat, x = y := ⟨x.toNat, by omega⟩
          have hy : y < 12 := by omega
          rw [z3_2, gd_c (by omega) (by omega), zI_cn (by omega), hR y hy]
          have hc' : climb (tPa T) k (tPa T y) < 0 := by
            rw [climb_s (by omega), Int.toNat_natCast] at hc
            exact hc
          have ih := lq_up_2 hR h12 hm1 he n k (tPa T y) (by omega) hc' (hm1 y (by omega)) (h12 y (by omega))
          have : pCome (tPa T) (k + 1) (y : Int) e = pCome (tPa T) k (tPa T y) e := by
            show (if (y : Int) < 0 then false else if (y : Int) = (e : Int) then true else pCome (tPa T) k (tPa T (y : Int).toNat) e) = _
            rw [if_neg h0, if_neg hx, Int.toNat_natCast]
          rw [this]
          exact ih
theorem lq_up (hN : 49 ≤ N) (hT : lTo T) (hR : ∀ x, x < 12 → aI L 9 (3 * x + 2) = zI (tPa T x)) {e : Nat} (he : e < 12) {x : Int} (h1 : -1 ≤ x) (h2 : x < 12) : pL_up N (zI (e : Nat)) (zI x) L = some (zB (pCome (tPa T) 48 x e), L) :=
  lq_up_2 hR hT.2.2.2.1 hT.1.2.1 he N 48 x (by omega) (hT.1.1.at (by omega)) h1 h2
end LP
