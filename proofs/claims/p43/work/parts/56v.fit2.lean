-- LEVEL 2, FILTERS: THE CLASS, ONE ENTRY
theorem ib_zB (b : Bool) (i : Nat) : ib (zB b) i = (b && decide (i = 0)) := by
  cases b with
  | false => exact ib_0 i
  | true => exact ib_1 i
theorem ib_m2 : ∀ i, i < 32 → ib (-2 : Int32) i = decide (1 ≤ i) := by decide +kernel
theorem ib_shl_1 (x : Int32) {i : Nat} (hi : i < 32) : ib (x <<< ((1 : Int32) &&& 31)) i = (decide (1 ≤ i) && ib x (i - 1)) := ib_shl (n := 1) (by omega) x hi
theorem ib_shr_1 (x : Int32) {i : Nat} (hi : i < 31) : ib (x >>> ((1 : Int32) &&& 31)) i = ib x (i + 1) := by
  have := ib_sshr (n := 1) (by omega) x (i := i) (by omega)
  rw [if_pos (by omega), show 1 + i = i + 1 by omega] at this
  exact this
theorem and1_iff (x : Int32) : (x &&& (1 : Int32) = 1) ↔ ib x 0 = true := by
  constructor
  · intro h
    have : ib (x &&& 1) 0 = ib 1 0 := by rw [h]
    rw [ib_and, ib_1] at this
    simpa using this
  · intro h
    refine ib_ext (fun i hi => ?_)
    rw [ib_and, ib_1]
    by_cases q : i = 0
    · rw [q, h]; rfl
    · rw [decide_eq_false q, Bool.and_false]
/-- the answers so far, the last one's in the bit 0 -/
def rBt (tr : Nat → Bool) (x : Int32) (r : List Nat) : Prop := ∀ j (h : j < r.length), ib x j = tr r[j]
theorem rBt_cons {tr : Nat → Bool} {x : Int32} {a : Nat} {r : List Nat} : rBt tr x (a :: r) ↔ ib x 0 = tr a ∧ ∀ j (h : j < r.length), ib x (j + 1) = tr r[j] := by
  constructor
  · intro h
    exact ⟨h 0 (by rw [List.length_cons]; omega), fun j hj => h (j + 1) (by rw [List.length_cons]; omega)⟩
  · rintro ⟨h1, h2⟩ j hj
    cases j with
    | zero => exact h1
    | succ j => exact h2 j (by rw [List.length_cons] at hj; omega)
/-- the parts that are filters of the draft behind i parts -/
def stI (P : List (Nat × Int × Int)) (σ : Nat → List Nat) : Prop := (∀ i, (σ i).length ≤ 8) ∧ σ 0 = [] ∧ ∀ i (h : i < P.length), P[i].1 ≤ 6 ∧ (P[i].1 ≤ 3 → σ (i + 1) = σ i ++ [i]) ∧ (P[i].1 = 6 → ∃ s, σ i = s ++ [P[i].2.1.toNat] ∧ σ (i + 1) = s ++ [i]) ∧ (P[i].1 = 4 ∨ P[i].1 = 5 → ∃ s, σ i = s ++ [P[i].2.1.toNat, P[i].2.2.toNat] ∧ σ (i + 1) = s ++ [i])
theorem stI_lt {P : List (Nat × Int × Int)} {σ : Nat → List Nat} (h : stI P σ) : ∀ i, i ≤ P.length → ∀ k ∈ σ i, k < i
  | 0, _, k, hk => by rw [h.2.1] at hk; exact absurd hk List.not_mem_nil
  | i + 1, hi, k, hk => by
    have ih := stI_lt h i (by omega)
    obtain ⟨p0, p1, p2, p3⟩ := h.2.2 i (by omega)
    by_cases q3 : P[i].1 ≤ 3
    · rw [p1 q3] at hk
      rcases List.mem_append.mp hk with g | g
      · have := ih k g; omega
      · rw [List.mem_singleton] at g; omega
    · by_cases q6 : P[i].1 = 6
      · obtain ⟨s, e1, e2⟩ := p2 q6
        rw [e2] at hk
        rcases List.mem_append.mp hk with g | g
        · have := ih k (by rw [e1]; exact List.mem_append_left _ g); omega
        · rw [List.mem_singleton] at g; omega
      · obtain ⟨s, e1, e2⟩ := p3 (by omega)
        rw [e2] at hk
        rcases List.mem_append.mp hk with g | g
        · have := ih k (by rw [e1]; exact List.mem_append_left _ g); omega
        · rw [List.mem_singleton] at g; omega
section UB
variable {N : Nat} {S : kS} {W : sW} {T : sT} {H : sH}
theorem st_of (h : wOk W) : ∃ σ, stI (wP W) σ ∧ σ (wP W).length = wK W := by
  obtain ⟨f1, f2, f3, f4, σ, s0, s1, s2, s3⟩ := h.2.2.1
  exact ⟨σ, ⟨s0, s1, fun i hi => ⟨(f4 i hi).1, s3 i hi⟩⟩, s2⟩
theorem tGe_bw (hT : tW T) {e a b : Nat} (hb : b < 1000) : tBw T e (a * 1000 + vLo H a b) (a * 1000 + 999) = (tVs T).countP (vAs H e a b) := by
  unfold tBw
  refine List.countP_congr (fun x hx => ?_)
  obtain ⟨v1, v2, v3⟩ := tW_v hT x hx
  have lo : vLo H a b ≤ b := vLo_le H a b
  have key : hKey H a b ≤ hKey H a x.2.2 ↔ vLo H a b ≤ x.2.2 := by
    unfold hKey vLo
    split <;> omega
  unfold vAs
  simp only [Bool.and_eq_true, decide_eq_true_eq]
  rw [key]
  constructor
  · rintro ⟨h1, h2, h3⟩
    have : x.2.1 = a := by omega
    subst this
    exact ⟨h1, rfl, by omega⟩
  · rintro ⟨h1, h2, h3⟩
    subst h2
    exact ⟨h1, by omega, by omega⟩
/-- a range of codes says what the part says -/
theorem rg_val (hT : tW T) (h10 : hA H ≤ 10) {p : Nat × Int × Int} (hp : 0 ≤ p.2.1 ∧ p.2.1 < (hA H : Int) ∧ 0 ≤ p.2.2 ∧ p.2.2 < 1000) (h2 : p.1 ≤ 2) {f : Nat → Bool} : ∃ lo hi : Nat, pcL H p = lo ∧ pcH H p = hi ∧ lo ≤ hi ∧ hi < 10000 ∧ ∀ e, decide (0 < tBw T e lo hi) = pVal H T e p f := by
  obtain ⟨a, ha⟩ : ∃ a : Nat, p.2.1 = a := ⟨p.2.1.toNat, by omega⟩
  obtain ⟨b, hb⟩ : ∃ b : Nat, p.2.2 = b := ⟨p.2.2.toNat, by omega⟩
  have l1 := vLo_le H a b
  have l2 := vHi_lt H a (v := b) (by omega)
  have ha10 : a < 10 := by omega
  unfold pcL pcH pVal
  rw [ha, hb, Int.toNat_natCast, Int.toNat_natCast]
  by_cases q0 : p.1 = 0
  · refine ⟨a * 1000 + vLo H a b, a * 1000 + vHi H a b, by rw [if_pos (by omega)]; omega, by rw [if_pos q0]; omega, by omega, by omega, fun e => ?_⟩
    rw [if_pos q0, tMt_bw hT (by omega)]
  · by_cases q1 : p.1 = 1
    · refine ⟨a * 1000 + vLo H a b, a * 1000 + 999, by rw [if_pos (by omega)]; omega, by rw [if_neg q0, if_pos (by omega)]; omega, by omega, by omega, fun e => ?_⟩
      rw [if_neg q0, if_pos q1, tGe_bw (H := H) hT (by omega)]
      rfl
    · refine ⟨a * 1000, a * 1000 + 999, by rw [if_neg (by omega), if_pos (by omega)]; omega, by rw [if_neg q0, if_pos (by omega)]; omega, by omega, by omega, fun e => ?_⟩
      rw [if_neg q0, if_neg q1, if_pos (by omega), tCnt_bw hT]
theorem q_applies_5 (hN : 900 ≤ N) {t : Nat} (Q : tOk S t T) (hH : hR S H) (hw : hW H) {P : List (Nat × Int × Int)} {K : List Nat} (F : fcR S H P K) (hP : P.length ≤ 15) (hp : ∀ i (h : i < P.length), pOk H i P[i]) {σ : Nat → List Nat} (st : stI P σ) {e : Nat} (he : e < 48) {k176 : Int32 → kS → Option (Int32 × kS)} : ∀ (n k i : Nat) (x : Int32), i + k = P.length → k < n → rBt (pTs H T e P i) x (σ i).reverse → ∃ x', pX2_applies_5 N t k176 n (zI (e : Nat)) x (zI (i : Nat)) S = k176 x' S ∧ rBt (pTs H T e P P.length) x' (σ P.length).reverse
  | 0, k, i, x, hk, hn, hx => by omega
  | n + 1, k, i, x, hk, hn, hx => by
    have h10 := hw.1
    have h8 := hw.2.1
    simp only [pX2_applies_5, nm_i]
    rw [F.1, il_le (by omega) (by omega) (by omega) (by omega)]
    cases k with
    | zero =>
      have : i = P.length := by omega
      subst this
      rw [if_pos (by omega)]
      exact ⟨x, rfl, hx⟩
    | succ k =>
      have hi : i < P.length := by omega
      obtain ⟨p1, p2, p3, p4⟩ := hp i hi
      obtain ⟨x1, x2, x3⟩ := F.2.2 i hi
      obtain ⟨t0, t1, t2, t3⟩ := st.2.2 i hi
      have hlt := stI_lt st i (by omega)
      have hl8 := st.1 i
      have ek : zI (i : Nat) + 1 = zI ((i + 1 : Nat) : Int) := by rw [zL_1, zI_add]; congr 1
      have hs := pTs_s (H := H) (T := T) (e := e) hi
      have old : ∀ k, k < i → pTs H T e P (i + 1) k = pTs H T e P i k := fun k hk => by rw [hs, upf_o _ _ (by omega)]
      have new : pTs H T e P (i + 1) i = pVal H T e P[i] (pTs H T e P i) := by rw [hs, upf_s]
      -- the next round
      have fin : ∀ y : Int32, rBt (pTs H T e P (i + 1)) y (σ (i + 1)).reverse → ∃ x', pX2_applies_170 N t (pX2_applies_5 N t k176 n) (zI (e : Nat)) y (zI (i : Nat)) S = k176 x' S ∧ rBt (pTs H T e P P.length) x' (σ P.length).reverse := fun y hy => by
        simp only [pX2_applies_170, nm_i]
        rw [ek]
        exact q_applies_5 hN Q hH hw F hP hp st he (k176 := k176) n k (i + 1) y (by omega) (by omega) hy
      have push : P[i].1 ≤ 3 → ∀ b : Bool, b = pVal H T e P[i] (pTs H T e P i) → rBt (pTs H T e P (i + 1)) ((x <<< ((1 : Int32) &&& 31)) ||| zB b) (σ (i + 1)).reverse := fun q b hb => by
        rw [t1 q, List.reverse_append, List.reverse_singleton, List.singleton_append, rBt_cons]
        refine ⟨?_, fun j hj => ?_⟩
        · rw [ib_or, ib_shl_1 x (by omega), ib_zB, new, ← hb]
          simp
        · rw [List.length_reverse] at hj
          rw [ib_or, ib_shl_1 x (by omega), ib_zB, old _ (hlt _ (List.mem_reverse.mp (List.getElem_mem _))), show j + 1 - 1 = j by omega, hx j (by rw [List.length_reverse]; omega)]
          simp
      have kk : pcK P[i] = if P[i].1 ≤ 2 then 0 else (P[i].1 : Int) - 2 := rfl
      have hk0 : 0 ≤ pcK P[i] ∧ pcK P[i] ≤ 4 := by rw [kk]; split <;> omega
      have c0 : (zI (pcK P[i]) = (0 : Int32)) ↔ P[i].1 ≤ 2 := by
        rw [zL_0, zI_eq (by omega) (by omega) (by omega) (by omega), kk]
        split <;> omega
      have c1 : (zI (pcK P[i]) = (1 : Int32)) ↔ P[i].1 = 3 := by
        rw [zL_1, zI_eq (by omega) (by omega) (by omega) (by omega), kk]
        split <;> omega
      have c2 : (zI (pcK P[i]) = (2 : Int32)) ↔ P[i].1 = 4 := by
        rw [zL_2, zI_eq (by omega) (by omega) (by omega) (by omega), kk]
        split <;> omega
      have c3 : (zI (pcK P[i]) = (3 : Int32)) ↔ P[i].1 = 5 := by
        rw [zL_3, zI_eq (by omega) (by omega) (by omega) (by omega), kk]
        split <;> omega
      rw [if_neg (by omega), gd_n (show i < 15 by omega) (by omega), gd_n (show i < 15 by omega) (by omega), gd_n (show i < 15 by omega) (by omega), zI_cn (by omega), x1]
      by_cases q2 : P[i].1 ≤ 2
      · rw [if_pos (c0.mpr q2)]
        obtain ⟨lo, hi', r1, r2, r3, r4, r5⟩ := rg_val (H := H) Q.2 h10 (p2 q2) q2 (f := pTs H T e P i)
        have r5 := r5 e
        have l9 : (tVs T).length ≤ 826 := by
          obtain ⟨l1, l2, h1, h2⟩ := tR_vRs Q.1
          have a := h1.1.2.2.2.2
          have b := h2.length_eq
          rw [List.length_map] at b
          have := kNl_le 0
          omega
        have l0 : tBw T e lo hi' ≤ (tVs T).length := List.countP_le_length
        have cb : (zI (tBw T e lo hi' : Nat) ≤ (0 : Int32)) ↔ ¬ 0 < tBw T e lo hi' := by
          rw [zL_0, zI_le (by omega) (by omega) (by omega) (by omega)]
          omega
        rw [x2, x3, r1, r2, q_valuesBetween Q (by omega) he r3 r4, bk_i]
        by_cases qb : 0 < tBw T e lo hi'
        · rw [decide_eq_true qb] at r5
          rw [if_neg (fun g => cb.mp g qb)]
          simp only [pX2_applies_83, pX2_applies_98, nm_i]
          rw [if_neg (by decide)]
          exact fin _ (push (by omega) true r5)
        · rw [decide_eq_false qb] at r5
          rw [if_pos (cb.mpr qb)]
          simp only [pX2_applies_83, pX2_applies_98, nm_i]
          rw [if_pos trivial]
          exact fin _ (push (by omega) false r5)
      · rw [if_neg (fun g => q2 (c0.mp g))]
        by_cases q3 : P[i].1 = 3
        · obtain ⟨b1, b2⟩ := p3 q3
          have hkl := Q.2.2.2.2.1 e he
          rw [if_pos (c1.mpr q3), gd_n he (by omega), gd_n (show i < 15 by omega) (by omega), zI_cn (show e < 2147483648 by omega), Q.1.2.1 e he, x2, show pcL H P[i] = P[i].2.1 by unfold pcL; rw [if_neg (by omega), if_neg (by omega), if_pos q3], q_isOrBeneath hH hw (by omega) hkl.1 (by omega) (by omega) (by omega), bk_i, il_B]
          have hv : hUp H 8 (tKl T e) P[i].2.1 = pVal H T e P[i] (pTs H T e P i) := by
            unfold pVal
            rw [if_neg (by omega), if_neg (by omega), if_neg (by omega), if_pos q3]
          by_cases qh : hUp H 8 (tKl T e) P[i].2.1 = true
          · rw [if_pos qh]
            simp only [pX2_applies_138, nm_i]
            exact fin _ (push (by omega) true (by rw [← hv, qh]))
          · rw [if_neg qh]
            simp only [pX2_applies_138, nm_i]
            exact fin _ (push (by omega) false (by rw [← hv, Bool.eq_false_iff.mpr qh]))
        · rw [if_neg (fun g => q3 (c1.mp g))]
          by_cases q6 : P[i].1 = 6
          · obtain ⟨s, s1, s2⟩ := t2 q6
            have ha : P[i].2.1.toNat < i := hlt _ (by rw [s1]; exact List.mem_append_right _ List.mem_cons_self)
            have ls : s.length ≤ 8 := by rw [s1, List.length_append] at hl8; omega
            rw [s1, List.reverse_append, List.reverse_singleton, List.singleton_append, rBt_cons] at hx
            rw [if_neg (fun g => by have := c2.mp g; omega), if_neg (fun g => by have := c3.mp g; omega)]
            refine fin _ ?_
            rw [s2, List.reverse_append, List.reverse_singleton, List.singleton_append, rBt_cons]
            have ex : ∀ j, ib (x ^^^ (1 : Int32)) j = (ib x j ^^ decide (j = 0)) := fun j => by
              have : ib (x ^^^ (1 : Int32)) j = (ib x j ^^ ib 1 j) := by unfold ib; rw [Int32.toBitVec_xor, BitVec.getLsbD_xor]
              rw [ib_1] at this
              exact this
            refine ⟨?_, fun j hj => ?_⟩
            · rw [ex, hx.1, new]
              unfold pVal
              rw [if_neg (by omega), if_neg (by omega), if_neg (by omega), if_neg (by omega), if_neg (by omega), if_neg (by omega)]
              simp
            · have hm : s.reverse[j] ∈ s := List.mem_reverse.mp (List.getElem_mem _)
              rw [ex, hx.2 j hj, old _ (hlt _ (by rw [s1]; exact List.mem_append_left _ hm))]
              simp
          · obtain ⟨s, s1, s2⟩ := t3 (by omega)
            have ls : s.length ≤ 8 := by rw [s1, List.length_append] at hl8; omega
            have er : (s ++ [P[i].2.1.toNat, P[i].2.2.toNat]).reverse = P[i].2.2.toNat :: P[i].2.1.toNat :: s.reverse := by rw [List.reverse_append]; rfl
            rw [s1, er, rBt_cons] at hx
            obtain ⟨hx0, hx1⟩ := hx
            have hxa := hx1 0 (by rw [List.length_cons]; omega)
            have hxr : ∀ j (h : j < s.reverse.length), ib x (j + 2) = pTs H T e P i s.reverse[j] := fun j hj => hx1 (j + 1) (by rw [List.length_cons]; omega)
            have hxa : ib x 1 = pTs H T e P i P[i].2.1.toNat := hxa
            have oldr : ∀ j (h : j < s.reverse.length), pTs H T e P (i + 1) s.reverse[j] = pTs H T e P i s.reverse[j] := fun j hj => old _ (hlt _ (by rw [s1]; exact List.mem_append_left _ (List.mem_reverse.mp (List.getElem_mem _))))
            by_cases q4 : P[i].1 = 4
            · rw [if_pos (c2.mpr q4)]
              refine fin _ ?_
              rw [s2, List.reverse_append, List.reverse_singleton, List.singleton_append, rBt_cons]
              have ex : ∀ j, j < 31 → ib ((x >>> ((1 : Int32) &&& 31)) &&& ((-2 : Int32) ||| (x &&& 1))) j = (ib x (j + 1) && (decide (1 ≤ j) || (ib x j && decide (j = 0)))) := fun j hj => by
                have : ib ((x >>> ((1 : Int32) &&& 31)) &&& ((-2 : Int32) ||| (x &&& 1))) j = (ib x (j + 1) && (decide (1 ≤ j) || (ib x j && decide (j = 0)))) := by
                  rw [ib_and, ib_shr_1 x hj, ib_or, ib_m2 j (by omega), ib_and, ib_1]
                exact this
              refine ⟨?_, fun j hj => ?_⟩
              · rw [ex 0 (by omega), hx0, hxa, new]
                unfold pVal
                rw [if_neg (by omega), if_neg (by omega), if_neg (by omega), if_neg (by omega), if_pos q4]
                simp
              · have hj2 : j < s.length := by rw [List.length_reverse] at hj; exact hj
                rw [ex (j + 1) (by omega), hxr j hj, oldr j hj]
                simp
            · rw [if_neg (fun g => q4 (c2.mp g)), if_pos (c3.mpr (by omega))]
              refine fin _ ?_
              rw [s2, List.reverse_append, List.reverse_singleton, List.singleton_append, rBt_cons]
              have ex : ∀ j, j < 31 → ib ((x >>> ((1 : Int32) &&& 31)) ||| (x &&& 1)) j = (ib x (j + 1) || (ib x j && decide (j = 0))) := fun j hj => by
                have : ib ((x >>> ((1 : Int32) &&& 31)) ||| (x &&& 1)) j = (ib x (j + 1) || (ib x j && decide (j = 0))) := by
                  rw [ib_or, ib_shr_1 x hj, ib_and, ib_1]
                exact this
              refine ⟨?_, fun j hj => ?_⟩
              · rw [ex 0 (by omega), hx0, hxa, new]
                unfold pVal
                rw [if_neg (by omega), if_neg (by omega), if_neg (by omega), if_neg (by omega), if_neg q4, if_pos (by omega)]
                simp
              · have hj2 : j < s.length := by rw [List.length_reverse] at hj; exact hj
                rw [ex (j + 1) (by omega), hxr j hj, oldr j hj]
                simp
theorem q_applies (hN : 900 ≤ N) (h : wOk W) {t : Nat} (Q : tOk S t T) (hH : hR S (wH W)) (F : fcR S (wH W) (wP W) (wK W)) (hK1 : (wK W).length = 1) {e : Nat} (he : e < 48) : pX2_applies N t (zI (e : Nat)) S = some (zB (wFt W T e), S) := by
  obtain ⟨f1, f2, f3, f4, -⟩ := h.2.2.1
  obtain ⟨σ, st, sK⟩ := st_of h
  obtain ⟨x', e1, e2⟩ := q_applies_5 (N := N) hN Q hH h.1 F f1 f4 st he (k176 := pX2_applies_176 N t) N (wP W).length 0 0 (by omega) (by omega) (by rw [st.2.1]; exact fun j hj => absurd hj (Nat.not_lt_zero j))
  have e1 : pX2_applies_5 N t (pX2_applies_176 N t) N (zI (e : Nat)) 0 0 S = _ := e1
  rw [sK] at e2
  have h0 : 0 < (wK W).length := by omega
  have hw : ib x' 0 = wFt W T e := by
    have := e2 0 (by rw [List.length_reverse]; omega)
    rw [this]
    unfold wFt
    obtain ⟨k0, hk⟩ : ∃ k0, wK W = [k0] := List.length_eq_one_iff.mp hK1
    have er : (wK W).reverse[0]'(by rw [List.length_reverse]; omega) = k0 := by
      simp only [hk]
      rfl
    rw [er, hk]
    rfl
  simp only [pX2_applies]
  rw [e1]
  simp only [pX2_applies_176]
  by_cases g : wFt W T e = true
  · rw [if_pos ((and1_iff x').mpr (hw.trans g)), g]; rfl
  · rw [if_neg (fun k => g (hw.symm.trans ((and1_iff x').mp k))), Bool.eq_false_iff.mpr g]; rfl
end UB
