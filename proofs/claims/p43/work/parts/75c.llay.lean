-- LEVEL 2, THE LAW: A CHANGE IS LAID
theorem a9 (L : lS) (q j : Nat) (v : Int32) : aI (uI L 9 q v) 9 j = if j = q then v else aI L 9 j := by rw [aI_uI_s]; rfl
theorem upf_P {α : Type} {P : α → Prop} {f : Nat → α} {k : Nat} {v : α} {e : Nat} (h : P (f e)) (h2 : P v) : P (upf f k v e) := by
  by_cases g : e = k
  · rw [g, upf_s]; exact h2
  · rw [upf_o _ _ g]; exact h
theorem mem_foldV {H : sH} {e : Nat} {x : Nat × Nat × Nat} : ∀ (D : List (Nat × Nat)) (vs : List (Nat × Nat × Nat)), x ∈ D.foldl (fun vs x => vTake H vs e x.1 x.2) vs → x ∈ vs ∨ (x.1 = e ∧ x.2 ∈ D)
  | [], _, h => Or.inl h
  | d :: D, vs, h => by
    rcases mem_foldV D _ h with g | ⟨g1, g2⟩
    · rcases mem_vTake.mp g with ⟨g1, -⟩ | g1
      · exact Or.inl g1
      · rw [g1]
        exact Or.inr ⟨rfl, List.mem_cons_self⟩
    · exact Or.inr ⟨g1, List.mem_cons_of_mem _ g2⟩
theorem lTo_take {H : sH} {T : sT} {c : sCh} (h : lTo T) (hc : cOk c) (hl : lcOk c) (hno : cK c = 0 → cY c ≠ cE c ∧ ∀ x, x < 48 → tPa T x ≠ cE c) : lTo (tTake H T c) := by
  obtain ⟨w1, w2, w3, w4, w5, ⟨w6, w7⟩, w8⟩ := h
  obtain ⟨l1, l2, l3, l4, l5, l6, l7⟩ := hl
  have hcadd := hc.2.2.2.2.2.1
  have omv := hc.2.2.2.2.2.2.2.2.2.2.1
  refine ⟨tW_take w1 hc hno, ?_⟩
  have vt : ∀ {a v : Nat}, a < 3 → v < 60 → ∀ x ∈ vTake H (tVs T) (cE c) a v, x.1 < 12 ∧ x.2.1 < 3 ∧ x.2.2 < 60 := fun {a v} ha hv x hx => by
    rcases mem_vTake.mp hx with ⟨g, -⟩ | g
    · exact w2 x g
    · rw [g]; exact ⟨l1, ha, hv⟩
  have vd : ∀ {a v : Nat} {all : Bool}, ∀ x ∈ vDrop H (tVs T) (cE c) a all v, x.1 < 12 ∧ x.2.1 < 3 ∧ x.2.2 < 60 := fun x hx => w2 x (mem_vDrop.mp hx).1
  unfold tTake
  by_cases k0 : cK c = 0
  · obtain ⟨a1, a2, a3, a4⟩ := l2 k0
    obtain ⟨b1, b2, b3, b4, -⟩ := hcadd k0
    rw [if_pos k0]
    refine ⟨fun x hx => ?_, fun e he => upf_P (P := fun z : Int => z < 3) (w3 e he) (by omega), fun e he => upf_P (P := fun z : Int => z < 12) (w4 e he) (by omega), fun e he => ?_, ⟨(upf_o _ _ (by omega)).trans w6, (upf_o _ _ (by omega)).trans w7⟩, fun e he h1 h2 => ?_⟩
    · rcases mem_foldV _ _ hx with g | ⟨g1, g2⟩
      · exact w2 x g
      · rw [g1]; exact ⟨l1, a4 _ g2⟩
    · show upf (tTh T) (cE c) true e = false
      rw [upf_o _ _ (by omega)]; exact w5 e he
    · show 0 ≤ upf (tPa T) (cE c) (cY c) e
      have h2 : upf (tTh T) (cE c) true e = true := h2
      by_cases g : e = cE c
      · rw [g, upf_s]; omega
      · rw [upf_o _ _ g] at h2 ⊢; exact w8 e he h1 h2
  · rw [if_neg k0]
    by_cases k1 : cK c = 1
    · obtain ⟨a1, a2⟩ := l3 (by omega) (by omega)
      rw [if_pos k1]; exact ⟨vt (by omega) (by omega), w3, w4, w5, ⟨w6, w7⟩, w8⟩
    · rw [if_neg k1]
      by_cases k2 : cK c = 2
      · rw [if_pos k2]; exact ⟨vd, w3, w4, w5, ⟨w6, w7⟩, w8⟩
      · rw [if_neg k2]
        by_cases k3 : cK c = 3
        · obtain ⟨a1, a2⟩ := l3 (by omega) (by omega)
          rw [if_pos k3]
          refine ⟨fun x hx => ?_, w3, w4, w5, ⟨w6, w7⟩, w8⟩
          rcases List.mem_append.mp hx with g | g
          · exact vd x g
          · rw [List.mem_singleton.mp g]; exact ⟨l1, show (cX c).toNat < 3 by omega, show (cY c).toNat < 60 by omega⟩
        · rw [if_neg k3]
          by_cases k4 : cK c = 4
          · rw [if_pos k4]; exact ⟨w2, w3, w4, w5, ⟨w6, (upf_o _ _ (by have := l4 k4; omega)).trans w7⟩, w8⟩
          · rw [if_neg k4]
            by_cases k5 : cK c = 5
            · rw [if_pos k5]; exact ⟨w2, w3, w4, w5, ⟨w6, w7⟩, w8⟩
            · rw [if_neg k5]
              by_cases k6 : cK c = 6
              · rw [if_pos k6]; exact ⟨w2, w3, w4, w5, ⟨w6, w7⟩, w8⟩
              · rw [if_neg k6]
                by_cases k7 : cK c = 7
                · rw [if_pos k7]
                  have l7 := l7 k7
                  have omv0 : 0 ≤ cX c := (omv k7).1
                  refine ⟨w2, w3, fun e he => ?_, w5, ⟨?_, w7⟩, fun e he h1 h2 => ?_⟩
                  rotate_left
                  · show (if pCome (tPa T) 48 (cX c) (cE c) then tPa T else upf (tPa T) (cE c) (cX c)) 0 = -1
                    split
                    · exact w6
                    · exact (upf_o _ _ (by omega)).trans w6
                  · show 0 ≤ (if pCome (tPa T) 48 (cX c) (cE c) then tPa T else upf (tPa T) (cE c) (cX c)) e
                    split
                    · exact w8 e he h1 h2
                    · exact upf_P (P := fun z : Int => 0 ≤ z) (w8 e he h1 h2) omv0
                  show (if pCome (tPa T) 48 (cX c) (cE c) then tPa T else upf (tPa T) (cE c) (cX c)) e < 12
                  split
                  · exact w4 e he
                  · exact upf_P (P := fun z : Int => z < 12) (w4 e he) l7.1
                · rw [if_neg k7]; exact ⟨w2, w3, w4, w5, ⟨w6, w7⟩, w8⟩
section LL
variable {N : Nat} {L : lS} {H : sH} {T : sT} {c : sCh} {m i : Nat}
theorem lq_lays_177 (hS : lSc L H) (hi : i < 41) {e : Nat} (he : e < 12) {D : List (Nat × Nat)} (hW : lW (aJ L 7 i) D) (hD : D.length ≤ 4) (hD2 : ∀ x ∈ D, x.1 < 3 ∧ x.2 < 60) (K : Int32 → Int32 → lS → Option (Unit × lS)) : ∀ (n k j : Nat) (L1 : lS) (vs : List (Nat × Nat × Nat)), j + k = D.length → k < n → aI L1 = aI L → (∀ q, q ≠ 10 → aJ L1 q = aJ L q) → lVs L1 vs → ∃ L', pL_lays_177 N K n (zI (m : Nat)) (zI (i : Nat)) (zI (e : Nat)) (zI (j : Nat)) L1 = K (zI (m : Nat)) (zI (i : Nat)) L' ∧ aI L' = aI L ∧ (∀ q, q ≠ 10 → aJ L' q = aJ L q) ∧ lVs L' ((D.drop j).foldl (fun vs x => vTake H vs e x.1 x.2) vs)
  | 0, k, j, L1, vs, _, hn, _, _, _ => by omega
  | n + 1, k, j, L1, vs, hk, hn, f1, f2, hV => by
    simp only [pL_lays_177, nm_i]
    rw [gd_c hi (by omega), gd_c hi (by omega), zI_cn (by omega), f2 7 (by omega), hW.1, il_le (by omega) (by omega) (by omega) (by omega)]
    cases k with
    | zero =>
      rw [if_pos (by omega), List.drop_eq_nil_of_le (by omega)]
      exact ⟨L1, rfl, f1, f2, hV⟩
    | succ k =>
      have hj : j < D.length := by omega
      obtain ⟨d1, d2⟩ := hD2 _ (List.getElem_mem hj)
      have e1 : (10 : Int32) * zI (j : Nat) = zI ((10 * j : Nat) : Int) := by rw [zL_10, zI_mul]; rfl
      rw [if_neg (by omega), e1, hW.2 j hj, show (100 : Int32) = zI ((100 : Nat) : Int) from rfl, z_mod (by omega) (by omega) (by omega), z_div (by omega) (by omega) (by omega), show (100 * D[j].1 + D[j].2) / 100 = D[j].1 by omega, show (100 * D[j].1 + D[j].2) % 100 = D[j].2 by omega]
      have hS1 : lSc L1 H := by
        unfold lSc
        rw [f1]
        exact hS
      obtain ⟨L2, p1, p2, p3, p4⟩ := lq_put (N := N) hS1 hV he d1 d2
      rw [p1, lba_i, zs1]
      obtain ⟨L', q1, q2, q3, q4⟩ := lq_lays_177 hS hi he hW hD hD2 K n k (j + 1) L2 _ (by omega) (by omega) (p2.trans f1) (fun q hq => (p3 q hq).trans (f2 q hq)) p4
      refine ⟨L', q1, q2, q3, ?_⟩
      rw [List.drop_eq_getElem_cons hj]
      exact q4
/-- one change, done -/
def stG (N : Nat) (K : Int32 → Int32 → lS → Option (Unit × lS)) (H : sH) (c : sCh) (m i : Nat) (L : lS) (T : sT) : Prop := ∃ L', pL_lays_128 N K (zI (cK c : Nat)) (zI (m : Nat)) (zI (i : Nat)) (zI (cE c : Nat)) L = pL_lays_401 N K (zI (m : Nat)) (zI (i : Nat)) L' ∧ frL L L' ∧ lTr L' (tTake H T c)
theorem nk {k j : Nat} (h : k ≠ j) (hk : k < 200) (hj : j < 200) : ¬ (zI (k : Nat) = zI (j : Nat)) := by
  rw [zI_eq (by omega) (by omega) (by omega) (by omega)]; omega
theorem fr9 (L : lS) (q : Nat) (v : Int32) : frL L (uI L 9 q v) := ⟨fun k hk => aI_uI_o _ _ _ hk, fun _ _ => rfl⟩
theorem fr10 (L : lS) (q : Nat) (v : Int64) : frL L (uJ L 10 q v) := ⟨fun _ _ => rfl, fun k hk => aJ_uJ_o _ _ _ hk⟩
variable {K : Int32 → Int32 → lS → Option (Unit × lS)}
theorem lq_st0 (hN : 100 ≤ N) (hS : lSc L H) (hi : i < 41) (C : lCh L i c) (hc : cOk c) (hl : lcOk c) (hd : tDd T (cE c) = false) (R : lTr L T) (k0 : cK c = 0) : stG N K H c m i L T := by
  obtain ⟨R1, R2⟩ := R
  obtain ⟨c1, c2, c3, c4, c5, c6⟩ := C
  obtain ⟨l1, l2, -⟩ := hl
  obtain ⟨l2, l3, l4, l5⟩ := l2 k0
  obtain ⟨o1, o2, o3, o4, o5, oa, -⟩ := hc
  obtain ⟨oa1, oa2, oa3, oa4, oa5, oa6, oa7, oa8, oa9⟩ := oa k0
  have c4 := c4 (by omega)
  have c5 := c5 (by omega)
  have eA : lA c = 100 * cX c + cW c := if_pos k0
  unfold stG
  simp only [pL_lays_128, slv_i]
  have g41 : ∀ {β : Type} {K : Option β}, gd (zI (i : Nat)) 41 K = K := gd_c hi (by omega)
  have g0 : ∀ {β : Type} {K : Option β}, gd (zI ((3 * cE c : Nat) : Int)) 36 K = K := gd_c (by omega) (by omega)
  have g1 : ∀ {β : Type} {K : Option β}, gd (zI ((3 * cE c + 1 : Nat) : Int)) 36 K = K := gd_c (by omega) (by omega)
  have g2 : ∀ {β : Type} {K : Option β}, gd (zI ((3 * cE c + 2 : Nat) : Int)) 36 K = K := gd_c (by omega) (by omega)
  rw [if_pos (show zI (cK c : Nat) = (0 : Int32) by rw [k0]; rfl), z3_1, z3_2, z3_0]
  simp only [g41, g0, g1, g2, zI_cn (show i < 2147483648 by omega), zI_cn (show 3 * cE c < 2147483648 by omega), zI_cn (show 3 * cE c + 1 < 2147483648 by omega), zI_cn (show 3 * cE c + 2 < 2147483648 by omega), aI_uI_o _ _ _ (show (5 : Nat) ≠ 9 by decide), aI_uI_o _ _ _ (show (6 : Nat) ≠ 9 by decide)]
  rw [c4, c5, eA, zL_100, zI_div (by omega) (by omega) (by omega) (by omega), show (100 * cX c + cW c) / 100 = cX c by omega]
  have fr : frL L (uI (uI (uI L 9 (3 * cE c) 1) 9 (3 * cE c + 1) (zI (cX c))) 9 (3 * cE c + 2) (zI (cY c))) := (fr9 _ _ _).trans ((fr9 _ _ _).trans (fr9 _ _ _))
  obtain ⟨L', p1, p2, p3, p4⟩ := lq_lays_177 (N := N) (m := m) (i := i) (L := uI (uI (uI L 9 (3 * cE c) 1) 9 (3 * cE c + 1) (zI (cX c))) 9 (3 * cE c + 2) (zI (cY c))) (frL_lSc fr hS) hi l1 (c6 k0) l4 l5 (pL_lays_401 N K) N (cV c).length 0 _ (tVs T) (by omega) (by omega) rfl (fun _ _ => rfl) R2
  refine ⟨L', p1, ⟨fun k hk => by rw [p2]; exact fr.1 k hk, fun k hk => (p3 k hk).trans (fr.2 k hk)⟩, ?_⟩
  have et : tTake H T c = tMk (upf (tTh T) (cE c) true) (tDd T) (upf (tKl T) (cE c) (cX c)) (upf (tPa T) (cE c) (cY c)) (upf (tNm T) (cE c) (cW c)) (tLk T) (upf (tBn T) (cE c) (cR c)) ((cV c).foldl (fun vs x => vTake H vs (cE c) x.1 x.2) (tVs T)) (tSy T) := if_pos k0
  rw [et]
  refine ⟨fun e he => ?_, p4⟩
  rw [p2, a9, a9, a9, a9, a9, a9, a9, a9, a9]
  obtain ⟨r1, r2, r3⟩ := R1 e he
  by_cases g : e = cE c
  · rw [g, if_neg (by omega), if_neg (by omega), if_pos rfl, if_neg (by omega), if_pos rfl, if_pos rfl]
    refine ⟨?_, ?_, ?_⟩
    · have : sSt (tMk (upf (tTh T) (cE c) true) (tDd T) (upf (tKl T) (cE c) (cX c)) (upf (tPa T) (cE c) (cY c)) (upf (tNm T) (cE c) (cW c)) (tLk T) (upf (tBn T) (cE c) (cR c)) ((cV c).foldl (fun vs x => vTake H vs (cE c) x.1 x.2) (tVs T)) (tSy T)) (cE c) = 1 := by
        show (if tDd T (cE c) then 2 else if upf (tTh T) (cE c) true (cE c) then 1 else 0 : Int) = 1
        rw [hd, upf_s]; rfl
      rw [this]; rfl
    · exact congrArg zI (upf_s _ _ _).symm
    · exact congrArg zI (upf_s _ _ _).symm
  · rw [if_neg (by omega), if_neg (by omega), if_neg (by omega), if_neg (by omega), if_neg (by omega), if_neg (by omega), if_neg (by omega), if_neg (by omega), if_neg (by omega)]
    refine ⟨?_, ?_, ?_⟩
    · rw [r1]
      show zI (if tDd T e then 2 else if tTh T e then 1 else 0 : Int) = zI (if tDd T e then 2 else if upf (tTh T) (cE c) true e then 1 else 0 : Int)
      rw [upf_o _ _ g]
    · rw [r2]; exact congrArg zI (upf_o _ _ g).symm
    · rw [r3]; exact congrArg zI (upf_o _ _ g).symm
end LL
