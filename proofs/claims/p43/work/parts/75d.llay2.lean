-- LEVEL 2, THE LAW: A CHANGE IS LAID, THE OTHER KINDS
section LM
variable {N : Nat} {L : lS} {H : sH} {T : sT} {c : sCh} {m i : Nat} {K : Int32 → Int32 → lS → Option (Unit × lS)}
theorem lq_st1 (hS : lSc L H) (hi : i < 41) (C : lCh L i c) (hc : cOk c) (hl : lcOk c) (R : lTr L T) (k0 : cK c = 1) : stG N K H c m i L T := by
  obtain ⟨R1, R2⟩ := R
  obtain ⟨c1, c2, c3, c4, c5, c6⟩ := C
  obtain ⟨l1, -, l2, -⟩ := hl
  obtain ⟨l2, l3⟩ := l2 (by omega) (by omega)
  obtain ⟨o1, o2, o3, o4, o5, -, oa, -⟩ := hc
  obtain ⟨oa1, oa2, oa3, oa4⟩ := oa (by omega) (by omega)
  have c4 := c4 (by omega)
  have c5 := c5 (by omega)
  have eA : lA c = cX c := by unfold lA; rw [if_neg (by omega), if_neg (by omega)]
  obtain ⟨x, hx⟩ : ∃ x : Nat, cX c = x := ⟨(cX c).toNat, by omega⟩
  obtain ⟨y, hy⟩ : ∃ y : Nat, cY c = y := ⟨(cY c).toNat, by omega⟩
  obtain ⟨L', p1, p2, p3, p4⟩ := lq_put (N := N) hS R2 l1 (show x < 3 by omega) (show y < 60 by omega)
  unfold stG
  simp only [pL_lays_128, slv_i]
  have g41 : ∀ {β : Type} {K : Option β}, gd (zI (i : Nat)) 41 K = K := gd_c hi (by omega)
  rw [if_neg (show ¬ zI (cK c : Nat) = (0 : Int32) from nk (by omega) (by omega) (j := 0) (by omega)), if_pos (show zI (cK c : Nat) = (1 : Int32) by rw [k0]; rfl)]
  simp only [g41, zI_cn (show i < 2147483648 by omega)]
  rw [c4, c5, eA, hx, hy, p1, lba_i]
  have et : tTake H T c = tMk (tTh T) (tDd T) (tKl T) (tPa T) (tNm T) (tLk T) (tBn T) (vTake H (tVs T) (cE c) (cX c).toNat (cY c).toNat) (tSy T) := by unfold tTake; rw [if_neg (by omega), if_pos k0]
  refine ⟨L', rfl, ⟨fun k _ => by rw [p2], p3⟩, ?_⟩
  rw [et, hx, hy, Int.toNat_natCast, Int.toNat_natCast]
  exact ⟨fun e he => by rw [p2]; exact R1 e he, p4⟩
theorem lq_st2 (hS : lSc L H) (hi : i < 41) (C : lCh L i c) (hc : cOk c) (hl : lcOk c) (R : lTr L T) (k0 : cK c = 2) : stG N K H c m i L T := by
  obtain ⟨R1, R2⟩ := R
  obtain ⟨c1, c2, c3, c4, c5, c6⟩ := C
  obtain ⟨l1, -, l2, -⟩ := hl
  obtain ⟨l2, l3⟩ := l2 (by omega) (by omega)
  obtain ⟨o1, o2, o3, o4, o5, -, oa, -⟩ := hc
  obtain ⟨oa1, oa2, oa3, oa4⟩ := oa (by omega) (by omega)
  have c4 := c4 (by omega)
  have c5 := c5 (by omega)
  have eA : lA c = cX c := by unfold lA; rw [if_neg (by omega), if_neg (by omega)]
  obtain ⟨x, hx⟩ : ∃ x : Nat, cX c = x := ⟨(cX c).toNat, by omega⟩
  obtain ⟨y, hy⟩ : ∃ y : Nat, cY c = y := ⟨(cY c).toNat, by omega⟩
  obtain ⟨w, m1, m2⟩ := lq_match (N := N) hS (show x < 3 by omega) (show y < 60 by omega)
  unfold stG
  simp only [pL_lays_128, slv_i]
  have g41 : ∀ {β : Type} {K : Option β}, gd (zI (i : Nat)) 41 K = K := gd_c hi (by omega)
  have g0 : ∀ {β : Type} {K : Option β}, gd (zI ((3 * cE c + x : Nat) : Int)) 36 K = K := gd_c (by omega) (by omega)
  rw [if_neg (show ¬ zI (cK c : Nat) = (0 : Int32) from nk (by omega) (by omega) (j := 0) (by omega)), if_neg (show ¬ zI (cK c : Nat) = (1 : Int32) from nk (by omega) (by omega) (j := 1) (by omega)), if_pos (show zI (cK c : Nat) = (2 : Int32) by rw [k0]; rfl)]
  simp only [g41, zI_cn (show i < 2147483648 by omega)]
  rw [c4, c5, eA, hx, hy, z3_a]
  simp only [g0, zI_cn (show 3 * cE c + x < 2147483648 by omega)]
  rw [m1, lba_i]
  have et : tTake H T c = tMk (tTh T) (tDd T) (tKl T) (tPa T) (tNm T) (tLk T) (tBn T) (vDrop H (tVs T) (cE c) (cX c).toNat false (cY c).toNat) (tSy T) := by unfold tTake; rw [if_neg (by omega), if_neg (by omega), if_pos k0]
  refine ⟨_, rfl, fr10 _ _ _, ?_⟩
  rw [et, hx, hy, Int.toNat_natCast, Int.toNat_natCast]
  refine ⟨fun e he => R1 e he, fun e a v he ha hv => ?_⟩
  rw [aJ_uJ_s]
  by_cases g : e = cE c ∧ a = x
  · obtain ⟨rfl, rfl⟩ := g
    rw [updL_s, lb_and, lb_not _ hv, R2 _ a v l1 ha hv, m2 v hv, ← decide_not, ← Bool.decide_and]
    refine decide_eq_decide.mpr ?_
    show _ ↔ (cE c, a, v) ∈ vDrop H (tVs T) (cE c) a false y
    rw [mem_vDrop]
    simp
  · rw [updL_o _ _ (fun q => g ((z3a_inj (by omega) ha).mp q)), R2 e a v he ha hv]
    refine decide_eq_decide.mpr ?_
    show _ ↔ (e, a, v) ∈ vDrop H (tVs T) (cE c) x false y
    rw [mem_vDrop]
    exact ⟨fun q => ⟨q, fun r => g ⟨r.1, r.2.1⟩⟩, fun q => q.1⟩
theorem lq_st3 (hi : i < 41) (C : lCh L i c) (hc : cOk c) (hl : lcOk c) (R : lTr L T) (k0 : cK c = 3) : stG N K H c m i L T := by
  obtain ⟨R1, R2⟩ := R
  obtain ⟨c1, c2, c3, c4, c5, c6⟩ := C
  obtain ⟨l1, -, l2, -⟩ := hl
  obtain ⟨l2, l3⟩ := l2 (by omega) (by omega)
  obtain ⟨o1, o2, o3, o4, o5, -, oa, -⟩ := hc
  obtain ⟨oa1, oa2, oa3, oa4⟩ := oa (by omega) (by omega)
  have c4 := c4 (by omega)
  have c5 := c5 (by omega)
  have eA : lA c = cX c := by unfold lA; rw [if_neg (by omega), if_neg (by omega)]
  obtain ⟨x, hx⟩ : ∃ x : Nat, cX c = x := ⟨(cX c).toNat, by omega⟩
  obtain ⟨y, hy⟩ : ∃ y : Nat, cY c = y := ⟨(cY c).toNat, by omega⟩
  unfold stG
  simp only [pL_lays_128, slv_i]
  have g41 : ∀ {β : Type} {K : Option β}, gd (zI (i : Nat)) 41 K = K := gd_c hi (by omega)
  have g0 : ∀ {β : Type} {K : Option β}, gd (zI ((3 * cE c + x : Nat) : Int)) 36 K = K := gd_c (by omega) (by omega)
  rw [if_neg (show ¬ zI (cK c : Nat) = (0 : Int32) from nk (by omega) (by omega) (j := 0) (by omega)), if_neg (show ¬ zI (cK c : Nat) = (1 : Int32) from nk (by omega) (by omega) (j := 1) (by omega)), if_neg (show ¬ zI (cK c : Nat) = (2 : Int32) from nk (by omega) (by omega) (j := 2) (by omega)), if_pos (show zI (cK c : Nat) = (3 : Int32) by rw [k0]; rfl)]
  simp only [g41, zI_cn (show i < 2147483648 by omega)]
  rw [c4, c5, eA, hx, hy, z3_a]
  simp only [g0, zI_cn (show 3 * cE c + x < 2147483648 by omega)]
  have et : tTake H T c = tMk (tTh T) (tDd T) (tKl T) (tPa T) (tNm T) (tLk T) (tBn T) (vDrop H (tVs T) (cE c) (cX c).toNat true (cY c).toNat ++ [(cE c, (cX c).toNat, (cY c).toNat)]) (tSy T) := by unfold tTake; rw [if_neg (by omega), if_neg (by omega), if_neg (by omega), if_pos k0]
  refine ⟨_, rfl, fr10 _ _ _, ?_⟩
  rw [et, hx, hy, Int.toNat_natCast, Int.toNat_natCast]
  refine ⟨fun e he => R1 e he, fun e a v he ha hv => ?_⟩
  rw [aJ_uJ_s]
  by_cases g : e = cE c ∧ a = x
  · obtain ⟨rfl, rfl⟩ := g
    rw [updL_s, lb_shl1 (by omega) hv]
    refine decide_eq_decide.mpr ?_
    show _ ↔ (cE c, a, v) ∈ vDrop H (tVs T) (cE c) a true y ++ [(cE c, a, y)]
    rw [List.mem_append, mem_vDrop, List.mem_singleton]
    simp
  · rw [updL_o _ _ (fun q => g ((z3a_inj (by omega) ha).mp q)), R2 e a v he ha hv]
    refine decide_eq_decide.mpr ?_
    show _ ↔ (e, a, v) ∈ vDrop H (tVs T) (cE c) x true y ++ [(cE c, x, y)]
    rw [List.mem_append, mem_vDrop, List.mem_singleton]
    constructor
    · exact fun q => Or.inl ⟨q, fun r => g ⟨r.1, r.2.1⟩⟩
    · rintro (q | q)
      · exact q.1
      · rw [Prod.mk.injEq, Prod.mk.injEq] at q
        exact absurd ⟨q.1, q.2.1⟩ g
theorem lq_stn {k : Nat} (hk : k < 200) (h0 : k ≠ 0) (h1 : k ≠ 1) (h2 : k ≠ 2) (h3 : k ≠ 3) (h7 : k ≠ 7) (h8 : k ≠ 8) {x : Int32} : pL_lays_128 N K (zI (k : Nat)) (zI (m : Nat)) (zI (i : Nat)) x L = pL_lays_401 N K (zI (m : Nat)) (zI (i : Nat)) L := by
  simp only [pL_lays_128, slv_i]
  rw [if_neg (show ¬ zI (k : Nat) = (0 : Int32) from nk h0 hk (j := 0) (by omega)), if_neg (show ¬ zI (k : Nat) = (1 : Int32) from nk h1 hk (j := 1) (by omega)), if_neg (show ¬ zI (k : Nat) = (2 : Int32) from nk h2 hk (j := 2) (by omega)), if_neg (show ¬ zI (k : Nat) = (3 : Int32) from nk h3 hk (j := 3) (by omega)), if_neg (show ¬ zI (k : Nat) = (7 : Int32) from nk h7 hk (j := 7) (by omega)), if_neg (show ¬ zI (k : Nat) = (8 : Int32) from nk h8 hk (j := 8) (by omega))]
theorem lq_st456 (R : lTr L T) (k0 : cK c = 4 ∨ cK c = 5 ∨ cK c = 6) : stG N K H c m i L T := by
  obtain ⟨R1, R2⟩ := R
  refine ⟨L, lq_stn (by omega) (by omega) (by omega) (by omega) (by omega) (by omega) (by omega), frL.rf, ?_⟩
  unfold tTake
  rw [if_neg (by omega), if_neg (by omega), if_neg (by omega), if_neg (by omega)]
  by_cases k4 : cK c = 4
  · rw [if_pos k4]; exact ⟨fun e he => R1 e he, R2⟩
  · rw [if_neg k4]
    by_cases k5 : cK c = 5
    · rw [if_pos k5]; exact ⟨fun e he => R1 e he, R2⟩
    · rw [if_neg k5, if_pos (by omega)]; exact ⟨fun e he => R1 e he, R2⟩
theorem lq_st7 (hN : 100 ≤ N) (hi : i < 41) (C : lCh L i c) (hc : cOk c) (hl : lcOk c) (hT : lTo T) (R : lTr L T) (k0 : cK c = 7) : stG N K H c m i L T := by
  obtain ⟨R1, R2⟩ := R
  obtain ⟨c1, c2, c3, c4, c5, c6⟩ := C
  obtain ⟨l1, -, -, -, -, -, l2⟩ := hl
  have l2 := (l2 k0).1
  obtain ⟨o1, o2, o3, o4, o5, -, -, -, -, -, oa, -⟩ := hc
  obtain ⟨oa1, oa2⟩ := oa k0
  have c4 := c4 (by omega)
  have eA : lA c = cX c := by unfold lA; rw [if_neg (by omega), if_neg (by omega)]
  unfold stG
  simp only [pL_lays_128, pL_lays_382, slv_i]
  have g41 : ∀ {β : Type} {K : Option β}, gd (zI (i : Nat)) 41 K = K := gd_c hi (by omega)
  have g2 : ∀ {β : Type} {K : Option β}, gd (zI ((3 * cE c + 2 : Nat) : Int)) 36 K = K := gd_c (by omega) (by omega)
  rw [if_neg (show ¬ zI (cK c : Nat) = (0 : Int32) from nk (by omega) (by omega) (j := 0) (by omega)), if_neg (show ¬ zI (cK c : Nat) = (1 : Int32) from nk (by omega) (by omega) (j := 1) (by omega)), if_neg (show ¬ zI (cK c : Nat) = (2 : Int32) from nk (by omega) (by omega) (j := 2) (by omega)), if_neg (show ¬ zI (cK c : Nat) = (3 : Int32) from nk (by omega) (by omega) (j := 3) (by omega)), if_pos (show zI (cK c : Nat) = (7 : Int32) by rw [k0]; rfl), z3_2]
  simp only [g41, g2, zI_cn (show i < 2147483648 by omega), zI_cn (show 3 * cE c + 2 < 2147483648 by omega)]
  rw [c4, eA, lq_up (by omega) hT (fun x hx => (R1 x hx).2.2) l1 (by omega) l2, lba_i, il_B, c4, eA]
  have et : tTake H T c = tMk (tTh T) (tDd T) (tKl T) (if pCome (tPa T) 48 (cX c) (cE c) then tPa T else upf (tPa T) (cE c) (cX c)) (tNm T) (tLk T) (tBn T) (tVs T) (tSy T) := by unfold tTake; rw [if_neg (by omega), if_neg (by omega), if_neg (by omega), if_neg (by omega), if_neg (by omega), if_neg (by omega), if_neg (by omega), if_pos k0]
  rw [et]
  cases hp : pCome (tPa T) 48 (cX c) (cE c) with
  | true =>
    rw [if_pos rfl]
    refine ⟨_, rfl, fr9 _ _ _, fun e he => ?_, R2⟩
    obtain ⟨r1, r2, r3⟩ := R1 e he
    obtain ⟨-, -, q3⟩ := R1 _ l1
    rw [a9, a9, a9, if_neg (show ¬ 3 * e = 3 * cE c + 2 by omega), if_neg (show ¬ 3 * e + 1 = 3 * cE c + 2 by omega)]
    refine ⟨r1, r2, ?_⟩
    show _ = zI (tPa T e)
    by_cases g : e = cE c
    · rw [g, if_pos rfl, q3]
    · rw [if_neg (by omega), r3]
  | false =>
    rw [if_neg (by decide)]
    refine ⟨_, rfl, fr9 _ _ _, fun e he => ?_, R2⟩
    obtain ⟨r1, r2, r3⟩ := R1 e he
    rw [a9, a9, a9, if_neg (show ¬ 3 * e = 3 * cE c + 2 by omega), if_neg (show ¬ 3 * e + 1 = 3 * cE c + 2 by omega)]
    refine ⟨r1, r2, ?_⟩
    show _ = zI (upf (tPa T) (cE c) (cX c) e)
    by_cases g : e = cE c
    · rw [g, if_pos rfl, upf_s]
    · rw [if_neg (by omega), r3, upf_o _ _ g]
theorem lq_st8 (hl : lcOk c) (R : lTr L T) (k0 : cK c = 8) : stG N K H c m i L T := by
  obtain ⟨R1, R2⟩ := R
  obtain ⟨l1, -⟩ := hl
  unfold stG
  simp only [pL_lays_128, slv_i]
  rw [if_neg (show ¬ zI (cK c : Nat) = (0 : Int32) from nk (by omega) (by omega) (j := 0) (by omega)), if_neg (show ¬ zI (cK c : Nat) = (1 : Int32) from nk (by omega) (by omega) (j := 1) (by omega)), if_neg (show ¬ zI (cK c : Nat) = (2 : Int32) from nk (by omega) (by omega) (j := 2) (by omega)), if_neg (show ¬ zI (cK c : Nat) = (3 : Int32) from nk (by omega) (by omega) (j := 3) (by omega)), if_neg (show ¬ zI (cK c : Nat) = (7 : Int32) from nk (by omega) (by omega) (j := 7) (by omega)), if_pos (show zI (cK c : Nat) = (8 : Int32) by rw [k0]; rfl), z3_0, gd_c (by omega) (by omega), zI_cn (by omega)]
  have et : tTake H T c = tMk (tTh T) (upf (tDd T) (cE c) true) (tKl T) (tPa T) (tNm T) (tLk T) (tBn T) (tVs T) (tSy T) := by unfold tTake; rw [if_neg (by omega), if_neg (by omega), if_neg (by omega), if_neg (by omega), if_neg (by omega), if_neg (by omega), if_neg (by omega), if_neg (by omega)]
  rw [et]
  refine ⟨_, rfl, fr9 _ _ _, fun e he => ?_, R2⟩
  obtain ⟨r1, r2, r3⟩ := R1 e he
  rw [a9, a9, a9, if_neg (show ¬ 3 * e + 1 = 3 * cE c by omega), if_neg (show ¬ 3 * e + 2 = 3 * cE c by omega)]
  refine ⟨?_, r2, r3⟩
  show _ = zI (if upf (tDd T) (cE c) true e then 2 else if tTh T e then 1 else 0 : Int)
  by_cases g : e = cE c
  · rw [g, if_pos rfl, upf_s]; rfl
  · rw [if_neg (by omega), r1, upf_o _ _ g]; rfl
theorem lq_step (hN : 100 ≤ N) (hS : lSc L H) (hi : i < 41) (C : lCh L i c) (hc : cOk c) (hl : lcOk c) (hT : lTo T) (hd : cK c = 0 → tDd T (cE c) = false) (R : lTr L T) : stG N K H c m i L T := by
  have o1 := hc.1
  by_cases k0 : cK c = 0
  · exact lq_st0 hN hS hi C hc hl (hd k0) R k0
  by_cases k1 : cK c = 1
  · exact lq_st1 hS hi C hc hl R k1
  by_cases k2 : cK c = 2
  · exact lq_st2 hS hi C hc hl R k2
  by_cases k3 : cK c = 3
  · exact lq_st3 hi C hc hl R k3
  by_cases k7 : cK c = 7
  · exact lq_st7 hN hi C hc hl hT R k7
  by_cases k8 : cK c = 8
  · exact lq_st8 hl R k8
  · exact lq_st456 R (by omega)
end LM
