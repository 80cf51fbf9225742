-- LEVEL 2, THE LAW: ON EVERY SCRIPT IT ANSWERS 1
section LPU
variable {n9 : Nat} {xs9 : Nat → Int32}
theorem lOk_0 {H : sH} (hw : wOk (wSc W00 H)) (h3 : hA H = 3) (h4 : hC H = 3) : lOk (wSc W00 H) := by
  refine ⟨hw, ⟨h3, h4⟩, (by show 1 ≤ 12; omega), (by show 0 ≤ 40; omega), fun m _ => (by show 0 < 4; omega), ⟨(by show 0 ≤ 4; omega), fun x hx => absurd hx List.not_mem_nil⟩, fun k hk => absurd hk (Nat.not_lt_zero k), List.Pairwise.nil⟩
theorem lRel_0 {L : lS} {H : sH} {x : Nat → Int} (h0 : sP0 L) (ha : sPa L H 3) (hp : sPp L x 3) (hc : sPc L H x 3) (e2 : aI L 0 2 = 3) (e3 : aI L 0 3 = 3) : lRel L (wSc W00 H) := by
  obtain ⟨h1, h2, h8⟩ := h0
  refine ⟨⟨h1, h2 1 (by omega), e2, e3⟩, fun m hm => h2 _ (by omega), ⟨h2 8 (by omega), fun i hi => absurd hi (Nat.not_lt_zero i)⟩, ⟨fun a hac => ha a hac, fun k hk => ?_⟩, fun m e hm he => ?_, fun i hi => absurd hi (Nat.not_lt_zero i), fun m i j hm hi hj => ?_⟩
  · obtain ⟨c1, c2, c3⟩ := hc k hk
    obtain ⟨p1, -, -⟩ := hp k hk
    show aI L 1 (3 * k) = zI (hPr H k) ∧ hRq H k = aI L 1 (3 * k + 1) ||| hReq H (hPr H k) ∧ hAl H k = (aI L 1 (3 * k + 1) ||| aI L 1 (3 * k + 2)) ||| hAll H (hPr H k)
    rw [c1]
    exact ⟨p1, c2, c3⟩
  · rw [h2 _ (by omega)]
    exact ib_0 e
  · rw [h8]; rfl
theorem hp_N {N : Nat} (hN : 20000 ≤ N) (xs : Nat → Int32) (n : Nat) (hn : n ≤ 260) : ∃ (S' : kS) (L' : lS), pL_law N n xs kS0 lS0 200 20000 = some (1, S', L') := by
  have h00 : sP0 (uI lS0 0 0 1) := ⟨by rw [aU, if_pos ⟨rfl, rfl⟩], fun i hi => by rw [aU, if_neg (by omega)]; rfl, by rw [aI_uI_o _ _ _ (by omega)]; rfl⟩
  obtain ⟨S1, L1, H1, x1, a1, a2, a3, a4, a5, a6, a7⟩ := lq_90 (N := N) (xs9 := xs) hn (pL_law_196 N n xs) N 3 0 kS0 (uI lS0 0 0 1) H0 (fun _ => 0) 200 20000 (by omega) (by omega) ⟨wOk_0, kRel_00⟩ rfl rfl h00 (fun a h => absurd h (Nat.not_lt_zero a)) (fun a h => absurd h (Nat.not_lt_zero a)) (by omega) (by omega)
  have g1 : pL_law N n xs kS0 lS0 200 20000 = pL_law_196 N n xs S1 L1 203 20018 := by
    unfold pL_law
    rw [gq0, slv_i, show (0 : Int32).toNatClampNeg = 0 from rfl]
    exact a1
  have s2 : sP0 (uI L1 0 2 3) := sP0_u a5 (Or.inr ⟨rfl, by omega⟩)
  obtain ⟨S2, L2, H2, b1, b2, b3, b4, b5, b6, b7, b8, b9⟩ := lq_203 (N := N) (xs9 := xs) hn (pL_law_306 N n xs) (x := x1) N 3 0 S1 (uI L1 0 2 3) H1 203 20018 (by omega) (by omega) a2 a3 a4 s2 (fun a h => by rw [aU, if_neg (by omega)]; exact a6 a h) (fun k h => by rw [aI_uI_o _ _ _ (by omega)]; exact a7 k h) (fun k h => absurd h (Nat.not_lt_zero k)) (by omega) (by omega)
  have g2 : pL_law_196 N n xs S1 L1 203 20018 = pL_law_306 N n xs S2 L2 209 20054 := by
    unfold pL_law_196
    rw [gq2, slv_i, show (2 : Int32).toNatClampNeg = 2 from rfl]
    exact b1
  have e2 : aI L2 0 2 = 3 := by rw [b9, aU, if_pos ⟨rfl, rfl⟩]
  have R : lRel (uI L2 0 3 3) (wSc W00 H2) := by
    refine lRel_0 (x := x1) (sP0_u b5 (Or.inr ⟨rfl, by omega⟩)) (fun a h => ?_) (fun k h => ?_) (fun k h => ?_) ?_ ?_
    · rw [aU, if_neg (by omega)]; exact b6 a h
    · rw [aI_uI_o _ _ _ (by omega)]; exact b7 k h
    · rw [aI_uI_o _ _ _ (by omega)]; exact b8 k h
    · rw [aU, if_neg (by omega)]; exact e2
    · rw [aU, if_pos ⟨rfl, rfl⟩]
  obtain ⟨S3, L3, c1⟩ := lq_314 (N := N) (xs9 := xs) hN hn N 70 6 S2 (uI L2 0 3 3) (wSc W00 H2) 209 20054 (by omega) (by omega) (lOk_0 b2.1 b3 b4) b2.2 R (by omega) (by omega)
  refine ⟨S3, L3, ?_⟩
  rw [g1, g2]
  unfold pL_law_306
  rw [gq3, slv_i, show (3 : Int32).toNatClampNeg = 3 from rfl]
  exact c1
theorem hpure (xs : Nat → Int32) (n : Nat) (hn : n ≤ 260) : ∃ (N : Nat) (S' : kS) (L' : lS), pL_law N n xs kS0 lS0 200 20000 = some (1, S', L') := ⟨20000, hp_N (Nat.le_refl _) xs n hn⟩
end LPU
