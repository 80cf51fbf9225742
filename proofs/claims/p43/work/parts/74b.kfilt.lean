-- LEVEL 2, THE CLASS'S CALLS ALONE: FILTERS
section KB
variable {N : Nat} {S : kS} {W : sW}
theorem k_fin (h : wOk W) (K : kRel S W) {p : Nat × Int × Int} {F : List Nat} (hl : (wP W).length < 15) (hF : F.length < 8) (hpre : ∃ t, wK W = F ++ t) (hp : pOk (wH W) (wP W).length p) (hs : (p.1 ≤ 3 → F = wK W) ∧ (p.1 = 6 → wK W = F ++ [p.2.1.toNat]) ∧ (p.1 = 4 ∨ p.1 = 5 → wK W = F ++ [p.2.1.toNat, p.2.2.toNat])) {A : Option (Int32 × kS)} (hA : A = pX2_put N (zI (pcK p)) (zI (pcL (wH W) p)) (zI (pcH (wH W) p)) (zI (((F.length + 1 : Nat) : Int) - ((wK W).length : Nat))) S) : ∃ S', A = some (zI ((F.length + 1 : Nat) : Int), S') ∧ wOk (wFl W (wP W ++ [p]) (F ++ [(wP W).length])) ∧ kRel S' (wFl W (wP W ++ [p]) (F ++ [(wP W).length])) := by
  obtain ⟨t, ht⟩ := hpre
  obtain ⟨S', e1, a1, a2, a3, a4, a5, a6, a7, a8, a9, a10⟩ := q_fput (N := N) (x := 0) (k := pcK p) (lo := pcL (wH W) p) (hi := pcH (wH W) p) (mo := ((F.length + 1 : Nat) : Int) - ((wK W).length : Nat)) hl K
  rw [show ((wK W).length : Nat) + (((F.length + 1 : Nat) : Int) - ((wK W).length : Nat)) = ((F.length + 1 : Nat) : Int) by omega] at e1 a3
  have hlen : ((wP W) ++ [p]).length = (wP W).length + 1 := by rw [List.length_append, List.length_singleton]
  have hlen2 : (F ++ [(wP W).length]).length = F.length + 1 := by rw [List.length_append, List.length_singleton]
  obtain ⟨o1, o2, o3, o4, o5, o6, o7, o8⟩ := id h
  obtain ⟨k1, k2, ⟨k3, k3b, k3c⟩, k4⟩ := id K
  refine ⟨S', hA.trans e1, ⟨o1, o2, f_ok o3 hl hF (fun k hk => by rw [ht]; exact List.mem_append_left _ hk) hp hs, o4, o5, o6, o7, o8⟩, ?_⟩
  refine kRel_e K (fun q hq => a1 q (by omega) (by omega)) (fun c hc => a7 c (by omega) (by omega) (by omega)) (fun c _ => by rw [a8]) a9 a10 ⟨by rw [a1 _ (by omega) (by omega)]; exact k2.1, by rw [a7 _ (by omega) (by omega) (by omega)]; exact k2.2⟩ ⟨by rw [a2, hlen], by rw [a3, hlen2], fun i hi => ?_⟩ (by rw [a1 _ (by omega) (by omega)]; exact K.2.2.2.2.2.2.2.2.2.1) ⟨by rw [a1 _ (by omega) (by omega)]; exact K.2.2.2.2.2.2.2.2.2.2.2.2.1, by rw [a7 _ (by omega) (by omega) (by omega)]; exact K.2.2.2.2.2.2.2.2.2.2.2.2.2⟩
  rw [a4, a5, a6]
  rcases app_get i hi with ⟨g1, g2⟩ | ⟨g1, g2⟩
  · rw [g2, upd_o _ _ (by omega), upd_o _ _ (by omega), upd_o _ _ (by omega)]; exact k3c i g1
  · rw [g2, g1, upd_s, upd_s, upd_s]; exact ⟨rfl, rfl, rfl⟩
theorem k_equal (h : wOk W) (K : kRel S W) {a v : Nat} (ha : a < hA (wH W)) (hv : v < 1000) (q2 : (wK W).length < 8 ∧ (wP W).length < 15) : kOk (pX9_equal N (zI (a : Nat)) (zI (v : Nat)) S) (((wK W).length + 1 : Nat) : Int) (wFl W (wP W ++ [(0, (a : Int), (v : Int))]) (wK W ++ [(wP W).length])) := by
  have h10 := h.1.1
  simp only [pX9_equal, pX2_putRange]
  rw [g_attribute K.1 h.1 (by omega) (by omega), if_pos (by omega), bx_l, g_value (by omega) (by omega), if_pos (by omega), bx_l, g_roomF K h, if_pos q2, bx_l, q_lowest K.1 (by omega) (by omega), bk_i, q_highest K.1 (by omega) (by omega), bk_i]
  obtain ⟨S', e1, e2, e3⟩ := k_fin (N := N) (p := (0, (a : Int), (v : Int))) (F := wK W) h K q2.2 q2.1 ⟨[], (List.append_nil _).symm⟩ ⟨by show 0 ≤ 6; omega, fun _ => ⟨by show (0 : Int) ≤ (a : Int); omega, by show (a : Int) < _; omega, by show (0 : Int) ≤ (v : Int); omega, by show (v : Int) < 1000; omega⟩, fun e => absurd e (by show ¬ 0 = 3; omega), fun e => absurd e (by show ¬ 4 ≤ 0; omega)⟩ ⟨fun _ => rfl, fun e => absurd e (by show ¬ 0 = 6; omega), fun e => absurd e (by show ¬ (0 = 4 ∨ 0 = 5); omega)⟩ (A := pX2_put N 0 ((zI (a : Nat) * 1000) + zI (vLo (wH W) a v : Nat)) ((zI (a : Nat) * 1000) + zI (vHi (wH W) a v : Nat)) 1 S) (by
    rw [show (((wK W).length + 1 : Nat) : Int) - (((wK W).length : Nat) : Int) = 1 by omega, show pcK (0, (a : Int), (v : Int)) = 0 from rfl, show pcL (wH W) (0, (a : Int), (v : Int)) = (a : Int) * 1000 + (vLo (wH W) a v : Nat) from rfl, show pcH (wH W) (0, (a : Int), (v : Int)) = (a : Int) * 1000 + (vHi (wH W) a v : Nat) from rfl]
    show pX2_put N (zI 0) (zI (a : Nat) * zI 1000 + zI (vLo (wH W) a v : Nat)) (zI (a : Nat) * zI 1000 + zI (vHi (wH W) a v : Nat)) (zI 1) S = _
    simp only [zI_mul, zI_add])
  rw [e1, bk_i, bk_i]
  exact ⟨S', rfl, e2, e3⟩
theorem k_atLeast (h : wOk W) (K : kRel S W) {a v : Nat} (ha : a < hA (wH W)) (hv : v < 1000) (q2 : (wK W).length < 8 ∧ (wP W).length < 15) : kOk (pX9_atLeast N (zI (a : Nat)) (zI (v : Nat)) S) (((wK W).length + 1 : Nat) : Int) (wFl W (wP W ++ [(1, (a : Int), (v : Int))]) (wK W ++ [(wP W).length])) := by
  have h10 := h.1.1
  simp only [pX9_atLeast, pX2_putRange]
  rw [g_attribute K.1 h.1 (by omega) (by omega), if_pos (by omega), bx_l, g_value (by omega) (by omega), if_pos (by omega), bx_l, g_roomF K h, if_pos q2, bx_l, q_lowest K.1 (by omega) (by omega), bk_i]
  obtain ⟨S', e1, e2, e3⟩ := k_fin (N := N) (p := (1, (a : Int), (v : Int))) (F := wK W) h K q2.2 q2.1 ⟨[], (List.append_nil _).symm⟩ ⟨by show 1 ≤ 6; omega, fun _ => ⟨by show (0 : Int) ≤ (a : Int); omega, by show (a : Int) < _; omega, by show (0 : Int) ≤ (v : Int); omega, by show (v : Int) < 1000; omega⟩, fun e => absurd e (by show ¬ 1 = 3; omega), fun e => absurd e (by show ¬ 4 ≤ 1; omega)⟩ ⟨fun _ => rfl, fun e => absurd e (by show ¬ 1 = 6; omega), fun e => absurd e (by show ¬ (1 = 4 ∨ 1 = 5); omega)⟩ (A := pX2_put N 0 ((zI (a : Nat) * 1000) + zI (vLo (wH W) a v : Nat)) ((zI (a : Nat) * 1000) + 999) 1 S) (by
    rw [show (((wK W).length + 1 : Nat) : Int) - (((wK W).length : Nat) : Int) = 1 by omega, show pcK (1, (a : Int), (v : Int)) = 0 from rfl, show pcL (wH W) (1, (a : Int), (v : Int)) = (a : Int) * 1000 + (vLo (wH W) a v : Nat) from rfl, show pcH (wH W) (1, (a : Int), (v : Int)) = (a : Int) * 1000 + 999 from rfl]
    show pX2_put N (zI 0) (zI (a : Nat) * zI 1000 + zI (vLo (wH W) a v : Nat)) (zI (a : Nat) * zI 1000 + zI 999) (zI 1) S = _
    simp only [zI_mul, zI_add])
  rw [e1, bk_i, bk_i]
  exact ⟨S', rfl, e2, e3⟩
theorem k_has (h : wOk W) (K : kRel S W) {a : Nat} (ha : a < hA (wH W)) (q2 : (wK W).length < 8 ∧ (wP W).length < 15) : kOk (pX9_has N (zI (a : Nat)) S) (((wK W).length + 1 : Nat) : Int) (wFl W (wP W ++ [(2, (a : Int), 0)]) (wK W ++ [(wP W).length])) := by
  have h10 := h.1.1
  simp only [pX9_has, pX2_putRange]
  rw [g_attribute K.1 h.1 (by omega) (by omega), if_pos (by omega), bx_l, g_roomF K h, if_pos q2, bx_l]
  obtain ⟨S', e1, e2, e3⟩ := k_fin (N := N) (p := (2, (a : Int), 0)) (F := wK W) h K q2.2 q2.1 ⟨[], (List.append_nil _).symm⟩ ⟨by show 2 ≤ 6; omega, fun _ => ⟨by show (0 : Int) ≤ (a : Int); omega, by show (a : Int) < _; omega, by show (0 : Int) ≤ 0; omega, by show (0 : Int) < 1000; omega⟩, fun e => absurd e (by show ¬ 2 = 3; omega), fun e => absurd e (by show ¬ 4 ≤ 2; omega)⟩ ⟨fun _ => rfl, fun e => absurd e (by show ¬ 2 = 6; omega), fun e => absurd e (by show ¬ (2 = 4 ∨ 2 = 5); omega)⟩ (A := pX2_put N 0 ((zI (a : Nat) * 1000) + 0) ((zI (a : Nat) * 1000) + 999) 1 S) (by
    rw [show (((wK W).length + 1 : Nat) : Int) - (((wK W).length : Nat) : Int) = 1 by omega, show pcK (2, (a : Int), 0) = 0 from rfl, show pcL (wH W) (2, (a : Int), 0) = (a : Int) * 1000 from rfl, show pcH (wH W) (2, (a : Int), 0) = (a : Int) * 1000 + 999 from rfl]
    show pX2_put N (zI 0) (zI (a : Nat) * zI 1000 + zI 0) (zI (a : Nat) * zI 1000 + zI 999) (zI 1) S = _
    simp only [zI_mul, zI_add]
    rw [Int.add_zero])
  rw [e1, bk_i, bk_i]
  exact ⟨S', rfl, e2, e3⟩
theorem k_ofClass (h : wOk W) (K : kRel S W) {a : Nat} (ha : a < hC (wH W)) (q2 : (wK W).length < 8 ∧ (wP W).length < 15) : kOk (pX9_ofClass N (zI (a : Nat)) S) (((wK W).length + 1 : Nat) : Int) (wFl W (wP W ++ [(3, (a : Int), 0)]) (wK W ++ [(wP W).length])) := by
  have h8 := h.1.2.1
  simp only [pX9_ofClass, pX2_putClass]
  have hi : hIs (wH W) (a : Int) = true := by unfold hIs; rw [decide_eq_true (show (0 : Int) ≤ (a : Int) by omega), decide_eq_true (show (a : Int) < (hC (wH W) : Int) by omega)]; rfl
  rw [g_class K.1 h.1 (by omega) (by omega), if_pos hi, bx_l, g_roomF K h, if_pos q2, bx_l]
  obtain ⟨S', e1, e2, e3⟩ := k_fin (N := N) (p := (3, (a : Int), 0)) (F := wK W) h K q2.2 q2.1 ⟨[], (List.append_nil _).symm⟩ ⟨by show 3 ≤ 6; omega, fun e => absurd e (by show ¬ 3 ≤ 2; omega), fun _ => ⟨by show (0 : Int) ≤ (a : Int); omega, by show (a : Int) < _; omega⟩, fun e => absurd e (by show ¬ 4 ≤ 3; omega)⟩ ⟨fun _ => rfl, fun e => absurd e (by show ¬ 3 = 6; omega), fun e => absurd e (by show ¬ (3 = 4 ∨ 3 = 5); omega)⟩ (A := pX2_put N 1 (zI (a : Nat)) (zI (a : Nat)) 1 S) (by
    rw [show (((wK W).length + 1 : Nat) : Int) - (((wK W).length : Nat) : Int) = 1 by omega, show pcK (3, (a : Int), 0) = 1 from rfl, show pcL (wH W) (3, (a : Int), 0) = (a : Int) from rfl, show pcH (wH W) (3, (a : Int), 0) = (a : Int) from rfl]
    rfl)
  rw [e1, bk_i, bk_i]
  exact ⟨S', rfl, e2, e3⟩
theorem k_combine (h : wOk W) (K : kRel S W) {x : Int32} {F : List Nat} {u v : Nat} (hK : wK W = F ++ [u, v]) (q2 : (wP W).length < 15) : kOk (pX9_combine N x S) ((F.length + 1 : Nat) : Int) (wFl W (wP W ++ [((if x = 0 then 5 else 4), (u : Int), (v : Int))]) (F ++ [(wP W).length])) := by
  obtain ⟨f1, f2, f3⟩ := K.2.2.1
  obtain ⟨p1, p2, p3, -⟩ := h.2.2.1
  have hlen : (wK W).length = F.length + 2 := by rw [hK, List.length_append]; rfl
  have hF8 : F.length < 8 := by omega
  have hu := p3 u (by rw [hK]; simp)
  have hv := p3 v (by rw [hK]; simp)
  simp only [pX9_combine, pX9_combine_23, pX2_putCombined, pX2_putCombined_10]
  rw [f1, f2, zL_15, zL_2, il_lt (by omega) (by omega) (by omega) (by omega), il_lt (by omega) (by omega) (by omega) (by omega), if_neg (show ¬ ((wK W).length : Int) < 2 by omega), if_pos (show ((wP W).length : Int) < 15 by omega)]
  have fin : ∀ (kk : Nat) (ck : Int), (kk = 4 ∨ kk = 5) → pcK (kk, (u : Int), (v : Int)) = ck → kOk (bk (bk (pX2_put N (zI ck) 0 0 (-1) S) fun v101 S102 => some (v101, S102)) fun v101 S102 => some (.inl v101, S102)) ((F.length + 1 : Nat) : Int) (wFl W (wP W ++ [(kk, (u : Int), (v : Int))]) (F ++ [(wP W).length])) := fun kk ck hk hc => by
    have el : pcL (wH W) (kk, (u : Int), (v : Int)) = 0 := by
      unfold pcL
      rw [if_neg (by show ¬ kk ≤ 1; omega), if_neg (by show ¬ kk = 2; omega), if_neg (by show ¬ kk = 3; omega)]
    have eh : pcH (wH W) (kk, (u : Int), (v : Int)) = 0 := by
      unfold pcH
      rw [if_neg (by show ¬ kk = 0; omega), if_neg (by show ¬ kk ≤ 2; omega), if_neg (by show ¬ kk = 3; omega)]
    obtain ⟨S', e1, e2, e3⟩ := k_fin (N := N) (p := (kk, (u : Int), (v : Int))) (F := F) h K q2 hF8 ⟨[u, v], hK⟩ ⟨by show kk ≤ 6; omega, fun e => absurd e (by show ¬ kk ≤ 2; omega), fun e => absurd e (by show ¬ kk = 3; omega), fun _ => ⟨by show (0 : Int) ≤ (u : Int); omega, by show (u : Int) < _; omega, by show (0 : Int) ≤ (v : Int); omega, fun _ => by show (v : Int) < _; omega⟩⟩ ⟨fun e => absurd e (by show ¬ kk ≤ 3; omega), fun e => absurd e (by show ¬ kk = 6; omega), fun _ => hK⟩ (A := pX2_put N (zI ck) 0 0 (-1) S) (by
      rw [show ((F.length + 1 : Nat) : Int) - (((wK W).length : Nat) : Int) = -1 by omega, hc, el, eh]
      rfl)
    rw [e1, bk_i, bk_i]
    exact ⟨S', rfl, e2, e3⟩
  by_cases qx : x = 0
  · rw [if_pos qx, if_pos qx]
    exact fin 5 3 (Or.inr rfl) rfl
  · rw [if_neg qx, if_neg qx]
    exact fin 4 2 (Or.inl rfl) rfl
theorem k_not (h : wOk W) (K : kRel S W) {F : List Nat} {u : Nat} (hK : wK W = F ++ [u]) (q2 : (wP W).length < 15) : kOk (pX9_not N S) ((F.length + 1 : Nat) : Int) (wFl W (wP W ++ [(6, (u : Int), 0)]) (F ++ [(wP W).length])) := by
  obtain ⟨f1, f2, f3⟩ := K.2.2.1
  obtain ⟨p1, p2, p3, -⟩ := h.2.2.1
  have hlen : (wK W).length = F.length + 1 := by rw [hK, List.length_append]; rfl
  have hu := p3 u (by rw [hK]; simp)
  simp only [pX9_not, pX9_not_23, pX2_putNot]
  rw [f1, f2, zL_15, zL_1, il_lt (by omega) (by omega) (by omega) (by omega), il_lt (by omega) (by omega) (by omega) (by omega), if_neg (show ¬ ((wK W).length : Int) < 1 by omega), if_pos (show ((wP W).length : Int) < 15 by omega)]
  obtain ⟨S', e1, e2, e3⟩ := k_fin (N := N) (p := (6, (u : Int), 0)) (F := F) h K q2 (by omega) ⟨[u], hK⟩ ⟨by show 6 ≤ 6; omega, fun e => absurd e (by show ¬ 6 ≤ 2; omega), fun e => absurd e (by show ¬ 6 = 3; omega), fun _ => ⟨by show (0 : Int) ≤ (u : Int); omega, by show (u : Int) < _; omega, by show (0 : Int) ≤ 0; omega, fun e => absurd e (by show ¬ 6 ≤ 5; omega)⟩⟩ ⟨fun e => absurd e (by show ¬ 6 ≤ 3; omega), fun _ => hK, fun e => absurd e (by show ¬ (6 = 4 ∨ 6 = 5); omega)⟩ (A := pX2_put N 4 0 0 0 S) (by
    rw [show ((F.length + 1 : Nat) : Int) - (((wK W).length : Nat) : Int) = 0 by omega]
    rfl)
  rw [e1, bk_i, bk_i]
  exact ⟨S', rfl, e2, e3⟩
end KB
