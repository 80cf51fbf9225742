-- LEVEL 2, THE LAW: THE SCHEMA IS LAID
section LST
variable {N n9 : Nat} {xs9 : Nat → Int32}
/-- what the law's rows show while the schema is laid -/
def sP0 (L : lS) : Prop := aI L 0 0 = 1 ∧ (∀ i, i = 1 ∨ (4 ≤ i ∧ i < 13) ∨ 16 ≤ i → aI L 0 i = 0) ∧ (aI L 8 = fun _ => 0)
/-- the class's state -/
def sPW (S : kS) (H : sH) : Prop := wOk (wSc W00 H) ∧ kRel S (wSc W00 H)
def sPa (L : lS) (H : sH) (c : Nat) : Prop := ∀ a, a < c → aI L 0 (13 + a) = zI (lKd H a : Nat)
/-- parents -/
def sPp (L : lS) (x : Nat → Int) (c : Nat) : Prop := ∀ k, k < c → aI L 1 (3 * k) = zI (x k) ∧ -1 ≤ x k ∧ x k < (k : Int)
/-- classes -/
def sPc (L : lS) (H : sH) (x : Nat → Int) (c : Nat) : Prop := ∀ k, k < c → hPr H k = x k ∧ hRq H k = aI L 1 (3 * k + 1) ||| hReq H (x k) ∧ hAl H k = (aI L 1 (3 * k + 1) ||| aI L 1 (3 * k + 2)) ||| hAll H (x k)
theorem lKd_at {H : sH} {r : Nat} (hr : r < 4) {a : Nat} (ha : a ≤ hA H) : lKd (hAt H (decide (r % 2 = 1)) (decide (1 < r))) a = if a = hA H then r else lKd H a := by
  show (if upf (hSg H) (hA H) (decide (r % 2 = 1)) a = true then 1 else 0) + (if upf (hTn H) (hA H) (decide (1 < r)) a = true then 2 else 0) = _
  by_cases g : a = hA H
  · rw [if_pos g, g, upf_s, upf_s]
    rcases (show r = 0 ∨ r = 1 ∨ r = 2 ∨ r = 3 by omega) with rfl | rfl | rfl | rfl <;> rfl
  · rw [if_neg g, upf_o _ _ g, upf_o _ _ g]
    rfl
theorem aJU (L : lS) (k j : Nat) (v : Int32) (q : Nat) : aJ (uI L k j v) q = aJ L q := rfl
theorem sP0_u {L : lS} (h : sP0 L) {k i : Nat} {v : Int32} (hk : k = 1 ∨ (k = 0 ∧ (i = 2 ∨ i = 3 ∨ (13 ≤ i ∧ i < 16)))) : sP0 (uI L k i v) := by
  obtain ⟨h1, h2, h3⟩ := h
  refine ⟨?_, fun q hq => ?_, ?_⟩
  · rw [aU, if_neg (by omega)]; exact h1
  · rw [aU, if_neg (by omega)]; exact h2 q hq
  · rw [aI_uI_o _ _ _ (by omega)]; exact h3
/-- one attribute more -/
theorem lq_180 {S : kS} {L : lS} {H : sH} {c r C D : Nat} (hw : sPW S H) (hH : hA H = c) (hc : c < 3) (hr : r < 4) (hCm : C + 1 ≤ 600074) (hDm : D + 6 ≤ 7301550) (K : Int32 → kS → lS → Nat → Nat → Option (Int32 × kS × lS)) : ∃ S', pL_law_180 N n9 xs9 K (zB (decide (1 < r))) (zB (decide (r % 2 = 1))) (zI (c : Nat)) S L C D = K (zI ((c + 1 : Nat) : Int)) S' L (C + 1) (D + 6) ∧ sPW S' (hAt H (decide (r % 2 = 1)) (decide (1 < r))) := by
  obtain ⟨w, kr⟩ := hw
  obtain ⟨S1, a1, a2, a3⟩ := k_attribute (N := N) w kr (b1 := decide (r % 2 = 1)) (b2 := decide (1 < r)) (by show hA H < 10; omega)
  have a1 : pX9_attribute N (zB (decide (r % 2 = 1))) (zB (decide (1 < r))) S = some (.inl (zI (hA H : Nat)), S1) := a1
  simp only [pL_law_180, nm_i]
  rw [a1, lbx_i (by omega), hH, if_pos rfl, zs1]
  exact ⟨S1, rfl, a2, a3⟩
theorem lq_144 {S : kS} {L : lS} {H : sH} {c r C D : Nat} {x : Nat → Int} {y : Int} (hw : sPW S H) (hH : hA H = c) (hc : c < 3) (hr : r < 4) (hCm : C + 1 ≤ 600074) (hDm : D + 6 ≤ 7301550) (h0 : sP0 L) (ha : sPa L H c) (hp : sPp L x c) (e13 : aI L 0 (13 + c) = zI (r : Nat)) (hy : -1 ≤ y ∧ y < (c : Int)) (K : Int32 → kS → lS → Nat → Nat → Option (Int32 × kS × lS)) : ∃ S' L', pL_law_144 N n9 xs9 K (zI y) (zI ((3 * c : Nat) : Int)) (zI (c : Nat)) S L C D = K (zI ((c + 1 : Nat) : Int)) S' L' (C + 1) (D + 6) ∧ sPW S' (hAt H (decide (r % 2 = 1)) (decide (1 < r))) ∧ sP0 L' ∧ sPa L' (hAt H (decide (r % 2 = 1)) (decide (1 < r))) (c + 1) ∧ sPp L' (upf x c y) (c + 1) := by
  simp only [pL_law_144, slv_i]
  rw [gd_c (by omega) (by omega), zI_cn (by omega), z13, gd_c (by omega) (by omega), zI_cn (by omega)]
  generalize hL1 : uI L 1 (3 * c) (zI y) = L1
  have e0 : ∀ i, aI L1 0 i = aI L 0 i := fun i => by rw [← hL1, aU, if_neg (by omega)]
  have f13 : aI L1 0 (13 + c) = zI (r : Nat) := by rw [e0]; exact e13
  have h01 : sP0 L1 := by rw [← hL1]; exact sP0_u h0 (Or.inl rfl)
  obtain ⟨S1, a1, a2⟩ := lq_180 (N := N) (n9 := n9) (xs9 := xs9) (L := L1) hw hH hc hr hCm hDm K
  have fin : sPa L1 (hAt H (decide (r % 2 = 1)) (decide (1 < r))) (c + 1) ∧ sPp L1 (upf x c y) (c + 1) := by
    refine ⟨fun a hac => ?_, fun k hk => ?_⟩
    · rw [lKd_at hr (by omega), hH, e0]
      by_cases g : a = c
      · rw [if_pos g, g]; exact e13
      · rw [if_neg g]; exact ha a (by omega)
    · rw [← hL1, aU]
      by_cases g : k = c
      · subst g
        rw [if_pos ⟨rfl, rfl⟩, upf_s]
        exact ⟨rfl, hy⟩
      · rw [if_neg (by omega), upf_o _ _ g]
        exact hp k (by omega)
  refine ⟨S1, L1, ?_, a2, h01, fin⟩
  have e164 : ∀ b : Bool, pL_law_164 N n9 xs9 K (zB b) (zI (c : Nat)) S L1 C D = pL_law_180 N n9 xs9 K (zB (decide (1 < r))) (zB b) (zI (c : Nat)) S L1 C D := fun b => by
    unfold pL_law_164
    rw [z13, gd_c (by omega) (by omega), zI_cn (by omega), f13, zL_1, il_le (by omega) (by omega) (by omega) (by omega)]
    by_cases g : 1 < r
    · rw [if_neg (by omega), decide_eq_true g]; rfl
    · rw [if_pos (by omega), decide_eq_false g]; rfl
  rw [f13, show (2 : Int32) = zI ((2 : Nat) : Int) from rfl, z_mod (by omega) (by omega) (by omega)]
  rw [← a1]
  by_cases g : r % 2 = 1
  · rw [if_pos (by rw [g]; rfl)]
    have := e164 true
    rw [show zB true = (1 : Int32) from rfl] at this
    rw [this, decide_eq_true g]; rfl
  · rw [if_neg (show ¬ zI ((r % 2 : Nat) : Int) = (1 : Int32) from nk g (by omega) (j := 1) (by omega))]
    have := e164 false
    rw [show zB false = (0 : Int32) from rfl] at this
    rw [this, decide_eq_false g]; rfl
theorem lq_90 (hn : n9 ≤ 260) (K : kS → lS → Nat → Nat → Option (Int32 × kS × lS)) : ∀ (n k c : Nat) (S : kS) (L : lS) (H : sH) (x : Nat → Int) (C D : Nat), c + k = 3 → k < n → sPW S H → hA H = c → hC H = 0 → sP0 L → sPa L H c → sPp L x c → C + k ≤ 600074 → D + 6 * k ≤ 7301550 → ∃ S' L' H' x', pL_law_90 N n9 xs9 K n (zI (c : Nat)) S L C D = K S' L' (C + k) (D + 6 * k) ∧ sPW S' H' ∧ hA H' = 3 ∧ hC H' = 0 ∧ sP0 L' ∧ sPa L' H' 3 ∧ sPp L' x' 3
  | 0, k, c, S, L, H, x, C, D, _, hk, _, _, _, _, _, _, _, _ => by omega
  | n + 1, 0, c, S, L, H, x, C, D, hck, hk, hw, hH, hC0, h0, ha, hp, hCm, hDm => by
    have hc : c = 3 := by omega
    subst hc
    unfold pL_law_90
    rw [if_pos (show (3 : Int32) ≤ zI ((3 : Nat) : Int) by decide)]
    exact ⟨S, L, H, x, rfl, hw, hH, hC0, h0, ha, hp⟩
  | n + 1, k + 1, c, S, L, H, x, C, D, hck, hk, hw, hH, hC0, h0, ha, hp, hCm, hDm => by
    obtain ⟨v, hv⟩ := scr_some (xs9 := xs9) hn (k := c) (by omega)
    obtain ⟨r, hr, l1⟩ := q_low (N := N) (L := L) (x := v) (n := 4) (by omega) (by omega)
    have l1 : pL_low N v (4 : Int32) L = _ := l1
    unfold pL_law_90
    rw [if_neg (show ¬ (3 : Int32) ≤ zI (c : Nat) by rw [zL_3, zI_le (by omega) (by omega) (by omega) (by omega)]; omega), hv, lbc_i, l1, lba_i, z13, gd_c (by omega) (by omega), slv_i, zI_cn (by omega)]
    have h01 : sP0 (uI L 0 (13 + c) (zI (r : Nat))) := sP0_u h0 (Or.inr ⟨rfl, by omega⟩)
    have ha1 : sPa (uI L 0 (13 + c) (zI (r : Nat))) H c := fun a hac => by rw [aU, if_neg (by omega)]; exact ha a hac
    have hp1 : sPp (uI L 0 (13 + c) (zI (r : Nat))) x c := fun q hq => by rw [aI_uI_o _ _ _ (by omega)]; exact hp q hq
    have e13 : aI (uI L 0 (13 + c) (zI (r : Nat))) 0 (13 + c) = zI (r : Nat) := by rw [aU, if_pos ⟨rfl, rfl⟩]
    generalize uI L 0 (13 + c) (zI (r : Nat)) = L1 at *
    have fin : ∀ y : Int, -1 ≤ y ∧ y < (c : Int) → ∃ S' L' H' x', pL_law_144 N n9 xs9 (pL_law_90 N n9 xs9 K n) (zI y) (zI ((3 * c : Nat) : Int)) (zI (c : Nat)) S L1 C D = K S' L' (C + (k + 1)) (D + 6 * (k + 1)) ∧ sPW S' H' ∧ hA H' = 3 ∧ hC H' = 0 ∧ sP0 L' ∧ sPa L' H' 3 ∧ sPp L' x' 3 := fun y hy => by
      obtain ⟨S2, L2, b1, b2, b3, b4, b5⟩ := lq_144 (N := N) (n9 := n9) (xs9 := xs9) (C := C) (D := D) hw hH (by omega) hr (by omega) (by omega) h01 ha1 hp1 e13 hy (pL_law_90 N n9 xs9 K n)
      obtain ⟨S3, L3, H3, x3, c1, c2⟩ := lq_90 hn K n k (c + 1) S2 L2 (hAt H (decide (r % 2 = 1)) (decide (1 < r))) (upf x c y) (C + 1) (D + 6) (by omega) (by omega) b2 (by show hA H + 1 = c + 1; omega) hC0 b3 b4 b5 (by omega) (by omega)
      refine ⟨S3, L3, H3, x3, ?_, c2⟩
      rw [b1, c1, show C + 1 + k = C + (k + 1) by omega, show D + 6 + 6 * k = D + 6 * (k + 1) by omega]
    rw [z3_0]
    by_cases g : zI (c : Nat) = (0 : Int32)
    · rw [if_pos g, zL_m1]
      exact fin (-1) (by omega)
    · rw [if_neg g]
      obtain ⟨y, hy, l2⟩ := q_low (N := N) (L := L1) (x := v >>> ((2 : Int32) &&& 31)) (n := c + 1) (by omega) (by omega)
      rw [zs1, l2, lba_i, zL_1, zI_sub]
      exact fin ((y : Int) - 1) (by omega)
/-- one class more -/
theorem ib_m8 : ∀ r, r < 8 → ∀ i, i < 32 → 3 ≤ i → ib (zI ((r : Nat) : Int)) i = false := by decide +kernel
theorem ib_m3 : ∀ r, r < 3 → ∀ i, i < 32 → 3 ≤ i → ib ((1 : Int32) <<< (zI ((r : Nat) : Int) &&& 31)) i = false := by decide +kernel
theorem lq_249 {S : kS} {L : lS} {H : sH} {c C D : Nat} {x : Nat → Int} {y z0 : Int32} (hw : sPW S H) (hH : hA H = 3) (hc0 : hC H = c) (hc : c < 3) (hCm : C + 2 ≤ 600074) (hDm : D + 12 ≤ 7301550) (h0 : sP0 L) (ha : sPa L H 3) (hp : sPp L x 3) (hk : sPc L H x c) (hy : ∀ i, 3 ≤ i → i < 32 → ib y i = false) (K : Int32 → kS → lS → Nat → Nat → Option (Int32 × kS × lS)) : ∃ S' L' H', pL_law_249 N n9 xs9 K y (zI ((3 * c + 1 : Nat) : Int)) (zI (c : Nat)) z0 S L C D = K (zI ((c + 1 : Nat) : Int)) S' L' (C + 2) (D + 12) ∧ sPW S' H' ∧ hA H' = 3 ∧ hC H' = c + 1 ∧ sP0 L' ∧ sPa L' H' 3 ∧ sPp L' x 3 ∧ sPc L' H' x (c + 1) ∧ aI L' 0 = aI L 0 := by
  obtain ⟨w, kr⟩ := hw
  simp only [pL_law_249, slv_i, nm_i]
  obtain ⟨r, hr, l1⟩ := q_low (N := N) (L := uI L 1 (3 * c + 1) y) (x := z0 >>> ((4 : Int32) &&& 31)) (n := 8) (by omega) (by omega)
  have l1 : pL_low N (z0 >>> ((4 : Int32) &&& 31)) (8 : Int32) (uI L 1 (3 * c + 1) y) = _ := l1
  rw [gd_c (by omega) (by omega), zI_cn (by omega), l1, lba_i, z3_2, z3_1, z3_0, gd_c (by omega) (by omega), gd_c (by omega) (by omega), gd_c (by omega) (by omega), gd_c (by omega) (by omega), zI_cn (by omega), zI_cn (by omega), zI_cn (by omega)]
  obtain ⟨p1, p2, p3⟩ := hp c hc
  have f0 : aI (uI (uI L 1 (3 * c + 1) y) 1 (3 * c + 2) (zI (r : Nat))) 1 (3 * c) = zI (x c) := by rw [aU, if_neg (by omega), aU, if_neg (by omega)]; exact p1
  have f1 : aI (uI (uI L 1 (3 * c + 1) y) 1 (3 * c + 2) (zI (r : Nat))) 1 (3 * c + 1) = y := by rw [aU, if_neg (by omega), aU, if_pos ⟨rfl, rfl⟩]
  have f2 : aI (uI (uI L 1 (3 * c + 1) y) 1 (3 * c + 2) (zI (r : Nat))) 1 (3 * c + 2) = zI (r : Nat) := by rw [aU, if_pos ⟨rfl, rfl⟩]
  have fo : ∀ i, i < 3 * c + 1 ∨ 3 * c + 2 < i → aI (uI (uI L 1 (3 * c + 1) y) 1 (3 * c + 2) (zI (r : Nat))) 1 i = aI L 1 i := fun i hi => by rw [aU, if_neg (by omega), aU, if_neg (by omega)]
  have fk : aI (uI (uI L 1 (3 * c + 1) y) 1 (3 * c + 2) (zI (r : Nat))) 0 = aI L 0 := by rw [aI_uI_o _ _ _ (by omega), aI_uI_o _ _ _ (by omega)]
  have h01 : sP0 (uI (uI L 1 (3 * c + 1) y) 1 (3 * c + 2) (zI (r : Nat))) := sP0_u (sP0_u h0 (Or.inl rfl)) (Or.inl rfl)
  generalize uI (uI L 1 (3 * c + 1) y) 1 (3 * c + 2) (zI (r : Nat)) = L1 at *
  obtain ⟨S1, a1, a2, a3⟩ := k_objectClass (N := N) w kr (x := x c) (y := y) (z := zI (r : Nat)) (by show -1 ≤ x c ∧ x c < (hC H : Int); omega) (isS_iff.mpr (fun i h1 h2 => hy i (by have h1 : hA H ≤ i := h1; omega) h2)) (isS_iff.mpr (fun i h1 h2 => ib_m8 r hr i h2 (by have h1 : hA H ≤ i := h1; omega))) (by show hC H < 8; omega)
  have a1 : pX9_objectClass N (zI (x c)) y (zI (r : Nat)) S = some (.inl (zI (hC H : Nat)), S1) := a1
  rw [f0, f1, f2, a1, lbx_i (by omega), hc0, if_pos rfl, zs1]
  have old : ∀ q : Int, q < (c : Int) → hReq (hCl H (x c) y (zI (r : Nat))) q = hReq H q ∧ hAll (hCl H (x c) y (zI (r : Nat))) q = hAll H q := fun q hq => by
    have hi : hIs (hCl H (x c) y (zI (r : Nat))) q = hIs H q := by
      show (decide (0 ≤ q) && decide (q < ((hC H + 1 : Nat) : Int))) = (decide (0 ≤ q) && decide (q < (hC H : Int)))
      rw [decide_eq_true (show q < ((hC H + 1 : Nat) : Int) by omega), decide_eq_true (show q < (hC H : Int) by omega)]
    by_cases g : hIs H q = true
    · have g2 : 0 ≤ q := by
        unfold hIs at g
        rw [Bool.and_eq_true, decide_eq_true_eq, decide_eq_true_eq] at g
        exact g.1
      have hne : q.toNat ≠ hC H := by omega
      constructor
      · unfold hReq
        rw [hi, if_pos g, if_pos g]
        exact upf_o _ _ hne
      · unfold hAll
        rw [hi, if_pos g, if_pos g]
        exact upf_o _ _ hne
    · unfold hReq hAll
      rw [hi, if_neg g, if_neg g, if_neg g, if_neg g]
      exact ⟨rfl, rfl⟩
  refine ⟨S1, L1, hCl H (x c) y (zI (r : Nat)), rfl, ⟨a2, a3⟩, hH, (by show hC H + 1 = c + 1; omega), h01, fun a hac => ?_, fun q hq => ?_, fun q hq => ?_, fk⟩
  · rw [fk]; exact ha a hac
  · rw [fo _ (by omega)]; exact hp q hq
  · have px := hp q (by omega)
    obtain ⟨o1, o2⟩ := old (x q) (by omega)
    rw [o1, o2]
    show upf (hPr H) (hC H) (x c) q = x q ∧ upf (hRq H) (hC H) (y ||| hReq H (x c)) q = _ ∧ upf (hAl H) (hC H) ((y ||| zI (r : Nat)) ||| hAll H (x c)) q = _
    rw [hc0]
    by_cases g : q = c
    · subst g
      rw [upf_s, upf_s, upf_s, f1, f2]
      exact ⟨rfl, rfl, rfl⟩
    · rw [upf_o _ _ g, upf_o _ _ g, upf_o _ _ g, fo _ (by omega), fo _ (by omega)]
      exact hk q (by omega)
theorem lq_203 (hn : n9 ≤ 260) (K : kS → lS → Nat → Nat → Option (Int32 × kS × lS)) {x : Nat → Int} : ∀ (n k c : Nat) (S : kS) (L : lS) (H : sH) (C D : Nat), c + k = 3 → k < n → sPW S H → hA H = 3 → hC H = c → sP0 L → sPa L H 3 → sPp L x 3 → sPc L H x c → C + 2 * k ≤ 600074 → D + 12 * k ≤ 7301550 → ∃ S' L' H', pL_law_203 N n9 xs9 K n (zI (c : Nat)) S L C D = K S' L' (C + 2 * k) (D + 12 * k) ∧ sPW S' H' ∧ hA H' = 3 ∧ hC H' = 3 ∧ sP0 L' ∧ sPa L' H' 3 ∧ sPp L' x 3 ∧ sPc L' H' x 3 ∧ aI L' 0 = aI L 0
  | 0, k, c, S, L, H, C, D, _, hk, _, _, _, _, _, _, _, _, _ => by omega
  | n + 1, 0, c, S, L, H, C, D, hck, hk, hw, hH, hC0, h0, ha, hp, hq, hCm, hDm => by
    have hc : c = 3 := by omega
    subst hc
    unfold pL_law_203
    rw [if_pos (show (3 : Int32) ≤ zI ((3 : Nat) : Int) by decide)]
    exact ⟨S, L, H, rfl, hw, hH, hC0, h0, ha, hp, hq, rfl⟩
  | n + 1, k + 1, c, S, L, H, C, D, hck, hk, hw, hH, hC0, h0, ha, hp, hq, hCm, hDm => by
    obtain ⟨v, hv⟩ := scr_some (xs9 := xs9) hn (k := 3 + c) (by omega)
    obtain ⟨r, hr, l1⟩ := q_low (N := N) (L := L) (x := v) (n := 3) (by omega) (by omega)
    have l1 : pL_low N v (3 : Int32) L = _ := l1
    have e3 : (3 : Int32) + zI (c : Nat) = zI ((3 + c : Nat) : Int) := by rw [zL_3, zI_add]; rfl
    unfold pL_law_203
    rw [if_neg (show ¬ (3 : Int32) ≤ zI (c : Nat) by rw [zL_3, zI_le (by omega) (by omega) (by omega) (by omega)]; omega), e3, hv, lbc_i, l1, lba_i, z3_1]
    have fin : ∀ y : Int32, (∀ i, 3 ≤ i → i < 32 → ib y i = false) → ∃ S' L' H', pL_law_249 N n9 xs9 (pL_law_203 N n9 xs9 K n) y (zI ((3 * c + 1 : Nat) : Int)) (zI (c : Nat)) v S L C D = K S' L' (C + 2 * (k + 1)) (D + 12 * (k + 1)) ∧ sPW S' H' ∧ hA H' = 3 ∧ hC H' = 3 ∧ sP0 L' ∧ sPa L' H' 3 ∧ sPp L' x 3 ∧ sPc L' H' x 3 ∧ aI L' 0 = aI L 0 := fun y hy => by
      obtain ⟨S2, L2, H2, b1, b2, b3, b4, b5, b6, b7, b8, b9⟩ := lq_249 (N := N) (n9 := n9) (xs9 := xs9) (z0 := v) (C := C) (D := D) hw hH hC0 (by omega) (by omega) (by omega) h0 ha hp hq hy (pL_law_203 N n9 xs9 K n)
      obtain ⟨S3, L3, H3, c1, c2, c3, c4, c5, c6, c7, c8, c9⟩ := lq_203 hn K n k (c + 1) S2 L2 H2 (C + 2) (D + 12) (by omega) (by omega) b2 b3 b4 b5 b6 b7 b8 (by omega) (by omega)
      refine ⟨S3, L3, H3, ?_, c2, c3, c4, c5, c6, c7, c8, c9.trans b9⟩
      rw [b1, c1, show C + 2 + 2 * k = C + 2 * (k + 1) by omega, show D + 12 + 12 * k = D + 12 * (k + 1) by omega]
    by_cases g : zI (r : Nat) = (0 : Int32)
    · obtain ⟨r2, hr2, l2⟩ := q_low (N := N) (L := L) (x := v >>> ((2 : Int32) &&& 31)) (n := 3) (by omega) (by omega)
      have l2 : pL_low N (v >>> ((2 : Int32) &&& 31)) (3 : Int32) L = _ := l2
      rw [if_pos g, l2, lba_i]
      exact fin _ (fun i h1 h2 => ib_m3 r2 hr2 i h2 h1)
    · rw [if_neg g]
      exact fin 0 (fun i h1 h2 => ib_0 i)
end LST
