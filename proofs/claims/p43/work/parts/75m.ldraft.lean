-- LEVEL 2, THE LAW: DRAFTED VALUES FIT
section LD
variable {N m : Nat} {L : lS} {W : sW}
theorem z_ne1 {x : Int32} (h : x &&& 1 = 1 ∨ x &&& 1 = 0) : True := trivial
theorem lqD (R : lRel L W) {i : Nat} (hi : i < (wD W).length) : aI L 0 (9 + i) = zI ((100 * dA (wD W) i + dV (wD W) i : Nat) : Int) := by
  rw [R.2.2.1.2 i hi, (d_at hi).1, (d_at hi).2]
theorem lqDb (h : lOk W) {i : Nat} (hi : i < (wD W).length) : dA (wD W) i < 3 ∧ dV (wD W) i < 60 := by
  have h1 := h.1.2.1.2 _ (List.getElem_mem hi)
  have h2 := h.2.2.2.2.2.1.2 _ (List.getElem_mem hi)
  rw [(d_at hi).1, (d_at hi).2]
  rw [h.2.1.1] at h1
  exact ⟨h1.1, h2⟩
/-- an earlier drafted value doesn't clash with a later one -/
def dCl (H : sH) (D : List (Nat × Nat)) (j o : Nat) : Prop := dA D o = dA D j → hSg H (dA D j) = false ∧ hKey H (dA D j) (dV D o) ≠ hKey H (dA D j) (dV D j)
theorem lq_drafted_56 (h : lOk W) (R : lRel L W) {c : Nat} (hc : c < (wD W).length) {A : Prop} {x0 x4 : Int32} (K : Int32 → Int32 → Int32 → Int32 → Int32 → lS → Option (Int32 × lS)) : ∀ (n k o : Nat) (b : Bool), o + k = c → k < n → (b = true ↔ A ∧ ∀ q, q < o → dCl (wH W) (wD W) c q) → ∃ b' : Bool, (b' = true ↔ A ∧ ∀ q, q < c → dCl (wH W) (wD W) c q) ∧ pL_drafted_56 N K n x0 (zB b) x4 (zI (c : Nat)) (zI (dA (wD W) c : Nat)) (zI (o : Nat)) L = K x0 (zB b') x4 (zI (c : Nat)) (zI (dA (wD W) c : Nat)) L
  | 0, k, o, b, _, hn, _ => by omega
  | n + 1, k, o, b, hk, hn, hb => by
    have hD := h.2.2.2.2.2.1.1
    simp only [pL_drafted_56, pL_drafted_83, pL_drafted_145, nm_i]
    rw [il_le (by omega) (by omega) (by omega) (by omega)]
    cases k with
    | zero =>
      rw [if_pos (by omega)]
      rw [show o = c by omega] at hb
      exact ⟨b, hb, rfl⟩
    | succ k =>
      have ho : o < (wD W).length := by omega
      obtain ⟨a1, a2⟩ := lqDb h ho
      obtain ⟨c1, c2⟩ := lqDb h hc
      have ih := fun (b2 : Bool) => lq_drafted_56 h R hc (A := A) (x0 := x0) (x4 := x4) K n k (o + 1) b2 (by omega) (by omega)
      have no : (¬ b = true ∨ ¬ dCl (wH W) (wD W) c o) → (false = true ↔ A ∧ ∀ q, q < o + 1 → dCl (wH W) (wD W) c q) := fun g => ⟨fun g2 => Bool.noConfusion g2, fun ⟨g2, g3⟩ => by
        rcases g with g | g
        · exact absurd (hb.mpr ⟨g2, fun q hq => g3 q (by omega)⟩) g
        · exact absurd (g3 o (by omega)) g⟩
      have yes : b = true → dCl (wH W) (wD W) c o → (true = true ↔ A ∧ ∀ q, q < o + 1 → dCl (wH W) (wD W) c q) := fun g g2 => ⟨fun _ => ⟨(hb.mp g).1, fun q hq => by
        by_cases r : q = o
        · rw [r]; exact g2
        · exact (hb.mp g).2 q (by omega)⟩, fun _ => rfl⟩
      rw [if_neg (by omega), z9p, gd_c (by omega) (by omega), zI_cn (by omega), lqD R ho, show (100 : Int32) = zI ((100 : Nat) : Int) from rfl, z_mod (by omega) (by omega) (by omega), show (100 * dA (wD W) o + dV (wD W) o) % 100 = dV (wD W) o by omega, z_div (by omega) (by omega) (by omega), show (100 * dA (wD W) o + dV (wD W) o) / 100 = dA (wD W) o by omega, il_eq (by omega) (by omega) (by omega) (by omega), zs1, il_B]
      by_cases g : dA (wD W) o = dA (wD W) c
      · rw [if_pos (by omega)]
        cases hb' : b with
        | false =>
          rw [if_neg (by decide)]
          exact ih false (no (Or.inl (by rw [hb']; decide)))
        | true =>
          have ek := R.2.2.2.1.1 (dA (wD W) c) c1
          have hlt := lKd_lt (H := wH W) (a := dA (wD W) c)
          have hsg := lKd_sg (H := wH W) (a := dA (wD W) c)
          rw [if_pos rfl, if_neg (show ¬ (1 : Int32) = 0 by decide), z13, gd_c (by omega) (by omega), zI_cn (by omega), ek, show (2 : Int32) = zI ((2 : Nat) : Int) from rfl, z_mod (by omega) (by omega) (by omega), hsg]
          cases hs : hSg (wH W) (dA (wD W) c) with
          | true =>
            rw [if_neg (show ¬ zI ((if true = true then 1 else 0 : Nat) : Int) = 0 by decide)]
            exact ih false (no (Or.inr (fun q => by have := (q g).1; rw [hs] at this; cases this)))
          | false =>
            rw [if_pos (show zI ((if false = true then 1 else 0 : Nat) : Int) = 0 by decide), gd_c (by omega) (by omega)]
            obtain ⟨w, m1, m2⟩ := lq_match (N := N) R.2.2.2.1 c1 a2
            rw [m1, lba_i, z9p, gd_c (by omega) (by omega), zI_cn (by omega), lqD R hc, z_mod (by omega) (by omega) (by omega), show (100 * dA (wD W) c + dV (wD W) c) % 100 = dV (wD W) c by omega, lb_and1 (by omega), m2 _ (by omega)]
            by_cases g2 : hKey (wH W) (dA (wD W) c) (dV (wD W) c) = hKey (wH W) (dA (wD W) c) (dV (wD W) o)
            · rw [decide_eq_true g2, if_pos rfl, if_neg (by decide)]
              exact ih false (no (Or.inr (fun q => (q g).2 g2.symm)))
            · rw [decide_eq_false g2, if_pos (by decide)]
              exact ih true (yes hb' (fun _ => ⟨hs, fun q => g2 q.symm⟩))
      · have cl : dCl (wH W) (wD W) c o := fun q => absurd q g
        rw [if_neg (by omega)]
        cases hb' : b with
        | false =>
          rw [if_pos (show zB false = 0 from rfl)]
          exact ih false (no (Or.inl (by rw [hb']; decide)))
        | true =>
          rw [if_neg (show ¬ zB true = 0 by decide), if_pos trivial]
          exact ih true (yes hb' cl)
theorem lq_drafted_8 (hN : 1000 ≤ N) (h : lOk W) (R : lRel L W) {k0 : Int} (h1 : -1 ≤ k0) (h2 : k0 < 3) (K : Int32 → Int32 → Int32 → lS → Option (Int32 × lS)) : ∀ (n k c : Nat) (b : Bool), c + k = (wD W).length → k < n → (b = true ↔ ∀ j, j < c → dOkI (wH W) (wD W) k0 j) → ∃ b' : Bool, (b' = true ↔ ∀ j, j < (wD W).length → dOkI (wH W) (wD W) k0 j) ∧ pL_drafted_8 N K n (zI k0) (zB b) (dSt (wD W) c) (zI (c : Nat)) L = K (zI k0) (zB b') (dSt (wD W) (wD W).length) L
  | 0, k, c, b, _, hn, _ => by omega
  | n + 1, k, c, b, hk, hn, hb => by
    have hD := h.2.2.2.2.2.1.1
    simp only [pL_drafted_8, pL_drafted_52, nm_i]
    rw [gq8, aq8 R, il_le (by omega) (by omega) (by omega) (by omega)]
    cases k with
    | zero =>
      rw [if_pos (by omega)]
      rw [show c = (wD W).length by omega] at hb ⊢
      exact ⟨b, hb, rfl⟩
    | succ k =>
      have hc : c < (wD W).length := by omega
      obtain ⟨c1, c2⟩ := lqDb h hc
      have go : ∀ b1 : Bool, (b1 = true ↔ (b = true ∧ ib (hAll (wH W) k0) (dA (wD W) c) = true)) → ∃ b' : Bool, (b' = true ↔ ∀ j, j < (wD W).length → dOkI (wH W) (wD W) k0 j) ∧ pL_drafted_56 N (pL_drafted_152 N (pL_drafted_8 N K n)) N (zI k0) (zB b1) (dSt (wD W) c) (zI (c : Nat)) (zI (dA (wD W) c : Nat)) (0 : Int32) L = K (zI k0) (zB b') (dSt (wD W) (wD W).length) L := fun b1 hb1 => by
        obtain ⟨b2, p1, p2⟩ := lq_drafted_56 (N := N) h R hc (A := b1 = true) (x0 := zI k0) (x4 := dSt (wD W) c) (pL_drafted_152 N (pL_drafted_8 N K n)) N c 0 b1 (by omega) (by omega) ⟨fun g => ⟨g, fun q hq => by omega⟩, fun g => g.1⟩
        have p2 : pL_drafted_56 N (pL_drafted_152 N (pL_drafted_8 N K n)) N (zI k0) (zB b1) (dSt (wD W) c) (zI (c : Nat)) (zI (dA (wD W) c : Nat)) (0 : Int32) L = _ := p2
        rw [p2]
        simp only [pL_drafted_152, nm_i]
        rw [zs1]
        refine lq_drafted_8 hN h R h1 h2 K n k (c + 1) b2 (by omega) (by omega) ?_
        rw [p1, hb1, hb]
        constructor
        · rintro ⟨⟨g1, g2⟩, g3⟩ j hj
          by_cases q : j = c
          · rw [q]; exact ⟨g2, fun o ho => g3 o ho⟩
          · exact g1 j (by omega)
        · intro g
          exact ⟨⟨fun j hj => g j (by omega), (g c (by omega)).1⟩, fun o ho => (g c (by omega)).2 o ho⟩
      rw [if_neg (by omega), z9p, gd_c (by omega) (by omega), zI_cn (by omega), lqD R hc, show (100 : Int32) = zI ((100 : Nat) : Int) from rfl, z_div (by omega) (by omega) (by omega), show (100 * dA (wD W) c + dV (wD W) c) / 100 = dA (wD W) c by omega, il_B]
      cases hb' : b with
      | false =>
        rw [if_neg (by decide)]
        exact go false ⟨fun g => Bool.noConfusion g, fun g => by rw [hb'] at g; exact Bool.noConfusion g.1⟩
      | true =>
        rw [if_pos rfl, lq_allows hN R.2.2.2.1 h.2.1.2 h.1.1 h1 h2, lba_i, il_ibit (by omega)]
        by_cases g : ib (hAll (wH W) k0) (dA (wD W) c) = true
        · rw [if_pos g]
          exact go true ⟨fun _ => ⟨hb', g⟩, fun _ => rfl⟩
        · rw [if_neg g]
          exact go false ⟨fun g2 => Bool.noConfusion g2, fun g2 => absurd g2.2 g⟩
theorem lq_drafted (hN : 1000 ≤ N) (h : lOk W) (R : lRel L W) {k0 : Int} (h1 : -1 ≤ k0) (h2 : k0 < 3) : ∃ b : Bool, (b = true ↔ dFit (wH W) (wD W) k0) ∧ pL_drafted N (zI k0) L = some (zB b, L) := by
  have hD := h.2.2.2.2.2.1.1
  obtain ⟨b, p1, p2⟩ := lq_drafted_8 (N := N) hN h R h1 h2 (pL_drafted_167 N) N (wD W).length 0 true (by omega) (by omega) ⟨fun _ j hj => by omega, fun _ => rfl⟩
  have p2 : pL_drafted_8 N (pL_drafted_167 N) N (zI k0) (1 : Int32) (0 : Int32) (0 : Int32) L = _ := p2
  simp only [pL_drafted]
  rw [p2]
  simp only [pL_drafted_167]
  rw [il_B]
  unfold dFit
  cases hb : b with
  | false =>
    rw [if_neg (by decide), zlA_0]
    exact ⟨false, ⟨fun g => Bool.noConfusion g, fun g => by have := p1.mpr g.1; rw [hb] at this; exact this⟩, rfl⟩
  | true =>
    rw [if_pos rfl, lq_requires R.2.2.2.1 h.2.1.2 h.1.1 h1 h2, lba_i]
    by_cases g : hReq (wH W) k0 &&& (dSt (wD W) (wD W).length ^^^ (-1)) = 0
    · rw [if_pos g, zlA_1]
      exact ⟨true, ⟨fun _ => ⟨p1.mp hb, g⟩, fun _ => rfl⟩, rfl⟩
    · rw [if_neg g, zlA_0]
      exact ⟨false, ⟨fun g2 => Bool.noConfusion g2, fun g2 => absurd g2.2 g⟩, rfl⟩
end LD
