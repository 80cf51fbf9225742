-- LEVEL 2, WHAT BOTH SIDES ARE HELD TO: THE STATE
abbrev sW : Type := sH × List (Nat × Nat) × (List (Nat × Int × Int) × List Nat) × ((Nat → sCh) × Nat × List Nat) × (Nat → Nat → Nat → Nat) × (Nat → Nat → Bool) × (Nat → Nat) × Nat × List Nat
def wH (W : sW) : sH := W.1
def wD (W : sW) : List (Nat × Nat) := W.2.1
def wP (W : sW) : List (Nat × Int × Int) := W.2.2.1.1
def wK (W : sW) : List Nat := W.2.2.1.2
def wC (W : sW) : Nat → sCh := W.2.2.2.1.1
def wN (W : sW) : Nat := W.2.2.2.1.2.1
def wO (W : sW) : List Nat := W.2.2.2.1.2.2
def wT (W : sW) : Nat → Nat → Nat → Nat := W.2.2.2.2.1
def wX (W : sW) : Nat → Nat → Bool := W.2.2.2.2.2.1
def wU (W : sW) : Nat → Nat := W.2.2.2.2.2.2.1
def wE (W : sW) : Nat := W.2.2.2.2.2.2.2.1
def wF (W : sW) : List Nat := W.2.2.2.2.2.2.2.2
def wMk (H : sH) (D : List (Nat × Nat)) (P : List (Nat × Int × Int)) (K : List Nat) (C : Nat → sCh) (n : Nat) (o : List Nat) (t : Nat → Nat → Nat → Nat) (x : Nat → Nat → Bool) (u : Nat → Nat) (e : Nat) (f : List Nat) : sW := (H, D, (P, K), (C, n, o), t, x, u, e, f)
/-- the tree that a master shows -/
def wTr (W : sW) (m : Nat) : sT := shw (wH W) (wC W) (wT W m) m (wO W)
-- filters
def pcK (p : Nat × Int × Int) : Int := if p.1 ≤ 2 then 0 else (p.1 : Int) - 2
def pcL (H : sH) (p : Nat × Int × Int) : Int := if p.1 ≤ 1 then p.2.1 * 1000 + (vLo H p.2.1.toNat p.2.2.toNat : Nat) else if p.1 = 2 then p.2.1 * 1000 else if p.1 = 3 then p.2.1 else 0
def pcH (H : sH) (p : Nat × Int × Int) : Int := if p.1 = 0 then p.2.1 * 1000 + (vHi H p.2.1.toNat p.2.2.toNat : Nat) else if p.1 ≤ 2 then p.2.1 * 1000 + 999 else if p.1 = 3 then p.2.1 else 0
def fcR (S : kS) (H : sH) (P : List (Nat × Int × Int)) (K : List Nat) : Prop := kI S 6 = zI (P.length : Nat) ∧ kI S 7 = zI (K.length : Nat) ∧ ∀ i (h : i < P.length), kA S 8 i = zI (pcK P[i]) ∧ kA S 9 i = zI (pcL H P[i]) ∧ kA S 10 i = zI (pcH H P[i])
def frF (M : mS) (P : List (Nat × Int × Int)) (K : List Nat) : Prop := M.1 11 = zI (P.length : Nat) ∧ M.1 16 = zI (K.length : Nat) ∧ (∀ i (h : i < P.length), M.2 12 i = zI (P[i].1 : Nat) ∧ M.2 13 i = zI P[i].2.1 ∧ M.2 14 i = zI P[i].2.2) ∧ ∀ i (h : i < K.length), M.2 17 i = zI (K[i] : Nat)
/-- a part is in order: of attributes, values, classes, of parts before it -/
def pOk (H : sH) (i : Nat) (p : Nat × Int × Int) : Prop := p.1 ≤ 6 ∧ (p.1 ≤ 2 → 0 ≤ p.2.1 ∧ p.2.1 < (hA H : Int) ∧ 0 ≤ p.2.2 ∧ p.2.2 < 1000) ∧ (p.1 = 3 → 0 ≤ p.2.1 ∧ p.2.1 < (hC H : Int)) ∧ (4 ≤ p.1 → 0 ≤ p.2.1 ∧ p.2.1 < (i : Int) ∧ 0 ≤ p.2.2 ∧ (p.1 ≤ 5 → p.2.2 < (i : Int)))
/-- the filters' parts, as they come and go -/
def stOk (P : List (Nat × Int × Int)) (K : List Nat) : Prop := ∃ σ : Nat → List Nat, (∀ i, (σ i).length ≤ 8) ∧ σ 0 = [] ∧ σ P.length = K ∧ ∀ i (h : i < P.length), (P[i].1 ≤ 3 → σ (i + 1) = σ i ++ [i]) ∧ (P[i].1 = 6 → ∃ s, σ i = s ++ [P[i].2.1.toNat] ∧ σ (i + 1) = s ++ [i]) ∧ (P[i].1 = 4 ∨ P[i].1 = 5 → ∃ s, σ i = s ++ [P[i].2.1.toNat, P[i].2.2.toNat] ∧ σ (i + 1) = s ++ [i])
def fOk (H : sH) (P : List (Nat × Int × Int)) (K : List Nat) : Prop := P.length ≤ 15 ∧ K.length ≤ 8 ∧ (∀ k ∈ K, k < P.length) ∧ (∀ i (h : i < P.length), pOk H i P[i]) ∧ stOk P K
-- changes
def nMk (cs : Nat → sCh) (j : Nat) : Nat → Nat
  | 0 => 0
  | k + 1 => nMk cs j k + if cM (cs k) = j then 1 else 0
/-- a change speaks of what there is -/
def cIn (H : sH) (en : Nat) (c : sCh) : Prop := cE c < en ∧ (cK c = 0 → cX c < (hC H : Int) ∧ cY c < (en : Int) ∧ ∀ x ∈ cV c, x.1 < hA H) ∧ (1 ≤ cK c → cK c ≤ 3 → cX c < (hA H : Int)) ∧ (cK c = 7 → cX c < (en : Int))
def gcOk (H : sH) (cs : Nat → sCh) (n : Nat) (o : List Nat) (en : Nat) : Prop := n ≤ 250 ∧ o.length = n ∧ (∀ k, k ∈ o ↔ k < n) ∧ (∃ ar, gAr cs ar o) ∧ wS cs o ≤ 12 * (en - 1) + n ∧ (∀ k, k < n → cIn H en (cs k)) ∧ (∀ k q, k < n → q < n → cK (cs k) = 0 → cK (cs q) = 0 → cE (cs k) = cE (cs q) → k = q) ∧ (∀ k, k < n → cN (cs k) = nMk cs (cM (cs k)) k) ∧ (∀ k, k < n → 1 ≤ cS (cs k) ∧ cS (cs k) ≤ k + 1) ∧ (∀ k q, k < q → q < n → cM (cs k) = cM (cs q) → cS (cs k) < cS (cs q))
def tlOk (cs : Nat → sCh) (n : Nat) (t : Nat → Nat → Nat → Nat) : Prop := ∀ m i j, m < 4 → i < 4 → j < 4 → t m i j ≤ t i i j ∧ t i i j ≤ nMk cs j n ∧ t m m m = nMk cs m n
/-- what is required are attributes that there are -/
def hQ (H : sH) : Prop := ∀ k, k < hC H → ∀ a, hA H ≤ a → a < 32 → ib (hRq H k) a = false
def wOk (W : sW) : Prop := hW (wH W) ∧ ((wD W).length ≤ 12 ∧ ∀ x ∈ wD W, x.1 < hA (wH W) ∧ x.2 < 1000) ∧ fOk (wH W) (wP W) (wK W) ∧ gcOk (wH W) (wC W) (wN W) (wO W) (wE W) ∧ tlOk (wC W) (wN W) (wT W) ∧ (∀ m, m < 4 → wU W m < 6) ∧ (1 ≤ wE W ∧ wE W ≤ 48) ∧ ((wF W).length ≤ 192 ∧ ∀ s ∈ wF W, s < 400) ∧ hQ (wH W)
/-- the class shows the state -/
def kRel (S : kS) (W : sW) : Prop := hR S (wH W) ∧ (kI S 5 = zI ((wD W).length : Nat) ∧ ∀ i (h : i < (wD W).length), kA S 6 i = zI (((wD W)[i].1 * 1000 + (wD W)[i].2 : Nat) : Int)) ∧ fcR S (wH W) (wP W) (wK W) ∧ (kn S = wN W ∧ ∀ k, k < wN W → cRS S k (wC W k)) ∧ (lgR S (wO W) ∧ ∀ k j, kC S k = some j → j < km S) ∧ (∀ m, m < 4 → tdR S m (wT W m)) ∧ (∀ m, m < 4 → kI S (17 + 4 * m) = zI (wU W m : Nat)) ∧ (∀ m, m < 4 → kI S (18 + 4 * m) = zI (gst (wT W m) m (wC W) (wN W) : Nat)) ∧ (∀ m e, m < 4 → e < 64 → lb (kL S m) e = (decide (e < 48) && wX W m e)) ∧ kI S 0 = zI (wE W : Nat) ∧ (∀ m, m < 4 → tR S m (wTr W m)) ∧ kA S (26 + 15 * 4 + 5) 0 = zI 0 ∧ (kI S 8 = zI ((wF W).length : Nat) ∧ ∀ i (h : i < (wF W).length), kA S 14 i = zI ((wF W)[i] : Nat))
/-- the reference shows the state -/
def mRel (M : mS) (W : sW) : Prop := rSc M (wH W) ∧ (M.1 8 = zI ((wD W).length : Nat) ∧ ∀ i (h : i < (wD W).length), M.2 9 i = zI ((wD W)[i].1 : Nat) ∧ M.2 10 i = zI ((wD W)[i].2 : Nat)) ∧ frF M (wP W) (wK W) ∧ rCs M (wC W) (wN W) ∧ (∀ i (h : i < (wO W).length), M.2 36 i = zI ((wO W)[i] : Nat)) ∧ rVw M (wT W) ∧ (∀ m, m < 4 → M.2 18 m = zI (wU W m : Nat)) ∧ (∀ m e, m < 4 → e < 48 → M.2 20 (48 * m + e) = zB (wX W m e)) ∧ M.1 21 = zI (wE W : Nat) ∧ rWh M (wH W) (wC W) (wT W) (wO W) ∧ (M.1 52 = zI ((wF W).length : Nat) ∧ ∀ i (h : i < (wF W).length), M.2 53 i = zI ((wF W)[i] : Nat)) ∧ (∃ f : Nat, M.1 31 = zI (f : Nat) ∧ f ≤ 12 * (wE W - 1) ∧ ∀ k, k < wN W → cK (wC W k) = 0 → ∃ t : Nat, M.2 33 k = zI (t : Nat) ∧ t ≤ f)
section WS
variable {W : sW}
theorem wTr_ok (h : wOk W) (m : Nat) : tW (wTr W m) ∧ (tVs (wTr W m)).length ≤ 12 * (wE W - 1) + wN W ∧ tBn (wTr W m) 0 = 0 := by
  obtain ⟨-, -, -, ⟨g1, g2, g3, ⟨ar, g4⟩, g5, -⟩, -⟩ := h
  obtain ⟨a, b, c⟩ := shw_ok (H := wH W) (tl := wT W m) (m := m) g4
  refine ⟨a, ?_, c⟩
  have : wS (wC W) (knl (wT W m) m (wC W) (wO W)) ≤ wS (wC W) (wO W) := wS_filter
  unfold wTr
  omega
theorem kRel_t {S : kS} (h : wOk W) (R : kRel S W) {m : Nat} (hm : m < 4) : tOk S m (wTr W m) := ⟨R.2.2.2.2.2.2.2.2.2.2.1 m hm, (wTr_ok h m).1⟩
theorem rCs_or {M : mS} {cs : Nat → sCh} {n : Nat} {o : List Nat} (C : rCs M cs n) (h1 : o.length = n) (h2 : ∀ k, k ∈ o ↔ k < n) (h3 : ∀ i (h : i < o.length), M.2 36 i = zI (o[i] : Nat)) : rOr M cs o := by
  obtain ⟨c1, c2, c3⟩ := C
  exact ⟨by rw [h1]; exact c1, by omega, h3, fun k hk => ⟨by have := (h2 k).mp hk; omega, (c3 k ((h2 k).mp hk)).1, (c3 k ((h2 k).mp hk)).2⟩⟩
/-- laying keeps what the reference shows -/
theorem mRel_l {M M' : mS} (R : mRel M W) (f : rfL M M') (hw : rWh M' (wH W) (wC W) (wT W) (wO W)) : mRel M' W := by
  obtain ⟨r1, ⟨r2, r3⟩, ⟨r4, r5, r6, r7⟩, ⟨r8, r9, r10⟩, r11, r12, r13, r14, r15, r16, ⟨r17, r18⟩, ⟨q, r19, r20⟩⟩ := R
  refine ⟨rSc_l f r1, ⟨by rw [f.1 _ (by omega) (by omega)]; exact r2, by rw [f.2 9 (by omega), f.2 10 (by omega)]; exact r3⟩, ⟨by rw [f.1 _ (by omega) (by omega)]; exact r4, by rw [f.1 _ (by omega) (by omega)]; exact r5, by rw [f.2 12 (by omega), f.2 13 (by omega), f.2 14 (by omega)]; exact r6, by rw [f.2 17 (by omega)]; exact r7⟩, ⟨by rw [f.1 _ (by omega) (by omega)]; exact r8, r9, fun k hk => ⟨rCh_l f (r10 k hk).1, (r10 k hk).2⟩⟩, by rw [f.2 36 (by omega)]; exact r11, rVw_l f r12, by rw [f.2 18 (by omega)]; exact r13, by rw [f.2 20 (by omega)]; exact r14, by rw [f.1 _ (by omega) (by omega)]; exact r15, hw, ⟨by rw [f.1 _ (by omega) (by omega)]; exact r17, by rw [f.2 53 (by omega)]; exact r18⟩, ⟨q, by rw [f.1 _ (by omega) (by omega)]; exact r19, r20.1, by rw [f.2 33 (by omega)]; exact r20.2⟩⟩
theorem w_lays {N : Nat} (hN : 20000 ≤ N) {M : mS} (h : wOk W) (R : mRel M W) {m : Nat} (hm : m < 4) : ∃ M', pf_lays N (zI (m : Nat)) M = some ((0 : Int32), M') ∧ rLd M' (wTr W m) ∧ M'.1 37 = zI (m : Nat) ∧ mRel M' W ∧ rfL M M' := by
  obtain ⟨-, -, -, ⟨g1, g2, g3, ⟨ar, g4⟩, g5, -⟩, -, -, ⟨g7, g8⟩, -⟩ := h
  obtain ⟨r1, -, -, r8, r11, r12, -, -, -, r16, -⟩ := id R
  obtain ⟨M', e1, L, e2, f⟩ := r_lays (N := N) (ar := ar) hN hm r1 (rCs_or r8 g2 g3 r11) r12 r16 g4 (by omega)
  exact ⟨M', e1, L, e2, mRel_l R f (Or.inr ⟨m, hm, e2, L⟩), f⟩
/-- an entry at a master -/
theorem w_isAt {N : Nat} (hN : 20000 ≤ N) {M : mS} (h : wOk W) (R : mRel M W) {x y : Int} (h1 : -2147483648 ≤ x) (h2 : x < 2147483648) (h3 : -2147483648 ≤ y) (h4 : y < 2147483648) : ∃ M', mRel M' W ∧ rfL M M' ∧ ((¬ (0 ≤ x ∧ x < 4) ∧ pf_isAt N (zI x) (zI y) M = some (zB false, M')) ∨ ∃ m : Nat, m < 4 ∧ x = m ∧ pf_isAt N (zI x) (zI y) M = some (zB (tLv (wTr W m) y), M') ∧ rLd M' (wTr W m) ∧ M'.1 37 = zI (m : Nat)) := by
  simp only [pf_isAt]
  rw [r_isMaster h1 h2, bs_i, il_B]
  by_cases q : 0 ≤ x ∧ x < 4
  · obtain ⟨m, rfl⟩ : ∃ m : Nat, x = m := ⟨x.toNat, by omega⟩
    obtain ⟨M', e1, L, e2, R', f⟩ := w_lays hN h R (show m < 4 by omega)
    rw [if_pos (by rw [decide_eq_true (show 0 ≤ (m : Int) by omega), decide_eq_true (show (m : Int) ≤ 3 by omega)]; rfl), e1, bd_i, r_isLive L.1 h3 h4, bd_i, zr_B]
    exact ⟨M', R', f, Or.inr ⟨m, by omega, rfl, rfl, L, e2⟩⟩
  · rw [if_neg (by rw [Bool.and_eq_true, decide_eq_true_eq, decide_eq_true_eq]; omega)]
    exact ⟨M, R, rfL.rf, Or.inl ⟨q, rfl⟩⟩
/-- the reference's note of what is thrown -/
theorem mRel_0 {M : mS} {v : Int32} (R : mRel M W) : mRel (mI M 0 v) W := by
  obtain ⟨⟨a1, a2, a3⟩, ⟨r2, r3⟩, ⟨r4, r5, r6, r7⟩, ⟨r8, r9, r10⟩, r11, r12, r13, r14, r15, r16, ⟨r17, r18⟩, ⟨q, r19, r20⟩⟩ := R
  have u : ∀ k, k ≠ 0 → (mI M 0 v).1 k = M.1 k := fun k hk => upd_o _ _ hk
  refine ⟨⟨by rw [u _ (by omega)]; exact a1, by rw [u _ (by omega)]; exact a2, a3⟩, ⟨by rw [u _ (by omega)]; exact r2, r3⟩, ⟨by rw [u _ (by omega)]; exact r4, by rw [u _ (by omega)]; exact r5, r6, r7⟩, ⟨by rw [u _ (by omega)]; exact r8, r9, r10⟩, r11, r12, r13, r14, by rw [u _ (by omega)]; exact r15, ?_, ⟨by rw [u _ (by omega)]; exact r17, r18⟩, ⟨q, by rw [u _ (by omega)]; exact r19, r20⟩⟩
  rcases r16 with r16 | ⟨m, h1, h2, ⟨L1, L2, L3, L4⟩⟩
  · exact Or.inl (by rw [u _ (by omega)]; exact r16)
  · refine Or.inr ⟨m, h1, by rw [u _ (by omega)]; exact h2, ⟨?_, L2, L3, L4⟩⟩
    obtain ⟨t1, t2, t3, t4, t5, t6, ⟨t7, t8, t9⟩, t10⟩ := L1
    exact ⟨t1, t2, t3, t4, t5, t6, ⟨by rw [u _ (by omega)]; exact t7, t8, t9⟩, t10⟩
end WS
