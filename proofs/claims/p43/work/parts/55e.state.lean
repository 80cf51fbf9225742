-- LEVEL 2, WHAT BOTH SIDES ARE HELD TO: THE STATE
abbrev sW : Type := sH × List (Nat × Nat) × (List (Nat × Int × Int) × List Nat) × ((Nat → sCh) × Nat × List Nat) × (Nat → Nat → Nat → Nat) × (Nat → Nat → Bool) × (Nat → Nat) × Nat × List Nat
def wH (W : sW) : sH := W.1
def wD (W : sW) : List (Nat × Nat) := W.2.1
def wP (W : sW) : List (Nat × Int × Int) := W.2.2.1.1
def wK (W : sW) : List Nat := W.2.2.1.2
def wC (W : sW) : Nat → sCh := W.2.2.2.1.1
def wN (W : sW) : Nat := W.2.2.2.1.2.1
def wO (W : sW) : List Nat := W.2.2.2.1.2.2
def wT (W : sW) : Nat → Nat → Nat → Nat := W.2.2.2.2.1
def wX (W : sW) : Nat → Nat → Bool := W.2.2.2.2.2.1
def wU (W : sW) : Nat → Nat := W.2.2.2.2.2.2.1
def wE (W : sW) : Nat := W.2.2.2.2.2.2.2.1
def wF (W : sW) : List Nat := W.2.2.2.2.2.2.2.2
def wMk (H : sH) (D : List (Nat × Nat)) (P : List (Nat × Int × Int)) (K : List Nat) (C : Nat → sCh) (n : Nat) (o : List Nat) (t : Nat → Nat → Nat → Nat) (x : Nat → Nat → Bool) (u : Nat → Nat) (e : Nat) (f : List Nat) : sW := (H, D, (P, K), (C, n, o), t, x, u, e, f)
/-- the tree that a master shows -/
def wTr (W : sW) (m : Nat) : sT := shw (wH W) (wC W) (wT W m) m (wO W)
-- filters
def pcK (p : Nat × Int × Int) : Int := if p.1 ≤ 2 then 0 else (p.1 : Int) - 2
def pcL (H : sH) (p : Nat × Int × Int) : Int := if p.1 ≤ 1 then p.2.1 * 1000 + (vLo H p.2.1.toNat p.2.2.toNat : Nat) else if p.1 = 2 then p.2.1 * 1000 else if p.1 = 3 then p.2.1 else 0
def pcH (H : sH) (p : Nat × Int × Int) : Int := if p.1 = 0 then p.2.1 * 1000 + (vHi H p.2.1.toNat p.2.2.toNat : Nat) else if p.1 ≤ 2 then p.2.1 * 1000 + 999 else if p.1 = 3 then p.2.1 else 0
def fcR (S : kS) (H : sH) (P : List (Nat × Int × Int)) (K : List Nat) : Prop := kI S 6 = zI (P.length : Nat) ∧ kI S 7 = zI (K.length : Nat) ∧ ∀ i (h : i < P.length), kA S 8 i = zI (pcK P[i]) ∧ kA S 9 i = zI (pcL H P[i]) ∧ kA S 10 i = zI (pcH H P[i])
/-- a part is in order: of attributes, values, classes, of parts before it -/
def pOk (H : sH) (i : Nat) (p : Nat × Int × Int) : Prop := p.1 ≤ 6 ∧ (p.1 ≤ 2 → 0 ≤ p.2.1 ∧ p.2.1 < (hA H : Int) ∧ 0 ≤ p.2.2 ∧ p.2.2 < 1000) ∧ (p.1 = 3 → 0 ≤ p.2.1 ∧ p.2.1 < (hC H : Int)) ∧ (4 ≤ p.1 → 0 ≤ p.2.1 ∧ p.2.1 < (i : Int) ∧ 0 ≤ p.2.2 ∧ (p.1 ≤ 5 → p.2.2 < (i : Int)))
/-- the filters' parts, as they come and go -/
def stOk (P : List (Nat × Int × Int)) (K : List Nat) : Prop := ∃ σ : Nat → List Nat, (∀ i, (σ i).length ≤ 8) ∧ σ 0 = [] ∧ σ P.length = K ∧ ∀ i (h : i < P.length), (P[i].1 ≤ 3 → σ (i + 1) = σ i ++ [i]) ∧ (P[i].1 = 6 → ∃ s, σ i = s ++ [P[i].2.1.toNat] ∧ σ (i + 1) = s ++ [i]) ∧ (P[i].1 = 4 ∨ P[i].1 = 5 → ∃ s, σ i = s ++ [P[i].2.1.toNat, P[i].2.2.toNat] ∧ σ (i + 1) = s ++ [i])
def fOk (H : sH) (P : List (Nat × Int × Int)) (K : List Nat) : Prop := P.length ≤ 15 ∧ K.length ≤ 8 ∧ (∀ k ∈ K, k < P.length) ∧ (∀ i (h : i < P.length), pOk H i P[i]) ∧ stOk P K
-- changes
def nMk (cs : Nat → sCh) (j : Nat) : Nat → Nat
  | 0 => 0
  | k + 1 => nMk cs j k + if cM (cs k) = j then 1 else 0
/-- a change speaks of what there is -/
def cIn (H : sH) (en : Nat) (c : sCh) : Prop := cE c < en ∧ (cK c = 0 → cX c < (hC H : Int) ∧ cY c < (en : Int) ∧ ∀ x ∈ cV c, x.1 < hA H) ∧ (1 ≤ cK c → cK c ≤ 3 → cX c < (hA H : Int)) ∧ (cK c = 7 → cX c < (en : Int))
def gcOk (H : sH) (cs : Nat → sCh) (n : Nat) (o : List Nat) (en : Nat) : Prop := n ≤ 250 ∧ o.length = n ∧ (∀ k, k ∈ o ↔ k < n) ∧ (∃ ar, gAr cs ar o) ∧ wS cs o ≤ 12 * (en - 1) + n ∧ (∀ k, k < n → cIn H en (cs k)) ∧ (∀ k q, k < n → q < n → cK (cs k) = 0 → cK (cs q) = 0 → cE (cs k) = cE (cs q) → k = q) ∧ (∀ k, k < n → cN (cs k) = nMk cs (cM (cs k)) k) ∧ (∀ k, k < n → 1 ≤ cS (cs k) ∧ cS (cs k) ≤ k + 1) ∧ (∀ k q, k < q → q < n → cM (cs k) = cM (cs q) → cS (cs k) < cS (cs q))
def tlOk (cs : Nat → sCh) (n : Nat) (t : Nat → Nat → Nat → Nat) : Prop := ∀ m i j, m < 4 → i < 4 → j < 4 → t m i j ≤ t i i j ∧ t i i j ≤ nMk cs j n ∧ t m m m = nMk cs m n
/-- what is required are attributes that there are -/
def hQ (H : sH) : Prop := ∀ k, k < hC H → ∀ a, hA H ≤ a → a < 32 → ib (hRq H k) a = false
def wOk (W : sW) : Prop := hW (wH W) ∧ ((wD W).length ≤ 12 ∧ ∀ x ∈ wD W, x.1 < hA (wH W) ∧ x.2 < 1000) ∧ fOk (wH W) (wP W) (wK W) ∧ gcOk (wH W) (wC W) (wN W) (wO W) (wE W) ∧ tlOk (wC W) (wN W) (wT W) ∧ (∀ m, m < 4 → wU W m < 6) ∧ (1 ≤ wE W ∧ wE W ≤ 48) ∧ ((wF W).length ≤ 192 ∧ ∀ s ∈ wF W, s < 400) ∧ hQ (wH W)
/-- the class shows the state -/
def kRel (S : kS) (W : sW) : Prop := hR S (wH W) ∧ (kI S 5 = zI ((wD W).length : Nat) ∧ ∀ i (h : i < (wD W).length), kA S 6 i = zI (((wD W)[i].1 * 1000 + (wD W)[i].2 : Nat) : Int)) ∧ fcR S (wH W) (wP W) (wK W) ∧ (kn S = wN W ∧ ∀ k, k < wN W → cRS S k (wC W k)) ∧ (lgR S (wO W) ∧ ∀ k j, kC S k = some j → j < km S) ∧ (∀ m, m < 4 → tdR S m (wT W m)) ∧ (∀ m, m < 4 → kI S (17 + 4 * m) = zI (wU W m : Nat)) ∧ (∀ m, m < 4 → kI S (18 + 4 * m) = zI (gst (wT W m) m (wC W) (wN W) : Nat)) ∧ (∀ m e, m < 4 → e < 64 → lb (kL S m) e = (decide (e < 48) && wX W m e)) ∧ kI S 0 = zI (wE W : Nat) ∧ (∀ m, m < 4 → tR S m (wTr W m)) ∧ kA S (26 + 15 * 4 + 5) 0 = zI 0 ∧ (kI S 8 = zI ((wF W).length : Nat) ∧ ∀ i (h : i < (wF W).length), kA S 14 i = zI ((wF W)[i] : Nat))
section WS
variable {W : sW}
theorem wTr_ok (h : wOk W) (m : Nat) : tW (wTr W m) ∧ (tVs (wTr W m)).length ≤ 12 * (wE W - 1) + wN W ∧ tBn (wTr W m) 0 = 0 := by
  obtain ⟨-, -, -, ⟨g1, g2, g3, ⟨ar, g4⟩, g5, -⟩, -⟩ := h
  obtain ⟨a, b, c⟩ := shw_ok (H := wH W) (tl := wT W m) (m := m) g4
  refine ⟨a, ?_, c⟩
  have : wS (wC W) (knl (wT W m) m (wC W) (wO W)) ≤ wS (wC W) (wO W) := wS_filter
  unfold wTr
  omega
theorem kRel_t {S : kS} (h : wOk W) (R : kRel S W) {m : Nat} (hm : m < 4) : tOk S m (wTr W m) := ⟨R.2.2.2.2.2.2.2.2.2.2.1 m hm, (wTr_ok h m).1⟩
end WS
