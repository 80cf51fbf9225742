-- LEVEL 2, THE LAW: WHAT ITS ROWS SHOW
theorem zL_11 : (11 : Int32) = zI 11 := rfl
theorem zL_13 : (13 : Int32) = zI 13 := rfl
theorem zL_14 : (14 : Int32) = zI 14 := rfl
theorem zL_17 : (17 : Int32) = zI 17 := rfl
theorem zL_18 : (18 : Int32) = zI 18 := rfl
theorem zL_32 : (32 : Int32) = zI 32 := rfl
theorem zL_36 : (36 : Int32) = zI 36 := rfl
theorem zL_41 : (41 : Int32) = zI 41 := rfl
theorem zL_50 : (50 : Int32) = zI 50 := rfl
theorem zL_59 : (59 : Int32) = zI 59 := rfl
theorem zL_60 : (60 : Int32) = zI 60 := rfl
theorem zL_64 : (64 : Int32) = zI 64 := rfl
theorem zL_96 : (96 : Int32) = zI 96 := rfl
theorem zL_128 : (128 : Int32) = zI 128 := rfl
theorem zL_147 : (147 : Int32) = zI 147 := rfl
theorem zL_148 : (148 : Int32) = zI 148 := rfl
theorem zL_1023 : (1023 : Int32) = zI 1023 := rfl
theorem zL_m5 : (-5 : Int32) = zI (-5) := rfl
theorem zL_m7 : (-7 : Int32) = zI (-7) := rfl
theorem zL_m9 : (-9 : Int32) = zI (-9) := rfl
theorem z_mod {a b : Nat} (ha : a < 2147483648) (hb : 0 < b) (hb2 : b < 2147483648) : zI (a : Int) - zI (a : Int) / zI (b : Int) * zI (b : Int) = zI ((a % b : Nat) : Int) := by
  rw [zI_div (by omega) (by omega) (by omega) (by omega), zI_mul, zI_sub]
  congr 1
  have h1 : ((a / b : Nat) : Int) = (a : Int) / (b : Int) := Int.natCast_ediv a b
  have h2 : b * (a / b) + a % b = a := Nat.div_add_mod a b
  have h3 : ((b * (a / b) + a % b : Nat) : Int) = (a : Int) := by rw [h2]
  rw [Int.natCast_add, Int.natCast_mul] at h3
  rw [← h1, Int.mul_comm]
  omega
theorem z_div {a b : Nat} (ha : a < 2147483648) (hb : 0 < b) (hb2 : b < 2147483648) : zI (a : Int) / zI (b : Int) = zI ((a / b : Nat) : Int) := by
  rw [zI_div (by omega) (by omega) (by omega) (by omega)]
  congr 1
/-- the column a of a change -/
def lA (c : sCh) : Int := if cK c = 0 then 100 * cX c + cW c else if cK c = 6 then (if cX c < 324 then cX c else cX c - 216) else cX c
def lW (w : Int64) (D : List (Nat × Nat)) : Prop := (w >>> ((50 : Int32).toInt64 &&& 63)).toInt32 = zI (D.length : Nat) ∧ ∀ j (h : j < D.length), ((w >>> ((zI ((10 * j : Nat) : Int)).toInt64 &&& 63)) &&& (1023 : Int64)).toInt32 = zI ((100 * D[j].1 + D[j].2 : Nat) : Int)
def lCh (L : lS) (i : Nat) (c : sCh) : Prop := aI L 2 i = zI (cR c : Nat) ∧ aI L 3 i = zI (cN c : Nat) ∧ aI L 4 i = zI ((16 * cK c + cE c : Nat) : Int) ∧ (cK c ≠ 8 → aI L 5 i = zI (lA c)) ∧ ((cK c ≤ 3 ∨ cK c = 6) → aI L 6 i = zI (cY c)) ∧ (cK c = 0 → lW (aJ L 7 i) (cV c))
/-- a change of the law's size -/
def lcOk (c : sCh) : Prop := cE c < 12 ∧ (cK c = 0 → cX c < 3 ∧ cY c < 12 ∧ (cV c).length ≤ 4 ∧ ∀ x ∈ cV c, x.1 < 3 ∧ x.2 < 60) ∧ (1 ≤ cK c → cK c ≤ 3 → cX c < 3 ∧ cY c < 60) ∧ (cK c = 4 → 1 ≤ cE c) ∧ (cK c = 5 → cX c < 12 ∨ 100 ≤ cX c) ∧ (cK c = 6 → cX c < 108 ∨ 324 ≤ cX c) ∧ (cK c = 7 → cX c < 12 ∧ 1 ≤ cE c)
/-- nothing speaks of an entry before its ADD -/
def gLo (cs : Nat → sCh) (l : List Nat) : Prop := l.Pairwise (fun a b => cK (cs b) = 0 → cE (cs a) ≠ cE (cs b))
def lKd (H : sH) (a : Nat) : Nat := (if hSg H a then 1 else 0) + (if hTn H a then 2 else 0)
theorem lKd_lt {H : sH} {a : Nat} : lKd H a < 4 := by unfold lKd; split <;> split <;> omega
theorem lKd_tn {H : sH} {a : Nat} : lKd H a ≤ 1 ↔ hTn H a = false := by unfold lKd; cases hSg H a <;> cases hTn H a <;> simp
theorem lKd_sg {H : sH} {a : Nat} : lKd H a % 2 = if hSg H a then 1 else 0 := by unfold lKd; cases hSg H a <;> cases hTn H a <;> simp
def lSc (L : lS) (H : sH) : Prop := (∀ a, a < 3 → aI L 0 (13 + a) = zI (lKd H a : Nat)) ∧ ∀ k, k < 3 → aI L 1 (3 * k) = zI (hPr H k) ∧ hRq H k = aI L 1 (3 * k + 1) ||| hReq H (hPr H k) ∧ hAl H k = (aI L 1 (3 * k + 1) ||| aI L 1 (3 * k + 2)) ||| hAll H (hPr H k)
def lTd (L : lS) (t : Nat → Nat → Nat → Nat) : Prop := ∀ m i j, m < 4 → i < 4 → j < 4 → aI L 8 (16 * m + 4 * i + j) = zI (t m i j : Nat)
def lRel (L : lS) (W : sW) : Prop := (aI L 0 0 = zI (wE W : Nat) ∧ aI L 0 1 = zI (wN W : Nat) ∧ aI L 0 2 = zI (3 : Nat) ∧ aI L 0 3 = zI (3 : Nat)) ∧ (∀ m, m < 4 → aI L 0 (4 + m) = zI (wU W m : Nat)) ∧ (aI L 0 8 = zI ((wD W).length : Nat) ∧ ∀ i (h : i < (wD W).length), aI L 0 (9 + i) = zI ((100 * (wD W)[i].1 + (wD W)[i].2 : Nat) : Int)) ∧ lSc L (wH W) ∧ (∀ m e, m < 4 → e < 12 → ib (aI L 0 (16 + m)) e = wX W m e) ∧ (∀ i (h : i < (wO W).length), lCh L i (wC W (wO W)[i])) ∧ lTd L (wT W)
/-- the law's own room -/
def lOk (W : sW) : Prop := wOk W ∧ (hA (wH W) = 3 ∧ hC (wH W) = 3) ∧ wE W ≤ 12 ∧ wN W ≤ 40 ∧ (∀ m, m < 4 → wU W m < 4) ∧ ((wD W).length ≤ 4 ∧ ∀ x ∈ wD W, x.2 < 60) ∧ (∀ k, k < wN W → lcOk (wC W k)) ∧ gLo (wC W) (wO W)
/-- the laid rows show a tree -/
def sSt (T : sT) (e : Nat) : Int := if tDd T e then 2 else if tTh T e then 1 else 0
def lSr (L : lS) (T : sT) : Prop := ∀ e, e < 12 → aI L 9 (3 * e) = zI (sSt T e) ∧ aI L 9 (3 * e + 1) = zI (tKl T e) ∧ aI L 9 (3 * e + 2) = zI (tPa T e)
def lVs (L : lS) (vs : List (Nat × Nat × Nat)) : Prop := ∀ e a v, e < 12 → a < 3 → v < 64 → lb (aJ L 10 (3 * e + a)) v = decide ((e, a, v) ∈ vs)
def lTr (L : lS) (T : sT) : Prop := lSr L T ∧ lVs L (tVs T)
/-- laying changes the laid rows alone -/
def frL (L L' : lS) : Prop := (∀ k, k ≠ 9 → aI L' k = aI L k) ∧ ∀ k, k ≠ 10 → aJ L' k = aJ L k
theorem frL.rf {L : lS} : frL L L := ⟨fun _ _ => rfl, fun _ _ => rfl⟩
theorem frL.trans {L L1 L2 : lS} (h : frL L L1) (h2 : frL L1 L2) : frL L L2 := ⟨fun k hk => (h2.1 k hk).trans (h.1 k hk), fun k hk => (h2.2 k hk).trans (h.2 k hk)⟩
theorem frL_lCh {L L' : lS} (h : frL L L') {i : Nat} {c : sCh} (C : lCh L i c) : lCh L' i c := by
  unfold lCh
  rw [h.1 2 (by omega), h.1 3 (by omega), h.1 4 (by omega), h.1 5 (by omega), h.1 6 (by omega), h.2 7 (by omega)]
  exact C
theorem frL_lSc {L L' : lS} (h : frL L L') {H : sH} (C : lSc L H) : lSc L' H := by
  unfold lSc
  rw [h.1 0 (by omega), h.1 1 (by omega)]
  exact C
theorem frL_lTd {L L' : lS} (h : frL L L') {t : Nat → Nat → Nat → Nat} (C : lTd L t) : lTd L' t := by
  unfold lTd
  rw [h.1 8 (by omega)]
  exact C
theorem frL_lRel {L L' : lS} (h : frL L L') {W : sW} (R : lRel L W) : lRel L' W := by
  obtain ⟨r1, r2, r3, r4, r5, r6, r7⟩ := R
  have e0 := h.1 0 (by omega)
  refine ⟨by rw [e0]; exact r1, by rw [e0]; exact r2, by rw [e0]; exact r3, frL_lSc h r4, by rw [e0]; exact r5, fun i hi => frL_lCh h (r6 i hi), frL_lTd h r7⟩
/-- a tree of the law's size -/
def lTo (T : sT) : Prop := tW T ∧ (∀ x ∈ tVs T, x.1 < 12 ∧ x.2.1 < 3 ∧ x.2.2 < 60) ∧ (∀ e, e < 48 → tKl T e < 3) ∧ (∀ e, e < 48 → tPa T e < 12) ∧ (∀ e, 12 ≤ e → tTh T e = false) ∧ (tPa T 0 = -1 ∧ tNm T 0 = 0) ∧ ∀ e, e < 48 → 1 ≤ e → tTh T e = true → 0 ≤ tPa T e
theorem sSt_lv {T : sT} {e : Nat} (he : e < 48) : (sSt T e = 1) = (tLv T (e : Nat) = true) := by
  rw [tLv_in he]
  unfold sSt
  cases tDd T e <;> cases tTh T e <;> simp
-- stores
theorem aI_uI_s (L : lS) (k j : Nat) (v : Int32) : aI (uI L k j v) k = upd (aI L k) j v := if_pos rfl
theorem aI_uI_o (L : lS) {k q : Nat} (j : Nat) (v : Int32) (h : q ≠ k) : aI (uI L k j v) q = aI L q := if_neg h
theorem aJ_uI (L : lS) (k j : Nat) (v : Int32) : aJ (uI L k j v) = aJ L := rfl
theorem aJ_uJ_s (L : lS) (k j : Nat) (v : Int64) : aJ (uJ L k j v) k = vp_updL (aJ L k) j v := if_pos rfl
theorem aJ_uJ_o (L : lS) {k q : Nat} (j : Nat) (v : Int64) (h : q ≠ k) : aJ (uJ L k j v) q = aJ L q := if_neg h
theorem aI_uJ (L : lS) (k j : Nat) (v : Int64) : aI (uJ L k j v) = aI L := rfl
theorem slv_i {β : Type} (L : lS) (k : lS → Option β) : slv L k = k L := rfl
theorem lba_i {α β : Type} (v : α) (L : lS) (k : α → lS → Option β) : lba (some (v, L)) k = k v L := rfl
theorem zlA_B (b : Bool) (L : lS) : zlA (zB b) L = some (zB b, L) := if_pos (zB_nar b)
theorem zlA_1 (L : lS) : zlA 1 L = some (zB true, L) := zlA_B true L
theorem zlA_0 (L : lS) : zlA 0 L = some (zB false, L) := zlA_B false L
-- guards of the law's rows
theorem gd_c {β : Type} {j n : Nat} {K : Option β} (h : j < n) (h2 : n < 2147483648) : gd (zI ((j : Nat) : Int)) n K = K := gd_n h h2
section LA
variable {N : Nat} {L : lS} {W : sW}
theorem gq1 {β : Type} {K : Option β} : gd (1 : Int32) 20 K = K := gd_z (z := 1) (by omega) (by omega) (by omega)
theorem gq0 {β : Type} {K : Option β} : gd (0 : Int32) 20 K = K := gd_z (z := 0) (by omega) (by omega) (by omega)
theorem gq2 {β : Type} {K : Option β} : gd (2 : Int32) 20 K = K := gd_z (z := 2) (by omega) (by omega) (by omega)
theorem gq3 {β : Type} {K : Option β} : gd (3 : Int32) 20 K = K := gd_z (z := 3) (by omega) (by omega) (by omega)
theorem gq8 {β : Type} {K : Option β} : gd (8 : Int32) 20 K = K := gd_z (z := 8) (by omega) (by omega) (by omega)
theorem aq0 (R : lRel L W) : aI L 0 (0 : Int32).toNatClampNeg = zI (wE W : Nat) := R.1.1
theorem aq1 (R : lRel L W) : aI L 0 (1 : Int32).toNatClampNeg = zI (wN W : Nat) := R.1.2.1
theorem aq2 (R : lRel L W) : aI L 0 (2 : Int32).toNatClampNeg = zI (3 : Nat) := R.1.2.2.1
theorem aq3 (R : lRel L W) : aI L 0 (3 : Int32).toNatClampNeg = zI (3 : Nat) := R.1.2.2.2
theorem aq8 (R : lRel L W) : aI L 0 (8 : Int32).toNatClampNeg = zI ((wD W).length : Nat) := R.2.2.1.1
theorem z3_0 (e : Nat) : (3 : Int32) * zI (e : Nat) = zI ((3 * e : Nat) : Int) := by rw [zL_3, zI_mul]; rfl
theorem z3_1 (e : Nat) : ((3 : Int32) * zI (e : Nat)) + (1 : Int32) = zI ((3 * e + 1 : Nat) : Int) := by rw [z3_0, zL_1, zI_add]; rfl
theorem z3_2 (e : Nat) : ((3 : Int32) * zI (e : Nat)) + (2 : Int32) = zI ((3 * e + 2 : Nat) : Int) := by rw [z3_0, zL_2, zI_add]; rfl
theorem z3_a (e a : Nat) : ((3 : Int32) * zI (e : Nat)) + zI (a : Nat) = zI ((3 * e + a : Nat) : Int) := by rw [z3_0, zI_add]; rfl
theorem z13 (a : Nat) : (13 : Int32) + zI (a : Nat) = zI ((13 + a : Nat) : Int) := by rw [zL_13, zI_add]; rfl
theorem z4p (a : Nat) : (4 : Int32) + zI (a : Nat) = zI ((4 + a : Nat) : Int) := by rw [zL_4, zI_add]; rfl
theorem z9p (a : Nat) : (9 : Int32) + zI (a : Nat) = zI ((9 + a : Nat) : Int) := by rw [zL_9, zI_add]; rfl
theorem z16p (a : Nat) : (16 : Int32) + zI (a : Nat) = zI ((16 + a : Nat) : Int) := by rw [zL_16, zI_add]; rfl
theorem zs1 (i : Nat) : zI (i : Nat) + (1 : Int32) = zI ((i + 1 : Nat) : Int) := by rw [zL_1, zI_add]; rfl
theorem q_low {x : Int32} {n : Nat} (hn : 0 < n) (hn2 : n < 2147483648) : ∃ r : Nat, r < n ∧ pL_low N x (zI (n : Nat)) L = some (zI (r : Nat), L) := by
  obtain ⟨a, ha, e⟩ : ∃ a : Nat, a < 2147483648 ∧ x &&& (2147483647 : Int32) = zI (a : Nat) := by
    have h1 : 0 ≤ (x &&& (2147483647 : Int32)).toInt := by
      have hm : (x &&& (2147483647 : Int32)).toBitVec.msb = false := by
        rw [Int32.toBitVec_and, BitVec.msb_and]
        have : (2147483647 : Int32).toBitVec.msb = false := by decide
        rw [this, Bool.and_false]
      rw [← Int32.toInt_toBitVec, BitVec.toInt_eq_msb_cond, hm]
      simp
    have h2 := Int32.toInt_lt (x &&& (2147483647 : Int32))
    refine ⟨(x &&& (2147483647 : Int32)).toInt.toNat, by omega, ?_⟩
    rw [Int.toNat_of_nonneg h1]
    exact (zI_self _).symm
  refine ⟨a % n, Nat.mod_lt _ hn, ?_⟩
  simp only [pL_low]
  rw [e, z_mod ha hn hn2]
  unfold gz
  rw [if_neg]
  intro h
  rw [zL_0, zI_eq (by omega) (by omega) (by omega) (by omega)] at h
  omega
theorem q_known {m i : Nat} {c : sCh} {t : Nat → Nat → Nat → Nat} (hm : m < 4) (hi : i < 41) (C : lCh L i c) (hc : cOk c) (hT : lTd L t) (ht : t m m (cM c) < 1000) : pL_known N (zI (m : Nat)) (zI (i : Nat)) L = some (zB (gotB (t m) m c), L) := by
  obtain ⟨c1, c2, -⟩ := C
  have hM := hc.2.2.1
  have hS := hc.2.2.2.2.1
  have hN := hc.2.2.2.1
  have hR : cR c < 2000 := by unfold cR; omega
  have hR4 : cR c % 4 = cM c := by unfold cR; omega
  have e1 : ((20 : Int32) * zI (m : Nat)) + (zI (cR c : Nat) - zI (cR c : Nat) / (4 : Int32) * (4 : Int32)) = zI ((20 * m + cM c : Nat) : Int) := by
    rw [show (4 : Int32) = zI ((4 : Nat) : Int) from rfl, z_mod (by omega) (by omega) (by omega), hR4, zL_20, zI_mul, zI_add]
    rfl
  have e2 := hT m m (cM c) hm hm hM
  rw [show 16 * m + 4 * m + cM c = 20 * m + cM c by omega] at e2
  simp only [pL_known]
  rw [zI_cn (by omega), c1, c2, e1, gd_c hi (by omega), gd_c hi (by omega), gd_c (by omega) (by omega), zI_cn (by omega), e2, il_le (by omega) (by omega) (by omega) (by omega)]
  unfold gotB
  by_cases q : cN c < t m m (cM c)
  · rw [if_neg (by omega), decide_eq_true q, zlA_1]
  · rw [if_pos (by omega), decide_eq_false q, zlA_0]
end LA
