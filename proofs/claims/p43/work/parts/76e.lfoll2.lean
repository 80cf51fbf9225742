-- LEVEL 2, THE LAW: FOLLOWS
section LFP
variable {N m : Nat} {W : sW} {z : Int32}
theorem lpF_pre {u sc : Nat} : ∀ (f : Nat) (met : Nat → Nat → Bool) (st F : List Nat), ∃ t, lpF W u sc f met st F = F ++ t
  | 0, _, _, F => ⟨[], (List.append_nil F).symm⟩
  | _ + 1, _, [], F => ⟨[], (List.append_nil F).symm⟩
  | f + 1, met, x :: st, F => by
    obtain ⟨t, ht⟩ := lpF_pre f (arr W 193 met (x / 100) (x % 100)).1 (nxS W sc (arr W 193 met (x / 100) (x % 100)).2 st) (nxF W u (arr W 193 met (x / 100) (x % 100)).2 F)
    have e : lpF W u sc (f + 1) met (x :: st) F = lpF W u sc f (arr W 193 met (x / 100) (x % 100)).1 (nxS W sc (arr W 193 met (x / 100) (x % 100)).2 st) (nxF W u (arr W 193 met (x / 100) (x % 100)).2 F) := rfl
    rw [e, ht]
    generalize (arr W 193 met (x / 100) (x % 100)).2 = r
    match r with
    | none => exact ⟨t, rfl⟩
    | some (a, b) =>
      show ∃ t', (if lok W u a b = true then F ++ [100 * a + b] else F) ++ t = F ++ t'
      split
      · exact ⟨[100 * a + b] ++ t, List.append_assoc _ _ _⟩
      · exact ⟨t, rfl⟩
/-- one round of the law's loop; the first one is told apart -/
def itS (W : sW) (sc : Nat) (fb : Bool) (r : Option (Nat × Nat)) (st : List Nat) : List Nat := match r with
  | none => st
  | some (a, b) => if sc = 2 ∨ (sc = 1 ∧ fb = true) then kds W a b ++ st else st
def itF (W : sW) (u sc : Nat) (fb : Bool) (r : Option (Nat × Nat)) (F : List Nat) : List Nat := match r with
  | none => F
  | some (a, b) => if ¬ (fb = true ∧ sc = 1) ∧ lok W u a b = true then F ++ [100 * a + b] else F
/-- what the loop keeps -/
def FI (L : lS) (W : sW) (met : Nat → Nat → Bool) (st F : List Nat) : Prop := lRel L W ∧ oR L met ∧ stR L st ∧ (∀ x ∈ st, x / 100 < 4 ∧ x % 100 < 12) ∧ F.length + st.length + phi W met ≤ 45
theorem lq_f_328 (hN : 1000 ≤ N) (h : lOk W) {L : lS} {a b : Nat} (ha : a < 4) (hb : b < 12) (R : lRel L W) (Q : lTr L (wTr W a)) {S : kS} {C D : Nat} {x1 x16 x17 x18 x19 x22 x24 : Int32} {st : List Nat} {sc : Nat} (hsc : sc < 3) {fb : Bool} (hst : st.length ≤ 46) (hS : stR L st) (K : Int32 → Int32 → Int32 → Int32 → Int32 → Int32 → Int32 → Int32 → Int32 → Int32 → Int32 → kS → lS → Nat → Nat → Option (Int32 × kS × lS)) : ∃ L', pL_follows_328 N K x1 x16 x17 x18 x19 (zI (sc : Nat)) x22 (zI (st.length : Nat)) x24 (zB fb) (1 : Int32) (zI ((100 * a + b : Nat) : Int)) (zI (b : Nat)) S L C D = K x1 x16 x17 x18 x19 (zI (sc : Nat)) x22 (zI ((itS W sc fb (some (a, b)) st).length : Nat)) x24 (0 : Int32) (1 : Int32) S L' C D ∧ frO L L' ∧ aI L' 11 = aI L 11 ∧ stR L' (itS W sc fb (some (a, b)) st) := by
  have hlen := kid_len h ha (b : Nat)
  simp only [pL_follows_328]
  by_cases g : sc = 2 ∨ (sc = 1 ∧ fb = true)
  · have e : itS W sc fb (some (a, b)) st = kds W a b ++ st := if_pos g
    rw [e]
    have c0 := kid_ok h.1 (b : Nat) (m := a)
    have hW := (wTr_ok h.1 a).1
    have en : nCt (kidL (wTr W a) (b : Nat) 48) ((148 * 48 : Nat) : Int) = (kidL (wTr W a) (b : Nat) 48).length := by
      unfold nCt
      rw [List.countP_eq_length]
      intro x hx
      obtain ⟨f, f1, f2, f3, f4⟩ := (c0.2.2 x).mp hx
      have := tSh_rg hW f2
      unfold tRk at f4
      rw [decide_eq_true_eq, f4]
      omega
    have ed : ((kidL (wTr W a) (b : Nat) 48).drop (nCt (kidL (wTr W a) (b : Nat) 48) ((148 * 48 : Nat) : Int))).map (spt a) ++ st = st := by
      rw [en, List.drop_length]; rfl
    obtain ⟨L', q1, q2, q3, q4⟩ := lq_fpush (N := N) hN h ha hb (S := S) (C := C) (D := D) (x1 := x1) (x16 := x16) (x17 := x17) (x18 := x18) (x19 := x19) (x21 := zI (sc : Nat)) (x22 := x22) (x24 := x24) (x25 := zB fb) (x26 := 1) (st := st) (by omega) (by
      rcases g with g | ⟨g, g2⟩
      · exact Or.inl (by rw [g]; rfl)
      · exact Or.inr ⟨by rw [g]; rfl, by rw [g2]; decide⟩) (pL_follows_512 N K) N 148 L (by omega) (by omega) R Q (by rw [ed]; exact hS)
    rw [ed] at q1
    have q1 : pL_follows_333 N (pL_follows_512 N K) N x1 x16 x17 x18 x19 (zI (sc : Nat)) x22 (zI (st.length : Nat)) x24 (zB fb) (1 : Int32) (zI ((100 * a + b : Nat) : Int)) (zI (b : Nat)) (147 : Int32) S L C D = _ := q1
    refine ⟨L', ?_, q2, q3, q4⟩
    rw [q1]
    simp only [pL_follows_512]
  · have e : itS W sc fb (some (a, b)) st = st := if_neg g
    rw [e]
    obtain ⟨n, rfl⟩ : ∃ n, N = n + 1 := ⟨N - 1, by omega⟩
    refine ⟨L, ?_, frO_rf, rfl, hS⟩
    have q1 : ¬ zI ((100 * a + b : Nat) : Int) < (0 : Int32) := by
      rw [zL_0, zI_lt (by omega) (by omega) (by omega) (by omega)]
      omega
    simp only [pL_follows_333, pL_follows_512]
    rw [if_neg (show ¬ (147 : Int32) < 0 by decide), if_neg q1, if_neg (show ¬ zI (sc : Nat) = (2 : Int32) from nk (fun q => g (Or.inl q)) (by omega) (j := 2) (by omega))]
    by_cases g1 : sc = 1
    · have : fb = false := by
        cases hf : fb with
        | false => rfl
        | true => exact absurd (Or.inr ⟨g1, hf⟩) g
      rw [if_pos (show zI (sc : Nat) = (1 : Int32) by rw [g1]; rfl), this, if_pos (show zB false = 0 from rfl)]
    · rw [if_neg (show ¬ zI (sc : Nat) = (1 : Int32) from nk g1 (by omega) (j := 1) (by omega))]
theorem lq_f_head {form a v kl sc : Nat} {S : kS} {L L1 : lS} {C D n : Nat} {x22 : Int32} {fb : Bool} {x w f9 : Nat} {r : Int} (hw : w < 60) (ex : aI L 12 w = zI (x : Nat)) (p1 : pL_arrives N (zI (x : Nat)) L = some (zI r, L1)) (K : Int32 → Int32 → Int32 → kS → lS → Nat → Nat → Option (Int32 × kS × lS)) : pL_follows_176 N K (n + 1) (zI (m : Nat)) (zI (form : Nat)) (zI (a : Nat)) (zI (v : Nat)) (zI (kl : Nat)) (zI (sc : Nat)) x22 (zI ((w + 1 : Nat) : Int)) (zI (f9 : Nat)) (zB fb) (1 : Int32) S L C D = (if zI r < (0 : Int32) then pL_follows_328 N (pL_follows_176 N K n) (zI (m : Nat)) (zI (form : Nat)) (zI (a : Nat)) (zI (v : Nat)) (zI (kl : Nat)) (zI (sc : Nat)) x22 (zI (w : Nat)) (zI (f9 : Nat)) (zB fb) (1 : Int32) (zI r) (zI r - zI r / (100 : Int32) * (100 : Int32)) S L1 C D else (if zB fb = 0 then pL_follows_243 N (pL_follows_176 N K n) (zI (m : Nat)) (zI (form : Nat)) (zI (a : Nat)) (zI (v : Nat)) (zI (kl : Nat)) (zI (sc : Nat)) x22 (zI (w : Nat)) (zI (f9 : Nat)) (zB fb) (1 : Int32) (zI r) (zI r - zI r / (100 : Int32) * (100 : Int32)) S L1 C D else (if zI (sc : Nat) = (1 : Int32) then pL_follows_328 N (pL_follows_176 N K n) (zI (m : Nat)) (zI (form : Nat)) (zI (a : Nat)) (zI (v : Nat)) (zI (kl : Nat)) (zI (sc : Nat)) x22 (zI (w : Nat)) (zI (f9 : Nat)) (zB fb) (1 : Int32) (zI r) (zI r - zI r / (100 : Int32) * (100 : Int32)) S L1 C D else pL_follows_243 N (pL_follows_176 N K n) (zI (m : Nat)) (zI (form : Nat)) (zI (a : Nat)) (zI (v : Nat)) (zI (kl : Nat)) (zI (sc : Nat)) x22 (zI (w : Nat)) (zI (f9 : Nat)) (zB fb) (1 : Int32) (zI r) (zI r - zI r / (100 : Int32) * (100 : Int32)) S L1 C D))) := by
  have e1 : zI ((w + 1 : Nat) : Int) + (-1 : Int32) = zI (w : Nat) := by
    rw [zm1]
    congr 1
    omega
  have e2 : ¬ zI ((w + 1 : Nat) : Int) ≤ (0 : Int32) := by
    rw [zL_0, zI_le (by omega) (by omega) (by omega) (by omega)]
    omega
  have e0 : pL_follows_176 N K (n + 1) (zI (m : Nat)) (zI (form : Nat)) (zI (a : Nat)) (zI (v : Nat)) (zI (kl : Nat)) (zI (sc : Nat)) x22 (zI ((w + 1 : Nat) : Int)) (zI (f9 : Nat)) (zB fb) (1 : Int32) S L C D = if zI ((w + 1 : Nat) : Int) ≤ (0 : Int32) then K x22 (zI (f9 : Nat)) (1 : Int32) S L C D else if (1 : Int32) = (0 : Int32) then K x22 (zI (f9 : Nat)) (1 : Int32) S L C D else nm (zI ((w + 1 : Nat) : Int) + (-1 : Int32)) fun y101 => gd y101 64 (lba (pL_arrives N (aI L 12 y101.toNatClampNeg) L) fun v102 L103 => nm (v102 - v102 / (100 : Int32) * (100 : Int32)) fun y104 => if v102 < (0 : Int32) then pL_follows_328 N (pL_follows_176 N K n) (zI (m : Nat)) (zI (form : Nat)) (zI (a : Nat)) (zI (v : Nat)) (zI (kl : Nat)) (zI (sc : Nat)) x22 y101 (zI (f9 : Nat)) (zB fb) (1 : Int32) v102 y104 S L103 C D else if zB fb = (0 : Int32) then pL_follows_243 N (pL_follows_176 N K n) (zI (m : Nat)) (zI (form : Nat)) (zI (a : Nat)) (zI (v : Nat)) (zI (kl : Nat)) (zI (sc : Nat)) x22 y101 (zI (f9 : Nat)) (zB fb) (1 : Int32) v102 y104 S L103 C D else if zI (sc : Nat) = (1 : Int32) then pL_follows_328 N (pL_follows_176 N K n) (zI (m : Nat)) (zI (form : Nat)) (zI (a : Nat)) (zI (v : Nat)) (zI (kl : Nat)) (zI (sc : Nat)) x22 y101 (zI (f9 : Nat)) (zB fb) (1 : Int32) v102 y104 S L103 C D else pL_follows_243 N (pL_follows_176 N K n) (zI (m : Nat)) (zI (form : Nat)) (zI (a : Nat)) (zI (v : Nat)) (zI (kl : Nat)) (zI (sc : Nat)) x22 y101 (zI (f9 : Nat)) (zB fb) (1 : Int32) v102 y104 S L103 C D) := rfl
  rw [e0, if_neg e2, if_neg (show ¬ (1 : Int32) = 0 by decide), nm_i, e1, gd_c (by omega) (by omega), zI_cn (by omega), ex, p1, lba_i, nm_i]
/-- what a round comes to -/
def itG (o : Option (Int32 × kS × lS)) (N n m form a v kl sc : Nat) (x22 : Int32) (K : Int32 → Int32 → Int32 → kS → lS → Nat → Nat → Option (Int32 × kS × lS)) (W : sW) (Ft : List Nat) (met' : Nat → Nat → Bool) (st2 F2 : List Nat) (B : Nat) : Prop := ∃ S' L', o = pL_follows_176 N K n (zI (m : Nat)) (zI (form : Nat)) (zI (a : Nat)) (zI (v : Nat)) (zI (kl : Nat)) (zI (sc : Nat)) x22 (zI (st2.length : Nat)) (zI (F2.length : Nat)) (0 : Int32) (1 : Int32) S' L' (23 + 11 * F2.length) (507 + 435 * F2.length) ∧ kRel S' (wFd W Ft) ∧ FI L' W met' st2 F2 ∧ st2.length + phi W met' + 1 ≤ B
theorem lq_f_none (hN : 20000 ≤ N) {Ft : List Nat} {form a v kl sc : Nat} {S : kS} {L1 : lS} {n : Nat} {x22 : Int32} {fb : Bool} {met' : Nat → Nat → Bool} {st F : List Nat} {B : Nat} (k2 : kRel S (wFd W Ft)) (I : FI L1 W met' st F) (hB : st.length + phi W met' + 1 ≤ B) {y : Int32} (K : Int32 → Int32 → Int32 → kS → lS → Nat → Nat → Option (Int32 × kS × lS)) : itG (pL_follows_328 N (pL_follows_176 N K n) (zI (m : Nat)) (zI (form : Nat)) (zI (a : Nat)) (zI (v : Nat)) (zI (kl : Nat)) (zI (sc : Nat)) x22 (zI (st.length : Nat)) (zI (F.length : Nat)) (zB fb) (1 : Int32) (-1 : Int32) y S L1 (23 + 11 * F.length) (507 + 435 * F.length)) N n m form a v kl sc x22 K W Ft met' st F B := by
  obtain ⟨n1, rfl⟩ : ∃ n1, N = n1 + 1 := ⟨N - 1, by omega⟩
  refine ⟨S, L1, ?_, k2, I, hB⟩
  simp only [pL_follows_328, pL_follows_333, pL_follows_512]
  rw [if_neg (show ¬ (147 : Int32) < 0 by decide), if_pos (show (-1 : Int32) < 0 by decide)]
theorem lq_f_fin (hN : 20000 ≤ N) (h : lOk W) {Ft : List Nat} {form a v kl sc : Nat} (hsc : sc < 3) {S1 : kS} {L1 : lS} {n : Nat} {x22 : Int32} {fb : Bool} {met' : Nat → Nat → Bool} {st F1 : List Nat} {B a9 b9 : Nat} (c1 : a9 < 4) (hb12 : b9 < 12) (R1 : lRel L1 W) (p4 : oR L1 met') (QT : lTr L1 (wTr W a9)) (i3' : stR L1 st) (i4' : ∀ s ∈ st, s / 100 < 4 ∧ s % 100 < 12) (hr : F1.length + (kds W a9 b9).length + st.length + phi W met' ≤ 45) (hB : (kds W a9 b9).length + st.length + phi W met' + 1 ≤ B) (hk1 : kRel S1 (wFd W Ft)) (K : Int32 → Int32 → Int32 → kS → lS → Nat → Nat → Option (Int32 × kS × lS)) : itG (pL_follows_328 N (pL_follows_176 N K n) (zI (m : Nat)) (zI (form : Nat)) (zI (a : Nat)) (zI (v : Nat)) (zI (kl : Nat)) (zI (sc : Nat)) x22 (zI (st.length : Nat)) (zI (F1.length : Nat)) (zB fb) (1 : Int32) (zI ((100 * a9 + b9 : Nat) : Int)) (zI (b9 : Nat)) S1 L1 (23 + 11 * F1.length) (507 + 435 * F1.length)) N n m form a v kl sc x22 K W Ft met' (itS W sc fb (some (a9, b9)) st) F1 B := by
  have lS : (itS W sc fb (some (a9, b9)) st).length ≤ (kds W a9 b9).length + st.length := by
    show (if sc = 2 ∨ (sc = 1 ∧ fb = true) then kds W a9 b9 ++ st else st).length ≤ _
    split
    · rw [List.length_append]; omega
    · omega
  have mS : ∀ s ∈ itS W sc fb (some (a9, b9)) st, s / 100 < 4 ∧ s % 100 < 12 := fun s hs => by
    have hs : s ∈ (if sc = 2 ∨ (sc = 1 ∧ fb = true) then kds W a9 b9 ++ st else st) := hs
    split at hs
    · rcases List.mem_append.mp hs with q | q
      · unfold kds at q
        obtain ⟨y, hy, e⟩ := List.mem_map.mp q
        obtain ⟨f, f1, f2, f3, f4, f5⟩ := kid_sh h hy
        have := h.2.2.1
        unfold spt at e
        omega
      · exact i4' s q
    · exact i4' s hs
  obtain ⟨L2, t1, t2, t3, t4⟩ := lq_f_328 (N := N) (by omega) h c1 hb12 R1 QT (S := S1) (C := 23 + 11 * F1.length) (D := 507 + 435 * F1.length) (x1 := zI (m : Nat)) (x16 := zI (form : Nat)) (x17 := zI (a : Nat)) (x18 := zI (v : Nat)) (x19 := zI (kl : Nat)) (x22 := x22) (x24 := zI (F1.length : Nat)) hsc (fb := fb) (by omega) i3' (pL_follows_176 N K n)
  exact ⟨S1, L2, t1, hk1, ⟨frO_lRel t2 R1, fun p q hp hq => by rw [t3]; exact p4 p q hp hq, t4, mS, by omega⟩, by omega⟩
theorem lq_f_look (hN : 20000 ≤ N) (h : lOk W) {Ft : List Nat} (w2 : wOk (wFd W Ft)) (hm : m < 4) {form a v kl sc : Nat} (hf : form < 7) (ha : a < 3) (hv : v < 60) (hkl : kl < 3) (hsc : sc < 3) (hfit : ∀ T e, wFt W T e = lFit (wH W) T e form a v (kl : Nat)) {S : kS} {L1 : lS} {n : Nat} {x22 : Int32} {fb : Bool} {met' : Nat → Nat → Bool} {st F : List Nat} {B a9 b9 : Nat} (c1 : a9 < 4) (hb12 : b9 < 12) (R1 : lRel L1 W) (p4 : oR L1 met') (QT : lTr L1 (wTr W a9)) (i3' : stR L1 st) (i4' : ∀ s ∈ st, s / 100 < 4 ∧ s % 100 < 12) (hr : F.length + 1 + (kds W a9 b9).length + st.length + phi W met' ≤ 45) (hB : (kds W a9 b9).length + st.length + phi W met' + 1 ≤ B) (k2 : kRel S (wFd W Ft)) (gl : ¬ (fb = true ∧ sc = 1)) (hFt : ∃ t, Ft = itF W (wU W m) sc fb (some (a9, b9)) F ++ t) (K : Int32 → Int32 → Int32 → kS → lS → Nat → Nat → Option (Int32 × kS × lS)) : itG (pL_follows_243 N (pL_follows_176 N K n) (zI (m : Nat)) (zI (form : Nat)) (zI (a : Nat)) (zI (v : Nat)) (zI (kl : Nat)) (zI (sc : Nat)) x22 (zI (st.length : Nat)) (zI (F.length : Nat)) (zB fb) (1 : Int32) (zI ((100 * a9 + b9 : Nat) : Int)) (zI (b9 : Nat)) S L1 (23 + 11 * F.length) (507 + 435 * F.length)) N n m form a v kl sc x22 K W Ft met' (itS W sc fb (some (a9, b9)) st) (itF W (wU W m) sc fb (some (a9, b9)) F) B := by
  have hnd : (tVs (wTr W a9)).Nodup := tVs_nd w2 k2 c1
  have eD : zI ((100 * a9 + b9 : Nat) : Int) / (100 : Int32) = zI (a9 : Nat) := by
    rw [show (100 : Int32) = zI ((100 : Nat) : Int) from rfl, z_div (by omega) (by omega) (by omega), show (100 * a9 + b9) / 100 = a9 by omega]
  have no : lok W (wU W m) a9 b9 = false → itF W (wU W m) sc fb (some (a9, b9)) F = F := fun g => if_neg (fun q => by rw [g] at q; cases q.2)
  have fin := fun (S1 : kS) (F1 : List Nat) (hl : F1.length ≤ F.length + 1) (hk1 : kRel S1 (wFd W Ft)) => lq_f_fin (N := N) (m := m) hN h (Ft := Ft) (form := form) (a := a) (v := v) (kl := kl) hsc (S1 := S1) (n := n) (x22 := x22) (fb := fb) (F1 := F1) c1 hb12 R1 p4 QT i3' i4' (by omega) hB hk1 K
  simp only [pL_follows_243]
  rw [lq_fits (by omega) R1.2.2.2.1 h.2.1.2 h.1.1 (lTo_w h c1) hnd QT hf ha hv hkl hb12, lba_i, il_B, ← hfit]
  cases hw : wFt W (wTr W a9) b9 with
  | false =>
    rw [if_neg (by decide), no (by unfold lok; rw [hw]; rfl)]
    exact fin S F (by omega) k2
  | true =>
    rw [if_pos rfl, g4p hm, eD, lq_mayR (by omega) h R1 c1 QT hm hb12, il_B]
    cases hy : tMay (wH W) (wTr W a9) (wU W m) (b9 : Nat) 0 with
    | false =>
      rw [if_neg (by decide), no (by unfold lok; rw [hy, Bool.and_false])]
      exact fin S F (by omega) k2
    | true =>
      have hlok : lok W (wU W m) a9 b9 = true := by unfold lok; rw [hw, hy]; rfl
      have eF : itF W (wU W m) sc fb (some (a9, b9)) F = F ++ [100 * a9 + b9] := if_pos ⟨gl, hlok⟩
      obtain ⟨t, ht⟩ := hFt
      rw [eF] at ht ⊢
      have hl : F.length < Ft.length := by rw [ht]; simp
      have eg : Ft[F.length] = 100 * a9 + b9 := by simp [ht]
      have hkf := k_found (N := N) w2 k2 (i := F.length) hl
      have hkf : kOk (pX9_found N (zI (F.length : Nat)) S) (Ft[F.length] : Nat) (wFd W Ft) := hkf
      rw [eg] at hkf
      obtain ⟨S1, s1, s2, s3⟩ := lc_13 (N := N) (L := L1) (b := 0) (c := 0) (d := 0) (ans_ok hkf)
      have elen : (F ++ [100 * a9 + b9]).length = F.length + 1 := by rw [List.length_append, List.length_singleton]
      have f9 := fin S1 (F ++ [100 * a9 + b9]) (by rw [elen]; omega) s3
      rw [elen, show 23 + 11 * (F.length + 1) = 23 + 11 * F.length + 11 by omega, show 507 + 435 * (F.length + 1) = 507 + 435 * F.length + 435 by omega] at f9
      rw [if_pos rfl, s1, lbb_i (by omega), if_pos rfl]
      simp only [pL_follows_323, nm_i]
      rw [zs1]
      exact f9
theorem lq_f_some (hN : 20000 ≤ N) (h : lOk W) {Ft : List Nat} (w2 : wOk (wFd W Ft)) (hm : m < 4) {form a v kl sc : Nat} (hf : form < 7) (ha : a < 3) (hv : v < 60) (hkl : kl < 3) (hsc : sc < 3) (hfit : ∀ T e, wFt W T e = lFit (wH W) T e form a v (kl : Nat)) {S : kS} {L1 : lS} {n : Nat} {x22 : Int32} {fb : Bool} {met' : Nat → Nat → Bool} {st F : List Nat} {B a9 b9 : Nat} (c1 : a9 < 4) (hb12 : b9 < 12) (R1 : lRel L1 W) (p4 : oR L1 met') (QT : lTr L1 (wTr W a9)) (i3' : stR L1 st) (i4' : ∀ s ∈ st, s / 100 < 4 ∧ s % 100 < 12) (hr : F.length + 1 + (kds W a9 b9).length + st.length + phi W met' ≤ 45) (hB : (kds W a9 b9).length + st.length + phi W met' + 1 ≤ B) (k2 : kRel S (wFd W Ft)) (hFt : ∃ t, Ft = itF W (wU W m) sc fb (some (a9, b9)) F ++ t) (K : Int32 → Int32 → Int32 → kS → lS → Nat → Nat → Option (Int32 × kS × lS)) : itG (if zB fb = 0 then pL_follows_243 N (pL_follows_176 N K n) (zI (m : Nat)) (zI (form : Nat)) (zI (a : Nat)) (zI (v : Nat)) (zI (kl : Nat)) (zI (sc : Nat)) x22 (zI (st.length : Nat)) (zI (F.length : Nat)) (zB fb) (1 : Int32) (zI ((100 * a9 + b9 : Nat) : Int)) (zI (b9 : Nat)) S L1 (23 + 11 * F.length) (507 + 435 * F.length) else (if zI (sc : Nat) = (1 : Int32) then pL_follows_328 N (pL_follows_176 N K n) (zI (m : Nat)) (zI (form : Nat)) (zI (a : Nat)) (zI (v : Nat)) (zI (kl : Nat)) (zI (sc : Nat)) x22 (zI (st.length : Nat)) (zI (F.length : Nat)) (zB fb) (1 : Int32) (zI ((100 * a9 + b9 : Nat) : Int)) (zI (b9 : Nat)) S L1 (23 + 11 * F.length) (507 + 435 * F.length) else pL_follows_243 N (pL_follows_176 N K n) (zI (m : Nat)) (zI (form : Nat)) (zI (a : Nat)) (zI (v : Nat)) (zI (kl : Nat)) (zI (sc : Nat)) x22 (zI (st.length : Nat)) (zI (F.length : Nat)) (zB fb) (1 : Int32) (zI ((100 * a9 + b9 : Nat) : Int)) (zI (b9 : Nat)) S L1 (23 + 11 * F.length) (507 + 435 * F.length))) N n m form a v kl sc x22 K W Ft met' (itS W sc fb (some (a9, b9)) st) (itF W (wU W m) sc fb (some (a9, b9)) F) B := by
  have look := fun gl => lq_f_look (N := N) hN h w2 hm hf ha hv hkl hsc hfit (n := n) (x22 := x22) (fb := fb) c1 hb12 R1 p4 QT i3' i4' hr hB k2 gl hFt K
  cases fb with
  | false =>
    rw [if_pos (show zB false = 0 from rfl)]
    exact look (fun q => by cases q.1)
  | true =>
    rw [if_neg (show ¬ zB true = 0 by decide)]
    by_cases g1 : sc = 1
    · have eF : itF W (wU W m) sc true (some (a9, b9)) F = F := if_neg (fun q => q.1 ⟨rfl, g1⟩)
      rw [if_pos (show zI (sc : Nat) = (1 : Int32) by rw [g1]; rfl), eF]
      exact lq_f_fin (N := N) (m := m) hN h (Ft := Ft) (form := form) (a := a) (v := v) (kl := kl) hsc (S1 := S) (n := n) (x22 := x22) (fb := true) (F1 := F) c1 hb12 R1 p4 QT i3' i4' (by omega) hB k2 K
    · rw [if_neg (show ¬ zI (sc : Nat) = (1 : Int32) from nk g1 (by omega) (j := 1) (by omega))]
      exact look (fun q => g1 q.2)
theorem lq_f_it (hN : 20000 ≤ N) (h : lOk W) {Ft : List Nat} (w2 : wOk (wFd W Ft)) (hm : m < 4) {form a v kl sc : Nat} (hf : form < 7) (ha : a < 3) (hv : v < 60) (hkl : kl < 3) (hsc : sc < 3) (hfit : ∀ T e, wFt W T e = lFit (wH W) T e form a v (kl : Nat)) {S : kS} {L : lS} {n : Nat} {x22 : Int32} {fb : Bool} {met met' : Nat → Nat → Bool} {o : Option (Nat × Nat)} {x : Nat} {st F : List Nat} (hao : arr W 193 met (x / 100) (x % 100) = (met', o)) (k2 : kRel S (wFd W Ft)) (I : FI L W met (x :: st) F) (hFt : ∃ t, Ft = itF W (wU W m) sc fb o F ++ t) (K : Int32 → Int32 → Int32 → kS → lS → Nat → Nat → Option (Int32 × kS × lS)) : itG (pL_follows_176 N K (n + 1) (zI (m : Nat)) (zI (form : Nat)) (zI (a : Nat)) (zI (v : Nat)) (zI (kl : Nat)) (zI (sc : Nat)) x22 (zI ((st.length + 1 : Nat) : Int)) (zI (F.length : Nat)) (zB fb) (1 : Int32) S L (23 + 11 * F.length) (507 + 435 * F.length)) N n m form a v kl sc x22 K W Ft met' (itS W sc fb o st) (itF W (wU W m) sc fb o F) (st.length + 1 + phi W met) := by
  obtain ⟨i1, i2, i3, i4, i5⟩ := I
  obtain ⟨hx1, hx2⟩ := i4 x List.mem_cons_self
  obtain ⟨L1, p1, p2, p3, p4, p5⟩ := lq_arrives (N := N) (by omega) h hx1 hx2 i1 i2
  obtain ⟨a1, a2⟩ := arr_ok h.1 193 met (x / 100) (x % 100) hx1 (by omega)
  obtain ⟨f1, f2⟩ := phi_arr h.1 a1
  rw [hao] at p1 p4 p5 a2 f1 f2
  have i4' : ∀ s ∈ st, s / 100 < 4 ∧ s % 100 < 12 := fun s hs => i4 s (List.mem_cons_of_mem _ hs)
  rw [List.length_cons] at i5
  have ex := i3 0 (by rw [List.length_cons]; omega)
  have ex : aI L 12 (st.length + 1 - 1 - 0) = zI (x : Nat) := ex
  rw [show st.length + 1 - 1 - 0 = st.length by omega] at ex
  have i3' : stR L1 st := fun s hs => by
    have := i3 (s + 1) (by rw [List.length_cons]; omega)
    rw [p3]
    have this : aI L 12 (st.length + 1 - 1 - (s + 1)) = zI (st[s] : Nat) := this
    rw [show st.length + 1 - 1 - (s + 1) = st.length - 1 - s by omega] at this
    exact this
  have R1 := frO_lRel p2 i1
  rw [lq_f_head (N := N) (m := m) (form := form) (a := a) (v := v) (kl := kl) (sc := sc) (S := S) (C := 23 + 11 * F.length) (D := 507 + 435 * F.length) (n := n) (x22 := x22) (fb := fb) (f9 := F.length) (by omega) ex p1 K]
  cases o with
  | none =>
    have f1 : phi W met' ≤ phi W met := f1
    rw [show zI (arS none) = (-1 : Int32) from rfl, if_pos (show (-1 : Int32) < 0 by decide)]
    exact lq_f_none hN k2 ⟨R1, p4, i3', i4', by omega⟩ (by omega) K
  | some ab =>
    obtain ⟨a9, b9⟩ := ab
    obtain ⟨c1, c2, c3, c4, c5⟩ := a2 a9 b9 rfl
    have fq := f2 a9 b9 c1 c2 c4 c5
    have fq : phi W met' + (kds W a9 b9).length ≤ phi W met := fq
    obtain ⟨hb12, QT⟩ := p5 a9 b9 rfl
    have eM : zI ((100 * a9 + b9 : Nat) : Int) - zI ((100 * a9 + b9 : Nat) : Int) / (100 : Int32) * (100 : Int32) = zI (b9 : Nat) := by
      rw [show (100 : Int32) = zI ((100 : Nat) : Int) from rfl, z_mod (by omega) (by omega) (by omega), show (100 * a9 + b9) % 100 = b9 by omega]
    have q0 : ¬ zI ((100 * a9 + b9 : Nat) : Int) < (0 : Int32) := by
      rw [zL_0, zI_lt (by omega) (by omega) (by omega) (by omega)]
      omega
    have eS : arS (some (a9, b9)) = ((100 * a9 + b9 : Nat) : Int) := rfl
    rw [eS, if_neg q0, eM]
    exact lq_f_some hN h w2 hm hf ha hv hkl hsc hfit c1 hb12 R1 p4 QT i3' i4' (by omega) (by omega) k2 hFt K
end LFP
