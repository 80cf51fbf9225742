-- LEVEL 2, THE LAW: FOLLOWS: CHILDREN COME TO WAIT
theorem uI_same (L : lS) (k j : Nat) : uI L k j (aI L k j) = L := by
  have e : (fun q => if q = k then upd (L.1 k) j (L.1 k j) else L.1 q) = L.1 := by
    funext q
    by_cases g : q = k
    · rw [if_pos g, g]
      funext i
      by_cases g2 : i = j
      · rw [g2, upd_s]
      · rw [upd_o _ _ g2]
    · rw [if_neg g]
  show ((fun q => if q = k then upd (L.1 k) j (L.1 k j) else L.1 q), L.2) = L
  rw [e]
def stR (L : lS) (st : List Nat) : Prop := ∀ s (h : s < st.length), aI L 12 (st.length - 1 - s) = zI (st[s] : Nat)
theorem stR_push {L : lS} {st : List Nat} {x : Nat} (h : stR L st) : stR (uI L 12 st.length (zI (x : Nat))) (x :: st) := fun s hs => by
  rw [List.length_cons] at hs ⊢
  rw [aI_uI_s]
  cases s with
  | zero =>
    rw [show st.length + 1 - 1 - 0 = st.length by omega, upd_s]
    rfl
  | succ s =>
    rw [show st.length + 1 - 1 - (s + 1) = st.length - 1 - s by omega, upd_o _ _ (by omega), List.getElem_cons_succ]
    exact h s (by omega)
theorem stR_e {L L' : lS} {st : List Nat} (e : aI L' 12 = aI L 12) (h : stR L st) : stR L' st := fun s hs => by rw [e]; exact h s hs
theorem nCt_iv {l : List Nat} {lo hi : Nat} (hle : lo ≤ hi) (h : ∀ x ∈ l, lo ≤ x → x < hi → False) : nCt l (hi : Nat) = nCt l (lo : Nat) := by
  unfold nCt
  refine List.countP_congr (fun x hx => ?_)
  have := h x hx
  rw [decide_eq_true_eq, decide_eq_true_eq]
  constructor
  · intro g
    rcases Nat.lt_or_ge x lo with q | q
    · omega
    · exact absurd (this q (by omega)) not_false
  · intro g; omega
section LFO
variable {N : Nat} {W : sW}
theorem kid_sh (h : lOk W) {a : Nat} {b : Nat} {x : Nat} (hx : x ∈ kidL (wTr W a) (b : Nat) 48) : ∃ e, 1 ≤ e ∧ e < wE W ∧ tCh (wTr W a) (b : Nat) e = true ∧ tSh (wTr W a) e = ((x / 48 : Nat) : Int) ∧ x % 48 = e := by
  have c0 := kid_ok h.1 (b : Nat) (m := a)
  obtain ⟨e, e1, e2, e3, e4⟩ := (c0.2.2 x).mp hx
  have hs := tSh_rg (wTr_ok h.1 a).1 e2
  have hl : e < wE W := by
    have e3 := e3
    unfold tCh at e3
    rw [Bool.and_eq_true] at e3
    exact tLv_wE h e3.1
  unfold tRk at e4
  exact ⟨e, e1, hl, e3, by omega, by omega⟩
theorem lq_fstep (hN : 1000 ≤ N) (h : lOk W) {L : lS} (R : lRel L W) {a b : Nat} (ha : a < 4) (hb : b < 12) (Q : lTr L (wTr W a)) {S : kS} {C D : Nat} {x1 x16 x17 x18 x19 x21 x22 x24 x25 x26 : Int32} {wt by' : Nat} (hwt : wt < 63) (hby : by' < 148) (K : Int32 → Int32 → Int32 → Int32 → Int32 → Int32 → Int32 → Int32 → Int32 → Int32 → Int32 → Int32 → Int32 → Int32 → kS → lS → Nat → Nat → Option (Int32 × kS × lS)) {n c : Nat} (h1 : 1 ≤ c) (hc : c < wE W) : pL_follows_363 N K (n + 1) x1 x16 x17 x18 x19 x21 x22 (zI (wt : Nat)) x24 x25 x26 (zI ((100 * a + b : Nat) : Int)) (zI (b : Nat)) (zI (by' : Nat)) (zI (c : Nat)) S L C D = if tCh (wTr W a) (b : Nat) c = true ∧ tSh (wTr W a) c = (by' : Int) then pL_follows_363 N K n x1 x16 x17 x18 x19 x21 x22 (zI ((wt + 1 : Nat) : Int)) x24 x25 x26 (zI ((100 * a + b : Nat) : Int)) (zI (b : Nat)) (zI (by' : Nat)) (zI ((c + 1 : Nat) : Int)) S (uI L 12 wt (zI ((100 * a + c : Nat) : Int))) C D else pL_follows_363 N K n x1 x16 x17 x18 x19 x21 x22 (zI (wt : Nat)) x24 x25 x26 (zI ((100 * a + b : Nat) : Int)) (zI (b : Nat)) (zI (by' : Nat)) (zI ((c + 1 : Nat) : Int)) S L C D := by
  have hE := h.2.2.1
  have hc12 : c < 12 := by omega
  have hW := (wTr_ok h.1 a).1
  have e1 : pL_follows_363 N K (n + 1) x1 x16 x17 x18 x19 x21 x22 (zI (wt : Nat)) x24 x25 x26 (zI ((100 * a + b : Nat) : Int)) (zI (b : Nat)) (zI (by' : Nat)) (zI (c : Nat)) S L C D = gd (0 : Int32) 20 (if (aI L 0 (0 : Int32).toNatClampNeg) ≤ zI (c : Nat) then K x1 x16 x17 x18 x19 x21 x22 (zI (wt : Nat)) x24 x25 x26 (zI ((100 * a + b : Nat) : Int)) (zI (b : Nat)) (zI (by' : Nat)) S L C D else (if zI (by' : Nat) < (100 : Int32) then pL_follows_388 N (pL_follows_363 N K n) x1 x16 x17 x18 x19 x21 x22 (zI (wt : Nat)) x24 x25 x26 (zI ((100 * a + b : Nat) : Int)) (zI (b : Nat)) (zI (by' : Nat)) (zI (c : Nat)) S L C D else (if zI (by' : Nat) = ((100 : Int32) + zI (c : Nat)) then pL_follows_388 N (pL_follows_363 N K n) x1 x16 x17 x18 x19 x21 x22 (zI (wt : Nat)) x24 x25 x26 (zI ((100 * a + b : Nat) : Int)) (zI (b : Nat)) (zI (by' : Nat)) (zI (c : Nat)) S L C D else pL_follows_444 N (pL_follows_363 N K n) (0 : Int32) x1 x16 x17 x18 x19 x21 x22 (zI (wt : Nat)) x24 x25 x26 (zI ((100 * a + b : Nat) : Int)) (zI (b : Nat)) (zI (by' : Nat)) (zI (c : Nat)) S L C D))) := rfl
  have eA : zI ((100 * a + b : Nat) : Int) / (100 : Int32) = zI (a : Nat) := by
    rw [show (100 : Int32) = zI ((100 : Nat) : Int) from rfl, z_div (by omega) (by omega) (by omega), show (100 * a + b) / 100 = a by omega]
  have no : ¬ (tCh (wTr W a) (b : Nat) c = true ∧ tSh (wTr W a) c = (by' : Int)) → pL_follows_444 N (pL_follows_363 N K n) (0 : Int32) x1 x16 x17 x18 x19 x21 x22 (zI (wt : Nat)) x24 x25 x26 (zI ((100 * a + b : Nat) : Int)) (zI (b : Nat)) (zI (by' : Nat)) (zI (c : Nat)) S L C D = pL_follows_363 N K n x1 x16 x17 x18 x19 x21 x22 (zI (wt : Nat)) x24 x25 x26 (zI ((100 * a + b : Nat) : Int)) (zI (b : Nat)) (zI (by' : Nat)) (zI ((c + 1 : Nat) : Int)) S L C D := fun _ => by
    simp only [pL_follows_444, pL_follows_460, pL_follows_484, pL_follows_497, slv_i, nm_i, if_true]
    have g63 : ∀ {β : Type} {K : Option β}, gd (63 : Int32) 64 K = K := gd_z (z := 63) (by omega) (by omega) (by omega)
    rw [g63, g63, show (63 : Int32).toNatClampNeg = 63 from rfl, uI_same, zs1 c, show zI (wt : Nat) + (0 : Int32) = zI (wt : Nat) by rw [zL_0, zI_add, Int.add_zero]]
  have yes : pL_follows_444 N (pL_follows_363 N K n) (1 : Int32) x1 x16 x17 x18 x19 x21 x22 (zI (wt : Nat)) x24 x25 x26 (zI ((100 * a + b : Nat) : Int)) (zI (b : Nat)) (zI (by' : Nat)) (zI (c : Nat)) S L C D = pL_follows_363 N K n x1 x16 x17 x18 x19 x21 x22 (zI ((wt + 1 : Nat) : Int)) x24 x25 x26 (zI ((100 * a + b : Nat) : Int)) (zI (b : Nat)) (zI (by' : Nat)) (zI ((c + 1 : Nat) : Int)) S (uI L 12 wt (zI ((100 * a + c : Nat) : Int))) C D := by
    simp only [pL_follows_444, pL_follows_460, pL_follows_484, pL_follows_497, slv_i, nm_i, i1n0, if_false]
    rw [eA, zL_100, zI_mul, zI_add, gd_c (by omega) (by omega), zI_cn (by omega), zs1, zs1, show (a : Int) * 100 + (c : Int) = ((100 * a + c : Nat) : Int) by omega]
  have v388 : pL_follows_388 N (pL_follows_363 N K n) x1 x16 x17 x18 x19 x21 x22 (zI (wt : Nat)) x24 x25 x26 (zI ((100 * a + b : Nat) : Int)) (zI (b : Nat)) (zI (by' : Nat)) (zI (c : Nat)) S L C D = if tCh (wTr W a) (b : Nat) c = true ∧ tSh (wTr W a) c = (by' : Int) then pL_follows_363 N K n x1 x16 x17 x18 x19 x21 x22 (zI ((wt + 1 : Nat) : Int)) x24 x25 x26 (zI ((100 * a + b : Nat) : Int)) (zI (b : Nat)) (zI (by' : Nat)) (zI ((c + 1 : Nat) : Int)) S (uI L 12 wt (zI ((100 * a + c : Nat) : Int))) C D else pL_follows_363 N K n x1 x16 x17 x18 x19 x21 x22 (zI (wt : Nat)) x24 x25 x26 (zI ((100 * a + b : Nat) : Int)) (zI (b : Nat)) (zI (by' : Nat)) (zI ((c + 1 : Nat) : Int)) S L C D := by
    simp only [pL_follows_388]
    rw [g36 hc12, cn36 hc12, eA]
    by_cases g : tLv (wTr W a) (c : Nat) = true
    · have tc := tLv_th (show c < 48 by omega) g
      have hpr := tPl_rg hW (show c < 48 by omega)
      have hsr := tSh_rg hW (show c < 48 by omega)
      rw [if_pos ((lv_9 Q hc12).mpr g), lq_place (lTo_w h ha) Q hc12 (Or.inr tc), lba_i, il_eq (by omega) (by omega) (by omega) (by omega)]
      by_cases g2 : tPl (wTr W a) c = (b : Int)
      · have tc2 : tCh (wTr W a) (b : Nat) c = true := by unfold tCh; rw [g, decide_eq_true g2]; rfl
        rw [if_pos g2, lq_shown hN h R ha Q g, lba_i, il_eq (by omega) (by omega) (by omega) (by omega)]
        by_cases g3 : tSh (wTr W a) c = (by' : Int)
        · rw [if_pos g3, if_pos (show tCh (wTr W a) (b : Nat) c = true ∧ tSh (wTr W a) c = (by' : Int) from ⟨tc2, g3⟩)]
          exact yes
        · have hn : ¬ (tCh (wTr W a) (b : Nat) c = true ∧ tSh (wTr W a) c = (by' : Int)) := fun q => g3 q.2
          rw [if_neg g3, if_neg hn]
          exact no hn
      · have hn : ¬ (tCh (wTr W a) (b : Nat) c = true ∧ tSh (wTr W a) c = (by' : Int)) := fun q => g2 (by
          have := q.1
          unfold tCh at this
          rw [Bool.and_eq_true, decide_eq_true_eq] at this
          exact this.2)
        rw [if_neg g2, if_neg hn]
        exact no hn
    · have hn : ¬ (tCh (wTr W a) (b : Nat) c = true ∧ tSh (wTr W a) c = (by' : Int)) := fun q => g (by
        have := q.1
        unfold tCh at this
        rw [Bool.and_eq_true] at this
        exact this.1)
      rw [if_neg (show ¬ aI L 9 (3 * c) = (1 : Int32) from fun q => g ((lv_9 Q hc12).mp q)), if_neg hn]
      exact no hn
  rw [e1, gq0, aq0 R, il_le (by omega) (by omega) (by omega) (by omega), if_neg (show ¬ (wE W : Int) ≤ (c : Int) by omega), zL_100, il_lt (by omega) (by omega) (by omega) (by omega), zI_add, il_eq (by omega) (by omega) (by omega) (by omega)]
  by_cases g : (by' : Int) < 100
  · rw [if_pos g]; exact v388
  · rw [if_neg g]
    by_cases g2 : (by' : Int) = 100 + (c : Int)
    · rw [if_pos g2]; exact v388
    · have hn : ¬ (tCh (wTr W a) (b : Nat) c = true ∧ tSh (wTr W a) c = (by' : Int)) := fun q => by
        have hnm := hW.2.2.1 c (by omega)
        have := q.2
        unfold tSh at this
        split at this <;> omega
      rw [if_neg g2, if_neg hn]
      exact no hn
/-- one name: no child of it is left -/
theorem lq_fin_none (hN : 1000 ≤ N) (h : lOk W) {L : lS} (R : lRel L W) {a b : Nat} (ha : a < 4) (hb : b < 12) (Q : lTr L (wTr W a)) {S : kS} {C D : Nat} {x1 x16 x17 x18 x19 x21 x22 x24 x25 x26 : Int32} {wt by' : Nat} (hwt : wt < 63) (hby : by' < 148) (K : Int32 → Int32 → Int32 → Int32 → Int32 → Int32 → Int32 → Int32 → Int32 → Int32 → Int32 → Int32 → Int32 → Int32 → kS → lS → Nat → Nat → Option (Int32 × kS × lS)) : ∀ (n k c : Nat), c + k = wE W → k < n → 1 ≤ c → (∀ e, c ≤ e → e < wE W → ¬ (tCh (wTr W a) (b : Nat) e = true ∧ tSh (wTr W a) e = (by' : Int))) → pL_follows_363 N K n x1 x16 x17 x18 x19 x21 x22 (zI (wt : Nat)) x24 x25 x26 (zI ((100 * a + b : Nat) : Int)) (zI (b : Nat)) (zI (by' : Nat)) (zI (c : Nat)) S L C D = K x1 x16 x17 x18 x19 x21 x22 (zI (wt : Nat)) x24 x25 x26 (zI ((100 * a + b : Nat) : Int)) (zI (b : Nat)) (zI (by' : Nat)) S L C D
  | 0, k, c, _, hn, _, _ => by omega
  | n + 1, k, c, hk, hn, h1, hno => by
    have hE := h.2.2.1
    cases k with
    | zero =>
      simp only [pL_follows_363]
      rw [gq0, aq0 R, il_le (by omega) (by omega) (by omega) (by omega), if_pos (by omega)]
    | succ k =>
      rw [lq_fstep hN h R ha hb Q hwt hby K h1 (by omega), if_neg (hno c (Nat.le_refl _) (by omega))]
      exact lq_fin_none hN h R ha hb Q hwt hby K n k (c + 1) (by omega) (by omega) (by omega) (fun e he hl => hno e (by omega) hl)
theorem frO_lTr {L : lS} {T : sT} (Q : lTr L T) (j : Nat) (v : Int32) : lTr (uI L 12 j v) T := ⟨fun q hq => by
  rw [aI_uI_o _ _ _ (show (9 : Nat) ≠ 12 by decide)]
  exact Q.1 q hq, fun q a v hq ha hv => Q.2 q a v hq ha hv⟩
/-- one name: the child of it comes to wait -/
theorem lq_fin_some (hN : 1000 ≤ N) (h : lOk W) {L : lS} (R : lRel L W) {a b : Nat} (ha : a < 4) (hb : b < 12) (Q : lTr L (wTr W a)) {S : kS} {C D : Nat} {x1 x16 x17 x18 x19 x21 x22 x24 x25 x26 : Int32} {wt by' : Nat} (hwt : wt < 62) (hby : by' < 148) (K : Int32 → Int32 → Int32 → Int32 → Int32 → Int32 → Int32 → Int32 → Int32 → Int32 → Int32 → Int32 → Int32 → Int32 → kS → lS → Nat → Nat → Option (Int32 × kS × lS)) {e0 : Nat} (he0 : e0 < wE W) (hch : tCh (wTr W a) (b : Nat) e0 = true ∧ tSh (wTr W a) e0 = (by' : Int)) : ∀ (n k c : Nat), c + k = wE W → k < n → 1 ≤ c → c ≤ e0 → pL_follows_363 N K n x1 x16 x17 x18 x19 x21 x22 (zI (wt : Nat)) x24 x25 x26 (zI ((100 * a + b : Nat) : Int)) (zI (b : Nat)) (zI (by' : Nat)) (zI (c : Nat)) S L C D = K x1 x16 x17 x18 x19 x21 x22 (zI ((wt + 1 : Nat) : Int)) x24 x25 x26 (zI ((100 * a + b : Nat) : Int)) (zI (b : Nat)) (zI (by' : Nat)) S (uI L 12 wt (zI ((100 * a + e0 : Nat) : Int))) C D
  | 0, k, c, _, hn, _, _ => by omega
  | n + 1, k, c, hk, hn, h1, hle => by
    have hE := h.2.2.1
    have hW := (wTr_ok h.1 a).1
    have hU := wTr_un h.1 a
    have uq : ∀ e, 1 ≤ e → e < wE W → (tCh (wTr W a) (b : Nat) e = true ∧ tSh (wTr W a) e = (by' : Int)) → e = e0 := fun e q1 q2 q3 => tSh_inj hW hU q1 (by omega) (by omega) (by omega) q3.1 hch.1 (by rw [q3.2, hch.2])
    cases k with
    | zero => omega
    | succ k =>
      rw [lq_fstep hN h R ha hb Q (by omega) hby K h1 (by omega)]
      by_cases g : c = e0
      · subst g
        rw [if_pos hch]
        exact lq_fin_none hN h (frO_lRel (frO_u (Or.inr rfl) _ _) R) ha hb (frO_lTr Q _ _) (by omega) hby K n k (c + 1) (by omega) (by omega) (by omega) (fun e he hl q => by
          have := uq e (by omega) hl q
          omega)
      · rw [if_neg (fun q => g (uq c h1 (by omega) q))]
        exact lq_fin_some hN h R ha hb Q hwt hby K he0 hch n k (c + 1) (by omega) (by omega) (by omega) (by omega)
/-- all children, by falling names -/
theorem lq_fpush (hN : 1000 ≤ N) (h : lOk W) {a b : Nat} (ha : a < 4) (hb : b < 12) {S : kS} {C D : Nat} {x1 x16 x17 x18 x19 x21 x22 x24 x25 x26 : Int32} {st : List Nat} (hst : st.length + (kidL (wTr W a) (b : Nat) 48).length ≤ 60) (hpush : x21 = (2 : Int32) ∨ (x21 = (1 : Int32) ∧ ¬ x25 = (0 : Int32))) (K : Int32 → Int32 → Int32 → Int32 → Int32 → Int32 → Int32 → Int32 → Int32 → Int32 → kS → lS → Nat → Nat → Option (Int32 × kS × lS)) : ∀ (n j : Nat) (L : lS), j < n → j ≤ 148 → lRel L W → lTr L (wTr W a) → stR L (((kidL (wTr W a) (b : Nat) 48).drop (nCt (kidL (wTr W a) (b : Nat) 48) ((j * 48 : Nat) : Int))).map (spt a) ++ st) → ∃ L', pL_follows_333 N K n x1 x16 x17 x18 x19 x21 x22 (zI ((((kidL (wTr W a) (b : Nat) 48).drop (nCt (kidL (wTr W a) (b : Nat) 48) ((j * 48 : Nat) : Int))).map (spt a) ++ st).length : Nat)) x24 x25 x26 (zI ((100 * a + b : Nat) : Int)) (zI (b : Nat)) (zI ((j : Int) - 1)) S L C D = K x1 x16 x17 x18 x19 x21 x22 (zI ((kds W a b ++ st).length : Nat)) x24 x26 S L' C D ∧ frO L L' ∧ aI L' 11 = aI L 11 ∧ stR L' (kds W a b ++ st)
  | 0, j, L, hn, _, _, _, _ => by omega
  | n + 1, j, L, hn, hj, R, Q, hS => by
    have hE := h.2.2.1
    have hE1 := h.1.2.2.2.2.2.2.1.1
    have c0 := kid_ok h.1 (b : Nat) (m := a)
    have e0 : pL_follows_333 N K (n + 1) x1 x16 x17 x18 x19 x21 x22 (zI ((((kidL (wTr W a) (b : Nat) 48).drop (nCt (kidL (wTr W a) (b : Nat) 48) ((j * 48 : Nat) : Int))).map (spt a) ++ st).length : Nat)) x24 x25 x26 (zI ((100 * a + b : Nat) : Int)) (zI (b : Nat)) (zI ((j : Int) - 1)) S L C D = if zI ((j : Int) - 1) < (0 : Int32) then K x1 x16 x17 x18 x19 x21 x22 (zI ((((kidL (wTr W a) (b : Nat) 48).drop (nCt (kidL (wTr W a) (b : Nat) 48) ((j * 48 : Nat) : Int))).map (spt a) ++ st).length : Nat)) x24 x26 S L C D else pL_follows_360 N (pL_follows_333 N K n) x1 x16 x17 x18 x19 x21 x22 (zI ((((kidL (wTr W a) (b : Nat) 48).drop (nCt (kidL (wTr W a) (b : Nat) 48) ((j * 48 : Nat) : Int))).map (spt a) ++ st).length : Nat)) x24 x25 x26 (zI ((100 * a + b : Nat) : Int)) (zI (b : Nat)) (zI ((j : Int) - 1)) S L C D := by
      have q1 : ¬ zI ((100 * a + b : Nat) : Int) < (0 : Int32) := by
        rw [zL_0, zI_lt (by omega) (by omega) (by omega) (by omega)]
        omega
      simp only [pL_follows_333]
      by_cases g : zI ((j : Int) - 1) < (0 : Int32)
      · rw [if_pos g, if_pos g]
      · rw [if_neg g, if_neg g, if_neg q1]
        rcases hpush with q | ⟨q, q2⟩
        · rw [if_pos q]
        · rw [if_neg (show ¬ x21 = (2 : Int32) by rw [q]; decide), if_pos q, if_neg q2]
    rw [e0, zL_0, il_lt (by omega) (by omega) (by omega) (by omega)]
    cases j with
    | zero =>
      have en : nCt (kidL (wTr W a) (b : Nat) 48) ((0 * 48 : Nat) : Int) = 0 := nCt_0 (fun x _ => by omega)
      rw [en, List.drop_zero] at hS ⊢
      rw [if_pos (by omega)]
      exact ⟨L, rfl, frO_rf, rfl, hS⟩
    | succ j =>
      have hdl : ∀ i, ((kidL (wTr W a) (b : Nat) 48).drop i).length ≤ (kidL (wTr W a) (b : Nat) 48).length := fun i => by rw [List.length_drop]; omega
      have hwl : (((kidL (wTr W a) (b : Nat) 48).drop (nCt (kidL (wTr W a) (b : Nat) 48) (((j + 1) * 48 : Nat) : Int))).map (spt a) ++ st).length ≤ 60 := by
        rw [List.length_append, List.length_map]
        have := hdl (nCt (kidL (wTr W a) (b : Nat) 48) (((j + 1) * 48 : Nat) : Int))
        omega
      rw [if_neg (by omega), show ((j + 1 : Nat) : Int) - 1 = (j : Nat) by omega]
      simp only [pL_follows_360]
      by_cases g : ∃ e, 1 ≤ e ∧ e < wE W ∧ tCh (wTr W a) (b : Nat) e = true ∧ tSh (wTr W a) e = (j : Int)
      · obtain ⟨e, g1, g2, g3, g4⟩ := g
        have hin : j * 48 + e ∈ kidL (wTr W a) (b : Nat) 48 := by
          rw [c0.2.2]
          refine ⟨e, g1, by omega, g3, ?_⟩
          unfold tRk
          rw [g4, Int.toNat_natCast]
        obtain ⟨en, hi, ei⟩ := nCt_in c0.1 hin
        have uq : ∀ x ∈ kidL (wTr W a) (b : Nat) 48, x / 48 = j → x = j * 48 + e := fun x hx hj => by
          obtain ⟨f, f1, f2, f3, f4, f5⟩ := kid_sh h hx
          have : f = e := tSh_inj (wTr_ok h.1 a).1 (wTr_un h.1 a) f1 (by omega) g1 (by omega) f3 g3 (by rw [f4, g4, hj])
          omega
        have n1 : nCt (kidL (wTr W a) (b : Nat) 48) ((j * 48 + e : Nat) : Int) = nCt (kidL (wTr W a) (b : Nat) 48) ((j * 48 : Nat) : Int) := nCt_iv (by omega) (fun x hx a1 a2 => by
          have := uq x hx (by omega)
          omega)
        have n2 : nCt (kidL (wTr W a) (b : Nat) 48) (((j + 1) * 48 : Nat) : Int) = nCt (kidL (wTr W a) (b : Nat) 48) ((j * 48 + e + 1 : Nat) : Int) := nCt_iv (by omega) (fun x hx a1 a2 => by
          have := uq x hx (by omega)
          omega)
        have ed : (kidL (wTr W a) (b : Nat) 48).drop (nCt (kidL (wTr W a) (b : Nat) 48) ((j * 48 : Nat) : Int)) = (j * 48 + e) :: (kidL (wTr W a) (b : Nat) 48).drop (nCt (kidL (wTr W a) (b : Nat) 48) (((j + 1) * 48 : Nat) : Int)) := by
          rw [n2, en, ← n1, List.drop_eq_getElem_cons hi, ei]
        have es : spt a (j * 48 + e) = 100 * a + e := by unfold spt; omega
        have hf := lq_fin_some (N := N) hN h R ha hb Q (S := S) (C := C) (D := D) (x1 := x1) (x16 := x16) (x17 := x17) (x18 := x18) (x19 := x19) (x21 := x21) (x22 := x22) (x24 := x24) (x25 := x25) (x26 := x26) (wt := (((kidL (wTr W a) (b : Nat) 48).drop (nCt (kidL (wTr W a) (b : Nat) 48) (((j + 1) * 48 : Nat) : Int))).map (spt a) ++ st).length) (by omega) (show j < 148 by omega) (pL_follows_506 N (pL_follows_333 N K n)) g2 ⟨g3, g4⟩ N (wE W - 1) 1 (by omega) (by omega) (by omega) g1
        have hf : pL_follows_363 N (pL_follows_506 N (pL_follows_333 N K n)) N x1 x16 x17 x18 x19 x21 x22 (zI ((((kidL (wTr W a) (b : Nat) 48).drop (nCt (kidL (wTr W a) (b : Nat) 48) (((j + 1) * 48 : Nat) : Int))).map (spt a) ++ st).length : Nat)) x24 x25 x26 (zI ((100 * a + b : Nat) : Int)) (zI (b : Nat)) (zI (j : Nat)) (1 : Int32) S L C D = _ := hf
        rw [hf]
        simp only [pL_follows_506, nm_i]
        rw [zm1]
        have hS2 := stR_push (x := 100 * a + e) hS
        have el : ((((kidL (wTr W a) (b : Nat) 48).drop (nCt (kidL (wTr W a) (b : Nat) 48) (((j + 1) * 48 : Nat) : Int))).map (spt a) ++ st).length + 1) = (((kidL (wTr W a) (b : Nat) 48).drop (nCt (kidL (wTr W a) (b : Nat) 48) ((j * 48 : Nat) : Int))).map (spt a) ++ st).length := by
          rw [ed, List.map_cons, List.cons_append, List.length_cons]
        rw [el]
        obtain ⟨L', q1, q2, q3, q4⟩ := lq_fpush hN h ha hb (S := S) (C := C) (D := D) (x1 := x1) (x16 := x16) (x17 := x17) (x18 := x18) (x19 := x19) (x21 := x21) (x22 := x22) (x24 := x24) (x25 := x25) (x26 := x26) hst hpush K n j _ (by omega) (by omega) (frO_lRel (frO_u (Or.inr rfl) _ _) R) (frO_lTr Q _ _) (by rw [ed, List.map_cons, List.cons_append, es]; exact hS2)
        exact ⟨L', q1, (frO_u (Or.inr rfl) _ _).trans q2, by rw [q3, aI_uI_o _ _ _ (by omega)], q4⟩
      · have n1 : nCt (kidL (wTr W a) (b : Nat) 48) (((j + 1) * 48 : Nat) : Int) = nCt (kidL (wTr W a) (b : Nat) 48) ((j * 48 : Nat) : Int) := nCt_iv (by omega) (fun x hx a1 a2 => by
          obtain ⟨f, f1, f2, f3, f4, f5⟩ := kid_sh h hx
          exact g ⟨f, f1, f2, f3, by rw [f4]; omega⟩)
        have hf := lq_fin_none (N := N) hN h R ha hb Q (S := S) (C := C) (D := D) (x1 := x1) (x16 := x16) (x17 := x17) (x18 := x18) (x19 := x19) (x21 := x21) (x22 := x22) (x24 := x24) (x25 := x25) (x26 := x26) (wt := (((kidL (wTr W a) (b : Nat) 48).drop (nCt (kidL (wTr W a) (b : Nat) 48) (((j + 1) * 48 : Nat) : Int))).map (spt a) ++ st).length) (by omega) (show j < 148 by omega) (pL_follows_506 N (pL_follows_333 N K n)) N (wE W - 1) 1 (by omega) (by omega) (by omega) (fun e e1 e2 e3 => g ⟨e, e1, e2, e3⟩)
        have hf : pL_follows_363 N (pL_follows_506 N (pL_follows_333 N K n)) N x1 x16 x17 x18 x19 x21 x22 (zI ((((kidL (wTr W a) (b : Nat) 48).drop (nCt (kidL (wTr W a) (b : Nat) 48) (((j + 1) * 48 : Nat) : Int))).map (spt a) ++ st).length : Nat)) x24 x25 x26 (zI ((100 * a + b : Nat) : Int)) (zI (b : Nat)) (zI (j : Nat)) (1 : Int32) S L C D = _ := hf
        rw [hf]
        simp only [pL_follows_506, nm_i]
        rw [zm1]
        rw [n1] at hS ⊢
        exact lq_fpush hN h ha hb hst hpush K n j L (by omega) (by omega) R Q hS
end LFO
