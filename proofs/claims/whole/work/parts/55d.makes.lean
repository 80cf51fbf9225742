-- LEVEL 2, THE REFERENCE MAKES A CHANGE
/-- the greatest stamp that is known among the first n changes -/
def gst (tl : Nat → Nat → Nat) (m : Nat) (cs : Nat → sCh) : Nat → Nat
  | 0 => 0
  | k + 1 => if gotB tl m (cs k) then max (gst tl m cs k) (cS (cs k)) else gst tl m cs k
theorem gst_le {tl : Nat → Nat → Nat} {m : Nat} {cs : Nat → sCh} {b : Nat} : ∀ n, (∀ k, k < n → gotB tl m (cs k) = true → cS (cs k) ≤ b) → gst tl m cs n ≤ b
  | 0, _ => Nat.zero_le _
  | n + 1, h => by
    have ih := gst_le (tl := tl) (m := m) (cs := cs) (b := b) n (fun k hk => h k (by omega))
    unfold gst
    split
    · rename_i hg
      exact Nat.max_le.mpr ⟨ih, h n (by omega) hg⟩
    · exact ih
theorem gst_ge {tl : Nat → Nat → Nat} {m : Nat} {cs : Nat → sCh} : ∀ n k, k < n → gotB tl m (cs k) = true → cS (cs k) ≤ gst tl m cs n
  | 0, k, hk, _ => by omega
  | n + 1, k, hk, hg => by
    unfold gst
    by_cases q : k = n
    · subst q
      rw [if_pos hg]
      exact Nat.le_max_right _ _
    · have ih := gst_ge n k (by omega) hg
      split
      · exact Nat.le_trans ih (Nat.le_max_left _ _)
      · exact ih
def up3 (f : Nat → Nat → Nat → Nat) (m : Nat) (g : Nat → Nat → Nat) : Nat → Nat → Nat → Nat := fun a => if a = m then g else f a
theorem up3_s (f : Nat → Nat → Nat → Nat) (m : Nat) (g : Nat → Nat → Nat) : up3 f m g m = g := if_pos rfl
theorem up3_o (f : Nat → Nat → Nat → Nat) {m a : Nat} (g : Nat → Nat → Nat) (h : a ≠ m) : up3 f m g a = f a := if_neg h
theorem ins_len {o : List Nat} {p k : Nat} (hp : p ≤ o.length) : (ins o p k).length = o.length + 1 := by
  unfold ins
  rw [List.length_append, List.length_take, List.length_cons, List.length_drop]; omega
theorem ins_get {o : List Nat} {p k i : Nat} (hp : p ≤ o.length) : (ins o p k)[i]? = if i < p then o[i]? else if i = p then some k else o[i - 1]? := by
  unfold ins
  by_cases h1 : i < p
  · rw [if_pos h1, List.getElem?_append_left (by rw [List.length_take]; omega), List.getElem?_take, if_pos h1]
  · rw [if_neg h1, List.getElem?_append_right (by rw [List.length_take]; omega), List.length_take, Nat.min_eq_left hp]
    by_cases h2 : i = p
    · rw [if_pos h2, h2, Nat.sub_self]; rfl
    · rw [if_neg h2]
      obtain ⟨j, hj⟩ : ∃ j, i - p = j + 1 := ⟨i - p - 1, by omega⟩
      rw [hj, List.getElem?_cons_succ, List.getElem?_drop]
      congr 1
      omega
theorem idx21 : ∀ a, a < 4 → ∀ b, b < 4 → ∀ d, d < 4 → ∀ m, m < 4 → 16 * a + 4 * b + d = 21 * m → a = m ∧ b = m ∧ d = m := by
  intro a ha b hb d hd m hm h
  have h1 : a = 0 ∨ a = 1 ∨ a = 2 ∨ a = 3 := by omega
  have h2 : m = 0 ∨ m = 1 ∨ m = 2 ∨ m = 3 := by omega
  rcases h1 with rfl | rfl | rfl | rfl <;> rcases h2 with rfl | rfl | rfl | rfl <;> omega
section RM
variable {N : Nat} {cs : Nat → sCh} {tl : Nat → Nat → Nat → Nat} {o : List Nat} {m n : Nat}
def rCs (M : mS) (cs : Nat → sCh) (n : Nat) : Prop := M.1 22 = zI (n : Nat) ∧ n ≤ 250 ∧ ∀ k, k < n → rCh M k (cs k) ∧ cOk (cs k)
theorem r_makes_6 {M : mS} (C : rCs M cs n) (V : rVw M tl) (hm : m < 4) {k57 : Int32 → Int32 → Int32 → Int32 → Int32 → Int32 → Int32 → mS → Option (Int32 × mS)} {x2 x3 x4 x5 x6 : Int32} : ∀ (f q i : Nat), i + q = n → q < f → pf_makes_6 N k57 f (zI (m : Nat)) x2 x3 x4 x5 x6 (zI (gst (tl m) m cs i : Nat)) (zI (i : Nat)) M = k57 (zI (m : Nat)) x2 x3 x4 x5 x6 (zI (gst (tl m) m cs n : Nat)) M
  | 0, q, i, hq, hf => by omega
  | f + 1, q, i, hq, hf => by
    obtain ⟨c1, c2, c3⟩ := id C
    have hg : gst (tl m) m cs i ≤ 250 := gst_le i (fun k hk _ => (c3 k (by omega)).2.2.2.2.2.1)
    simp only [pf_makes_6, pf_makes_49, nm_i]
    rw [c1, il_le (by omega) (by omega) (by omega) (by omega)]
    cases q with
    | zero =>
      have : i = n := by omega
      subst this
      rw [if_pos (by omega)]
    | succ q =>
      have hi : i < n := by omega
      obtain ⟨C1, hc⟩ := c3 i hi
      have hs := hc.2.2.2.2.1
      rw [if_neg (by omega), r_isKnown V hm C1 hc (by omega), bd_i, il_B, zL_1, zI_add, show (i : Int) + 1 = ((i + 1 : Nat) : Int) by omega]
      have e : gst (tl m) m cs (i + 1) = if gotB (tl m) m (cs i) then max (gst (tl m) m cs i) (cS (cs i)) else gst (tl m) m cs i := rfl
      have ih := r_makes_6 C V hm (k57 := k57) (x2 := x2) (x3 := x3) (x4 := x4) (x5 := x5) (x6 := x6) f q (i + 1) (by omega) (by omega)
      rw [e] at ih
      cases hgt : gotB (tl m) m (cs i) with
      | false =>
        rw [hgt, if_neg (by decide)] at ih
        rw [if_neg (by decide)]
        exact ih
      | true =>
        rw [hgt, if_pos rfl] at ih
        rw [if_pos rfl]
        simp only [gd_n (show i < 250 by omega) (show (250 : Nat) < 2147483648 by omega), zI_cn (show i < 2147483648 by omega)]
        rw [C1.2.2.1, il_le (by omega) (by omega) (by omega) (by omega)]
        by_cases g : cS (cs i) ≤ gst (tl m) m cs i
        · rw [if_pos (show (cS (cs i) : Int) ≤ (gst (tl m) m cs i : Int) by omega)]
          rw [Nat.max_eq_left g] at ih
          exact ih
        · rw [if_neg (show ¬ (cS (cs i) : Int) ≤ (gst (tl m) m cs i : Int) by omega)]
          rw [Nat.max_eq_right (by omega)] at ih
          exact ih
theorem r_makes_145 {M0 : mS} {k238 : Int32 → Int32 → Int32 → mS → Option (Int32 × mS)} {s : Nat} (hm : m < 4) (hs : s ≤ 251) (hn : n < 250) (hol : o.length = n) (hon : ∀ k ∈ o, k < n) (hcs : ∀ k, k < n → M0.2 23 k = zI (cS (cs k) : Nat) ∧ M0.2 24 k = zI (cM (cs k) : Nat) ∧ cS (cs k) ≤ 250 ∧ cM (cs k) < 4) (h23 : M0.2 23 n = zI (s : Nat)) (hne : ∀ k ∈ o, cR (cs k) ≠ s * 4 + m) : ∀ (f i : Nat) (M : mS), i ≤ n → i < f → rf1 36 M0 M → (∀ j (h : j < o.length), j < i → M.2 36 j = zI (o[j] : Nat)) → (∀ j (h : j < o.length), i ≤ j → M.2 36 (j + 1) = zI (o[j] : Nat)) → (∀ j (h : j < o.length), i ≤ j → s * 4 + m < cR (cs o[j])) → ∃ p M', p ≤ n ∧ pf_makes_145 N k238 f (zI (m : Nat)) (zI (n : Nat)) (zI (i : Nat)) M = k238 (zI (m : Nat)) (zI (n : Nat)) (zI (p : Nat)) M' ∧ rf1 36 M0 M' ∧ (∀ j (h : j < o.length), j < p → M'.2 36 j = zI (o[j] : Nat)) ∧ (∀ j (h : j < o.length), p ≤ j → M'.2 36 (j + 1) = zI (o[j] : Nat)) ∧ (∀ j (h : j < o.length), p ≤ j → s * 4 + m < cR (cs o[j])) ∧ (p = 0 ∨ ∃ h : p - 1 < o.length, cR (cs o[p - 1]) < s * 4 + m)
  | 0, i, M, hi, hf, _, _, _, _ => by omega
  | f + 1, i, M, hi, hf, F, h1, h2, h3 => by
    simp only [pf_makes_145, pf_makes_216, nm_i, sv_i]
    rw [zL_0, il_le (by omega) (by omega) (by omega) (by omega)]
    cases i with
    | zero =>
      rw [if_pos (by omega)]
      exact ⟨0, M, Nat.zero_le _, rfl, F, h1, h2, h3, Or.inl rfl⟩
    | succ i =>
      have hio : i < o.length := by omega
      have hk := hon _ (List.getElem_mem hio)
      obtain ⟨c1, c2, c3, c4⟩ := hcs _ hk
      have hr := hne _ (List.getElem_mem hio)
      unfold cR at hr
      rw [if_neg (by omega), zL_m1, zL_1]
      simp only [zI_sub, zI_add]
      rw [show ((i + 1 : Nat) : Int) - 1 = ((i : Nat) : Int) by omega, show ((i + 1 : Nat) : Int) + -1 = ((i : Nat) : Int) by omega]
      simp only [gd_n (show i < 250 by omega) (show (250 : Nat) < 2147483648 by omega), gd_n (show i + 1 < 250 by omega) (show (250 : Nat) < 2147483648 by omega), gd_n hn (show (250 : Nat) < 2147483648 by omega), zI_cn (show i < 2147483648 by omega), zI_cn (show i + 1 < 2147483648 by omega), zI_cn (show n < 2147483648 by omega), h1 i hio (by omega), gd_n (show o[i] < 250 by omega) (show (250 : Nat) < 2147483648 by omega), zI_cn (show o[i] < 2147483648 by omega)]
      rw [F.2 23 (by omega), F.2 24 (by omega), c1, c2, h23, il_lt (by omega) (by omega) (by omega) (by omega), il_eq (by omega) (by omega) (by omega) (by omega), il_le (by omega) (by omega) (by omega) (by omega)]
      have shift : s * 4 + m < cR (cs o[i]) → ∃ p M', p ≤ n ∧ pf_makes_145 N k238 f (zI (m : Nat)) (zI (n : Nat)) (zI (i : Nat)) (mA M 36 (i + 1) (zI (o[i] : Nat))) = k238 (zI (m : Nat)) (zI (n : Nat)) (zI (p : Nat)) M' ∧ rf1 36 M0 M' ∧ (∀ j (h : j < o.length), j < p → M'.2 36 j = zI (o[j] : Nat)) ∧ (∀ j (h : j < o.length), p ≤ j → M'.2 36 (j + 1) = zI (o[j] : Nat)) ∧ (∀ j (h : j < o.length), p ≤ j → s * 4 + m < cR (cs o[j])) ∧ (p = 0 ∨ ∃ h : p - 1 < o.length, cR (cs o[p - 1]) < s * 4 + m) := fun hlt =>
        r_makes_145 hm hs hn hol hon hcs h23 hne f i (mA M 36 (i + 1) (zI (o[i] : Nat))) (by omega) (by omega) (F.trans rf1_mA) (fun j hj hji => by
          rw [mA_s, upd_o _ _ (by omega)]; exact h1 j hj (by omega)) (fun j hj hji => by
          rw [mA_s]
          by_cases g : j = i
          · subst g; rw [upd_s]
          · rw [upd_o _ _ (by omega)]; exact h2 j hj (by omega)) (fun j hj hji => by
          by_cases g : j = i
          · subst g; exact hlt
          · exact h3 j hj (by omega))
      have stop : ¬ s * 4 + m < cR (cs o[i]) → ∃ p M', p ≤ n ∧ k238 (zI (m : Nat)) (zI (n : Nat)) (zI ((i + 1 : Nat) : Int)) M = k238 (zI (m : Nat)) (zI (n : Nat)) (zI (p : Nat)) M' ∧ rf1 36 M0 M' ∧ (∀ j (h : j < o.length), j < p → M'.2 36 j = zI (o[j] : Nat)) ∧ (∀ j (h : j < o.length), p ≤ j → M'.2 36 (j + 1) = zI (o[j] : Nat)) ∧ (∀ j (h : j < o.length), p ≤ j → s * 4 + m < cR (cs o[j])) ∧ (p = 0 ∨ ∃ h : p - 1 < o.length, cR (cs o[p - 1]) < s * 4 + m) := fun hlt =>
        ⟨i + 1, M, hi, rfl, F, h1, h2, h3, Or.inr ⟨hio, by unfold cR at hlt ⊢; show cS (cs o[i]) * 4 + cM (cs o[i]) < _; omega⟩⟩
      unfold cR at shift stop
      by_cases q1 : s < cS (cs o[i])
      · rw [if_pos (show (s : Int) < (cS (cs o[i]) : Int) by omega)]
        exact shift (by omega)
      · rw [if_neg (show ¬ (s : Int) < (cS (cs o[i]) : Int) by omega)]
        by_cases q2 : cS (cs o[i]) = s
        · rw [if_pos (show (cS (cs o[i]) : Int) = (s : Int) by omega)]
          by_cases q3 : cM (cs o[i]) ≤ m
          · rw [if_pos (show (cM (cs o[i]) : Int) ≤ (m : Int) by omega)]
            exact stop (by omega)
          · rw [if_neg (show ¬ (cM (cs o[i]) : Int) ≤ (m : Int) by omega)]
            exact shift (by omega)
        · rw [if_neg (show ¬ (cS (cs o[i]) : Int) = (s : Int) by omega)]
          exact stop (by omega)
/-- the fields of a made change -/
def rNew (M M' : mS) (n K E : Nat) (X Y W : Int) (m q s : Nat) : Prop := M'.2 23 = upd (M.2 23) n (zI (s : Nat)) ∧ M'.2 24 = upd (M.2 24) n (zI (m : Nat)) ∧ M'.2 25 = upd (M.2 25) n (zI (q : Nat)) ∧ M'.2 26 = upd (M.2 26) n (zI (K : Nat)) ∧ M'.2 27 = upd (M.2 27) n (zI (E : Nat)) ∧ M'.2 28 = upd (M.2 28) n (zI X) ∧ M'.2 29 = upd (M.2 29) n (zI Y) ∧ M'.2 30 = upd (M.2 30) n (zI W)
theorem r_makes (hN : 300 ≤ N) {M : mS} (C : rCs M cs n) (V : rVw M tl) (hm : m < 4) (hn : n < 250) (htl : tl m m m < 250) (hol : o.length = n) (hon : ∀ k ∈ o, k < n) (h36 : ∀ i (h : i < o.length), M.2 36 i = zI (o[i] : Nat)) (hso : o.Pairwise (fun a b => cR (cs a) < cR (cs b))) {K E : Nat} {X Y W : Int} (hne : ∀ k ∈ o, cR (cs k) ≠ (gst (tl m) m cs n + 1) * 4 + m) : ∃ M', pf_makes N (zI (m : Nat)) (zI (K : Nat)) (zI (E : Nat)) (zI X) (zI Y) (zI W) M = some (zI (n : Nat), M') ∧ M'.1 22 = zI ((n + 1 : Nat) : Int) ∧ M'.1 37 = zI (-1) ∧ (∀ q, q ≠ 22 → q ≠ 37 → M'.1 q = M.1 q) ∧ (∀ i (h : i < (ins o (plc cs o ((gst (tl m) m cs n + 1) * 4 + m)) n).length), M'.2 36 i = zI ((ins o (plc cs o ((gst (tl m) m cs n + 1) * 4 + m)) n)[i] : Nat)) ∧ rVw M' (up3 tl m (up2 (tl m) m m (tl m m m + 1))) ∧ rNew M M' n K E X Y W m (tl m m m) (gst (tl m) m cs n + 1) ∧ (∀ c, c ≠ 19 → c ≠ 36 → (c < 23 ∨ 30 < c) → M'.2 c = M.2 c) := by
  obtain ⟨c1, c2, c3⟩ := id C
  have hg : gst (tl m) m cs n ≤ 250 := gst_le n (fun k hk _ => (c3 k (by omega)).2.2.2.2.2.1)
  have e0 := r_makes_6 (N := N) C V hm (k57 := pf_makes_57 N) (x2 := zI (K : Nat)) (x3 := zI (E : Nat)) (x4 := zI X) (x5 := zI Y) (x6 := zI W) N n 0 (by omega) (by omega)
  have e0 : pf_makes N (zI (m : Nat)) (zI (K : Nat)) (zI (E : Nat)) (zI X) (zI Y) (zI W) M = _ := e0
  rw [e0]
  simp only [pf_makes_57, nm_i, sv_i]
  rw [c1, zL_21, zI_mul, zL_1, zI_add, show (21 : Int) * (m : Int) = ((21 * m : Nat) : Int) by omega, show (gst (tl m) m cs n : Int) + 1 = ((gst (tl m) m cs n + 1 : Nat) : Int) by omega]
  simp only [gd_n hn (show (250 : Nat) < 2147483648 by omega), zI_cn (show n < 2147483648 by omega), gd_n (show 21 * m < 64 by omega) (show (64 : Nat) < 2147483648 by omega), zI_cn (show 21 * m < 2147483648 by omega)]
  rw [mA_o _ _ _ (show (19 : Nat) ≠ 24 by omega), mA_o _ _ _ (show (19 : Nat) ≠ 23 by omega), show 21 * m = 16 * m + 4 * m + m by omega, (V m m m hm hm hm).1]
  generalize hM9 : mA (mA (mA (mA (mA (mA (mA (mA M 23 n (zI ((gst (tl m) m cs n + 1 : Nat) : Int))) 24 n (zI (m : Nat))) 25 n (zI (tl m m m : Nat))) 26 n (zI (K : Nat))) 27 n (zI (E : Nat))) 28 n (zI X)) 29 n (zI Y)) 30 n (zI W) = M9
  have g1 : M9.1 = M.1 := by rw [← hM9]; rfl
  have go : ∀ c, (c < 23 ∨ 30 < c) → M9.2 c = M.2 c := fun c hc => by
    rw [← hM9, mA_o _ _ _ (by omega), mA_o _ _ _ (by omega), mA_o _ _ _ (by omega), mA_o _ _ _ (by omega), mA_o _ _ _ (by omega), mA_o _ _ _ (by omega), mA_o _ _ _ (by omega), mA_o _ _ _ (by omega)]
  have g23 : M9.2 23 = upd (M.2 23) n (zI ((gst (tl m) m cs n + 1 : Nat) : Int)) := by
    rw [← hM9, mA_o _ _ _ (by omega), mA_o _ _ _ (by omega), mA_o _ _ _ (by omega), mA_o _ _ _ (by omega), mA_o _ _ _ (by omega), mA_o _ _ _ (by omega), mA_o _ _ _ (by omega), mA_s]
  have g24 : M9.2 24 = upd (M.2 24) n (zI (m : Nat)) := by
    rw [← hM9, mA_o _ _ _ (by omega), mA_o _ _ _ (by omega), mA_o _ _ _ (by omega), mA_o _ _ _ (by omega), mA_o _ _ _ (by omega), mA_o _ _ _ (by omega), mA_s, mA_o _ _ _ (by omega)]
  have g25 : M9.2 25 = upd (M.2 25) n (zI (tl m m m : Nat)) := by
    rw [← hM9, mA_o _ _ _ (by omega), mA_o _ _ _ (by omega), mA_o _ _ _ (by omega), mA_o _ _ _ (by omega), mA_o _ _ _ (by omega), mA_s, mA_o _ _ _ (by omega), mA_o _ _ _ (by omega)]
  have g26 : M9.2 26 = upd (M.2 26) n (zI (K : Nat)) := by
    rw [← hM9, mA_o _ _ _ (by omega), mA_o _ _ _ (by omega), mA_o _ _ _ (by omega), mA_o _ _ _ (by omega), mA_s, mA_o _ _ _ (by omega), mA_o _ _ _ (by omega), mA_o _ _ _ (by omega)]
  have g27 : M9.2 27 = upd (M.2 27) n (zI (E : Nat)) := by
    rw [← hM9, mA_o _ _ _ (by omega), mA_o _ _ _ (by omega), mA_o _ _ _ (by omega), mA_s, mA_o _ _ _ (by omega), mA_o _ _ _ (by omega), mA_o _ _ _ (by omega), mA_o _ _ _ (by omega)]
  have g28 : M9.2 28 = upd (M.2 28) n (zI X) := by
    rw [← hM9, mA_o _ _ _ (by omega), mA_o _ _ _ (by omega), mA_s, mA_o _ _ _ (by omega), mA_o _ _ _ (by omega), mA_o _ _ _ (by omega), mA_o _ _ _ (by omega), mA_o _ _ _ (by omega)]
  have g29 : M9.2 29 = upd (M.2 29) n (zI Y) := by
    rw [← hM9, mA_o _ _ _ (by omega), mA_s, mA_o _ _ _ (by omega), mA_o _ _ _ (by omega), mA_o _ _ _ (by omega), mA_o _ _ _ (by omega), mA_o _ _ _ (by omega), mA_o _ _ _ (by omega)]
  have g30 : M9.2 30 = upd (M.2 30) n (zI W) := by
    rw [← hM9, mA_s, mA_o _ _ _ (by omega), mA_o _ _ _ (by omega), mA_o _ _ _ (by omega), mA_o _ _ _ (by omega), mA_o _ _ _ (by omega), mA_o _ _ _ (by omega), mA_o _ _ _ (by omega)]
  obtain ⟨p, M', hp, e1, F, h1, h2, h3, h4⟩ := r_makes_145 (N := N) (M0 := M9) (k238 := pf_makes_238 N) (cs := cs) (o := o) (s := gst (tl m) m cs n + 1) hm (by omega) hn hol hon (fun k hk => by
    have C1 := (c3 k hk).1
    have hc := (c3 k hk).2
    rw [g23, g24, upd_o _ _ (by omega), upd_o _ _ (by omega)]
    exact ⟨C1.2.2.1, C1.2.2.2.1, hc.2.2.2.2.1, hc.2.2.1⟩) (by rw [g23, upd_s]) hne N n M9 (by omega) (by omega) rf1.rf (fun j hj hjn => by rw [go 36 (by omega)]; exact h36 j hj) (fun j hj hjn => by omega) (fun j hj hjn => by omega)
  have hpl := plc_of (cs := cs) (r := (gst (tl m) m cs n + 1) * 4 + m) hso (p := p) (by omega) h3 h4
  rw [e1, ← hpl]
  simp only [pf_makes_238, sv_i]
  rw [mI_2, zL_21, zI_mul, zL_m1, zL_1, show (21 : Int) * (m : Int) = ((21 * m : Nat) : Int) by omega, mA_1, F.1, g1, c1]
  simp only [gd_n (show p < 250 by omega) (show (250 : Nat) < 2147483648 by omega), zI_cn (show p < 2147483648 by omega), gd_n (show 21 * m < 64 by omega) (show (64 : Nat) < 2147483648 by omega), zI_cn (show 21 * m < 2147483648 by omega), zI_add]
  have v0 : (mA M' 36 p (zI (n : Nat))).2 19 (21 * m) = zI (tl m m m : Nat) := by
    rw [mA_o _ _ _ (by omega), F.2 19 (by omega), go 19 (by omega), show 21 * m = 16 * m + 4 * m + m by omega]
    exact (V m m m hm hm hm).1
  rw [v0, zI_add]
  refine ⟨_, rfl, ?_, ?_, fun q h5 h6 => ?_, fun i hi => ?_, ?_, ?_, fun c h5 h6 h7 => ?_⟩
  · rw [mI_1, upd_o _ _ (by omega), mA_1, mI_1, upd_s]; congr 1
  · rw [mI_1, upd_s]
  · rw [mI_1, upd_o _ _ h6, mA_1, mI_1, upd_o _ _ h5, mA_1, F.1, g1]
  · rw [mI_2, mA_o _ _ _ (by omega), mI_2, mA_s]
    have hg := ins_get (o := o) (p := p) (k := n) (i := i) (by omega)
    rw [List.getElem?_eq_getElem hi] at hg
    rw [ins_len (by omega)] at hi
    by_cases q1 : i < p
    · rw [if_pos q1, List.getElem?_eq_getElem (by omega)] at hg
      rw [Option.some.inj hg, upd_o _ _ (by omega)]
      exact h1 i (by omega) q1
    · rw [if_neg q1] at hg
      by_cases q2 : i = p
      · rw [if_pos q2] at hg
        rw [Option.some.inj hg, q2, upd_s]
      · rw [if_neg q2, List.getElem?_eq_getElem (by omega)] at hg
        rw [Option.some.inj hg, upd_o _ _ q2]
        have := h2 (i - 1) (by omega) (by omega)
        rw [show i - 1 + 1 = i by omega] at this
        exact this
  · intro a b d ha hb hd
    rw [mI_2, mA_s, mI_2, mA_o _ _ _ (by omega), F.2 19 (by omega), go 19 (by omega)]
    obtain ⟨v1, v2⟩ := V a b d ha hb hd
    by_cases q : a = m ∧ b = m ∧ d = m
    · obtain ⟨q1, q2, q3⟩ := q
      subst q1; subst q2; subst q3
      rw [show 16 * d + 4 * d + d = 21 * d by omega, upd_s, up3_s, up2_s]
      exact ⟨by congr 1, by omega⟩
    · have e : up3 tl m (up2 (tl m) m m (tl m m m + 1)) a b d = tl a b d := by
        by_cases q1 : a = m
        · subst q1
          rw [up3_s, up2_o _ _ (fun h => q ⟨rfl, h.1, h.2⟩)]
        · rw [up3_o _ _ q1]
      rw [upd_o _ _ (fun h => q (idx21 a ha b hb d hd m hm h)), e]
      exact ⟨v1, v2⟩
  · have fo : ∀ c, c ≠ 36 → c ≠ 19 → (mI (mA (mI (mA M' 36 p (zI (n : Nat))) 22 (zI ((n : Int) + 1))) 19 (21 * m) (zI ((tl m m m : Int) + 1))) 37 (zI (-1))).2 c = M9.2 c := fun c a b => by
      rw [mI_2, mA_o _ _ _ b, mI_2, mA_o _ _ _ a, F.2 c a]
    exact ⟨by rw [← g23]; exact fo _ (by omega) (by omega), by rw [← g24]; exact fo _ (by omega) (by omega), by rw [← g25]; exact fo _ (by omega) (by omega), by rw [← g26]; exact fo _ (by omega) (by omega), by rw [← g27]; exact fo _ (by omega) (by omega), by rw [← g28]; exact fo _ (by omega) (by omega), by rw [← g29]; exact fo _ (by omega) (by omega), by rw [← g30]; exact fo _ (by omega) (by omega)⟩
  · rw [mI_2, mA_o _ _ _ h5, mI_2, mA_o _ _ _ h6, F.2 c h6, go c h7]
end RM
