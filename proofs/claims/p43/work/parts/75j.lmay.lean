-- LEVEL 2, THE LAW: WHO MAY DO WHAT
def mxF (f : Nat → Nat) : Nat → Nat → Nat
  | _, 0 => 0
  | i, n + 1 => max (f i) (mxF f (i + 1) n)
theorem mxF_zero {f : Nat → Nat} : ∀ {n i : Nat}, (∀ j, i ≤ j → j < i + n → f j = 0) → mxF f i n = 0
  | 0, _, _ => rfl
  | n + 1, i, h => by
    show max (f i) (mxF f (i + 1) n) = 0
    rw [h i (by omega) (by omega), mxF_zero (fun j a b => h j (by omega) (by omega))]; rfl
theorem mxF_split {f : Nat → Nat} {b : Nat} : ∀ {a i : Nat}, mxF f i (a + b) = max (mxF f i a) (mxF f (i + a) b)
  | 0, i => by
    rw [Nat.zero_add, Nat.add_zero]
    exact (Nat.zero_max _).symm
  | a + 1, i => by
    rw [show a + 1 + b = (a + b) + 1 by omega]
    show max (f i) (mxF f (i + 1) (a + b)) = max (max (f i) (mxF f (i + 1) a)) (mxF f (i + (a + 1)) b)
    rw [mxF_split, Nat.max_assoc, show i + 1 + a = i + (a + 1) by omega]
theorem mxF_one {f : Nat → Nat} {w n : Nat} (hw : w < n) (h : ∀ j, j < n → j ≠ w → f j = 0) : mxF f 0 n = f w := by
  rw [show n = w + (1 + (n - w - 1)) by omega, mxF_split, mxF_split, mxF_zero (fun j _ b => h j (by omega) (by omega)), mxF_zero (f := f) (n := n - w - 1) (fun j a b => h j (by omega) (by omega)), Nat.zero_max, Nat.zero_add]
  show max (max (f w) 0) 0 = f w
  rw [Nat.max_zero, Nat.max_zero]
section LK
variable {N m : Nat} {L : lS} {W : sW} {H : sH} {T : sT}
/-- what a subject's rules tell, near and all taken together -/
def lvv (H : sH) (T : sT) (who e up what s : Nat) : Nat := if tApp H T who s then max (tNear T e s up what) (tSy T e (6 * s + what + 4)) else 0
theorem tNear_le {e up what s : Nat} (hs : ∀ e k, tSy T e k ≤ 2) : tNear T e s up what ≤ 2 := by
  unfold tNear
  split
  · omega
  · exact hs _ _
theorem lvv_eq {who e up what s : Nat} (hs : ∀ e k, tSy T e k ≤ 2) : lvv H T who e up what s = if (tAct H T who e up what s && tDen T e up what s) = true then 2 else if tAct H T who e up what s = true then 1 else 0 := by
  unfold lvv tAct tDen
  have h1 : tNear T e s up what ≤ 2 := tNear_le hs
  have h2 := hs e (6 * s + what + 4)
  generalize tNear T e s up what = a at h1
  generalize tSy T e (6 * s + what + 4) = b at h2
  cases tApp H T who s with
  | false => simp
  | true =>
    have ha : a = 0 ∨ a = 1 ∨ a = 2 := by omega
    have hb : b = 0 ∨ b = 1 ∨ b = 2 := by omega
    rcases ha with rfl | rfl | rfl <;> rcases hb with rfl | rfl | rfl <;> rfl
theorem tDec1_mx {who e up what : Nat} (hs : ∀ e k, tSy T e k ≤ 2) : ∀ {n i : Nat}, tDec1 H T who e up what i n = mxF (lvv H T who e up what) i n
  | 0, i => rfl
  | n + 1, i => by
    show _ = max (lvv H T who e up what i) (mxF (lvv H T who e up what) (i + 1) n)
    rw [← tDec1_mx hs, lvv_eq hs]
    unfold tDec1
    rw [anyF_s, anyF_s]
    cases tAct H T who e up what i <;> cases tDen T e up what i <;> cases anyF (tAct H T who e up what) (i + 1) n <;> cases anyF (fun s => tAct H T who e up what s && tDen T e up what s) (i + 1) n <;> rfl
theorem lvv_le {who e up what s : Nat} (hs : ∀ e k, tSy T e k ≤ 2) : lvv H T who e up what s ≤ 2 := by
  rw [lvv_eq hs]
  split
  · omega
  · split <;> omega
theorem mxF_le {f : Nat → Nat} (h : ∀ j, f j ≤ 2) : ∀ {n i : Nat}, mxF f i n ≤ 2
  | 0, _ => by show 0 ≤ 2; omega
  | n + 1, i => Nat.max_le.mpr ⟨h i, mxF_le h⟩
theorem lq_sort_117 (hN : 1000 ≤ N) (h : lOk W) (R : lRel L W) (hm : m < 4) {its : Bool} {e up r q s c : Nat} (he : e < 12) (hup : up < 100) (hr : r < 2) (hqs : (q < 18 ∧ s = q) ∨ (q = 18 ∧ s = 54)) (hc : c ≤ 2) {x1 x5 x17 : Int32} (K : Int32 → Int32 → Int32 → Int32 → Int32 → Int32 → Int32 → Int32 → Int32 → lS → Option (Int32 × lS)) : pL_sort_117 N K (zB its) (zI (m : Nat)) x1 (zI (e : Nat)) (zI (up : Nat)) (zI (r : Nat)) x5 (zI (c : Nat)) x17 (zI (q : Nat)) L = K (zI (m : Nat)) x1 (zI (e : Nat)) (zI (up : Nat)) (zI (r : Nat)) x5 (zI ((max c (if its then max (tNear (wTr W m) e s up r) (tSy (wTr W m) e (6 * s + r + 4)) else 0) : Nat) : Int)) x17 (zI ((q + 1 : Nat) : Int)) L := by
  have hs2 := (wTr_ok h.1 m).1.2.2.2.2.2.2.2.1
  have tail : ∀ (a b : Nat), a ≤ 2 → b ≤ 2 → pL_sort_192 N K (zI (b : Nat)) (zI (m : Nat)) x1 (zI (e : Nat)) (zI (up : Nat)) (zI (r : Nat)) x5 (zI (c : Nat)) x17 (zI (q : Nat)) (zI (a : Nat)) L = K (zI (m : Nat)) x1 (zI (e : Nat)) (zI (up : Nat)) (zI (r : Nat)) x5 (zI ((max c (max a b) : Nat) : Int)) x17 (zI ((q + 1 : Nat) : Int)) L := fun a b ha hb => by
    simp only [pL_sort_192, pL_sort_208, pL_sort_224, nm_i]
    rw [zs1, il_le (by omega) (by omega) (by omega) (by omega), il_le (by omega) (by omega) (by omega) (by omega), il_le (by omega) (by omega) (by omega) (by omega)]
    have fin : ∀ {d : Nat}, d = max c (max a b) → K (zI (m : Nat)) x1 (zI (e : Nat)) (zI (up : Nat)) (zI (r : Nat)) x5 (zI (d : Nat)) x17 (zI ((q + 1 : Nat) : Int)) L = K (zI (m : Nat)) x1 (zI (e : Nat)) (zI (up : Nat)) (zI (r : Nat)) x5 (zI ((max c (max a b) : Nat) : Int)) x17 (zI ((q + 1 : Nat) : Int)) L := fun {d} g => by rw [g]
    by_cases g1 : c ≤ a
    · rw [if_pos (show (c : Int) ≤ (a : Int) by omega)]
      by_cases g2 : a ≤ b
      · rw [if_pos (show (a : Int) ≤ (b : Int) by omega)]; exact fin (by omega)
      · rw [if_neg (show ¬ (a : Int) ≤ (b : Int) by omega)]; exact fin (by omega)
    · rw [if_neg (show ¬ (c : Int) ≤ (a : Int) by omega)]
      by_cases g2 : c ≤ b
      · rw [if_pos (show (c : Int) ≤ (b : Int) by omega)]; exact fin (by omega)
      · rw [if_neg (show ¬ (c : Int) ≤ (b : Int) by omega)]; exact fin (by omega)
  have far : lba (pL_says N (zI (m : Nat)) (zI (e : Nat)) (zI (q : Nat)) (2 : Int32) (zI (r : Nat)) L) = fun (k : Int32 → lS → Option (Int32 × lS)) => k (zI (tSy (wTr W m) e (6 * s + r + 4) : Nat)) L := by
    funext k
    have h9 := lq_says (N := N) hN h R hm (e := e) (s := 6 * s + r + 4) (x := q) (y := 2) (z := r) he (by omega) (by unfold cde; split <;> omega)
    have h9 : pL_says N (zI (m : Nat)) (zI (e : Nat)) (zI (q : Nat)) (2 : Int32) (zI (r : Nat)) L = _ := h9
    rw [h9, lba_i]
  simp only [pL_sort_117, pL_sort_157]
  rw [il_B]
  cases its with
  | false =>
    rw [if_neg (by decide), if_pos (show zB false = 0 from rfl), if_neg (by decide)]
    exact tail 0 0 (by omega) (by omega)
  | true =>
    rw [if_pos rfl, if_pos rfl, if_neg (show ¬ zB true = 0 by decide), zL_2, il_le (by omega) (by omega) (by omega) (by omega), ← zL_2]
    unfold tNear
    by_cases g : 1 < up
    · rw [if_pos (show (2 : Int) ≤ (up : Int) by omega), if_pos g, far]
      exact tail 0 _ (by omega) (hs2 _ _)
    · rw [if_neg (show ¬ (2 : Int) ≤ (up : Int) by omega), if_neg g, lq_says (N := N) hN h R hm (e := e) (s := 6 * s + r + 2 * up) (x := q) (y := up) (z := r) he (by omega) (by unfold cde; split <;> omega), lba_i, if_neg (show ¬ zB true = 0 by decide), far]
      exact tail _ _ (hs2 _ _) (hs2 _ _)
end LK
