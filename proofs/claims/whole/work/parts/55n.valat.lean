-- LEVEL 2, CALLS: VALUE AT
theorem cP_lt {α : Type} {p q : α → Bool} : ∀ {l : List α} {x : α}, (∀ y, p y = true → q y = true) → x ∈ l → q x = true → p x = false → l.countP p < l.countP q
  | [], x, _, hx, _, _ => absurd hx List.not_mem_nil
  | y :: l, x, h, hx, h1, h2 => by
    rw [List.countP_cons, List.countP_cons]
    rcases List.mem_cons.mp hx with rfl | hx
    · have hm : l.countP p ≤ l.countP q := List.countP_mono_left (fun y _ => h y)
      rw [if_pos h1, if_neg (by rw [h2]; decide)]
      omega
    · have ih := cP_lt h hx h1 h2
      by_cases g : p y = true
      · rw [if_pos g, if_pos (h y g)]; omega
      · rw [if_neg g]; omega
theorem cP_one {l : List (Nat × Nat × Nat)} (h : l.Nodup) {x : Nat × Nat × Nat} (hx : x ∈ l) : l.countP (fun y => decide (y = x)) = 1 := by
  induction l with
  | nil => exact absurd hx List.not_mem_nil
  | cons y l ih =>
    have hn := List.nodup_cons.mp h
    rw [List.countP_cons]
    by_cases g : y = x
    · subst g
      have z : l.countP (fun z => decide (z = y)) = 0 := by
        rw [List.countP_eq_zero]
        intro z hz
        rw [decide_eq_true_eq]
        intro e
        exact hn.1 (e ▸ hz)
      rw [z, if_pos (decide_eq_true rfl)]
    · rcases List.mem_cons.mp hx with e | hx
      · exact absurd e.symm g
      · rw [ih hn.2 hx, if_neg (by rw [decide_eq_true_eq]; exact g)]
theorem cP_add {α : Type} {p q r : α → Bool} : ∀ {l : List α}, (∀ y ∈ l, (if r y then 1 else 0) = (if p y then 1 else 0) + (if q y then 1 else 0)) → l.countP r = l.countP p + l.countP q
  | [], _ => rfl
  | y :: l, h => by
    have ih := cP_add (l := l) (fun z hz => h z (List.mem_cons_of_mem _ hz))
    have hy := h y List.mem_cons_self
    rw [List.countP_cons, List.countP_cons, List.countP_cons, ih]
    omega
/-- how many values of an attribute are less -/
def cLs (T : sT) (e a v : Nat) : Nat := (tVs T).countP (fun x => decide (x.1 = e) && (decide (x.2.1 = a) && decide (x.2.2 < v)))
section O9
variable {N : Nat} {S : kS} {M : mS} {W : sW} {T : sT}
theorem cLs_cnt {e a v : Nat} (h : (e, a, v) ∈ tVs T) : cLs T e a v < tCnt T e a := cP_lt (fun y hy => by
    simp only [Bool.and_eq_true, decide_eq_true_eq] at hy ⊢
    exact ⟨hy.1, hy.2.1⟩) h (by simp) (by simp)
theorem cLs_lt {e a v w : Nat} (h : (e, a, v) ∈ tVs T) (hw : v < w) : cLs T e a v < cLs T e a w := cP_lt (fun y hy => by
    simp only [Bool.and_eq_true, decide_eq_true_eq] at hy ⊢
    exact ⟨hy.1, hy.2.1, by omega⟩) h (by simp [hw]) (by simp)
theorem tVal_one {e a idx : Nat} {r q : Int} (h1 : tVal T e a idx r) (h2 : tVal T e a idx q) : r = q := by
  rcases h1 with ⟨a1, a2⟩ | ⟨v, a1, a2, a3⟩
  · rcases h2 with ⟨b1, b2⟩ | ⟨w, b1, b2, b3⟩
    · rw [a2, b2]
    · have b3 : cLs T e a w = idx := b3
      have := cLs_cnt b2
      omega
  · have a3 : cLs T e a v = idx := a3
    rcases h2 with ⟨b1, b2⟩ | ⟨w, b1, b2, b3⟩
    · have := cLs_cnt a2
      omega
    · have b3 : cLs T e a w = idx := b3
      rcases Nat.lt_trichotomy v w with g | g | g
      · have := cLs_lt a2 g; omega
      · rw [a1, b1, g]
      · have := cLs_lt b2 g; omega
/-- one more, if nothing lies between -/
theorem cLs_next (hn : (tVs T).Nodup) {e a v w : Nat} (h : (e, a, v) ∈ tVs T) (hw : v < w) (no : ∀ u, (e, a, u) ∈ tVs T → v < u → w ≤ u) : cLs T e a w = cLs T e a v + 1 := by
  rw [← cP_one hn h]
  refine cP_add (fun y hy => ?_)
  obtain ⟨y1, y2, y3⟩ := y
  have hyn := no y3
  by_cases q : y1 = e ∧ y2 = a
  · obtain ⟨rfl, rfl⟩ := q
    have hyn := hyn hy
    by_cases g1 : y3 < v
    · have : ¬ y3 = v := by omega
      simp [g1, show y3 < w by omega, this]
    · by_cases g2 : y3 = v
      · subst g2; simp [hw]
      · have : ¬ y3 < w := by have := hyn (by omega); omega
        simp [g1, g2, this]
  · have e1 : ¬ ((y1, y2, y3) = (e, a, v)) := fun h => q ⟨congrArg (·.1) h, congrArg (·.2.1) h⟩
    have e2 : ∀ z : Nat, (decide (y1 = e) && (decide (y2 = a) && decide (y3 < z))) = false := fun z => by
      by_cases g : y1 = e
      · have : ¬ y2 = a := fun h => q ⟨g, h⟩
        simp [this]
      · simp [g]
    simp only [e2, decide_eq_false e1]
    rfl
theorem r_valueAt_63 (R : rT M T) (Wt : tW T) {e a : Nat} (he : e < 48) (ha : a < 10) {at_ : Int} (h1 : -1 ≤ at_) (h2 : at_ ≤ 1000) {k150 : Int32 → Int32 → Int32 → Int32 → Int32 → mS → Option (Int32 × mS)} {x4 x6 : Int32} : ∀ (n k i w : Nat), i + k = (tVs T).length → k < n → w ≤ 1000 → ∃ w' : Nat, pf_valueAt_63 N k150 n (zI (e : Nat)) (zI (a : Nat)) x4 (zI at_) x6 (zI (w : Nat)) (zI (i : Nat)) M = k150 (zI (e : Nat)) (zI (a : Nat)) x4 x6 (zI (w' : Nat)) M ∧ w' ≤ w ∧ (w' = w ∨ ((e, a, w') ∈ tVs T ∧ at_ < (w' : Int))) ∧ ∀ (j v : Nat), i ≤ j → (tVs T)[j]? = some (e, a, v) → at_ < (v : Int) → w' ≤ v
  | 0, k, i, w, hk, hn, hw => by omega
  | n + 1, k, i, w, hk, hn, hw => by
    obtain ⟨v1, v2, v3⟩ := R.2.2.2.2.2.2.1
    simp only [pf_valueAt_63, pf_valueAt_123, pf_valueAt_142, nm_i]
    rw [v1, il_le (by omega) (by omega) (by omega) (by omega)]
    cases k with
    | zero =>
      rw [if_pos (by omega)]
      exact ⟨w, rfl, Nat.le_refl _, Or.inl rfl, fun j v hj hv _ => by
        have := (List.getElem?_eq_some_iff.mp hv).1
        omega⟩
    | succ k =>
      have hi : i < (tVs T).length := by omega
      have hget := List.getElem?_eq_getElem hi
      obtain ⟨x1, x2, x3⟩ := v3 i _ hget
      have hmem := List.getElem_mem hi
      obtain ⟨o1, o2, o3⟩ := tW_v Wt _ hmem
      rw [if_neg (by omega)]
      simp only [gd_n (show i < 900 by omega) (show (900 : Nat) < 2147483648 by omega), zI_cn (show i < 2147483648 by omega)]
      rw [x1, il_eq (by omega) (by omega) (by omega) (by omega), x2, il_eq (by omega) (by omega) (by omega) (by omega), x3, il_le (by omega) (by omega) (by omega) (by omega), il_le (by omega) (by omega) (by omega) (by omega), show zI (i : Nat) + 1 = zI ((i + 1 : Nat) : Int) by rw [zL_1, zI_add]; congr 1]
      have skip : (∀ v, (tVs T)[i] = (e, a, v) → at_ < (v : Int) → w ≤ v) → ∃ w' : Nat, pf_valueAt_63 N k150 n (zI (e : Nat)) (zI (a : Nat)) x4 (zI at_) x6 (zI (w : Nat)) (zI ((i + 1 : Nat) : Int)) M = k150 (zI (e : Nat)) (zI (a : Nat)) x4 x6 (zI (w' : Nat)) M ∧ w' ≤ w ∧ (w' = w ∨ ((e, a, w') ∈ tVs T ∧ at_ < (w' : Int))) ∧ ∀ (j v : Nat), i ≤ j → (tVs T)[j]? = some (e, a, v) → at_ < (v : Int) → w' ≤ v := fun hs => by
        obtain ⟨w', e1, e2, e3, e4⟩ := r_valueAt_63 R Wt he ha h1 h2 (k150 := k150) (x4 := x4) (x6 := x6) n k (i + 1) w (by omega) (by omega) hw
        refine ⟨w', e1, e2, e3, fun j v hj hv hlt => ?_⟩
        by_cases g : j = i
        · subst g
          rw [hget] at hv
          have := hs v (Option.some.inj hv) hlt
          omega
        · exact e4 j v (by omega) hv hlt
      by_cases q1 : (tVs T)[i].1 = e
      · rw [if_pos (show ((tVs T)[i].1 : Int) = (e : Int) by omega)]
        by_cases q2 : (tVs T)[i].2.1 = a
        · rw [if_pos (show ((tVs T)[i].2.1 : Int) = (a : Int) by omega)]
          have hx : (tVs T)[i] = (e, a, (tVs T)[i].2.2) := by rw [← q1, ← q2]
          by_cases q3 : ((tVs T)[i].2.2 : Int) ≤ at_
          · rw [if_pos q3, if_pos trivial]
            exact skip (fun v hv hlt => by rw [hv] at q3; have q3 : (v : Int) ≤ at_ := q3; omega)
          · rw [if_neg q3]
            by_cases q4 : w ≤ (tVs T)[i].2.2
            · rw [if_pos (show (w : Int) ≤ ((tVs T)[i].2.2 : Int) by omega), if_pos trivial]
              exact skip (fun v hv hlt => by rw [hv] at q4; exact q4)
            · rw [if_neg (show ¬ (w : Int) ≤ ((tVs T)[i].2.2 : Int) by omega), if_neg (by decide)]
              obtain ⟨w', e1, e2, e3, e4⟩ := r_valueAt_63 R Wt he ha h1 h2 (k150 := k150) (x4 := x4) (x6 := x6) n k (i + 1) (tVs T)[i].2.2 (by omega) (by omega) (by omega)
              refine ⟨w', e1, by omega, ?_, fun j v hj hv hlt => ?_⟩
              · right
                rcases e3 with e3 | e3
                · rw [e3]
                  exact ⟨hx ▸ hmem, by omega⟩
                · exact e3
              · by_cases g : j = i
                · subst g
                  rw [hget] at hv
                  have : (tVs T)[j].2.2 = v := by rw [Option.some.inj hv]
                  omega
                · exact e4 j v (by omega) hv hlt
        · rw [if_neg (show ¬ ((tVs T)[i].2.1 : Int) = (a : Int) by omega), if_pos trivial]
          exact skip (fun v hv _ => absurd (by rw [hv]) q2)
      · rw [if_neg (show ¬ ((tVs T)[i].1 : Int) = (e : Int) by omega), if_pos trivial]
        exact skip (fun v hv _ => absurd (by rw [hv]) q1)
/-- the value that is the j-th, or none -/
def vNth (T : sT) (e a j : Nat) (at_ : Int) : Prop := (j = 0 ∧ at_ = -1) ∨ (1 ≤ j ∧ at_ = 1000 ∧ tCnt T e a < j) ∨ (1 ≤ j ∧ ∃ v : Nat, at_ = v ∧ (e, a, v) ∈ tVs T ∧ cLs T e a v + 1 = j)
theorem r_valueAt_39 (hN : 901 ≤ N) (R : rT M T) (Wt : tW T) (hn : (tVs T).Nodup) {e a idx : Nat} (he : e < 48) (ha : a < 10) (hi : idx < 2147483648) : ∀ (n k j : Nat) (at_ : Int), j + k = (tVs T).length + 1 → k < n → j ≤ idx + 1 → vNth T e a j at_ → ∃ r : Int, pf_valueAt_39 N (pf_valueAt_160 N) n (zI (e : Nat)) (zI (a : Nat)) (zI (idx : Nat)) (zI at_) (zI (j : Nat)) M = some (zI r, M) ∧ tVal T e a idx r
  | 0, k, j, at_, hk, hn2, _, _ => by omega
  | n + 1, k, j, at_, hk, hn2, hj, hv => by
    obtain ⟨v1, v2, v3⟩ := id R.2.2.2.2.2.2.1
    have hat : -1 ≤ at_ ∧ at_ ≤ 1000 := by
      rcases hv with ⟨-, h⟩ | ⟨-, h, -⟩ | ⟨-, v, h, hm, -⟩
      · omega
      · omega
      · obtain ⟨-, -, o3⟩ := tW_v Wt _ hm
        have o3 : v < 1000 := o3
        omega
    simp only [pf_valueAt_39]
    rw [il_lt (by omega) (by omega) (by omega) (by omega), v1, il_lt (by omega) (by omega) (by omega) (by omega)]
    have fin : j = idx + 1 ∨ j = (tVs T).length + 1 → ∃ r : Int, pf_valueAt_160 N (zI at_) M = some (zI r, M) ∧ tVal T e a idx r := fun hjj => by
      simp only [pf_valueAt_160]
      rw [zL_1000, il_eq (by omega) (by omega) (by omega) (by omega)]
      have hc : tCnt T e a ≤ (tVs T).length := tCnt_le
      rcases hv with ⟨h, -⟩ | ⟨-, h, h3⟩ | ⟨-, v, h, hm, h3⟩
      · omega
      · rw [if_pos h]
        exact ⟨-1, rfl, Or.inl ⟨by omega, rfl⟩⟩
      · obtain ⟨-, -, o3⟩ := tW_v Wt _ hm
        have o3 : v < 1000 := o3
        have hlt := cLs_cnt hm
        rw [if_neg (by omega)]
        refine ⟨at_, rfl, Or.inr ⟨v, h, hm, ?_⟩⟩
        show cLs T e a v = idx
        omega
    by_cases q1 : idx < j
    · rw [if_pos (by omega)]
      exact fin (Or.inl (by omega))
    · rw [if_neg (by omega)]
      by_cases q2 : (tVs T).length < j
      · rw [if_pos (by omega)]
        exact fin (Or.inr (by omega))
      · rw [if_neg (by omega)]
        obtain ⟨w', e1, e2, e3, e4⟩ := r_valueAt_63 (N := N) R Wt he ha hat.1 hat.2 (k150 := pf_valueAt_150 N (pf_valueAt_39 N (pf_valueAt_160 N) n)) (x4 := zI (idx : Nat)) (x6 := zI (j : Nat)) N (tVs T).length 0 1000 (by omega) (by omega) (Nat.le_refl _)
        have e1 : pf_valueAt_63 N (pf_valueAt_150 N (pf_valueAt_39 N (pf_valueAt_160 N) n)) N (zI (e : Nat)) (zI (a : Nat)) (zI (idx : Nat)) (zI at_) (zI (j : Nat)) 1000 0 M = _ := e1
        rw [e1]
        simp only [pf_valueAt_150, nm_i]
        rw [show zI (j : Nat) + 1 = zI ((j + 1 : Nat) : Int) by rw [zL_1, zI_add]; congr 1]
        refine r_valueAt_39 hN R Wt hn he ha hi n (k - 1) (j + 1) (w' : Int) (by omega) (by omega) (by omega) ?_
        have mn : ∀ v, (e, a, v) ∈ tVs T → at_ < (v : Int) → w' ≤ v := fun v hm hlt => by
          obtain ⟨i, hi, hv⟩ := List.mem_iff_getElem.mp hm
          exact e4 i v (Nat.zero_le _) (by rw [List.getElem?_eq_getElem hi, hv]) hlt
        rcases hv with ⟨h, h2⟩ | ⟨-, h, h3⟩ | ⟨h0, v, h, hm, h3⟩
        · right
          rcases e3 with e3 | ⟨e3, e5⟩
          · left
            refine ⟨by omega, by omega, ?_⟩
            have : tCnt T e a = 0 := by
              unfold tCnt
              rw [List.countP_eq_zero]
              intro x hx hp
              simp only [Bool.and_eq_true, decide_eq_true_eq] at hp
              obtain ⟨x1, x2, x3⟩ := x
              obtain ⟨rfl, rfl⟩ := hp
              have := mn x3 hx (by omega)
              have o3 : x3 < 1000 := (tW_v Wt _ hx).2.2
              omega
            omega
          · right
            refine ⟨by omega, w', rfl, e3, ?_⟩
            have : cLs T e a w' = 0 := by
              unfold cLs
              rw [List.countP_eq_zero]
              intro x hx hp
              simp only [Bool.and_eq_true, decide_eq_true_eq] at hp
              obtain ⟨x1, x2, x3⟩ := x
              obtain ⟨rfl, rfl, hlt⟩ := hp
              have hlt : x3 < w' := hlt
              have := mn x3 hx (by omega)
              omega
            omega
        · right; left
          rcases e3 with e3 | ⟨e3, e5⟩
          · exact ⟨by omega, by omega, by omega⟩
          · have o3 : w' < 1000 := (tW_v Wt _ e3).2.2
            omega
        · right
          rcases e3 with e3 | ⟨e3, e5⟩
          · left
            refine ⟨by omega, by omega, ?_⟩
            have h1 : cLs T e a 1000 = cLs T e a v + 1 := cLs_next hn hm (tW_v Wt _ hm).2.2 (fun u hu hlt => by
              have := mn u hu (by omega)
              omega)
            have h2 : cLs T e a 1000 = tCnt T e a := by
              unfold cLs tCnt
              apply List.countP_congr
              intro x hx
              have o3 := (tW_v Wt _ hx).2.2
              simp only [Bool.and_eq_true, decide_eq_true_eq]
              exact ⟨fun g => ⟨g.1, g.2.1⟩, fun g => ⟨g.1, g.2, o3⟩⟩
            omega
          · right
            refine ⟨by omega, w', rfl, e3, ?_⟩
            have := cLs_next hn hm (show v < w' by omega) (fun u hu hlt => mn u hu (by omega))
            omega
theorem op_valueAt (hN : 20000 ≤ N) (h : wOk W) (K : kRel S W) (R : mRel M W) (x y z w : Int32) : opOk 1 0 0 (pX9_valueAt N x y z w S) (pf_valueAt N x y z w M) := by
  obtain ⟨x, h1, h2, rfl⟩ := zI_of x
  obtain ⟨y, h3, h4, rfl⟩ := zI_of y
  obtain ⟨z, h5, h6, rfl⟩ := zI_of z
  obtain ⟨w, h7, h8, rfl⟩ := zI_of w
  have h10 := h.1.1
  simp only [pX9_valueAt, pf_valueAt, pf_valueAt_27, sv_i]
  obtain ⟨M', R', f, ⟨q, e⟩ | ⟨m, hm, rfl, e, L, -⟩⟩ := w_isAt (N := N) hN h (mRel_0 (v := (0 : Int32)) R) h1 h2 h3 h4
  · rw [e, bd_i, il_B, if_neg (by decide), fails_i, bd_i, g_masterNo h1 h2 q, bx_r]
    exact opOk_x rfl rfl (Or.inl ⟨rfl, thr_k⟩) h K (mRel_0 R')
  · have Q := kRel_t h K hm
    rw [e, bd_i, il_B, g_master hm, bx_l, gn_l hm, g_entry Q h3 h4]
    by_cases hl : tLv (wTr W m) y = true
    · have hy := tLv_lt hl
      obtain ⟨e0, rfl⟩ : ∃ e0 : Nat, y = e0 := ⟨y.toNat, by omega⟩
      rw [if_pos hl, if_pos hl, bx_l, g_attribute K.1 h.1 h5 h6]
      simp only [pf_isAttribute]
      have ea : pf_in N (zI z) 0 (M'.1 1 - 1) = some (zB (decide (0 ≤ z) && decide (z ≤ (hA (wH W) : Nat) - 1))) := by
        rw [R'.1.1, zL_1, zI_sub]
        exact r_in (a := 0) h5 h6 (by omega) (by omega) (by omega) (by omega)
      rw [ea, bs_i, zr_B, bd_i, il_B]
      by_cases q : 0 ≤ z ∧ z < (hA (wH W) : Int)
      · obtain ⟨a, rfl⟩ : ∃ a : Nat, z = a := ⟨z.toNat, by omega⟩
        rw [if_pos q, bx_l, if_pos (in_yes (by omega)), g_index h7 h8, zL_0, il_le (by omega) (by omega) h7 h8]
        by_cases q2 : 0 ≤ w
        · obtain ⟨i, rfl⟩ : ∃ i : Nat, w = i := ⟨w.toNat, by omega⟩
          obtain ⟨r, e2, v2⟩ := q_valueNumbered (N := N) Q (by omega) (e := e0) (a := a) (idx := i) (by omega) (by omega) (by omega)
          have nd := vRs_nodup (tR_vRs Q.1)
          have hlen := L.1.2.2.2.2.2.2.1.2.1
          obtain ⟨r', e3, v3⟩ := r_valueAt_39 (N := N) (by omega) L.1 L.2.1 nd (e := e0) (a := a) (idx := i) (by omega) (by omega) (by omega) N ((tVs (wTr W m)).length + 1) 0 (-1) (by omega) (by omega) (by omega) (Or.inl ⟨rfl, rfl⟩)
          have e3 : pf_valueAt_39 N (pf_valueAt_160 N) N (zI (e0 : Nat)) (zI (a : Nat)) (zI (i : Nat)) (-1) (zI 0) M' = some (zI r', M') := e3
          rw [if_pos q2, if_pos q2, bx_l, e2, bk_i, e3, tVal_one v2 v3]
          exact opOk_v rfl rfl (thr_0 f) h K R'
        · rw [if_neg q2, if_neg q2, bx_r, fails_i, bd_i]
          exact opOk_x rfl rfl (Or.inl ⟨rfl, thr_k⟩) h K (mRel_0 R')
      · rw [if_neg q, bx_r, if_neg (in_no (by omega)), fails_i, bd_i]
        exact opOk_x rfl rfl (Or.inl ⟨rfl, thr_k⟩) h K (mRel_0 R')
    · rw [if_neg hl, if_neg hl, bx_r, fails_i, bd_i]
      exact opOk_x rfl rfl (Or.inl ⟨rfl, thr_k⟩) h K (mRel_0 R')
end O9
