-- LEVEL 2, THE LAW: THE LAST CHANGE THAT TELLS
section LF
variable {N : Nat} {L : lS} {H : sH} {cs : Nat → sCh} {t : Nat → Nat → Nat → Nat} {o : List Nat} {m : Nat}
def lsG (p : sCh → Bool) (f : sCh → Int) (d : Int) (cs : Nat → sCh) (l : List Nat) : Int := l.foldl (fun r k => if p (cs k) then f (cs k) else r) d
theorem lsG_snoc {p : sCh → Bool} {f : sCh → Int} {d : Int} {l : List Nat} {k : Nat} : lsG p f d cs (l ++ [k]) = if p (cs k) then f (cs k) else lsG p f d cs l := by
  unfold lsG
  rw [List.foldl_append]; rfl
theorem knl_snoc {tl : Nat → Nat → Nat} {i : Nat} (hi : i < o.length) : knl tl m cs (o.take (i + 1)) = if gotB tl m (cs o[i]) then knl tl m cs (o.take i) ++ [o[i]] else knl tl m cs (o.take i) := by
  unfold knl
  rw [List.take_succ_eq_append_getElem hi, List.filter_append, List.filter_cons]
  split
  · rfl
  · rw [List.filter_nil, List.append_nil]
def pK (kk e : Nat) (c : sCh) : Bool := decide (cK c = kk) && decide (cE c = e)
theorem zm1 (i : Nat) : zI (i : Nat) + (-1 : Int32) = zI (((i : Nat) : Int) - 1) := by
  rw [zL_m1, zI_add]
  congr 1
theorem lq_last_7 (R : ldR L H cs t o) (hm : m < 4) (ho : o.length ≤ 40) (ht : ∀ j, j < 4 → t m m j < 1000) (hO : ∀ k ∈ o, cOk (cs k)) (hl : ∀ k ∈ o, lcOk (cs k)) {kk e : Nat} (hk : kk < 8) (he : e < 12) : ∀ (n i : Nat), i ≤ o.length → i < n → pL_last_7 N (pL_last_41 N) n (zI (m : Nat)) (zI (kk : Nat)) (zI (e : Nat)) (zI (((i : Nat) : Int) - 1)) L = some (zI (lsG (pK kk e) lA (-5) cs (knl (t m) m cs (o.take i))), L)
  | 0, i, _, hn => by omega
  | n + 1, i, hi, hn => by
    obtain ⟨r1, r2, r3, r4⟩ := id R
    simp only [pL_last_7, pL_last_47, pL_last_41, nm_i]
    rw [zL_0, il_lt (by omega) (by omega) (by omega) (by omega)]
    cases i with
    | zero =>
      rw [if_pos (by omega)]
      rfl
    | succ i =>
      have hi' : i < o.length := by omega
      have hmem : o[i] ∈ o := List.getElem_mem hi'
      have C := r3 i hi'
      have hc := hO _ hmem
      have hlc := hl _ hmem
      have hcE := hlc.1
      have hcK := hc.1
      have ih := lq_last_7 R hm ho ht hO hl hk he n i (by omega) (by omega)
      rw [show (((i + 1 : Nat) : Int) - 1) = (i : Nat) by omega, if_neg (by omega), gd_c (by omega) (by omega), zI_cn (by omega), C.2.2.1, show (16 : Int32) = zI ((16 : Nat) : Int) from rfl, zI_mul, zI_add, il_eq (by omega) (by omega) (by omega) (by omega), q_known hm (by omega) C hc r4 (ht _ hc.2.2.1), lba_i, ← zL_0, il_B, zm1, knl_snoc hi']
      by_cases g : ((16 * cK (cs o[i]) + cE (cs o[i]) : Nat) : Int) = ((16 : Nat) : Int) * (kk : Int) + (e : Int)
      · have g1 : cK (cs o[i]) = kk ∧ cE (cs o[i]) = e := by omega
        have hp : pK kk e (cs o[i]) = true := by unfold pK; rw [g1.1, g1.2]; simp
        rw [if_pos g]
        cases gotB (t m) m (cs o[i]) with
        | false =>
          rw [if_neg (by decide), if_neg (by decide)]
          exact ih
        | true =>
          rw [if_pos rfl, if_pos rfl, lsG_snoc, if_pos hp, gd_c (by omega) (by omega), C.2.2.2.1 (by omega)]
      · have hp : ¬ pK kk e (cs o[i]) = true := by
          unfold pK
          rw [Bool.and_eq_true, decide_eq_true_eq, decide_eq_true_eq]
          omega
        rw [if_neg g]
        have : lsG (pK kk e) lA (-5) cs (if gotB (t m) m (cs o[i]) = true then knl (t m) m cs (o.take i) ++ [o[i]] else knl (t m) m cs (o.take i)) = lsG (pK kk e) lA (-5) cs (knl (t m) m cs (o.take i)) := by
          split
          · rw [lsG_snoc, if_neg hp]
          · rfl
        rw [this]
        exact ih
/-- what a rule's subject, scope and right are in the column a -/
def cde (s : Nat) : Nat := if s < 324 then s else s - 216
def pS (e s : Nat) (c : sCh) : Bool := pK 6 e c && decide (cX c = (s : Int))
theorem lq_says_8 (R : ldR L H cs t o) (hm : m < 4) (ho : o.length ≤ 40) (ht : ∀ j, j < 4 → t m m j < 1000) (hO : ∀ k ∈ o, cOk (cs k)) (hl : ∀ k ∈ o, lcOk (cs k)) {e s : Nat} {x y z : Nat} (he : e < 12) (hs : s < 108 ∨ (324 ≤ s ∧ s < 330)) (hx : 6 * x + 2 * y + z = cde s) : ∀ (n i : Nat), i ≤ o.length → i < n → pL_says_8 N (pL_says_59 N) n (zI (m : Nat)) (zI (e : Nat)) (zI (x : Nat)) (zI (y : Nat)) (zI (z : Nat)) (zI (((i : Nat) : Int) - 1)) L = some (zI (lsG (pS e s) cY 0 cs (knl (t m) m cs (o.take i))), L)
  | 0, i, _, hn => by omega
  | n + 1, i, hi, hn => by
    obtain ⟨r1, r2, r3, r4⟩ := id R
    have hcd : cde s < 120 := by unfold cde; split <;> omega
    simp only [pL_says_8, pL_says_65, pL_says_59, nm_i]
    rw [zL_0, il_lt (by omega) (by omega) (by omega) (by omega)]
    cases i with
    | zero =>
      rw [if_pos (by omega)]
      rfl
    | succ i =>
      have hi' : i < o.length := by omega
      have hmem : o[i] ∈ o := List.getElem_mem hi'
      have C := r3 i hi'
      have hc := hO _ hmem
      have hlc := hl _ hmem
      have hcE := hlc.1
      have hcK := hc.1
      have ih := lq_says_8 R hm ho ht hO hl he hs hx n i (by omega) (by omega)
      have e2 : (((6 : Int32) * zI (x : Nat)) + ((2 : Int32) * zI (y : Nat))) + zI (z : Nat) = zI ((cde s : Nat) : Int) := by
        rw [zL_6, zL_2, zI_mul, zI_mul, zI_add, zI_add, ← hx]
        congr 1
      have g41 : ∀ {β : Type} {K : Option β}, gd (zI (i : Nat)) 41 K = K := gd_c (by omega) (by omega)
      rw [show (((i + 1 : Nat) : Int) - 1) = (i : Nat) by omega, if_neg (by omega), zI_cn (by omega), C.2.2.1, show (96 : Int32) = zI ((96 : Nat) : Int) from rfl, zI_add, il_eq (by omega) (by omega) (by omega) (by omega), q_known hm (by omega) C hc r4 (ht _ hc.2.2.1), lba_i, ← zL_0, il_B, zm1, knl_snoc hi', e2]
      simp only [g41]
      have skip : ∀ {hp : ¬ pS e s (cs o[i]) = true}, lsG (pS e s) cY 0 cs (if gotB (t m) m (cs o[i]) = true then knl (t m) m cs (o.take i) ++ [o[i]] else knl (t m) m cs (o.take i)) = lsG (pS e s) cY 0 cs (knl (t m) m cs (o.take i)) := fun {hp} => by
        split
        · rw [lsG_snoc, if_neg hp]
        · rfl
      by_cases g : ((16 * cK (cs o[i]) + cE (cs o[i]) : Nat) : Int) = ((96 : Nat) : Int) + (e : Int)
      · have g1 : cK (cs o[i]) = 6 ∧ cE (cs o[i]) = e := by omega
        have hrl := hlc.2.2.2.2.2.1 g1.1
        have hrk := hc.2.2.2.2.2.2.2.2.2.1 g1.1
        have eA : lA (cs o[i]) = if cX (cs o[i]) < 324 then cX (cs o[i]) else cX (cs o[i]) - 216 := by unfold lA; rw [if_neg (by omega), if_pos g1.1]
        have eq : (lA (cs o[i]) = ((cde s : Nat) : Int)) ↔ cX (cs o[i]) = (s : Int) := by
          rw [eA]
          unfold cde
          split <;> split <;> omega
        have hA2 : -1000 ≤ lA (cs o[i]) ∧ lA (cs o[i]) < 1000 := by rw [eA]; split <;> omega
        rw [if_pos g, C.2.2.2.1 (by omega), il_eq (by omega) (by omega) (by omega) (by omega)]
        by_cases q : cX (cs o[i]) = (s : Int)
        · have hp : pS e s (cs o[i]) = true := by unfold pS pK; rw [g1.1, g1.2, q]; simp
          rw [if_pos (eq.mpr q)]
          cases gotB (t m) m (cs o[i]) with
          | false =>
            rw [if_neg (by decide), if_neg (by decide)]
            exact ih
          | true =>
            rw [if_pos rfl, if_pos rfl, lsG_snoc, if_pos hp, C.2.2.2.2.1 (Or.inr g1.1)]
        · have hp : ¬ pS e s (cs o[i]) = true := by
            unfold pS
            rw [Bool.and_eq_true, decide_eq_true_eq]
            exact fun r => q r.2
          rw [if_neg (fun r => q (eq.mp r)), skip (hp := hp)]
          exact ih
      · have hp : ¬ pS e s (cs o[i]) = true := by
          unfold pS pK
          rw [Bool.and_eq_true, Bool.and_eq_true, decide_eq_true_eq, decide_eq_true_eq]
          omega
        rw [if_neg g, skip (hp := hp)]
        exact ih
end LF
-- what a change does to names, links, rules, what is there
section LG
variable {H : sH} {T : sT} {c : sCh} {e : Nat}
theorem upf_if {α : Type} (f : Nat → α) (k j : Nat) (v : α) : upf f k v j = if k = j then v else f j := by
  unfold upf
  by_cases g : j = k
  · rw [if_pos g, if_pos g.symm]
  · rw [if_neg g, if_neg (fun q => g q.symm)]
theorem tNm_take : tNm (tTake H T c) e = if cK c = 0 ∧ cE c = e then cW c else if cK c = 4 ∧ cE c = e then cX c else tNm T e := by
  unfold tTake
  by_cases k0 : cK c = 0
  · rw [if_pos k0]
    show upf (tNm T) (cE c) (cW c) e = _
    rw [upf_if]
    by_cases g : cE c = e
    · rw [if_pos g, if_pos ⟨k0, g⟩]
    · rw [if_neg g, if_neg (fun q => g q.2), if_neg (fun q => g q.2)]
  · rw [if_neg k0, if_neg (show ¬ (cK c = 0 ∧ cE c = e) from fun q => k0 q.1)]
    by_cases k4 : cK c = 4
    · rw [if_neg (show ¬ cK c = 1 by omega), if_neg (show ¬ cK c = 2 by omega), if_neg (show ¬ cK c = 3 by omega), if_pos k4]
      show upf (tNm T) (cE c) (cX c) e = _
      rw [upf_if]
      by_cases g : cE c = e
      · rw [if_pos g, if_pos ⟨k4, g⟩]
      · rw [if_neg g, if_neg (fun q => g q.2)]
    · rw [if_neg (show ¬ (cK c = 4 ∧ cE c = e) from fun q => k4 q.1), if_neg k4]
      repeat' split
      all_goals rfl
theorem tTh_take : tTh (tTake H T c) e = if cK c = 0 ∧ cE c = e then true else tTh T e := by
  unfold tTake
  by_cases k0 : cK c = 0
  · rw [if_pos k0]
    show upf (tTh T) (cE c) true e = _
    rw [upf_if]
    by_cases g : cE c = e
    · rw [if_pos g, if_pos ⟨k0, g⟩]
    · rw [if_neg g, if_neg (fun q => g q.2)]
  · rw [if_neg k0, if_neg (show ¬ (cK c = 0 ∧ cE c = e) from fun q => k0 q.1)]
    repeat' split
    all_goals rfl
theorem tLk_take : tLk (tTake H T c) e = if cK c = 5 ∧ cE c = e then cX c else tLk T e := by
  unfold tTake
  by_cases k5 : cK c = 5
  · rw [if_neg (show ¬ cK c = 0 by omega), if_neg (show ¬ cK c = 1 by omega), if_neg (show ¬ cK c = 2 by omega), if_neg (show ¬ cK c = 3 by omega), if_neg (show ¬ cK c = 4 by omega), if_pos k5]
    show upf (tLk T) (cE c) (cX c) e = _
    rw [upf_if]
    by_cases g : cE c = e
    · rw [if_pos g, if_pos ⟨k5, g⟩]
    · rw [if_neg g, if_neg (fun q => g q.2)]
  · rw [if_neg (show ¬ (cK c = 5 ∧ cE c = e) from fun q => k5 q.1), if_neg k5]
    repeat' split
    all_goals rfl
theorem tSy_take {s : Nat} : tSy (tTake H T c) e s = if cK c = 6 ∧ cE c = e ∧ (cX c).toNat = s then (cY c).toNat else tSy T e s := by
  unfold tTake
  by_cases k6 : cK c = 6
  · rw [if_neg (show ¬ cK c = 0 by omega), if_neg (show ¬ cK c = 1 by omega), if_neg (show ¬ cK c = 2 by omega), if_neg (show ¬ cK c = 3 by omega), if_neg (show ¬ cK c = 4 by omega), if_neg (show ¬ cK c = 5 by omega), if_pos k6]
    show upf (tSy T) (cE c) (upf (tSy T (cE c)) (cX c).toNat (cY c).toNat) e s = _
    rw [upf_if]
    by_cases g : cE c = e
    · rw [if_pos g, upf_if, g]
      by_cases g2 : (cX c).toNat = s
      · rw [if_pos g2, if_pos ⟨k6, rfl, g2⟩]
      · rw [if_neg g2, if_neg (fun q => g2 q.2.2)]
    · rw [if_neg g, if_neg (fun q => g q.2.1)]
  · rw [if_neg (show ¬ (cK c = 6 ∧ cE c = e ∧ (cX c).toNat = s) from fun q => k6 q.1), if_neg k6]
    repeat' split
    all_goals rfl
end LG
