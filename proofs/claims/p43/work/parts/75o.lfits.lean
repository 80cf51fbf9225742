-- LEVEL 2, THE LAW: WHAT FITS A FILTER'S FORM
section LFT
variable {N m : Nat} {L : lS} {H : sH} {T : sT}
/-- the law's forms of filters, at an entry -/
def lFit (H : sH) (T : sT) (e form a v : Nat) (k : Int) : Bool :=
  if form = 0 then decide (0 < tMt H T e a v) else if form = 1 then tGe H T e a v else if form = 2 then decide (0 < tCnt T e a) else if form = 3 then hUp H 8 (tKl T e) k
  else if form = 4 then !decide (0 < tMt H T e a v) else if form = 5 then decide (0 < tCnt T e a) && hUp H 8 (tKl T e) k else decide (0 < tMt H T e a v) || !decide (0 < tCnt T e a)
theorem tGe_iff {e a v : Nat} : tGe H T e a v = true ↔ ∃ u, (e, a, u) ∈ tVs T ∧ hKey H a v ≤ hKey H a u := by
  unfold tGe vAs
  rw [decide_eq_true_eq, List.countP_pos_iff]
  constructor
  · rintro ⟨x, hx, q⟩
    simp only [Bool.and_eq_true, decide_eq_true_eq] at q
    obtain ⟨q1, q2, q3⟩ := q
    refine ⟨x.2.2, ?_, q3⟩
    rw [← q1, ← q2]
    exact hx
  · rintro ⟨u, hu, q⟩
    refine ⟨_, hu, ?_⟩
    simp [q]
theorem hUp_l (hW : hW H) {k : Nat} : ∀ (n j : Nat) (x : Int), x < (n : Int) → n ≤ j → hUp H j x k = hUp H n x k
  | 0, j, x, h, _ => by
    have hn : ∀ q, hUp H q x k = false := fun q => by
      cases q with
      | zero => rfl
      | succ q =>
        unfold hUp hIs
        rw [decide_eq_false (by omega)]; rfl
    rw [hn, hn]
  | n + 1, j, x, h, hj => by
    obtain ⟨j, rfl⟩ : ∃ q, j = q + 1 := ⟨j - 1, by omega⟩
    unfold hUp
    by_cases g : hIs H x = true
    · have g2 : 0 ≤ x ∧ x < (hC H : Int) := by
        unfold hIs at g
        simpa only [Bool.and_eq_true, decide_eq_true_eq] using g
      have hp := hW.2.2.1 x.toNat (by omega)
      rw [if_pos g, if_pos g, hUp_l hW n j _ (by omega) (by omega)]
    · rw [if_neg g, if_neg g]
theorem lq_fits_85 (hS : lSc L H) (hC3 : hC H = 3) (hW : hW H) {k : Nat} (hk : k < 3) {x0 x12 x13 : Int32} {w9 : Int64} : ∀ (n j : Nat) (x : Int), x < (j : Int) → j < n → -1 ≤ x → x < 3 → pL_fits_85 N (pL_fits_108 N) n x0 (zI (k : Nat)) w9 x12 x13 (zI x) L = pL_fits_119 N (zB (hUp H j x k)) x0 w9 x12 x13 L
  | 0, j, x, _, hn, _, _ => by omega
  | n + 1, j, x, hj, hn, h1, h2 => by
    simp only [pL_fits_85, pL_fits_108, nm_i]
    rw [zL_0, il_lt (by omega) (by omega) (by omega) (by omega), ← zL_0]
    by_cases g : x < 0
    · have hf : hUp H j x k = false := by
        cases j with
        | zero => rfl
        | succ j =>
          unfold hUp hIs
          rw [decide_eq_false (by omega)]; rfl
      rw [if_pos g, il_eq (by omega) (by omega) (by omega) (by omega), if_neg (by omega), hf]
      rfl
    · obtain ⟨i, rfl⟩ : ∃ i : Nat, x = i := ⟨x.toNat, by omega⟩
      have hi : i < 3 := by omega
      obtain ⟨j, rfl⟩ : ∃ q, j = q + 1 := ⟨j - 1, by omega⟩
      have hp := hW.2.2.1 i (by omega)
      have hI : hIs H (i : Nat) = true := by unfold hIs; rw [decide_eq_true (by omega), decide_eq_true (by omega)]; rfl
      have hu : hUp H (j + 1) (i : Nat) k = if (i : Int) = (k : Int) then true else hUp H j (hPr H i) k := by
        show (if hIs H (i : Nat) then (if (i : Int) = (k : Int) then true else hUp H j (hPr H (i : Int).toNat) k) else false) = _
        rw [if_pos hI, Int.toNat_natCast]
      rw [if_neg g, hu]
      simp only [zI_eq (show (-2147483648 : Int) ≤ (i : Int) by omega) (show (i : Int) < 2147483648 by omega) (show (-2147483648 : Int) ≤ (k : Int) by omega) (show (k : Int) < 2147483648 by omega)]
      by_cases g2 : (i : Int) = (k : Int)
      · rw [if_pos g2, if_pos g2, if_pos g2]
        rfl
      · rw [if_neg g2, if_neg g2, g9 hi, cn9 hi, (hS.2 i hi).1]
        exact lq_fits_85 hS hC3 hW hk n j (hPr H i) (by omega) (by omega) hp.1 (by omega)
theorem lq_fits_119 {e form a v : Nat} {k : Int} {w9 : Int64} (hf : form < 7) (hz : (lg_cmp w9 (0 : Int64) = 0) ↔ tCnt T e a = 0) : pL_fits_119 N (zB (hUp H 8 (tKl T e) k)) (zI (form : Nat)) w9 (zB (decide (0 < tMt H T e a v))) (zB (tGe H T e a v)) L = some (zB (lFit H T e form a v k), L) := by
  simp only [pL_fits_119]
  unfold lFit
  have n0 : ∀ {j : Nat}, j < 200 → (zI (form : Nat) = zI (j : Nat)) = (form = j) := fun {j} hj => by
    rw [zI_eq (by omega) (by omega) (by omega) (by omega)]
    exact propext ⟨fun g => by omega, fun g => by omega⟩
  have e0 : (zI (form : Nat) = (0 : Int32)) = (form = 0) := n0 (j := 0) (by omega)
  have e1 : (zI (form : Nat) = (1 : Int32)) = (form = 1) := n0 (j := 1) (by omega)
  have e2 : (zI (form : Nat) = (2 : Int32)) = (form = 2) := n0 (j := 2) (by omega)
  have e3 : (zI (form : Nat) = (3 : Int32)) = (form = 3) := n0 (j := 3) (by omega)
  have e4 : (zI (form : Nat) = (4 : Int32)) = (form = 4) := n0 (j := 4) (by omega)
  have e5 : (zI (form : Nat) = (5 : Int32)) = (form = 5) := n0 (j := 5) (by omega)
  have hz2 : (lg_cmp w9 (0 : Int64) = 0) = (tCnt T e a = 0) := propext hz
  simp only [e0, e1, e2, e3, e4, e5, hz2, zlA_0, zlA_1, zlA_B, il_B]
  generalize tCnt T e a = ct
  generalize decide (0 < tMt H T e a v) = mt
  generalize tGe H T e a v = ge
  generalize hUp H 8 (tKl T e) k = up
  have hd : (ct = 0 ∧ decide (0 < ct) = false) ∨ (¬ ct = 0 ∧ decide (0 < ct) = true) := by
    by_cases g : ct = 0
    · exact Or.inl ⟨g, decide_eq_false (by omega)⟩
    · exact Or.inr ⟨g, decide_eq_true (by omega)⟩
  rcases hd with ⟨g1, g2⟩ | ⟨g1, g2⟩
  all_goals
    rw [g2]
    simp only [g1, if_true, if_false]
    rcases (show form = 0 ∨ form = 1 ∨ form = 2 ∨ form = 3 ∨ form = 4 ∨ form = 5 ∨ form = 6 by omega) with rfl | rfl | rfl | rfl | rfl | rfl | rfl
    all_goals cases mt <;> cases ge <;> cases up <;> rfl
theorem lq_fits (hN : 1000 ≤ N) (hS : lSc L H) (hC3 : hC H = 3) (hW : hW H) (hT : lTo T) (hn : (tVs T).Nodup) (Q : lTr L T) {e form a v k : Nat} (hf : form < 7) (ha : a < 3) (hv : v < 60) (hk : k < 3) (he : e < 12) : pL_fits N (zI (form : Nat)) (zI (a : Nat)) (zI (v : Nat)) (zI (k : Nat)) (zI (e : Nat)) L = some (zB (lFit H T e form a v (k : Nat)), L) := by
  have ek := hS.1 a ha
  have hlt := lKd_lt (H := H) (a := a)
  have htn := lKd_tn (H := H) (a := a)
  have hkl := hT.2.2.1 e (by omega)
  have hkl2 := (hT.1.2.2.2.1 e (by omega)).1
  obtain ⟨w, m1, m2⟩ := lq_match (N := N) hS ha hv
  simp only [pL_fits, pL_fits_33, pL_fits_55, pL_fits_72, nm_i, nml_i]
  rw [z3_a, gd_c (by omega) (by omega), zI_cn (by omega), z13, gd_c (by omega) (by omega), zI_cn (by omega), ek, m1]
  have fin : ∀ (fr : Nat), fr < 64 → (∀ j, j < 64 → (fr ≤ j ↔ hKey H a v ≤ hKey H a j)) → lba (some (w, L)) (fun v101 L102 => if (lg_cmp ((aJ L 10 (3 * e + a)) &&& v101) (0 : Int64)) = (0 : Int32) then (if (lg_cmp ((aJ L 10 (3 * e + a)) >>> ((zI (fr : Nat)).toInt64 &&& 63)) (0 : Int64)) = (0 : Int32) then (gd (((3 : Int32) * zI (e : Nat)) + (1 : Int32)) 36 (pL_fits_85 N (pL_fits_108 N) N (zI (form : Nat)) (zI (k : Nat)) (aJ L 10 (3 * e + a)) (0 : Int32) (0 : Int32) (aI L102 9 (((3 : Int32) * zI (e : Nat)) + (1 : Int32)).toNatClampNeg) L102)) else (gd (((3 : Int32) * zI (e : Nat)) + (1 : Int32)) 36 (pL_fits_85 N (pL_fits_108 N) N (zI (form : Nat)) (zI (k : Nat)) (aJ L 10 (3 * e + a)) (0 : Int32) (1 : Int32) (aI L102 9 (((3 : Int32) * zI (e : Nat)) + (1 : Int32)).toNatClampNeg) L102))) else (if (lg_cmp ((aJ L 10 (3 * e + a)) >>> ((zI (fr : Nat)).toInt64 &&& 63)) (0 : Int64)) = (0 : Int32) then (gd (((3 : Int32) * zI (e : Nat)) + (1 : Int32)) 36 (pL_fits_85 N (pL_fits_108 N) N (zI (form : Nat)) (zI (k : Nat)) (aJ L 10 (3 * e + a)) (1 : Int32) (0 : Int32) (aI L102 9 (((3 : Int32) * zI (e : Nat)) + (1 : Int32)).toNatClampNeg) L102)) else (gd (((3 : Int32) * zI (e : Nat)) + (1 : Int32)) 36 (pL_fits_85 N (pL_fits_108 N) N (zI (form : Nat)) (zI (k : Nat)) (aJ L 10 (3 * e + a)) (1 : Int32) (1 : Int32) (aI L102 9 (((3 : Int32) * zI (e : Nat)) + (1 : Int32)).toNatClampNeg) L102)))) = some (zB (lFit H T e form a v (k : Nat)), L) := fun fr hfr hkey => by
    have g2 : (lg_cmp ((aJ L 10 (3 * e + a)) >>> ((zI (fr : Nat)).toInt64 &&& 63)) (0 : Int64) = 0) ↔ tGe H T e a v = false := by
      have hb : ∀ j, 60 ≤ j → j < 64 → lb (aJ L 10 (3 * e + a)) j = false := fun j h1 h2 => by
        rw [Q.2 e a j he ha h2]
        exact decide_eq_false (fun q => by have := (hT.2.1 _ q).2.2; have : j < 60 := this; omega)
      rw [lb_zero, Bool.eq_false_iff]
      constructor
      · intro g q
        obtain ⟨u, hu, hq⟩ := tGe_iff.mp q
        have h60 : u < 60 := (hT.2.1 _ hu).2.2
        have h1 := (hkey u (by omega)).mpr hq
        have := g (u - fr) (by omega)
        rw [lb_sshr hfr (by omega), if_pos (by omega), show fr + (u - fr) = u by omega, Q.2 e a u he ha (by omega), decide_eq_true hu] at this
        cases this
      · intro g i hi
        rw [lb_sshr hfr hi]
        split
        · rename_i g3
          rw [Q.2 e a _ he ha g3]
          exact decide_eq_false (fun q => g (tGe_iff.mpr ⟨_, q, (hkey _ g3).mp (by omega)⟩))
        · exact hb 63 (by omega) (by omega)
    have g1 : (lg_cmp ((aJ L 10 (3 * e + a)) &&& w) (0 : Int64) = 0) ↔ decide (0 < tMt H T e a v) = false := by
      rw [has_iff hT Q he ha m2, decide_eq_false_iff_not]
      omega
    have last : ∀ (p q : Bool), p = decide (0 < tMt H T e a v) → q = tGe H T e a v → gd (((3 : Int32) * zI (e : Nat)) + (1 : Int32)) 36 (pL_fits_85 N (pL_fits_108 N) N (zI (form : Nat)) (zI (k : Nat)) (aJ L 10 (3 * e + a)) (zB p) (zB q) (aI L 9 (((3 : Int32) * zI (e : Nat)) + (1 : Int32)).toNatClampNeg) L) = some (zB (lFit H T e form a v (k : Nat)), L) := fun p q hp hq => by
      rw [z3_1, gd_c (by omega) (by omega), zI_cn (by omega), (Q.1 e he).2.1, lq_fits_85 hS hC3 hW hk N 8 (tKl T e) (by omega) (by omega) hkl2 hkl, hp, hq]
      exact lq_fits_119 hf (emp_iff hn hT Q he ha)
    rw [lba_i]
    by_cases q1 : decide (0 < tMt H T e a v) = false
    · rw [if_pos (g1.mpr q1)]
      by_cases q2 : tGe H T e a v = false
      · rw [if_pos (g2.mpr q2)]
        exact last false false q1.symm q2.symm
      · rw [if_neg (fun r => q2 (g2.mp r))]
        exact last false true q1.symm (by cases hh : tGe H T e a v with | true => rfl | false => exact absurd hh q2)
    · have q1' : decide (0 < tMt H T e a v) = true := by cases hh : decide (0 < tMt H T e a v) with | true => rfl | false => exact absurd hh q1
      rw [if_neg (fun r => q1 (g1.mp r))]
      by_cases q2 : tGe H T e a v = false
      · rw [if_pos (g2.mpr q2)]
        exact last true false q1'.symm q2.symm
      · rw [if_neg (fun r => q2 (g2.mp r))]
        exact last true true q1'.symm (by cases hh : tGe H T e a v with | true => rfl | false => exact absurd hh q2)
  rw [zL_1, il_le (by omega) (by omega) (by omega) (by omega), ← zL_1]
  cases ht : hTn H a with
  | false =>
    rw [if_pos (by have := htn.mpr ht; omega)]
    refine fin v (by omega) (fun j hj => ?_)
    unfold hKey
    rw [ht, if_neg (by decide), if_neg (by decide)]
  | true =>
    have e2 : (zI (v : Nat) / (10 : Int32)) * (10 : Int32) = zI ((v / 10 * 10 : Nat) : Int) := by
      rw [show (10 : Int32) = zI ((10 : Nat) : Int) from rfl, z_div (by omega) (by omega) (by omega), zI_mul]
      rfl
    rw [if_neg (fun g => by have := htn.mp (by omega); rw [ht] at this; cases this), e2]
    refine fin (v / 10 * 10) (by omega) (fun j hj => ?_)
    unfold hKey
    rw [ht, if_pos rfl, if_pos rfl]
    omega
end LFT
