-- LEVEL 2, THE SCHEMA AND THE VALUES OF THE CLASS'S TREES
def hR (S : kS) (H : sH) : Prop := kI S 1 = zI (hA H : Nat) ∧ kI S 2 = zI (hC H : Nat) ∧ (∀ a, a < 32 → ib (kI S 3) a = hSg H a) ∧ (∀ a, a < 32 → ib (kI S 4) a = hTn H a) ∧ (∀ k, k < hC H → kA S 2 k = zI (hPr H k)) ∧ (∀ k, k < hC H → kA S 3 k = hRq H k) ∧ (∀ k, k < hC H → kA S 4 k = hAl H k)
def hW (H : sH) : Prop := hA H ≤ 10 ∧ hC H ≤ 8 ∧ (∀ k, k < hC H → -1 ≤ hPr H k ∧ hPr H k < k) ∧ (∀ a, hA H ≤ a → hSg H a = false ∧ hTn H a = false)
theorem fr_hR {S S' : kS} {H : sH} (R : hR S H) (h1 : ∀ q, q < 5 → kI S' q = kI S q) (h2 : ∀ c, c < 5 → kA S' c = kA S c) : hR S' H := by
  obtain ⟨r1, r2, r3, r4, r5, r6, r7⟩ := R
  exact ⟨by rw [h1 1 (by omega)]; exact r1, by rw [h1 2 (by omega)]; exact r2, by rw [h1 3 (by omega)]; exact r3, by rw [h1 4 (by omega)]; exact r4, by rw [h2 2 (by omega)]; exact r5, by rw [h2 3 (by omega)]; exact r6, by rw [h2 4 (by omega)]; exact r7⟩
def vLo (H : sH) (a v : Nat) : Nat := if hTn H a then v - v % 10 else v
def vHi (H : sH) (a v : Nat) : Nat := if hTn H a then v - v % 10 + 9 else v
theorem vKey_iff {H : sH} {a v w : Nat} : hKey H a w = hKey H a v ↔ vLo H a v ≤ w ∧ w ≤ vHi H a v := by
  unfold hKey vLo vHi
  split <;> omega
theorem vLo_le (H : sH) (a v : Nat) : vLo H a v ≤ v := by unfold vLo; split <;> omega
theorem vHi_lt (H : sH) (a : Nat) {v : Nat} (h : v < 1000) : v ≤ vHi H a v ∧ vHi H a v < 1000 := by unfold vHi; split <;> omega
section QV
variable {N : Nat} {S : kS} {t : Nat} {H : sH}
theorem q_isByTens (R : hR S H) {a : Nat} (ha : a < 32) : pX7_isByTens N (zI (a : Nat)) S = some (zB (hTn H a), S) := by
  simp only [pX7_isByTens]
  rw [il_ibit ha, R.2.2.2.1 a ha]
  cases hTn H a <;> rfl
theorem q_isSingle (R : hR S H) {a : Nat} (ha : a < 32) : pX7_isSingle N (zI (a : Nat)) S = some (zB (hSg H a), S) := by
  simp only [pX7_isSingle]
  rw [il_ibit ha, R.2.2.1 a ha]
  cases hSg H a <;> rfl
theorem q_lowest (R : hR S H) {a v : Nat} (ha : a < 32) (hv : v < 1000) : pX7_lowest N (zI (a : Nat)) (zI (v : Nat)) S = some (zI (vLo H a v : Nat), S) := by
  simp only [pX7_lowest]
  rw [q_isByTens R ha, bk_i, il_B]
  unfold vLo
  cases hTn H a with
  | false => rfl
  | true =>
    rw [if_pos rfl, if_pos rfl, zL_10, zI_div (by omega) (by omega) (by omega) (by omega), zI_mul, zI_sub, zI_sub]
    congr 2
    congr 1
    omega
theorem q_highest (R : hR S H) {a v : Nat} (ha : a < 32) (hv : v < 1000) : pX7_highest N (zI (a : Nat)) (zI (v : Nat)) S = some (zI (vHi H a v : Nat), S) := by
  simp only [pX7_highest]
  rw [q_isByTens R ha, bk_i, il_B]
  unfold vHi
  cases hTn H a with
  | false => rfl
  | true =>
    rw [if_pos rfl, if_pos rfl, zL_10, zL_9, zI_div (by omega) (by omega) (by omega) (by omega), zI_mul, zI_sub, zI_sub, zI_add]
    congr 2
    congr 1
    omega
end QV
theorem nR_fr {S S' : kS} {t i j : Nat} {l : List Nat} (h : frN t i S S') (hij : j ≠ i) (R : nR S t j l) : nR S' t j l := by
  obtain ⟨r1, r2, r3, r4, r5⟩ := R
  refine ⟨by rw [h.2.2.2.1 _ (by omega)]; exact r1, fun q hq => ?_, r3, r4, r5⟩
  rw [h.1 _ (by omega)]; exact r2 q hq
theorem nSt_nodup {l : List Nat} (h : nSt l) : l.Nodup := h.imp (fun h => Nat.ne_of_lt h)
theorem nCt_mem {l : List Nat} (h : nSt l) {x : Nat} (hx : x ∈ l) : ∃ hi : nCt l x < l.length, l[nCt l x] = x := by
  obtain ⟨i, hi, e⟩ := List.getElem_of_mem hx
  have h1 : ¬ i < nCt l x := fun q => by
    have := (nCt_at (z := (x : Int)) h hi).mpr q
    omega
  have h2 : nCt l x ≤ i := by omega
  have hlt : nCt l x < l.length := by omega
  refine ⟨hlt, ?_⟩
  have h3 : ¬ ((l[nCt l x] : Nat) : Int) < (x : Int) := fun q => by
    have := (nCt_at (z := (x : Int)) h hlt).mp q
    omega
  rcases Nat.lt_or_ge (nCt l x) i with q | q
  · have := List.pairwise_iff_getElem.mp h (nCt l x) i hlt hi q
    omega
  · have e2 : nCt l x = i := by omega
    simp only [e2]; exact e
theorem erase_perm {α : Type} {l : List α} {i : Nat} (h : i < l.length) : (l[i] :: l.eraseIdx i).Perm l := by
  rw [List.eraseIdx_eq_take_drop_succ]
  refine List.perm_middle.symm.trans ?_
  rw [List.getElem_cons_drop]
  rw [List.take_append_drop]
/-- the numbers between two are cut out -/
theorem nCut {lo hi : Int} (hlh : lo ≤ hi) : ∀ {l : List Nat}, nSt l → l.take (nCt l lo) ++ l.drop (nCt l hi) = l.filter (fun x : Nat => !(decide (lo ≤ (x : Int)) && decide ((x : Int) < hi)))
  | [], _ => rfl
  | a :: l, h => by
    obtain ⟨h1, h2⟩ := List.pairwise_cons.mp h
    have ih := nCut hlh h2
    rw [nCt_cons, nCt_cons, List.filter_cons]
    by_cases ha : (a : Int) < lo
    · rw [if_pos ha, if_pos (by omega), List.take_succ_cons, List.drop_succ_cons, List.cons_append, ih]
      simp [show ¬ lo ≤ (a : Int) by omega]
    · rw [if_neg ha]
      have e0 : nCt l lo = 0 := nCt_0 (fun x hx => by have := h1 x hx; omega)
      rw [e0] at ih ⊢
      by_cases hb : (a : Int) < hi
      · rw [if_pos hb, Nat.zero_add, List.take_zero, List.nil_append, List.drop_succ_cons]
        rw [List.take_zero, List.nil_append] at ih
        rw [ih]
        simp [show lo ≤ (a : Int) by omega, hb]
      · have e1 : nCt l hi = 0 := nCt_0 (fun x hx => by have := h1 x hx; omega)
        rw [if_neg hb, e1, List.take_zero, List.nil_append, Nat.zero_add, List.drop_zero]
        rw [e1, List.take_zero, List.nil_append, List.drop_zero] at ih
        rw [← ih]
        simp [hb]
/-- both rows of values -/
def vR (S : kS) (t : Nat) (l1 l2 : List Nat) : Prop := nR S t 0 l1 ∧ nR S t 1 l2 ∧ l2.Perm (l1.map vC2)
/-- nothing but the rows of values of the tree t was written -/
def frV (t : Nat) (S S' : kS) : Prop := (∀ c, c ≠ 26 + 15 * t + 10 → c ≠ 26 + 15 * t + 12 → kA S' c = kA S c) ∧ kJ S' = kJ S ∧ kL S' = kL S ∧ (∀ q, q ≠ 40 + 3 * t → q ≠ 41 + 3 * t → kI S' q = kI S q) ∧ S'.2.2.2.2 = S.2.2.2.2
theorem frV.rf {t : Nat} {S : kS} : frV t S S := ⟨fun _ _ _ => rfl, rfl, rfl, fun _ _ _ => rfl, rfl⟩
theorem frV.trans {t : Nat} {S S' S2 : kS} (h : frV t S S') (h2 : frV t S' S2) : frV t S S2 :=
  ⟨fun c h3 h4 => (h2.1 c h3 h4).trans (h.1 c h3 h4), h2.2.1.trans h.2.1, h2.2.2.1.trans h.2.2.1, fun q h3 h4 => (h2.2.2.2.1 q h3 h4).trans (h.2.2.2.1 q h3 h4), h2.2.2.2.2.trans h.2.2.2.2⟩
theorem frN.v {t j : Nat} {S S' : kS} (h : frN t j S S') (hj : j < 2) : frV t S S' :=
  ⟨fun c h3 h4 => h.1 c (by rcases (show j = 0 ∨ j = 1 by omega) with rfl | rfl <;> omega), h.2.1, h.2.2.1, fun q h3 h4 => h.2.2.2.1 q (by rcases (show j = 0 ∨ j = 1 by omega) with rfl | rfl <;> omega), h.2.2.2.2⟩
theorem q_dropValues_57 {t e : Nat} {f : Nat} {N : Nat} (hN : 11 ≤ N) (he : e < 48) : ∀ (n k : Nat), k < n → ∀ (S : kS) (l1 l2 : List Nat), vR S t l1 l2 → f + k ≤ l1.length → (∀ i (h : i < l1.length), f ≤ i → i < f + k → l1[i] / 10000 = e) → ∃ (S' : kS) (l2' : List Nat), pX8_dropValues_57 N t n (zI (e : Nat)) (zI (f : Nat)) (zI ((f : Int) + (k : Int) - 1)) S = some ((), S') ∧ vR S' t (l1.take f ++ l1.drop (f + k)) l2' ∧ frV t S S'
  | 0, k, hk, _, _, _, _, _, _ => by omega
  | n + 1, k, hk, S, l1, l2, R, hf, hel => by
    have hlen := R.1.2.2.2.2
    have hkN := kNl_le 0
    simp only [pX8_dropValues_57, nm_i]
    rw [il_lt (by omega) (by omega) (by omega) (by omega)]
    cases k with
    | zero =>
      rw [if_pos (by omega)]
      refine ⟨S, l2, rfl, ?_, frV.rf⟩
      rw [Nat.add_zero, List.take_append_drop]; exact R
    | succ k =>
      have hi : f + k < l1.length := by omega
      have hbig := R.1.2.2.2.1 _ (List.getElem_mem hi)
      rw [if_neg (by omega), show (f : Int) + ((k + 1 : Nat) : Int) - 1 = ((f + k : Nat) : Int) by omega, q_at R.1 hi, bk_i, zL_10000, zI_div (by omega) (by omega) (by omega) (by omega), zI_mul, zI_sub]
      obtain ⟨S1, e1, R1, f1⟩ := q_dropAt R.1 hi (N := N)
      rw [e1, bk_i]
      have R2 : nR S1 t 1 l2 := nR_fr f1 (by omega) R.2.1
      have hediv := hel _ hi (by omega) (by omega)
      have hcode : zI ((l1[f + k] : Int) - (l1[f + k] : Int) / 10000 * 10000) * 48 + zI (e : Nat) = zI (vC2 l1[f + k] : Nat) := by
        rw [zL_48, zI_mul, zI_add]
        congr 1
        unfold vC2
        rw [hediv]
        have := Nat.mod_lt l1[f + k] (show 0 < 10000 by omega)
        have := Nat.div_add_mod l1[f + k] 10000
        rw [hediv] at this
        omega
      have hmem : vC2 l1[f + k] ∈ l2 := R.2.2.mem_iff.mpr (List.mem_map.mpr ⟨_, List.getElem_mem hi, rfl⟩)
      have hc2 := R.2.1.2.2.2.1 _ hmem
      rw [hcode, q_indexOf R2 (by omega) (by omega) hN, bk_i]
      obtain ⟨hp, ep⟩ := nCt_mem R.2.1.2.2.1 hmem
      obtain ⟨S2, e2, R3, f2⟩ := q_dropAt R2 hp (N := N)
      rw [e2, bk_i, zL_m1, zI_add]
      have R4 : nR S2 t 0 (l1.eraseIdx (f + k)) := nR_fr f2 (by omega) R1
      have hperm : (l2.eraseIdx (nCt l2 (vC2 l1[f + k]))).Perm ((l1.eraseIdx (f + k)).map vC2) := by
        have p1 := (erase_perm hp).trans R.2.2
        have p2 := (erase_perm hi).map vC2
        rw [List.map_cons] at p2
        rw [ep] at p1
        exact (p1.trans p2.symm).cons_inv
      have hl1 : (l1.eraseIdx (f + k)).length = l1.length - 1 := by rw [List.length_eraseIdx, if_pos hi]
      obtain ⟨S3, l3, e3, R5, f3⟩ := q_dropValues_57 (t := t) (f := f) hN he n k (by omega) S2 (l1.eraseIdx (f + k)) (l2.eraseIdx (nCt l2 (vC2 l1[f + k]))) ⟨R4, R3, hperm⟩ (by omega) (fun i h h3 h4 => by
        rw [List.getElem_eraseIdx, dif_pos (by omega)]
        exact hel i (by omega) h3 (by omega))
      refine ⟨S3, l3, ?_, ?_, (f1.v (by omega)).trans ((f2.v (by omega)).trans f3)⟩
      · rw [show ((f + k : Nat) : Int) + -1 = (f : Int) + (k : Int) - 1 by omega]
        exact e3
      · have e4 : (l1.eraseIdx (f + k)).take f ++ (l1.eraseIdx (f + k)).drop (f + k) = l1.take f ++ l1.drop (f + (k + 1)) := by
          rw [List.eraseIdx_eq_take_drop_succ, List.take_append_of_le_length (by rw [List.length_take]; omega), List.take_take, Nat.min_eq_left (by omega)]
          congr 1
          rw [List.drop_append_of_le_length (by rw [List.length_take]; omega), List.drop_eq_nil_of_le (by rw [List.length_take]; omega), List.nil_append]
          rfl
        rw [← e4]; exact R5
theorem q_dropValues {S : kS} {t e a lo hi : Nat} {l1 l2 : List Nat} {N : Nat} (hN : 900 ≤ N) (he : e < 48) (ha : a < 10) (hlo : lo ≤ hi) (hhi : hi < 1000) (R : vR S t l1 l2) : ∃ (S' : kS) (l2' : List Nat), pX8_dropValues N t (zI (e : Nat)) (zI (a : Nat)) (zI (lo : Nat)) (zI (hi : Nat)) S = some ((), S') ∧ vR S' t (l1.filter (fun x => !(decide (e * 10000 + a * 1000 + lo ≤ x) && decide (x ≤ e * 10000 + a * 1000 + hi)))) l2' ∧ frV t S S' := by
  have hlen := R.1.2.2.2.2
  have hkN := kNl_le 0
  have h1 := nCt_le l1 ((e * 10000 + a * 1000 + lo : Nat) : Int)
  have h2 := nCt_le l1 ((e * 10000 + a * 1000 + hi + 1 : Nat) : Int)
  have hsub := nCt_sub (l := l1) (lo := ((e * 10000 + a * 1000 + lo : Nat) : Int)) (hi := ((e * 10000 + a * 1000 + hi + 1 : Nat) : Int)) (by omega)
  simp only [pX8_dropValues, nm_i]
  rw [zL_10000, zL_1000, zL_1, zI_mul, zI_mul, zI_add, zI_add, zI_add, zI_add,
    show (e : Int) * 10000 + (a : Int) * 1000 + (lo : Int) = ((e * 10000 + a * 1000 + lo : Nat) : Int) by omega,
    show (e : Int) * 10000 + (a : Int) * 1000 + (hi : Int) + 1 = ((e * 10000 + a * 1000 + hi + 1 : Nat) : Int) by omega,
    q_indexOf R.1 (by omega) (by omega) (by omega), bk_i, q_indexOf R.1 (by omega) (by omega) (by omega), bk_i, zI_sub]
  obtain ⟨S', l2', e1, R', f1⟩ := q_dropValues_57 (t := t) (f := nCt l1 ((e * 10000 + a * 1000 + lo : Nat) : Int)) (N := N) (by omega) he N (nCt l1 ((e * 10000 + a * 1000 + hi + 1 : Nat) : Int) - nCt l1 ((e * 10000 + a * 1000 + lo : Nat) : Int)) (by omega) S l1 l2 R (by omega) (fun i h h3 h4 => by
    have q1 := nCt_at (z := ((e * 10000 + a * 1000 + lo : Nat) : Int)) R.1.2.2.1 h
    have q2 := nCt_at (z := ((e * 10000 + a * 1000 + hi + 1 : Nat) : Int)) R.1.2.2.1 h
    have q3 : ¬ ((l1[i] : Int) < ((e * 10000 + a * 1000 + lo : Nat) : Int)) := fun q => by have := q1.mp q; omega
    have q4 : ((l1[i] : Int) < ((e * 10000 + a * 1000 + hi + 1 : Nat) : Int)) := q2.mpr (by omega)
    omega)
  refine ⟨S', l2', ?_, ?_, f1⟩
  · rw [show (nCt l1 ((e * 10000 + a * 1000 + hi + 1 : Nat) : Int) : Int) - 1 = (nCt l1 ((e * 10000 + a * 1000 + lo : Nat) : Int) : Int) + ((nCt l1 ((e * 10000 + a * 1000 + hi + 1 : Nat) : Int) - nCt l1 ((e * 10000 + a * 1000 + lo : Nat) : Int) : Nat) : Int) - 1 by omega]
    exact e1
  · rw [show nCt l1 ((e * 10000 + a * 1000 + lo : Nat) : Int) + (nCt l1 ((e * 10000 + a * 1000 + hi + 1 : Nat) : Int) - nCt l1 ((e * 10000 + a * 1000 + lo : Nat) : Int)) = nCt l1 ((e * 10000 + a * 1000 + hi + 1 : Nat) : Int) by omega, nCut (by omega) R.1.2.2.1] at R'
    have hfe : l1.filter (fun x : Nat => !(decide (((e * 10000 + a * 1000 + lo : Nat) : Int) ≤ (x : Int)) && decide ((x : Int) < ((e * 10000 + a * 1000 + hi + 1 : Nat) : Int)))) = l1.filter (fun x => !(decide (e * 10000 + a * 1000 + lo ≤ x) && decide (x ≤ e * 10000 + a * 1000 + hi))) := by
      apply List.filter_congr
      intro x hx
      rw [decide_eq_decide.mpr (show ((e * 10000 + a * 1000 + lo : Nat) : Int) ≤ (x : Int) ↔ e * 10000 + a * 1000 + lo ≤ x by omega), decide_eq_decide.mpr (show (x : Int) < ((e * 10000 + a * 1000 + hi + 1 : Nat) : Int) ↔ x ≤ e * 10000 + a * 1000 + hi by omega)]
    rw [hfe] at R'
    exact R'

