-- LEVEL 2, A CHANGE IS DONE BY THE CLASS'S TREE
def vOk (x : Nat × Nat × Nat) : Prop := x.1 < 48 ∧ x.2.1 < 10 ∧ x.2.2 < 1000
theorem vRange {x : Nat × Nat × Nat} (hx : vOk x) {e a lo hi : Nat} (ha : a < 10) (hhi : hi < 1000) : (e * 10000 + a * 1000 + lo ≤ vC1 x ∧ vC1 x ≤ e * 10000 + a * 1000 + hi) ↔ (x.1 = e ∧ x.2.1 = a ∧ lo ≤ x.2.2 ∧ x.2.2 ≤ hi) := by
  obtain ⟨h1, h2, h3⟩ := hx
  unfold vC1
  omega
theorem vC1_inj {x y : Nat × Nat × Nat} (hx : vOk x) (hy : vOk y) (h : vC1 x = vC1 y) : x = y := by
  obtain ⟨h1, h2, h3⟩ := hx
  obtain ⟨h4, h5, h6⟩ := hy
  obtain ⟨x1, x2, x3⟩ := x
  obtain ⟨y1, y2, y3⟩ := y
  unfold vC1 at h
  simp only at *
  have e1 : x1 = y1 := by omega
  have e2 : x2 = y2 := by omega
  have e3 : x3 = y3 := by omega
  rw [e1, e2, e3]
theorem vC1_lt {x : Nat × Nat × Nat} (hx : vOk x) : vC1 x < 480000 := by
  obtain ⟨h1, h2, h3⟩ := hx
  unfold vC1; omega
theorem vC2_inj {c d : Nat} (hc : c < 480000) (hd : d < 480000) (h : vC2 c = vC2 d) : c = d := by
  unfold vC2 at h; omega
theorem vC2_lt {c : Nat} (hc : c < 480000) : vC2 c < 1000000 := by unfold vC2; omega
/-- the values of a tree of the class -/
def vRs (S : kS) (t : Nat) (vs : List (Nat × Nat × Nat)) : Prop := ∃ l1 l2 : List Nat, vR S t l1 l2 ∧ l1.Perm (vs.map vC1)
theorem vRs_nodup {S : kS} {t : Nat} {vs : List (Nat × Nat × Nat)} (R : vRs S t vs) : vs.Nodup := by
  obtain ⟨l1, l2, h1, h2⟩ := R
  have h3 : (vs.map vC1).Nodup := h2.nodup_iff.mp (nSt_nodup h1.1.2.2.1)
  exact (List.pairwise_map.mp h3).imp (fun h e => h (congrArg _ e))
section QK
variable {N : Nat} {S : kS} {t : Nat} {H : sH}
theorem q_dropVals (hN : 900 ≤ N) {vs : List (Nat × Nat × Nat)} (hv : ∀ x ∈ vs, vOk x) {e a lo hi : Nat} (he : e < 48) (ha : a < 10) (hlo : lo ≤ hi) (hhi : hi < 1000) (R : vRs S t vs) : ∃ S', pX8_dropValues N t (zI (e : Nat)) (zI (a : Nat)) (zI (lo : Nat)) (zI (hi : Nat)) S = some ((), S') ∧ vRs S' t (vs.filter (fun x => !(decide (x.1 = e) && (decide (x.2.1 = a) && (decide (lo ≤ x.2.2) && decide (x.2.2 ≤ hi)))))) ∧ frV t S S' := by
  obtain ⟨l1, l2, h1, h2⟩ := R
  obtain ⟨S', l3, e1, R', f1⟩ := q_dropValues hN he ha hlo hhi h1
  refine ⟨S', e1, ⟨_, l3, R', ?_⟩, f1⟩
  refine (h2.filter _).trans ?_
  rw [List.filter_map]
  have : vs.filter ((fun x => !(decide (e * 10000 + a * 1000 + lo ≤ x) && decide (x ≤ e * 10000 + a * 1000 + hi))) ∘ vC1) = vs.filter (fun x => !(decide (x.1 = e) && (decide (x.2.1 = a) && (decide (lo ≤ x.2.2) && decide (x.2.2 ≤ hi))))) := by
    apply List.filter_congr
    intro x hx
    have := vRange (hv x hx) (e := e) (a := a) (lo := lo) (hi := hi) ha hhi
    simp only [Function.comp]
    rw [← Bool.decide_and, ← Bool.decide_and, ← Bool.decide_and, ← Bool.decide_and, decide_eq_decide.mpr this]
  rw [this]
theorem vDrop_one {vs : List (Nat × Nat × Nat)} {e a v : Nat} : vDrop H vs e a false v = vs.filter (fun x => !(decide (x.1 = e) && (decide (x.2.1 = a) && (decide (vLo H a v ≤ x.2.2) && decide (x.2.2 ≤ vHi H a v))))) := by
  unfold vDrop
  congr 1
  funext x
  unfold vGoes
  rw [Bool.false_or, decide_eq_decide.mpr (vKey_iff (H := H) (a := a) (v := v) (w := x.2.2)), Bool.decide_and]
theorem vDrop_all {vs : List (Nat × Nat × Nat)} (hv : ∀ x ∈ vs, vOk x) {e a v : Nat} : vDrop H vs e a true v = vs.filter (fun x => !(decide (x.1 = e) && (decide (x.2.1 = a) && (decide (0 ≤ x.2.2) && decide (x.2.2 ≤ 999))))) := by
  unfold vDrop
  apply List.filter_congr
  intro x hx
  unfold vGoes
  have := (hv x hx).2.2
  simp [show x.2.2 ≤ 999 by omega]
theorem vDrop_ok {vs : List (Nat × Nat × Nat)} (hv : ∀ x ∈ vs, vOk x) {e a v : Nat} {all : Bool} : ∀ x ∈ vDrop H vs e a all v, vOk x := fun x hx => hv x (List.mem_filter.mp hx).1
theorem vDrop_len {vs : List (Nat × Nat × Nat)} {e a v : Nat} {all : Bool} : (vDrop H vs e a all v).length ≤ vs.length := List.length_filter_le _ _
theorem vDrop_not {vs : List (Nat × Nat × Nat)} {e a v : Nat} {all : Bool} : (e, a, v) ∉ vDrop H vs e a all v := by
  intro h
  have := (List.mem_filter.mp h).2
  unfold vGoes at this
  simp at this
/-- the value comes: into both rows -/
theorem q_comes (hN : 11 ≤ N) {vs : List (Nat × Nat × Nat)} (hv : ∀ x ∈ vs, vOk x) {e a v : Nat} (hx : vOk (e, a, v)) (hn : (e, a, v) ∉ vs) (hlen : vs.length < 826) (R : vRs S t vs) : ∃ S' S'', pX5_put N t 0 (zI ((e * 10000 + (a * 1000 + v) : Nat) : Int)) S = some ((), S') ∧ pX5_put N t 1 (zI (((a * 1000 + v) * 48 + e : Nat) : Int)) S' = some ((), S'') ∧ vRs S'' t (vs ++ [(e, a, v)]) ∧ frV t S S'' := by
  obtain ⟨l1, l2, ⟨h1, h2, h3⟩, h4⟩ := R
  have hc := vC1_lt hx
  have e1 : e * 10000 + (a * 1000 + v) = vC1 (e, a, v) := by unfold vC1; simp only; omega
  have hl1 : l1.length = vs.length := by rw [h4.length_eq, List.length_map]
  have hl2 : l2.length = vs.length := by rw [h3.length_eq, List.length_map, hl1]
  have hbig : ∀ c ∈ l1, c < 480000 := fun c hc => by
    obtain ⟨x, hx, rfl⟩ := List.mem_map.mp (h4.mem_iff.mp hc)
    exact vC1_lt (hv x hx)
  have hn1 : vC1 (e, a, v) ∉ l1 := fun h => by
    obtain ⟨x, hx2, e2⟩ := List.mem_map.mp (h4.mem_iff.mp h)
    exact hn (vC1_inj (hv x hx2) hx e2 ▸ hx2)
  have e3 : (a * 1000 + v) * 48 + e = vC2 (vC1 (e, a, v)) := by
    obtain ⟨q1, q2, q3⟩ := hx
    unfold vC2 vC1
    simp only at *
    omega
  have hn2 : vC2 (vC1 (e, a, v)) ∉ l2 := fun h => by
    obtain ⟨c, hc2, e2⟩ := List.mem_map.mp (h3.mem_iff.mp h)
    exact hn1 (vC2_inj (hbig c hc2) hc e2 ▸ hc2)
  obtain ⟨S1, p1, R1, f1⟩ := q_put h1 (show vC1 (e, a, v) < 1000000 by omega) hn1 (by show l1.length < 826; omega) (N := N) hN
  obtain ⟨S2, p2, R2, f2⟩ := q_put (nR_fr f1 (by omega) h2) (vC2_lt hc) hn2 (by show l2.length < 826; omega) (N := N) hN
  refine ⟨S1, S2, by rw [e1]; exact p1, by rw [e3]; exact p2, ⟨nIns l1 (vC1 (e, a, v)), nIns l2 (vC2 (vC1 (e, a, v))), ⟨nR_fr f2 (by omega) R1, R2, ?_⟩, ?_⟩, (f1.v (by omega)).trans (f2.v (by omega))⟩
  · refine (nIns_perm _ _).trans (((h3.cons _)).trans ?_)
    rw [← List.map_cons]
    exact (nIns_perm _ _).symm.map vC2
  · refine (nIns_perm _ _).trans ((h4.cons _).trans ?_)
    rw [List.map_append]
    exact (List.perm_append_comm (l₁ := [vC1 (e, a, v)]))
theorem q_takeValue (hN : 900 ≤ N) (hH : hR S H) {vs : List (Nat × Nat × Nat)} (hv : ∀ x ∈ vs, vOk x) {e a v : Nat} (hx : vOk (e, a, v)) (hlen : vs.length < 826) (R : vRs S t vs) : ∃ S', pX8_takeValue N t (zI (e : Nat)) (zI (a : Nat)) (zI (v : Nat)) S = some ((), S') ∧ vRs S' t (vTake H vs e a v) ∧ frV t S S' := by
  obtain ⟨x1, x2, x3⟩ := id hx
  have x2 : a < 10 := x2
  have x1 : e < 48 := x1
  have x3 : v < 1000 := x3
  have hhi := vHi_lt H a x3
  have hlo := vLo_le H a v
  have key : ∀ lo hi : Nat, lo ≤ hi → hi < 1000 → vs.filter (fun x => !(decide (x.1 = e) && (decide (x.2.1 = a) && (decide (lo ≤ x.2.2) && decide (x.2.2 ≤ hi))))) = vDrop H vs e a (hSg H a) v → ∃ S', pX8_takeValue_50 N t (zI (hi : Nat)) (zI (e : Nat)) (zI (a : Nat)) (zI (v : Nat)) (zI (lo : Nat)) S = some ((), S') ∧ vRs S' t (vTake H vs e a v) ∧ frV t S S' := fun lo hi h1 h2 h3 => by
    obtain ⟨S1, p1, R1, f1⟩ := q_dropVals hN hv (lo := lo) (hi := hi) x1 x2 h1 h2 R
    rw [h3] at R1
    obtain ⟨S2, S3, p2, p3, R3, f3⟩ := q_comes (N := N) (by omega) (vDrop_ok hv) hx vDrop_not (Nat.lt_of_le_of_lt vDrop_len hlen) R1
    refine ⟨S3, ?_, R3, f1.trans f3⟩
    simp only [pX8_takeValue_50, nm_i]
    rw [p1, bk_i, zL_1000, zL_10000, zL_48]
    simp only [zI_mul, zI_add]
    rw [show (e : Int) * 10000 + ((a : Int) * 1000 + (v : Int)) = ((e * 10000 + (a * 1000 + v) : Nat) : Int) by omega,
      show ((a : Int) * 1000 + (v : Int)) * 48 + (e : Int) = (((a * 1000 + v) * 48 + e : Nat) : Int) by omega, p2, bk_i, p3, bk_i]
  simp only [pX8_takeValue, pX8_takeValue_28]
  rw [q_isSingle hH (by omega), bk_i, il_B]
  cases hs : hSg H a with
  | false =>
    rw [if_neg (by decide), q_lowest hH (by omega) x3, bk_i, if_pos (show zB false = 0 from rfl), q_highest hH (by omega) x3, bk_i]
    exact key _ _ (by omega) hhi.2 (by rw [hs, vDrop_one])
  | true =>
    rw [if_pos rfl, if_neg (by decide)]
    exact key 0 999 (by omega) (by omega) (by rw [hs, vDrop_all hv])
theorem q_takeRemoval (hN : 900 ≤ N) (hH : hR S H) {vs : List (Nat × Nat × Nat)} (hv : ∀ x ∈ vs, vOk x) {e a v : Nat} (hx : vOk (e, a, v)) (R : vRs S t vs) : ∃ S', pX8_takeRemoval N t (zI (e : Nat)) (zI (a : Nat)) (zI (v : Nat)) S = some ((), S') ∧ vRs S' t (vDrop H vs e a false v) ∧ frV t S S' := by
  obtain ⟨x1, x2, x3⟩ := id hx
  have x2 : a < 10 := x2
  have x1 : e < 48 := x1
  have x3 : v < 1000 := x3
  have hhi := vHi_lt H a x3
  have hlo := vLo_le H a v
  obtain ⟨S1, p1, R1, f1⟩ := q_dropVals hN hv (lo := vLo H a v) (hi := vHi H a v) x1 x2 (by omega) hhi.2 R
  rw [← vDrop_one] at R1
  refine ⟨S1, ?_, R1, f1⟩
  simp only [pX8_takeRemoval]
  rw [q_lowest hH (by omega) x3, bk_i, q_highest hH (by omega) x3, bk_i, p1, bk_i]
end QK
