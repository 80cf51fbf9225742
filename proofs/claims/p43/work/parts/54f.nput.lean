-- LEVEL 2, A NUMBER COMES INTO A ROW, OR GOES
/-- nothing but the row j of the tree t was written -/
def frN (t j : Nat) (S S' : kS) : Prop := (∀ c, c ≠ 26 + 15 * t + 10 + 2 * j → kA S' c = kA S c) ∧ kJ S' = kJ S ∧ kL S' = kL S ∧ (∀ q, q ≠ 40 + 3 * t + j → kI S' q = kI S q) ∧ S'.2.2.2.2 = S.2.2.2.2
theorem frN.rf {t j : Nat} {S : kS} : frN t j S S := ⟨fun _ _ => rfl, rfl, rfl, fun _ _ => rfl, rfl⟩
theorem frN.trans {t j : Nat} {S S' S2 : kS} (h : frN t j S S') (h2 : frN t j S' S2) : frN t j S S2 :=
  ⟨fun c hc => (h2.1 c hc).trans (h.1 c hc), h2.2.1.trans h.2.1, h2.2.2.1.trans h.2.2.1, fun q hq => (h2.2.2.2.1 q hq).trans (h.2.2.2.1 q hq), h2.2.2.2.2.trans h.2.2.2.2⟩
theorem upd_s (f : Nat → Int32) (k : Nat) (x : Int32) : upd f k x k = x := if_pos rfl
theorem upd_o (f : Nat → Int32) {k j : Nat} (x : Int32) (h : j ≠ k) : upd f k x j = f j := if_neg h
theorem kI_sI (S : kS) (k : Nat) (v : Int32) : kI (sI S k v) = upd (kI S) k v := rfl
theorem kA_sI (S : kS) (k : Nat) (v : Int32) : kA (sI S k v) = kA S := rfl
theorem kJ_sI (S : kS) (k : Nat) (v : Int32) : kJ (sI S k v) = kJ S := rfl
theorem kL_sI (S : kS) (k : Nat) (v : Int32) : kL (sI S k v) = kL S := rfl
theorem kI_sA (S : kS) (c j : Nat) (v : Int32) : kI (sA S c j v) = kI S := rfl
theorem kA_sA_s (S : kS) (c j : Nat) (v : Int32) : kA (sA S c j v) c = upd (kA S c) j v := if_pos rfl
theorem kA_sA_o (S : kS) {c d : Nat} (j : Nat) (v : Int32) (h : d ≠ c) : kA (sA S c j v) d = kA S d := if_neg h
theorem kJ_sA (S : kS) (c j : Nat) (v : Int32) : kJ (sA S c j v) = kJ S := rfl
theorem kL_sA (S : kS) (c j : Nat) (v : Int32) : kL (sA S c j v) = kL S := rfl
theorem kA_sAr_s (S : kS) (c : Nat) (f : Nat → Int32) : kA (sAr S c f) c = f := if_pos rfl
theorem kA_sAr_o (S : kS) {c d : Nat} (f : Nat → Int32) (h : d ≠ c) : kA (sAr S c f) d = kA S d := if_neg h
theorem kI_sAr (S : kS) (c : Nat) (f : Nat → Int32) : kI (sAr S c f) = kI S := rfl
theorem kI_sJ (S : kS) (c j : Nat) (v : Int64) : kI (sJ S c j v) = kI S := rfl
theorem kA_sJ (S : kS) (c j : Nat) (v : Int64) : kA (sJ S c j v) = kA S := rfl
theorem kL_sJ (S : kS) (c j : Nat) (v : Int64) : kL (sJ S c j v) = kL S := rfl
theorem kJ_sJ_s (S : kS) (c j : Nat) (v : Int64) : kJ (sJ S c j v) c = vp_updL (kJ S c) j v := if_pos rfl
theorem kJ_sJ_o (S : kS) {c d : Nat} (j : Nat) (v : Int64) (h : d ≠ c) : kJ (sJ S c j v) d = kJ S d := if_neg h
theorem kI_sL (S : kS) (k : Nat) (v : Int64) : kI (sL S k v) = kI S := rfl
theorem kA_sL (S : kS) (k : Nat) (v : Int64) : kA (sL S k v) = kA S := rfl
theorem kJ_sL (S : kS) (k : Nat) (v : Int64) : kJ (sL S k v) = kJ S := rfl
theorem kL_sL (S : kS) (k : Nat) (v : Int64) : kL (sL S k v) = vp_updL (kL S) k v := rfl
theorem updL_s (f : Nat → Int64) (k : Nat) (x : Int64) : vp_updL f k x k = x := if_pos rfl
theorem updL_o (f : Nat → Int64) {k j : Nat} (x : Int64) (h : j ≠ k) : vp_updL f k x j = f j := if_neg h
theorem gcp_z {γ : Type} {sp dp len : Int} {n : Nat} {K : Option γ} (h1 : 0 ≤ sp) (h2 : 0 ≤ dp) (h3 : 0 ≤ len) (h4 : sp + len ≤ n) (h5 : dp + len ≤ n) (hn : n < 1000000) : gcp (zI sp) (zI dp) (zI len) n K = K := by
  unfold gcp
  rw [if_neg]
  rw [zL_0, zI_lt (by omega) (by omega) (by omega) (by omega), zI_lt (by omega) (by omega) (by omega) (by omega), zI_lt (by omega) (by omega) (by omega) (by omega), zI_clamp (by omega) (by omega), zI_clamp (by omega) (by omega), zI_clamp (by omega) (by omega)]
  omega
theorem q_put {S : kS} {t j : Nat} {l : List Nat} (R : nR S t j l) {x : Nat} (hx : x < 1000000) (hnx : x ∉ l) (hlen : l.length < kNl j) {N : Nat} (hN : 11 ≤ N) : ∃ S', pX5_put N t j (zI (x : Nat)) S = some ((), S') ∧ nR S' t j (nIns l x) ∧ frN t j S S' := by
  have hle := nCt_le l x
  have hk := kNl_le j
  obtain ⟨R1, R2, R3, R4, R5⟩ := id R
  have hl' : (nIns l x).length = l.length + 1 := by rw [(nIns_perm l x).length_eq]; rfl
  have hat : ∃ v, pX5_at N t j (zI (nCt l x : Nat)) S = some (v, S) ∧ v ≠ zI (x : Nat) := by
    rcases Nat.lt_or_ge (nCt l x) l.length with h | h
    · refine ⟨_, q_at R h, ?_⟩
      have hm := List.getElem_mem h
      have hb := R4 _ hm
      rw [ne_eq, zI_eq (by omega) (by omega) (by omega) (by omega)]
      intro e
      have e : l[nCt l x] = x := by omega
      exact hnx (e ▸ hm)
    · refine ⟨_, q_at_out R (by omega) (by omega) (Or.inr (by omega)), ?_⟩
      rw [ne_eq, zI_eq (by omega) (by omega) (by omega) (by omega)]
      omega
  obtain ⟨v, hv, hvx⟩ := hat
  simp only [pX5_put]
  rw [q_indexOf R (by omega) (by omega) hN, bk_i, R1, zL, il_le (by omega) (by omega) (by omega) (by omega), if_neg (by omega), hv, bk_i, if_neg hvx, zL_1, zI_add, R1, zI_sub, gcp_z (by omega) (by omega) (by omega) (by omega) (by omega) (by omega), svk_i, gd_n (by omega) (by omega), svk_i, svk_i]
  refine ⟨_, rfl, ?_, ?_⟩
  · refine ⟨?_, fun i hi => ?_, nIns_st R3 hnx, fun y hy => ?_, by omega⟩
    · rw [kI_sI, upd_s, kI_sA, kI_sAr, R1, zI_add, hl']
      congr 1
    · have hg := nIns_get (l := l) (x := x) (i := i)
      rw [List.getElem?_eq_getElem hi] at hg
      rw [kA_sI, kA_sA_s, kA_sAr_s, zI_cn (by omega), zI_clamp (by omega) (by omega), zI_clamp (by omega) (by omega)]
      by_cases h : i < nCt l x
      · rw [if_pos h, List.getElem?_eq_getElem (by omega)] at hg
        rw [Option.some.inj hg, upd_o _ _ (by omega)]
        unfold va_cpy
        rw [if_neg (by omega), R2 i (by omega)]
      · rw [if_neg h] at hg
        by_cases h2 : i = nCt l x
        · rw [if_pos h2] at hg
          rw [Option.some.inj hg, h2, upd_s]
        · rw [if_neg h2, List.getElem?_eq_getElem (by omega)] at hg
          rw [Option.some.inj hg, upd_o _ _ h2]
          unfold va_cpy
          rw [if_pos (by omega), show nCt l x + (i - ((nCt l x : Int) + 1).toNat) = i - 1 by omega, R2 (i - 1) (by omega)]
    · rcases List.mem_cons.mp ((nIns_perm l x).mem_iff.mp hy) with rfl | h
      · exact hx
      · exact R4 _ h
  · refine ⟨fun c hc => ?_, rfl, rfl, fun q hq => ?_, rfl⟩
    · rw [kA_sI, kA_sA_o _ _ _ hc, kA_sAr_o _ _ hc]
    · rw [kI_sI, upd_o _ _ hq]; rfl
theorem q_dropAt {S : kS} {t j : Nat} {l : List Nat} (R : nR S t j l) {i : Nat} (hi : i < l.length) {N : Nat} : ∃ S', pX5_dropAt N t j (zI (i : Nat)) S = some ((), S') ∧ nR S' t j (l.eraseIdx i) ∧ frN t j S S' := by
  have hk := kNl_le j
  obtain ⟨R1, R2, R3, R4, R5⟩ := id R
  have hl' : (l.eraseIdx i).length = l.length - 1 := by rw [List.length_eraseIdx, if_pos hi]
  simp only [pX5_dropAt]
  rw [zL_0, il_lt (by omega) (by omega) (by omega) (by omega), if_neg (by omega), R1, il_le (by omega) (by omega) (by omega) (by omega), if_neg (by omega), zL_1, zI_add, zI_sub, zI_sub, gcp_z (by omega) (by omega) (by omega) (by omega) (by omega) (by omega), svk_i, svk_i]
  refine ⟨_, rfl, ?_, ?_⟩
  · refine ⟨?_, fun q hq => ?_, R3.sublist (List.eraseIdx_sublist _ _), fun y hy => R4 _ ((List.eraseIdx_sublist _ _).subset hy), by omega⟩
    · rw [kI_sI, upd_s, kI_sAr, R1, zI_sub, hl']
      congr 1; omega
    · rw [kA_sI, kA_sAr_s, zI_cn (by omega), zI_clamp (by omega) (by omega), zI_clamp (by omega) (by omega), List.getElem_eraseIdx]
      unfold va_cpy
      by_cases h : q < i
      · rw [dif_pos h, if_neg (by omega), R2 q (by omega)]
      · rw [dif_neg h, if_pos (by omega), show ((i : Int) + 1).toNat + (q - i) = q + 1 by omega, R2 (q + 1) (by omega)]
  · refine ⟨fun c hc => ?_, rfl, rfl, fun q hq => ?_, rfl⟩
    · rw [kA_sI, kA_sAr_o _ _ hc]
    · rw [kI_sI, upd_o _ _ hq]; rfl

