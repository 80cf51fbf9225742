-- LEVEL 2, THE CLASS'S CALLS ALONE: WHAT THEY ANSWER, AND THE STATE BEHIND
def kOk (A : Option ((Int32 ⊕ Nat) × kS)) (v : Int) (W : sW) : Prop := ∃ S', A = some (.inl (zI v), S') ∧ wOk W ∧ kRel S' W
def kNo (A : Option ((Int32 ⊕ Nat) × kS)) (k : Nat) (W : sW) : Prop := ∃ S', A = some (.inr k, S') ∧ wOk W ∧ kRel S' W
section KA
variable {N : Nat} {S : kS} {W : sW} {m e : Nat}
theorem k_parentOf (h : wOk W) (K : kRel S W) (hm : m < 4) (hl : tLv (wTr W m) (e : Nat) = true) : kOk (pX9_parentOf N (zI (m : Nat)) (zI (e : Nat)) S) (tPl (wTr W m) e) W := by
  have Q := kRel_t h K hm
  have he := tLv_lt hl
  simp only [pX9_parentOf]
  rw [g_master hm, bx_l, gn_l hm, g_entry Q (by omega) (by omega), if_pos hl, bx_l, q_placeOf Q (by omega), bk_i]
  exact ⟨S, rfl, h, K⟩
theorem k_parentOf_no (h : wOk W) (K : kRel S W) (hm : m < 4) (he : e < 48) (hl : ¬ tLv (wTr W m) (e : Nat) = true) : kNo (pX9_parentOf N (zI (m : Nat)) (zI (e : Nat)) S) 1 W := by
  have Q := kRel_t h K hm
  simp only [pX9_parentOf]
  rw [g_master hm, bx_l, gn_l hm, g_entry Q (by omega) (by omega), if_neg hl, bx_r]
  exact ⟨S, rfl, h, K⟩
theorem k_parentAnew (hN : 20000 ≤ N) (h : wOk W) (K : kRel S W) (hm : m < 4) (hl : tLv (wTr W m) (e : Nat) = true) : kOk (pX9_parentAnew N (zI (m : Nat)) (zI (e : Nat)) S) (tPl (wTr W m) e) W := by
  have Q := kRel_t h K hm
  have he := tLv_lt hl
  simp only [pX9_parentAnew]
  obtain ⟨S', e2, Q2, K2⟩ := w_redo (N := N) (by omega) h K hm
  rw [g_master hm, bx_l, gn_l hm, g_entry Q (by omega) (by omega), if_pos hl, bx_l, e2, bk_i, q_placeOf Q2 (by omega), bk_i]
  exact ⟨S', rfl, h, K2⟩
theorem k_nameOf (hN : 20000 ≤ N) (h : wOk W) (K : kRel S W) (hm : m < 4) (hl : tLv (wTr W m) (e : Nat) = true) : kOk (pX9_nameOf N (zI (m : Nat)) (zI (e : Nat)) S) (tSh (wTr W m) e) W := by
  have Q := kRel_t h K hm
  have he := tLv_lt hl
  have ht := tLv_th (show e < 48 by omega) hl
  simp only [pX9_nameOf]
  rw [g_master hm, bx_l, gn_l hm, g_entry Q (by omega) (by omega), if_pos hl, bx_l, q_shownName Q (by omega) (by omega) ht, bk_i]
  exact ⟨S, rfl, h, K⟩
theorem k_linkOf (h : wOk W) (K : kRel S W) (hm : m < 4) (hl : tLv (wTr W m) (e : Nat) = true) : kOk (pX9_linkOf N (zI (m : Nat)) (zI (e : Nat)) S) (tLk (wTr W m) e) W := by
  have Q := kRel_t h K hm
  have he := tLv_lt hl
  simp only [pX9_linkOf]
  rw [g_master hm, bx_l, gn_l hm, g_entry Q (by omega) (by omega), if_pos hl, bx_l, gd_n (by omega) (by omega), zI_cn (by omega), Q.1.2.2.1 e (by omega)]
  exact ⟨S, rfl, h, K⟩
theorem k_knows (h : wOk W) (K : kRel S W) {z : Nat} (hm : m < 4) (hz : z < 4) : kOk (pX9_knows N (zI (m : Nat)) (zI (z : Nat)) S) (wT W m m z : Nat) W := by
  have K10 := K.2.2.2.2.2.1
  simp only [pX9_knows]
  rw [g_master hm, bx_l, gn_l hm, g_master hz, bx_l, gn_l hz, (K10 z hz).1, q_toldOf (K10 m hm) hm hz, bk_i]
  exact ⟨S, rfl, h, K⟩
theorem k_found (h : wOk W) (K : kRel S W) {i : Nat} (hi : i < (wF W).length) : kOk (pX9_found N (zI (i : Nat)) S) ((wF W)[i] : Nat) W := by
  obtain ⟨f1, f2⟩ := h.2.2.2.2.2.2.2.1
  obtain ⟨k1, k2⟩ := K.2.2.2.2.2.2.2.2.2.2.2.2
  simp only [pX9_found, pX9_found_15]
  rw [zL_0, il_lt (by omega) (by omega) (by omega) (by omega), k1, il_lt (by omega) (by omega) (by omega) (by omega), if_neg (by omega), if_pos (by omega), gd_n (by omega) (by omega), zI_cn (by omega), k2 i hi]
  exact ⟨S, rfl, h, K⟩
theorem k_found_no (h : wOk W) (K : kRel S W) {i : Nat} (hi : (wF W).length ≤ i) (hi2 : i < 1000) : kNo (pX9_found N (zI (i : Nat)) S) 1 W := by
  obtain ⟨f1, f2⟩ := h.2.2.2.2.2.2.2.1
  obtain ⟨k1, k2⟩ := K.2.2.2.2.2.2.2.2.2.2.2.2
  simp only [pX9_found, pX9_found_15]
  rw [zL_0, il_lt (by omega) (by omega) (by omega) (by omega), k1, il_lt (by omega) (by omega) (by omega) (by omega), if_neg (by omega), if_neg (by omega)]
  exact ⟨S, rfl, h, K⟩
theorem k_valuesAnew (hN : 20000 ≤ N) (h : wOk W) (K : kRel S W) {a : Nat} (hm : m < 4) (hl : tLv (wTr W m) (e : Nat) = true) (ha : a < hA (wH W)) : kOk (pX9_valuesAnew N (zI (m : Nat)) (zI (e : Nat)) (zI (a : Nat)) S) (tCnt (wTr W m) e a : Nat) W := by
  have Q := kRel_t h K hm
  have he := tLv_lt hl
  have h10 := h.1.1
  simp only [pX9_valuesAnew]
  obtain ⟨S', e2, Q2, K2⟩ := w_redo (N := N) (by omega) h K hm
  rw [g_master hm, bx_l, gn_l hm, g_entry Q (by omega) (by omega), if_pos hl, bx_l, g_attribute K.1 h.1 (by omega) (by omega), if_pos (by omega), bx_l, e2, bk_i, q_valuesOf Q2 (by omega) (by omega) (by omega), bk_i]
  exact ⟨S', rfl, h, K2⟩
theorem k_may (hN : 20000 ≤ N) (h : wOk W) (K : kRel S W) {u r : Nat} (hm : m < 4) (hu : u < 6) (hr : r < 2) (hl : tLv (wTr W m) (e : Nat) = true) : ∃ S', pX9_may N (zI (m : Nat)) (zI (u : Nat)) (zI (e : Nat)) (zI (r : Nat)) S = some (.inl (zB (tMay (wH W) (wTr W m) u (e : Nat) r)), S') ∧ wOk W ∧ kRel S' W := by
  have Q := kRel_t h K hm
  have he := tLv_lt hl
  simp only [pX9_may]
  rw [g_master hm, bx_l, gn_l hm, g_user (by omega) (by omega), if_pos (by omega), bx_l, g_entry Q (by omega) (by omega), if_pos hl, bx_l, g_right (by omega) (by omega), if_pos (by omega), bx_l, q_grants Q K.1 (by omega) (by omega) (by omega) (by omega) (by omega), bk_i, zx_B]
  exact ⟨S, rfl, h, K⟩
theorem k_valueAt (hN : 20000 ≤ N) (h : wOk W) (K : kRel S W) {a i : Nat} (hm : m < 4) (hl : tLv (wTr W m) (e : Nat) = true) (ha : a < hA (wH W)) (hi : i < 1000) : ∃ r : Int, kOk (pX9_valueAt N (zI (m : Nat)) (zI (e : Nat)) (zI (a : Nat)) (zI (i : Nat)) S) r W ∧ tVal (wTr W m) e a i r := by
  have Q := kRel_t h K hm
  have he := tLv_lt hl
  have h10 := h.1.1
  obtain ⟨r, e1, hr⟩ := q_valueNumbered (N := N) (S := S) Q (by omega) (show e < 48 by omega) (show a < 10 by omega) (show i < 2147483648 by omega)
  refine ⟨r, ?_, hr⟩
  simp only [pX9_valueAt]
  rw [g_master hm, bx_l, gn_l hm, g_entry Q (by omega) (by omega), if_pos hl, bx_l, g_attribute K.1 h.1 (by omega) (by omega), if_pos (by omega), bx_l, g_index (by omega) (by omega), if_pos (by omega), bx_l, e1, bk_i]
  exact ⟨S, rfl, h, K⟩
/-- a master serves another -/
def wSv (W : sW) (m u : Nat) : sW := wMk (wH W) (wD W) (wP W) (wK W) (wC W) (wN W) (wO W) (wT W) (wX W) (upf (wU W) m u) (wE W) (wF W)
theorem k_serve (h : wOk W) (K : kRel S W) {u : Nat} (hm : m < 4) (hu : u < 6) : kOk (pX9_serve N (zI (m : Nat)) (zI (u : Nat)) S) (wU W m : Nat) (wSv W m u) := by
  simp only [pX9_serve, nm_i, svk_i]
  rw [g_master hm, bx_l, gn_l hm, g_user (by omega) (by omega), if_pos (by omega), bx_l, K.2.2.2.2.2.2.1 m hm]
  obtain ⟨o1, o2, o3, o4, o5, o6, o7, o8⟩ := h
  refine ⟨_, rfl, ⟨o1, o2, o3, o4, o5, fun j hj => ?_, o7, o8⟩, ?_⟩
  · show upf (wU W) m u j < 6
    by_cases g : j = m
    · rw [g, upf_s]; omega
    · rw [upf_o _ _ g]; exact o6 j hj
  · have u9 : ∀ k, k ≠ 17 + 4 * m → kI (sI S (17 + 4 * m) (zI (u : Nat))) k = kI S k := fun k hk => upd_o _ _ hk
    obtain ⟨k1, ⟨k2, k3⟩, ⟨k4, k5, k6⟩, k7, ⟨k8, k9⟩, k10, k11, k12, k13, k14, k15, k16, ⟨k17, k18⟩⟩ := K
    refine ⟨fr_hR k1 (fun q hq => u9 q (by omega)) (fun c _ => rfl), ⟨by rw [u9 _ (by omega)]; exact k2, k3⟩, ⟨by rw [u9 _ (by omega)]; exact k4, by rw [u9 _ (by omega)]; exact k5, k6⟩, k7, ⟨lgR_fr (u9 _ (by omega)) rfl k8, k9⟩, fun j hj => tdR_fr (u9 _ (by omega)) rfl (k10 j hj), fun j hj => ?_, fun j hj => by rw [u9 _ (by omega)]; exact k12 j hj, k13, by rw [u9 _ (by omega)]; exact k14, fun j hj => tR_other (fun q a b => u9 q (by omega)) (fun _ _ _ => rfl) (fun _ _ _ => rfl) rfl rfl (k15 j hj), k16, ⟨by rw [u9 _ (by omega)]; exact k17, k18⟩⟩
    show _ = zI (upf (wU W) m _ j : Nat)
    by_cases g : j = m
    · rw [g, upf_s, kI_sI, upd_s]
    · rw [upf_o _ _ g, kI_sI, upd_o _ _ (by omega)]; exact k11 j hj
/-- a value is drafted; the draft is dropped; filters are wiped -/
def wDr (W : sW) (D : List (Nat × Nat)) : sW := wMk (wH W) D (wP W) (wK W) (wC W) (wN W) (wO W) (wT W) (wX W) (wU W) (wE W) (wF W)
def wFl (W : sW) (P : List (Nat × Int × Int)) (F : List Nat) : sW := wMk (wH W) (wD W) P F (wC W) (wN W) (wO W) (wT W) (wX W) (wU W) (wE W) (wF W)
theorem k_draft (h : wOk W) (K : kRel S W) {a v : Nat} (ha : a < hA (wH W)) (hv : v < 1000) (hn : (wD W).length < 12) : kOk (pX9_draft N (zI (a : Nat)) (zI (v : Nat)) S) (((wD W).length + 1 : Nat) : Int) (wDr W (wD W ++ [(a, v)])) := by
  obtain ⟨d1, d2⟩ := h.2.1
  have h10 := h.1.1
  have k5 := K.2.1.1
  simp only [pX9_draft, pX1_put, pX1_put_32, svk_i]
  rw [g_attribute K.1 h.1 (by omega) (by omega), if_pos (by omega), bx_l, g_value (by omega) (by omega), if_pos (by omega), bx_l, k5, zL_12, il_lt (by omega) (by omega) (by omega) (by omega), il_le (by omega) (by omega) (by omega) (by omega), if_pos (show ((wD W).length : Int) < 12 by omega), if_neg (show ¬ (12 : Int) ≤ ((wD W).length : Int) by omega)]
  rw [zL_1000]
  simp only [zI_mul, zI_add, gd_n hn (show (12 : Nat) < 2147483648 by omega), zI_cn (show (wD W).length < 2147483648 by omega)]
  have c5 : kI (sA S 6 (wD W).length (zI ((a : Int) * 1000 + (v : Int)))) 5 = zI ((wD W).length : Nat) := k5
  rw [c5, zL_1, zI_add]
  obtain ⟨o1, o2, o3, o4, o5, o6, o7, o8⟩ := id h
  have hlen : ((wD W) ++ [(a, v)]).length = (wD W).length + 1 := by rw [List.length_append, List.length_singleton]
  have uI : ∀ (x : Int32) q, q ≠ 5 → kI (sI (sA S 6 (wD W).length (zI ((a : Int) * 1000 + (v : Int)))) 5 x) q = kI S q := fun x q hq => upd_o _ _ hq
  obtain ⟨k1, k2, k3, k4⟩ := id K
  refine ⟨_, by rw [bk_i, kI_sI, upd_s]; congr 2, ⟨o1, ⟨by show (wD W ++ [(a, v)]).length ≤ 12; omega, fun x hx => ?_⟩, o3, o4, o5, o6, o7, o8⟩, ?_⟩
  · rcases List.mem_append.mp hx with g | g
    · exact d2 x g
    · rw [List.mem_singleton] at g
      rw [g]
      exact ⟨ha, hv⟩
  · refine kRel_e K (fun q hq => uI _ q (by omega)) (fun c hc => by rw [kA_sI, kA_sA_o _ _ _ (by omega)]) (fun _ _ => rfl) rfl rfl ⟨?_, fun i hi => ?_⟩ ⟨by rw [uI _ _ (by omega)]; exact k3.1, by rw [uI _ _ (by omega)]; exact k3.2.1, ?_⟩ (by rw [uI _ _ (by omega)]; exact K.2.2.2.2.2.2.2.2.2.1) ⟨by rw [uI _ _ (by omega)]; exact K.2.2.2.2.2.2.2.2.2.2.2.2.1, ?_⟩
    · rw [kI_sI, upd_s, hlen]; congr 1
    · rw [kA_sI, kA_sA_s]
      rcases app_get i hi with ⟨g1, g2⟩ | ⟨g1, g2⟩
      · rw [g2, upd_o _ _ (by omega)]; exact k2.2 i g1
      · rw [g2, g1, upd_s]; congr 1
    · rw [kA_sI, kA_sA_o _ _ _ (by omega), kA_sA_o _ _ _ (by omega), kA_sA_o _ _ _ (by omega)]; exact k3.2.2
    · rw [kA_sI, kA_sA_o _ _ _ (by omega)]; exact K.2.2.2.2.2.2.2.2.2.2.2.2.2
theorem k_undraft (h : wOk W) (K : kRel S W) : ∃ S', pX9_undraft N S = some (zI ((wD W).length : Nat), S') ∧ wOk (wDr W []) ∧ kRel S' (wDr W []) := by
  simp only [pX9_undraft, nm_i, svk_i]
  rw [K.2.1.1]
  obtain ⟨o1, o2, o3, o4, o5, o6, o7, o8⟩ := id h
  have uI : ∀ q, q ≠ 5 → kI (sI S 5 0) q = kI S q := fun q hq => upd_o _ _ hq
  obtain ⟨k1, k2, k3, k4⟩ := id K
  refine ⟨_, rfl, ⟨o1, ⟨Nat.zero_le _, fun x hx => absurd hx List.not_mem_nil⟩, o3, o4, o5, o6, o7, o8⟩, ?_⟩
  exact kRel_e K (fun q hq => uI q (by omega)) (fun c hc => rfl) (fun _ _ => rfl) rfl rfl ⟨by rw [kI_sI, upd_s]; rfl, fun i hi => absurd hi (Nat.not_lt_zero _)⟩ ⟨by rw [uI _ (by omega)]; exact k3.1, by rw [uI _ (by omega)]; exact k3.2.1, k3.2.2⟩ (by rw [uI _ (by omega)]; exact K.2.2.2.2.2.2.2.2.2.1) ⟨by rw [uI _ (by omega)]; exact K.2.2.2.2.2.2.2.2.2.2.2.2.1, K.2.2.2.2.2.2.2.2.2.2.2.2.2⟩
theorem k_wipe (h : wOk W) (K : kRel S W) : ∃ S', pX9_wipe N S = some (zI ((wP W).length : Nat), S') ∧ wOk (wFl W [] []) ∧ kRel S' (wFl W [] []) := by
  simp only [pX9_wipe, pX2_clear, nm_i, svk_i, bk_i]
  rw [K.2.2.1.1]
  obtain ⟨o1, o2, o3, o4, o5, o6, o7, o8⟩ := id h
  have uI : ∀ q, q ≠ 6 → q ≠ 7 → kI (sI (sI S 6 0) 7 0) q = kI S q := fun q h1 h2 => (upd_o _ _ h2).trans (upd_o _ _ h1)
  obtain ⟨k1, k2, k3, k4⟩ := id K
  refine ⟨_, rfl, ⟨o1, o2, ⟨Nat.zero_le _, Nat.zero_le _, fun x hx => absurd hx List.not_mem_nil, fun i hi => absurd hi (Nat.not_lt_zero _), fun _ => [], fun _ => Nat.zero_le _, rfl, rfl, fun i hi => absurd hi (Nat.not_lt_zero _)⟩, o4, o5, o6, o7, o8⟩, ?_⟩
  exact kRel_e K (fun q hq => uI q (by omega) (by omega)) (fun c hc => rfl) (fun _ _ => rfl) rfl rfl ⟨by rw [uI _ (by omega) (by omega)]; exact k2.1, k2.2⟩ ⟨by rw [kI_sI, upd_o _ _ (by omega), kI_sI, upd_s]; rfl, by rw [kI_sI, upd_s]; rfl, fun i hi => absurd hi (Nat.not_lt_zero _)⟩ (by rw [uI _ (by omega) (by omega)]; exact K.2.2.2.2.2.2.2.2.2.1) ⟨by rw [uI _ (by omega) (by omega)]; exact K.2.2.2.2.2.2.2.2.2.2.2.2.1, K.2.2.2.2.2.2.2.2.2.2.2.2.2⟩
end KA
