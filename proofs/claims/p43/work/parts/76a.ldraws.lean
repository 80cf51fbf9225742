-- LEVEL 2, THE LAW: FILTERS ARE DRAWN
def dPl (form a v : Nat) (k : Nat) : List (Nat × Int × Int) :=
  if form = 0 then [(0, (a : Int), (v : Int))] else if form = 1 then [(1, (a : Int), (v : Int))] else if form = 2 then [(2, (a : Int), 0)] else if form = 3 then [(3, (k : Int), 0)]
  else if form = 4 then [(0, (a : Int), (v : Int)), (6, 0, 0)] else if form = 5 then [(2, (a : Int), 0), (3, (k : Int), 0), (4, 0, 1)] else [(0, (a : Int), (v : Int)), (2, (a : Int), 0), (6, 1, 0), (5, 0, 2)]
def dKl (form : Nat) : List Nat := if form < 4 then [0] else if form = 4 then [1] else if form = 5 then [2] else [3]
theorem wFt_l {W : sW} {T : sT} {e form a v k : Nat} (hf : form < 7) : wFt (wFl W (dPl form a v k) (dKl form)) T e = lFit (wH W) T e form a v (k : Nat) := by
  rcases (show form = 0 ∨ form = 1 ∨ form = 2 ∨ form = 3 ∨ form = 4 ∨ form = 5 ∨ form = 6 by omega) with rfl | rfl | rfl | rfl | rfl | rfl | rfl
  all_goals unfold wFt lFit
  all_goals simp [wFl, wMk, wP, wK, wH, dPl, dKl, pTs, pG, upf, pVal]
  all_goals rfl
section LDR
variable {N m : Nat} {S : kS} {L : lS} {W : sW}
def drG (N form a v k : Nat) (S : kS) (L : lS) (W : sW) : Prop := ∃ S', pL_draws N (zI (form : Nat)) (zI (a : Nat)) (zI (v : Nat)) (zI (k : Nat)) S L = some (zB true, S', L) ∧ wOk (wFl W (dPl form a v k) (dKl form)) ∧ kRel S' (wFl W (dPl form a v k) (dKl form))
theorem lq_dr0 (h : wOk W) (K : kRel S W) {a v k : Nat} (ha : a < hA (wH W)) (hv : v < 1000) (hk : k < hC (wH W)) : drG N 0 a v k S L W := by
  obtain ⟨S0, e0, w0, k0⟩ := k_wipe (N := N) h K
  have z0 : ¬ zI ((wP W).length : Nat) < (0 : Int32) := by
    have := h.2.2.1.1
    rw [zL_0, zI_lt (by omega) (by omega) (by omega) (by omega)]
    omega
  obtain ⟨S1, e1, w1, k1⟩ := k_equal (N := N) w0 k0 (a := a) (v := v) ha hv ⟨by show 0 < 8; omega, by show 0 < 15; omega⟩
  have e1 : pX9_equal N (zI (a : Nat)) (zI (v : Nat)) S0 = some (.inl (zI 1), S1) := e1
  refine ⟨S1, ?_, w1, k1⟩
  simp only [pL_draws, pL_draws_12, pL_draws_29, pL_draws_71, pL_draws_97, pL_draws_126]
  rw [e0, lbm_i, if_neg z0, if_pos (show zI ((0 : Nat) : Int) = (0 : Int32) from rfl), e1, lbx_i (by omega), if_neg (show ¬ (1 : Int32) = 0 by decide), if_pos (show zI 1 = (1 : Int32) from rfl), if_neg (show ¬ zI ((0 : Nat) : Int) = (4 : Int32) by decide), if_neg (show ¬ zI ((0 : Nat) : Int) = (5 : Int32) by decide), if_neg (show ¬ (1 : Int32) = 0 by decide), if_neg (show ¬ zI ((0 : Nat) : Int) = (6 : Int32) by decide), zlB_1 (by omega)]
theorem lq_dr1 (h : wOk W) (K : kRel S W) {a v k : Nat} (ha : a < hA (wH W)) (hv : v < 1000) (hk : k < hC (wH W)) : drG N 1 a v k S L W := by
  obtain ⟨S0, e0, w0, k0⟩ := k_wipe (N := N) h K
  have z0 : ¬ zI ((wP W).length : Nat) < (0 : Int32) := by
    have := h.2.2.1.1
    rw [zL_0, zI_lt (by omega) (by omega) (by omega) (by omega)]
    omega
  obtain ⟨S1, e1, w1, k1⟩ := k_atLeast (N := N) w0 k0 (a := a) (v := v) ha hv ⟨by show 0 < 8; omega, by show 0 < 15; omega⟩
  have e1 : pX9_atLeast N (zI (a : Nat)) (zI (v : Nat)) S0 = some (.inl (zI 1), S1) := e1
  refine ⟨S1, ?_, w1, k1⟩
  simp only [pL_draws, pL_draws_12, pL_draws_29, pL_draws_71, pL_draws_97, pL_draws_126]
  rw [e0, lbm_i, if_neg z0, if_neg (show ¬ zI ((1 : Nat) : Int) = (0 : Int32) by decide), if_neg (show ¬ zI ((1 : Nat) : Int) = (4 : Int32) by decide), if_neg (show ¬ zI ((1 : Nat) : Int) = (6 : Int32) by decide), if_pos (show zI ((1 : Nat) : Int) = (1 : Int32) from rfl), e1, lbx_i (by omega), if_neg (show ¬ (1 : Int32) = 0 by decide), if_pos (show zI 1 = (1 : Int32) from rfl), if_neg (show ¬ zI ((1 : Nat) : Int) = (4 : Int32) by decide), if_neg (show ¬ zI ((1 : Nat) : Int) = (5 : Int32) by decide), if_neg (show ¬ (1 : Int32) = 0 by decide), if_neg (show ¬ zI ((1 : Nat) : Int) = (6 : Int32) by decide), zlB_1 (by omega)]
theorem lq_dr2 (h : wOk W) (K : kRel S W) {a v k : Nat} (ha : a < hA (wH W)) (hv : v < 1000) (hk : k < hC (wH W)) : drG N 2 a v k S L W := by
  obtain ⟨S0, e0, w0, k0⟩ := k_wipe (N := N) h K
  have z0 : ¬ zI ((wP W).length : Nat) < (0 : Int32) := by
    have := h.2.2.1.1
    rw [zL_0, zI_lt (by omega) (by omega) (by omega) (by omega)]
    omega
  obtain ⟨S1, e1, w1, k1⟩ := k_has (N := N) w0 k0 (a := a) ha ⟨by show 0 < 8; omega, by show 0 < 15; omega⟩
  have e1 : pX9_has N (zI (a : Nat)) S0 = some (.inl (zI 1), S1) := e1
  refine ⟨S1, ?_, w1, k1⟩
  simp only [pL_draws, pL_draws_12, pL_draws_29, pL_draws_71, pL_draws_97, pL_draws_126]
  rw [e0, lbm_i, if_neg z0, if_neg (show ¬ zI ((2 : Nat) : Int) = (0 : Int32) by decide), if_neg (show ¬ zI ((2 : Nat) : Int) = (4 : Int32) by decide), if_neg (show ¬ zI ((2 : Nat) : Int) = (6 : Int32) by decide), if_neg (show ¬ zI ((2 : Nat) : Int) = (1 : Int32) by decide), if_neg (show ¬ zI ((2 : Nat) : Int) = (3 : Int32) by decide), e1, lbx_i (by omega), if_neg (show ¬ (1 : Int32) = 0 by decide), if_pos (show zI 1 = (1 : Int32) from rfl), if_neg (show ¬ zI ((2 : Nat) : Int) = (4 : Int32) by decide), if_neg (show ¬ zI ((2 : Nat) : Int) = (5 : Int32) by decide), if_neg (show ¬ (1 : Int32) = 0 by decide), if_neg (show ¬ zI ((2 : Nat) : Int) = (6 : Int32) by decide), zlB_1 (by omega)]
theorem lq_dr3 (h : wOk W) (K : kRel S W) {a v k : Nat} (ha : a < hA (wH W)) (hv : v < 1000) (hk : k < hC (wH W)) : drG N 3 a v k S L W := by
  obtain ⟨S0, e0, w0, k0⟩ := k_wipe (N := N) h K
  have z0 : ¬ zI ((wP W).length : Nat) < (0 : Int32) := by
    have := h.2.2.1.1
    rw [zL_0, zI_lt (by omega) (by omega) (by omega) (by omega)]
    omega
  obtain ⟨S1, e1, w1, k1⟩ := k_ofClass (N := N) w0 k0 (a := k) hk ⟨by show 0 < 8; omega, by show 0 < 15; omega⟩
  have e1 : pX9_ofClass N (zI (k : Nat)) S0 = some (.inl (zI 1), S1) := e1
  refine ⟨S1, ?_, w1, k1⟩
  simp only [pL_draws, pL_draws_12, pL_draws_29, pL_draws_71, pL_draws_97, pL_draws_126]
  rw [e0, lbm_i, if_neg z0, if_neg (show ¬ zI ((3 : Nat) : Int) = (0 : Int32) by decide), if_neg (show ¬ zI ((3 : Nat) : Int) = (4 : Int32) by decide), if_neg (show ¬ zI ((3 : Nat) : Int) = (6 : Int32) by decide), if_neg (show ¬ zI ((3 : Nat) : Int) = (1 : Int32) by decide), if_pos (show zI ((3 : Nat) : Int) = (3 : Int32) from rfl), e1, lbx_i (by omega), if_neg (show ¬ (1 : Int32) = 0 by decide), if_pos (show zI 1 = (1 : Int32) from rfl), if_neg (show ¬ zI ((3 : Nat) : Int) = (4 : Int32) by decide), if_neg (show ¬ zI ((3 : Nat) : Int) = (5 : Int32) by decide), if_neg (show ¬ (1 : Int32) = 0 by decide), if_neg (show ¬ zI ((3 : Nat) : Int) = (6 : Int32) by decide), zlB_1 (by omega)]
theorem lq_dr4 (h : wOk W) (K : kRel S W) {a v k : Nat} (ha : a < hA (wH W)) (hv : v < 1000) (hk : k < hC (wH W)) : drG N 4 a v k S L W := by
  obtain ⟨S0, e0, w0, k0⟩ := k_wipe (N := N) h K
  have z0 : ¬ zI ((wP W).length : Nat) < (0 : Int32) := by
    have := h.2.2.1.1
    rw [zL_0, zI_lt (by omega) (by omega) (by omega) (by omega)]
    omega
  obtain ⟨S1, e1, w1, k1⟩ := k_equal (N := N) w0 k0 (a := a) (v := v) ha hv ⟨by show 0 < 8; omega, by show 0 < 15; omega⟩
  have e1 : pX9_equal N (zI (a : Nat)) (zI (v : Nat)) S0 = some (.inl (zI 1), S1) := e1
  obtain ⟨S2, e2, w2, k2⟩ := k_not (N := N) w1 k1 (F := []) (u := 0) rfl (by show 1 < 15; omega)
  have e2 : pX9_not N S1 = some (.inl (zI 1), S2) := e2
  refine ⟨S2, ?_, w2, k2⟩
  simp only [pL_draws, pL_draws_12, pL_draws_29, pL_draws_71, pL_draws_97, pL_draws_126]
  rw [e0, lbm_i, if_neg z0, if_neg (show ¬ zI ((4 : Nat) : Int) = (0 : Int32) by decide), if_pos (show zI ((4 : Nat) : Int) = (4 : Int32) from rfl), e1, lbx_i (by omega), if_neg (show ¬ (1 : Int32) = 0 by decide), if_pos (show zI 1 = (1 : Int32) from rfl), if_pos (show zI ((4 : Nat) : Int) = (4 : Int32) from rfl), e2, lbx_i (by omega), if_pos (show zI 1 = (1 : Int32) from rfl), if_neg (show ¬ zI ((4 : Nat) : Int) = (5 : Int32) by decide), if_neg (show ¬ (1 : Int32) = 0 by decide), if_neg (show ¬ zI ((4 : Nat) : Int) = (6 : Int32) by decide), zlB_1 (by omega)]
theorem lq_dr5 (h : wOk W) (K : kRel S W) {a v k : Nat} (ha : a < hA (wH W)) (hv : v < 1000) (hk : k < hC (wH W)) : drG N 5 a v k S L W := by
  obtain ⟨S0, e0, w0, k0⟩ := k_wipe (N := N) h K
  have z0 : ¬ zI ((wP W).length : Nat) < (0 : Int32) := by
    have := h.2.2.1.1
    rw [zL_0, zI_lt (by omega) (by omega) (by omega) (by omega)]
    omega
  obtain ⟨S1, e1, w1, k1⟩ := k_has (N := N) w0 k0 (a := a) ha ⟨by show 0 < 8; omega, by show 0 < 15; omega⟩
  have e1 : pX9_has N (zI (a : Nat)) S0 = some (.inl (zI 1), S1) := e1
  obtain ⟨S2, e2, w2, k2⟩ := k_ofClass (N := N) w1 k1 (a := k) hk ⟨by show 1 < 8; omega, by show 1 < 15; omega⟩
  have e2 : pX9_ofClass N (zI (k : Nat)) S1 = some (.inl (zI 2), S2) := e2
  obtain ⟨S3, e3, w3, k3⟩ := k_combine (N := N) w2 k2 (x := 1) (F := []) (u := 0) (v := 1) rfl (by show 2 < 15; omega)
  have e3 : pX9_combine N (1 : Int32) S2 = some (.inl (zI 1), S3) := e3
  refine ⟨S3, ?_, w3, k3⟩
  simp only [pL_draws, pL_draws_12, pL_draws_29, pL_draws_71, pL_draws_97, pL_draws_126]
  rw [e0, lbm_i, if_neg z0, if_neg (show ¬ zI ((5 : Nat) : Int) = (0 : Int32) by decide), if_neg (show ¬ zI ((5 : Nat) : Int) = (4 : Int32) by decide), if_neg (show ¬ zI ((5 : Nat) : Int) = (6 : Int32) by decide), if_neg (show ¬ zI ((5 : Nat) : Int) = (1 : Int32) by decide), if_neg (show ¬ zI ((5 : Nat) : Int) = (3 : Int32) by decide), e1, lbx_i (by omega), if_neg (show ¬ (1 : Int32) = 0 by decide), if_pos (show zI 1 = (1 : Int32) from rfl), if_neg (show ¬ zI ((5 : Nat) : Int) = (4 : Int32) by decide), if_pos (show zI ((5 : Nat) : Int) = (5 : Int32) from rfl), e2, lbx_i (by omega), if_pos (show zI 2 = (2 : Int32) from rfl), e3, lbx_i (by omega), if_pos (show zI 1 = (1 : Int32) from rfl), if_neg (show ¬ (1 : Int32) = 0 by decide), if_neg (show ¬ zI ((5 : Nat) : Int) = (6 : Int32) by decide), zlB_1 (by omega)]
theorem lq_dr6 (h : wOk W) (K : kRel S W) {a v k : Nat} (ha : a < hA (wH W)) (hv : v < 1000) (hk : k < hC (wH W)) : drG N 6 a v k S L W := by
  obtain ⟨S0, e0, w0, k0⟩ := k_wipe (N := N) h K
  have z0 : ¬ zI ((wP W).length : Nat) < (0 : Int32) := by
    have := h.2.2.1.1
    rw [zL_0, zI_lt (by omega) (by omega) (by omega) (by omega)]
    omega
  obtain ⟨S1, e1, w1, k1⟩ := k_equal (N := N) w0 k0 (a := a) (v := v) ha hv ⟨by show 0 < 8; omega, by show 0 < 15; omega⟩
  have e1 : pX9_equal N (zI (a : Nat)) (zI (v : Nat)) S0 = some (.inl (zI 1), S1) := e1
  obtain ⟨S2, e2, w2, k2⟩ := k_has (N := N) w1 k1 (a := a) ha ⟨by show 1 < 8; omega, by show 1 < 15; omega⟩
  have e2 : pX9_has N (zI (a : Nat)) S1 = some (.inl (zI 2), S2) := e2
  obtain ⟨S3, e3, w3, k3⟩ := k_not (N := N) w2 k2 (F := [0]) (u := 1) rfl (by show 2 < 15; omega)
  have e3 : pX9_not N S2 = some (.inl (zI 2), S3) := e3
  obtain ⟨S4, e4, w4, k4⟩ := k_combine (N := N) w3 k3 (x := 0) (F := []) (u := 0) (v := 2) rfl (by show 3 < 15; omega)
  have e4 : pX9_combine N (0 : Int32) S3 = some (.inl (zI 1), S4) := e4
  refine ⟨S4, ?_, w4, k4⟩
  simp only [pL_draws, pL_draws_12, pL_draws_29, pL_draws_71, pL_draws_97, pL_draws_126]
  rw [e0, lbm_i, if_neg z0, if_neg (show ¬ zI ((6 : Nat) : Int) = (0 : Int32) by decide), if_neg (show ¬ zI ((6 : Nat) : Int) = (4 : Int32) by decide), if_pos (show zI ((6 : Nat) : Int) = (6 : Int32) from rfl), e1, lbx_i (by omega), if_neg (show ¬ (1 : Int32) = 0 by decide), if_pos (show zI 1 = (1 : Int32) from rfl), if_neg (show ¬ zI ((6 : Nat) : Int) = (4 : Int32) by decide), if_neg (show ¬ zI ((6 : Nat) : Int) = (5 : Int32) by decide), if_neg (show ¬ (1 : Int32) = 0 by decide), if_pos (show zI ((6 : Nat) : Int) = (6 : Int32) from rfl), e2, lbx_i (by omega), if_pos (show zI 2 = (2 : Int32) from rfl), e3, lbx_i (by omega), if_pos (show zI 2 = (2 : Int32) from rfl), e4, lbx_i (by omega), if_pos (show zI 1 = (1 : Int32) from rfl), zlB_1 (by omega)]
theorem lq_draws (h : wOk W) (K : kRel S W) {form a v k : Nat} (hf : form < 7) (ha : a < hA (wH W)) (hv : v < 1000) (hk : k < hC (wH W)) : drG N form a v k S L W := by
  rcases (show form = 0 ∨ form = 1 ∨ form = 2 ∨ form = 3 ∨ form = 4 ∨ form = 5 ∨ form = 6 by omega) with rfl | rfl | rfl | rfl | rfl | rfl | rfl
  · exact lq_dr0 h K ha hv hk
  · exact lq_dr1 h K ha hv hk
  · exact lq_dr2 h K ha hv hk
  · exact lq_dr3 h K ha hv hk
  · exact lq_dr4 h K ha hv hk
  · exact lq_dr5 h K ha hv hk
  · exact lq_dr6 h K ha hv hk
theorem dKl_1 {form : Nat} : (dKl form).length = 1 := by
  unfold dKl
  repeat' split
  all_goals rfl
end LDR
