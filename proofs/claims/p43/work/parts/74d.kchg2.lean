-- LEVEL 2, THE CLASS'S CALLS ALONE: RENAME, MOVE, DELETE, LINK, RULE
section KD
variable {N : Nat} {S : kS} {W : sW} {m e : Nat}
def cRn (W : sW) (m e : Nat) (z : Int) : Bool := tMay (wH W) (wTr W m) (wU W m) (e : Int) 1 && !tShd (wTr W m) (tPl (wTr W m) e) z e
theorem k_noR (h : wOk W) (K : kRel S W) (hm : m < 4) (he : e < 48) (hl : ¬ (1 ≤ e ∧ tLv (wTr W m) (e : Nat) = true)) (z : Int32) : kNo (pX9_rename N (zI (m : Nat)) (zI (e : Nat)) z S) 1 W ∧ kNo (pX9_move N (zI (m : Nat)) (zI (e : Nat)) z S) 1 W ∧ kNo (pX9_delete N (zI (m : Nat)) (zI (e : Nat)) S) 1 W ∧ kNo (pX9_link N (zI (m : Nat)) (zI (e : Nat)) z S) 1 W := by
  have Q := kRel_t h K hm
  have g : pX9_needChangeable N m (zI (e : Nat)) S = some (.inr 1, S) := by
    rw [g_changeable Q (by omega) (by omega), if_neg (fun g => hl ⟨by omega, g.2⟩)]
  refine ⟨?_, ?_, ?_, ?_⟩
  · simp only [pX9_rename]
    rw [g_master hm, bx_l, gn_l hm, g, bx_r]
    exact ⟨S, rfl, h, K⟩
  · simp only [pX9_move]
    rw [g_master hm, bx_l, gn_l hm, g, bx_r]
    exact ⟨S, rfl, h, K⟩
  · simp only [pX9_delete]
    rw [g_master hm, bx_l, gn_l hm, g, bx_r]
    exact ⟨S, rfl, h, K⟩
  · simp only [pX9_link]
    rw [g_master hm, bx_l, gn_l hm, g, bx_r]
    exact ⟨S, rfl, h, K⟩
theorem k_rename (hN : 20000 ≤ N) (h : wOk W) (K : kRel S W) (hm : m < 4) (he1 : 1 ≤ e) (hl : tLv (wTr W m) (e : Nat) = true) {z : Int} (hz : 0 ≤ z ∧ z < 100) (hn : wN W < 250) : if cRn W m e z = true then kOk (pX9_rename N (zI (m : Nat)) (zI (e : Nat)) (zI z) S) (tSh (wTr W m) e) (wNx W m (wCh W m 4 e z 0)) else kNo (pX9_rename N (zI (m : Nat)) (zI (e : Nat)) (zI z) S) 3 W := by
  have hlt := tLv_lt hl
  have he : e < 48 := by omega
  have ht := tLv_th he hl
  have Q := kRel_t h K hm
  have hlen := h.2.2.2.1.2.1
  have pe := tPl_rg Q.2 he
  have no : kNo (some (Sum.inr 3, S)) 3 W := ⟨S, rfl, h, K⟩
  simp only [pX9_rename, svk_i]
  unfold cRn
  rw [g_master hm, bx_l, gn_l hm, g_changeable Q (by omega) (by omega), if_pos (show ((e : Nat) : Int) ≠ 0 ∧ tLv (wTr W m) (e : Nat) = true from ⟨by omega, hl⟩), bx_l, g_name (by omega) (by omega), if_pos hz, bx_l, g_room K.2.2.2.2.1.1 (by omega), if_pos (show (wO W).length < 250 by omega), bx_l, g_write (by omega) h K hm (by omega) (by omega)]
  by_cases q1 : tMay (wH W) (wTr W m) (wU W m) (e : Int) 1 = true
  · rw [if_pos q1, bx_l, q1, Bool.true_and, q_placeOf Q he, bk_i, g_free (by omega) Q (by omega) (by omega) (by omega) (by omega) (by omega) (by omega)]
    by_cases q4 : tShd (wTr W m) (tPl (wTr W m) e) z e = true
    · rw [if_pos q4, bx_r, q4, Bool.not_true, if_neg (by decide)]
      exact no
    · have c0 := mk_of (Y := 0) h hm hn (K := 4) (E := e) (X := z) (by omega) (by omega) ht he (fun a b => by omega) (fun _ => hz) (fun e => by omega) (fun e => by omega) (fun e => by omega) (fun e => by omega)
      obtain ⟨gn, S1, S2, w2, w3, W2, K2⟩ := k_chg (N := N) (by omega) h K hm hn (kk := 4) (E := e) (X := z) (Y := 0) (x := z) (y := -1) (z := -1) (by omega) c0 (fun a b => by omega) (fun _ => rfl) (fun g => by omega)
      have w2 : pX0_init N (kn S) (4 : Int32) (zI (e : Nat)) (zI z) (-1) (-1) (nU S) = some ((), S1) := w2
      rw [if_neg q4, bx_l, Bool.eq_false_iff.mpr q4, Bool.not_false, if_pos rfl, q_shownName Q (by omega) he ht, bk_i, gn, w2, bk_i, w3, bx_l]
      exact ⟨S2, rfl, W2, K2⟩
  · rw [if_neg q1, bx_r, Bool.eq_false_iff.mpr q1, Bool.false_and, if_neg (by decide)]
    exact no
def cMv (W : sW) (m e p : Nat) : Bool := tMay (wH W) (wTr W m) (wU W m) (e : Int) 1 && (tMay (wH W) (wTr W m) (wU W m) (p : Int) 1 && (!pCome (tPa (wTr W m)) 48 (p : Int) e && !tShd (wTr W m) p (tNm (wTr W m) e) e))
theorem k_move_no (h : wOk W) (K : kRel S W) (hm : m < 4) (he1 : 1 ≤ e) (hl : tLv (wTr W m) (e : Nat) = true) {p : Nat} (hp : p < 48) (hp2 : ¬ tLv (wTr W m) (p : Nat) = true) : kNo (pX9_move N (zI (m : Nat)) (zI (e : Nat)) (zI (p : Nat)) S) 1 W := by
  have hlt := tLv_lt hl
  have Q := kRel_t h K hm
  simp only [pX9_move, svk_i]
  rw [g_master hm, bx_l, gn_l hm, g_changeable Q (by omega) (by omega), if_pos (show ((e : Nat) : Int) ≠ 0 ∧ tLv (wTr W m) (e : Nat) = true from ⟨by omega, hl⟩), bx_l, g_entry Q (by omega) (by omega), if_neg hp2, bx_r]
  exact ⟨S, rfl, h, K⟩
theorem k_move (hN : 20000 ≤ N) (h : wOk W) (K : kRel S W) (hm : m < 4) (he1 : 1 ≤ e) (hl : tLv (wTr W m) (e : Nat) = true) {p : Nat} (hp : tLv (wTr W m) (p : Nat) = true) (hn : wN W < 250) : if cMv W m e p = true then kOk (pX9_move N (zI (m : Nat)) (zI (e : Nat)) (zI (p : Nat)) S) (tPl (wTr W m) e) (wNx W m (wCh W m 7 e (p : Int) 0)) else kNo (pX9_move N (zI (m : Nat)) (zI (e : Nat)) (zI (p : Nat)) S) 3 W := by
  have hlt := tLv_lt hl
  have he : e < 48 := by omega
  have ht := tLv_th he hl
  have hpt := tLv_lt hp
  have hp48 : p < 48 := by omega
  have htp := tLv_th hp48 hp
  have Q := kRel_t h K hm
  have hlen := h.2.2.2.1.2.1
  have pe := tPl_rg Q.2 he
  have ne := Q.2.2.2.1 e he
  have no : kNo (some (Sum.inr 3, S)) 3 W := ⟨S, rfl, h, K⟩
  simp only [pX9_move, pX9_move_53, svk_i, k_need1, k_need0, bx_l, bx_r]
  unfold cMv
  rw [g_master hm, bx_l, gn_l hm, g_changeable Q (by omega) (by omega), if_pos (show ((e : Nat) : Int) ≠ 0 ∧ tLv (wTr W m) (e : Nat) = true from ⟨by omega, hl⟩), bx_l, g_entry Q (by omega) (by omega), if_pos hp, bx_l, g_room K.2.2.2.2.1.1 (by omega), if_pos (show (wO W).length < 250 by omega), bx_l, g_write (by omega) h K hm (by omega) (by omega)]
  by_cases q1 : tMay (wH W) (wTr W m) (wU W m) (e : Int) 1 = true
  · rw [if_pos q1, bx_l, q1, Bool.true_and, g_write (by omega) h K hm (by omega) (by omega)]
    by_cases q5 : tMay (wH W) (wTr W m) (wU W m) (p : Int) 1 = true
    · rw [if_pos q5, bx_l, q5, Bool.true_and, q_comesTo Q (by omega) he (by omega) (by omega), bk_i, il_B]
      by_cases q6 : pCome (tPa (wTr W m)) 48 (p : Int) e = true
      · rw [if_pos q6, q6, Bool.not_true, Bool.false_and, if_neg (by decide)]
        exact no
      · rw [if_neg q6, Bool.eq_false_iff.mpr q6, Bool.not_false, Bool.true_and, gd_n he (by omega), zI_cn (by omega), Q.1.1 e he, g_free (by omega) Q (by omega) (by omega) (by omega) (by omega) (by omega) (by omega)]
        by_cases q4 : tShd (wTr W m) p (tNm (wTr W m) e) e = true
        · rw [if_pos q4, bx_r, q4, Bool.not_true, if_neg (by decide)]
          exact no
        · have c0 := mk_of (Y := 0) h hm hn (K := 7) (E := e) (X := (p : Int)) (by omega) (by omega) ht he (fun a b => by omega) (fun e => by omega) (fun e => by omega) (fun e => by omega) (fun _ => ⟨by omega, by omega, by rw [Int.toNat_natCast]; exact htp⟩) (fun e => by omega)
          obtain ⟨gn, S1, S2, w2, w3, W2, K2⟩ := k_chg (N := N) (by omega) h K hm hn (kk := 7) (E := e) (X := (p : Int)) (Y := 0) (x := (p : Int)) (y := -1) (z := -1) (by omega) c0 (fun a b => by omega) (fun _ => rfl) (fun g => by omega)
          have w2 : pX0_init N (kn S) (7 : Int32) (zI (e : Nat)) (zI (p : Nat)) (-1) (-1) (nU S) = some ((), S1) := w2
          rw [if_neg q4, bx_l, Bool.eq_false_iff.mpr q4, Bool.not_false, if_pos rfl, q_placeOf Q he, bk_i, gn, w2, bk_i, w3, bx_l]
          exact ⟨S2, rfl, W2, K2⟩
    · rw [if_neg q5, bx_r, Bool.eq_false_iff.mpr q5, Bool.false_and, if_neg (by decide)]
      exact no
  · rw [if_neg q1, bx_r, Bool.eq_false_iff.mpr q1, Bool.false_and, if_neg (by decide)]
    exact no
def cDl (W : sW) (m e : Nat) : Bool := tMay (wH W) (wTr W m) (wU W m) (e : Int) 1 && !anyF (tCh (wTr W m) (e : Nat)) 1 47
theorem k_delete (hN : 20000 ≤ N) (h : wOk W) (K : kRel S W) (hm : m < 4) (he1 : 1 ≤ e) (hl : tLv (wTr W m) (e : Nat) = true) (hn : wN W < 250) : if cDl W m e = true then kOk (pX9_delete N (zI (m : Nat)) (zI (e : Nat)) S) (fb_ct (mkd (wNx W m (wCh W m 8 e 0 0)) m) (wE W) : Nat) (wNx W m (wCh W m 8 e 0 0)) else kNo (pX9_delete N (zI (m : Nat)) (zI (e : Nat)) S) 3 W := by
  have hlt := tLv_lt hl
  have he : e < 48 := by omega
  have ht := tLv_th he hl
  have Q := kRel_t h K hm
  have hlen := h.2.2.2.1.2.1
  have no : kNo (some (Sum.inr 3, S)) 3 W := ⟨S, rfl, h, K⟩
  simp only [pX9_delete, pX9_delete_38, svk_i, k_need1, k_need0, bx_l, bx_r]
  unfold cDl
  rw [g_master hm, bx_l, gn_l hm, g_changeable Q (by omega) (by omega), if_pos (show ((e : Nat) : Int) ≠ 0 ∧ tLv (wTr W m) (e : Nat) = true from ⟨by omega, hl⟩), bx_l, g_room K.2.2.2.2.1.1 (by omega), if_pos (show (wO W).length < 250 by omega), bx_l, g_write (by omega) h K hm (by omega) (by omega)]
  by_cases q1 : tMay (wH W) (wTr W m) (wU W m) (e : Int) 1 = true
  · obtain ⟨w, c1, c2⟩ := q_childrenAt (N := N) Q (by omega) (place := (e : Int)) (by omega) (by omega)
    have cz : (lg_cmp w (0 : Int64) = 0) ↔ anyF (tCh (wTr W m) (e : Nat)) 1 47 = false := by
      rw [lb_zero, Bool.eq_false_iff]
      constructor
      · intro g g2
        obtain ⟨j, j1, j2, j3⟩ := anyF_iff.mp g2
        have := g j (by omega)
        rw [c2 j (by omega), decide_eq_true j1, decide_eq_true (show j < 48 by omega), j3] at this
        exact Bool.noConfusion this
      · intro g j hj
        rw [c2 j hj]
        by_cases a1 : 1 ≤ j
        · by_cases a2 : j < 48
          · cases a3 : tCh (wTr W m) (e : Nat) j with
            | false => rw [Bool.and_false, Bool.and_false]
            | true => exact absurd (anyF_iff.mpr ⟨j, a1, by omega, a3⟩) g
          · rw [decide_eq_false a2, Bool.false_and, Bool.and_false]
        · rw [decide_eq_false a1, Bool.false_and]
    rw [if_pos q1, bx_l, q1, Bool.true_and, c1, bk_i]
    by_cases q4 : anyF (tCh (wTr W m) (e : Nat)) 1 47 = false
    · have c0 := mk_of (X := 0) (Y := 0) h hm hn (K := 8) (E := e) (by omega) (by omega) ht he (fun a b => by omega) (fun e => by omega) (fun e => by omega) (fun e => by omega) (fun e => by omega) (fun e => by omega)
      obtain ⟨gn, S1, S2, w2, w3, W2, K2⟩ := k_chg (N := N) (by omega) h K hm hn (kk := 8) (E := e) (X := 0) (Y := 0) (x := -1) (y := -1) (z := -1) (by omega) c0 (fun a b => by omega) (fun g => by omega) (fun g => by omega)
      have w2 : pX0_init N (kn S) (8 : Int32) (zI (e : Nat)) (-1) (-1) (-1) (nU S) = some ((), S1) := w2
      obtain ⟨w6, w7, w8⟩ := q_marks (N := N) W2 K2 hm
      rw [if_pos (cz.mpr q4), q4, Bool.not_false, if_pos rfl, gn, w2, bk_i, w3, bx_l, w7, bk_i, q_bitCount, bk_i, ct_marks W2 w8]
      exact ⟨S2, rfl, W2, K2⟩
    · rw [if_neg (fun g => q4 (cz.mp g)), if_neg (by rw [Bool.not_eq_true']; exact q4)]
      exact no
  · rw [if_neg q1, bx_r, Bool.eq_false_iff.mpr q1, Bool.false_and, if_neg (by decide)]
    exact no
def cLk (W : sW) (m e : Nat) (z : Int) : Bool := tMay (wH W) (wTr W m) (wU W m) (e : Int) 1 && !decide (z = e)
theorem k_link_36 (hN : 20000 ≤ N) (h : wOk W) (K : kRel S W) (hm : m < 4) (he1 : 1 ≤ e) (hl : tLv (wTr W m) (e : Nat) = true) {z : Int} (hz : -1 ≤ z ∧ z < 104) (hn : wN W < 250) : if cLk W m e z = true then kOk (pX9_link_36 N (zI (e : Nat)) (zI z) m S) (tLk (wTr W m) e) (wNx W m (wCh W m 5 e z 0)) else kNo (pX9_link_36 N (zI (e : Nat)) (zI z) m S) 3 W := by
  have hlt := tLv_lt hl
  have he : e < 48 := by omega
  have ht := tLv_th he hl
  have Q := kRel_t h K hm
  have hlen := h.2.2.2.1.2.1
  have no : kNo (some (Sum.inr 3, S)) 3 W := ⟨S, rfl, h, K⟩
  have ex : (zI z = zI (e : Nat)) ↔ z = e := by rw [zI_eq (by omega) (by omega) (by omega) (by omega)]
  simp only [pX9_link_36, pX9_link_56, svk_i, k_need1, k_need0, bx_l, bx_r]
  unfold cLk
  rw [g_room K.2.2.2.2.1.1 (by omega), if_pos (show (wO W).length < 250 by omega), bx_l, g_write (by omega) h K hm (by omega) (by omega)]
  by_cases q1 : tMay (wH W) (wTr W m) (wU W m) (e : Int) 1 = true
  · rw [if_pos q1, bx_l, q1, Bool.true_and]
    by_cases q4 : z = e
    · rw [if_pos (ex.mpr q4), decide_eq_true q4, Bool.not_true, if_neg (by decide)]
      exact no
    · have c0 := mk_of (Y := 0) h hm hn (K := 5) (E := e) (X := z) (by omega) (by omega) ht he (fun a b => by omega) (fun e => by omega) (fun _ => hz) (fun e => by omega) (fun e => by omega) (fun e => by omega)
      obtain ⟨gn, S1, S2, w2, w3, W2, K2⟩ := k_chg (N := N) (by omega) h K hm hn (kk := 5) (E := e) (X := z) (Y := 0) (x := z) (y := -1) (z := -1) (by omega) c0 (fun a b => by omega) (fun _ => rfl) (fun g => by omega)
      have w2 : pX0_init N (kn S) (5 : Int32) (zI (e : Nat)) (zI z) (-1) (-1) (nU S) = some ((), S1) := w2
      rw [if_neg (fun g => q4 (ex.mp g)), decide_eq_false q4, Bool.not_false, if_pos rfl, gd_n he (by omega), zI_cn (by omega), Q.1.2.2.1 e he, nm_i, gn, w2, bk_i, w3, bx_l]
      exact ⟨S2, rfl, W2, K2⟩
  · rw [if_neg q1, bx_r, Bool.eq_false_iff.mpr q1, Bool.false_and, if_neg (by decide)]
    exact no
/-- whether a target of a link is there -/
def lkT (T : sT) (z : Int) : Bool := decide (z < 0) || (decide (99 < z) || tLv T z)
theorem k_link (hN : 20000 ≤ N) (h : wOk W) (K : kRel S W) (hm : m < 4) (he1 : 1 ≤ e) (hl : tLv (wTr W m) (e : Nat) = true) {z : Int} (hz : -1 ≤ z ∧ z < 104) (hn : wN W < 250) : if lkT (wTr W m) z = true then (if cLk W m e z = true then kOk (pX9_link N (zI (m : Nat)) (zI (e : Nat)) (zI z) S) (tLk (wTr W m) e) (wNx W m (wCh W m 5 e z 0)) else kNo (pX9_link N (zI (m : Nat)) (zI (e : Nat)) (zI z) S) 3 W) else kNo (pX9_link N (zI (m : Nat)) (zI (e : Nat)) (zI z) S) 1 W := by
  have hlt := tLv_lt hl
  have Q := kRel_t h K hm
  have z1 : (zI z = (-1 : Int32)) ↔ z = -1 := by rw [zL_m1, zI_eq (by omega) (by omega) (by omega) (by omega)]
  have y := k_link_36 (N := N) hN h K hm he1 hl hz hn
  simp only [pX9_link, pX9_link_30]
  rw [g_master hm, bx_l, gn_l hm, g_changeable Q (by omega) (by omega), if_pos (show ((e : Nat) : Int) ≠ 0 ∧ tLv (wTr W m) (e : Nat) = true from ⟨by omega, hl⟩), bx_l]
  unfold lkT
  by_cases q : z = -1
  · rw [if_pos (z1.mpr q), decide_eq_true (show z < 0 by omega), Bool.true_or, if_pos rfl]
    exact y
  · rw [if_neg (fun g => q (z1.mp g)), zL_100, il_lt (by omega) (by omega) (by omega) (by omega), zL_104, il_lt (by omega) (by omega) (by omega) (by omega), decide_eq_false (show ¬ z < 0 by omega), Bool.false_or]
    by_cases q2 : 99 < z
    · rw [if_neg (show ¬ z < 100 by omega), if_pos (show z < 104 by omega), decide_eq_true q2, Bool.true_or, if_pos rfl]
      exact y
    · rw [if_pos (show z < 100 by omega), decide_eq_false q2, Bool.false_or, g_entry Q (by omega) (by omega)]
      by_cases g : tLv (wTr W m) z = true
      · rw [if_pos g, if_pos g, bx_l]
        exact y
      · rw [if_neg g, if_neg g, bx_r]
        exact ⟨S, rfl, h, K⟩
/-- whether a subject of a rule is there: s is its number, z what tells it -/
def rlT (T : sT) (z : Int) : Bool := decide (z < 100) || tLv T (z - 100)
theorem k_rule_no (h : wOk W) (K : kRel S W) (hm : m < 4) (he : e < 48) {z : Int} (hz : -1 ≤ z ∧ z < 6 ∨ 100 ≤ z ∧ z < 148) {x y w : Int32} (hl : ¬ (tLv (wTr W m) (e : Nat) = true ∧ rlT (wTr W m) z = true)) : kNo (pX9_rule N (zI (m : Nat)) (zI (e : Nat)) (zI z) x y w S) 1 W := by
  have Q := kRel_t h K hm
  simp only [pX9_rule]
  rw [g_master hm, bx_l, gn_l hm, g_entry Q (by omega) (by omega)]
  by_cases q : tLv (wTr W m) (e : Nat) = true
  · have q2 : ¬ rlT (wTr W m) z = true := fun g => hl ⟨q, g⟩
    unfold rlT at q2
    rw [Bool.or_eq_true, decide_eq_true_eq, not_or] at q2
    rw [if_pos q, bx_l, zL_100, il_lt (by omega) (by omega) (by omega) (by omega), if_neg q2.1, zI_sub, g_entry Q (by omega) (by omega), if_neg q2.2, bx_r]
    exact ⟨S, rfl, h, K⟩
  · rw [if_neg q, bx_r]
    exact ⟨S, rfl, h, K⟩
theorem k_rule (hN : 20000 ≤ N) (h : wOk W) (K : kRel S W) (hm : m < 4) (hl : tLv (wTr W m) (e : Nat) = true) {s p r w : Nat} {z : Int} (hs : s < 55) (hsz : sSub s = z) (hz : z = -1 ∨ (0 ≤ z ∧ z < 6) ∨ (100 ≤ z ∧ z < 148 ∧ tLv (wTr W m) (z - 100) = true)) (hp : p < 3) (hr : r < 2) (hw : w ≤ 2) (hn : wN W < 250) : if tMay (wH W) (wTr W m) (wU W m) (e : Int) 1 = true then kOk (pX9_rule N (zI (m : Nat)) (zI (e : Nat)) (zI z) (zI (p : Nat)) (zI (r : Nat)) (zI (w : Nat)) S) (tSy (wTr W m) e (6 * s + 2 * p + r) : Nat) (wNx W m (wCh W m 6 e ((6 * s + 2 * p + r : Nat) : Int) (w : Int))) else kNo (pX9_rule N (zI (m : Nat)) (zI (e : Nat)) (zI z) (zI (p : Nat)) (zI (r : Nat)) (zI (w : Nat)) S) 3 W := by
  have hlt := tLv_lt hl
  have he : e < 48 := by omega
  have ht := tLv_th he hl
  have Q := kRel_t h K hm
  have hlen := h.2.2.2.1.2.1
  have z1 : (zI z = (-1 : Int32)) ↔ z = -1 := by rw [zL_m1, zI_eq (by omega) (by omega) (by omega) (by omega)]
  have w0 : (zI (w : Nat) < (0 : Int32)) ↔ (w : Int) < 0 := by rw [zL_0, zI_lt (by omega) (by omega) (by omega) (by omega)]
  have w2 : (zI (w : Nat) ≤ (2 : Int32)) ↔ (w : Int) ≤ 2 := by rw [zL_2, zI_le (by omega) (by omega) (by omega) (by omega)]
  simp only [pX9_rule]
  rw [g_master hm, bx_l, gn_l hm, g_entry Q (by omega) (by omega), if_pos hl, bx_l, zL_100, il_lt (by omega) (by omega) (by omega) (by omega)]
  have cls : ∀ A : kS → Option ((Int32 ⊕ Nat) × kS), (if z < 100 then (if zI z = -1 then A S else bx (pX9_needUser N (zI z) S) fun v107 S108 => A S108) else bx (pX9_needEntry N m (zI z - zI 100) S) fun v110 S111 => A S111) = A S := fun A => by
    rcases hz with g | ⟨g1, g2⟩ | ⟨g1, g2, g3⟩
    · rw [if_pos (by omega), if_pos (z1.mpr g)]
    · rw [if_pos (by omega), if_neg (fun g => by have := z1.mp g; omega), g_user (by omega) (by omega), if_pos ⟨g1, g2⟩, bx_l]
    · rw [if_neg (by omega), zI_sub, g_entry Q (by omega) (by omega), if_pos g3, bx_l]
  rw [cls (fun S' => pX9_rule_40 N (zI (e : Nat)) (zI z) (zI (p : Nat)) (zI (r : Nat)) (zI (w : Nat)) m S')]
  simp only [pX9_rule_40, pX9_rule_61, pX6_slot, svk_i, bk_i]
  rw [g_scope (by omega) (by omega), if_pos (show (0 : Int) ≤ (p : Int) ∧ (p : Int) < 3 by omega), bx_l, g_right (by omega) (by omega), if_pos (show (0 : Int) ≤ (r : Int) ∧ (r : Int) < 2 by omega), bx_l, if_neg (show ¬ (zI (w : Nat) < (0 : Int32)) from fun g => by have := w0.mp g; omega), if_pos (w2.mpr (by omega)), g_room K.2.2.2.2.1.1 (by omega), if_pos (show (wO W).length < 250 by omega), bx_l, g_write (by omega) h K hm (by omega) (by omega)]
  by_cases q5 : tMay (wH W) (wTr W m) (wU W m) (e : Int) 1 = true
  · have c0 := mk_of (Y := (w : Int)) h hm hn (K := 6) (E := e) (X := ((6 * s + 2 * p + r : Nat) : Int)) (by omega) (by omega) ht he (fun a b => by omega) (fun e => by omega) (fun e => by omega) (fun _ => ⟨by omega, by omega, by omega, by omega⟩) (fun e => by omega) (fun e => by omega)
    obtain ⟨gn, S1, S2, v2, v3, W2, K2⟩ := k_chg (N := N) (by omega) h K hm hn (kk := 6) (E := e) (X := ((6 * s + 2 * p + r : Nat) : Int)) (Y := (w : Int)) (x := (((e * 3 + p) * 2 + r : Nat) : Int)) (y := z) (z := (w : Int)) (by omega) c0 (fun a b => by omega) (fun g => by omega) (fun _ => ⟨s, p, r, hs, hp, hr, rfl, rfl, hsz.symm, rfl⟩)
    have v2 : pX0_init N (kn S) (6 : Int32) (zI (e : Nat)) (zI (((e * 3 + p) * 2 + r : Nat) : Int)) (zI z) (zI (w : Nat)) (nU S) = some ((), S1) := v2
    have sd := q_saidOf (N := N) Q (e := e) (p := p) (r := r) (s := s) he hp hr hs
    rw [hsz] at sd
    have sl : (((zI (e : Nat) * 3) + zI (p : Nat)) * 2) + zI (r : Nat) = zI (((e * 3 + p) * 2 + r : Nat) : Int) := by
      rw [zL_3, zL_2]; simp only [zI_mul, zI_add]; congr 1
    rw [if_pos q5, if_pos q5, bx_l, sl, sd, bk_i, gn, v2, bk_i, v3, bx_l]
    exact ⟨S2, rfl, W2, K2⟩
  · rw [if_neg q5, if_neg q5, bx_r]
    exact ⟨S, rfl, h, K⟩
end KD
