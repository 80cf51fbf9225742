-- LEVEL 2, THE CLASS'S CALLS ALONE: THOSE THAT CHANGE ENTRIES
theorem wTr_len {W : sW} (h : wOk W) {m : Nat} : (tVs (wTr W m)).length ≤ 900 := by
  have h1 := (wTr_ok h m).2.1
  have h2 := h.2.2.2.2.2.2.1
  have h3 := h.2.2.2.1.1
  omega
section KC
variable {N : Nat} {S : kS} {W : sW} {m e : Nat}
theorem k_need1 (S : kS) : pX9_need N 1 S = some (.inl (), S) := by
  have := g_need (N := N) (S := S) (b := true)
  rw [if_pos rfl] at this
  exact this
theorem k_need0 (S : kS) : pX9_need N 0 S = some (.inr 3, S) := by
  have := g_need (N := N) (S := S) (b := false)
  rw [if_neg (by decide)] at this
  exact this
/-- a change is made -/
theorem k_chg (hN : 900 ≤ N) (h : wOk W) (K : kRel S W) (hm : m < 4) (hn : wN W < 250) {kk E : Nat} {X Y x y z : Int} (hk0 : kk ≠ 0) (c0 : mkOk (wH W) (wC W) (wN W) (wE W) m (wO W) (wT W) (wCh W m kk E X Y)) (h123 : 1 ≤ kk → kk ≤ 3 → x = X ∧ y = Y) (h457 : kk = 4 ∨ kk = 5 ∨ kk = 7 → x = X) (h6 : kk = 6 → ∃ s p r : Nat, s < 55 ∧ p < 3 ∧ r < 2 ∧ X = ((6 * s + 2 * p + r : Nat) : Int) ∧ x = (((E * 3 + p) * 2 + r : Nat) : Int) ∧ y = sSub s ∧ z = Y) : (∀ {γ : Type} (A : Option γ), gNew S A = A) ∧ ∃ S1 S2, pX0_init N (kn S) (zI (kk : Nat)) (zI (E : Nat)) (zI x) (zI y) (zI z) (nU S) = some ((), S1) ∧ pX9_record N m (kn S) S1 = some (.inl (), S2) ∧ wOk (wNx W m (wCh W m kk E X Y)) ∧ kRel S2 (wNx W m (wCh W m kk E X Y)) := by
  obtain ⟨w1, S1, w2, U1⟩ := k_new (N := N) (c := wCh W m kk E X Y) (x := x) (y := y) (z := z) K hk0 h123 h457 h6
  obtain ⟨S2, w3, K2⟩ := k_made (N := N) hN h U1 hm hn c0
  refine ⟨fun A => if_pos w1, S1, S2, ?_, ?_, w_made h hm hn hk0 c0, K2⟩
  · rw [K.2.2.2.1.1]; exact w2
  · rw [K.2.2.2.1.1]; exact w3
/-- what calls of values need -/
theorem k_pre3 (hN : 900 ≤ N) (h : wOk W) (K : kRel S W) (hm : m < 4) (he : e < 48) {a v : Nat} (ha : a < hA (wH W)) (hv : v < 1000) (hn : wN W < 250) (k : Nat → kS → Option ((Int32 ⊕ Nat) × kS)) : pre3 N (zI (m : Nat)) (zI (e : Nat)) (zI (a : Nat)) (zI (v : Nat)) S k = if 1 ≤ e ∧ tLv (wTr W m) (e : Nat) = true then (if tMay (wH W) (wTr W m) (wU W m) (e : Int) 1 = true then k m S else some (.inr 3, S)) else some (.inr 1, S) := by
  have Q := kRel_t h K hm
  have h10 := h.1.1
  have hlen := h.2.2.2.1.2.1
  simp only [pre3]
  rw [g_master hm, bx_l, gn_l hm, g_changeable Q (by omega) (by omega)]
  by_cases q : 1 ≤ e ∧ tLv (wTr W m) (e : Nat) = true
  · rw [if_pos ⟨by omega, q.2⟩, if_pos q, bx_l, g_attribute K.1 h.1 (by omega) (by omega), if_pos (by omega), bx_l, g_value (by omega) (by omega), if_pos (by omega), bx_l, g_room K.2.2.2.2.1.1 (by omega), if_pos (by omega), bx_l, g_write hN h K hm (by omega) (by omega)]
    by_cases q2 : tMay (wH W) (wTr W m) (wU W m) (e : Int) 1 = true
    · rw [if_pos q2, if_pos q2, bx_l]
    · rw [if_neg q2, if_neg q2, bx_r]
  · rw [if_neg (fun g => q ⟨by omega, g.2⟩), if_neg q, bx_r]
theorem k_noV (hN : 900 ≤ N) (h : wOk W) (K : kRel S W) (hm : m < 4) (he : e < 48) {a v : Nat} (ha : a < hA (wH W)) (hv : v < 1000) (hn : wN W < 250) (hl : ¬ (1 ≤ e ∧ tLv (wTr W m) (e : Nat) = true)) : kNo (pX9_addValue N (zI (m : Nat)) (zI (e : Nat)) (zI (a : Nat)) (zI (v : Nat)) S) 1 W ∧ kNo (pX9_removeValue N (zI (m : Nat)) (zI (e : Nat)) (zI (a : Nat)) (zI (v : Nat)) S) 1 W ∧ kNo (pX9_replace N (zI (m : Nat)) (zI (e : Nat)) (zI (a : Nat)) (zI (v : Nat)) S) 1 W := by
  have hp := k_pre3 hN h K hm he ha hv hn
  have e1 : pX9_addValue N (zI (m : Nat)) (zI (e : Nat)) (zI (a : Nat)) (zI (v : Nat)) S = _ := hp _
  have e2 : pX9_removeValue N (zI (m : Nat)) (zI (e : Nat)) (zI (a : Nat)) (zI (v : Nat)) S = _ := hp _
  have e3 : pX9_replace N (zI (m : Nat)) (zI (e : Nat)) (zI (a : Nat)) (zI (v : Nat)) S = _ := hp _
  rw [if_neg hl] at e1 e2 e3
  exact ⟨⟨S, e1, h, K⟩, ⟨S, e2, h, K⟩, ⟨S, e3, h, K⟩⟩
theorem mk_val (h : wOk W) (hm : m < 4) (hn : wN W < 250) {kk a v : Nat} (hk : 1 ≤ kk) (hk3 : kk ≤ 3) (he : e < 48) (ha : a < hA (wH W)) (hv : v < 1000) (hl : tLv (wTr W m) (e : Nat) = true) : mkOk (wH W) (wC W) (wN W) (wE W) m (wO W) (wT W) (wCh W m kk e (a : Int) (v : Int)) :=
  mk_of h hm hn (K := kk) (E := e) (X := (a : Int)) (Y := (v : Int)) (by omega) (by omega) (tLv_th he hl) he (fun _ _ => ⟨by omega, by omega, by omega, by omega⟩) (fun e => by omega) (fun e => by omega) (fun e => by omega) (fun e => by omega) (fun e => by omega)
def cRp (W : sW) (m e a : Nat) : Bool := tMay (wH W) (wTr W m) (wU W m) (e : Int) 1 && ib (hAll (wH W) (tKl (wTr W m) e)) a
theorem k_replace (hN : 20000 ≤ N) (h : wOk W) (K : kRel S W) (hm : m < 4) (he1 : 1 ≤ e) (hl : tLv (wTr W m) (e : Nat) = true) {a v : Nat} (ha : a < hA (wH W)) (hv : v < 1000) (hn : wN W < 250) : if cRp W m e a = true then kOk (pX9_replace N (zI (m : Nat)) (zI (e : Nat)) (zI (a : Nat)) (zI (v : Nat)) S) (tCnt (wTr W m) e a : Nat) (wNx W m (wCh W m 3 e (a : Int) (v : Int))) else kNo (pX9_replace N (zI (m : Nat)) (zI (e : Nat)) (zI (a : Nat)) (zI (v : Nat)) S) 3 W := by
  have hlt := tLv_lt hl
  have he : e < 48 := by omega
  have Q := kRel_t h K hm
  have h10 := h.1.1
  have hk := Q.2.2.2.2.1 e he
  have e0 : pX9_replace N (zI (m : Nat)) (zI (e : Nat)) (zI (a : Nat)) (zI (v : Nat)) S = _ := k_pre3 (by omega) h K hm he ha hv hn _
  rw [if_pos ⟨he1, hl⟩] at e0
  unfold cRp
  by_cases q1 : tMay (wH W) (wTr W m) (wU W m) (e : Int) 1 = true
  · rw [if_pos q1] at e0
    rw [q1, Bool.true_and, e0, gd_n he (by omega), zI_cn (by omega), Q.1.2.1 e he, q_isAllowed K.1 h.1 (by omega) (by omega) (by omega), bk_i, g_need]
    by_cases q : ib (hAll (wH W) (tKl (wTr W m) e)) a = true
    · obtain ⟨gn, S1, S2, w2, w3, W2, K2⟩ := k_chg (N := N) (by omega) h K hm hn (kk := 3) (E := e) (X := (a : Int)) (Y := (v : Int)) (x := (a : Int)) (y := (v : Int)) (z := -1) (by omega) (mk_val h hm hn (by omega) (by omega) he ha hv hl) (fun _ _ => ⟨rfl, rfl⟩) (fun g => by omega) (fun g => by omega)
      have w2 : pX0_init N (kn S) (3 : Int32) (zI (e : Nat)) (zI (a : Nat)) (zI (v : Nat)) (-1) (nU S) = some ((), S1) := w2
      rw [if_pos q, if_pos q, bx_l, q_valuesOf Q (by omega) he (by omega), bk_i, gn, svk_i, w2, bk_i, w3, bx_l]
      exact ⟨S2, rfl, W2, K2⟩
    · rw [if_neg q, if_neg q, bx_r]
      exact ⟨S, rfl, h, K⟩
  · rw [if_neg q1] at e0
    rw [Bool.eq_false_iff.mpr q1, Bool.false_and, if_neg (by decide), e0]
    exact ⟨S, rfl, h, K⟩
def cAv (W : sW) (m e a v : Nat) : Bool := tMay (wH W) (wTr W m) (wU W m) (e : Int) 1 && (ib (hAll (wH W) (tKl (wTr W m) e)) a && (decide (tMt (wH W) (wTr W m) e a v = 0) && (!hSg (wH W) a || decide (tCnt (wTr W m) e a = 0))))
theorem k_addValue (hN : 20000 ≤ N) (h : wOk W) (K : kRel S W) (hm : m < 4) (he1 : 1 ≤ e) (hl : tLv (wTr W m) (e : Nat) = true) {a v : Nat} (ha : a < hA (wH W)) (hv : v < 1000) (hn : wN W < 250) : if cAv W m e a v = true then kOk (pX9_addValue N (zI (m : Nat)) (zI (e : Nat)) (zI (a : Nat)) (zI (v : Nat)) S) (tCnt (wTr (wNx W m (wCh W m 1 e (a : Int) (v : Int))) m) e a : Nat) (wNx W m (wCh W m 1 e (a : Int) (v : Int))) else kNo (pX9_addValue N (zI (m : Nat)) (zI (e : Nat)) (zI (a : Nat)) (zI (v : Nat)) S) 3 W := by
  have hlt := tLv_lt hl
  have he : e < 48 := by omega
  have Q := kRel_t h K hm
  have h10 := h.1.1
  have hk := Q.2.2.2.2.1 e he
  have ml : tMt (wH W) (wTr W m) e a v ≤ 900 := Nat.le_trans List.countP_le_length (wTr_len h)
  have cl : tCnt (wTr W m) e a ≤ 900 := Nat.le_trans tCnt_le (wTr_len h)
  have e0 : pX9_addValue N (zI (m : Nat)) (zI (e : Nat)) (zI (a : Nat)) (zI (v : Nat)) S = _ := k_pre3 (by omega) h K hm he ha hv hn _
  rw [if_pos ⟨he1, hl⟩] at e0
  unfold cAv
  have z0 : (zI (tMt (wH W) (wTr W m) e a v : Nat) = (0 : Int32)) ↔ tMt (wH W) (wTr W m) e a v = 0 := by rw [zL_0, zI_eq (by omega) (by omega) (by omega) (by omega)]; omega
  have fin : kOk (gNew S (bk (pX0_init N (kn S) (1 : Int32) (zI (e : Nat)) (zI (a : Nat)) (zI (v : Nat)) (-1) (nU S)) fun v106 S107 => bx (pX9_record N m (kn S) S107) fun v108 S109 => bk (pX8_valuesOf N m (zI (e : Nat)) (zI (a : Nat)) S109) fun v111 S112 => some (.inl v111, S112))) (tCnt (wTr (wNx W m (wCh W m 1 e (a : Int) (v : Int))) m) e a : Nat) (wNx W m (wCh W m 1 e (a : Int) (v : Int))) := by
    obtain ⟨gn, S1, S2, w2, w3, W2, K2⟩ := k_chg (N := N) (by omega) h K hm hn (kk := 1) (E := e) (X := (a : Int)) (Y := (v : Int)) (x := (a : Int)) (y := (v : Int)) (z := -1) (by omega) (mk_val h hm hn (by omega) (by omega) he ha hv hl) (fun _ _ => ⟨rfl, rfl⟩) (fun g => by omega) (fun g => by omega)
    have w2 : pX0_init N (kn S) (1 : Int32) (zI (e : Nat)) (zI (a : Nat)) (zI (v : Nat)) (-1) (nU S) = some ((), S1) := w2
    rw [gn, w2, bk_i, w3, bx_l, q_valuesOf (kRel_t W2 K2 hm) (by omega) he (by omega), bk_i]
    exact ⟨S2, rfl, W2, K2⟩
  have no : kNo (some (Sum.inr 3, S)) 3 W := ⟨S, rfl, h, K⟩
  by_cases q1 : tMay (wH W) (wTr W m) (wU W m) (e : Int) 1 = true
  · rw [if_pos q1] at e0
    rw [q1, Bool.true_and, e0]
    simp only [pX9_addValue_75, pX9_addValue_104, svk_i, k_need1, k_need0, bx_l, bx_r]
    rw [gd_n he (by omega), zI_cn (by omega), Q.1.2.1 e he, q_isAllowed K.1 h.1 (by omega) (by omega) (by omega), bk_i, g_need]
    by_cases q : ib (hAll (wH W) (tKl (wTr W m) e)) a = true
    · rw [if_pos q, bx_l, q_matching Q K.1 (by omega) he (by omega) hv, bk_i, q, Bool.true_and]
      by_cases q2 : tMt (wH W) (wTr W m) e a v = 0
      · rw [if_pos (z0.mpr q2), decide_eq_true q2, Bool.true_and, q_isSingle K.1 (by omega), bk_i, il_B]
        cases hs : hSg (wH W) a with
        | false =>
          have e9 : (!false || decide (tCnt (wTr W m) e a = 0)) = true := rfl
          rw [if_pos e9, if_neg (by decide)]
          exact fin
        | true =>
          rw [if_pos rfl, q_valuesOf Q (by omega) he (by omega), bk_i, Bool.not_true, Bool.false_or]
          have c1 : (zI (tCnt (wTr W m) e a : Nat) = (0 : Int32)) ↔ tCnt (wTr W m) e a = 0 := by rw [zL_0, zI_eq (by omega) (by omega) (by omega) (by omega)]; omega
          by_cases q3 : tCnt (wTr W m) e a = 0
          · rw [if_pos (c1.mpr q3), if_pos (decide_eq_true q3)]
            exact fin
          · rw [if_neg (fun g => q3 (c1.mp g)), if_neg (by rw [decide_eq_true_eq]; exact q3)]
            exact no
      · rw [if_neg (fun g => q2 (z0.mp g)), decide_eq_false q2, Bool.false_and, if_neg (by decide)]
        exact no
    · rw [if_neg q, bx_r, Bool.eq_false_iff.mpr q, Bool.false_and, if_neg (by decide)]
      exact no
  · rw [if_neg q1] at e0
    rw [Bool.eq_false_iff.mpr q1, Bool.false_and, if_neg (by decide), e0]
    exact no
def cRv (W : sW) (m e a v : Nat) : Bool := tMay (wH W) (wTr W m) (wU W m) (e : Int) 1 && (decide (0 < tMt (wH W) (wTr W m) e a v) && (!ib (hReq (wH W) (tKl (wTr W m) e)) a || decide (2 ≤ tCnt (wTr W m) e a)))
theorem k_removeValue (hN : 20000 ≤ N) (h : wOk W) (K : kRel S W) (hm : m < 4) (he1 : 1 ≤ e) (hl : tLv (wTr W m) (e : Nat) = true) {a v : Nat} (ha : a < hA (wH W)) (hv : v < 1000) (hn : wN W < 250) : if cRv W m e a v = true then kOk (pX9_removeValue N (zI (m : Nat)) (zI (e : Nat)) (zI (a : Nat)) (zI (v : Nat)) S) (tCnt (wTr (wNx W m (wCh W m 2 e (a : Int) (v : Int))) m) e a : Nat) (wNx W m (wCh W m 2 e (a : Int) (v : Int))) else kNo (pX9_removeValue N (zI (m : Nat)) (zI (e : Nat)) (zI (a : Nat)) (zI (v : Nat)) S) 3 W := by
  have hlt := tLv_lt hl
  have he : e < 48 := by omega
  have Q := kRel_t h K hm
  have h10 := h.1.1
  have hk := Q.2.2.2.2.1 e he
  have m1 := tMt_1 (W := W) (m := m) (e := e) (a := a) (v := v)
  have cl : tCnt (wTr W m) e a ≤ 900 := Nat.le_trans tCnt_le (wTr_len h)
  have e0 : pX9_removeValue N (zI (m : Nat)) (zI (e : Nat)) (zI (a : Nat)) (zI (v : Nat)) S = _ := k_pre3 (by omega) h K hm he ha hv hn _
  rw [if_pos ⟨he1, hl⟩] at e0
  unfold cRv
  have z0 : (zI (tMt (wH W) (wTr W m) e a v : Nat) ≤ (0 : Int32)) ↔ tMt (wH W) (wTr W m) e a v = 0 := by rw [zL_0, zI_le (by omega) (by omega) (by omega) (by omega)]; omega
  have fin : kOk (gNew S (bk (pX0_init N (kn S) (2 : Int32) (zI (e : Nat)) (zI (a : Nat)) (zI (v : Nat)) (-1) (nU S)) fun v106 S107 => bx (pX9_record N m (kn S) S107) fun v108 S109 => bk (pX8_valuesOf N m (zI (e : Nat)) (zI (a : Nat)) S109) fun v111 S112 => some (.inl v111, S112))) (tCnt (wTr (wNx W m (wCh W m 2 e (a : Int) (v : Int))) m) e a : Nat) (wNx W m (wCh W m 2 e (a : Int) (v : Int))) := by
    obtain ⟨gn, S1, S2, w2, w3, W2, K2⟩ := k_chg (N := N) (by omega) h K hm hn (kk := 2) (E := e) (X := (a : Int)) (Y := (v : Int)) (x := (a : Int)) (y := (v : Int)) (z := -1) (by omega) (mk_val h hm hn (by omega) (by omega) he ha hv hl) (fun _ _ => ⟨rfl, rfl⟩) (fun g => by omega) (fun g => by omega)
    have w2 : pX0_init N (kn S) (2 : Int32) (zI (e : Nat)) (zI (a : Nat)) (zI (v : Nat)) (-1) (nU S) = some ((), S1) := w2
    rw [gn, w2, bk_i, w3, bx_l, q_valuesOf (kRel_t W2 K2 hm) (by omega) he (by omega), bk_i]
    exact ⟨S2, rfl, W2, K2⟩
  have no : kNo (some (Sum.inr 3, S)) 3 W := ⟨S, rfl, h, K⟩
  by_cases q1 : tMay (wH W) (wTr W m) (wU W m) (e : Int) 1 = true
  · rw [if_pos q1] at e0
    rw [q1, Bool.true_and, e0]
    simp only [pX9_removeValue_61, pX9_removeValue_99, svk_i, k_need1, k_need0, bx_l, bx_r]
    rw [q_matching Q K.1 (by omega) he (by omega) hv, bk_i]
    by_cases q2 : tMt (wH W) (wTr W m) e a v = 0
    · rw [if_pos (z0.mpr q2), decide_eq_false (show ¬ 0 < tMt (wH W) (wTr W m) e a v by omega), Bool.false_and, if_neg (by decide)]
      exact no
    · rw [if_neg (fun g => q2 (z0.mp g)), decide_eq_true (show 0 < tMt (wH W) (wTr W m) e a v by omega), Bool.true_and, gd_n he (by omega), zI_cn (by omega), Q.1.2.1 e he, q_isRequired K.1 h.1 (by omega) (by omega) (by omega), bk_i, il_B]
      by_cases q : ib (hReq (wH W) (tKl (wTr W m) e)) a = true
      · rw [if_pos q, q_valuesOf Q (by omega) he (by omega), bk_i, il_le (by omega) (by omega) (by omega) (by omega), q, Bool.not_true, Bool.false_or]
        by_cases q3 : 2 ≤ tCnt (wTr W m) e a
        · rw [if_neg (show ¬ (tCnt (wTr W m) e a : Int) ≤ (tMt (wH W) (wTr W m) e a v : Int) by omega), if_pos (decide_eq_true q3)]
          exact fin
        · rw [if_pos (show (tCnt (wTr W m) e a : Int) ≤ (tMt (wH W) (wTr W m) e a v : Int) by omega), if_neg (by rw [decide_eq_true_eq]; exact q3)]
          exact no
      · rw [if_neg q, Bool.eq_false_iff.mpr q, Bool.not_false, Bool.true_or, if_pos rfl]
        exact fin
  · rw [if_neg q1] at e0
    rw [Bool.eq_false_iff.mpr q1, Bool.false_and, if_neg (by decide), e0]
    exact no
end KC
