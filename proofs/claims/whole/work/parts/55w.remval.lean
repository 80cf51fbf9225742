-- LEVEL 2, THE CALL REMOVE VALUE: A VALUE MATCHES ONE AT MOST
def vUq (H : sH) (vs : List (Nat × Nat × Nat)) : Prop := ∀ e a v, vs.countP (vGoes H e a false v) ≤ 1
theorem vUq_drop {H : sH} {vs : List (Nat × Nat × Nat)} {e a v : Nat} {all : Bool} (h : vUq H vs) : vUq H (vDrop H vs e a all v) := fun e' a' v' => Nat.le_trans (List.Sublist.countP_le List.filter_sublist) (h e' a' v')
theorem vUq_add {H : sH} {vs : List (Nat × Nat × Nat)} {e a v : Nat} {all : Bool} (h : vUq H vs) : vUq H (vDrop H vs e a all v ++ [(e, a, v)]) := fun e' a' v' => by
  have h1 := vUq_drop (e := e) (a := a) (v := v) (all := all) h e' a' v'
  rw [List.countP_append, List.countP_singleton]
  by_cases q : vGoes H e' a' false v' (e, a, v) = true
  · have z : (vDrop H vs e a all v).countP (vGoes H e' a' false v') = 0 := by
      rw [List.countP_eq_zero]
      intro x hx hg
      have hn := (List.mem_filter.mp hx).2
      unfold vGoes at q hg hn
      simp only [Bool.and_eq_true, decide_eq_true_eq, Bool.false_or] at q hg
      obtain ⟨q1, q2, q3⟩ := q
      obtain ⟨g1, g2, g3⟩ := hg
      subst q1; subst q2
      rw [decide_eq_true g1, decide_eq_true g2, decide_eq_true (g3.trans q3.symm), Bool.or_true] at hn
      exact Bool.noConfusion hn
    rw [z, if_pos q]
    exact Nat.le_refl _
  · rw [if_neg q]; omega
theorem vUq_take {H : sH} {T : sT} {c : sCh} (h : vUq H (tVs T)) : vUq H (tVs (tTake H T c)) := by
  have va : ∀ (l : List (Nat × Nat)) (vs : List (Nat × Nat × Nat)), vUq H vs → vUq H (l.foldl (fun vs x => vTake H vs (cE c) x.1 x.2) vs) := fun l => by
    induction l with
    | nil => exact fun vs hv => hv
    | cons y l ih => exact fun vs hv => ih _ (vUq_add hv)
  unfold tTake
  by_cases k0 : cK c = 0
  · rw [if_pos k0]; exact va _ _ h
  · rw [if_neg k0]
    by_cases k1 : cK c = 1
    · rw [if_pos k1]; exact vUq_add h
    · rw [if_neg k1]
      by_cases k2 : cK c = 2
      · rw [if_pos k2]; exact vUq_drop h
      · rw [if_neg k2]
        by_cases k3 : cK c = 3
        · rw [if_pos k3]; exact vUq_add h
        · rw [if_neg k3]
          repeat' split
          all_goals exact h
theorem vUq_rpl {H : sH} {cs : Nat → sCh} : ∀ (l : List Nat) (T : sT), vUq H (tVs T) → vUq H (tVs (rpl H cs T l))
  | [], _, h => h
  | k :: l, _, h => vUq_rpl l _ (vUq_take h)
section OE
variable {N : Nat} {S : kS} {M : mS} {W : sW}
theorem tMt_1 {m e a v : Nat} : tMt (wH W) (wTr W m) e a v ≤ 1 := vUq_rpl _ tNew (fun _ _ _ => Nat.zero_le _) e a v
theorem op_removeValue (hN : 20000 ≤ N) (h : wOk W) (K : kRel S W) (R : mRel M W) (x y z w : Int32) : opOk 1 2 3 (pX9_removeValue N x y z w S) (pf_removeValue N x y z w M) := by
  obtain ⟨x, h1, h2, rfl⟩ := zI_of x
  obtain ⟨y, h3, h4, rfl⟩ := zI_of y
  obtain ⟨z, h5, h6, rfl⟩ := zI_of z
  obtain ⟨w, h7, h8, rfl⟩ := zI_of w
  obtain ⟨M', code, e, R', ⟨rfl, m, e1, a, v, rfl, rfl, rfl, rfl, hm, he1, he, ha, hv, hn, hl, L, hp⟩ | ⟨kk, hp, hc⟩⟩ := pre3_ok (N := N) hN h K R h1 h2 h3 h4 h5 h6 h7 h8
  · have Q := kRel_t h K hm
    have h10 := h.1.1
    have hk := Q.2.2.2.2.1 e1 he
    have hx := (wTr_X h m).1 e1 he
    have m1 := tMt_1 (W := W) (m := m) (e := e1) (a := a) (v := v)
    have cl : tCnt (wTr W m) e1 a ≤ 900 := Nat.le_trans tCnt_le L.1.2.2.2.2.2.2.1.2.1
    have e0 : pX9_removeValue N (zI (m : Nat)) (zI (e1 : Nat)) (zI (a : Nat)) (zI (v : Nat)) S = _ := hp _
    rw [e0]
    have R0 := mRel_0 (v := (0 : Int32)) R'
    have L0 : rLd (mI M' 0 0) (wTr W m) := rLd_e (M := M') (by rw [mI_1, upd_o _ _ (by omega)]) (fun _ _ _ => rfl) L
    have t40 : (mI M' 0 0).2 40 e1 = zI (tKl (wTr W m) e1) := L0.1.2.2.1 e1 he
    have n1 : ∀ S : kS, pX9_need N 1 S = some (.inl (), S) := fun S => by
      have := g_need (N := N) (S := S) (b := true)
      rw [if_pos rfl] at this
      exact this
    have n0 : ∀ S : kS, pX9_need N 0 S = some (.inr 3, S) := fun S => by
      have := g_need (N := N) (S := S) (b := false)
      rw [if_neg (by decide)] at this
      exact this
    have no : ∀ {A : Option ((Int32 ⊕ Nat) × kS)}, A = some (.inr 3, S) → opOk 1 2 3 A (bd (pf_fails N 3 (mI M' 0 0)) fun v1 S2 => some (v1, S2)) := fun hA => by
      rw [fails_i, bd_i]
      exact opOk_x hA rfl (Or.inr (Or.inr ⟨rfl, thr_k⟩)) h K (mRel_0 R0)
    have fin : opOk 1 2 3 (gNew S (bk (pX0_init N (kn S) (2 : Int32) (zI (e1 : Nat)) (zI (a : Nat)) (zI (v : Nat)) (-1) (nU S)) fun v106 S107 => bx (pX9_record N m (kn S) S107) fun v108 S109 => bk (pX8_valuesOf N m (zI (e1 : Nat)) (zI (a : Nat)) S109) fun v111 S112 => some (.inl v111, S112))) (bd (pf_makes N (zI (m : Nat)) (2 : Int32) (zI (e1 : Nat)) (zI (a : Nat)) (zI (v : Nat)) 0 (mI M' 0 0)) fun v3 S4 => bd (pf_valuesBehind N (zI (m : Nat)) (zI (e1 : Nat)) (zI (a : Nat)) S4) fun v5 S6 => some (v5, S6)) := by
      obtain ⟨gn, S1, S2, M2, c, w2, w3, w4, W2, K2, R2, w5⟩ := both_made (N := N) hN h K R0 (m := m) (kk := 2) (e := e1) (a := a) (v := v) hm (by omega) (by omega) he ha hv hn hl
      have w2 : pX0_init N (kn S) (2 : Int32) (zI (e1 : Nat)) (zI (a : Nat)) (zI (v : Nat)) (-1) (nU S) = some ((), S1) := w2
      have w4 : pf_makes N (zI (m : Nat)) (2 : Int32) (zI (e1 : Nat)) (zI (a : Nat)) (zI (v : Nat)) 0 (mI M' 0 0) = some (zI (wN W : Nat), M2) := w4
      obtain ⟨c1, M3, c2, R3, c3⟩ := both_count (N := N) hN W2 K2 R2 (m := m) (e := e1) (a := a) hm he (by omega)
      rw [gn, w2, bk_i, w3, bx_l, c1, bk_i, w4, bd_i, c2, bd_i]
      exact opOk_v rfl rfl (by rw [c3, w5]; exact thr_k) W2 K2 R3
    simp only [pX9_removeValue_61, pX9_removeValue_99, pf_removeValue, pf_removeValue_55, pf_removeValue_73, sv_i, svk_i, n1, n0, bx_l, bx_r]
    rw [e, bd_i, thr_k, if_pos (show (0 : Int32) ≤ 0 by decide), q_matching Q K.1 (by omega) he (by omega) hv, bk_i, gd_n he (by omega), gd_n he (by omega), zI_cn (by omega), Q.1.2.1 e1 he, q_isRequired K.1 h.1 (by omega) (by omega) (by omega), bk_i, il_B, t40, r_requiredBy (by omega) R0.1 h.1 hk.1 hx, bd_i, il_ibit (by omega)]
    have em := r_hasMatch (N := N) (M := mI M' 0 0) (H := wH W) (e := e1) (a := a) (v := v) (by omega) L0.1 L0.2.1 R0.1.2.2.2.1 he (by omega) hv
    have ec := r_countOf (N := N) (M := mI M' 0 0) (e := e1) (a := a) (by omega) L0.1 L0.2.1 he (by omega)
    have vo := q_valuesOf (N := N) (a := a) Q (by omega) he (by omega)
    have z0 : (zI (tMt (wH W) (wTr W m) e1 a v : Nat) ≤ (0 : Int32)) ↔ tMt (wH W) (wTr W m) e1 a v = 0 := by rw [zL_0, zI_le (by omega) (by omega) (by omega) (by omega)]; omega
    have z2 : ((2 : Int32) ≤ zI (tCnt (wTr W m) e1 a : Nat)) ↔ 2 ≤ tCnt (wTr W m) e1 a := by rw [zL_2, zI_le (by omega) (by omega) (by omega) (by omega)]; omega
    by_cases q2 : tMt (wH W) (wTr W m) e1 a v = 0
    · have em0 : pf_hasMatch N (zI (e1 : Nat)) (zI (a : Nat)) (zI (v : Nat)) (mI M' 0 0) = some ((0 : Int32), mI M' 0 0) := by
        rw [em, q2]; rfl
      rw [if_pos (z0.mpr q2)]
      by_cases q : ib (hReq (wH W) (tKl (wTr W m) e1)) a = true
      · rw [if_pos q, ec, bd_i, em0, bd_i, bd_i, if_pos trivial]
        split
        · exact no rfl
        · exact no rfl
      · rw [if_neg q, em0, bd_i, if_pos trivial]
        exact no rfl
    · have em1 : pf_hasMatch N (zI (e1 : Nat)) (zI (a : Nat)) (zI (v : Nat)) (mI M' 0 0) = some ((1 : Int32), mI M' 0 0) := by
        rw [em, decide_eq_true (by omega)]; rfl
      rw [if_neg (fun g => q2 (z0.mp g))]
      by_cases q : ib (hReq (wH W) (tKl (wTr W m) e1)) a = true
      · rw [if_pos q, if_pos q, vo, bk_i, ec, bd_i, em1, bd_i, bd_i, if_neg (show ¬ (1 : Int32) = 0 by decide), if_pos trivial, il_le (by omega) (by omega) (by omega) (by omega)]
        by_cases q3 : 2 ≤ tCnt (wTr W m) e1 a
        · rw [if_neg (show ¬ (tCnt (wTr W m) e1 a : Int) ≤ (tMt (wH W) (wTr W m) e1 a v : Int) by omega), if_pos (z2.mpr q3)]
          exact fin
        · rw [if_pos (show (tCnt (wTr W m) e1 a : Int) ≤ (tMt (wH W) (wTr W m) e1 a v : Int) by omega), if_neg (fun g => q3 (z2.mp g))]
          exact no rfl
      · rw [if_neg q, if_neg q, em1, bd_i, if_neg (show ¬ (1 : Int32) = 0 by decide), if_pos trivial]
        exact fin
  · have e0 : pX9_removeValue N (zI x) (zI y) (zI z) (zI w) S = _ := hp _
    rw [e0]
    simp only [pf_removeValue, sv_i]
    rw [e, bd_i, thr_k, if_neg (by rcases hc with ⟨-, rfl⟩ | ⟨-, rfl⟩ | ⟨-, rfl⟩ <;> decide)]
    exact opOk_x rfl rfl (by rw [thr_k]; exact hc) h K (mRel_0 R')
end OE
