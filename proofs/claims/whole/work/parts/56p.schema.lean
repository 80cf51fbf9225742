-- LEVEL 2, THE SCHEMA GROWS
/-- a schema with more attributes or classes -/
def hExt (H H' : sH) : Prop := hA H ≤ hA H' ∧ hC H ≤ hC H' ∧ ∀ a, a < hA H → hSg H' a = hSg H a ∧ hTn H' a = hTn H a
theorem hKey_x {H H' : sH} (E : hExt H H') {a v : Nat} (ha : a < hA H) : hKey H' a v = hKey H a v := by
  unfold hKey
  rw [(E.2.2 a ha).2]
theorem vDrop_x {H H' : sH} (E : hExt H H') {vs : List (Nat × Nat × Nat)} {e a v : Nat} {all : Bool} (ha : a < hA H) : vDrop H' vs e a all v = vDrop H vs e a all v := by
  unfold vDrop
  refine List.filter_congr (fun x _ => ?_)
  unfold vGoes
  rw [hKey_x E ha, hKey_x E ha]
theorem vTake_x {H H' : sH} (E : hExt H H') {vs : List (Nat × Nat × Nat)} {e a v : Nat} (ha : a < hA H) : vTake H' vs e a v = vTake H vs e a v := by
  unfold vTake
  rw [(E.2.2 a ha).1, vDrop_x E ha]
theorem vFold_x {H H' : sH} (E : hExt H H') {e : Nat} : ∀ (cv : List (Nat × Nat)) (vs : List (Nat × Nat × Nat)), (∀ x ∈ cv, x.1 < hA H) → cv.foldl (fun vs x => vTake H' vs e x.1 x.2) vs = cv.foldl (fun vs x => vTake H vs e x.1 x.2) vs
  | [], _, _ => rfl
  | x :: cv, vs, h => by
    show cv.foldl (fun vs x => vTake H' vs e x.1 x.2) (vTake H' vs e x.1 x.2) = cv.foldl (fun vs x => vTake H vs e x.1 x.2) (vTake H vs e x.1 x.2)
    rw [vTake_x E (h x List.mem_cons_self)]
    exact vFold_x E cv _ (fun y hy => h y (List.mem_cons_of_mem _ hy))
theorem tTake_x {H H' : sH} (E : hExt H H') {T : sT} {c : sCh} {en : Nat} (hc : cOk c) (hi : cIn H en c) : tTake H' T c = tTake H T c := by
  obtain ⟨-, i0, i1, -⟩ := hi
  unfold tTake
  by_cases k0 : cK c = 0
  · rw [if_pos k0, if_pos k0, vFold_x E _ _ (i0 k0).2.2]
  rw [if_neg k0, if_neg k0]
  have ha : cK c ≤ 3 → (cX c).toNat < hA H := fun k3 => by
    have := i1 (by omega) k3
    have := (hc.2.2.2.2.2.2.1 (by omega) k3).1
    omega
  by_cases k1 : cK c = 1
  · rw [if_pos k1, if_pos k1, vTake_x E (ha (by omega))]
  rw [if_neg k1, if_neg k1]
  by_cases k2 : cK c = 2
  · rw [if_pos k2, if_pos k2, vDrop_x E (ha (by omega))]
  rw [if_neg k2, if_neg k2]
  by_cases k3 : cK c = 3
  · rw [if_pos k3, if_pos k3, vDrop_x E (ha (by omega))]
  rw [if_neg k3, if_neg k3]
theorem rpl_x {H H' : sH} (E : hExt H H') {cs : Nat → sCh} {en : Nat} : ∀ (l : List Nat) (T : sT), (∀ k ∈ l, cOk (cs k) ∧ cIn H en (cs k)) → rpl H' cs T l = rpl H cs T l
  | [], _, _ => rfl
  | k :: l, T, h => by
    obtain ⟨a, b⟩ := h k List.mem_cons_self
    show rpl H' cs (tTake H' T (cs k)) l = rpl H cs (tTake H T (cs k)) l
    rw [tTake_x E a b]
    exact rpl_x E l _ (fun q hq => h q (List.mem_cons_of_mem _ hq))
def wSc (W : sW) (H' : sH) : sW := wMk H' (wD W) (wP W) (wK W) (wC W) (wN W) (wO W) (wT W) (wX W) (wU W) (wE W) (wF W)
section HX
variable {N : Nat} {S S' : kS} {M M' : mS} {W : sW} {H' : sH}
theorem shw_x (h : wOk W) (E : hExt (wH W) H') (m : Nat) : shw H' (wC W) (wT W m) m (wO W) = wTr W m := by
  obtain ⟨-, -, g3, ⟨ar, g4⟩, g5, g6, -⟩ := h.2.2.2.1
  unfold wTr shw
  exact rpl_x (en := wE W) E _ _ (fun k hk => ⟨(g4.2 k (knl_sub.subset hk)).1, g6 k ((g3 k).mp (knl_sub.subset hk))⟩)
theorem w_ext (h : wOk W) (E : hExt (wH W) H') (hw : hW H') (hq : hQ H') : wOk (wSc W H') := by
  obtain ⟨o1, ⟨o2, o2b⟩, ⟨p1, p2, p3, p4, p5⟩, ⟨g1, g2, g3, g4, g5, g6, g7⟩, o5, o6, o7, o8, o9⟩ := h
  obtain ⟨e1, e2, e3⟩ := E
  refine ⟨hw, ⟨o2, fun x hx => ⟨Nat.lt_of_lt_of_le (o2b x hx).1 e1, (o2b x hx).2⟩⟩, ⟨p1, p2, p3, fun i hi => ?_, p5⟩, ⟨g1, g2, g3, g4, g5, fun k hk => ?_, g7⟩, o5, o6, o7, o8, hq⟩
  · obtain ⟨a, b, c, d⟩ := p4 i hi
    exact ⟨a, fun z => by
      obtain ⟨b1, b2, b3⟩ := b z
      have b2 : (wP W)[i].2.1 < (hA (wH W) : Int) := b2
      exact ⟨b1, by show (wP W)[i].2.1 < (hA H' : Int); omega, b3⟩, fun z => by
      obtain ⟨b1, b2⟩ := c z
      have b2 : (wP W)[i].2.1 < (hC (wH W) : Int) := b2
      exact ⟨b1, by show (wP W)[i].2.1 < (hC H' : Int); omega⟩, d⟩
  · obtain ⟨a, b, c, d⟩ := g6 k hk
    exact ⟨a, fun z => by
      obtain ⟨b1, b2, b3⟩ := b z
      exact ⟨by show cX (wC W k) < (hC H' : Int); omega, b2, fun x hx => Nat.lt_of_lt_of_le (b3 x hx) e1⟩, fun z1 z2 => by
      have := c z1 z2
      show cX (wC W k) < (hA H' : Int)
      omega, d⟩
theorem k_ext (h : wOk W) (K : kRel S W) (E : hExt (wH W) H') (hr : hR S' H') (hI : ∀ q, q = 0 ∨ 5 ≤ q → kI S' q = kI S q) (hAr : ∀ c, 5 ≤ c → kA S' c = kA S c) (hJ : kJ S' = kJ S) (hL : kL S' = kL S) (hD : S'.2.2.2.2 = S.2.2.2.2) : kRel S' (wSc W H') := by
  obtain ⟨k1, ⟨k2, k3⟩, ⟨k4, k5, k6⟩, ⟨k7, k7b⟩, ⟨k8, k9⟩, k10, k11, k12, k13, k14, k15, k16, ⟨k17, k18⟩⟩ := K
  obtain ⟨d1, d2, d3, d4, d5, d6, d7, d8⟩ := kD_eq hD
  refine ⟨hr, ⟨by rw [hI _ (by omega)]; exact k2, by rw [hAr _ (by omega)]; exact k3⟩, ⟨by rw [hI _ (by omega)]; exact k4, by rw [hI _ (by omega)]; exact k5, fun i hi => ?_⟩, ⟨by rw [d1]; exact k7, fun k hk => cRS_D hD (k7b k hk)⟩, ⟨lgR_fr (hI _ (by omega)) hD k8, by rw [d3, d4]; exact k9⟩, fun m hm => tdR_fr (hI _ (by omega)) (hAr _ (by omega)) (k10 m hm), fun m hm => by rw [hI _ (by omega)]; exact k11 m hm, fun m hm => by rw [hI _ (by omega)]; exact k12 m hm, fun m e hm he => by rw [hL]; exact k13 m e hm he, by rw [hI _ (by omega)]; exact k14, fun m hm => ?_, by rw [hAr _ (by omega)]; exact k16, ⟨by rw [hI _ (by omega)]; exact k17, by rw [hAr _ (by omega)]; exact k18⟩⟩
  · rw [hAr 8 (by omega), hAr 9 (by omega), hAr 10 (by omega)]
    have hi : i < (wP W).length := hi
    have hp := h.2.2.1.2.2.2.1 i hi
    have q := k6 i hi
    have lo : pcL H' (wP W)[i] = pcL (wH W) (wP W)[i] := by
      unfold pcL
      by_cases z : (wP W)[i].1 ≤ 1
      · obtain ⟨b1, b2, -⟩ := hp.2.1 (by omega)
        rw [if_pos z, if_pos z]
        unfold vLo
        rw [(E.2.2 (wP W)[i].2.1.toNat (by omega)).2]
      · rw [if_neg z, if_neg z]
    have hi2 : pcH H' (wP W)[i] = pcH (wH W) (wP W)[i] := by
      unfold pcH
      by_cases z : (wP W)[i].1 = 0
      · obtain ⟨b1, b2, -⟩ := hp.2.1 (by omega)
        rw [if_pos z, if_pos z]
        unfold vHi
        rw [(E.2.2 (wP W)[i].2.1.toNat (by omega)).2]
      · rw [if_neg z, if_neg z]
    show kA S 8 i = zI (pcK (wP W)[i]) ∧ kA S 9 i = zI (pcL H' (wP W)[i]) ∧ kA S 10 i = zI (pcH H' (wP W)[i])
    rw [lo, hi2]
    exact q
  · have e : wTr (wSc W H') m = wTr W m := shw_x h E m
    rw [e]
    exact tR_other (fun q a b => hI q (by omega)) (fun c a b => hAr c (by omega)) (fun c a b => by rw [hJ]) (by rw [hL]) (by rw [hL]) (k15 m hm)
theorem m_ext (h : wOk W) (R : mRel M W) (E : hExt (wH W) H') (hr : rSc M' H') (hI : ∀ q, q ≠ 0 → q ≠ 1 → q ≠ 4 → M'.1 q = M.1 q) (hAr : ∀ c, 8 ≤ c → M'.2 c = M.2 c) : mRel M' (wSc W H') := by
  obtain ⟨r1, r2, ⟨r4, r5, r6, r7⟩, ⟨r8, r9, r10⟩, r11, r12, r13, r14, r15, r16, ⟨r17, r18⟩, r19⟩ := R
  refine ⟨hr, ⟨by rw [hI _ (by omega) (by omega) (by omega)]; exact r2.1, by rw [hAr 9 (by omega), hAr 10 (by omega)]; exact r2.2⟩, ⟨by rw [hI _ (by omega) (by omega) (by omega)]; exact r4, by rw [hI _ (by omega) (by omega) (by omega)]; exact r5, by rw [hAr 12 (by omega), hAr 13 (by omega), hAr 14 (by omega)]; exact r6, by rw [hAr 17 (by omega)]; exact r7⟩, ⟨by rw [hI _ (by omega) (by omega) (by omega)]; exact r8, r9, fun k hk => ⟨rCh_e (fun d a b => hAr d (by omega)) (r10 k hk).1, (r10 k hk).2⟩⟩, by rw [hAr 36 (by omega)]; exact r11, ?_, by rw [hAr 18 (by omega)]; exact r13, by rw [hAr 20 (by omega)]; exact r14, by rw [hI _ (by omega) (by omega) (by omega)]; exact r15, ?_, ⟨by rw [hI _ (by omega) (by omega) (by omega)]; exact r17, by rw [hAr 53 (by omega)]; exact r18⟩, by rw [hI 31 (by omega) (by omega) (by omega), hAr 33 (by omega)]; exact r19⟩
  · unfold rVw at *
    rw [hAr 19 (by omega)]
    exact r12
  · rcases rWh_e (hI 37 (by omega) (by omega) (by omega)) (hI 47 (by omega) (by omega) (by omega)) (fun d a b => hAr d (by omega)) r16 with g | ⟨m, g1, g2, g3⟩
    · exact Or.inl g
    · refine Or.inr ⟨m, g1, g2, ?_⟩
      show rLd M' (shw H' (wC W) (wT W m) m (wO W))
      rw [shw_x h E m]
      exact g3
theorem op_attribute (h : wOk W) (K : kRel S W) (R : mRel M W) (b1 b2 : Bool) : opOk 3 0 0 (pX9_attribute N (zB b1) (zB b2) S) (pf_attribute N (zB b1) (zB b2) M) := by
  have h10 := h.1.1
  have R0 := mRel_0 (v := (0 : Int32)) R
  simp only [pX9_attribute, pf_attribute, sv_i]
  rw [K.1.1, R0.1.1, zL_10, il_lt (by omega) (by omega) (by omega) (by omega), il_eq (by omega) (by omega) (by omega) (by omega)]
  by_cases q : hA (wH W) < 10
  · rw [if_pos (by omega), if_neg (by omega)]
    have hbit : ∀ (b : Bool) (a : Nat), a < 32 → ib (if b then ((1 : Int32) <<< (zI (hA (wH W) : Nat) &&& 31)) else 0) a = (b && decide (a = hA (wH W))) := fun b a ha => by
      cases b with
      | false =>
        rw [if_neg (by decide), ib_0]; rfl
      | true =>
        rw [if_pos rfl, ib_shl1 (by omega) ha]; rfl
    generalize hH : ((hA (wH W) + 1, upf (hSg (wH W)) (hA (wH W)) b1, upf (hTn (wH W)) (hA (wH W)) b2, hC (wH W), hPr (wH W), hRq (wH W), hAl (wH W)) : sH) = H'
    have z1 : hA H' = hA (wH W) + 1 := by rw [← hH]; rfl
    have z2 : hSg H' = upf (hSg (wH W)) (hA (wH W)) b1 := by rw [← hH]; rfl
    have z3 : hTn H' = upf (hTn (wH W)) (hA (wH W)) b2 := by rw [← hH]; rfl
    have z4 : hC H' = hC (wH W) := by rw [← hH]; rfl
    have z5 : hPr H' = hPr (wH W) := by rw [← hH]; rfl
    have z6 : hRq H' = hRq (wH W) := by rw [← hH]; rfl
    have z7 : hAl H' = hAl (wH W) := by rw [← hH]; rfl
    have E : hExt (wH W) H' := ⟨by omega, by omega, fun a ha => ⟨by rw [z2, upf_o _ _ (by omega)], by rw [z3, upf_o _ _ (by omega)]⟩⟩
    have hw : hW H' := by
      obtain ⟨w1, w2, w3, w4⟩ := h.1
      refine ⟨by omega, by omega, fun k hk => by rw [z5]; exact w3 k (by omega), fun a ha => ?_⟩
      rw [z2, z3, upf_o _ _ (by omega), upf_o _ _ (by omega)]
      exact w4 a (by omega)
    have hq : hQ H' := fun k hk a ha h32 => by
      rw [z6]
      exact h.2.2.2.2.2.2.2.2 k (by omega) a (by omega) h32
    have hIs' : ∀ k, hIs H' k = hIs (wH W) k := fun k => by unfold hIs; rw [z4]
    have hReq' : ∀ k, hReq H' k = hReq (wH W) k := fun k => by unfold hReq; rw [hIs', z6]
    have hAll' : ∀ k, hAll H' k = hAll (wH W) k := fun k => by unfold hAll; rw [hIs', z7]
    have cls : ∃ S', pX7_newAttribute N (zB b1) (zB b2) S = some (kI S 1, S') ∧ hR S' H' ∧ (∀ q, q = 0 ∨ 5 ≤ q → kI S' q = kI S q) ∧ kA S' = kA S ∧ kJ S' = kJ S ∧ kL S' = kL S ∧ S'.2.2.2.2 = S.2.2.2.2 := by
      have e39 : ∀ (t0 t1 : Int32) (S1 : kS), pX7_newAttribute_39 N t0 t1 S1 = some (kI (sI S1 4 (t1 ||| t0)) 1, sI (sI S1 4 (t1 ||| t0)) 1 (kI (sI S1 4 (t1 ||| t0)) 1 + 1)) := fun t0 t1 S1 => rfl
      have e : pX7_newAttribute N (zB b1) (zB b2) S = some (kI S 1, sI (sI (sI S 3 (kI S 3 ||| (if b1 then ((1 : Int32) <<< (kI S 1 &&& 31)) else 0))) 4 (kI S 4 ||| (if b2 then ((1 : Int32) <<< (kI S 1 &&& 31)) else 0))) 1 (kI S 1 + 1)) := by
        simp only [pX7_newAttribute, pX7_newAttribute_21, nm_i, svk_i]
        cases b1 <;> cases b2 <;> rfl
      refine ⟨_, e, ⟨?_, ?_, fun a ha => ?_, fun a ha => ?_, fun k hk => ?_, fun k hk => ?_, fun k hk => ?_⟩, fun q hq => ?_, rfl, rfl, rfl, rfl⟩
      · rw [kI_sI, upd_s, K.1.1, zL_1, zI_add, z1]; congr 1
      · rw [kI_sI, upd_o _ _ (by omega), kI_sI, upd_o _ _ (by omega), kI_sI, upd_o _ _ (by omega), z4]; exact K.1.2.1
      · rw [kI_sI, upd_o _ _ (by omega), kI_sI, upd_o _ _ (by omega), kI_sI, upd_s, ib_or, K.1.1, hbit b1 a ha, K.1.2.2.1 a ha, z2]
        by_cases g : a = hA (wH W)
        · rw [g, upf_s, (h.1.2.2.2 _ (Nat.le_refl _)).1, decide_eq_true rfl, Bool.and_true, Bool.false_or]
        · rw [upf_o _ _ g, decide_eq_false g, Bool.and_false, Bool.or_false]
      · rw [kI_sI, upd_o _ _ (by omega), kI_sI, upd_s, ib_or, K.1.1, hbit b2 a ha, K.1.2.2.2.1 a ha, z3]
        by_cases g : a = hA (wH W)
        · rw [g, upf_s, (h.1.2.2.2 _ (Nat.le_refl _)).2, decide_eq_true rfl, Bool.and_true, Bool.false_or]
        · rw [upf_o _ _ g, decide_eq_false g, Bool.and_false, Bool.or_false]
      · rw [z5]; exact K.1.2.2.2.2.1 k (by omega)
      · rw [z6]; exact K.1.2.2.2.2.2.1 k (by omega)
      · rw [z7]; exact K.1.2.2.2.2.2.2 k (by omega)
      · rw [kI_sI, upd_o _ _ (by omega), kI_sI, upd_o _ _ (by omega), kI_sI, upd_o _ _ (by omega)]
    obtain ⟨S', e1, e2, e3, e4, e5, e6, e7⟩ := cls
    rw [e1, bk_i, K.1.1]
    have m1 : (mA (mI M 0 (zI 0)) 2 (hA (wH W)) (zB b1)).1 1 = zI (hA (wH W) : Nat) := R0.1.1
    have m2 : (mA (mA (mI M 0 (zI 0)) 2 (hA (wH W)) (zB b1)) 3 (hA (wH W)) (zB b2)).1 1 = zI (hA (wH W) : Nat) := R0.1.1
    have m3 : ∀ Q : mS, ∀ v, (mI Q 1 v).1 1 = v := fun Q v => by rw [mI_1, upd_s]
    rw [gd_n (show hA (wH W) < 10 by omega) (by omega), zI_cn (by omega), zB_nar]
    have m1 : (mA (mI M 0 0) 2 (hA (wH W)) (zB b1)).1 1 = zI (hA (wH W) : Nat) := R0.1.1
    rw [m1, gd_n (show hA (wH W) < 10 by omega) (by omega), zI_cn (by omega), zB_nar]
    have m2 : (mA (mA (mI M 0 0) 2 (hA (wH W)) (zB b1)) 3 (hA (wH W)) (zB b2)).1 1 = zI (hA (wH W) : Nat) := R0.1.1
    rw [m2, m3, zL_1, zI_add, zI_sub, show (hA (wH W) : Int) + 1 - 1 = (hA (wH W) : Nat) by omega]
    refine opOk_v rfl rfl ?_ (w_ext h E hw hq) (k_ext h K E e2 e3 (fun c _ => by rw [e4]) e5 e6 e7) (m_ext h R0 E ?_ (fun q q0 q1 q4 => ?_) (fun c hc => ?_))
    · rw [mI_1, upd_o _ _ (by omega)]
      exact thr_k (M := M)
    · obtain ⟨s1, s2, s3, s4, s5, s6, s7⟩ := R0.1
      refine ⟨?_, ?_, fun a ha => ?_, fun a ha => ?_, fun k hk => ?_, fun k hk => ?_, fun k hk => ?_⟩
      · rw [m3, z1]; congr 1
      · rw [z4]; exact s2
      · rw [mI_2, mA_o _ _ _ (by omega), mA_s, z2]
        by_cases g : a = hA (wH W)
        · rw [g, upd_s, upf_s]
        · rw [upd_o _ _ g, upf_o _ _ g]; exact s3 a ha
      · rw [mI_2, mA_s, mA_o _ _ _ (by omega), z3]
        by_cases g : a = hA (wH W)
        · rw [g, upd_s, upf_s]
        · rw [upd_o _ _ g, upf_o _ _ g]; exact s4 a ha
      · rw [z5, mI_2, mA_o _ _ _ (by omega), mA_o _ _ _ (by omega)]; exact s5 k (by omega)
      · rw [z6, z5, hReq', mI_2, mA_o _ _ _ (by omega), mA_o _ _ _ (by omega)]; exact s6 k (by omega)
      · rw [z7, z5, hAll', mI_2, mA_o _ _ _ (by omega), mA_o _ _ _ (by omega), mA_o _ _ _ (by omega), mA_o _ _ _ (by omega)]; exact s7 k (by omega)
    · rw [mI_1, upd_o _ _ q1]; rfl
    · rw [mI_2, mA_o _ _ _ (by omega), mA_o _ _ _ (by omega)]
  · rw [if_neg (by omega), if_pos (by omega), fails_i, bd_i]
    exact opOk_x rfl rfl (Or.inl ⟨rfl, thr_k⟩) h K (mRel_0 R0)
end HX
