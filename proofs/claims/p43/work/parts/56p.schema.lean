-- LEVEL 2, THE SCHEMA GROWS
/-- a schema with more attributes or classes -/
def hExt (H H' : sH) : Prop := hA H ≤ hA H' ∧ hC H ≤ hC H' ∧ ∀ a, a < hA H → hSg H' a = hSg H a ∧ hTn H' a = hTn H a
theorem hKey_x {H H' : sH} (E : hExt H H') {a v : Nat} (ha : a < hA H) : hKey H' a v = hKey H a v := by
  unfold hKey
  rw [(E.2.2 a ha).2]
theorem vDrop_x {H H' : sH} (E : hExt H H') {vs : List (Nat × Nat × Nat)} {e a v : Nat} {all : Bool} (ha : a < hA H) : vDrop H' vs e a all v = vDrop H vs e a all v := by
  unfold vDrop
  refine List.filter_congr (fun x _ => ?_)
  unfold vGoes
  rw [hKey_x E ha, hKey_x E ha]
theorem vTake_x {H H' : sH} (E : hExt H H') {vs : List (Nat × Nat × Nat)} {e a v : Nat} (ha : a < hA H) : vTake H' vs e a v = vTake H vs e a v := by
  unfold vTake
  rw [(E.2.2 a ha).1, vDrop_x E ha]
theorem vFold_x {H H' : sH} (E : hExt H H') {e : Nat} : ∀ (cv : List (Nat × Nat)) (vs : List (Nat × Nat × Nat)), (∀ x ∈ cv, x.1 < hA H) → cv.foldl (fun vs x => vTake H' vs e x.1 x.2) vs = cv.foldl (fun vs x => vTake H vs e x.1 x.2) vs
  | [], _, _ => rfl
  | x :: cv, vs, h => by
    show cv.foldl (fun vs x => vTake H' vs e x.1 x.2) (vTake H' vs e x.1 x.2) = cv.foldl (fun vs x => vTake H vs e x.1 x.2) (vTake H vs e x.1 x.2)
    rw [vTake_x E (h x List.mem_cons_self)]
    exact vFold_x E cv _ (fun y hy => h y (List.mem_cons_of_mem _ hy))
theorem tTake_x {H H' : sH} (E : hExt H H') {T : sT} {c : sCh} {en : Nat} (hc : cOk c) (hi : cIn H en c) : tTake H' T c = tTake H T c := by
  obtain ⟨-, i0, i1, -⟩ := hi
  unfold tTake
  by_cases k0 : cK c = 0
  · rw [if_pos k0, if_pos k0, vFold_x E _ _ (i0 k0).2.2]
  rw [if_neg k0, if_neg k0]
  have ha : cK c ≤ 3 → (cX c).toNat < hA H := fun k3 => by
    have := i1 (by omega) k3
    have := (hc.2.2.2.2.2.2.1 (by omega) k3).1
    omega
  by_cases k1 : cK c = 1
  · rw [if_pos k1, if_pos k1, vTake_x E (ha (by omega))]
  rw [if_neg k1, if_neg k1]
  by_cases k2 : cK c = 2
  · rw [if_pos k2, if_pos k2, vDrop_x E (ha (by omega))]
  rw [if_neg k2, if_neg k2]
  by_cases k3 : cK c = 3
  · rw [if_pos k3, if_pos k3, vDrop_x E (ha (by omega))]
  rw [if_neg k3, if_neg k3]
theorem rpl_x {H H' : sH} (E : hExt H H') {cs : Nat → sCh} {en : Nat} : ∀ (l : List Nat) (T : sT), (∀ k ∈ l, cOk (cs k) ∧ cIn H en (cs k)) → rpl H' cs T l = rpl H cs T l
  | [], _, _ => rfl
  | k :: l, T, h => by
    obtain ⟨a, b⟩ := h k List.mem_cons_self
    show rpl H' cs (tTake H' T (cs k)) l = rpl H cs (tTake H T (cs k)) l
    rw [tTake_x E a b]
    exact rpl_x E l _ (fun q hq => h q (List.mem_cons_of_mem _ hq))
def wSc (W : sW) (H' : sH) : sW := wMk H' (wD W) (wP W) (wK W) (wC W) (wN W) (wO W) (wT W) (wX W) (wU W) (wE W) (wF W)
section HX
variable {N : Nat} {S S' : kS} {W : sW} {H' : sH}
theorem shw_x (h : wOk W) (E : hExt (wH W) H') (m : Nat) : shw H' (wC W) (wT W m) m (wO W) = wTr W m := by
  obtain ⟨-, -, g3, ⟨ar, g4⟩, g5, g6, -⟩ := h.2.2.2.1
  unfold wTr shw
  exact rpl_x (en := wE W) E _ _ (fun k hk => ⟨(g4.2 k (knl_sub.subset hk)).1, g6 k ((g3 k).mp (knl_sub.subset hk))⟩)
theorem w_ext (h : wOk W) (E : hExt (wH W) H') (hw : hW H') (hq : hQ H') : wOk (wSc W H') := by
  obtain ⟨o1, ⟨o2, o2b⟩, ⟨p1, p2, p3, p4, p5⟩, ⟨g1, g2, g3, g4, g5, g6, g7⟩, o5, o6, o7, o8, o9⟩ := h
  obtain ⟨e1, e2, e3⟩ := E
  refine ⟨hw, ⟨o2, fun x hx => ⟨Nat.lt_of_lt_of_le (o2b x hx).1 e1, (o2b x hx).2⟩⟩, ⟨p1, p2, p3, fun i hi => ?_, p5⟩, ⟨g1, g2, g3, g4, g5, fun k hk => ?_, g7⟩, o5, o6, o7, o8, hq⟩
  · obtain ⟨a, b, c, d⟩ := p4 i hi
    exact ⟨a, fun z => by
      obtain ⟨b1, b2, b3⟩ := b z
      have b2 : (wP W)[i].2.1 < (hA (wH W) : Int) := b2
      exact ⟨b1, by show (wP W)[i].2.1 < (hA H' : Int); omega, b3⟩, fun z => by
      obtain ⟨b1, b2⟩ := c z
      have b2 : (wP W)[i].2.1 < (hC (wH W) : Int) := b2
      exact ⟨b1, by show (wP W)[i].2.1 < (hC H' : Int); omega⟩, d⟩
  · obtain ⟨a, b, c, d⟩ := g6 k hk
    exact ⟨a, fun z => by
      obtain ⟨b1, b2, b3⟩ := b z
      exact ⟨by show cX (wC W k) < (hC H' : Int); omega, b2, fun x hx => Nat.lt_of_lt_of_le (b3 x hx) e1⟩, fun z1 z2 => by
      have := c z1 z2
      show cX (wC W k) < (hA H' : Int)
      omega, d⟩
theorem k_ext (h : wOk W) (K : kRel S W) (E : hExt (wH W) H') (hr : hR S' H') (hI : ∀ q, q = 0 ∨ 5 ≤ q → kI S' q = kI S q) (hAr : ∀ c, 5 ≤ c → kA S' c = kA S c) (hJ : kJ S' = kJ S) (hL : kL S' = kL S) (hD : S'.2.2.2.2 = S.2.2.2.2) : kRel S' (wSc W H') := by
  obtain ⟨k1, ⟨k2, k3⟩, ⟨k4, k5, k6⟩, ⟨k7, k7b⟩, ⟨k8, k9⟩, k10, k11, k12, k13, k14, k15, k16, ⟨k17, k18⟩⟩ := K
  obtain ⟨d1, d2, d3, d4, d5, d6, d7, d8⟩ := kD_eq hD
  refine ⟨hr, ⟨by rw [hI _ (by omega)]; exact k2, by rw [hAr _ (by omega)]; exact k3⟩, ⟨by rw [hI _ (by omega)]; exact k4, by rw [hI _ (by omega)]; exact k5, fun i hi => ?_⟩, ⟨by rw [d1]; exact k7, fun k hk => cRS_D hD (k7b k hk)⟩, ⟨lgR_fr (hI _ (by omega)) hD k8, by rw [d3, d4]; exact k9⟩, fun m hm => tdR_fr (hI _ (by omega)) (hAr _ (by omega)) (k10 m hm), fun m hm => by rw [hI _ (by omega)]; exact k11 m hm, fun m hm => by rw [hI _ (by omega)]; exact k12 m hm, fun m e hm he => by rw [hL]; exact k13 m e hm he, by rw [hI _ (by omega)]; exact k14, fun m hm => ?_, by rw [hAr _ (by omega)]; exact k16, ⟨by rw [hI _ (by omega)]; exact k17, by rw [hAr _ (by omega)]; exact k18⟩⟩
  · rw [hAr 8 (by omega), hAr 9 (by omega), hAr 10 (by omega)]
    have hi : i < (wP W).length := hi
    have hp := h.2.2.1.2.2.2.1 i hi
    have q := k6 i hi
    have lo : pcL H' (wP W)[i] = pcL (wH W) (wP W)[i] := by
      unfold pcL
      by_cases z : (wP W)[i].1 ≤ 1
      · obtain ⟨b1, b2, -⟩ := hp.2.1 (by omega)
        rw [if_pos z, if_pos z]
        unfold vLo
        rw [(E.2.2 (wP W)[i].2.1.toNat (by omega)).2]
      · rw [if_neg z, if_neg z]
    have hi2 : pcH H' (wP W)[i] = pcH (wH W) (wP W)[i] := by
      unfold pcH
      by_cases z : (wP W)[i].1 = 0
      · obtain ⟨b1, b2, -⟩ := hp.2.1 (by omega)
        rw [if_pos z, if_pos z]
        unfold vHi
        rw [(E.2.2 (wP W)[i].2.1.toNat (by omega)).2]
      · rw [if_neg z, if_neg z]
    show kA S 8 i = zI (pcK (wP W)[i]) ∧ kA S 9 i = zI (pcL H' (wP W)[i]) ∧ kA S 10 i = zI (pcH H' (wP W)[i])
    rw [lo, hi2]
    exact q
  · have e : wTr (wSc W H') m = wTr W m := shw_x h E m
    rw [e]
    exact tR_other (fun q a b => hI q (by omega)) (fun c a b => hAr c (by omega)) (fun c a b => by rw [hJ]) (by rw [hL]) (by rw [hL]) (k15 m hm)
end HX
