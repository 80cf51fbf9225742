-- LEVEL 2, A CHANGE DONE BY THE CLASS'S TREE
def cWt (c : sCh) : Nat := if cK c = 0 then (cV c).length else if cK c = 1 ∨ cK c = 3 then 1 else 0
theorem vDrop_twice {H : sH} {vs : List (Nat × Nat × Nat)} {e a v : Nat} {all : Bool} : vDrop H (vDrop H vs e a true v) e a all v = vDrop H vs e a true v := by
  unfold vDrop
  rw [List.filter_filter]
  congr 1
  funext x
  unfold vGoes
  cases all <;> cases decide (x.1 = e) <;> cases decide (x.2.1 = a) <;> simp
theorem q_rank {N k : Nat} {S : kS} {c : sCh} (R : cRS S k c) (h : cOk c) : pX0_rank N k S = some (zI (cR c : Nat), S) := by
  obtain ⟨r0, r1, r2, r3, r4, r5, -⟩ := R
  obtain ⟨-, -, h3, -, h5, -⟩ := h
  simp only [pX0_rank]
  rw [gn_l r0, gn_l r0, r5, r3, zL_4, zI_mul, zI_add]
  rfl
section QN
variable {N : Nat} {S : kS} {t : Nat} {H : sH} {T : sT}
theorem q_take (hN : 900 ≤ N) {k : Nat} {c : sCh} (hH : hR S H) (hc : cOk c) (C : cRS S k c) (R : tOk S t T) (hlen : (tVs T).length + cWt c ≤ 826) : ∃ S', pX8_take N t k S = some ((), S') ∧ tR S' t (tTake H T c) ∧ frT t S S' := by
  obtain ⟨r0, rk, re, rm, rn, rs, radd, rval, rone, rrule⟩ := id C
  obtain ⟨ck, ce, cm, cn, cs, cadd, cval, cname, clink, crule, cmove, cdel⟩ := id hc
  have hv : ∀ x ∈ tVs T, vOk x := R.2.2.2.2.2.2.2.1
  have V := tR_vRs R.1
  simp only [pX8_take, nm_i]
  rw [gn_l r0, gn_l r0]
  simp only [rk, re]
  unfold tTake
  by_cases k0 : cK c = 0
  · rw [if_pos k0, if_pos (by rw [k0]; rfl)]
    obtain ⟨a1, a2, a3, a4, a5, a6, a7, a8, a9⟩ := cadd k0
    obtain ⟨b1, b2, b3, j, b4, b5, b6, b7⟩ := radd k0
    simp only [pX8_takeAdd, nm_i, svk_i]
    have hC : ∀ S' : kS, S'.2.2.2.2 = S.2.2.2.2 → kn S' = kn S ∧ kF S' = kF S ∧ kC S' = kC S ∧ km S' = km S ∧ kl S' = kl S ∧ kx S' = kx S := fun S' h => by
      obtain ⟨g1, g2, g3, g4, g5, g6, -, -⟩ := kD_eq h
      exact ⟨g1, g2, g3, g4, g5, g6⟩
    rw [gn_l r0, re]
    generalize hSa : sL S (8 + 2 * t) ((kL S (8 + 2 * t)) ||| ((1 : Int64) <<< ((zI (cE c : Nat)).toInt64 &&& 63))) = Sa
    have fa : frT t S Sa := by rw [← hSa]; exact fr_sL (Or.inl rfl)
    obtain ⟨g1, g2, g3, g4, g5, g6⟩ := hC Sa fa.2.2.2.2
    rw [gn_l (by rw [g1]; exact r0), q_rank (cRS_D fa.2.2.2.2 C) hc, bk_i, gd_n ce (by omega), zI_cn (by omega)]
    have R1 := tR_th R.1 ce (r := cR c)
    rw [hSa] at R1
    generalize hSb : sA Sa (26 + 15 * t + 5) (cE c) (zI (cR c : Nat)) = Sb at R1 ⊢
    have fb : frT t S Sb := by rw [← hSb]; exact fa.trans (fr_sA (by omega) (by omega))
    obtain ⟨g1, g2, g3, g4, g5, g6⟩ := hC Sb fb.2.2.2.2
    rw [gn_l (by rw [g1]; exact r0), gd_n ce (by omega), g2, b1]
    have R2 := tR_pa R1 (e := cE c) (v := cY c)
    generalize hSc : sA Sb (26 + 15 * t + 4) (cE c) (zI (cY c)) = Sc at R2 ⊢
    have fc : frT t S Sc := by rw [← hSc]; exact fb.trans (fr_sA (by omega) (by omega))
    obtain ⟨g1, g2, g3, g4, g5, g6⟩ := hC Sc fc.2.2.2.2
    rw [gn_l (by rw [g1]; exact r0), gd_n ce (by omega), g2, b2]
    have R3 := tR_kl R2 (e := cE c) (v := cX c)
    generalize hSd : sA Sc (26 + 15 * t + 2) (cE c) (zI (cX c)) = Sd at R3 ⊢
    have fd : frT t S Sd := by rw [← hSd]; exact fc.trans (fr_sA (by omega) (by omega))
    obtain ⟨g1, g2, g3, g4, g5, g6⟩ := hC Sd fd.2.2.2.2
    rw [gn_l (by rw [g1]; exact r0), gd_n ce (by omega), g2, b3]
    have R4 := tR_nm R3 (e := cE c) (v := cW c)
    generalize hSe : sA Sd (26 + 15 * t + 1) (cE c) (zI (cW c)) = Se at R4 ⊢
    have fe : frT t S Se := by rw [← hSe]; exact fd.trans (fr_sA (by omega) (by omega))
    obtain ⟨g1, g2, g3, g4, g5, g6⟩ := hC Se fe.2.2.2.2
    rw [gn_l (by rw [g1]; exact r0), g3, b4]
    show ∃ S', bk (gn k (kn Se) (gn j (km Se) (pX8_takeAdd_76 N t k N (zI (cE c : Nat)) j (Int32.ofNat (kl Se j)) (0 : Int32) Se))) _ = _ ∧ _
    rw [gn_l (by rw [g1]; exact r0), gn_l (by rw [g4]; exact b5), zL, g5, b6]
    have hw : cWt c = (cV c).length := by unfold cWt; rw [if_pos k0]
    have V4 : vRs Se t (tVs T) := by
      have q := tR_vRs R4
      exact q
    obtain ⟨S', e1, V1, f1⟩ := q_takeAdd_76 (N := N) (H := H) (t := t) (e := cE c) (j := j) (n1 := k) hN ce (cs := cV c) a8 a9 N (cV c).length 0 (by omega) (by omega) Se (tVs T) (frT_hR fe hH) V4 hv (by omega) (by rw [g4]; exact b5) (by rw [g5]; exact b6) (by rw [g6]; exact b7)
    refine ⟨S', ?_, ?_, fe.trans f1.t⟩
    · have e1 : pX8_takeAdd_76 N t k N (zI (cE c : Nat)) j (zI ((cV c).length : Nat)) (0 : Int32) Se = some ((), S') := e1
      rw [e1]; rfl
    · rw [List.drop_zero] at V1
      have q := tR_setV R4 f1 V1
      exact q
  · rw [if_neg k0, if_neg (by rw [zL_0, zI_eq (by omega) (by omega) (by omega) (by omega)]; omega)]
    by_cases k1 : cK c = 1
    · obtain ⟨a1, a2, a3, a4⟩ := cval (by omega) (by omega)
      obtain ⟨b1, b2⟩ := rval (by omega) (by omega)
      rw [if_pos k1, if_pos (by rw [k1]; rfl), gn_l r0, gn_l r0, b1, b2]
      have hw : cWt c = 1 := by unfold cWt; rw [if_neg k0, if_pos (Or.inl k1)]
      obtain ⟨S', e1, V1, f1⟩ := q_takeValue (N := N) hN hH hv (e := cE c) (a := (cX c).toNat) (v := (cY c).toNat) ⟨ce, by show (cX c).toNat < 10; omega, by show (cY c).toNat < 1000; omega⟩ (by omega) V
      rw [Int.toNat_of_nonneg a1, Int.toNat_of_nonneg a3] at e1
      exact ⟨S', by rw [e1]; rfl, tR_setV R.1 f1 V1, f1.t⟩
    · rw [if_neg k1, if_neg (by rw [zL_1, zI_eq (by omega) (by omega) (by omega) (by omega)]; omega)]
      by_cases k2 : cK c = 2
      · obtain ⟨a1, a2, a3, a4⟩ := cval (by omega) (by omega)
        obtain ⟨b1, b2⟩ := rval (by omega) (by omega)
        rw [if_pos k2, if_pos (by rw [k2]; rfl), gn_l r0, gn_l r0, b1, b2]
        obtain ⟨S', e1, V1, f1⟩ := q_takeRemoval (N := N) hN hH hv (e := cE c) (a := (cX c).toNat) (v := (cY c).toNat) ⟨ce, by show (cX c).toNat < 10; omega, by show (cY c).toNat < 1000; omega⟩ V
        rw [Int.toNat_of_nonneg a1, Int.toNat_of_nonneg a3] at e1
        exact ⟨S', by rw [e1]; rfl, tR_setV R.1 f1 V1, f1.t⟩
      · rw [if_neg k2, if_neg (by rw [zL_2, zI_eq (by omega) (by omega) (by omega) (by omega)]; omega)]
        by_cases k3 : cK c = 3
        · obtain ⟨a1, a2, a3, a4⟩ := cval (by omega) (by omega)
          obtain ⟨b1, b2⟩ := rval (by omega) (by omega)
          rw [if_pos k3, if_pos (by rw [k3]; rfl), gn_l r0, b1]
          have hw : cWt c = 1 := by unfold cWt; rw [if_neg k0, if_pos (Or.inr k3)]
          have hvx : vOk (cE c, (cX c).toNat, (cY c).toNat) := ⟨ce, by show (cX c).toNat < 10; omega, by show (cY c).toNat < 1000; omega⟩
          obtain ⟨S1, e1, V1, f1⟩ := q_dropVals (N := N) hN hv (e := cE c) (a := (cX c).toNat) (lo := 0) (hi := 999) ce hvx.2.1 (by omega) (by omega) V
          rw [← vDrop_all (H := H) (v := (cY c).toNat) hv] at V1
          rw [Int.toNat_of_nonneg a1] at e1
          obtain ⟨g1, g2, g3, g4, g5, g6, -, -⟩ := kD_eq f1.2.2.2.2
          obtain ⟨S2, e2, V2, f2⟩ := q_takeValue (N := N) hN (frT_hR f1.t hH) (vDrop_ok hv) hvx (Nat.lt_of_le_of_lt vDrop_len (by omega)) V1
          rw [Int.toNat_of_nonneg a1, Int.toNat_of_nonneg a3] at e2
          refine ⟨S2, ?_, ?_, (f1.trans f2).t⟩
          · have e1 : pX8_dropValues N t (zI (cE c : Nat)) (zI (cX c)) (0 : Int32) (999 : Int32) S = some ((), S1) := e1
            rw [e1, bk_i, gn_l (by rw [g1]; exact r0), gn_l (by rw [g1]; exact r0), g2, b1, b2, e2]; rfl
          · have e3 : vTake H (vDrop H (tVs T) (cE c) (cX c).toNat true (cY c).toNat) (cE c) (cX c).toNat (cY c).toNat = vDrop H (tVs T) (cE c) (cX c).toNat true (cY c).toNat ++ [(cE c, (cX c).toNat, (cY c).toNat)] := by
              unfold vTake
              rw [vDrop_twice]
            rw [e3] at V2
            exact tR_setV R.1 (f1.trans f2) V2
        · rw [if_neg k3, if_neg (by rw [zL_3, zI_eq (by omega) (by omega) (by omega) (by omega)]; omega)]
          by_cases k4 : cK c = 4
          · rw [if_pos k4, if_pos (by rw [k4]; rfl), gn_l r0, gd_n ce (by omega), zI_cn (by omega), rone (Or.inl k4)]
            exact ⟨_, rfl, tR_nm R.1, fr_sA (by omega) (by omega)⟩
          · rw [if_neg k4, if_neg (by rw [zL_4, zI_eq (by omega) (by omega) (by omega) (by omega)]; omega)]
            by_cases k5 : cK c = 5
            · rw [if_pos k5, if_pos (by rw [k5]; rfl), gn_l r0, gd_n ce (by omega), zI_cn (by omega), rone (Or.inr (Or.inl k5))]
              exact ⟨_, rfl, tR_lk R.1, fr_sA (by omega) (by omega)⟩
            · rw [if_neg k5, if_neg (by rw [zL_5, zI_eq (by omega) (by omega) (by omega) (by omega)]; omega)]
              by_cases k6 : cK c = 6
              · obtain ⟨s, p, r, q1, q2, q3, q4, q5, q6, q7⟩ := rrule k6
                obtain ⟨-, -, a3, a4⟩ := crule k6
                rw [if_pos k6, if_pos (by rw [k6]; rfl), gn_l r0, gn_l r0, gn_l r0, q5, q6, q7]
                obtain ⟨S', e1, V1, f1⟩ := q_say (N := N) R.1 (e := cE c) (p := p) (r := r) (s := s) (y := (cY c).toNat) ce q2 q3 q1 (by omega)
                rw [Int.toNat_of_nonneg a3] at e1
                refine ⟨S', by rw [e1]; rfl, ?_, f1⟩
                rw [q4, Int.toNat_natCast]
                exact V1
              · rw [if_neg k6, if_neg (by rw [zL_6, zI_eq (by omega) (by omega) (by omega) (by omega)]; omega)]
                by_cases k7 : cK c = 7
                · obtain ⟨a1, a2⟩ := cmove k7
                  rw [if_pos k7, if_pos (by rw [k7]; rfl), gn_l r0, rone (Or.inr (Or.inr k7)), q_comesTo R (by omega) ce (by omega) a2, bk_i, il_B]
                  cases hcm : pCome (tPa T) 48 (cX c) (cE c) with
                  | false =>
                    rw [if_neg (by decide), gn_l r0, gd_n ce (by omega), zI_cn (by omega), rone (Or.inr (Or.inr k7))]
                    refine ⟨_, rfl, ?_, fr_sA (by omega) (by omega)⟩
                    rw [if_neg (by decide)]
                    exact tR_pa R.1
                  | true =>
                    rw [if_pos rfl]
                    refine ⟨_, rfl, ?_, frT.rf⟩
                    rw [if_pos rfl]
                    exact R.1
                · rw [if_neg k7, if_neg (by rw [zL_7, zI_eq (by omega) (by omega) (by omega) (by omega)]; omega)]
                  exact ⟨_, rfl, tR_dd R.1 ce, fr_sL (Or.inr rfl)⟩
end QN
