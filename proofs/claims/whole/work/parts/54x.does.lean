-- LEVEL 2, THE REFERENCE: A CHANGE IS DONE
def rT (M : mS) (T : sT) : Prop := (∀ e, e < 48 → M.2 38 e = zB (tTh T e)) ∧ (∀ e, e < 48 → M.2 39 e = zB (tDd T e)) ∧ (∀ e, e < 48 → M.2 40 e = zI (tKl T e)) ∧ (∀ e, e < 48 → M.2 41 e = zI (tPa T e)) ∧ (∀ e, e < 48 → M.2 42 e = zI (tNm T e)) ∧ (∀ e, e < 48 → M.2 43 e = zI (tLk T e)) ∧ rVs M (tVs T) ∧ (∀ e k, e < 48 → k < 330 → M.2 51 (330 * e + k) = zI (tSy T e k : Nat))
def rCh (M : mS) (k : Nat) (c : sCh) : Prop := M.2 26 k = zI (cK c : Nat) ∧ M.2 27 k = zI (cE c : Nat) ∧ M.2 23 k = zI (cS c : Nat) ∧ M.2 24 k = zI (cM c : Nat) ∧ M.2 25 k = zI (cN c : Nat) ∧
  (cK c = 0 → M.2 28 k = zI (cX c) ∧ M.2 29 k = zI (cY c) ∧ M.2 30 k = zI (cW c) ∧ ∃ f : Nat, M.2 32 k = zI (f : Nat) ∧ M.2 33 k = zI ((f + (cV c).length : Nat) : Int) ∧ f + (cV c).length ≤ 600 ∧ ∀ i (h : i < (cV c).length), M.2 34 (f + i) = zI ((cV c)[i].1 : Nat) ∧ M.2 35 (f + i) = zI ((cV c)[i].2 : Nat)) ∧
  (1 ≤ cK c → cK c ≤ 3 → M.2 28 k = zI (cX c) ∧ M.2 29 k = zI (cY c)) ∧ (cK c = 4 ∨ cK c = 5 ∨ cK c = 7 → M.2 28 k = zI (cX c)) ∧ (cK c = 6 → M.2 28 k = zI (cX c) ∧ M.2 29 k = zI (cY c))
/-- nothing but a tree was written -/
def rfT (M M' : mS) : Prop := (∀ q, q ≠ 47 → M'.1 q = M.1 q) ∧ ∀ c, (c < 38 ∨ 51 < c ∨ c = 45 ∨ c = 46) → M'.2 c = M.2 c
theorem rfT.rf {M : mS} : rfT M M := ⟨fun _ _ => rfl, fun _ _ => rfl⟩
theorem rfT.trans {M M' M2 : mS} (h : rfT M M') (h2 : rfT M' M2) : rfT M M2 := ⟨fun q a => (h2.1 q a).trans (h.1 q a), fun q a => (h2.2 q a).trans (h.2 q a)⟩
theorem rfV.t {M M' : mS} (h : rfV M M') : rfT M M' := ⟨h.1, fun c hc => h.2 c (by omega)⟩
theorem rf_mA {M : mS} {c j : Nat} {v : Int32} (h1 : 38 ≤ c) (h2 : c ≤ 51) (h3 : c ≠ 45) (h4 : c ≠ 46) : rfT M (mA M c j v) := ⟨fun _ _ => rfl, fun q hq => mA_o _ _ _ (by omega)⟩
theorem rSc_fr {M M' : mS} {H : sH} (h : rfT M M') (R : rSc M H) : rSc M' H := by
  obtain ⟨r1, r2, r3, r4, r5, r6, r7⟩ := R
  refine ⟨by rw [h.1 _ (by omega)]; exact r1, by rw [h.1 _ (by omega)]; exact r2, by rw [h.2 _ (by omega)]; exact r3, by rw [h.2 _ (by omega)]; exact r4, by rw [h.2 _ (by omega)]; exact r5, by rw [h.2 _ (by omega)]; exact r6, by rw [h.2 6 (by omega), h.2 7 (by omega)]; exact r7⟩
theorem rCh_fr {M M' : mS} {k : Nat} {c : sCh} (h : rfT M M') (R : rCh M k c) : rCh M' k c := by
  unfold rCh at *
  rw [h.2 26 (by omega), h.2 27 (by omega), h.2 23 (by omega), h.2 24 (by omega), h.2 25 (by omega), h.2 28 (by omega), h.2 29 (by omega), h.2 30 (by omega), h.2 32 (by omega), h.2 33 (by omega), h.2 34 (by omega), h.2 35 (by omega)]
  exact R
theorem arr_B {f : Nat → Int32} {g : Nat → Bool} {e : Nat} {v : Bool} (h : ∀ j, j < 48 → f j = zB (g j)) : ∀ j, j < 48 → upd f e (zB v) j = zB (upf g e v j) := fun j hj => by
  by_cases q : j = e
  · rw [q, upd_s, upf_s]
  · rw [upd_o _ _ q, upf_o _ _ q]; exact h j hj
section RD
variable {N : Nat} {M : mS} {H : sH} {T : sT}
theorem rVs_fr {M M' : mS} {l : List (Nat × Nat × Nat)} (h0 : M'.1 47 = M.1 47) (h1 : M'.2 48 = M.2 48) (h2 : M'.2 49 = M.2 49) (h3 : M'.2 50 = M.2 50) (R : rVs M l) : rVs M' l := by
  unfold rVs rAt at *
  rw [h0, h1, h2, h3]
  exact R
theorem rT_th (R : rT M T) {e : Nat} : rT (mA M 38 e (zB true)) (tMk (upf (tTh T) e true) (tDd T) (tKl T) (tPa T) (tNm T) (tLk T) (tBn T) (tVs T) (tSy T)) := by
  obtain ⟨r1, r2, r3, r4, r5, r6, r7, r8⟩ := R
  exact ⟨by rw [mA_s]; exact arr_B r1, by rw [mA_o _ _ _ (by omega)]; exact r2, by rw [mA_o _ _ _ (by omega)]; exact r3, by rw [mA_o _ _ _ (by omega)]; exact r4, by rw [mA_o _ _ _ (by omega)]; exact r5, by rw [mA_o _ _ _ (by omega)]; exact r6, rVs_fr rfl (mA_o _ _ _ (by omega)) (mA_o _ _ _ (by omega)) (mA_o _ _ _ (by omega)) r7, by rw [mA_o _ _ _ (by omega)]; exact r8⟩
theorem rT_dd (R : rT M T) {e : Nat} : rT (mA M 39 e (zB true)) (tMk (tTh T) (upf (tDd T) e true) (tKl T) (tPa T) (tNm T) (tLk T) (tBn T) (tVs T) (tSy T)) := by
  obtain ⟨r1, r2, r3, r4, r5, r6, r7, r8⟩ := R
  exact ⟨by rw [mA_o _ _ _ (by omega)]; exact r1, by rw [mA_s]; exact arr_B r2, by rw [mA_o _ _ _ (by omega)]; exact r3, by rw [mA_o _ _ _ (by omega)]; exact r4, by rw [mA_o _ _ _ (by omega)]; exact r5, by rw [mA_o _ _ _ (by omega)]; exact r6, rVs_fr rfl (mA_o _ _ _ (by omega)) (mA_o _ _ _ (by omega)) (mA_o _ _ _ (by omega)) r7, by rw [mA_o _ _ _ (by omega)]; exact r8⟩
theorem rT_bn (R : rT M T) {e r : Nat} {v : Int32} : rT (mA M 44 e v) (tMk (tTh T) (tDd T) (tKl T) (tPa T) (tNm T) (tLk T) (upf (tBn T) e r) (tVs T) (tSy T)) := by
  obtain ⟨r1, r2, r3, r4, r5, r6, r7, r8⟩ := R
  exact ⟨by rw [mA_o _ _ _ (by omega)]; exact r1, by rw [mA_o _ _ _ (by omega)]; exact r2, by rw [mA_o _ _ _ (by omega)]; exact r3, by rw [mA_o _ _ _ (by omega)]; exact r4, by rw [mA_o _ _ _ (by omega)]; exact r5, by rw [mA_o _ _ _ (by omega)]; exact r6, rVs_fr rfl (mA_o _ _ _ (by omega)) (mA_o _ _ _ (by omega)) (mA_o _ _ _ (by omega)) r7, by rw [mA_o _ _ _ (by omega)]; exact r8⟩
theorem rT_kl (R : rT M T) {e : Nat} {v : Int} : rT (mA M 40 e (zI v)) (tMk (tTh T) (tDd T) (upf (tKl T) e v) (tPa T) (tNm T) (tLk T) (tBn T) (tVs T) (tSy T)) := by
  obtain ⟨r1, r2, r3, r4, r5, r6, r7, r8⟩ := R
  exact ⟨by rw [mA_o _ _ _ (by omega)]; exact r1, by rw [mA_o _ _ _ (by omega)]; exact r2, by rw [mA_s]; exact arr_upf r3, by rw [mA_o _ _ _ (by omega)]; exact r4, by rw [mA_o _ _ _ (by omega)]; exact r5, by rw [mA_o _ _ _ (by omega)]; exact r6, rVs_fr rfl (mA_o _ _ _ (by omega)) (mA_o _ _ _ (by omega)) (mA_o _ _ _ (by omega)) r7, by rw [mA_o _ _ _ (by omega)]; exact r8⟩
theorem rT_pa (R : rT M T) {e : Nat} {v : Int} : rT (mA M 41 e (zI v)) (tMk (tTh T) (tDd T) (tKl T) (upf (tPa T) e v) (tNm T) (tLk T) (tBn T) (tVs T) (tSy T)) := by
  obtain ⟨r1, r2, r3, r4, r5, r6, r7, r8⟩ := R
  exact ⟨by rw [mA_o _ _ _ (by omega)]; exact r1, by rw [mA_o _ _ _ (by omega)]; exact r2, by rw [mA_o _ _ _ (by omega)]; exact r3, by rw [mA_s]; exact arr_upf r4, by rw [mA_o _ _ _ (by omega)]; exact r5, by rw [mA_o _ _ _ (by omega)]; exact r6, rVs_fr rfl (mA_o _ _ _ (by omega)) (mA_o _ _ _ (by omega)) (mA_o _ _ _ (by omega)) r7, by rw [mA_o _ _ _ (by omega)]; exact r8⟩
theorem rT_nm (R : rT M T) {e : Nat} {v : Int} : rT (mA M 42 e (zI v)) (tMk (tTh T) (tDd T) (tKl T) (tPa T) (upf (tNm T) e v) (tLk T) (tBn T) (tVs T) (tSy T)) := by
  obtain ⟨r1, r2, r3, r4, r5, r6, r7, r8⟩ := R
  exact ⟨by rw [mA_o _ _ _ (by omega)]; exact r1, by rw [mA_o _ _ _ (by omega)]; exact r2, by rw [mA_o _ _ _ (by omega)]; exact r3, by rw [mA_o _ _ _ (by omega)]; exact r4, by rw [mA_s]; exact arr_upf r5, by rw [mA_o _ _ _ (by omega)]; exact r6, rVs_fr rfl (mA_o _ _ _ (by omega)) (mA_o _ _ _ (by omega)) (mA_o _ _ _ (by omega)) r7, by rw [mA_o _ _ _ (by omega)]; exact r8⟩
theorem rT_lk (R : rT M T) {e : Nat} {v : Int} : rT (mA M 43 e (zI v)) (tMk (tTh T) (tDd T) (tKl T) (tPa T) (tNm T) (upf (tLk T) e v) (tBn T) (tVs T) (tSy T)) := by
  obtain ⟨r1, r2, r3, r4, r5, r6, r7, r8⟩ := R
  exact ⟨by rw [mA_o _ _ _ (by omega)]; exact r1, by rw [mA_o _ _ _ (by omega)]; exact r2, by rw [mA_o _ _ _ (by omega)]; exact r3, by rw [mA_o _ _ _ (by omega)]; exact r4, by rw [mA_o _ _ _ (by omega)]; exact r5, by rw [mA_s]; exact arr_upf r6, rVs_fr rfl (mA_o _ _ _ (by omega)) (mA_o _ _ _ (by omega)) (mA_o _ _ _ (by omega)) r7, by rw [mA_o _ _ _ (by omega)]; exact r8⟩
theorem rT_sy (R : rT M T) {e x y : Nat} (hx : x < 330) : rT (mA M 51 (330 * e + x) (zI (y : Nat))) (tMk (tTh T) (tDd T) (tKl T) (tPa T) (tNm T) (tLk T) (tBn T) (tVs T) (upf (tSy T) e (upf (tSy T e) x y))) := by
  obtain ⟨r1, r2, r3, r4, r5, r6, r7, r8⟩ := R
  refine ⟨by rw [mA_o _ _ _ (by omega)]; exact r1, by rw [mA_o _ _ _ (by omega)]; exact r2, by rw [mA_o _ _ _ (by omega)]; exact r3, by rw [mA_o _ _ _ (by omega)]; exact r4, by rw [mA_o _ _ _ (by omega)]; exact r5, by rw [mA_o _ _ _ (by omega)]; exact r6, rVs_fr rfl (mA_o _ _ _ (by omega)) (mA_o _ _ _ (by omega)) (mA_o _ _ _ (by omega)) r7, fun f k hf hk => ?_⟩
  rw [mA_s]
  show _ = zI (upf (tSy T) e (upf (tSy T e) x y) f k : Nat)
  by_cases q : f = e
  · subst q
    rw [upf_s]
    by_cases q2 : k = x
    · subst q2; rw [upd_s, upf_s]
    · rw [upd_o _ _ (by omega), upf_o _ _ q2]; exact r8 f k hf hk
  · rw [upd_o _ _ (by omega), upf_o _ _ q]; exact r8 f k hf hk
theorem rT_vs {M M' : mS} {vs : List (Nat × Nat × Nat)} (R : rT M T) (f : rfV M M') (V : rVs M' vs) : rT M' (tMk (tTh T) (tDd T) (tKl T) (tPa T) (tNm T) (tLk T) (tBn T) vs (tSy T)) := by
  obtain ⟨r1, r2, r3, r4, r5, r6, r7, r8⟩ := R
  exact ⟨by rw [f.2 _ (by omega)]; exact r1, by rw [f.2 _ (by omega)]; exact r2, by rw [f.2 _ (by omega)]; exact r3, by rw [f.2 _ (by omega)]; exact r4, by rw [f.2 _ (by omega)]; exact r5, by rw [f.2 _ (by omega)]; exact r6, V, by rw [f.2 _ (by omega)]; exact r8⟩
/-- parents and parents of them -/
theorem r_isUp_2 {pa : Nat → Int} (hpa : ∀ e, e < 48 → M.2 41 e = zI (pa e) ∧ -1 ≤ pa e ∧ pa e < 48) {e : Nat} (he : e < 48) : ∀ (k n : Nat) (x : Int), -1 ≤ x → x < 48 → climb pa k x < 0 → k < n → pf_isUp_2 N (pf_isUp_22 N) n (zI (e : Nat)) (zI x) M = some (zB (pCome pa k x e), M)
  | k, 0, x, _, _, _, hn => by omega
  | k, n + 1, x, h1, h2, hc, hn => by
    have e1 : (zI x = zI (-1)) = (x = -1) := zI_eq (by omega) (by omega) (by omega) (by omega)
    have e2 : (zI x = zI (e : Nat)) = (x = (e : Int)) := zI_eq (by omega) (by omega) (by omega) (by omega)
    simp only [pf_isUp_2, pf_isUp_22, nm_i]
    rw [zL_m1]
    by_cases q : x = -1
    · rw [if_pos (e1.mpr q), if_neg (show ¬ zI x = zI (e : Nat) from fun h => by have := e2.mp h; omega)]
      have : pCome pa k x e = false := by
        cases k with
        | zero => rfl
        | succ k => exact if_pos (by omega)
      rw [this]; rfl
    · cases k with
      | zero => have hc : x < 0 := hc; omega
      | succ k =>
        rw [if_neg (show ¬ zI x = zI (-1) from fun h => q (e1.mp h))]
        have hp : pCome pa (k + 1) x e = (if x = (e : Int) then true else pCome pa k (pa x.toNat) e) := if_neg (by omega)
        by_cases q2 : x = (e : Int)
        · rw [if_pos (e2.mpr q2), if_pos (e2.mpr q2), hp, if_pos q2]; rfl
        · obtain ⟨z, rfl⟩ : ∃ z : Nat, x = z := ⟨x.toNat, by omega⟩
          obtain ⟨g1, g2, g3⟩ := hpa z (by omega)
          rw [if_neg (show ¬ zI (z : Nat) = zI (e : Nat) from fun h => q2 (e2.mp h)), hp, if_neg q2, gd_n (by omega) (by omega), zI_cn (by omega), g1]
          rw [climb_s (by omega), Int.toNat_natCast] at hc
          have := r_isUp_2 hpa he k n (pa z) g2 g3 hc (by omega)
          rw [Int.toNat_natCast]
          exact this
theorem r_isUp (hN : 49 ≤ N) (R : rT M T) (W : tW T) {e : Nat} (he : e < 48) {x : Int} (h1 : -1 ≤ x) (h2 : x < 48) : pf_isUp N (zI (e : Nat)) (zI x) M = some (zB (pCome (tPa T) 48 x e), M) :=
  r_isUp_2 (fun f hf => ⟨R.2.2.2.1 f hf, W.2.1 f hf, W.1.1 f hf⟩) he 48 N x h1 h2 (W.1.at h2) (by omega)
/-- values of an ADD -/
theorem r_does_74 (hN : 901 ≤ N) {k : Nat} (hk : k < 250) {cv : List (Nat × Nat)} (hcv : ∀ x ∈ cv, x.1 < 10 ∧ x.2 < 1000) {e f : Nat} (he : e < 48) (hf : f + cv.length ≤ 600) : ∀ (n q i : Nat) (M : mS) (vs : List (Nat × Nat × Nat)), i + q = cv.length → q < n → rSc M H → rVs M vs → (∀ x ∈ vs, vOk x) → vs.length + q ≤ 900 → M.2 33 k = zI ((f + cv.length : Nat) : Int) → (∀ i (h : i < cv.length), M.2 34 (f + i) = zI (cv[i].1 : Nat) ∧ M.2 35 (f + i) = zI (cv[i].2 : Nat)) → ∃ M', pf_does_74 N n (zI (k : Nat)) (zI (e : Nat)) (zI ((f + i : Nat) : Int)) M = some ((0 : Int32), M') ∧ rVs M' ((cv.drop i).foldl (fun vs x => vTake H vs e x.1 x.2) vs) ∧ rfV M M'
  | 0, q, i, M, vs, _, hq, _, _, _, _, _, _ => by omega
  | n + 1, q, i, M, vs, hiq, hq, S, R, hv, hl, h33, h34 => by
    simp only [pf_does_74, nm_i]
    rw [gd_n hk (by omega), zI_cn (by omega), h33, il_le (by omega) (by omega) (by omega) (by omega)]
    cases q with
    | zero =>
      rw [if_pos (by omega), List.drop_eq_nil_of_le (by omega)]
      exact ⟨M, rfl, R, rfV.rf⟩
    | succ q =>
      have hi : i < cv.length := by omega
      obtain ⟨c1, c2⟩ := hcv _ (List.getElem_mem hi)
      obtain ⟨a1, a2⟩ := h34 i hi
      rw [if_neg (by omega)]
      simp only [gd_n (show f + i < 600 by omega) (show (600 : Nat) < 2147483648 by omega), zI_cn (show f + i < 2147483648 by omega)]
      rw [a1, a2]
      obtain ⟨M1, e1, R1, f1⟩ := r_takesValue (N := N) hN S.2.2.1 S.2.2.2.1 R hv (by omega) he c1 c2
      have hlen := vTake_len (H := H) (vs := vs) (e := e) (a := cv[i].1) (v := cv[i].2)
      obtain ⟨M2, e2, R2, f2⟩ := r_does_74 hN hk hcv he hf n q (i + 1) M1 _ (by omega) (by omega) (rSc_fr f1.t S) R1 (vTake_ok hv ⟨he, c1, c2⟩) (by omega) (by rw [f1.2 33 (by omega)]; exact h33) (by rw [f1.2 34 (by omega), f1.2 35 (by omega)]; exact h34)
      rw [e1, bd_i, zL_1, zI_add, show ((f + i : Nat) : Int) + 1 = ((f + (i + 1) : Nat) : Int) by omega]
      refine ⟨M2, e2, ?_, f1.trans f2⟩
      rw [List.drop_eq_getElem_cons hi, List.foldl_cons]
      exact R2
theorem r_does (hN : 901 ≤ N) (S : rSc M H) (R : rT M T) (W : tW T) {k p : Nat} {c : sCh} (C : rCh M k c) (hc : cOk c) (hk : k < 250) (hlen : (tVs T).length + cWt c ≤ 900) : ∃ M', pf_does N (zI (k : Nat)) (zI (p : Nat)) M = some ((0 : Int32), M') ∧ rT M' (tTake H T c) ∧ M'.2 44 = (if cK c = 0 then upd (M.2 44) (cE c) (zI (p : Nat)) else M.2 44) ∧ rfT M M' := by
  obtain ⟨c26, c27, c23, c24, c25, cadd, cval, cone, crul⟩ := id C
  obtain ⟨ck, ce, cm, cn, cs, oadd, oval, oname, olink, orul, omove, odel⟩ := id hc
  have hv := tW_v W
  have nar : vp_nar .boolean (1 : Int32) = zB true := zB_nar true
  simp only [pf_does, pf_does_354, nm_i, sv_i]
  simp only [gd_n hk (show (250 : Nat) < 2147483648 by omega), zI_cn (show k < 2147483648 by omega), c27, gd_n ce (show (48 : Nat) < 2147483648 by omega), zI_cn (show cE c < 2147483648 by omega), nar]
  rw [c26]
  unfold tTake
  by_cases k0 : cK c = 0
  · obtain ⟨a1, a2, a3, a4, a5, a6, a7, a8, a9⟩ := oadd k0
    obtain ⟨b1, b2, b3, f, b4, b5, b6, b7⟩ := cadd k0
    rw [if_pos (show zI (cK c : Nat) = 0 by rw [k0]; rfl), if_pos k0, if_pos k0]
    have R1 := rT_th R (e := cE c)
    have R2 := rT_bn R1 (e := cE c) (r := cR c) (v := zI (p : Nat))
    generalize hMb : mA (mA M 38 (cE c) (zB true)) 44 (cE c) (zI (p : Nat)) = Mb at R2 ⊢
    have fb : rfT M Mb := by rw [← hMb]; exact (rf_mA (by omega) (by omega) (by omega) (by omega)).trans (rf_mA (by omega) (by omega) (by omega) (by omega))
    have h44 : Mb.2 44 = upd (M.2 44) (cE c) (zI (p : Nat)) := by rw [← hMb, mA_s, mA_o _ _ _ (by omega)]
    rw [fb.2 28 (by omega), b1]
    have R3 := rT_kl R2 (e := cE c) (v := cX c)
    generalize hMc : mA Mb 40 (cE c) (zI (cX c)) = Mc at R3 ⊢
    have fc : rfT M Mc := by rw [← hMc]; exact fb.trans (rf_mA (by omega) (by omega) (by omega) (by omega))
    have h44c : Mc.2 44 = upd (M.2 44) (cE c) (zI (p : Nat)) := by rw [← hMc, mA_o _ _ _ (by omega)]; exact h44
    rw [fc.2 29 (by omega), b2]
    have R4 := rT_pa R3 (e := cE c) (v := cY c)
    generalize hMd : mA Mc 41 (cE c) (zI (cY c)) = Md at R4 ⊢
    have fd : rfT M Md := by rw [← hMd]; exact fc.trans (rf_mA (by omega) (by omega) (by omega) (by omega))
    have h44d : Md.2 44 = upd (M.2 44) (cE c) (zI (p : Nat)) := by rw [← hMd, mA_o _ _ _ (by omega)]; exact h44c
    rw [fd.2 30 (by omega), b3]
    have R5 := rT_nm R4 (e := cE c) (v := cW c)
    generalize hMe : mA Md 42 (cE c) (zI (cW c)) = Me at R5 ⊢
    have fe : rfT M Me := by rw [← hMe]; exact fd.trans (rf_mA (by omega) (by omega) (by omega) (by omega))
    have h44e : Me.2 44 = upd (M.2 44) (cE c) (zI (p : Nat)) := by rw [← hMe, mA_o _ _ _ (by omega)]; exact h44d
    rw [fe.2 32 (by omega), b4]
    have hw : cWt c = (cV c).length := by unfold cWt; rw [if_pos k0]
    have V5 : rVs Me (tVs T) := by
      have q := R5.2.2.2.2.2.2.1
      exact q
    obtain ⟨M', e1, V', f'⟩ := r_does_74 (N := N) (H := H) hN hk (cv := cV c) a8 (e := cE c) (f := f) ce b6 N (cV c).length 0 Me (tVs T) (by omega) (by omega) (rSc_fr fe S) V5 hv (by omega) (by rw [fe.2 33 (by omega)]; exact b5) (by rw [fe.2 34 (by omega), fe.2 35 (by omega)]; exact b7)
    refine ⟨M', e1, ?_, by rw [f'.2 44 (by omega)]; exact h44e, fe.trans f'.t⟩
    rw [List.drop_zero] at V'
    have q := rT_vs R5 f' V'
    exact q
  · have z : ∀ j : Nat, j ≤ 8 → ((zI (cK c : Nat) = zI (j : Int)) ↔ cK c = j) := fun j hj => by
      rw [zI_eq (by omega) (by omega) (by omega) (by omega)]; omega
    rw [if_neg (show ¬ zI (cK c : Nat) = 0 from fun h => k0 ((z 0 (by omega)).mp h)), if_neg k0, if_neg k0]
    by_cases k1 : cK c = 1
    · obtain ⟨a1, a2, a3, a4⟩ := oval (by omega) (by omega)
      obtain ⟨b1, b2⟩ := cval (by omega) (by omega)
      have hw : cWt c = 1 := by unfold cWt; rw [if_neg k0, if_pos (Or.inl k1)]
      rw [if_pos (show zI (cK c : Nat) = 1 from (z 1 (by omega)).mpr k1), if_pos k1, b1, b2]
      obtain ⟨M', e1, V', f'⟩ := r_takesValue (N := N) hN S.2.2.1 S.2.2.2.1 R.2.2.2.2.2.2.1 hv (by omega) (e := cE c) (a := (cX c).toNat) (v := (cY c).toNat) ce (by omega) (by omega)
      rw [Int.toNat_of_nonneg a1, Int.toNat_of_nonneg a3] at e1
      exact ⟨M', by rw [e1]; rfl, rT_vs R f' V', f'.2 44 (by omega), f'.t⟩
    · rw [if_neg (show ¬ zI (cK c : Nat) = 1 from fun h => k1 ((z 1 (by omega)).mp h)), if_neg k1]
      by_cases k2 : cK c = 2
      · obtain ⟨a1, a2, a3, a4⟩ := oval (by omega) (by omega)
        obtain ⟨b1, b2⟩ := cval (by omega) (by omega)
        rw [if_pos (show zI (cK c : Nat) = 2 from (z 2 (by omega)).mpr k2), if_pos k2, b1, b2]
        obtain ⟨M', e1, V', f'⟩ := r_drops (N := N) (H := H) hN S.2.2.2.1 R.2.2.2.2.2.2.1 hv (e := cE c) (a := (cX c).toNat) (v := (cY c).toNat) (all := false) ce (by omega) (by omega)
        rw [Int.toNat_of_nonneg a1, Int.toNat_of_nonneg a3] at e1
        have e1 : pf_drops N (zI (cE c : Nat)) (zI (cX c)) (0 : Int32) (zI (cY c)) M = some ((0 : Int32), M') := e1
        exact ⟨M', by rw [e1]; rfl, rT_vs R f' V', f'.2 44 (by omega), f'.t⟩
      · rw [if_neg (show ¬ zI (cK c : Nat) = 2 from fun h => k2 ((z 2 (by omega)).mp h)), if_neg k2]
        by_cases k3 : cK c = 3
        · obtain ⟨a1, a2, a3, a4⟩ := oval (by omega) (by omega)
          obtain ⟨b1, b2⟩ := cval (by omega) (by omega)
          have hw : cWt c = 1 := by unfold cWt; rw [if_neg k0, if_pos (Or.inr k3)]
          rw [if_pos (show zI (cK c : Nat) = 3 from (z 3 (by omega)).mpr k3), if_pos k3, b1, b2]
          obtain ⟨M', e1, V', f'⟩ := r_drops (N := N) (H := H) hN S.2.2.2.1 R.2.2.2.2.2.2.1 hv (e := cE c) (a := (cX c).toNat) (v := (cY c).toNat) (all := true) ce (by omega) (by omega)
          obtain ⟨M2, e2, V2, f2⟩ := r_comes (N := N) V' (Nat.lt_of_le_of_lt vDrop_len (by omega)) (e := cE c) (a := (cX c).toNat) (v := (cY c).toNat)
          rw [Int.toNat_of_nonneg a1, Int.toNat_of_nonneg a3] at e1 e2
          have e1 : pf_drops N (zI (cE c : Nat)) (zI (cX c)) (1 : Int32) (zI (cY c)) M = some ((0 : Int32), M') := e1
          refine ⟨M2, ?_, rT_vs R (f'.trans f2) V2, by rw [f2.2 44 (by omega)]; exact f'.2 44 (by omega), (f'.trans f2).t⟩
          rw [e1, bd_i, f'.2 28 (by omega), f'.2 29 (by omega), b1, b2, e2]; rfl
        · rw [if_neg (show ¬ zI (cK c : Nat) = 3 from fun h => k3 ((z 3 (by omega)).mp h)), if_neg k3]
          by_cases k4 : cK c = 4
          · rw [if_pos (show zI (cK c : Nat) = 4 from (z 4 (by omega)).mpr k4), if_pos k4, cone (Or.inl k4)]
            exact ⟨_, rfl, rT_nm R, mA_o _ _ _ (by omega), rf_mA (by omega) (by omega) (by omega) (by omega)⟩
          · rw [if_neg (show ¬ zI (cK c : Nat) = 4 from fun h => k4 ((z 4 (by omega)).mp h)), if_neg k4]
            by_cases k5 : cK c = 5
            · rw [if_pos (show zI (cK c : Nat) = 5 from (z 5 (by omega)).mpr k5), if_pos k5, cone (Or.inr (Or.inl k5))]
              exact ⟨_, rfl, rT_lk R, mA_o _ _ _ (by omega), rf_mA (by omega) (by omega) (by omega) (by omega)⟩
            · rw [if_neg (show ¬ zI (cK c : Nat) = 5 from fun h => k5 ((z 5 (by omega)).mp h)), if_neg k5]
              by_cases k6 : cK c = 6
              · obtain ⟨a1, a2, a3, a4⟩ := orul k6
                obtain ⟨b1, b2⟩ := crul k6
                rw [if_pos (show zI (cK c : Nat) = 6 from (z 6 (by omega)).mpr k6), if_pos k6, b1, b2, zL_330, zI_mul, zI_add, show (330 : Int) * (cE c : Int) + cX c = ((330 * cE c + (cX c).toNat : Nat) : Int) by omega, gd_n (by omega) (by omega), zI_cn (by omega)]
                have q := rT_sy R (e := cE c) (x := (cX c).toNat) (y := (cY c).toNat) (by omega)
                rw [Int.toNat_of_nonneg a3] at q
                exact ⟨_, rfl, q, mA_o _ _ _ (by omega), rf_mA (by omega) (by omega) (by omega) (by omega)⟩
              · rw [if_neg (show ¬ zI (cK c : Nat) = 6 from fun h => k6 ((z 6 (by omega)).mp h)), if_neg k6]
                by_cases k7 : cK c = 7
                · obtain ⟨a1, a2⟩ := omove k7
                  rw [if_pos (show zI (cK c : Nat) = 7 from (z 7 (by omega)).mpr k7), if_pos k7, cone (Or.inr (Or.inr k7)), r_isUp (by omega) R W ce (by omega) a2, bd_i, il_B]
                  cases hcm : pCome (tPa T) 48 (cX c) (cE c) with
                  | false =>
                    rw [if_neg (by decide), if_neg (by decide), cone (Or.inr (Or.inr k7))]
                    exact ⟨_, rfl, rT_pa R, mA_o _ _ _ (by omega), rf_mA (by omega) (by omega) (by omega) (by omega)⟩
                  | true =>
                    rw [if_pos rfl, if_pos rfl, R.2.2.2.1 _ ce]
                    have q := rT_pa R (e := cE c) (v := tPa T (cE c))
                    have eu : upf (tPa T) (cE c) (tPa T (cE c)) = tPa T := by
                      funext j
                      by_cases g : j = cE c
                      · rw [g, upf_s]
                      · rw [upf_o _ _ g]
                    rw [eu] at q
                    exact ⟨_, rfl, q, mA_o _ _ _ (by omega), rf_mA (by omega) (by omega) (by omega) (by omega)⟩
                · rw [if_neg (show ¬ zI (cK c : Nat) = 7 from fun h => k7 ((z 7 (by omega)).mp h)), if_neg k7]
                  exact ⟨_, rfl, rT_dd R, mA_o _ _ _ (by omega), rf_mA (by omega) (by omega) (by omega) (by omega)⟩
end RD
