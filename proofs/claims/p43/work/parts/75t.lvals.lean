-- LEVEL 2, THE LAW: VALUES THAT ARE ADDED, REMOVED, REPLACED
section LQ4
variable {N m : Nat} {S : kS} {L : lS} {W : sW} {z : Int32}
theorem cP_part {α : Type} {p g : α → Bool} : ∀ l : List α, l.countP p = l.countP (fun x => p x && g x) + l.countP (fun x => p x && !g x)
  | [] => rfl
  | x :: l => by
    rw [List.countP_cons, List.countP_cons, List.countP_cons, cP_part (p := p) (g := g) l]
    cases p x <;> cases g x <;> simp <;> omega
theorem cnt_drop {H : sH} {T : sT} {e a v : Nat} {all : Bool} : (vDrop H (tVs T) e a all v).countP (fun x => decide (x.1 = e) && decide (x.2.1 = a)) + (tVs T).countP (vGoes H e a all v) = tCnt T e a := by
  have h1 := cP_part (p := fun x : Nat × Nat × Nat => decide (x.1 = e) && decide (x.2.1 = a)) (g := vGoes H e a all v) (tVs T)
  unfold tCnt
  rw [h1]
  unfold vDrop
  rw [List.countP_filter]
  have h2 : (tVs T).countP (fun x => (decide (x.1 = e) && decide (x.2.1 = a)) && vGoes H e a all v x) = (tVs T).countP (vGoes H e a all v) := List.countP_congr (fun x _ => by
    unfold vGoes
    cases decide (x.1 = e) <;> cases decide (x.2.1 = a) <;> simp)
  rw [h2]
  omega
theorem tVs_k1 {H : sH} {T : sT} {c : sCh} (k : cK c = 1) : tVs (tTake H T c) = vTake H (tVs T) (cE c) (cX c).toNat (cY c).toNat := by
  unfold tTake
  rw [if_neg (show ¬ cK c = 0 by omega), if_pos k]
  rfl
theorem tVs_k2 {H : sH} {T : sT} {c : sCh} (k : cK c = 2) : tVs (tTake H T c) = vDrop H (tVs T) (cE c) (cX c).toNat false (cY c).toNat := by
  unfold tTake
  rw [if_neg (show ¬ cK c = 0 by omega), if_neg (show ¬ cK c = 1 by omega), if_pos k]
  rfl
theorem cnt_add (h : wOk W) (hm : m < 4) (hn : wN W < 250) {e a v : Nat} (he : e < 48) (ha : a < hA (wH W)) (hv : v < 1000) (hl : tLv (wTr W m) (e : Nat) = true) (hc : cAv W m e a v = true) : tCnt (wTr (wNx W m (wCh W m 1 e (a : Int) (v : Int))) m) e a = tCnt (wTr W m) e a + 1 := by
  have c0 := mk_val h hm hn (kk := 1) (by omega) (by omega) he ha hv hl
  rw [wTr_nx h hm c0]
  have et : tVs (tTake (wH W) (wTr W m) (wCh W m 1 e (a : Int) (v : Int))) = vTake (wH W) (tVs (wTr W m)) e a v := tVs_k1 (c := wCh W m 1 e (a : Int) (v : Int)) rfl
  have h2 := cnt_drop (H := wH W) (T := wTr W m) (e := e) (a := a) (v := v) (all := hSg (wH W) a)
  unfold tCnt at h2 ⊢
  rw [et]
  unfold vTake
  rw [List.countP_append]
  unfold cAv at hc
  rw [Bool.and_eq_true, Bool.and_eq_true, Bool.and_eq_true, decide_eq_true_eq, Bool.or_eq_true, decide_eq_true_eq, Bool.not_eq_true'] at hc
  obtain ⟨-, -, c1, c2⟩ := hc
  have h3 : (tVs (wTr W m)).countP (vGoes (wH W) e a (hSg (wH W) a) v) = 0 := by
    rcases c2 with c2 | c2
    · rw [c2]; exact c1
    · have : (tVs (wTr W m)).countP (vGoes (wH W) e a (hSg (wH W) a) v) ≤ tCnt (wTr W m) e a := List.countP_mono_left (fun x _ q => by
        unfold vGoes at q
        rw [Bool.and_eq_true, Bool.and_eq_true] at q
        rw [q.1, q.2.1]; rfl)
      omega
  have h4 : [(e, a, v)].countP (fun x => decide (x.1 = e) && decide (x.2.1 = a)) = 1 := by simp
  rw [h4]
  omega
theorem cnt_rem (h : wOk W) (hm : m < 4) (hn : wN W < 250) {e a v : Nat} (he : e < 48) (ha : a < hA (wH W)) (hv : v < 1000) (hl : tLv (wTr W m) (e : Nat) = true) (hc : cRv W m e a v = true) : tCnt (wTr (wNx W m (wCh W m 2 e (a : Int) (v : Int))) m) e a + 1 = tCnt (wTr W m) e a := by
  have c0 := mk_val h hm hn (kk := 2) (by omega) (by omega) he ha hv hl
  rw [wTr_nx h hm c0]
  have et : tVs (tTake (wH W) (wTr W m) (wCh W m 2 e (a : Int) (v : Int))) = vDrop (wH W) (tVs (wTr W m)) e a false v := tVs_k2 (c := wCh W m 2 e (a : Int) (v : Int)) rfl
  have h2 := cnt_drop (H := wH W) (T := wTr W m) (e := e) (a := a) (v := v) (all := false)
  have h1 := tMt_1 (W := W) (m := m) (e := e) (a := a) (v := v)
  unfold cRv at hc
  rw [Bool.and_eq_true, Bool.and_eq_true, decide_eq_true_eq] at hc
  have c1 := hc.2.1
  have c1 : 0 < (tVs (wTr W m)).countP (vGoes (wH W) e a false v) := c1
  have h1 : (tVs (wTr W m)).countP (vGoes (wH W) e a false v) ≤ 1 := h1
  have : tCnt (tTake (wH W) (wTr W m) (wCh W m 2 e (a : Int) (v : Int))) e a = (vDrop (wH W) (tVs (wTr W m)) e a false v).countP (fun x => decide (x.1 = e) && decide (x.2.1 = a)) := by
    unfold tCnt
    rw [et]
  omega
/-- whether a call that changes values can be done -/
def cVb (W : sW) (m kk e a v : Nat) : Bool := if kk = 1 then cAv W m e a v else if kk = 2 then cRv W m e a v else cRp W m e a
theorem lq_values_106 (hN : 1000 ≤ N) (h : lOk W) (K : kRel S W) (R : lRel L W) (hm : m < 4) (Q : lTr L (wTr W m)) {kk e a v C D : Nat} (hk : 1 ≤ kk ∧ kk ≤ 3) (he : e < wE W) (ha : a < 3) {w : Int64} (hw : (lg_cmp w (0 : Int64) = 0) ↔ tMt (wH W) (wTr W m) e a v = 0) : pL_values_106 N (zB (ib (hAll (wH W) (tKl (wTr W m) e)) a)) (zI (m : Nat)) (zI (kk : Nat)) (zI (e : Nat)) (zI (a : Nat)) (zI (v : Nat)) (zI ((3 * e + a : Nat) : Int)) (zI (tKl (wTr W m) e)) w S L C D = pL_values_237 N (zB (cVb W m kk e a v)) (zI (m : Nat)) (zI (kk : Nat)) (zI (e : Nat)) (zI (a : Nat)) (zI (v : Nat)) (zI ((3 * e + a : Nat) : Int)) S L C D := by
  have hE := h.2.2.1
  have hT := lTo_w h hm
  have hkl := hT.2.2.1 e (by omega)
  have hkl2 := (hT.1.2.2.2.1 e (by omega)).1
  have hnd := tVs_nd h.1 K hm
  have ek := R.2.2.2.1.1 a ha
  have hlt := lKd_lt (H := wH W) (a := a)
  have hsg := lKd_sg (H := wH W) (a := a)
  have hcl := wTr_len h.1 (m := m)
  have hcn : tCnt (wTr W m) e a ≤ 900 := Nat.le_trans tCnt_le hcl
  simp only [pL_values_106]
  rw [g4p hm, lq_mayU hN h R hm Q (by omega), il_B]
  unfold cVb cAv cRv cRp
  have hT1 : ∀ b : Bool, b = true → (1 : Int32) = zB b := fun b g => by rw [g]; rfl
  by_cases g1 : tMay (wH W) (wTr W m) (wU W m) (e : Nat) 1 = true
  · rw [if_pos g1, g1]
    rcases (show kk = 1 ∨ kk = 2 ∨ kk = 3 by omega) with rfl | rfl | rfl
    · rw [if_pos (show zI ((1 : Nat) : Int) = (1 : Int32) from rfl), if_pos rfl, il_B, Bool.true_and]
      cases g2 : ib (hAll (wH W) (tKl (wTr W m) e)) a with
      | false => rw [if_neg (by decide), Bool.false_and]; rfl
      | true =>
        rw [if_pos rfl, Bool.true_and]
        by_cases g3 : tMt (wH W) (wTr W m) e a v = 0
        · rw [if_pos (hw.mpr g3), decide_eq_true g3, Bool.true_and, z13, gd_c (by omega) (by omega), zI_cn (by omega), ek, show (2 : Int32) = zI ((2 : Nat) : Int) from rfl, z_mod (by omega) (by omega) (by omega), hsg]
          cases hs : hSg (wH W) a with
          | false => rw [if_pos (show zI ((if false = true then 1 else 0 : Nat) : Int) = 0 by decide), Bool.not_false, Bool.true_or]; rfl
          | true =>
            rw [if_neg (show ¬ zI ((if true = true then 1 else 0 : Nat) : Int) = 0 by decide), gd_c (by omega) (by omega), zI_cn (by omega), Bool.not_true, Bool.false_or]
            have hz := emp_iff hnd hT Q (show e < 12 by omega) ha
            by_cases g4 : tCnt (wTr W m) e a = 0
            · rw [if_pos (hz.mpr g4), decide_eq_true g4]; rfl
            · rw [if_neg (fun q => g4 (hz.mp q)), decide_eq_false g4]; rfl
        · rw [if_neg (fun q => g3 (hw.mp q)), decide_eq_false g3, Bool.false_and]; rfl
    · rw [if_neg (show ¬ zI ((2 : Nat) : Int) = (1 : Int32) by decide), if_pos (show zI ((2 : Nat) : Int) = (2 : Int32) from rfl), if_neg (show ¬ (2 : Nat) = 1 by omega), if_pos (show (2 : Nat) = 2 from rfl), Bool.true_and]
      by_cases g3 : tMt (wH W) (wTr W m) e a v = 0
      · rw [if_pos (hw.mpr g3), decide_eq_false (by omega), Bool.false_and]; rfl
      · rw [if_neg (fun q => g3 (hw.mp q)), decide_eq_true (by omega), Bool.true_and, lq_requires R.2.2.2.1 h.2.1.2 h.1.1 hkl2 hkl, lba_i]
        cases g4 : ib (hReq (wH W) (tKl (wTr W m) e)) a with
        | false =>
          rw [if_pos (by rw [ib_test0 (by omega)]; exact g4), Bool.not_false, Bool.true_or]; rfl
        | true =>
          rw [if_neg (by rw [ib_test0 (by omega), g4]; decide), gd_c (by omega) (by omega), zI_cn (by omega), lq_cnt hN hnd hT Q (by omega) ha, lba_i, zL_1, il_le (by omega) (by omega) (by omega) (by omega), ← zL_1, Bool.not_true, Bool.false_or]
          by_cases g5 : 2 ≤ tCnt (wTr W m) e a
          · rw [if_neg (by omega), decide_eq_true g5]; rfl
          · rw [if_pos (by omega), decide_eq_false g5]; rfl
    · rw [if_neg (show ¬ zI ((3 : Nat) : Int) = (1 : Int32) by decide), if_neg (show ¬ zI ((3 : Nat) : Int) = (2 : Int32) by decide), if_neg (show ¬ (3 : Nat) = 1 by omega), if_neg (show ¬ (3 : Nat) = 2 by omega), il_B, Bool.true_and]
      cases g2 : ib (hAll (wH W) (tKl (wTr W m) e)) a with
      | false => rw [if_neg (by decide)]; rfl
      | true => rw [if_pos rfl]; rfl
  · rw [if_neg g1, Bool.eq_false_iff.mpr g1, Bool.false_and, Bool.false_and, Bool.false_and]
    have : (if kk = 1 then false else if kk = 2 then false else false) = false := by
      split
      · rfl
      · split <;> rfl
    rw [this]; rfl
theorem lq_values_237 (hN : 20000 ≤ N) (h : lOk W) (K : kRel S W) (R : lRel L W) (hm : m < 4) (Q : lTr L (wTr W m)) (hn : wN W < 40) {kk e a v : Nat} (hk : 1 ≤ kk ∧ kk ≤ 3) (he : e < wE W) (ha : a < 3) (hv : v < 60) : lGo (pL_values_237 N (zB (cVb W m kk e a v)) (zI (m : Nat)) (zI (kk : Nat)) (zI (e : Nat)) (zI (a : Nat)) (zI (v : Nat)) (zI ((3 * e + a : Nat) : Int)) S L 0 0) := by
  have hE := h.2.2.1
  have hA3 := h.2.1.1
  have hT := lTo_w h hm
  have hnd := tVs_nd h.1 K hm
  have hcl := wTr_len h.1 (m := m)
  have hcn : tCnt (wTr W m) e a ≤ 900 := Nat.le_trans tCnt_le hcl
  simp only [pL_values_237, pL_values_314, pL_values_349]
  simp only [if_true, show ((-9 : Int32) < 0) = True from eq_true (by decide), show ((-7 : Int32) < 0) = True from eq_true (by decide)]
  by_cases g0 : e = 0
  · have kn := fun q => k_noV (N := N) (S := S) (by omega) h.1 K hm (show e < 48 by omega) (show a < hA (wH W) by omega) (show v < 1000 by omega) (show wN W < 250 by omega) (fun r : 1 ≤ e ∧ tLv (wTr W m) (e : Nat) = true => (q : ¬ 1 ≤ e) r.1)
    have kn := kn (by omega)
    rw [if_pos (by rw [g0]; rfl)]
    exact lGo_tail (lc_v hk (fun _ => ans_1 kn.1) (fun _ => ans_1 kn.2.1) (fun _ => ans_1 kn.2.2)) rfl h R
  · rw [if_neg (show ¬ zI (e : Nat) = (0 : Int32) from nk g0 (by omega) (j := 0) (by omega)), g36 (by omega), cn36 (by omega)]
    by_cases gl : tLv (wTr W m) (e : Nat) = true
    · have te := tLv_th (show e < 48 by omega) gl
      rw [if_pos ((lv_9 Q (by omega)).mpr gl), il_B]
      have k1 := k_addValue (N := N) hN h.1 K hm (show 1 ≤ e by omega) gl (show a < hA (wH W) by omega) (show v < 1000 by omega) (show wN W < 250 by omega)
      have k2 := k_removeValue (N := N) hN h.1 K hm (show 1 ≤ e by omega) gl (show a < hA (wH W) by omega) (show v < 1000 by omega) (show wN W < 250 by omega)
      have k3 := k_replace (N := N) hN h.1 K hm (show 1 ≤ e by omega) gl (show a < hA (wH W) by omega) (show v < 1000 by omega) (show wN W < 250 by omega)
      by_cases g1 : cVb W m kk e a v = true
      · have c0 := mk_val h.1 hm (show wN W < 250 by omega) hk.1 hk.2 (show e < 48 by omega) (show a < hA (wH W) by omega) (show v < 1000 by omega) gl
        obtain ⟨L', p1, p2, -⟩ := lq_makes (N := N) (by omega) h R hm hn c0 (xa := zI (a : Nat)) (xb := zI (v : Nat)) (w := 0) (fun _ => by
          have : lA (wCh W m kk e (a : Int) (v : Int)) = (a : Int) := by
            unfold lA
            rw [if_neg (show ¬ cK (wCh W m kk e (a : Int) (v : Int)) = 0 by show ¬ kk = 0; omega), if_neg (show ¬ cK (wCh W m kk e (a : Int) (v : Int)) = 6 by show ¬ kk = 6; omega)]
            rfl
          rw [this]) (fun _ => rfl) (fun g => by have g : kk = 0 := g; omega)
        have p1 : pL_makes N (zI (m : Nat)) (zI (kk : Nat)) (zI (e : Nat)) (zI (a : Nat)) (zI (v : Nat)) (0 : Int64) L = _ := p1
        have hl9 : lcOk (wCh W m kk e (a : Int) (v : Int)) := ⟨by show e < 12; omega, fun g => by have g : kk = 0 := g; omega, fun _ _ => ⟨by show (a : Int) < 3; omega, by show (v : Int) < 60; omega⟩, fun g => by have g : kk = 4 := g; omega, fun g => by have g : kk = 5 := g; omega, fun g => by have g : kk = 6 := g; omega, fun g => by have g : kk = 7 := g; omega⟩
        have fin : ∀ (r : Int), 0 ≤ r → r < 2000 → kAns (if kk = 1 then pX9_addValue N (zI (m : Nat)) (zI (e : Nat)) (zI (a : Nat)) (zI (v : Nat)) S else if kk = 2 then pX9_removeValue N (zI (m : Nat)) (zI (e : Nat)) (zI (a : Nat)) (zI (v : Nat)) S else pX9_replace N (zI (m : Nat)) (zI (e : Nat)) (zI (a : Nat)) (zI (v : Nat)) S) r (wNx W m (wCh W m kk e (a : Int) (v : Int))) → lGo (if zI r < (0 : Int32) then lbb 11 435 11 435 0 0 (pL_calls N (zI (kk : Nat)) (zI (m : Nat)) (zI (e : Nat)) (zI (a : Nat)) (zI (v : Nat)) S L) (fun v101 S102 L103 C104 D105 => if v101 = zI r then zlB 11 435 C104 D105 (1 : Int32) S102 L103 else zlB 11 435 C104 D105 (0 : Int32) S102 L103) else lba (pL_makes N (zI (m : Nat)) (zI (kk : Nat)) (zI (e : Nat)) (zI (a : Nat)) (zI (v : Nat)) (0 : Int64) L) fun v101 L102 => lbb 11 435 11 435 0 0 (pL_calls N (zI (kk : Nat)) (zI (m : Nat)) (zI (e : Nat)) (zI (a : Nat)) (zI (v : Nat)) S L102) (fun v101 S102 L103 C104 D105 => if v101 = zI r then zlB 11 435 C104 D105 (1 : Int32) S102 L103 else zlB 11 435 C104 D105 (0 : Int32) S102 L103)) := fun r h1 h2 hk9 => by
          obtain ⟨S', q1, q2, q3⟩ := id hk9
          rw [if_neg (by rw [zL_0, zI_lt (by omega) (by omega) (by omega) (by omega)]; omega), p1, lba_i]
          refine lGo_tail (lc_v hk (fun g => ?_) (fun g => ?_) (fun g => ?_)) rfl (lOk_nx h hm hn q2 c0 hl9 ⟨by show kk ≠ 0; omega, te⟩) p2
          · rw [if_pos g] at hk9; exact hk9
          · rw [if_neg (by omega), if_pos g] at hk9; exact hk9
          · rw [if_neg (by omega), if_neg (by omega)] at hk9; exact hk9
        rw [if_pos g1]
        unfold cVb at g1
        have gb : gd (zI ((3 * e + a : Nat) : Int)) 36 = fun (K : Option (Int32 × kS × lS)) => K := by
          funext K
          exact gd_c (by omega) (by omega)
        rw [gb, zI_cn (by omega), lq_cnt (by omega) hnd hT Q (by omega) ha, lba_i]
        simp only [lba_i]
        rcases (show kk = 1 ∨ kk = 2 ∨ kk = 3 by omega) with rfl | rfl | rfl
        · rw [if_pos rfl] at g1
          rw [if_pos g1, cnt_add h.1 hm (by omega) (by omega) (by omega) (by omega) gl g1] at k1
          rw [if_neg (show ¬ zI ((1 : Nat) : Int) = (3 : Int32) by decide), if_pos (show zI ((1 : Nat) : Int) = (1 : Int32) from rfl), zs1]
          exact fin _ (by omega) (by omega) (by rw [if_pos rfl]; exact ans_ok k1)
        · rw [if_neg (by omega), if_pos rfl] at g1
          have hr := cnt_rem h.1 hm (by omega) (show e < 48 by omega) (by omega) (by omega) gl g1
          rw [if_pos g1] at k2
          rw [if_neg (show ¬ zI ((2 : Nat) : Int) = (3 : Int32) by decide), if_neg (show ¬ zI ((2 : Nat) : Int) = (1 : Int32) by decide), zL_1, zI_sub, show ((tCnt (wTr W m) e a : Nat) : Int) - 1 = (tCnt (wTr (wNx W m (wCh W m 2 e (a : Int) (v : Int))) m) e a : Nat) by omega]
          exact fin _ (by omega) (by omega) (by rw [if_neg (by omega), if_pos rfl]; exact ans_ok k2)
        · rw [if_neg (by omega), if_neg (by omega)] at g1
          rw [if_pos g1] at k3
          rw [if_pos (show zI ((3 : Nat) : Int) = (3 : Int32) from rfl)]
          exact fin _ (by omega) (by omega) (by rw [if_neg (by omega), if_neg (by omega)]; exact ans_ok k3)
      · rw [if_neg g1]
        unfold cVb at g1
        refine lGo_tail (r := -7) (lc_v hk (fun g => ?_) (fun g => ?_) (fun g => ?_)) rfl h R
        · rw [if_pos g] at g1
          rw [if_neg g1] at k1
          exact ans_3 k1
        · rw [if_neg (by omega), if_pos g] at g1
          rw [if_neg g1] at k2
          exact ans_3 k2
        · rw [if_neg (by omega), if_neg (by omega)] at g1
          rw [if_neg g1] at k3
          exact ans_3 k3
    · have kn := k_noV (N := N) (S := S) (by omega) h.1 K hm (show e < 48 by omega) (show a < hA (wH W) by omega) (show v < 1000 by omega) (show wN W < 250 by omega) (fun r : 1 ≤ e ∧ tLv (wTr W m) (e : Nat) = true => gl r.2)
      rw [if_neg (fun q => gl ((lv_9 Q (by omega)).mp q))]
      exact lGo_tail (lc_v hk (fun _ => ans_1 kn.1) (fun _ => ans_1 kn.2.1) (fun _ => ans_1 kn.2.2)) rfl h R
theorem lq_values (hN : 20000 ≤ N) (h : lOk W) (K : kRel S W) (R : lRel L W) (hm : m < 4) (Q : lTr L (wTr W m)) (hn : wN W < 40) {kk : Nat} (hk : 1 ≤ kk ∧ kk ≤ 3) : lGo (pL_values N (zI (m : Nat)) (zI (kk : Nat)) z S L) := by
  have hE := h.2.2.1
  have hE1 := h.1.2.2.2.2.2.2.1.1
  have hT := lTo_w h hm
  obtain ⟨e, he, l1⟩ := q_low (N := N) (L := L) (x := z) (n := wE W) (by omega) (by omega)
  obtain ⟨a, ha, l2⟩ := q_low (N := N) (L := L) (x := z >>> ((4 : Int32) &&& 31)) (n := 3) (by omega) (by omega)
  obtain ⟨b, hb, l3⟩ := q_low (N := N) (L := L) (x := z >>> ((11 : Int32) &&& 31)) (n := 2) (by omega) (by omega)
  have l3 : pL_low N (z >>> ((11 : Int32) &&& 31)) (2 : Int32) L = _ := l3
  obtain ⟨v1, hv1, l4⟩ := q_low (N := N) (L := L) (x := z >>> ((6 : Int32) &&& 31)) (n := 60) (by omega) (by omega)
  have l4 : pL_low N (z >>> ((6 : Int32) &&& 31)) (60 : Int32) L = _ := l4
  obtain ⟨v2, hv2, l5⟩ := q_low (N := N) (L := L) (x := z >>> ((6 : Int32) &&& 31)) (n := 5) (by omega) (by omega)
  have l5 : pL_low N (z >>> ((6 : Int32) &&& 31)) (5 : Int32) L = _ := l5
  have hkl := hT.2.2.1 e (by omega)
  have hkl2 := (hT.1.2.2.2.1 e (by omega)).1
  have go : ∀ (v : Nat), v < 60 → ∀ n : Int32, pL_low N (z >>> ((6 : Int32) &&& 31)) n L = some (zI (v : Nat), L) → lGo (pL_values_43 N n (z >>> ((6 : Int32) &&& 31)) (zI (m : Nat)) (zI (kk : Nat)) (zI (e : Nat)) (zI (a : Nat)) S L 0 0) := fun v hv n ln => by
    obtain ⟨w, m1, m2⟩ := lq_match (N := N) R.2.2.2.1 ha hv
    simp only [pL_values_43, nm_i, nml_i]
    rw [ln, lba_i, z3_a, z3_1, gd_c (by omega) (by omega), zI_cn (by omega), (Q.1 e (by omega)).2.1, gd_c (by omega) (by omega), m1, lba_i, zI_cn (by omega), lq_allows (by omega) R.2.2.2.1 h.2.1.2 h.1.1 hkl2 hkl, lba_i, il_ibit (by omega)]
    have h106 := lq_values_106 (N := N) (S := S) (C := 0) (D := 0) (v := v) (by omega) h K R hm Q hk he ha (w := (aJ L 10 (3 * e + a)) &&& w) (has_iff hT Q (by omega) ha m2)
    have h237 := lq_values_237 (N := N) hN h K R hm Q hn hk he ha hv
    cases g : ib (hAll (wH W) (tKl (wTr W m) e)) a with
    | true =>
      rw [g] at h106
      have h106 : pL_values_106 N (1 : Int32) _ _ _ _ _ _ _ _ S L 0 0 = _ := h106
      rw [if_pos rfl, h106]
      exact h237
    | false =>
      rw [g] at h106
      have h106 : pL_values_106 N (0 : Int32) _ _ _ _ _ _ _ _ S L 0 0 = _ := h106
      rw [if_neg (by decide), h106]
      exact h237
  simp only [pL_values]
  rw [gq0, aq0 R, l1, lba_i, gq2, aq2 R, l2, lba_i, l3, lba_i]
  by_cases g : b = 0
  · rw [if_pos (by rw [g]; rfl)]
    exact go v1 hv1 _ l4
  · rw [if_neg (show ¬ zI (b : Nat) = (0 : Int32) from nk g (by omega) (j := 0) (by omega))]
    exact go v2 (by omega) _ l5
end LQ4
