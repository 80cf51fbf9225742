-- LEVEL 2, THE LAW: NAMES, LINKS, RULES, PLACES, BIRTHS
theorem snoc_ind {P : List Nat → Prop} (h0 : P []) (h1 : ∀ l k, P l → P (l ++ [k])) (l : List Nat) : P l := by
  have : ∀ l : List Nat, P l.reverse := by
    intro l
    induction l with
    | nil => exact h0
    | cons k l ih => rw [List.reverse_cons]; exact h1 _ _ ih
  have h := this l.reverse
  rwa [List.reverse_reverse] at h
section RP2
variable {H : sH} {cs : Nat → sCh}
theorem rpl_snoc {T : sT} {l : List Nat} {k : Nat} : rpl H cs T (l ++ [k]) = tTake H (rpl H cs T l) (cs k) := by
  unfold rpl
  rw [List.foldl_append]; rfl
theorem lsG_none {p : sCh → Bool} {f : sCh → Int} {d : Int} (l : List Nat) : (∀ k ∈ l, ¬ p (cs k) = true) → lsG p f d cs l = d := by
  induction l using snoc_ind with
  | h0 => intro _; rfl
  | h1 l k ih =>
    intro h
    rw [lsG_snoc, if_neg (h k (List.mem_append_right _ (List.mem_singleton.mpr rfl)))]
    exact ih (fun q hq => h q (List.mem_append_left _ hq))
theorem pK_iff {kk e : Nat} {c : sCh} : pK kk e c = true ↔ cK c = kk ∧ cE c = e := by
  unfold pK
  rw [Bool.and_eq_true, decide_eq_true_eq, decide_eq_true_eq]
theorem pS_iff {e s : Nat} {c : sCh} : pS e s c = true ↔ cK c = 6 ∧ cE c = e ∧ cX c = (s : Int) := by
  unfold pS
  rw [Bool.and_eq_true, pK_iff, decide_eq_true_eq, and_assoc]
theorem rpl_lk {e : Nat} (l : List Nat) : (∀ k ∈ l, cOk (cs k)) → tLk (rpl H cs tNew l) e = if lsG (pK 5 e) lA (-5) cs l = -5 then -1 else lsG (pK 5 e) lA (-5) cs l := by
  induction l using snoc_ind with
  | h0 => intro _; rfl
  | h1 l k ih =>
    intro h
    have ih := ih (fun q hq => h q (List.mem_append_left _ hq))
    have hc := h k (List.mem_append_right _ (List.mem_singleton.mpr rfl))
    rw [rpl_snoc, tLk_take, lsG_snoc]
    by_cases g : cK (cs k) = 5 ∧ cE (cs k) = e
    · have hx := hc.2.2.2.2.2.2.2.2.1 g.1
      have eA : lA (cs k) = cX (cs k) := by unfold lA; rw [if_neg (by omega), if_neg (by omega)]
      rw [if_pos g, if_pos (pK_iff.mpr g), eA, if_neg (by omega)]
    · rw [if_neg g, if_neg (fun q => g (pK_iff.mp q)), ih]
theorem rpl_sy {e s : Nat} (l : List Nat) : (∀ k ∈ l, cOk (cs k)) → ((tSy (rpl H cs tNew l) e s : Nat) : Int) = lsG (pS e s) cY 0 cs l := by
  induction l using snoc_ind with
  | h0 => intro _; rfl
  | h1 l k ih =>
    intro h
    have ih := ih (fun q hq => h q (List.mem_append_left _ hq))
    have hc := h k (List.mem_append_right _ (List.mem_singleton.mpr rfl))
    rw [rpl_snoc, tSy_take, lsG_snoc]
    by_cases g : cK (cs k) = 6 ∧ cE (cs k) = e ∧ (cX (cs k)).toNat = s
    · have hx := hc.2.2.2.2.2.2.2.2.2.1 g.1
      rw [if_pos g, if_pos (pS_iff.mpr ⟨g.1, g.2.1, by omega⟩)]
      omega
    · rw [if_neg g, if_neg (fun q => g ⟨(pS_iff.mp q).1, (pS_iff.mp q).2.1, by have := (pS_iff.mp q).2.2; omega⟩), ih]
theorem rpl_nm {e : Nat} (l : List Nat) : (∀ k ∈ l, cOk (cs k)) → gLo cs l → tTh (rpl H cs tNew l) e = true → 1 ≤ e → (∃ q : Nat, lsG (pK 0 e) lA (-5) cs l = q ∧ q < 2000 ∧ (lsG (pK 4 e) lA (-5) cs l < 0 → tNm (rpl H cs tNew l) e = ((q % 100 : Nat) : Int))) ∧ (0 ≤ lsG (pK 4 e) lA (-5) cs l → tNm (rpl H cs tNew l) e = lsG (pK 4 e) lA (-5) cs l) := by
  induction l using snoc_ind with
  | h0 =>
    intro _ _ h h1
    have h : decide (e = 0) = true := h
    rw [decide_eq_true_eq] at h
    omega
  | h1 l k ih =>
    intro h hg ht h1
    have hk : ∀ q ∈ l, q ∈ l ++ [k] := fun q hq => List.mem_append_left _ hq
    have hc := h k (List.mem_append_right _ (List.mem_singleton.mpr rfl))
    unfold gLo at hg
    rw [List.pairwise_append] at hg
    obtain ⟨g1, -, g3⟩ := hg
    rw [rpl_snoc, tTh_take] at ht
    rw [rpl_snoc, tNm_take, lsG_snoc, lsG_snoc]
    by_cases g : cK (cs k) = 0 ∧ cE (cs k) = e
    · obtain ⟨a1, a2, a3, a4, a5, a6, a7, -⟩ := hc.2.2.2.2.2.1 g.1
      have eA : lA (cs k) = 100 * cX (cs k) + cW (cs k) := if_pos g.1
      have e4 : lsG (pK 4 e) lA (-5) cs l = -5 := lsG_none l (fun q hq r => g3 q hq k (List.mem_singleton.mpr rfl) g.1 (by rw [(pK_iff.mp r).2, g.2]))
      rw [if_pos (pK_iff.mpr g), if_pos g, if_neg (show ¬ pK 4 e (cs k) = true from fun q => by have := (pK_iff.mp q).1; omega), e4, eA]
      refine ⟨⟨(100 * cX (cs k) + cW (cs k)).toNat, by omega, by omega, fun _ => by omega⟩, fun q => by omega⟩
    · rw [if_neg g] at ht
      have ih := ih (fun q hq => h q (hk q hq)) g1 ht h1
      rw [if_neg (show ¬ pK 0 e (cs k) = true from fun q => g (pK_iff.mp q)), if_neg g]
      by_cases g4 : cK (cs k) = 4 ∧ cE (cs k) = e
      · have hx := hc.2.2.2.2.2.2.2.1 g4.1
        have eA : lA (cs k) = cX (cs k) := by unfold lA; rw [if_neg (by omega), if_neg (by omega)]
        rw [if_pos (pK_iff.mpr g4), if_pos g4, eA]
        obtain ⟨⟨q, q1, q2, -⟩, -⟩ := ih
        exact ⟨⟨q, q1, q2, fun r => by omega⟩, fun _ => rfl⟩
      · rw [if_neg (show ¬ pK 4 e (cs k) = true from fun q => g4 (pK_iff.mp q)), if_neg g4]
        exact ih
theorem rpl_bn {e : Nat} (l : List Nat) : tTh (rpl H cs tNew l) e = true → 1 ≤ e → ∃ k ∈ l, cK (cs k) = 0 ∧ cE (cs k) = e ∧ tBn (rpl H cs tNew l) e = cR (cs k) := by
  induction l using snoc_ind with
  | h0 =>
    intro h h1
    have h : decide (e = 0) = true := h
    rw [decide_eq_true_eq] at h
    omega
  | h1 l k ih =>
    intro h h1
    rw [rpl_snoc] at h ⊢
    rcases tBn_take (H := H) (T := rpl H cs tNew l) (c := cs k) with ⟨q1, q2, q3⟩ | ⟨q1, q2, q3⟩
    · by_cases g : e = cE (cs k)
      · exact ⟨k, List.mem_append_right _ (List.mem_singleton.mpr rfl), q1, g.symm, by rw [q3, g, upf_s]⟩
      · rw [q2, upf_o _ _ g] at h
        obtain ⟨k', m1, m2, m3, m4⟩ := ih h h1
        exact ⟨k', List.mem_append_left _ m1, m2, m3, by rw [q3, upf_o _ _ g]; exact m4⟩
    · rw [q2] at h
      obtain ⟨k', m1, m2, m3, m4⟩ := ih h h1
      exact ⟨k', List.mem_append_left _ m1, m2, m3, by rw [q3]; exact m4⟩
end RP2
theorem sSt_rg {T : sT} {e : Nat} : sSt T e = 0 ∨ sSt T e = 1 ∨ sSt T e = 2 := by
  unfold sSt
  cases tDd T e with
  | true => exact Or.inr (Or.inr rfl)
  | false =>
    cases tTh T e with
    | true => exact Or.inr (Or.inl rfl)
    | false => exact Or.inl rfl
section LH
variable {N m : Nat} {L : lS} {W : sW}
def lkn (W : sW) (m : Nat) : List Nat := knl (wT W m) m (wC W) (wO W)
theorem lkn_ok (h : wOk W) {k : Nat} (hk : k ∈ lkn W m) : cOk (wC W k) := wC_ok h (wO_in h (knl_sub.subset hk))
theorem lq_ht (h : lOk W) (hm : m < 4) : ∀ j, j < 4 → wT W m m j < 1000 := fun j hj => by
  have h1 := wT_le h.1 hm hm hj
  have h2 := h.2.2.2.1
  omega
theorem lq_hO (h : lOk W) : ∀ k ∈ wO W, cOk (wC W k) := fun k hk => wC_ok h.1 (wO_in h.1 hk)
theorem lq_hl (h : lOk W) : ∀ k ∈ wO W, lcOk (wC W k) := fun k hk => h.2.2.2.2.2.2.1 k (wO_in h.1 hk)
theorem lq_ho (h : lOk W) : (wO W).length ≤ 40 := by rw [wO_len h.1]; exact h.2.2.2.1
theorem qn1 (h : lOk W) : zI (wN W : Nat) - (1 : Int32) = zI ((((wO W).length : Nat) : Int) - 1) := by rw [zL_1, zI_sub, wO_len h.1]
theorem lq_last (hN : 1000 ≤ N) (h : lOk W) (R : lRel L W) (hm : m < 4) {kk e : Nat} (hk : kk < 8) (he : e < 12) : pL_last N (zI (m : Nat)) (zI (kk : Nat)) (zI (e : Nat)) L = some (zI (lsG (pK kk e) lA (-5) (wC W) (lkn W m)), L) := by
  have ho := lq_ho h
  simp only [pL_last, nm_i]
  rw [gq1, aq1 R, qn1 h, lq_last_7 (lRel_ld h R) hm ho (lq_ht h hm) (lq_hO h) (lq_hl h) hk he N (wO W).length (by omega) (by omega), List.take_length]
  rfl
theorem lq_says (hN : 1000 ≤ N) (h : lOk W) (R : lRel L W) (hm : m < 4) {e s x y z : Nat} (he : e < 12) (hs : s < 108 ∨ (324 ≤ s ∧ s < 330)) (hx : 6 * x + 2 * y + z = cde s) : pL_says N (zI (m : Nat)) (zI (e : Nat)) (zI (x : Nat)) (zI (y : Nat)) (zI (z : Nat)) L = some (zI (tSy (wTr W m) e s : Nat), L) := by
  have ho := lq_ho h
  simp only [pL_says, nm_i]
  rw [gq1, aq1 R, qn1 h, lq_says_8 (lRel_ld h R) hm ho (lq_ht h hm) (lq_hO h) (lq_hl h) he hs hx N (wO W).length (by omega) (by omega), List.take_length]
  show some (zI (lsG (pS e s) cY 0 (wC W) (lkn W m)), L) = _
  rw [← rpl_sy (H := wH W) (lkn W m) (fun k hk => lkn_ok h.1 hk)]
  rfl
theorem lq_link (hN : 1000 ≤ N) (h : lOk W) (R : lRel L W) (hm : m < 4) {e : Nat} (he : e < 12) : pL_link N (zI (m : Nat)) (zI (e : Nat)) L = some (zI (tLk (wTr W m) e), L) := by
  have h5 := lq_last (N := N) hN h R hm (kk := 5) (by omega) he
  have h5 : pL_last N (zI (m : Nat)) (5 : Int32) (zI (e : Nat)) L = _ := h5
  have hk : tLk (wTr W m) e = _ := rpl_lk (H := wH W) (e := e) (lkn W m) (fun k hk => lkn_ok h.1 hk)
  have hw := (wTr_ok h.1 m).1.2.2.2.2.1 e (by omega)
  rw [hk] at hw ⊢
  simp only [pL_link]
  rw [h5, lba_i]
  by_cases g : lsG (pK 5 e) lA (-5) (wC W) (lkn W m) = -5
  · rw [if_pos g, if_pos (by rw [g]; rfl), zL_m1]
  · rw [if_neg g] at hw
    rw [if_neg g, if_neg (by rw [zL_m5, zI_eq (by omega) (by omega) (by omega) (by omega)]; exact g)]
theorem lq_name (hN : 1000 ≤ N) (h : lOk W) (R : lRel L W) (hm : m < 4) {e : Nat} (he : e < 12) (ht : tTh (wTr W m) e = true) : pL_name N (zI (m : Nat)) (zI (e : Nat)) L = some (zI (tNm (wTr W m) e), L) := by
  have h4 := lq_last (N := N) hN h R hm (kk := 4) (by omega) he
  have h4 : pL_last N (zI (m : Nat)) (4 : Int32) (zI (e : Nat)) L = _ := h4
  have h0 := lq_last (N := N) hN h R hm (kk := 0) (by omega) he
  have h0 : pL_last N (zI (m : Nat)) (0 : Int32) (zI (e : Nat)) L = _ := h0
  simp only [pL_name]
  rw [h4, lba_i, h0, lba_i]
  by_cases g : e = 0
  · rw [g, if_pos (show zI ((0 : Nat) : Int) = (0 : Int32) from rfl), (lTo_w h hm).2.2.2.2.2.1.2]
    rfl
  · have hb := (wTr_ok h.1 m).1.2.2.1 e (by omega)
    obtain ⟨⟨q, q1, q2, q3⟩, q4⟩ := rpl_nm (H := wH W) (cs := wC W) (e := e) (lkn W m) (fun k hk => lkn_ok h.1 hk) (h.2.2.2.2.2.2.2.sublist knl_sub) ht (by omega)
    rw [if_neg (show ¬ zI (e : Nat) = (0 : Int32) from nk g (by omega) (j := 0) (by omega))]
    have e4 : lsG (pK 4 e) lA (-5) (wC W) (lkn W m) = -5 ∨ 0 ≤ lsG (pK 4 e) lA (-5) (wC W) (lkn W m) := by
      have : ∀ l : List Nat, (∀ k ∈ l, cOk (wC W k)) → lsG (pK 4 e) lA (-5) (wC W) l = -5 ∨ 0 ≤ lsG (pK 4 e) lA (-5) (wC W) l := by
        intro l
        induction l using snoc_ind with
        | h0 => intro _; exact Or.inl rfl
        | h1 l k ih =>
          intro hh
          rw [lsG_snoc]
          by_cases gg : pK 4 e (wC W k) = true
          · have g1 := (pK_iff.mp gg).1
            have hx := (hh k (List.mem_append_right _ (List.mem_singleton.mpr rfl))).2.2.2.2.2.2.2.1 g1
            have eA : lA (wC W k) = cX (wC W k) := by unfold lA; rw [if_neg (by omega), if_neg (by omega)]
            rw [if_pos gg, eA]
            exact Or.inr hx.1
          · rw [if_neg gg]
            exact ih (fun q hq => hh q (List.mem_append_left _ hq))
      exact this _ (fun k hk => lkn_ok h.1 hk)
    rcases e4 with e4 | e4
    · have := q3 (by omega)
      have e9 : tNm (wTr W m) e = ((q % 100 : Nat) : Int) := this
      rw [e4, q1, if_pos (by rw [zL_0, zI_lt (by omega) (by omega) (by omega) (by omega)]; omega), show (100 : Int32) = zI ((100 : Nat) : Int) from rfl, z_mod (by omega) (by omega) (by omega), e9]
    · have e9 : tNm (wTr W m) e = _ := q4 e4
      rw [← e9] at e4 ⊢
      rw [if_neg (by rw [zL_0, zI_lt (by omega) (by omega) (by omega) (by omega)]; omega)]
theorem lq_place {T : sT} (hT : lTo T) (Q : lTr L T) {e : Nat} (he : e < 12) (h1 : e = 0 ∨ tTh T e = true) : pL_place N (zI (e : Nat)) L = some (zI (tPl T e), L) := by
  obtain ⟨r1, r2, r3⟩ := Q.1 e he
  have hb := hT.1.2.1 e (by omega)
  have hc := hT.2.2.2.1 e (by omega)
  simp only [pL_place]
  rw [z3_2]
  have g2 : ∀ {β : Type} {K : Option β}, gd (zI ((3 * e + 2 : Nat) : Int)) 36 K = K := gd_c (by omega) (by omega)
  simp only [g2, zI_cn (show 3 * e + 2 < 2147483648 by omega)]
  rw [r3, zL_0, il_le (by omega) (by omega) (by omega) (by omega)]
  unfold tPl
  by_cases g : e = 0
  · rw [g, hT.2.2.2.2.2.1.1, if_neg (by omega), if_pos (show ((0 : Nat) : Int) = 0 from rfl)]; rfl
  · have hp := hT.2.2.2.2.2.2 e (by omega) (by omega) (h1.resolve_left g)
    obtain ⟨p, hp2⟩ : ∃ p : Nat, tPa T e = p := ⟨(tPa T e).toNat, by omega⟩
    have hp12 : p < 12 := by omega
    rw [if_pos hp, if_neg (show ¬ (e : Int) = 0 by omega), Int.toNat_natCast, hp2, z3_0, gd_c (by omega) (by omega), zI_cn (by omega), (Q.1 p hp12).1]
    have es : (zI (sSt T p) = (1 : Int32)) ↔ tLv T (p : Nat) = true := by
      have hs := sSt_rg (T := T) (e := p)
      rw [← sSt_lv (show p < 48 by omega), zL_1, zI_eq (by omega) (by omega) (by omega) (by omega)]
    by_cases gl : tLv T (p : Nat) = true
    · rw [if_pos (es.mpr gl), if_pos gl]
    · rw [if_neg (fun q => gl (es.mp q)), if_neg gl]; rfl
theorem lq_born_5 (h : lOk W) (R : lRel L W) {e i0 : Nat} (he : e < 12) (hi0 : i0 < (wO W).length) (h0 : cK (wC W (wO W)[i0]) = 0 ∧ cE (wC W (wO W)[i0]) = e) (hu : ∀ q (hq : q < (wO W).length), cK (wC W (wO W)[q]) = 0 → cE (wC W (wO W)[q]) = e → q = i0) : ∀ (n k i : Nat) (x : Int32), i + k = (wO W).length → k < n → (i0 < i → x = zI (i0 : Nat)) → pL_born_5 N n (zI (e : Nat)) x (zI (i : Nat)) L = some (zI (i0 : Nat), L)
  | 0, k, i, x, _, hn, _ => by omega
  | n + 1, k, i, x, hk, hn, hx => by
    have ho := lq_ho h
    have hl := wO_len h.1
    simp only [pL_born_5, pL_born_27, nm_i]
    rw [gq1, aq1 R, il_le (by omega) (by omega) (by omega) (by omega)]
    cases k with
    | zero => rw [if_pos (by omega), hx (by omega)]
    | succ k =>
      have hi : i < (wO W).length := by omega
      have C := R.2.2.2.2.2.1 i hi
      have hmem : (wO W)[i] ∈ wO W := List.getElem_mem hi
      have hcK := (lq_hO h _ hmem).1
      have hcE := (lq_hl h _ hmem).1
      rw [if_neg (by omega), gd_c (by omega) (by omega), zI_cn (by omega), C.2.2.1, il_eq (by omega) (by omega) (by omega) (by omega), zs1]
      by_cases g : ((16 * cK (wC W (wO W)[i]) + cE (wC W (wO W)[i]) : Nat) : Int) = (e : Int)
      · rw [if_pos g]
        have := hu i hi (by omega) (by omega)
        exact lq_born_5 h R he hi0 h0 hu n k (i + 1) _ (by omega) (by omega) (fun _ => by rw [this])
      · rw [if_neg g]
        exact lq_born_5 h R he hi0 h0 hu n k (i + 1) x (by omega) (by omega) (fun g2 => hx (by
          by_cases g3 : i0 = i
          · subst g3; omega
          · omega))
theorem wO_uq (h : wOk W) {q i0 : Nat} (hq : q < (wO W).length) (hi0 : i0 < (wO W).length) (e : (wO W)[q] = (wO W)[i0]) : q = i0 := by
  obtain ⟨-, -, -, ⟨-, -, -, ⟨ar, g4⟩, -⟩, -⟩ := h
  have hp := List.pairwise_iff_getElem.mp g4.1
  rcases Nat.lt_trichotomy q i0 with g | g | g
  · have := hp q i0 hq hi0 g
    rw [e] at this; omega
  · exact g
  · have := hp i0 q hi0 hq g
    rw [e] at this; omega
theorem lq_born (hN : 1000 ≤ N) (h : lOk W) (R : lRel L W) {e : Nat} (he : e < 12) (h1 : 1 ≤ e) (ht : tTh (wTr W m) e = true) : ∃ i, ∃ (hi : i < (wO W).length), tBn (wTr W m) e = cR (wC W (wO W)[i]) ∧ pL_born N (zI (e : Nat)) L = some (zI (i : Nat), L) := by
  have ho := lq_ho h
  obtain ⟨k, k1, k2, k3, k4⟩ := rpl_bn (H := wH W) (cs := wC W) (e := e) (lkn W m) ht h1
  have kO : k ∈ wO W := knl_sub.subset k1
  obtain ⟨i, hi, hik⟩ := List.getElem_of_mem kO
  refine ⟨i, hi, by rw [hik]; exact k4, ?_⟩
  simp only [pL_born]
  refine lq_born_5 h R he hi (by rw [hik]; exact ⟨k2, k3⟩) (fun q hq a b => wO_uq h.1 hq hi ?_) N (wO W).length 0 _ (by omega) (by omega) (fun g => by omega)
  have hu := h.1.2.2.2.1.2.2.2.2.2.2.1
  rw [hik]
  exact hu _ _ (wO_in h.1 (List.getElem_mem hq)) (wO_in h.1 kO) a k2 (by rw [b, k3])
theorem tTh_lt (h : wOk W) {e : Nat} (ht : tTh (wTr W m) e = true) : e < wE W := by
  by_cases g : e = 0
  · have := h.2.2.2.2.2.2.1.1
    omega
  · obtain ⟨k, k1, k2, k3, -⟩ := rpl_bn (H := wH W) (cs := wC W) (e := e) (lkn W m) ht (by omega)
    have := (h.2.2.2.1.2.2.2.2.2.1 k (wO_in h (knl_sub.subset k1))).1
    omega
end LH
