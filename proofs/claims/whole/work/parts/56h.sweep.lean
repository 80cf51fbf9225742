-- LEVEL 2, THE CALL SWEEP
/-- the marks that it drops -/
def swp (W : sW) (m e : Nat) : Bool := mkd W m e && (kDl W m 0 e && (kDl W m 1 e && (kDl W m 2 e && kDl W m 3 e)))
section ON
variable {N : Nat} {S : kS} {M : mS} {W : sW} {T : sT}
theorem q_deletionsKnownBy_5 (h : wOk W) (K : kRel S W) {m i : Nat} (hm : m < 4) (hi : i < 4) : ∀ (n k p : Nat) (w : Int64), p + k = (wO W).length → k < n → ∃ w', pX9_deletionsKnownBy_5 N m n (zI (i : Nat)) w (zI (p : Nat)) S = some (w', S) ∧ ∀ j, j < 64 → (lb w' j = true ↔ lb w j = true ∨ ∃ (q : Nat) (hq : q < (wO W).length), p ≤ q ∧ kDp W m i j ((wO W)[q]) = true)
  | 0, k, p, w, hk, hn => by omega
  | n + 1, k, p, w, hk, hn => by
    obtain ⟨g1, g2, g3, ⟨ar, g4⟩, -⟩ := h.2.2.2.1
    have L := K.2.2.2.2.1.1
    simp only [pX9_deletionsKnownBy_5, pX9_deletionsKnownBy_70, nm_i, nml_i]
    rw [q_logSize L, bk_i, il_le (by omega) (by omega) (by omega) (by omega)]
    cases k with
    | zero =>
      rw [if_pos (by omega)]
      exact ⟨w, rfl, fun j hj => ⟨fun g => Or.inl g, fun g => by
        rcases g with g | ⟨q, hq, a, -⟩
        · exact g
        · omega⟩⟩
    | succ k =>
      have hp : p < (wO W).length := by omega
      have hmem : (wO W)[p] ∈ wO W := List.getElem_mem hp
      have hkn := (g3 _).mp hmem
      have hc := (g4.2 _ hmem).1
      have C := K.2.2.2.1.2 _ hkn
      have K10 := K.2.2.2.2.2.1 m hm
      have hK8 := hc.1
      have hE48 := hc.2.1
      have hkn2 : (wO W)[p] < kn S := by rw [K.2.2.2.1.1]; exact hkn
      have ek : zI (p : Nat) + 1 = zI ((p + 1 : Nat) : Int) := by rw [zL_1, zI_add]; congr 1
      have stp : ∀ (w2 : Int64), (∀ j, j < 64 → (lb w2 j = true ↔ lb w j = true ∨ kDp W m i j ((wO W)[p]) = true)) → ∃ w', pX9_deletionsKnownBy_5 N m n (zI (i : Nat)) w2 (zI (p : Nat) + 1) S = some (w', S) ∧ ∀ j, j < 64 → (lb w' j = true ↔ lb w j = true ∨ ∃ (q : Nat) (hq : q < (wO W).length), p ≤ q ∧ kDp W m i j ((wO W)[q]) = true) := fun w2 hw2 => by
        obtain ⟨w', e1, e2⟩ := q_deletionsKnownBy_5 h K hm hi n k (p + 1) w2 (by omega) (by omega)
        rw [ek]
        refine ⟨w', e1, fun j hj => ?_⟩
        rw [e2 j hj, hw2 j hj]
        constructor
        · rintro ((g | g) | ⟨q, hq, a, b⟩)
          · exact Or.inl g
          · exact Or.inr ⟨p, hp, Nat.le_refl _, g⟩
          · exact Or.inr ⟨q, hq, by omega, b⟩
        · rintro (g | ⟨q, hq, a, b⟩)
          · exact Or.inl (Or.inl g)
          · by_cases e : q = p
            · subst e; exact Or.inl (Or.inr b)
            · exact Or.inr ⟨q, hq, by omega, b⟩
      have nope : ∀ {P : Prop} [Decidable P], (∀ j, kDp W m i j ((wO W)[p]) = false) → ∃ w', pX9_deletionsKnownBy_5 N m n (zI (i : Nat)) w (zI (p : Nat) + 1) S = some (w', S) ∧ ∀ j, j < 64 → (lb w' j = true ↔ lb w j = true ∨ ∃ (q : Nat) (hq : q < (wO W).length), p ≤ q ∧ kDp W m i j ((wO W)[q]) = true) := fun g => stp w (fun j hj => by rw [g j]; exact ⟨fun a => Or.inl a, fun a => a.elim id (fun b => Bool.noConfusion b)⟩)
      rw [if_neg (by omega), q_logGet L hp, bk_i, gn_l hkn2, gn_l hkn2, C.2.1, zL_8, il_eq (by omega) (by omega) (by omega) (by omega)]
      by_cases k8 : cK (wC W (wO W)[p]) = 8
      · rw [if_pos (by omega), q_hasGot K10 hm C hc, bk_i, il_B]
        by_cases kg : gotB (wT W m) m (wC W (wO W)[p]) = true
        · rw [if_pos kg, q_isTold K10 C hc hi, bk_i, il_B]
          by_cases kt : gotB (wT W m) i (wC W (wO W)[p]) = true
          · rw [if_pos kt, gn_l hkn2, C.2.2.1]
            refine stp _ (fun j hj => ?_)
            rw [lb_or, lb_shl1 (by omega) hj, Bool.or_eq_true, decide_eq_true_eq]
            unfold kDp
            rw [decide_eq_true k8, kg, kt, Bool.and_true, Bool.and_true, Bool.true_and, decide_eq_true_eq]
            exact ⟨fun a => a.imp id Eq.symm, fun a => a.imp id Eq.symm⟩
          · rw [if_neg kt]
            exact nope (P := True) (fun j => by unfold kDp; rw [Bool.eq_false_iff.mpr kt, Bool.and_false, Bool.and_false, Bool.and_false])
        · rw [if_neg kg]
          exact nope (P := True) (fun j => by unfold kDp; rw [Bool.eq_false_iff.mpr kg, Bool.false_and, Bool.and_false, Bool.and_false])
      · rw [if_neg (by omega)]
        exact nope (P := True) (fun j => by unfold kDp; rw [decide_eq_false k8, Bool.false_and])
theorem q_deletionsKnownBy (hN : 300 ≤ N) (h : wOk W) (K : kRel S W) {m i : Nat} (hm : m < 4) (hi : i < 4) : ∃ w', pX9_deletionsKnownBy N m (zI (i : Nat)) S = some (w', S) ∧ ∀ j, j < 64 → lb w' j = kDl W m i j := by
  obtain ⟨g1, g2, g3, -⟩ := h.2.2.2.1
  obtain ⟨w', e1, e2⟩ := q_deletionsKnownBy_5 (N := N) h K hm hi N (wO W).length 0 0 (by omega) (by omega)
  refine ⟨w', e1, fun j hj => ?_⟩
  rw [Bool.eq_iff_iff, e2 j hj, lb_0]
  unfold kDl
  rw [anyF_iff]
  constructor
  · rintro (g | ⟨q, hq, -, b⟩)
    · exact Bool.noConfusion g
    · exact ⟨_, Nat.zero_le _, by have := (g3 _).mp (List.getElem_mem hq); omega, b⟩
  · rintro ⟨k, -, k2, k3⟩
    obtain ⟨q, hq, e⟩ := List.getElem_of_mem ((g3 k).mpr (by omega))
    exact Or.inr ⟨q, hq, Nat.zero_le _, by rw [e]; exact k3⟩
/-- the state with dropped marks -/
def wSw (W : sW) (m : Nat) : sW := wMk (wH W) (wD W) (wP W) (wK W) (wC W) (wN W) (wO W) (wT W) (fun a e => wX W a e || (decide (a = m) && swp W m e)) (wU W) (wE W) (wF W)
theorem swp_lt (h : wOk W) {m e : Nat} (he : wE W ≤ e) : swp W m e = false := by
  unfold swp
  rw [mkd_lt h he, Bool.false_and]
/-- the reference -/
def swR (M M' : mS) (W : sW) (m i : Nat) : Prop := rf1 20 M M' ∧ ∀ a e, a < 4 → e < 48 → M'.2 20 (48 * a + e) = zB (wX W a e || (decide (a = m) && (decide (e < i) && swp W m e)))
theorem rCs_20 {M M' : mS} {cs : Nat → sCh} {n : Nat} (f : rf1 20 M M') (C : rCs M cs n) : rCs M' cs n := by
  obtain ⟨c1, c2, c3⟩ := C
  exact ⟨by rw [f.1]; exact c1, c2, fun k hk => ⟨rCh_e (fun d a b => f.2 d (by omega)) (c3 k hk).1, (c3 k hk).2⟩⟩
theorem rVw_20 {M M' : mS} {t : Nat → Nat → Nat → Nat} (f : rf1 20 M M') (V : rVw M t) : rVw M' t := by
  unfold rVw at *
  rw [f.2 19 (by omega)]
  exact V
theorem r_sweep_22 (hN : 300 ≤ N) (h : wOk W) (R : mRel M W) {m : Nat} (hm : m < 4) : ∀ (n k i : Nat) (M' : mS), i + k = wE W → k < n → swR M M' W m i → ∃ M2, pf_sweep_22 N n (zI (m : Nat)) (zI (fb_ct (swp W m) i : Nat)) (zI (i : Nat)) M' = some (zI (fb_ct (swp W m) (wE W) : Nat), M2) ∧ swR M M2 W m (wE W)
  | 0, k, i, M', hk, hn, Q => by omega
  | n + 1, k, i, M', hk, hn, Q => by
    have hE := h.2.2.2.2.2.2.1
    simp only [pf_sweep_22]
    rw [Q.1.1, R.2.2.2.2.2.2.2.2.1, il_le (by omega) (by omega) (by omega) (by omega)]
    cases k with
    | zero =>
      have : i = wE W := by omega
      subst this
      rw [if_pos (by omega)]
      exact ⟨M', rfl, Q⟩
    | succ k =>
      have hi : i < 48 := by omega
      have C := rCs_20 Q.1 R.2.2.2.1
      have V := rVw_20 Q.1 R.2.2.2.2.2.1
      have hx := Q.2 m i hm hi
      rw [decide_eq_false (show ¬ i < i by omega), Bool.false_and, Bool.and_false, Bool.or_false] at hx
      have ih := r_sweep_22 hN h R hm n k (i + 1)
      rw [fb_ct_succ] at ih
      -- what is behind the test
      have fin : ∀ t, t = swp W m i → ∃ M2, pf_sweep_84 N (pf_sweep_22 N n) (zB t) (zI (m : Nat)) (zI (fb_ct (swp W m) i : Nat)) (zI (i : Nat)) M' = some (zI (fb_ct (swp W m) (wE W) : Nat), M2) ∧ swR M M2 W m (wE W) := fun t ht => by
        have go : ∀ b : Bool, b = (wX W m i || t) → ∃ M2, pf_sweep_120 N (pf_sweep_22 N n) (zB b) (zI ((48 * m + i : Nat) : Int)) (zI (m : Nat)) (zI (fb_ct (swp W m) i : Nat)) (zI (i : Nat)) (zB t) M' = some (zI (fb_ct (swp W m) (wE W) : Nat), M2) ∧ swR M M2 W m (wE W) := fun b hb => by
          have Q2 : swR M (mA M' 20 (48 * m + i) (zB b)) W m (i + 1) := by
            refine ⟨Q.1.trans rf1_mA, fun a e ha he => ?_⟩
            rw [mA_s]
            by_cases g : a = m ∧ e = i
            · obtain ⟨rfl, rfl⟩ := g
              rw [upd_s, hb, ht, decide_eq_true rfl, decide_eq_true (show e < e + 1 by omega), Bool.true_and, Bool.true_and]
            · rw [upd_o _ _ (by omega), Q.2 a e ha he]
              by_cases ga : a = m
              · rw [decide_eq_true ga, Bool.true_and, Bool.true_and]
                by_cases ge : e < i
                · rw [decide_eq_true ge, decide_eq_true (show e < i + 1 by omega)]
                · rw [decide_eq_false ge, decide_eq_false (show ¬ e < i + 1 by omega)]
              · rw [decide_eq_false ga, Bool.false_and, Bool.false_and]
          simp only [pf_sweep_120, pf_sweep_132, nm_i, sv_i]
          rw [gd_n (by omega) (by omega), zI_cn (by omega), zB_nar, il_B, zL_0, zL_1, zI_add, zI_add, zI_add, show (i : Int) + 1 = ((i + 1 : Nat) : Int) by omega]
          obtain ⟨M2, e1, e2⟩ := ih (mA M' 20 (48 * m + i) (zB b)) (by omega) (by omega) Q2
          rw [← ht] at e1
          cases t with
          | true =>
            rw [if_pos rfl] at e1 ⊢
            exact ⟨M2, e1, e2⟩
          | false =>
            rw [if_neg (by decide)] at e1 ⊢
            rw [show (fb_ct (swp W m) i : Int) + 0 = ((fb_ct (swp W m) i + 0 : Nat) : Int) by omega]
            exact ⟨M2, e1, e2⟩
        simp only [pf_sweep_84]
        rw [zL_48, zI_mul, zI_add, show (48 : Int) * (m : Nat) + (i : Nat) = ((48 * m + i : Nat) : Int) by omega, gd_n (by omega) (by omega), zI_cn (by omega), hx, il_B, il_B]
        cases hw : wX W m i with
        | true =>
          rw [if_pos rfl]
          exact go true (by rw [hw]; rfl)
        | false =>
          rw [if_neg (by decide)]
          cases t with
          | true => rw [if_pos rfl]; exact go true (by rw [hw]; rfl)
          | false => rw [if_neg (by decide)]; exact go false (by rw [hw]; rfl)
      have fin0 := fin false
      have fin1 := fin true
      have k0 : pf_knowsDeleted N (zI (m : Nat)) 0 (zI (i : Nat)) M' = some (zB (kDl W m 0 i), M') := r_knowsDeleted (i := 0) hN C V hm (by omega) (by omega)
      have k1 : pf_knowsDeleted N (zI (m : Nat)) 1 (zI (i : Nat)) M' = some (zB (kDl W m 1 i), M') := r_knowsDeleted (i := 1) hN C V hm (by omega) (by omega)
      have k2 : pf_knowsDeleted N (zI (m : Nat)) 2 (zI (i : Nat)) M' = some (zB (kDl W m 2 i), M') := r_knowsDeleted (i := 2) hN C V hm (by omega) (by omega)
      have k3 : pf_knowsDeleted N (zI (m : Nat)) 3 (zI (i : Nat)) M' = some (zB (kDl W m 3 i), M') := r_knowsDeleted (i := 3) hN C V hm (by omega) (by omega)
      rw [if_neg (by omega), r_isMarked hN C V hm hi hx, bd_i, il_B, k0, bd_i, il_B, k1, bd_i, il_B, k2, bd_i, il_B, k3, bd_i, il_B]
      unfold swp at fin0 fin1
      cases a0 : mkd W m i with
      | false => rw [if_neg (by decide)]; exact fin0 (by rw [a0]; rfl)
      | true =>
        rw [if_pos rfl]
        cases a1 : kDl W m 0 i with
        | false => rw [if_neg (by decide)]; exact fin0 (by rw [a0, a1]; rfl)
        | true =>
          rw [if_pos rfl]
          cases a2 : kDl W m 1 i with
          | false => rw [if_neg (by decide)]; exact fin0 (by rw [a0, a1, a2]; rfl)
          | true =>
            rw [if_pos rfl]
            cases a3 : kDl W m 2 i with
            | false => rw [if_neg (by decide)]; exact fin0 (by rw [a0, a1, a2, a3]; rfl)
            | true =>
              rw [if_pos rfl]
              cases a4 : kDl W m 3 i with
              | false => rw [if_neg (by decide)]; exact fin0 (by rw [a0, a1, a2, a3, a4]; rfl)
              | true => rw [if_pos rfl]; exact fin1 (by rw [a0, a1, a2, a3, a4]; rfl)
theorem m_swept (h : wOk W) {M' : mS} (R : mRel M W) {m : Nat} (Q : swR M M' W m (wE W)) : mRel M' (wSw W m) := by
  obtain ⟨r1, r2, ⟨r4, r5, r6, r7⟩, r8, r11, r12, r13, r14, r15, r16, ⟨r17, r18⟩, r19⟩ := R
  have u : ∀ c, c ≠ 20 → M'.2 c = M.2 c := Q.1.2
  have u1 : M'.1 = M.1 := Q.1.1
  refine ⟨rSc_e (by rw [u1]) (by rw [u1]) (fun d hd => u d (by omega)) r1, ⟨by rw [u1]; exact r2.1, by rw [u 9 (by omega), u 10 (by omega)]; exact r2.2⟩, ⟨by rw [u1]; exact r4, by rw [u1]; exact r5, by rw [u 12 (by omega), u 13 (by omega), u 14 (by omega)]; exact r6, by rw [u 17 (by omega)]; exact r7⟩, rCs_20 Q.1 r8, by rw [u 36 (by omega)]; exact r11, rVw_20 Q.1 r12, by rw [u 18 (by omega)]; exact r13, fun a e ha he => ?_, by rw [u1]; exact r15, rWh_e (by rw [u1]) (by rw [u1]) (fun d a b => u d (by omega)) r16, ⟨by rw [u1]; exact r17, by rw [u 53 (by omega)]; exact r18⟩, by rw [u1, u 33 (by omega)]; exact r19⟩
  rw [Q.2 a e ha he]
  show zB _ = zB (wX W a e || (decide (a = m) && swp W m e))
  by_cases g : e < wE W
  · rw [decide_eq_true g, Bool.true_and]
  · rw [swp_lt h (by omega), Bool.and_false]
theorem op_sweep (hN : 20000 ≤ N) (h : wOk W) (K : kRel S W) (R : mRel M W) (x : Int32) : opOk 1 0 0 (pX9_sweep N x S) (pf_sweep N x M) := by
  obtain ⟨x, h1, h2, rfl⟩ := zI_of x
  simp only [pX9_sweep, pf_sweep, sv_i]
  rw [r_isMaster h1 h2, bs_i, il_B]
  by_cases q : 0 ≤ x ∧ x < 4
  · obtain ⟨m, rfl⟩ : ∃ m : Nat, x = m := ⟨x.toNat, by omega⟩
    have hm : m < 4 := by omega
    have hE := h.2.2.2.2.2.2.1
    have R0 := mRel_0 (v := (0 : Int32)) R
    obtain ⟨w, e1, e2⟩ := q_marks (N := N) h K hm
    obtain ⟨d0, a0, b0⟩ := q_deletionsKnownBy (N := N) (by omega) h K hm (i := 0) (by omega)
    obtain ⟨d1, a1, b1⟩ := q_deletionsKnownBy (N := N) (by omega) h K hm (i := 1) (by omega)
    obtain ⟨d2, a2, b2⟩ := q_deletionsKnownBy (N := N) (by omega) h K hm (i := 2) (by omega)
    obtain ⟨d3, a3, b3⟩ := q_deletionsKnownBy (N := N) (by omega) h K hm (i := 3) (by omega)
    obtain ⟨N', rfl⟩ : ∃ N', N = N' + 5 := ⟨N - 5, by omega⟩
    have a0 : pX9_deletionsKnownBy (N' + 5) m 0 S = some (d0, S) := a0
    have a1 : pX9_deletionsKnownBy (N' + 5) m (0 + 1) S = some (d1, S) := a1
    have a2 : pX9_deletionsKnownBy (N' + 5) m (0 + 1 + 1) S = some (d2, S) := a2
    have a3 : pX9_deletionsKnownBy (N' + 5) m (0 + 1 + 1 + 1) S = some (d3, S) := a3
    have loop : ∀ w, pX9_sweep_14 (N' + 5) (pX9_sweep_36 (N' + 5)) (N' + 5) m w 0 S = pX9_sweep_36 (N' + 5) m ((((w &&& d0) &&& d1) &&& d2) &&& d3) S := fun w => by
      simp only [pX9_sweep_14, nm_i, nml_i]
      rw [if_neg (by decide), a0, bk_i, if_neg (by decide), a1, bk_i, if_neg (by decide), a2, bk_i, if_neg (by decide), a3, bk_i, if_pos (by decide)]
    have hb : ∀ e, e < 64 → lb ((((w &&& d0) &&& d1) &&& d2) &&& d3) e = (decide (e < 48) && swp W m e) := fun e he => by
      rw [lb_and, lb_and, lb_and, lb_and, e2 e he, b0 e he, b1 e he, b2 e he, b3 e he]
      unfold swp
      rw [Bool.and_assoc, Bool.and_assoc, Bool.and_assoc, Bool.and_assoc]
    have ct : fb_ct (lb ((((w &&& d0) &&& d1) &&& d2) &&& d3)) 64 = fb_ct (swp W m) (wE W) := by
      rw [fb_ct_cong (q := fun e => decide (e < 48) && swp W m e) (fun k hk => hb k hk), fb_ct_ext (a := wE W) (by omega) (fun k h1 h2 => by show (_ && _) = _; rw [swp_lt h h1, Bool.and_false])]
      exact fb_ct_cong (fun k hk => by show (_ && _) = _; rw [decide_eq_true (show k < 48 by omega), Bool.true_and])
    obtain ⟨M2, c1, c2⟩ := r_sweep_22 (N := N' + 5) (by omega) h R0 hm (N' + 5) (wE W) 0 (mI M 0 0) (by omega) (by omega) ⟨rf1.rf, fun a e ha he => by rw [decide_eq_false (show ¬ e < 0 by omega), Bool.false_and, Bool.and_false, Bool.or_false]; exact R0.2.2.2.2.2.2.2.1 a e ha he⟩
    have c1 : pf_sweep_22 (N' + 5) (N' + 5) (zI (m : Nat)) 0 0 (mI M 0 0) = _ := c1
    rw [if_pos (in_yes (by omega)), g_master hm, bx_l, gn_l hm, e1, bk_i, loop, c1]
    simp only [pX9_sweep_36, svk_i]
    rw [q_bitCount, bk_i, ct]
    refine opOk_v (W' := wSw W m) rfl rfl (by rw [c2.1.1]; exact thr_k) ?_ ?_ (m_swept h R0 c2)
    · obtain ⟨o1, o2, o3, o4, o5, o6, o7, o8⟩ := h
      exact ⟨o1, o2, o3, o4, o5, o6, o7, o8⟩
    · obtain ⟨k1, k2, k3, k4, ⟨k5, k5b⟩, k6, k7, k8, k9, k10, k11, k12, k13⟩ := K
      refine ⟨fr_hR k1 (fun q hq => rfl) (fun c _ => rfl), k2, k3, k4, ⟨lgR_fr rfl rfl k5, k5b⟩, fun j hj => tdR_fr rfl rfl (k6 j hj), k7, k8, fun a e ha he => ?_, k10, fun j hj => ?_, k12, k13⟩
      · show lb (vp_updL (kL S) m _ a) e = (decide (e < 48) && (wX W a e || (decide (a = m) && swp W m e)))
        by_cases g : a = m
        · subst g
          rw [updL_s, lb_or, k9 a e ha he, hb e he, decide_eq_true rfl, Bool.true_and]
          cases decide (e < 48) <;> rfl
        · rw [updL_o _ _ g, k9 a e ha he, decide_eq_false g, Bool.false_and, Bool.or_false]
      · have kj : tR S j (wTr W j) := k11 j hj
        show tR _ j (wTr W j)
        exact tR_other (S := S) (fun _ _ _ => rfl) (fun _ _ _ => rfl) (fun _ _ _ => rfl) (updL_o (kL S) _ (show 8 + 2 * j ≠ m by omega)) (updL_o (kL S) _ (show 9 + 2 * j ≠ m by omega)) kj
  · rw [if_neg (in_no (by omega)), g_masterNo h1 h2 q, bx_r, fails_i, bd_i]
    exact opOk_x rfl rfl (Or.inl ⟨rfl, thr_k⟩) h K (mRel_0 (mRel_0 R))
end ON
