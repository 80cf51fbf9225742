-- LEVEL 2, THE LAW: FOLLOWS, ALL ROUNDS
section LFQ
variable {N m : Nat} {W : sW} {z : Int32}
theorem itS_f {sc : Nat} {o : Option (Nat × Nat)} {st : List Nat} : itS W sc false o st = nxS W sc o st := by
  match o with
  | none => rfl
  | some (a, b) =>
    show (if sc = 2 ∨ (sc = 1 ∧ false = true) then kds W a b ++ st else st) = (if sc = 2 then kds W a b ++ st else st)
    by_cases g : sc = 2
    · rw [if_pos (Or.inl g), if_pos g]
    · rw [if_neg (fun q => by
        rcases q with q | q
        · exact g q
        · cases q.2), if_neg g]
theorem itF_f {u sc : Nat} {o : Option (Nat × Nat)} {F : List Nat} : itF W u sc false o F = nxF W u o F := by
  match o with
  | none => rfl
  | some (a, b) =>
    show (if ¬ (false = true ∧ sc = 1) ∧ lok W u a b = true then F ++ [100 * a + b] else F) = (if lok W u a b = true then F ++ [100 * a + b] else F)
    by_cases g : lok W u a b = true
    · rw [if_pos ⟨(fun q => by cases q.1), g⟩, if_pos g]
    · rw [if_neg (fun q => g q.2), if_neg g]
theorem itS_t {sc : Nat} (hsc : sc < 3) {o : Option (Nat × Nat)} : itS W sc true o [] = bsS W sc o := by
  match o with
  | none => rfl
  | some (a, b) =>
    show (if sc = 2 ∨ (sc = 1 ∧ true = true) then kds W a b ++ [] else []) = (if sc = 0 then [] else kds W a b)
    by_cases g : sc = 0
    · rw [if_neg (show ¬ (sc = 2 ∨ (sc = 1 ∧ true = true)) from fun q => by
        rcases q with q | q
        · omega
        · have := q.1
          omega), if_pos g]
    · have h2 : sc = 2 ∨ (sc = 1 ∧ true = true) := by
        by_cases g2 : sc = 2
        · exact Or.inl g2
        · exact Or.inr ⟨by omega, rfl⟩
      rw [if_pos h2, if_neg g, List.append_nil]
theorem itF_t {u sc : Nat} {o : Option (Nat × Nat)} : itF W u sc true o [] = bsF W u sc o := by
  match o with
  | none => rfl
  | some (a, b) =>
    show (if ¬ (true = true ∧ sc = 1) ∧ lok W u a b = true then [] ++ [100 * a + b] else []) = (if sc = 1 then [] else (if lok W u a b = true then [] ++ [100 * a + b] else []))
    by_cases g : sc = 1
    · rw [if_neg (fun q => q.1 ⟨rfl, g⟩), if_pos g]
    · rw [if_neg g]
      by_cases g2 : lok W u a b = true
      · rw [if_pos ⟨fun q => g q.2, g2⟩, if_pos g2]
      · rw [if_neg (fun q => g2 q.2), if_neg g2]
theorem phi_44 (h : lOk W) (met : Nat → Nat → Bool) : phi W met ≤ 44 := by
  have e : ∀ k, k ≤ 4 → fb_ct (fun q => phB W met (q / 48) (q % 48)) (48 * k) ≤ 11 * k := fun k => by
    induction k with
    | zero => intro _; exact Nat.le_refl _
    | succ k ih =>
      intro hk
      have ih := ih (by omega)
      rw [show 48 * (k + 1) = 48 * k + 48 by omega, fb_ct_split]
      have e1 : fb_ct (fun j => phB W met ((48 * k + j) / 48) ((48 * k + j) % 48)) 48 = fb_ct (fun j => phB W met ((48 * k + j) / 48) ((48 * k + j) % 48)) 12 := fb_ct_ext (by omega) (fun j h1 h2 => by
        show phB W met ((48 * k + j) / 48) ((48 * k + j) % 48) = false
        rw [show (48 * k + j) / 48 = k by omega, show (48 * k + j) % 48 = j by omega]
        unfold phB
        rw [tLv_12 h (show k < 4 by omega) h1, Bool.false_and, Bool.and_false])
      have e2 := fb_ct_split (fun j => phB W met ((48 * k + j) / 48) ((48 * k + j) % 48)) 1 11
      have e3 := fb_ct_le (fun j => phB W met ((48 * k + (1 + j)) / 48) ((48 * k + (1 + j)) % 48)) 11
      have e4 : fb_ct (fun j => phB W met ((48 * k + j) / 48) ((48 * k + j) % 48)) 1 = 0 := fb_ct_zero.mpr (fun j hj => by
        show phB W met ((48 * k + j) / 48) ((48 * k + j) % 48) = false
        rw [show (48 * k + j) % 48 = 0 by omega]
        rfl)
      rw [show 1 + 11 = 12 from rfl] at e2
      rw [e1, e2, e4]
      omega
  have := e 4 (Nat.le_refl _)
  exact this
theorem lq_f_loop (hN : 20000 ≤ N) (h : lOk W) {Ft : List Nat} (w2 : wOk (wFd W Ft)) (hm : m < 4) {form a v kl sc : Nat} (hf : form < 7) (ha : a < 3) (hv : v < 60) (hkl : kl < 3) (hsc : sc < 3) (hfit : ∀ T e, wFt W T e = lFit (wH W) T e form a v (kl : Nat)) : ∀ (n f : Nat) (met : Nat → Nat → Bool) (st F : List Nat) (S : kS) (L : lS), f < n → st.length + phi W met ≤ f → lpF W (wU W m) sc f met st F = Ft → FI L W met st F → kRel S (wFd W Ft) → ∃ S' L', pL_follows_176 N (pL_follows_518 N) n (zI (m : Nat)) (zI (form : Nat)) (zI (a : Nat)) (zI (v : Nat)) (zI (kl : Nat)) (zI (sc : Nat)) (zI (Ft.length : Nat)) (zI (st.length : Nat)) (zI (F.length : Nat)) (0 : Int32) (1 : Int32) S L (23 + 11 * F.length) (507 + 435 * F.length) = some (zB true, S', L') ∧ kRel S' (wFd W Ft) ∧ lRel L' W
  | 0, f, met, st, F, S, L, hn, _, _, _, _ => by omega
  | n + 1, f, met, [], F, S, L, hn, hp, hl, I, hk => by
    have hl2 : lpF W (wU W m) sc f met [] F = F := by cases f <;> rfl
    have eF : Ft = F := by rw [← hl, hl2]
    have hFl : F.length ≤ 45 := by
      have h1 : F.length + ([] : List Nat).length + phi W met ≤ 45 := I.2.2.2.2
      omega
    have kno := k_found_no (N := N) w2 hk (i := F.length) (by show Ft.length ≤ F.length; rw [eF]; exact Nat.le_refl _) (by omega)
    obtain ⟨S1, s1, s2, s3⟩ := lc_13 (N := N) (L := L) (b := 0) (c := 0) (d := 0) (ans_1 kno)
    refine ⟨S1, L, ?_, s3, I.1⟩
    unfold pL_follows_176
    rw [if_pos (show zI (([] : List Nat).length : Nat) ≤ (0 : Int32) by decide)]
    simp only [pL_follows_518]
    rw [if_neg (show ¬ (1 : Int32) = 0 by decide), eF, if_pos rfl, s1, lbb_i (by omega), if_pos (show zI (-9) = (-9 : Int32) from rfl), zlB_1 (by omega)]
  | n + 1, 0, met, x :: st, F, S, L, hn, hp, hl, I, hk => by
    rw [List.length_cons] at hp
    omega
  | n + 1, f + 1, met, x :: st, F, S, L, hn, hp, hl, I, hk => by
    have e : lpF W (wU W m) sc (f + 1) met (x :: st) F = lpF W (wU W m) sc f (arr W 193 met (x / 100) (x % 100)).1 (nxS W sc (arr W 193 met (x / 100) (x % 100)).2 st) (nxF W (wU W m) (arr W 193 met (x / 100) (x % 100)).2 F) := rfl
    rw [e] at hl
    clear e
    generalize hao : arr W 193 met (x / 100) (x % 100) = r at hl
    obtain ⟨met', o⟩ := r
    have hl : lpF W (wU W m) sc f met' (nxS W sc o st) (nxF W (wU W m) o F) = Ft := hl
    rw [← itS_f, ← itF_f] at hl
    obtain ⟨t, ht⟩ := lpF_pre (W := W) (u := wU W m) (sc := sc) f met' (itS W sc false o st) (itF W (wU W m) sc false o F)
    rw [hl] at ht
    obtain ⟨S1, L1, q1, q2, q3, q4⟩ := lq_f_it (N := N) hN h w2 hm hf ha hv hkl hsc hfit (n := n) (x22 := zI (Ft.length : Nat)) (fb := false) hao hk I ⟨t, ht⟩ (pL_follows_518 N)
    rw [List.length_cons] at hp
    obtain ⟨S', L', r1, r2, r3⟩ := lq_f_loop hN h w2 hm hf ha hv hkl hsc hfit n f met' (itS W sc false o st) (itF W (wU W m) sc false o F) S1 L1 (by omega) (by omega) hl q3 q2
    refine ⟨S', L', ?_, r2, r3⟩
    have q1 : pL_follows_176 N (pL_follows_518 N) (n + 1) (zI (m : Nat)) (zI (form : Nat)) (zI (a : Nat)) (zI (v : Nat)) (zI (kl : Nat)) (zI (sc : Nat)) (zI (Ft.length : Nat)) (zI ((x :: st).length : Nat)) (zI (F.length : Nat)) (0 : Int32) (1 : Int32) S L (23 + 11 * F.length) (507 + 435 * F.length) = _ := q1
    rw [q1]
    exact r1
theorem lq_f_135 {S : kS} {L : lS} {x1 x16 x17 x18 x19 x20 x21 x22 : Int32} {C D : Nat} (K : Int32 → Int32 → Int32 → Int32 → Int32 → Int32 → Int32 → Int32 → kS → lS → Nat → Nat → Option (Int32 × kS × lS)) : ∀ (n k c : Nat) (L1 : lS), c + k = 4 → k < n → frO L L1 → (∀ i, i < c → aI L1 11 i = 0) → ∃ L', pL_follows_135 N K n x1 x16 x17 x18 x19 x20 x21 x22 (zI (c : Nat)) S L1 C D = K x1 x16 x17 x18 x19 x20 x21 x22 S L' C D ∧ frO L L' ∧ ∀ i, i < 4 → aI L' 11 i = 0
  | 0, k, c, L1, _, hn, _, _ => by omega
  | n + 1, k, c, L1, hk, hn, f, hz => by
    simp only [pL_follows_135, slv_i, nm_i]
    rw [zL_4, il_le (by omega) (by omega) (by omega) (by omega)]
    cases k with
    | zero =>
      rw [if_pos (by omega)]
      exact ⟨L1, rfl, f, fun i hi => hz i (by omega)⟩
    | succ k =>
      rw [if_neg (by omega), gd_c (by omega) (by omega), zI_cn (by omega), zs1]
      exact lq_f_135 K n k (c + 1) _ (by omega) (by omega) (f.trans (frO_u (Or.inl rfl) _ _)) (fun i hi => by
        rw [aI_uI_s]
        by_cases g : i = c
        · rw [g, upd_s]
        · rw [upd_o _ _ g]
          exact hz i (by omega))
theorem lq_f_65 (hN : 20000 ≤ N) (h : lOk W) {S : kS} {L : lS} (K : kRel S W) (R : lRel L W) (hm : m < 4) (Q : lTr L (wTr W m)) {form a v kl b : Nat} (hf : form < 7) (ha : a < 3) (hv : v < 60) (hkl : kl < 3) (hb : b < wE W) : lGo (pL_follows_65 N (zI (b : Nat)) (zI (m : Nat)) z (zI (form : Nat)) (zI (a : Nat)) (zI (v : Nat)) (zI (kl : Nat)) S L 0 0) := by
  have hE := h.2.2.1
  obtain ⟨sc, hsc, l1⟩ := q_low (N := N) (L := L) (x := z >>> ((13 : Int32) &&& 31)) (n := 3) (by omega) (by omega)
  have l1 : pL_low N (z >>> ((13 : Int32) &&& 31)) (3 : Int32) L = _ := l1
  obtain ⟨S1, d1, d2, d3⟩ := lq_draws (N := N) (L := L) h.1 K hf (show a < hA (wH W) by rw [h.2.1.1]; exact ha) (show v < 1000 by omega) (show kl < hC (wH W) by rw [h.2.1.2]; exact hkl)
  have hO1 : lOk (wFl W (dPl form a v kl) (dKl form)) := ⟨d2, h.2⟩
  have hR1 : lRel L (wFl W (dPl form a v kl) (dKl form)) := R
  have hQ1 : lTr L (wTr (wFl W (dPl form a v kl) (dKl form)) m) := Q
  have hfit : ∀ T e, wFt (wFl W (dPl form a v kl) (dKl form)) T e = lFit (wH (wFl W (dPl form a v kl) (dKl form))) T e form a v (kl : Nat) := fun T e => wFt_l hf
  have hK1 : (wK (wFl W (dPl form a v kl) (dKl form))).length = 1 := dKl_1
  have hb1 : b < wE (wFl W (dPl form a v kl) (dKl form)) := hb
  have hE1 : wE (wFl W (dPl form a v kl) (dKl form)) ≤ 12 := hE
  generalize wFl W (dPl form a v kl) (dKl form) = W1 at *
  simp only [pL_follows_65]
  rw [l1, lba_i, d1, lbb_i (by omega), if_neg (show ¬ zB true = 0 by decide)]
  by_cases gl : tLv (wTr W1 m) (b : Nat) = true
  · obtain ⟨S2, p1, p2, p3⟩ := lc_11 (N := N) (L := L) (d := 0) (ans_ok (k_follow (N := N) hN d2 d3 hm (by omega) hsc hK1 gl))
    rw [p1, lbb_i (by omega), g36 (by omega), cn36 (by omega), if_pos ((lv_9 hQ1 (by omega)).mpr gl)]
    obtain ⟨L2, q1, q2, q3⟩ := lq_f_135 (N := N) (S := S2) (L := L) (x1 := zI (m : Nat)) (x16 := zI (form : Nat)) (x17 := zI (a : Nat)) (x18 := zI (v : Nat)) (x19 := zI (kl : Nat)) (x20 := zI (b : Nat)) (x21 := zI (sc : Nat)) (x22 := zI ((flF W1 m sc b).length : Nat)) (C := 23) (D := 507) (pL_follows_153 N) N 4 0 L (by omega) (by omega) frO_rf (fun i hi => by omega)
    have q1 : pL_follows_135 N (pL_follows_153 N) N (zI (m : Nat)) (zI (form : Nat)) (zI (a : Nat)) (zI (v : Nat)) (zI (kl : Nat)) (zI (b : Nat)) (zI (sc : Nat)) (zI ((flF W1 m sc b).length : Nat)) (0 : Int32) S2 L (0 + 12 + 11) (0 + 72 + 435) = _ := q1
    rw [q1]
    simp only [pL_follows_153, slv_i]
    have e100 : ((100 : Int32) * zI (m : Nat)) + zI (b : Nat) = zI ((100 * m + b : Nat) : Int) := by rw [zL_100, zI_mul, zI_add]; rfl
    have g0 : ∀ {β : Type} {K : Option β}, gd (0 : Int32) 64 K = K := gd_z (z := 0) (by omega) (by omega) (by omega)
    rw [g0, show (0 : Int32).toNatClampNeg = 0 from rfl, e100]
    obtain ⟨n1, hn1⟩ : ∃ n1, N = n1 + 1 := ⟨N - 1, by omega⟩
    have ph := phi_44 hO1 mt0
    have I0 : FI (uI L2 12 0 (zI ((100 * m + b : Nat) : Int))) W1 mt0 [100 * m + b] [] := by
      refine ⟨frO_lRel (q2.trans (frO_u (Or.inr rfl) _ _)) hR1, fun p q hp hq => ?_, fun s hs => ?_, fun x hx => ?_, ?_⟩
      · rw [aI_uI_o _ _ _ (by omega), q3 p hp, ib_0]
        rfl
      · have hs : s < 1 := hs
        obtain rfl : s = 0 := by omega
        rw [aI_uI_s]
        exact upd_s _ _ _
      · rw [List.mem_singleton.mp hx]
        omega
      · show 0 + 1 + phi W1 mt0 ≤ 45
        omega
    have ed : flF W1 m sc b = lpF W1 (wU W1 m) sc 192 (arr W1 193 mt0 m b).1 (bsS W1 sc (arr W1 193 mt0 m b).2) (bsF W1 (wU W1 m) sc (arr W1 193 mt0 m b).2) := rfl
    have exx : (100 * m + b) / 100 = m ∧ (100 * m + b) % 100 = b := by omega
    generalize flF W1 m sc b = Ft at *
    generalize hao : arr W1 193 mt0 m b = r at ed
    obtain ⟨met', o⟩ := r
    have ed : Ft = lpF W1 (wU W1 m) sc 192 met' (bsS W1 sc o) (bsF W1 (wU W1 m) sc o) := ed
    rw [← itS_t hsc, ← itF_t] at ed
    obtain ⟨t, ht⟩ := lpF_pre (W := W1) (u := wU W1 m) (sc := sc) 192 met' (itS W1 sc true o []) (itF W1 (wU W1 m) sc true o [])
    rw [← ed] at ht
    have hao : arr W1 193 mt0 ((100 * m + b) / 100) ((100 * m + b) % 100) = (met', o) := by rw [exx.1, exx.2]; exact hao
    obtain ⟨S3, L3, t1, t2, t3, t4⟩ := lq_f_it (N := N) hN hO1 p2 hm hf ha hv hkl hsc hfit (n := n1) (x22 := zI (Ft.length : Nat)) (fb := true) hao p3 I0 ⟨t, ht⟩ (pL_follows_518 N)
    obtain ⟨S4, L4, r1, r2, r3⟩ := lq_f_loop (N := N) hN hO1 p2 hm hf ha hv hkl hsc hfit n1 192 met' (itS W1 sc true o []) (itF W1 (wU W1 m) sc true o []) S3 L3 (by omega) (by
      have t4 : (itS W1 sc true o []).length + phi W1 met' + 1 ≤ 0 + 1 + phi W1 mt0 := t4
      omega) ed.symm t3 t2
    rw [← hn1] at t1
    have t1 : pL_follows_176 N (pL_follows_518 N) N (zI (m : Nat)) (zI (form : Nat)) (zI (a : Nat)) (zI (v : Nat)) (zI (kl : Nat)) (zI (sc : Nat)) (zI (Ft.length : Nat)) (1 : Int32) (0 : Int32) (1 : Int32) (1 : Int32) S2 (uI L2 12 0 (zI ((100 * m + b : Nat) : Int))) 23 507 = _ := t1
    rw [t1]
    exact ⟨S4, L4, wFd W1 Ft, r1, ⟨p2, hO1.2⟩, r2, r3⟩
  · have kn := k_noS (N := N) d2 d3 hm (by omega) hsc hK1 gl
    obtain ⟨S2, p1, p2, p3⟩ := lc_11 (N := N) (L := L) (d := 0) (ans_1 kn.2.2)
    rw [p1, lbb_i (by omega), g36 (by omega), cn36 (by omega), if_neg (fun q => gl ((lv_9 hQ1 (by omega)).mp q)), if_pos (show zI (-9) = (-9 : Int32) from rfl), zlB_1 (by omega)]
    exact ⟨S2, L, W1, rfl, hO1, p3, hR1⟩
theorem lq_follows (hN : 20000 ≤ N) (h : lOk W) {S : kS} {L : lS} (K : kRel S W) (R : lRel L W) (hm : m < 4) (Q : lTr L (wTr W m)) : lGo (pL_follows N (zI (m : Nat)) z S L) := by
  have hE1 := h.1.2.2.2.2.2.2.1.1
  have hE := h.2.2.1
  obtain ⟨form, hf, l1⟩ := q_low (N := N) (L := L) (x := z) (n := 7) (by omega) (by omega)
  have l1 : pL_low N z (7 : Int32) L = _ := l1
  obtain ⟨a, ha, l2⟩ := q_low (N := N) (L := L) (x := z >>> ((3 : Int32) &&& 31)) (n := 3) (by omega) (by omega)
  obtain ⟨v, hv, l3⟩ := q_low (N := N) (L := L) (x := z >>> ((5 : Int32) &&& 31)) (n := 5) (by omega) (by omega)
  have l3 : pL_low N (z >>> ((5 : Int32) &&& 31)) (5 : Int32) L = _ := l3
  obtain ⟨kl, hkl, l4⟩ := q_low (N := N) (L := L) (x := z >>> ((7 : Int32) &&& 31)) (n := 3) (by omega) (by omega)
  obtain ⟨d, hd, l5⟩ := q_low (N := N) (L := L) (x := z >>> ((9 : Int32) &&& 31)) (n := 2) (by omega) (by omega)
  have l5 : pL_low N (z >>> ((9 : Int32) &&& 31)) (2 : Int32) L = _ := l5
  obtain ⟨b, hb, l6⟩ := q_low (N := N) (L := L) (x := z >>> ((11 : Int32) &&& 31)) (n := wE W) (by omega) (by omega)
  simp only [pL_follows]
  rw [l1, lba_i, gq2, aq2 R, l2, lba_i, l3, lba_i, gq3, aq3 R, l4, lba_i, l5, lba_i]
  by_cases g : d = 0
  · rw [if_pos (by rw [g]; rfl)]
    exact lq_f_65 hN h K R hm Q hf ha (by omega) hkl (b := 0) (by omega)
  · rw [if_neg (show ¬ zI (d : Nat) = (0 : Int32) from nk g (by omega) (j := 0) (by omega)), gq0, aq0 R, l6, lba_i]
    exact lq_f_65 hN h K R hm Q hf ha (by omega) hkl hb
end LFQ
