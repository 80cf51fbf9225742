-- LEVEL 2, THE CLASS'S CALLS ALONE: ADD, EXCHANGE
section KH
variable {N : Nat} {S : kS} {W : sW} {m : Nat}
theorem k_add_no (h : wOk W) (K : kRel S W) (hm : m < 4) {p : Nat} (hp : p < 48) (hl : ¬ tLv (wTr W m) (p : Nat) = true) {z w : Int32} : kNo (pX9_add N (zI (m : Nat)) (zI (p : Nat)) z w S) 1 W := by
  have Q := kRel_t h K hm
  simp only [pX9_add]
  rw [g_master hm, bx_l, gn_l hm, g_entry Q (by omega) (by omega), if_neg hl, bx_r]
  exact ⟨S, rfl, h, K⟩
/-- whether the drafted values fit a class -/
def dFit (H : sH) (D : List (Nat × Nat)) (k : Int) : Prop := (∀ j, j < D.length → dOkI H D k j) ∧ hReq H k &&& (dSt D D.length ^^^ (-1)) = 0
theorem k_add (hN : 20000 ≤ N) (h : wOk W) (K : kRel S W) (hm : m < 4) {p : Nat} (hl : tLv (wTr W m) (p : Nat) = true) {z w : Int} (q1 : 0 ≤ z ∧ z < (hC (wH W) : Int)) (q2 : 0 ≤ w ∧ w < 100) (q3 : wN W < 250) (hE48 : wE W < 48) : ∃ b : Bool, (b = true ↔ dFit (wH W) (wD W) z) ∧ if (tMay (wH W) (wTr W m) (wU W m) (p : Int) 1 && (!tShd (wTr W m) (p : Int) w (-1) && b)) = true then kOk (pX9_add N (zI (m : Nat)) (zI (p : Nat)) (zI z) (zI w) S) (wE W : Nat) (wAd W m (wChA W m z (p : Int) w)) else kNo (pX9_add N (zI (m : Nat)) (zI (p : Nat)) (zI z) (zI w) S) 3 W := by
  have hy := tLv_lt hl
  have hp48 : p < 48 := by omega
  have hpt := tLv_th hp48 hl
  have Q := kRel_t h K hm
  have hlen := h.2.2.2.1.2.1
  have hE := h.2.2.2.2.2.2.1
  have hC8 := h.1.2.1
  have no : kNo (some (Sum.inr 3, S)) 3 W := ⟨S, rfl, h, K⟩
  obtain ⟨b, d1, d2⟩ := q_fits (N := N) (S := S) (kl := z) (by omega) K.1 h.1 (dK_of K) (dIn_of h) (by omega) (by omega)
  refine ⟨b, d2, ?_⟩
  simp only [pX9_add]
  have hi : hIs (wH W) z = true := by unfold hIs; rw [decide_eq_true q1.1, decide_eq_true q1.2]; rfl
  rw [g_master hm, bx_l, gn_l hm, g_entry Q (by omega) (by omega), if_pos hl, bx_l, g_class K.1 h.1 (by omega) (by omega), if_pos hi, bx_l, g_name (by omega) (by omega), if_pos q2, bx_l, g_room K.2.2.2.2.1.1 (by omega), if_pos (show (wO W).length < 250 by omega), bx_l, g_write (by omega) h K hm (by omega) (by omega)]
  by_cases q4 : tMay (wH W) (wTr W m) (wU W m) (p : Int) 1 = true
  · have ef := g_free (N := N) (S := S) (by omega) Q (place := (p : Int)) (name := w) (but := -1) (by omega) (by omega) (by omega) (by omega) (by omega) (by omega)
    have ef : pX9_needFreeName N m (zI (p : Nat)) (zI w) (-1) S = _ := ef
    rw [if_pos q4, bx_l, q4, Bool.true_and, ef]
    by_cases q5 : tShd (wTr W m) (p : Int) w (-1) = true
    · rw [if_pos q5, bx_r, q5, Bool.not_true, Bool.false_and, if_neg (by decide)]
      exact no
    · have nay : pX9_add_67 N 0 (zI (p : Nat)) (zI z) (zI w) m S = some (.inr 3, S) := by
        simp only [pX9_add_67]
        rw [k_need0, bx_r]
      rw [if_neg q5, bx_l, Bool.eq_false_iff.mpr q5, Bool.not_false, Bool.true_and, K.2.2.2.2.2.2.2.2.2.1, zL_48, il_le (by omega) (by omega) (by omega) (by omega), nay, if_neg (show ¬ (48 : Int) ≤ (wE W : Nat) by omega), d1, bk_i, il_B]
      cases b with
      | false =>
        rw [if_neg (by decide), if_neg (by decide)]
        exact no
      | true =>
        have n1 := k_need1 (N := N)
        have c0 := mk_add h hm q3 hE48 q1 (p := (p : Int)) (by omega) (by rw [Int.toNat_natCast]; exact hpt) (nm := w) q2
        obtain ⟨w1, S5, S9, j, w2, w3, w4, w5, U⟩ := k_newA (N := N) (c := wChA W m z (p : Int) w) h K rfl rfl rfl
        have w2 : pX0_init N (wN W) (0 : Int32) (zI (wE W : Nat)) (zI (p : Nat)) (zI z) (zI w) (nU S) = some ((), S5) := w2
        obtain ⟨S10, w6, K2⟩ := k_made (N := N) (W := wNo W) (by omega) (wNo_ok h) U hm q3 c0
        have w6 : pX9_record N m (wN W) (sC S9 (wN W) j) = some (.inl (), S10) := w6
        have W2 := wAd_ok h hm q3 hE48 (c := wChA W m z (p : Int) w) rfl c0
        have gn : ∀ {γ : Type} (A : Option γ), gNew S A = A := fun A => if_pos w1
        have hkn : kn S = wN W := K.2.2.2.1.1
        have hk10 : kn S10 = wN W + 1 := K2.2.2.2.1.1
        have hi0 : kI S10 0 = zI (wE W : Nat) := K2.2.2.2.2.2.2.2.2.2.1
        have hf : kF S10 (wN W) 1 = zI (wE W : Nat) := by
          have := (K2.2.2.2.1.2 (wN W) (by show wN W < wN W + 1; omega)).2.2.1
          have e : wC (wNx (wNo W) m (wChA W m z (p : Int) w)) (wN W) = wChA W m z (p : Int) w := upf_s _ _ _
          rw [e] at this
          exact this
        have K3 : kRel (sI S10 0 (zI ((wE W + 1 : Nat) : Int))) (wAd W m (wChA W m z (p : Int) w)) := by
          have u : ∀ q, q ≠ 0 → kI (sI S10 0 (zI ((wE W + 1 : Nat) : Int))) q = kI S10 q := fun q hq => upd_o _ _ hq
          have fo := K2.2.2.2.2.2.2.2.2.2.2.2.2
          have fc := K2.2.2.1
          exact kRel_e (W := wNx (wNo W) m (wChA W m z (p : Int) w)) (D := []) (en := wE W + 1) K2 (fun q hq => u q (by omega)) (fun _ _ => rfl) (fun _ _ => rfl) rfl rfl ⟨by rw [u 5 (by omega)]; exact K2.2.1.1, fun i hi => absurd hi (Nat.not_lt_zero i)⟩ ⟨by rw [u 6 (by omega)]; exact fc.1, by rw [u 7 (by omega)]; exact fc.2.1, fc.2.2⟩ (by rw [kI_sI, upd_s]) ⟨by rw [u 8 (by omega)]; exact fo.1, fo.2⟩
        have i0 : kI (nU S) 0 = zI (wE W : Nat) := K.2.2.2.2.2.2.2.2.2.1
        have yes : pX9_add_67 N 1 (zI (p : Nat)) (zI z) (zI w) m S = some (.inl (zI (wE W : Nat)), sI S10 0 (zI ((wE W + 1 : Nat) : Int))) := by
          simp only [pX9_add_67, svk_i]
          rw [n1, bx_l, gn, hkn, i0, w2, bk_i, gn_l (show wN W < kn S5 by omega), w4, bx_l, gn_l (show wN W < kn S9 by omega), gn_l (show wN W < kn (sC S9 (wN W) j) from by show wN W < kn S9; omega), w6, bx_l, hi0, zL_1, zI_add, show (wE W : Int) + 1 = ((wE W + 1 : Nat) : Int) by omega, gn_l (show wN W < kn (sI S10 0 (zI ((wE W + 1 : Nat) : Int))) from by show wN W < kn S10; omega), show kF (sI S10 0 (zI ((wE W + 1 : Nat) : Int))) (wN W) 1 = zI (wE W : Nat) from hf]
        rw [if_pos rfl, if_pos rfl, yes]
        exact ⟨_, rfl, W2, K3⟩
  · rw [if_neg q4, bx_r, Bool.eq_false_iff.mpr q4, Bool.false_and, if_neg (by decide)]
    exact no
/-- what is told and how many changes are got in an exchange -/
def exTl (W : sW) (g r most : Nat) : Nat → Nat → Nat := (exT (wC W) (wT W g) g r most (wO W) (wT W r) 0).1
def exNo (W : sW) (g r most : Nat) : Nat := (exT (wC W) (wT W g) g r most (wO W) (wT W r) 0).2
theorem k_exchange (hN : 20000 ≤ N) (h : wOk W) (K : kRel S W) {g r most : Nat} (hg : g < 4) (hr : r < 4) (hgr : g ≠ r) (hm2 : most ≤ 250) : kOk (pX9_exchange N (zI (g : Nat)) (zI (r : Nat)) (zI (most : Nat)) S) (exNo W g r most : Nat) (wEx W g r (exTl W g r most)) := by
  have g1 := h.2.2.2.1.1
  have g2 := h.2.2.2.1.2.1
  unfold exNo exTl
  simp only [pX9_exchange, pX9_exchange_30]
  rw [g_master hg, bx_l, gn_l hg, g_master hr, bx_l, gn_l hr, il_eq (by omega) (by omega) (by omega) (by omega), if_neg (by omega), zL_0, il_lt (by omega) (by omega) (by omega) (by omega), zL_250, il_le (by omega) (by omega) (by omega) (by omega), if_neg (by omega), if_pos (by omega)]
  obtain ⟨S2, c1, c2, c3, c4⟩ := q_exchange_46 (N := N) h K hg hr hgr (most := most) (by omega) (k114 := pX9_exchange_114 N) N (wO W).length 0 S (wT W r) 0 (by omega) (by omega) (by omega) frM.rf (K.2.2.2.2.2.1 r hr) (K.2.2.2.2.2.2.2.1 r hr) (fun _ q _ hq => by omega)
  have c1 : pX9_exchange_46 N (pX9_exchange_114 N) N (zI (most : Nat)) g r 0 0 S = _ := c1
  rw [List.drop_zero] at c1 c3 c4
  obtain ⟨a1, a2, a3, a4, a5, a6⟩ := exT_ok (cs := wC W) (tg := wT W g) (g := g) (r := r) (most := most) (wO W) (wT W r) 0
  generalize (exT (wC W) (wT W g) g r most (wO W) (wT W r) 0).1 = tl at c1 c3 c4 a1 a2 a3 a4 a5 a6 ⊢
  generalize (exT (wC W) (wT W g) g r most (wO W) (wT W r) 0).2 = c' at c1 c3 c4 a1 a2 a3 a4 a5 a6 ⊢
  have O : exO W g r tl := ⟨a1, a2, a3⟩
  have W4 : wOk (wEx W g r tl) := by
    have T4 := exM_le h hg hr hgr O
    obtain ⟨o1, o2, o3, o4, o5, o6, o7, o8⟩ := h
    exact ⟨o1, o2, o3, o4, T4, o6, o7, o8⟩
  have cls : ∃ S4, pX9_exchange_114 N g r (zI (c' : Nat)) S2 = some (.inl (zI (c' : Nat)), S4) ∧ kRel S4 (wEx W g r tl) := by
    simp only [pX9_exchange_114, pX9_exchange_130]
    rw [zL_0, il_le (by omega) (by omega) (by omega) (by omega)]
    by_cases q5 : c' = 0
    · have etl : tl = wT W r := a6 q5
      rw [if_pos (by omega)]
      have F : frX r S S2 := ⟨fun q a _ => c2.1 q a, fun c a _ => c2.2.1 c a, fun c _ => by rw [c2.2.2.2.1], fun q _ _ => by rw [c2.2.2.1], c2.2.2.2.2⟩
      obtain ⟨S4, e1, e2⟩ := k_exch (N := N) h K hg hr hgr O F c3 c4 (by
        rw [etl]
        exact tR_other (fun q _ _ => c2.1 q (by omega)) (fun c _ _ => c2.2.1 c (by omega)) (fun c _ _ => by rw [c2.2.2.2.1]) (by rw [c2.2.2.1]) (by rw [c2.2.2.1]) (K.2.2.2.2.2.2.2.2.2.2.1 r hr)) (by omega)
      exact ⟨S4, by rw [e1, bk_i], e2⟩
    · rw [if_neg (by omega)]
      obtain ⟨-, -, g3, ⟨ar, g4⟩, g5, -⟩ := h.2.2.2.1
      have hE := h.2.2.2.2.2.2.1
      have w := wTr_ok h r
      have rt0 : kA S2 (26 + 15 * r + 5) 0 = zI 0 := by
        rw [c2.2.1 _ (by omega)]
        have t := (K.2.2.2.2.2.2.2.2.2.2.1 r hr).2.2.2.2.1 0 (by omega) w.1.2.2.2.2.2.2.2.2.1
        rw [w.2.2] at t
        exact t
      obtain ⟨S3, e1, e2, e3, -⟩ := q_redo (N := N) (t := r) (ar := ar) (H := wH W) (tl := tl) (m := r) (by omega) hr (show (wO W).length ≤ 250 by omega) (S := S2) ⟨fr_hR K.1 (fun q hq => c2.1 q (by omega)) (fun c hc => c2.2.1 c (by omega)), lgR_fr (c2.1 _ (by omega)) c2.2.2.2.2 K.2.2.2.2.1.1, fun k hk => cRS_D c2.2.2.2.2 (K.2.2.2.1.2 k ((g3 k).mp hk)), c3⟩ rt0 g4 (by omega)
      have F : frX r S S3 := ⟨fun q a b => by rw [e3.2.2.2.1 q b, c2.1 q a], fun c a b => by rw [e3.1 c b, c2.2.1 c a], fun c b => by rw [e3.2.1 c b, c2.2.2.2.1], fun q a b => by rw [e3.2.2.1 q a b, c2.2.2.1], e3.2.2.2.2.trans c2.2.2.2.2⟩
      obtain ⟨S4, e4, e5⟩ := k_exch (N := N) h K hg hr hgr O F (tdR_fr (e3.2.2.2.1 _ (by omega)) (e3.1 _ (by omega)) c3) (by rw [e3.2.2.2.1 _ (by omega)]; exact c4) e2.1 (by omega)
      exact ⟨S4, by rw [e1, bk_i, e4, bk_i], e5⟩
  obtain ⟨S4, e1, e2⟩ := cls
  have c1 : pX9_exchange_46 N (pX9_exchange_114 N) N (zI (most : Nat)) g r (zI 0) (zI 0) S = _ := c1
  rw [c1, e1]
  exact ⟨S4, rfl, W4, e2⟩
end KH
