-- LEVEL 2, THE CALL EXCHANGE, ALL OF IT
def frX (r : Nat) (S S' : kS) : Prop := (∀ q, q ≠ 18 + 4 * r → (q < 40 + 3 * r ∨ 42 + 3 * r < q) → kI S' q = kI S q) ∧ (∀ c, c ≠ 19 + 2 * r → (c < 26 + 15 * r ∨ 26 + 15 * r + 14 < c) → kA S' c = kA S c) ∧ (∀ c, (c < 26 + 15 * r ∨ 26 + 15 * r + 14 < c) → kJ S' c = kJ S c) ∧ (∀ q, q ≠ 8 + 2 * r → q ≠ 9 + 2 * r → kL S' q = kL S q) ∧ S'.2.2.2.2 = S.2.2.2.2
section EZ
variable {N : Nat} {S : kS} {W : sW} {g r : Nat}
theorem ex_gst (h : wOk W) (hg : g < 4) (hr : r < 4) (hgr : g ≠ r) {tl : Nat → Nat → Nat} (O : exO W g r tl) {a : Nat} (ha : a < 4) {k : Nat} (hk : k < wN W) : gotB (exM W g r tl a) a (wC W k) = gotB (if a = r then tl else wT W a) a (wC W k) := by
  obtain ⟨g1, g2, g3, ⟨ar, g4⟩, -⟩ := h.2.2.2.1
  have hM := (g4.2 k ((g3 k).mpr hk)).1.2.2.1
  unfold gotB
  rw [exM_own h hg hr hgr O ha hM]
  by_cases e : a = r
  · rw [if_pos e, if_pos e, e]
  · rw [if_neg e, if_neg e]
theorem k_exch (h : wOk W) (K : kRel S W) (hg : g < 4) (hr : r < 4) (hgr : g ≠ r) {tl : Nat → Nat → Nat} (O : exO W g r tl) {S3 : kS} (F : frX r S S3) (A : tdR S3 r tl) (G : kI S3 (18 + 4 * r) = zI (gst tl r (wC W) (wN W) : Nat)) (T3 : tR S3 r (shw (wH W) (wC W) tl r (wO W))) (hN : 17 ≤ N) : ∃ S4, pX4_talkTo N g r S3 = some ((), S4) ∧ kRel S4 (wEx W g r tl) := by
  obtain ⟨k1, ⟨k2, k3⟩, ⟨k4, k5, k6⟩, ⟨k7, k7b⟩, ⟨k8, k9⟩, k10, k11, k12, k13, k14, k15, k16, ⟨k17, k18⟩⟩ := K
  obtain ⟨f1, f2, f3, f4, f5⟩ := F
  obtain ⟨d1, d2, d3, d4, d5, d6, d7, d8⟩ := kD_eq f5
  have Rg : tdR S3 g (wT W g) := tdR_fr (f1 _ (by omega) (by omega)) (f2 _ (by omega) (by omega)) (k10 g hg)
  obtain ⟨S4, e1, tg, tr, p1, p2, p3, p4, p5⟩ := q_talkTo (N := N) hN hgr Rg A
  have u : ∀ q, q ≠ 18 + 4 * r → (q < 40 + 3 * r ∨ 42 + 3 * r < q) → kI S4 q = kI S q := fun q a b => by rw [p1]; exact f1 q a b
  have a : ∀ c, c < 19 → kA S4 c = kA S c := fun c hc => by rw [p2 c (by omega) (by omega)]; exact f2 c (by omega) (by omega)
  have g3 := h.2.2.2.1.2.2.1
  refine ⟨S4, e1, fr_hR k1 (fun q hq => u q (by omega) (by omega)) (fun c hc => a c (by omega)), ⟨by rw [u _ (by omega) (by omega)]; exact k2, by rw [a _ (by omega)]; exact k3⟩, ⟨by rw [u _ (by omega) (by omega)]; exact k4, by rw [u _ (by omega) (by omega)]; exact k5, by rw [a _ (by omega), a _ (by omega), a _ (by omega)]; exact k6⟩, ⟨by rw [(kD_eq p5).1, d1]; exact k7, fun k hk => cRS_D p5 (cRS_D f5 (k7b k hk))⟩, ⟨lgR_fr (u _ (by omega) (by omega)) (p5.trans f5) k8, by rw [(kD_eq p5).2.2.1, (kD_eq p5).2.2.2.1, d3, d4]; exact k9⟩, fun m hm => ?_, fun m hm => by rw [u _ (by omega) (by omega)]; exact k11 m hm, fun m hm => ?_, fun m e hm he => ?_, by rw [u _ (by omega) (by omega)]; exact k14, fun m hm => ?_, by rw [p2 _ (by omega) (by omega), f2 _ (by omega) (by omega)]; exact k16, ⟨by rw [u _ (by omega) (by omega)]; exact k17, by rw [a _ (by omega)]; exact k18⟩⟩
  · show tdR S4 m (exM W g r tl m)
    unfold exM
    by_cases z : m = g
    · subst z; rw [up3_s]; exact tg
    · rw [up3_o _ _ z]
      by_cases z2 : m = r
      · subst z2; rw [up3_s]; exact tr
      · rw [up3_o _ _ z2]
        exact tdR_fr (u _ (by omega) (by omega)) (by rw [p2 _ (by omega) (by omega)]; exact f2 _ (by omega) (by omega)) (k10 m hm)
  · show kI S4 (18 + 4 * m) = zI (gst (exM W g r tl m) m (wC W) (wN W) : Nat)
    rw [gst_row (tl := if m = r then tl else wT W m) (wN W) (fun k hk => ex_gst h hg hr hgr O hm hk)]
    by_cases z : m = r
    · subst z
      rw [if_pos rfl, p1]
      exact G
    · rw [if_neg z, u _ (by omega) (by omega)]
      exact k12 m hm
  · rw [p3, f4 _ (by omega) (by omega)]
    exact k13 m e hm he
  · have e : wTr (wEx W g r tl) m = shw (wH W) (wC W) (if m = r then tl else wT W m) m (wO W) := by
      show shw (wH W) (wC W) (exM W g r tl m) m (wO W) = _
      exact shw_row (fun k hk => ex_gst h hg hr hgr O hm ((g3 k).mp hk))
    rw [e]
    have fin : ∀ {T : sT}, tR S3 m T → tR S4 m T := fun t => tR_other (fun q _ _ => by rw [p1]) (fun c _ _ => p2 c (by omega) (by omega)) (fun c _ _ => by rw [p4]) (by rw [p3]) (by rw [p3]) t
    by_cases z : m = r
    · subst z
      rw [if_pos rfl]
      exact fin T3
    · rw [if_neg z]
      refine fin (tR_other (fun q _ _ => f1 q (by omega) (by omega)) (fun c _ _ => f2 c (by omega) (by omega)) (fun c _ _ => f3 c (by omega)) (f4 _ (by omega) (by omega)) (f4 _ (by omega) (by omega)) (k15 m hm))
end EZ
