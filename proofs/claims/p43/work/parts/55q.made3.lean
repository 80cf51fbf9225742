-- LEVEL 2, A CHANGE IS MADE: BY THE CLASS
/-- the class with a change more than the state, that is not signed yet -/
def kUns (S : kS) (W : sW) (c : sCh) : Prop := hR S (wH W) ∧ (kI S 5 = zI ((wD W).length : Nat) ∧ ∀ i (h : i < (wD W).length), kA S 6 i = zI (((wD W)[i].1 * 1000 + (wD W)[i].2 : Nat) : Int)) ∧ fcR S (wH W) (wP W) (wK W) ∧ (kn S = wN W + 1 ∧ (∀ k, k < wN W → cRS S k (wC W k)) ∧ cRS S (wN W) (cSg c 0 0 0)) ∧ (lgR S (wO W) ∧ ∀ k j, kC S k = some j → j < km S) ∧ (∀ m, m < 4 → tdR S m (wT W m)) ∧ (∀ m, m < 4 → kI S (17 + 4 * m) = zI (wU W m : Nat)) ∧ (∀ m, m < 4 → kI S (18 + 4 * m) = zI (gst (wT W m) m (wC W) (wN W) : Nat)) ∧ (∀ m e, m < 4 → e < 64 → lb (kL S m) e = (decide (e < 48) && wX W m e)) ∧ kI S 0 = zI (wE W : Nat) ∧ (∀ m, m < 4 → tR S m (wTr W m)) ∧ kA S (26 + 15 * 4 + 5) 0 = zI 0 ∧ (kI S 8 = zI ((wF W).length : Nat) ∧ ∀ i (h : i < (wF W).length), kA S 14 i = zI ((wF W)[i] : Nat))
/-- the state with the change -/
def wNx (W : sW) (m : Nat) (c : sCh) : sW := wMk (wH W) (wD W) (wP W) (wK W) (upf (wC W) (wN W) c) (wN W + 1) (ins (wO W) (plc (wC W) (wO W) (cR c)) (wN W)) (tNx (wT W) m) (wX W) (wU W) (wE W) (wF W)
theorem k_made {N : Nat} {S : kS} {W : sW} {m : Nat} {c : sCh} (hN : 900 ≤ N) (h : wOk W) (K : kUns S W c) (hm : m < 4) (hn : wN W < 250) (c0 : mkOk (wH W) (wC W) (wN W) (wE W) m (wO W) (wT W) c) : ∃ S', pX9_record N m (wN W) S = some (.inl (), S') ∧ kRel S' (wNx W m c) := by
  obtain ⟨k1, k2, k3, ⟨k4, k4b, k4c⟩, ⟨k5, k5b⟩, k6, k7, k8, k9, k10, k11, k12, k13⟩ := K
  have g := h.2.2.2.1
  have T := h.2.2.2.2.1
  obtain ⟨g1, g2, g3, ⟨ar, g4⟩, g5, g6, g7, g8, g9, g10⟩ := id g
  obtain ⟨b1, b2, b3, b4, b5, b6, b7⟩ := id c0
  have ho : ∀ k ∈ wO W, k < wN W := fun k hk => (g3 k).mp hk
  have hE := h.2.2.2.2.2.2.1
  have hg : gst (wT W m) m (wC W) (wN W) ≤ wN W := gst_le _ (fun k hk _ => by have := (g9 k hk).2; omega)
  have hco : ∀ k, k < wN W → cOk (wC W k) := fun k hk => (g4.2 k ((g3 k).mpr hk)).1
  have ec : cSg (cSg c 0 0 0) m (wT W m m m) (gst (wT W m) m (wC W) (wN W) + 1) = c := by
    have : cSg c (cM c) (cN c) (cS c) = c := rfl
    rw [b2, b3, b4] at this
    exact this
  have hw := wTr_ok h m
  have hwt := cWt_le b1
  have r := q_record (N := N) (cs := wC W) (k := wN W) (c := cSg c 0 0 0) hN hm k1 k5 (fun q hq => ⟨k4b q (ho q hq), hco q (ho q hq)⟩) (k6 m hm) (k8 m hm) (by omega) k4c (fun hk => by have := ho _ hk; omega) (by rw [ec]; exact b1) (by omega) g4.1 (by rw [ec]; exact mk_ne hm g T c0) ⟨k11 m hm, hw.1⟩ (by rw [ec]; omega)
  rw [ec] at r
  obtain ⟨S', e1, L, C, R, G, tr, f1, f2, f3, f4, f5, f6, f7, f8, f9, f10⟩ := r
  refine ⟨S', e1, ?_, ?_, ?_, ⟨?_, fun k hk => ?_⟩, ⟨L, ?_⟩, fun a ha => ?_, fun a ha => ?_, fun a ha => ?_, fun a e ha he => ?_, ?_, fun a ha => ?_, ?_, ?_⟩
  · exact fr_hR k1 (fun q hq => f1 q (by omega) (by omega) (by omega) (by omega)) (fun d hd => f2 d (by omega) (by omega))
  · exact ⟨by rw [f1 _ (by omega) (by omega) (by omega) (by omega)]; exact k2.1, by rw [f2 _ (by omega) (by omega)]; exact k2.2⟩
  · exact ⟨by rw [f1 _ (by omega) (by omega) (by omega) (by omega)]; exact k3.1, by rw [f1 _ (by omega) (by omega) (by omega) (by omega)]; exact k3.2.1, by rw [f2 8 (by omega) (by omega), f2 9 (by omega) (by omega), f2 10 (by omega) (by omega)]; exact k3.2.2⟩
  · rw [f5]; exact k4
  · show cRS S' k (upf (wC W) (wN W) c k)
    by_cases q : k = wN W
    · rw [q, upf_s]; exact C
    · rw [upf_o _ _ q]
      have hk : k < wN W + 1 := hk
      exact cRS_F f5 (f6 k q) f7 f8 f9 f10 (k4b k (by omega))
  · rw [f7, f8]; exact k5b
  · show tdR S' a (tNx (wT W) m a)
    by_cases q : a = m
    · subst q
      unfold tNx
      rw [up3_s]; exact R
    · unfold tNx
      rw [up3_o _ _ q]
      exact tdR_fr (f1 _ (by omega) (by omega) (by omega) (by omega)) (f2 _ (by omega) (by omega)) (k6 a ha)
  · rw [f1 _ (by omega) (by omega) (by omega) (by omega)]; exact k7 a ha
  · show kI S' (18 + 4 * a) = zI (gst (tNx (wT W) m a) a (upf (wC W) (wN W) c) (wN W + 1) : Nat)
    rw [gst_new hm ha T g8 b2 b3 b4]
    by_cases q : a = m
    · subst q; rw [if_pos rfl]; exact G
    · rw [if_neg q, f1 _ (by omega) (by omega) (by omega) (by omega)]; exact k8 a ha
  · rw [f4 _ (by omega) (by omega)]; exact k9 a e ha he
  · rw [f1 _ (by omega) (by omega) (by omega) (by omega)]; exact k10
  · show tR S' a (shw (wH W) (upf (wC W) (wN W) c) (tNx (wT W) m a) a (ins (wO W) (plc (wC W) (wO W) (cR c)) (wN W)))
    by_cases q : a = m
    · subst q
      rw [shw_own hm T g8 ho b2 b3 b4 g4.1 (fun k hk => (hco k hk).2.2.1)]
      exact tr
    · rw [shw_other hm T g8 ho b2 b3 ha q]
      exact tR_other (fun q a b => f1 q (by omega) (by omega) (by omega) (by omega)) (fun d a b => f2 d (by omega) (by omega)) (fun d a b => f3 d (by omega)) (f4 _ (by omega) (by omega)) (f4 _ (by omega) (by omega)) (k11 a ha)
  · rw [f2 _ (by omega) (by omega)]; exact k12
  · exact ⟨by rw [f1 _ (by omega) (by omega) (by omega) (by omega)]; exact k13.1, by rw [f2 _ (by omega) (by omega)]; exact k13.2⟩
/-- the state with the change is in order -/
theorem w_made {W : sW} {m : Nat} {c : sCh} (h : wOk W) (hm : m < 4) (hn : wN W < 250) (hk0 : cK c ≠ 0) (c0 : mkOk (wH W) (wC W) (wN W) (wE W) m (wO W) (wT W) c) : wOk (wNx W m c) := by
  obtain ⟨o1, o2, o3, o4, o5, o6, o7, o8⟩ := h
  have g := gc_new hm hn o7.1 o4 o5 c0
  rw [if_neg hk0] at g
  exact ⟨o1, o2, o3, g, tl_new hm o5 c0.2.1, o6, o7, o8⟩

