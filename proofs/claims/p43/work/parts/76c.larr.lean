-- LEVEL 2, THE LAW: WHERE LINKS LEAD
section LAR
variable {N : Nat} {W : sW}
def frO (L L' : lS) : Prop := (∀ k, k ≠ 9 → k ≠ 11 → k ≠ 12 → aI L' k = aI L k) ∧ ∀ k, k ≠ 10 → aJ L' k = aJ L k
theorem frO.trans {L L1 L2 : lS} (h : frO L L1) (h2 : frO L1 L2) : frO L L2 := ⟨fun k a b c => (h2.1 k a b c).trans (h.1 k a b c), fun k hk => (h2.2 k hk).trans (h.2 k hk)⟩
theorem frO_rf {L : lS} : frO L L := ⟨fun _ _ _ _ => rfl, fun _ _ => rfl⟩
theorem frL.o {L L' : lS} (h : frL L L') : frO L L' := ⟨fun k a _ _ => h.1 k a, h.2⟩
theorem frO_u {L : lS} {k : Nat} (hk : k = 11 ∨ k = 12) (j : Nat) (v : Int32) : frO L (uI L k j v) := ⟨fun q _ a b => aI_uI_o _ _ _ (by omega), fun _ _ => rfl⟩
theorem frO_lRel {L L' : lS} (f : frO L L') (R : lRel L W) : lRel L' W := by
  obtain ⟨r1, r2, r3, r4, r5, r6, r7⟩ := R
  have e0 := f.1 0 (by omega) (by omega) (by omega)
  refine ⟨by rw [e0]; exact r1, by rw [e0]; exact r2, by rw [e0]; exact r3, ⟨by rw [e0]; exact r4.1, by rw [f.1 1 (by omega) (by omega) (by omega)]; exact r4.2⟩, by rw [e0]; exact r5, fun i hi => ?_, fun a i j ha hi hj => by rw [f.1 8 (by omega) (by omega) (by omega)]; exact r7 a i j ha hi hj⟩
  refine lCh_eq ?_ ?_ ?_ ?_ ?_ ?_ (r6 i hi)
  · rw [f.1 2 (by omega) (by omega) (by omega)]
  · rw [f.1 3 (by omega) (by omega) (by omega)]
  · rw [f.1 4 (by omega) (by omega) (by omega)]
  · rw [f.1 5 (by omega) (by omega) (by omega)]
  · rw [f.1 6 (by omega) (by omega) (by omega)]
  · rw [f.2 7 (by omega)]
def oR (L : lS) (met : Nat → Nat → Bool) : Prop := ∀ m e, m < 4 → e < 12 → ib (aI L 11 m) e = met m e
theorem rpl_lkr {H : sH} {cs : Nat → sCh} {e : Nat} (l : List Nat) : (∀ k ∈ l, cOk (cs k) ∧ lcOk (cs k)) → tLk (rpl H cs tNew l) e = -1 ∨ (0 ≤ tLk (rpl H cs tNew l) e ∧ tLk (rpl H cs tNew l) e < 12) ∨ (100 ≤ tLk (rpl H cs tNew l) e ∧ tLk (rpl H cs tNew l) e < 104) := by
  induction l using snoc_ind with
  | h0 => intro _; exact Or.inl rfl
  | h1 l k ih =>
    intro h
    have ih := ih (fun q hq => h q (List.mem_append_left _ hq))
    obtain ⟨hc, hl⟩ := h k (List.mem_append_right _ (List.mem_singleton.mpr rfl))
    rw [rpl_snoc, tLk_take]
    by_cases g : cK (cs k) = 5 ∧ cE (cs k) = e
    · have h5 := hc.2.2.2.2.2.2.2.2.1 g.1
      have h6 := hl.2.2.2.2.1 g.1
      rw [if_pos g]
      omega
    · rw [if_neg g]
      exact ih
theorem tLk_rg (h : lOk W) {m e : Nat} : tLk (wTr W m) e = -1 ∨ (0 ≤ tLk (wTr W m) e ∧ tLk (wTr W m) e < 12) ∨ (100 ≤ tLk (wTr W m) e ∧ tLk (wTr W m) e < 104) :=
  rpl_lkr (H := wH W) (cs := wC W) (lkn W m) (fun k hk => ⟨lkn_ok h.1 hk, h.2.2.2.2.2.2.1 k (wO_in h.1 (knl_sub.subset hk))⟩)
set_option maxRecDepth 8192 in
theorem lq_arr_15 (hN : 1000 ≤ N) (h : lOk W) : ∀ (n f m e : Nat) (met : Nat → Nat → Bool) (L : lS), f + 1 < n → unM met < f → m < 4 → e < 12 → lRel L W → oR L met → ∃ L', pL_arrives_15 N (pL_arrives_154 N) n (zI (m : Nat)) (zI (e : Nat)) (1 : Int32) L = some (zI (arS (arr W f met m e).2), L') ∧ frO L L' ∧ aI L' 12 = aI L 12 ∧ oR L' (arr W f met m e).1 ∧ (∀ a b, (arr W f met m e).2 = some (a, b) → b < 12 ∧ lTr L' (wTr W a))
  | 0, f, m, e, met, L, hn, _, _, _, _, _ => by omega
  | n + 1, 0, m, e, met, L, hn, hu, _, _, _, _ => by omega
  | n + 1, f + 1, m, e, met, L, hn, hu, hm, he, R, O => by
    obtain ⟨L1, p1, p2, p3⟩ := lq_lays (N := N) hN h R hm
    have e11 : aI L1 11 = aI L 11 := p2.1 11 (by omega)
    have e12 : aI L1 12 = aI L 12 := p2.1 12 (by omega)
    have O1 : oR L1 met := fun a b ha hb => by rw [e11]; exact O a b ha hb
    simp only [pL_arrives_15, slv_i]
    have g4 : ∀ {β : Type} {K : Option β}, gd (zI (m : Nat)) 4 K = K := gd_c hm (by omega)
    rw [if_neg (show ¬ (1 : Int32) = 0 by decide), p1, lba_i, g36 he, cn36 he, g4, zI_cn (by omega), il_ibit (by omega), O1 m e hm he]
    have un : arr W (f + 1) met m e = if tLv (wTr W m) (e : Nat) = true ∧ met m e = false then (if tLk (wTr W m) e = -1 then (mt2 met m e, some (m, e)) else if tLk (wTr W m) e < 100 then arr W f (mt2 met m e) m (tLk (wTr W m) e).toNat else arr W f (mt2 met m e) (tLk (wTr W m) e - 100).toNat e) else (met, none) := rfl
    by_cases gl : tLv (wTr W m) (e : Nat) = true
    · rw [if_pos ((lv_9 p3 he).mpr gl)]
      cases gm : met m e with
      | true =>
        rw [if_pos (show true = true from rfl), un, if_neg (show ¬ (tLv (wTr W m) (e : Nat) = true ∧ met m e = false) from fun q => by rw [gm] at q; cases q.2)]
        exact ⟨L1, rfl, p2.o, e12, O1, fun a b q => by cases q⟩
      | false =>
        have L2R : lRel (uI L1 11 m ((aI L1 11 m) ||| ((1 : Int32) <<< (zI (e : Nat) &&& 31)))) W := frO_lRel (frO_u (Or.inl rfl) _ _) (frL_lRel p2 R)
        have L2T : lTr (uI L1 11 m ((aI L1 11 m) ||| ((1 : Int32) <<< (zI (e : Nat) &&& 31)))) (wTr W m) := by
          refine ⟨fun q hq => ?_, fun q a v hq ha hv => p3.2 q a v hq ha hv⟩
          rw [aI_uI_o _ _ _ (show (9 : Nat) ≠ 11 by decide)]
          exact p3.1 q hq
        have L2O : oR (uI L1 11 m ((aI L1 11 m) ||| ((1 : Int32) <<< (zI (e : Nat) &&& 31)))) (mt2 met m e) := fun a b ha hb => by
          rw [aI_uI_s]
          by_cases g : a = m
          · rw [g, upd_s, ib_or, ib_shl1 (by omega) (by omega), O1 m b hm hb]
            by_cases g2 : b = e
            · rw [g2, mt2_s, decide_eq_true rfl, Bool.or_true]
            · rw [mt2_o (fun q => g2 q.2), decide_eq_false g2, Bool.or_false]
          · rw [upd_o _ _ g, mt2_o (fun q => g q.1)]
            exact O1 a b ha hb
        have L2F : frO L (uI L1 11 m ((aI L1 11 m) ||| ((1 : Int32) <<< (zI (e : Nat) &&& 31)))) := p2.o.trans (frO_u (Or.inl rfl) _ _)
        have L212 : aI (uI L1 11 m ((aI L1 11 m) ||| ((1 : Int32) <<< (zI (e : Nat) &&& 31)))) 12 = aI L 12 := by rw [aI_uI_o _ _ _ (by omega)]; exact e12
        have hu2 := unM_s hm (show e < 48 by omega) gm
        have hlk := tLk_rg h (m := m) (e := e)
        rw [if_neg (show ¬ false = true by decide), un, if_pos (show tLv (wTr W m) (e : Nat) = true ∧ met m e = false from ⟨gl, gm⟩), g4, g4]
        generalize uI L1 11 m ((aI L1 11 m) ||| ((1 : Int32) <<< (zI (e : Nat) &&& 31))) = L2 at *
        rw [lq_link hN h L2R hm he, lba_i]
        simp only [pL_arrives_109, pL_arrives_128, pL_arrives_149]
        have zz : tLk (wTr W m) e < 200 ∧ -2 < tLk (wTr W m) e := by omega
        have c0 : (zI (tLk (wTr W m) e) < (0 : Int32)) = (tLk (wTr W m) e < 0) := by rw [zL_0, zI_lt (by omega) (by omega) (by omega) (by omega)]
        have c1 : (zI (tLk (wTr W m) e) ≤ (99 : Int32)) = (tLk (wTr W m) e ≤ 99) := by rw [zL_99, zI_le (by omega) (by omega) (by omega) (by omega)]
        have c2 : ((100 : Int32) ≤ zI (tLk (wTr W m) e)) = (100 ≤ tLk (wTr W m) e) := by rw [zL_100, zI_le (by omega) (by omega) (by omega) (by omega)]
        simp only [c0, c1, c2]
        by_cases g1 : tLk (wTr W m) e = -1
        · obtain ⟨n1, rfl⟩ : ∃ n1, n = n1 + 1 := ⟨n - 1, by omega⟩
          simp only [if_pos g1, if_pos (show tLk (wTr W m) e < 0 by omega), if_pos (show tLk (wTr W m) e ≤ 99 by omega)]
          have e9 : pL_arrives_15 N (pL_arrives_154 N) (n1 + 1) (zI (m : Nat)) (zI (e : Nat)) (0 : Int32) L2 = some (zI (arS (some (m, e))), L2) := by
            simp only [pL_arrives_15]
            simp only [pL_arrives_154, if_true]
            rw [zL_100, zI_mul, zI_add]
            rfl
          rw [e9]
          refine ⟨L2, rfl, L2F, L212, L2O, fun a b q => ?_⟩
          have q : some (m, e) = some (a, b) := q
          cases q
          exact ⟨he, L2T⟩
        · simp only [if_neg g1, if_neg (show ¬ tLk (wTr W m) e < 0 by omega)]
          by_cases g2 : tLk (wTr W m) e < 100
          · obtain ⟨y, hy⟩ : ∃ y : Nat, tLk (wTr W m) e = y := ⟨(tLk (wTr W m) e).toNat, by omega⟩
            have hy12 : y < 12 := by omega
            simp only [if_pos g2, if_pos (show tLk (wTr W m) e ≤ 99 by omega), if_neg (show ¬ (100 : Int) ≤ tLk (wTr W m) e by omega)]
            rw [hy, Int.toNat_natCast]
            obtain ⟨L', q1, q2, q3, q4, q5⟩ := lq_arr_15 hN h n f m y (mt2 met m e) L2 (by omega) (by omega) hm hy12 L2R L2O
            exact ⟨L', q1, L2F.trans q2, q3.trans L212, q4, q5⟩
          · obtain ⟨y, hy⟩ : ∃ y : Nat, tLk (wTr W m) e - 100 = y := ⟨(tLk (wTr W m) e - 100).toNat, by omega⟩
            have hy4 : y < 4 := by omega
            simp only [if_neg g2, if_neg (show ¬ tLk (wTr W m) e ≤ 99 by omega), if_pos (show (100 : Int) ≤ tLk (wTr W m) e by omega)]
            rw [zL_100, zI_sub, hy, Int.toNat_natCast]
            obtain ⟨L', q1, q2, q3, q4, q5⟩ := lq_arr_15 hN h n f y e (mt2 met m e) L2 (by omega) (by omega) hy4 he L2R L2O
            exact ⟨L', q1, L2F.trans q2, q3.trans L212, q4, q5⟩
    · rw [un, if_neg (show ¬ (tLv (wTr W m) (e : Nat) = true ∧ met m e = false) from fun q => gl q.1), if_neg (show ¬ aI L1 9 (3 * e) = (1 : Int32) from fun q => gl ((lv_9 p3 he).mp q))]
      exact ⟨L1, rfl, p2.o, e12, O1, fun a b q => by cases q⟩
theorem lq_arrives (hN : 1000 ≤ N) (h : lOk W) {x : Nat} {met : Nat → Nat → Bool} {L : lS} (hx : x / 100 < 4) (hx2 : x % 100 < 12) (R : lRel L W) (O : oR L met) : ∃ L', pL_arrives N (zI (x : Nat)) L = some (zI (arS (arr W 193 met (x / 100) (x % 100)).2), L') ∧ frO L L' ∧ aI L' 12 = aI L 12 ∧ oR L' (arr W 193 met (x / 100) (x % 100)).1 ∧ (∀ a b, (arr W 193 met (x / 100) (x % 100)).2 = some (a, b) → b < 12 ∧ lTr L' (wTr W a)) := by
  have hu := unM_le met
  simp only [pL_arrives, nm_i]
  rw [show (100 : Int32) = zI ((100 : Nat) : Int) from rfl, z_mod (by omega) (by omega) (by omega), z_div (by omega) (by omega) (by omega)]
  exact lq_arr_15 hN h N 193 (x / 100) (x % 100) met L (by omega) (by omega) hx hx2 R O
end LAR
