-- LEVEL 2, CALLS THAT CHANGE: RENAME
section OA
variable {N : Nat} {S : kS} {W : sW}
/-- the change that a master makes -/
def wCh (W : sW) (m K E : Nat) (X Y : Int) : sCh := (K, E, X, Y, 0, [], m, wT W m m m, gst (wT W m) m (wC W) (wN W) + 1)
theorem th_lt (h : wOk W) {m y : Nat} (hy : tTh (wTr W m) y = true) : y < wE W := by
  rcases th_add _ _ hy with g | ⟨k, h1, h2, h3⟩
  · have : y = 0 := of_decide_eq_true g
    have := h.2.2.2.2.2.2.1.1
    omega
  · have hk := (h.2.2.2.1.2.2.1 k).mp (knl_sub.subset h1)
    have := (h.2.2.2.1.2.2.2.2.2.1 k hk).1
    omega
theorem mk_of (h : wOk W) {m K E : Nat} {X Y : Int} (hm : m < 4) (hn : wN W < 250) (hK : K ≠ 0) (hK8 : K ≤ 8) (hE : tTh (wTr W m) E = true) (hE2 : E < 48) (h1 : 1 ≤ K → K ≤ 3 → 0 ≤ X ∧ X < (hA (wH W) : Int) ∧ 0 ≤ Y ∧ Y < 1000) (h4 : K = 4 → 0 ≤ X ∧ X < 100) (h5 : K = 5 → -1 ≤ X ∧ X < 104) (h6 : K = 6 → 0 ≤ X ∧ X < 330 ∧ 0 ≤ Y ∧ Y ≤ 2) (h7 : K = 7 → 0 ≤ X ∧ X < 48 ∧ tTh (wTr W m) X.toNat = true) (h8 : K = 8 → 1 ≤ E) : mkOk (wH W) (wC W) (wN W) (wE W) m (wO W) (wT W) (wCh W m K E X Y) := by
  have g := h.2.2.2.1
  have T := h.2.2.2.2.1
  have h10 := h.1.1
  have ht : wT W m m m < 250 := by
    have := (T m m m hm hm hm).2.2
    have := nMk_le (cs := wC W) (j := m) (wN W)
    omega
  have hg : gst (wT W m) m (wC W) (wN W) ≤ wN W := gst_le _ (fun k hk _ => by have := (g.2.2.2.2.2.2.2.2.1 k hk).2; omega)
  refine ⟨⟨hK8, hE2, hm, ht, by show gst (wT W m) m (wC W) (wN W) + 1 ≤ 250; omega, fun e => absurd e hK, fun a b => ?_, h4, h5, h6, fun e => ⟨(h7 e).1, (h7 e).2.1⟩, h8⟩, rfl, rfl, rfl, ?_, fun e => absurd e hK, fun e => (h7 e).2.2⟩
  · obtain ⟨q1, q2, q3, q4⟩ := h1 a b
    exact ⟨q1, by show X < 10; omega, q3, q4⟩
  · rw [if_neg (show ¬ cK (wCh W m K E X Y) = 0 from hK)]
    exact ⟨th_lt h hE, fun e => absurd e hK, fun a b => (h1 a b).2.1, fun e => by
      obtain ⟨a1, a2, a3⟩ := h7 e
      have := th_lt h a3
      show X < (wE W : Int)
      omega⟩
end OA
