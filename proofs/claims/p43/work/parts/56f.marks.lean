-- LEVEL 2, THE CALLS LIVE AND MARKS
theorem fb_ct_ext {p : Nat → Bool} {a : Nat} : ∀ {b : Nat}, a ≤ b → (∀ k, a ≤ k → k < b → p k = false) → fb_ct p b = fb_ct p a
  | 0, h, _ => by rw [Nat.le_zero.mp h]
  | b + 1, h, g => by
    by_cases q : a = b + 1
    · rw [q]
    · rw [fb_ct_succ, g b (by omega) (by omega), fb_ct_ext (show a ≤ b by omega) (fun k h1 h2 => g k h1 (by omega))]
      rfl
theorem dd_del {H : sH} {cs : Nat → sCh} {y : Nat} : ∀ (l : List Nat) (T : sT), (∀ k ∈ l, cK (cs k) ≤ 8) → (tDd (rpl H cs T l) y = true ↔ tDd T y = true ∨ ∃ k ∈ l, cK (cs k) = 8 ∧ cE (cs k) = y)
  | [], T, _ => ⟨fun h => Or.inl h, fun h => by
    rcases h with h | ⟨k, h, -⟩
    · exact h
    · exact absurd h List.not_mem_nil⟩
  | k :: l, T, h => by
    have ih := dd_del (H := H) (cs := cs) (y := y) l (tTake H T (cs k)) (fun q hq => h q (List.mem_cons_of_mem _ hq))
    have hk := h k List.mem_cons_self
    have e : tDd (tTake H T (cs k)) y = true ↔ tDd T y = true ∨ (cK (cs k) = 8 ∧ cE (cs k) = y) := by
      unfold tTake
      by_cases k0 : cK (cs k) = 0
      · rw [if_pos k0]; exact ⟨fun g => Or.inl g, fun g => by rcases g with g | g; exact g; omega⟩
      rw [if_neg k0]
      by_cases k1 : cK (cs k) = 1
      · rw [if_pos k1]; exact ⟨fun g => Or.inl g, fun g => by rcases g with g | g; exact g; omega⟩
      rw [if_neg k1]
      by_cases k2 : cK (cs k) = 2
      · rw [if_pos k2]; exact ⟨fun g => Or.inl g, fun g => by rcases g with g | g; exact g; omega⟩
      rw [if_neg k2]
      by_cases k3 : cK (cs k) = 3
      · rw [if_pos k3]; exact ⟨fun g => Or.inl g, fun g => by rcases g with g | g; exact g; omega⟩
      rw [if_neg k3]
      by_cases k4 : cK (cs k) = 4
      · rw [if_pos k4]; exact ⟨fun g => Or.inl g, fun g => by rcases g with g | g; exact g; omega⟩
      rw [if_neg k4]
      by_cases k5 : cK (cs k) = 5
      · rw [if_pos k5]; exact ⟨fun g => Or.inl g, fun g => by rcases g with g | g; exact g; omega⟩
      rw [if_neg k5]
      by_cases k6 : cK (cs k) = 6
      · rw [if_pos k6]; exact ⟨fun g => Or.inl g, fun g => by rcases g with g | g; exact g; omega⟩
      rw [if_neg k6]
      by_cases k7 : cK (cs k) = 7
      · rw [if_pos k7]; exact ⟨fun g => Or.inl g, fun g => by rcases g with g | g; exact g; omega⟩
      rw [if_neg k7]
      show upf (tDd T) (cE (cs k)) true y = true ↔ _
      by_cases q : y = cE (cs k)
      · rw [q, upf_s]; exact ⟨fun _ => Or.inr ⟨by omega, rfl⟩, fun _ => rfl⟩
      · rw [upf_o _ _ q]; exact ⟨fun g => Or.inl g, fun g => by rcases g with g | g; exact g; exact absurd g.2.symm q⟩
    show tDd (rpl H cs (tTake H T (cs k)) l) y = true ↔ _
    rw [ih, e]
    constructor
    · rintro ((g | g) | ⟨q, g1, g2⟩)
      · exact Or.inl g
      · exact Or.inr ⟨k, List.mem_cons_self, g⟩
      · exact Or.inr ⟨q, List.mem_cons_of_mem _ g1, g2⟩
    · rintro (g | ⟨q, g1, g2⟩)
      · exact Or.inl (Or.inl g)
      · rcases List.mem_cons.mp g1 with rfl | g1
        · exact Or.inl (Or.inr g2)
        · exact Or.inr ⟨q, g1, g2⟩
/-- a master, by what m knows of it, knows some deletion of an entry that m knows -/
def kDp (W : sW) (m i e k : Nat) : Bool := decide (cK (wC W k) = 8) && (decide (cE (wC W k) = e) && (gotB (wT W m) m (wC W k) && gotB (wT W m) i (wC W k)))
def kDl (W : sW) (m i e : Nat) : Bool := anyF (kDp W m i e) 0 (wN W)
/-- it keeps a mark -/
def mkd (W : sW) (m e : Nat) : Bool := !wX W m e && kDl W m m e
section OL
variable {N : Nat} {S : kS} {W : sW} {T : sT}
theorem kDl_iff {m i e : Nat} : kDl W m i e = true ↔ ∃ k, k < wN W ∧ cK (wC W k) = 8 ∧ cE (wC W k) = e ∧ gotB (wT W m) m (wC W k) = true ∧ gotB (wT W m) i (wC W k) = true := by
  unfold kDl
  rw [anyF_iff]
  constructor
  · rintro ⟨k, -, h2, h3⟩
    unfold kDp at h3
    rw [Bool.and_eq_true, Bool.and_eq_true, Bool.and_eq_true, decide_eq_true_eq, decide_eq_true_eq] at h3
    exact ⟨k, by omega, h3.1, h3.2.1, h3.2.2.1, h3.2.2.2⟩
  · rintro ⟨k, h1, h2, h3, h4, h5⟩
    exact ⟨k, by omega, by omega, by unfold kDp; rw [decide_eq_true h2, decide_eq_true h3, h4, h5]; rfl⟩
theorem wDd (h : wOk W) {m e : Nat} : tDd (wTr W m) e = kDl W m m e := by
  obtain ⟨-, -, g3, ⟨ar, g4⟩, -⟩ := h.2.2.2.1
  have d := dd_del (H := wH W) (cs := wC W) (y := e) (knl (wT W m) m (wC W) (wO W)) tNew (fun k hk => (g4.2 k (knl_sub.subset hk)).1.1)
  have d : tDd (wTr W m) e = true ↔ _ := d
  rw [Bool.eq_iff_iff, d, kDl_iff]
  constructor
  · rintro (g | ⟨k, h1, h2, h3⟩)
    · have g : false = true := g
      exact Bool.noConfusion g
    · have hm := List.mem_filter.mp h1
      exact ⟨k, (g3 k).mp hm.1, h2, h3, hm.2, hm.2⟩
  · rintro ⟨k, h1, h2, h3, h4, -⟩
    exact Or.inr ⟨k, List.mem_filter.mpr ⟨(g3 k).mpr h1, h4⟩, h2, h3⟩
theorem kDl_lt (h : wOk W) {m i e : Nat} (he : wE W ≤ e) : kDl W m i e = false := by
  rw [Bool.eq_false_iff]
  intro g
  obtain ⟨k, h1, -, h3, -⟩ := kDl_iff.mp g
  have := (h.2.2.2.1.2.2.2.2.2.1 k h1).1
  omega
theorem mkd_lt (h : wOk W) {m e : Nat} (he : wE W ≤ e) : mkd W m e = false := by
  unfold mkd
  rw [kDl_lt h he, Bool.and_false]
/-- the class -/
theorem q_marks (h : wOk W) (K : kRel S W) {m : Nat} (hm : m < 4) : ∃ w, pX4_marked N m S = some (w, S) ∧ ∀ e, e < 64 → lb w e = (decide (e < 48) && mkd W m e) := by
  obtain ⟨w, e1, e2⟩ := q_marked (N := N) (m := m) (K.2.2.2.2.2.2.2.2.2.2.1 m hm) (dr := wX W m) (fun e he => K.2.2.2.2.2.2.2.2.1 m e hm he)
  refine ⟨w, e1, fun e he => ?_⟩
  rw [e2 e he, wDd h]
  unfold mkd
  rw [Bool.and_comm (kDl W m m e)]
theorem ct_marks (h : wOk W) {m : Nat} {w : Int64} (hw : ∀ e, e < 64 → lb w e = (decide (e < 48) && mkd W m e)) : fb_ct (lb w) 64 = fb_ct (mkd W m) (wE W) := by
  have hE := h.2.2.2.2.2.2.1
  rw [fb_ct_cong (q := fun e => decide (e < 48) && mkd W m e) (fun k hk => hw k hk), fb_ct_ext (a := wE W) (by omega) (fun k h1 h2 => by show (_ && _) = _; rw [mkd_lt h h1, Bool.and_false])]
  exact fb_ct_cong (fun k hk => by show (_ && _) = _; rw [decide_eq_true (show k < 48 by omega), Bool.true_and])
end OL
