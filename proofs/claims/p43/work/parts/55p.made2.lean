-- LEVEL 2, A CHANGE IS MADE: THE STATE STAYS IN ORDER
theorem ins_sorted {cs : Nat → sCh} {o : List Nat} {n : Nat} {c : sCh} (ho : ∀ k ∈ o, k < n) (hs : o.Pairwise (fun a b => cR (cs a) < cR (cs b))) (hne : ∀ k ∈ o, cR (cs k) ≠ cR c) : (ins o (plc cs o (cR c)) n).Pairwise (fun a b => cR (upf cs n c a) < cR (upf cs n c b)) := by
  obtain ⟨p1, p2⟩ := plc_lt (r := cR c) hs
  have old : ∀ l : List Nat, (∀ k ∈ l, k ∈ o) → l.Pairwise (fun a b => cR (cs a) < cR (cs b)) → l.Pairwise (fun a b => cR (upf cs n c a) < cR (upf cs n c b)) := fun l hl h => by
    refine h.imp_of_mem (fun {a b} ha hb hab => ?_)
    rw [upf_o _ _ (by have := ho a (hl a ha); omega), upf_o _ _ (by have := ho b (hl b hb); omega)]
    exact hab
  unfold ins
  rw [List.pairwise_append, List.pairwise_cons]
  have so : ∀ a ∈ o, ∀ b ∈ o, True := fun _ _ _ _ => trivial
  refine ⟨old _ (fun k hk => List.mem_of_mem_take hk) (hs.sublist (List.take_sublist _ _)), ⟨fun k hk => ?_, old _ (fun k hk => List.mem_of_mem_drop hk) (hs.sublist (List.drop_sublist _ _))⟩, fun a ha b hb => ?_⟩
  · have hko := List.mem_of_mem_drop hk
    rw [upf_s, upf_o _ _ (by have := ho k hko; omega)]
    have := p2 k hk
    have := hne k hko
    omega
  · have hao := List.mem_of_mem_take ha
    have h1 := p1 a ha
    rw [upf_o _ _ (by have := ho a hao; omega)]
    rcases List.mem_cons.mp hb with rfl | hb
    · rw [upf_s]; exact h1
    · have hbo := List.mem_of_mem_drop hb
      have h2 := p2 b hb
      rw [upf_o _ _ (by have := ho b hbo; omega)]
      omega
theorem wS_app {cs : Nat → sCh} {l l' : List Nat} : wS cs (l ++ l') = wS cs l + wS cs l' := by
  unfold wS
  rw [List.map_append, List.sum_append]
theorem wS_cong {cs cs' : Nat → sCh} {l : List Nat} (h : ∀ k ∈ l, cs' k = cs k) : wS cs' l = wS cs l := by
  unfold wS
  rw [List.map_congr_left (fun k hk => by rw [h k hk])]
theorem wS_ins {cs : Nat → sCh} {o : List Nat} {n p : Nat} {c : sCh} (ho : ∀ k ∈ o, k < n) : wS (upf cs n c) (ins o p n) = wS cs o + cWt c := by
  unfold ins
  have e : wS cs o = wS cs (o.take p) + wS cs (o.drop p) := by rw [← wS_app, List.take_append_drop]
  rw [wS_app, wS_cons, upf_s, wS_cong (cs := cs) (l := o.take p) (fun k hk => upf_o _ _ (by have := ho k (List.mem_of_mem_take hk); omega)), wS_cong (cs := cs) (l := o.drop p) (fun k hk => upf_o _ _ (by have := ho k (List.mem_of_mem_drop hk); omega)), e]
  omega
theorem cWt_le {c : sCh} (h : cOk c) : cWt c ≤ 12 ∧ (cK c ≠ 0 → cWt c ≤ 1) := by
  unfold cWt
  by_cases k0 : cK c = 0
  · rw [if_pos k0]
    exact ⟨(h.2.2.2.2.2.1 k0).2.2.2.2.2.2.2.2, fun g => absurd k0 g⟩
  · rw [if_neg k0]
    split <;> exact ⟨by omega, fun _ => by omega⟩
theorem cIn_mono {H : sH} {en en' : Nat} {c : sCh} (h : cIn H en c) (hle : en ≤ en') : cIn H en' c := by
  obtain ⟨a, b, d, e⟩ := h
  exact ⟨by omega, fun g => ⟨(b g).1, by have := (b g).2.1; omega, (b g).2.2⟩, d, fun g => by have := e g; omega⟩
section WN
variable {H : sH} {cs : Nat → sCh} {n en m : Nat} {o : List Nat} {t : Nat → Nat → Nat → Nat} {c : sCh}
/-- what is asked of a change that is made -/
def mkOk (H : sH) (cs : Nat → sCh) (n en m : Nat) (o : List Nat) (t : Nat → Nat → Nat → Nat) (c : sCh) : Prop := cOk c ∧ cM c = m ∧ cN c = t m m m ∧ cS c = gst (t m) m cs n + 1 ∧ cIn H (if cK c = 0 then en + 1 else en) c ∧ (cK c = 0 → cE c = en ∧ tTh (shw H cs (t m) m o) (cY c).toNat = true) ∧ (cK c = 7 → tTh (shw H cs (t m) m o) (cX c).toNat = true)
theorem mk_rank (hm : m < 4) (g : gcOk H cs n o en) (c0 : mkOk H cs n en m o t c) {k : Nat} (hk : k < n) (hg : gotB (t m) m (cs k) = true) : cR (cs k) < cR c := by
  obtain ⟨-, -, g3, ⟨ar, g4⟩, -⟩ := g
  have := gst_ge (cs := cs) n k hk hg
  have h4 := ((g4.2 k ((g3 k).mpr hk)).1).2.2.1
  have := c0.2.2.2.1
  unfold cR
  omega
theorem mk_got (hm : m < 4) (g : gcOk H cs n o en) (T : tlOk cs n t) {k : Nat} (hk : k < n) (hkm : cM (cs k) = m) : gotB (t m) m (cs k) = true := by
  have h1 := nMk_lt (cs := cs) (n := n) hk
  have h2 := (T m m m hm hm hm).2.2
  have h3 := g.2.2.2.2.2.2.2.1 k hk
  unfold gotB
  rw [hkm] at h1 h3
  rw [hkm, decide_eq_true_eq]
  omega
theorem mk_ne (hm : m < 4) (g : gcOk H cs n o en) (T : tlOk cs n t) (c0 : mkOk H cs n en m o t c) : ∀ k ∈ o, cR (cs k) ≠ cR c := fun k hk e => by
  have hkn := (g.2.2.1 k).mp hk
  obtain ⟨ar, g4⟩ := g.2.2.2.1
  have h4 := ((g4.2 k hk).1).2.2.1
  have hcm := c0.2.1
  have hkm : cM (cs k) = m := by unfold cR at e; omega
  have := mk_rank hm g c0 hkn (mk_got hm g T hkn hkm)
  omega
/-- an entry that is there was added, and is known -/
theorem mk_par (hm : m < 4) (g : gcOk H cs n o en) (c0 : mkOk H cs n en m o t c) {ar : Nat → Nat} (hA : gAr cs ar o) {y : Nat} (hy : tTh (shw H cs (t m) m o) y = true) : y = 0 ∨ (y < en ∧ ar y < cR c) := by
  rcases th_add _ _ hy with h | ⟨k, h1, h2, h3⟩
  · exact Or.inl (of_decide_eq_true h)
  · right
    have hko := knl_sub.subset h1
    have hkn := (g.2.2.1 k).mp hko
    have hg : gotB (t m) m (cs k) = true := (List.mem_filter.mp h1).2
    have hr := mk_rank hm g c0 hkn hg
    have ha := ((hA.2 k hko).2.1 h2).1
    have hi := (g.2.2.2.2.2.1 k hkn).1
    rw [h3] at ha hi
    exact ⟨hi, by omega⟩
theorem gc_new (hm : m < 4) (hn : n < 250) (he : 1 ≤ en) (g : gcOk H cs n o en) (T : tlOk cs n t) (c0 : mkOk H cs n en m o t c) : gcOk H (upf cs n c) (n + 1) (ins o (plc cs o (cR c)) n) (if cK c = 0 then en + 1 else en) := by
  obtain ⟨g1, g2, g3, ⟨ar, g4⟩, g5, g6, g7, g8, g9, g10⟩ := id g
  obtain ⟨k1, k2, k3, k4, k5, k6, k7⟩ := id c0
  have ho : ∀ k ∈ o, k < n := fun k hk => (g3 k).mp hk
  have hp := plc_le (cs := cs) (o := o) (r := cR c)
  have hw := cWt_le k1
  refine ⟨by omega, by rw [ins_len hp, g2], fun k => by rw [ins_mem, g3]; omega, ⟨if cK c = 0 then upf ar en (cR c) else ar, ins_sorted ho g4.1 (mk_ne hm g T c0), fun k hk => ?_⟩, ?_, fun k hk => ?_, fun k q hk hq h1 h2 h3 => ?_, fun k hk => ?_, fun k hk => ?_, fun k q hkq hq h => ?_⟩
  · rcases ins_mem.mp hk with rfl | hko
    · unfold gCh
      rw [upf_s]
      refine ⟨k1, fun k0 => ?_, fun k7' h1 => ?_⟩
      · rw [if_pos k0]
        obtain ⟨a1, a2⟩ := k6 k0
        rw [a1, upf_s]
        refine ⟨rfl, fun h1 => ?_⟩
        rcases mk_par hm g c0 g4 a2 with h | ⟨h, h2⟩
        · omega
        · rw [upf_o _ _ (by omega)]; exact h2
      · rw [if_neg (by omega)]
        rcases mk_par hm g c0 g4 (k7 k7') with h | ⟨h, h2⟩
        · omega
        · exact h2
    · have hkn := ho k hko
      obtain ⟨b1, b2, b3⟩ := g4.2 k hko
      obtain ⟨i1, i2, i3, i4⟩ := g6 k hkn
      have ae : ∀ y : Nat, y < en → (if cK c = 0 then upf ar en (cR c) else ar) y = ar y := fun y hy => by
        split
        · rw [upf_o _ _ (by omega)]
        · rfl
      unfold gCh
      rw [upf_o _ _ (show k ≠ n by omega)]
      refine ⟨b1, fun h0 => ⟨by rw [ae _ i1]; exact (b2 h0).1, fun h1 => ?_⟩, fun h7 h1 => ?_⟩
      · rw [ae _ (by have := (i2 h0).2.1; omega)]; exact (b2 h0).2 h1
      · rw [ae _ (by have := i4 h7; omega)]; exact b3 h7 h1
  · rw [wS_ins ho]
    by_cases k0 : cK c = 0
    · rw [if_pos k0]; omega
    · rw [if_neg k0]
      have := hw.2 k0
      omega
  · by_cases q : k = n
    · subst q; rw [upf_s]; exact k5
    · rw [upf_o _ _ q]
      exact cIn_mono (g6 k (by omega)) (by split <;> omega)
  · by_cases q1 : k = n
    · by_cases q2 : q = n
      · rw [q1, q2]
      · subst q1
        rw [upf_s] at h1 h3
        rw [upf_o _ _ q2] at h2 h3
        have := (g6 q (by omega)).1
        have := (k6 h1).1
        omega
    · by_cases q2 : q = n
      · subst q2
        rw [upf_s] at h2 h3
        rw [upf_o _ _ q1] at h1 h3
        have := (g6 k (by omega)).1
        have := (k6 h2).1
        omega
      · rw [upf_o _ _ q1] at h1 h3
        rw [upf_o _ _ q2] at h2 h3
        exact g7 k q (by omega) (by omega) h1 h2 h3
  · by_cases q : k = n
    · subst q
      rw [upf_s, nMk_upf (Nat.le_refl _), k2, k3]
      exact (T m m m hm hm hm).2.2
    · rw [upf_o _ _ q, nMk_upf (by omega)]
      exact g8 k (by omega)
  · by_cases q : k = n
    · subst q
      rw [upf_s, k4]
      have := gst_le (tl := t m) (m := m) (cs := cs) (b := k) k (fun j hj _ => by have := (g9 j hj).2; omega)
      omega
    · rw [upf_o _ _ q]
      exact g9 k (by omega)
  · by_cases q2 : q = n
    · subst q2
      rw [upf_s] at h ⊢
      rw [upf_o _ _ (show k ≠ q by omega)] at h ⊢
      have := gst_ge (cs := cs) q k hkq (mk_got hm g T hkq (h.trans k2))
      omega
    · rw [upf_o _ _ q2] at h ⊢
      rw [upf_o _ _ (show k ≠ n by omega)] at h ⊢
      exact g10 k q hkq (by omega) h
end WN
