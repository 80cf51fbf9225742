-- LEVEL 2, THE CALL EXCHANGE: WHAT IS GOT
def exT (cs : Nat → sCh) (tg : Nat → Nat → Nat) (g r most : Nat) : List Nat → (Nat → Nat → Nat) → Nat → (Nat → Nat → Nat) × Nat
  | [], tl, c => (tl, c)
  | k :: l, tl, c => if c < most ∧ gotB tg g (cs k) = true ∧ gotB tl r (cs k) = false then exT cs tg g r most l (up2 tl r (cM (cs k)) (cN (cs k) + 1)) (c + 1) else exT cs tg g r most l tl c
theorem exT_full {cs : Nat → sCh} {tg : Nat → Nat → Nat} {g r most : Nat} : ∀ {l : List Nat} {tl : Nat → Nat → Nat} {c : Nat}, most ≤ c → exT cs tg g r most l tl c = (tl, c)
  | [], _, _, _ => rfl
  | k :: l, tl, c, h => by
    show (if _ then _ else exT cs tg g r most l tl c) = _
    rw [if_neg (fun q => by omega)]
    exact exT_full h
theorem gotB_iff {tl : Nat → Nat → Nat} {m : Nat} {c : sCh} : gotB tl m c = true ↔ cN c < tl m (cM c) := by
  unfold gotB
  rw [decide_eq_true_eq]
theorem gotB_no {tl : Nat → Nat → Nat} {m : Nat} {c : sCh} : gotB tl m c = false ↔ tl m (cM c) ≤ cN c := by
  unfold gotB
  rw [decide_eq_false_iff_not]
  omega
theorem exT_ok {cs : Nat → sCh} {tg : Nat → Nat → Nat} {g r most : Nat} : ∀ (l : List Nat) (tl : Nat → Nat → Nat) (c : Nat), (∀ a, a ≠ r → (exT cs tg g r most l tl c).1 a = tl a) ∧ (∀ b, tl r b ≤ (exT cs tg g r most l tl c).1 r b) ∧ (∀ b, (exT cs tg g r most l tl c).1 r b ≤ tl r b ∨ (exT cs tg g r most l tl c).1 r b ≤ tg g b) ∧ c ≤ (exT cs tg g r most l tl c).2 ∧ (exT cs tg g r most l tl c).2 ≤ c + l.length ∧ ((exT cs tg g r most l tl c).2 = c → (exT cs tg g r most l tl c).1 = tl)
  | [], tl, c => ⟨fun _ _ => rfl, fun _ => Nat.le_refl _, fun _ => Or.inl (Nat.le_refl _), Nat.le_refl _, Nat.le_refl _, fun _ => rfl⟩
  | k :: l, tl, c => by
    unfold exT
    rw [List.length_cons]
    by_cases q : c < most ∧ gotB tg g (cs k) = true ∧ gotB tl r (cs k) = false
    · rw [if_pos q]
      obtain ⟨a1, a2, a3, a4, a5, a6⟩ := exT_ok (cs := cs) (tg := tg) (g := g) (r := r) (most := most) l (up2 tl r (cM (cs k)) (cN (cs k) + 1)) (c + 1)
      have q1 := gotB_iff.mp q.2.1
      have q2 := gotB_no.mp q.2.2
      refine ⟨fun a ha => ?_, fun b => ?_, fun b => ?_, by omega, by omega, fun e => by omega⟩
      · rw [a1 a ha]
        funext b
        exact up2_o _ _ (fun e => ha e.1)
      · have := a2 b
        by_cases e : b = cM (cs k)
        · subst e
          rw [up2_s] at this
          omega
        · rw [up2_o _ _ (fun x => e x.2)] at this
          exact this
      · have := a3 b
        by_cases e : b = cM (cs k)
        · subst e
          rw [up2_s] at this
          omega
        · rw [up2_o _ _ (fun x => e x.2)] at this
          exact this
    · rw [if_neg q]
      obtain ⟨a1, a2, a3, a4, a5, a6⟩ := exT_ok (cs := cs) (tg := tg) (g := g) (r := r) (most := most) l tl c
      exact ⟨a1, a2, a3, a4, by omega, a6⟩
theorem nMk_ex {cs : Nat → sCh} {j v : Nat} : ∀ k, v < nMk cs j k → ∃ q, q < k ∧ cM (cs q) = j ∧ nMk cs j q = v
  | 0, h => by
    have h : v < 0 := h
    omega
  | k + 1, h => by
    have h : v < nMk cs j k + if cM (cs k) = j then 1 else 0 := h
    by_cases q : v < nMk cs j k
    · obtain ⟨a, b, c⟩ := nMk_ex k q
      exact ⟨a, by omega, c⟩
    · by_cases e : cM (cs k) = j
      · rw [if_pos e] at h
        exact ⟨k, by omega, e, by omega⟩
      · rw [if_neg e] at h
        omega
/-- a maker's number is that of one change -/
theorem cN_inj {cs : Nat → sCh} {n : Nat} (h : ∀ k, k < n → cN (cs k) = nMk cs (cM (cs k)) k) {k q : Nat} (hk : k < n) (hq : q < n) (hm : cM (cs k) = cM (cs q)) (hn : cN (cs k) = cN (cs q)) : k = q := by
  have a := h k hk
  have b := h q hq
  rcases Nat.lt_trichotomy k q with g | g | g
  · have := nMk_lt (cs := cs) (n := q) g
    rw [← a, hm, ← b] at this
    omega
  · exact g
  · have := nMk_lt (cs := cs) (n := k) g
    rw [← b, ← hm, ← a] at this
    omega
section EX
variable {W : sW} {g r : Nat}
/-- what the getter knows of what the giver knows, up to a place -/
def exI (W : sW) (g r i : Nat) (tl : Nat → Nat → Nat) : Prop := ∀ (q : Nat) (hq : q < (wO W).length), q < i → gotB (wT W g) g (wC W (wO W)[q]) = true → gotB tl r (wC W (wO W)[q]) = true
theorem ex_num (h : wOk W) {i : Nat} (hi : i < (wO W).length) {tl : Nat → Nat → Nat} (I : exI W g r i tl) (h1 : gotB (wT W g) g (wC W (wO W)[i]) = true) (h2 : gotB tl r (wC W (wO W)[i]) = false) : cN (wC W (wO W)[i]) = tl r (cM (wC W (wO W)[i])) := by
  obtain ⟨g1, g2, g3, ⟨ar, g4⟩, g5, g6, g7, g8, g9, g10⟩ := h.2.2.2.1
  have hk := (g3 _).mp (List.getElem_mem hi)
  have e1 := gotB_iff.mp h1
  have e2 := gotB_no.mp h2
  rcases Nat.lt_or_ge (tl r (cM (wC W (wO W)[i]))) (cN (wC W (wO W)[i])) with q | q
  · exfalso
    rw [g8 _ hk] at q
    obtain ⟨k, k1, k2, k3⟩ := nMk_ex _ q
    have hS := g10 k _ k1 hk k2
    have hR : cR (wC W k) < cR (wC W (wO W)[i]) := by
      unfold cR
      rw [k2]
      omega
    obtain ⟨p, hp, ep⟩ := List.getElem_of_mem ((g3 k).mpr (by omega))
    have hpi : p < i := by
      rcases Nat.lt_or_ge p i with z | z
      · exact z
      · exfalso
        by_cases e : p = i
        · subst e
          rw [ep] at hR
          omega
        · have := List.pairwise_iff_getElem.mp g4.1 i p hi hp (by omega)
          rw [ep] at this
          omega
    have hN : cN (wC W k) = tl r (cM (wC W (wO W)[i])) := by
      rw [g8 k (by omega), k2]
      exact k3
    have := I p hp hpi (by
      rw [ep, gotB_iff, k2]
      rw [g8 _ hk] at e1
      omega)
    rw [ep, gotB_iff, k2] at this
    omega
  · omega
theorem ex_inv {i : Nat} (hi : i < (wO W).length) {tl tl' : Nat → Nat → Nat} (I : exI W g r i tl) (h1 : ∀ b, tl r b ≤ tl' r b) (h2 : gotB (wT W g) g (wC W (wO W)[i]) = true → gotB tl' r (wC W (wO W)[i]) = true) : exI W g r (i + 1) tl' := fun q hq hqi hg => by
  by_cases e : q = i
  · subst e; exact h2 hg
  · have := gotB_iff.mp (I q hq (by omega) hg)
    exact gotB_iff.mpr (Nat.lt_of_lt_of_le this (h1 _))
theorem gst_learn {cs : Nat → sCh} {n k : Nat} {tl : Nat → Nat → Nat} (hN : ∀ k, k < n → cN (cs k) = nMk cs (cM (cs k)) k) (hk : k < n) (e : cN (cs k) = tl r (cM (cs k))) : gst (up2 tl r (cM (cs k)) (cN (cs k) + 1)) r cs n = if gst tl r cs n < cS (cs k) then cS (cs k) else gst tl r cs n := by
  have up : ∀ q, q < n → gotB tl r (cs q) = true → gotB (up2 tl r (cM (cs k)) (cN (cs k) + 1)) r (cs q) = true := fun q hq hg => by
    have := gotB_iff.mp hg
    rw [gotB_iff]
    by_cases z : cM (cs q) = cM (cs k)
    · rw [z, up2_s]
      rw [z] at this
      omega
    · rw [up2_o _ _ (fun x => z x.2)]
      exact this
  have own : gotB (up2 tl r (cM (cs k)) (cN (cs k) + 1)) r (cs k) = true := by
    rw [gotB_iff, up2_s]; omega
  have a1 := gst_ge (tl := up2 tl r (cM (cs k)) (cN (cs k) + 1)) (m := r) n k hk own
  have a2 : gst tl r cs n ≤ gst (up2 tl r (cM (cs k)) (cN (cs k) + 1)) r cs n := gst_le n (fun q hq hg => gst_ge n q hq (up q hq hg))
  have a3 : gst (up2 tl r (cM (cs k)) (cN (cs k) + 1)) r cs n ≤ max (gst tl r cs n) (cS (cs k)) := gst_le n (fun q hq hg => by
    by_cases z : cM (cs q) = cM (cs k)
    · have h2 := gotB_iff.mp hg
      rw [z, up2_s] at h2
      by_cases y : cN (cs q) = cN (cs k)
      · have := cN_inj hN hq hk z y
        rw [this]
        exact Nat.le_max_right _ _
      · have := gst_ge (tl := tl) (m := r) (cs := cs) n q hq (by rw [gotB_iff, z]; omega)
        exact Nat.le_trans this (Nat.le_max_left _ _)
    · have := gst_ge (tl := tl) (m := r) (cs := cs) n q hq (by
        have h2 := gotB_iff.mp hg
        rw [up2_o _ _ (fun x => z x.2)] at h2
        exact gotB_iff.mpr h2)
      exact Nat.le_trans this (Nat.le_max_left _ _))
  rw [Nat.max_def] at a3
  split at a3 <;> split <;> omega
/-- only a master's own row counts -/
theorem gst_row {cs : Nat → sCh} {tl tl' : Nat → Nat → Nat} {m : Nat} : ∀ n, (∀ k, k < n → gotB tl' m (cs k) = gotB tl m (cs k)) → gst tl' m cs n = gst tl m cs n
  | 0, _ => rfl
  | n + 1, h => by
    show (if gotB tl' m (cs n) then max (gst tl' m cs n) (cS (cs n)) else gst tl' m cs n) = (if gotB tl m (cs n) then max (gst tl m cs n) (cS (cs n)) else gst tl m cs n)
    rw [h n (by omega), gst_row n (fun k hk => h k (by omega))]
theorem shw_row {H : sH} {cs : Nat → sCh} {tl tl' : Nat → Nat → Nat} {m : Nat} {o : List Nat} (h : ∀ k ∈ o, gotB tl' m (cs k) = gotB tl m (cs k)) : shw H cs tl' m o = shw H cs tl m o := by
  unfold shw knl
  rw [List.filter_congr h]
/-- the two have told one another -/
def exM (W : sW) (g r : Nat) (tl : Nat → Nat → Nat) : Nat → Nat → Nat → Nat := up3 (up3 (wT W) r (mrg (wT W g) tl)) g (mrg (wT W g) tl)
def wEx (W : sW) (g r : Nat) (tl : Nat → Nat → Nat) : sW := wMk (wH W) (wD W) (wP W) (wK W) (wC W) (wN W) (wO W) (exM W g r tl) (wX W) (wU W) (wE W) (wF W)
/-- what the getter was told, and has got now -/
def exO (W : sW) (g r : Nat) (tl : Nat → Nat → Nat) : Prop := (∀ a, a ≠ r → tl a = wT W r a) ∧ (∀ b, wT W r r b ≤ tl r b) ∧ ∀ b, tl r b ≤ wT W r r b ∨ tl r b ≤ wT W g g b
theorem exM_own (h : wOk W) (hg : g < 4) (hr : r < 4) (hgr : g ≠ r) {tl : Nat → Nat → Nat} (O : exO W g r tl) {a b : Nat} (ha : a < 4) (hb : b < 4) : exM W g r tl a a b = if a = r then tl r b else wT W a a b := by
  have T := h.2.2.2.2.1
  obtain ⟨o1, o2, o3⟩ := O
  unfold exM
  by_cases e1 : a = g
  · subst e1
    rw [up3_s, if_neg hgr]
    show max (wT W a a b) (tl a b) = _
    rw [o1 a hgr]
    have := (T r a b hr ha hb).1
    exact Nat.max_eq_left this
  · rw [up3_o _ _ e1]
    by_cases e2 : a = r
    · subst e2
      rw [up3_s, if_pos rfl]
      show max (wT W g a b) (tl a b) = _
      have := (T g a b hg ha hb).1
      have := o2 b
      exact Nat.max_eq_right (by omega)
    · rw [up3_o _ _ e2, if_neg e2]
theorem exM_le (h : wOk W) (hg : g < 4) (hr : r < 4) (hgr : g ≠ r) {tl : Nat → Nat → Nat} (O : exO W g r tl) : tlOk (wC W) (wN W) (exM W g r tl) := fun m i j hm hi hj => by
  have T := h.2.2.2.2.1
  have Oo := O
  obtain ⟨o1, o2, o3⟩ := O
  have Tr := T r r j hr hr hj
  have Tg := T g g j hg hg hj
  have Ti := T i i j hi hi hj
  have up : wT W i i j ≤ exM W g r tl i i j := by
    rw [exM_own h hg hr hgr Oo hi hj]
    by_cases e : i = r
    · rw [if_pos e, e]; exact o2 j
    · rw [if_neg e]; exact Nat.le_refl _
  refine ⟨?_, ?_, ?_⟩
  · have both : mrg (wT W g) tl i j ≤ exM W g r tl i i j := by
      have t1 := (T g i j hg hi hj).1
      refine Nat.max_le.mpr ⟨Nat.le_trans t1 up, ?_⟩
      by_cases e : i = r
      · rw [exM_own h hg hr hgr Oo hi hj, if_pos e, e]; exact Nat.le_refl _
      · rw [o1 i e]
        exact Nat.le_trans (T r i j hr hi hj).1 up
    by_cases e1 : m = g
    · have : exM W g r tl m i j = mrg (wT W g) tl i j := by
        rw [e1]
        unfold exM
        rw [up3_s]
      rw [this]; exact both
    · by_cases e2 : m = r
      · have : exM W g r tl m i j = mrg (wT W g) tl i j := by
          rw [e2]
          unfold exM
          rw [up3_o _ _ (fun x => hgr x.symm), up3_s]
        rw [this]; exact both
      · have : exM W g r tl m i j = wT W m i j := by
          unfold exM
          rw [up3_o _ _ e1, up3_o _ _ e2]
        rw [this]
        exact Nat.le_trans (T m i j hm hi hj).1 up
  · rw [exM_own h hg hr hgr Oo hi hj]
    by_cases e : i = r
    · rw [if_pos e]
      rcases o3 j with z | z <;> omega
    · rw [if_neg e]; exact Ti.2.1
  · rw [exM_own h hg hr hgr Oo hm hm]
    have Tm := T m m m hm hm hm
    by_cases e : m = r
    · rw [if_pos e]
      subst e
      have := o2 m
      have Tg2 := T g g m hg hg hm
      rcases o3 m with z | z <;> omega
    · rw [if_neg e]; exact Tm.2.2
end EX
