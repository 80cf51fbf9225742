-- LEVEL 2, A CHANGE IS MADE: WHAT BECOMES OF THE STATE
theorem ins_mem {o : List Nat} {p n k : Nat} : k ∈ ins o p n ↔ k = n ∨ k ∈ o := by
  unfold ins
  have e : k ∈ o ↔ k ∈ o.take p ∨ k ∈ o.drop p := by
    rw [← List.mem_append, List.take_append_drop]
  rw [List.mem_append, List.mem_cons, e]
  constructor
  · rintro (h | h | h)
    · exact Or.inr (Or.inl h)
    · exact Or.inl h
    · exact Or.inr (Or.inr h)
  · rintro (h | h | h)
    · exact Or.inr (Or.inl h)
    · exact Or.inl h
    · exact Or.inr (Or.inr h)
/-- what lies before and behind the place -/
theorem plc_lt {cs : Nat → sCh} {r : Nat} : ∀ {o : List Nat}, o.Pairwise (fun a b => cR (cs a) < cR (cs b)) → (∀ k ∈ o.take (plc cs o r), cR (cs k) < r) ∧ ∀ k ∈ o.drop (plc cs o r), ¬ cR (cs k) < r
  | [], _ => ⟨fun k h => absurd h List.not_mem_nil, fun k h => absurd h List.not_mem_nil⟩
  | a :: o, h => by
    have hp := List.pairwise_cons.mp h
    obtain ⟨i1, i2⟩ := plc_lt (r := r) hp.2
    by_cases q : cR (cs a) < r
    · have e : plc cs (a :: o) r = plc cs o r + 1 := by unfold plc; rw [List.countP_cons, if_pos (decide_eq_true q)]
      rw [e]
      exact ⟨fun k hk => by
        rcases List.mem_cons.mp (by rw [List.take_succ_cons] at hk; exact hk) with rfl | hk
        · exact q
        · exact i1 k hk, fun k hk => by
        rw [List.drop_succ_cons] at hk
        exact i2 k hk⟩
    · have z : plc cs (a :: o) r = 0 := by
        unfold plc
        rw [List.countP_eq_zero]
        intro k hk
        rw [decide_eq_true_eq]
        rcases List.mem_cons.mp hk with rfl | hk
        · exact q
        · have := hp.1 k hk; omega
      rw [z]
      refine ⟨fun k hk => absurd hk (by rw [List.take_zero]; exact List.not_mem_nil), fun k hk => ?_⟩
      rw [List.drop_zero] at hk
      rcases List.mem_cons.mp hk with rfl | hk
      · exact q
      · have := hp.1 k hk; omega
theorem plc_le {cs : Nat → sCh} {o : List Nat} {r : Nat} : plc cs o r ≤ o.length := List.countP_le_length
theorem rpl_cong {H : sH} {cs cs' : Nat → sCh} : ∀ {l : List Nat} {T : sT}, (∀ k ∈ l, cs' k = cs k) → rpl H cs' T l = rpl H cs T l
  | [], T, _ => rfl
  | k :: l, T, h => by
    show rpl H cs' (tTake H T (cs' k)) l = rpl H cs (tTake H T (cs k)) l
    rw [h k List.mem_cons_self, rpl_cong (fun q hq => h q (List.mem_cons_of_mem _ hq))]
theorem rpl_app {H : sH} {cs : Nat → sCh} {T : sT} {l l' : List Nat} : rpl H cs T (l ++ l') = rpl H cs (rpl H cs T l) l' := List.foldl_append
theorem filter_cong2 {p q : Nat → Bool} : ∀ {l : List Nat}, (∀ k ∈ l, p k = q k) → l.filter p = l.filter q := fun h => List.filter_congr h
theorem th_add {H : sH} {cs : Nat → sCh} {y : Nat} : ∀ (l : List Nat) (T : sT), tTh (rpl H cs T l) y = true → tTh T y = true ∨ ∃ k ∈ l, cK (cs k) = 0 ∧ cE (cs k) = y
  | [], T, h => Or.inl h
  | k :: l, T, h => by
    rcases th_add l (tTake H T (cs k)) h with g | ⟨q, g1, g2, g3⟩
    · rcases tBn_take (H := H) (T := T) (c := cs k) with ⟨a1, a2, -⟩ | ⟨a1, a2, -⟩
      · rw [a2] at g
        by_cases e : y = cE (cs k)
        · exact Or.inr ⟨k, List.mem_cons_self, a1, e.symm⟩
        · rw [upf_o _ _ e] at g; exact Or.inl g
      · rw [a2] at g; exact Or.inl g
    · exact Or.inr ⟨q, List.mem_cons_of_mem _ g1, g2, g3⟩
section WM
variable {H : sH} {cs : Nat → sCh} {n en m : Nat} {o : List Nat} {t : Nat → Nat → Nat → Nat} {c : sCh}
/-- the sums, numbers, what is told, once c is the change n of the master m -/
theorem nMk_upf {j : Nat} : ∀ {q : Nat}, q ≤ n → nMk (upf cs n c) j q = nMk cs j q
  | 0, _ => rfl
  | q + 1, h => by
    show nMk (upf cs n c) j q + (if cM (upf cs n c q) = j then 1 else 0) = nMk cs j q + (if cM (cs q) = j then 1 else 0)
    rw [nMk_upf (show q ≤ n by omega), upf_o _ _ (show q ≠ n by omega)]
theorem nMk_s {j : Nat} : nMk (upf cs n c) j (n + 1) = nMk cs j n + (if cM c = j then 1 else 0) := by
  show nMk (upf cs n c) j n + (if cM (upf cs n c n) = j then 1 else 0) = _
  rw [nMk_upf (Nat.le_refl _), upf_s]
theorem nMk_le {j : Nat} : ∀ q, nMk cs j q ≤ q
  | 0 => Nat.le_refl _
  | q + 1 => by
    have := nMk_le (j := j) q
    show nMk cs j q + (if cM (cs q) = j then 1 else 0) ≤ q + 1
    split <;> omega
theorem nMk_mono {j : Nat} : ∀ {p q : Nat}, p ≤ q → nMk cs j p ≤ nMk cs j q := by
  intro p q h
  induction q with
  | zero => rw [Nat.le_zero.mp h]; exact Nat.le_refl _
  | succ q ih =>
    by_cases e : p = q + 1
    · rw [e]; exact Nat.le_refl _
    · have := ih (by omega)
      show nMk cs j p ≤ nMk cs j q + _
      omega
theorem nMk_lt {k : Nat} (h : k < n) : nMk cs (cM (cs k)) k < nMk cs (cM (cs k)) n := by
  have h1 : nMk cs (cM (cs k)) (k + 1) = nMk cs (cM (cs k)) k + 1 := by
    show nMk cs (cM (cs k)) k + (if cM (cs k) = cM (cs k) then 1 else 0) = _
    rw [if_pos rfl]
  have := nMk_mono (cs := cs) (j := cM (cs k)) (show k + 1 ≤ n by omega)
  omega
/-- told anew -/
def tNx (t : Nat → Nat → Nat → Nat) (m : Nat) : Nat → Nat → Nat → Nat := up3 t m (up2 (t m) m m (t m m m + 1))
theorem tNx_m : tNx t m m m m = t m m m + 1 := by unfold tNx; rw [up3_s, up2_s]
theorem tNx_o {a b d : Nat} (h : ¬ (a = m ∧ b = m ∧ d = m)) : tNx t m a b d = t a b d := by
  unfold tNx
  by_cases q : a = m
  · subst q
    rw [up3_s, up2_o _ _ (fun g => h ⟨rfl, g.1, g.2⟩)]
  · rw [up3_o _ _ q]
/-- what a master knows of the old ones -/
theorem got_old (hm : m < 4) (T : tlOk cs n t) (hN : ∀ k, k < n → cN (cs k) = nMk cs (cM (cs k)) k) {k a : Nat} (hk : k < n) : gotB (tNx t m a) a (cs k) = gotB (t a) a (cs k) := by
  unfold gotB
  by_cases q : a = m ∧ cM (cs k) = m
  · obtain ⟨rfl, q2⟩ := q
    have h1 := nMk_lt (cs := cs) (n := n) hk
    have h2 := (T a a a hm hm hm).2.2
    have h3 := hN k hk
    rw [q2] at h1 h3
    rw [q2, tNx_m, decide_eq_true (show cN (cs k) < t a a a + 1 by omega), decide_eq_true (show cN (cs k) < t a a a by omega)]
  · rw [tNx_o (fun g => q ⟨g.1, g.2.2⟩)]
theorem got_new (hm : m < 4) (T : tlOk cs n t) (h1 : cM c = m) (h2 : cN c = t m m m) {a : Nat} (ha : a < 4) : gotB (tNx t m a) a c = decide (a = m) := by
  unfold gotB
  rw [h1, h2]
  by_cases q : a = m
  · subst q
    rw [tNx_m, decide_eq_true rfl, decide_eq_true (by omega)]
  · rw [tNx_o (fun g => q g.1), decide_eq_false q]
    have a1 := (T a a m ha ha hm).2.1
    have a2 := (T m m m hm hm hm).2.2
    rw [decide_eq_false (by omega)]
/-- the trees -/
theorem shw_other (hm : m < 4) (T : tlOk cs n t) (hN : ∀ k, k < n → cN (cs k) = nMk cs (cM (cs k)) k) (ho : ∀ k ∈ o, k < n) (h1 : cM c = m) (h2 : cN c = t m m m) {a p : Nat} (ha : a < 4) (ham : a ≠ m) : shw H (upf cs n c) (tNx t m a) a (ins o p n) = shw H cs (t a) a o := by
  have e : knl (tNx t m a) a (upf cs n c) (ins o p n) = knl (t a) a cs o := by
    unfold knl ins
    rw [List.filter_append, List.filter_cons, upf_s, got_new hm T h1 h2 ha, if_neg (by rw [decide_eq_true_eq]; exact ham), ← List.filter_append, List.take_append_drop]
    exact List.filter_congr (fun k hk => by rw [upf_o _ _ (by have := ho k hk; omega), got_old hm T hN (ho k hk)])
  unfold shw
  rw [e]
  exact rpl_cong (fun k hk => upf_o _ _ (by have := ho k (knl_sub.subset hk); omega))
theorem shw_own (hm : m < 4) (T : tlOk cs n t) (hN : ∀ k, k < n → cN (cs k) = nMk cs (cM (cs k)) k) (ho : ∀ k ∈ o, k < n) (h1 : cM c = m) (h2 : cN c = t m m m) (h3 : cS c = gst (t m) m cs n + 1) (hs : o.Pairwise (fun a b => cR (cs a) < cR (cs b))) (hM : ∀ k, k < n → cM (cs k) < 4) : shw H (upf cs n c) (tNx t m m) m (ins o (plc cs o (cR c)) n) = tTake H (shw H cs (t m) m o) c := by
  have no : (o.drop (plc cs o (cR c))).filter (fun k => gotB (t m) m (cs k)) = [] := by
    rw [List.filter_eq_nil_iff]
    intro k hk hg
    have hko := ho k (List.mem_of_mem_drop hk)
    have := (plc_lt (r := cR c) hs).2 k hk
    have g := gst_ge (cs := cs) n k hko hg
    have := hM k hko
    unfold cR at *
    omega
  have e0 : knl (t m) m cs o = (o.take (plc cs o (cR c))).filter (fun k => gotB (t m) m (cs k)) := by
    have e : o = o.take (plc cs o (cR c)) ++ o.drop (plc cs o (cR c)) := (List.take_append_drop _ _).symm
    unfold knl
    conv => lhs; rw [e]
    rw [List.filter_append, no, List.append_nil]
  have cg : ∀ k ∈ o, gotB (tNx t m m) m (upf cs n c k) = gotB (t m) m (cs k) := fun k hk => by
    rw [upf_o _ _ (by have := ho k hk; omega), got_old hm T hN (ho k hk)]
  have e : knl (tNx t m m) m (upf cs n c) (ins o (plc cs o (cR c)) n) = knl (t m) m cs o ++ [n] := by
    rw [e0]
    unfold knl ins
    rw [List.filter_append, List.filter_cons, upf_s, got_new hm T h1 h2 hm, if_pos (decide_eq_true rfl), List.filter_congr (fun k hk => cg k (List.mem_of_mem_take hk)), List.filter_congr (q := fun k => gotB (t m) m (cs k)) (fun k hk => cg k (List.mem_of_mem_drop hk)), no]
  unfold shw
  rw [e, rpl_app]
  show tTake H (rpl H (upf cs n c) tNew (knl (t m) m cs o)) (upf cs n c n) = _
  rw [upf_s, rpl_cong (fun k hk => upf_o _ _ (by have := ho k (knl_sub.subset hk); omega))]
theorem gst_upf {a : Nat} (hm : m < 4) (T : tlOk cs n t) (hN : ∀ k, k < n → cN (cs k) = nMk cs (cM (cs k)) k) : ∀ {q : Nat}, q ≤ n → gst (tNx t m a) a (upf cs n c) q = gst (t a) a cs q
  | 0, _ => rfl
  | q + 1, h => by
    show (if gotB (tNx t m a) a (upf cs n c q) then max (gst (tNx t m a) a (upf cs n c) q) (cS (upf cs n c q)) else gst (tNx t m a) a (upf cs n c) q) = (if gotB (t a) a (cs q) then max (gst (t a) a cs q) (cS (cs q)) else gst (t a) a cs q)
    rw [gst_upf hm T hN (show q ≤ n by omega), upf_o _ _ (show q ≠ n by omega), got_old hm T hN (show q < n by omega)]
theorem gst_new {a : Nat} (hm : m < 4) (ha : a < 4) (T : tlOk cs n t) (hN : ∀ k, k < n → cN (cs k) = nMk cs (cM (cs k)) k) (h1 : cM c = m) (h2 : cN c = t m m m) (h3 : cS c = gst (t m) m cs n + 1) : gst (tNx t m a) a (upf cs n c) (n + 1) = if a = m then gst (t m) m cs n + 1 else gst (t a) a cs n := by
  show (if gotB (tNx t m a) a (upf cs n c n) then max (gst (tNx t m a) a (upf cs n c) n) (cS (upf cs n c n)) else gst (tNx t m a) a (upf cs n c) n) = _
  rw [gst_upf hm T hN (Nat.le_refl _), upf_s, got_new hm T h1 h2 ha]
  by_cases q : a = m
  · subst q
    rw [if_pos (decide_eq_true rfl), if_pos rfl, h3, Nat.max_eq_right (by omega)]
  · rw [if_neg (by rw [decide_eq_true_eq]; exact q), if_neg q]
theorem tl_new (hm : m < 4) (T : tlOk cs n t) (h1 : cM c = m) : tlOk (upf cs n c) (n + 1) (tNx t m) := fun a i j ha hi hj => by
  obtain ⟨b1, b2, b3⟩ := T a i j ha hi hj
  have b4 := (T i i j hi hi hj).2.1
  rw [nMk_s, nMk_s, h1]
  have hmm := (T m m m hm hm hm).2.2
  have e3 : tNx t m a a a = nMk cs a n + (if m = a then 1 else 0) := by
    by_cases q : a = m
    · subst q; rw [tNx_m, if_pos rfl, hmm]
    · rw [tNx_o (fun g => q g.1), if_neg (fun g => q g.symm)]; exact b3
  have e2 : tNx t m i i j ≤ nMk cs j n + (if m = j then 1 else 0) := by
    by_cases q : i = m ∧ j = m
    · obtain ⟨q1, q2⟩ := q
      subst q1; subst q2
      rw [tNx_m, if_pos rfl, hmm]; exact Nat.le_refl _
    · rw [tNx_o (fun g => q ⟨g.1, g.2.2⟩)]; omega
  have e1 : tNx t m a i j ≤ tNx t m i i j := by
    by_cases q : i = m ∧ j = m
    · obtain ⟨q1, q2⟩ := q
      subst q1; subst q2
      rw [tNx_m]
      by_cases q3 : a = j
      · subst q3; rw [tNx_m]; exact Nat.le_refl _
      · rw [tNx_o (fun g => q3 g.1)]; omega
    · rw [tNx_o (fun g => q ⟨g.2.1, g.2.2⟩), tNx_o (fun g => q ⟨g.1, g.2.2⟩)]
      exact b1
  exact ⟨e1, e2, e3⟩
end WM
