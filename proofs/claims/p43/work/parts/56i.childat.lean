-- LEVEL 2, THE CALL CHILD AT
theorem th_bn {H : sH} {cs : Nat → sCh} {y : Nat} : ∀ (l : List Nat) (T : sT), tTh (rpl H cs T l) y = true → (∃ k ∈ l, cK (cs k) = 0 ∧ cE (cs k) = y ∧ tBn (rpl H cs T l) y = cR (cs k)) ∨ (tTh T y = true ∧ tBn (rpl H cs T l) y = tBn T y)
  | [], T, h => Or.inr ⟨h, rfl⟩
  | k :: l, T, h => by
    rcases th_bn l (tTake H T (cs k)) h with ⟨q, g1, g2, g3, g4⟩ | ⟨g1, g2⟩
    · exact Or.inl ⟨q, List.mem_cons_of_mem _ g1, g2, g3, g4⟩
    · have g2 : tBn (rpl H cs T (k :: l)) y = tBn (tTake H T (cs k)) y := g2
      rcases tBn_take (H := H) (T := T) (c := cs k) with ⟨a1, a2, a3⟩ | ⟨a1, a2, a3⟩
      · rw [a2] at g1
        rw [a3] at g2
        by_cases e : y = cE (cs k)
        · rw [e, upf_s] at g2
          exact Or.inl ⟨k, List.mem_cons_self, a1, e.symm, by rw [e]; exact g2⟩
        · rw [upf_o _ _ e] at g1 g2
          exact Or.inr ⟨g1, g2⟩
      · rw [a2] at g1
        rw [a3] at g2
        exact Or.inr ⟨g1, g2⟩
theorem pw_inj {r : Nat → Nat} {l : List Nat} (h : l.Pairwise (fun a b => r a < r b)) {a b : Nat} (ha : a ∈ l) (hb : b ∈ l) (e : r a = r b) : a = b := by
  obtain ⟨i, hi, rfl⟩ := List.getElem_of_mem ha
  obtain ⟨j, hj, rfl⟩ := List.getElem_of_mem hb
  have g := List.pairwise_iff_getElem.mp h
  rcases Nat.lt_trichotomy i j with q | q | q
  · have := g i j hi hj q; omega
  · subst q; rfl
  · have := g j i hj hi q; omega
/-- siblings are shown with names of their own -/
def tUn (T : sT) : Prop := ∀ e f, 1 ≤ e → e < 48 → 1 ≤ f → f < 48 → tTh T e = true → tTh T f = true → tBn T e = tBn T f → e = f
theorem tSh_inj {T : sT} (W : tW T) (U : tUn T) {p : Int} {e f : Nat} (h1 : 1 ≤ e) (h2 : e < 48) (h3 : 1 ≤ f) (h4 : f < 48) (he : tCh T p e = true) (hf : tCh T p f = true) (g : tSh T e = tSh T f) : e = f := by
  unfold tCh at he hf
  rw [Bool.and_eq_true, decide_eq_true_eq] at he hf
  have ne := W.2.2.1 e h2
  have nf := W.2.2.1 f h4
  by_cases q : tBn T e = tBn T f
  · exact U e f h1 h2 h3 h4 (tLv_th h2 he.1) (tLv_th h4 hf.1) q
  · unfold tSh at g
    by_cases a : anyF (tCl T e) 1 47 = true
    · rw [if_pos a] at g
      by_cases b : anyF (tCl T f) 1 47 = true
      · rw [if_pos b] at g; omega
      · rw [if_neg b] at g; omega
    · rw [if_neg a] at g
      by_cases b : anyF (tCl T f) 1 47 = true
      · rw [if_pos b] at g; omega
      · rw [if_neg b] at g
        exfalso
        rcases Nat.lt_or_ge (tBn T e) (tBn T f) with k | k
        · refine b (anyF_iff.mpr ⟨e, h1, by omega, ?_⟩)
          unfold tCl
          rw [he.1, he.2, hf.2, g, decide_eq_true rfl, decide_eq_true rfl, decide_eq_true k]; rfl
        · refine a (anyF_iff.mpr ⟨f, h3, by omega, ?_⟩)
          unfold tCl
          rw [hf.1, he.2, hf.2, g, decide_eq_true rfl, decide_eq_true rfl, decide_eq_true (show tBn T f < tBn T e by omega)]; rfl
section OP
variable {N : Nat} {S : kS} {W : sW} {T : sT}
theorem wTr_un (h : wOk W) (m : Nat) : tUn (wTr W m) := fun e f h1 h2 h3 h4 he hf q => by
  obtain ⟨-, -, g3, ⟨ar, g4⟩, -, -, g7, -⟩ := h.2.2.2.1
  have z : ∀ y, 1 ≤ y → tTh (wTr W m) y = true → ∃ k ∈ wO W, cK (wC W k) = 0 ∧ cE (wC W k) = y ∧ tBn (wTr W m) y = cR (wC W k) := fun y hy ht => by
    rcases th_bn _ _ ht with ⟨k, a, b⟩ | ⟨a, -⟩
    · exact ⟨k, knl_sub.subset a, b⟩
    · have : y = 0 := of_decide_eq_true a
      omega
  obtain ⟨k, k1, k2, k3, k4⟩ := z e h1 he
  obtain ⟨j, j1, j2, j3, j4⟩ := z f h3 hf
  have : k = j := pw_inj (r := fun a => cR (wC W a)) g4.1 k1 j1 (by show cR _ = cR _; omega)
  rw [← k3, ← j3, this]
/-- the next child -/
def chP (T : sT) (p last : Int) (i : Nat) (nx : Int) : Prop := (nx = -1 ∧ ∀ f, 1 ≤ f → f < i → tCh T p f = true → tSh T f ≤ last) ∨ ∃ e : Nat, nx = e ∧ 1 ≤ e ∧ e < 48 ∧ tCh T p e = true ∧ last < tSh T e ∧ ∀ f, 1 ≤ f → f < i → tCh T p f = true → last < tSh T f → tSh T e ≤ tSh T f
/-- children by their names: l is their rising row -/
def chL (T : sT) (p : Int) (l : List Nat) : Prop := nSt l ∧ l.length ≤ 48 ∧ ∀ x, x ∈ l ↔ ∃ e, 1 ≤ e ∧ e < 48 ∧ tCh T p e = true ∧ x = tRk T e
def chE (l : List Nat) (i : Nat) : Int := if h : i < l.length then ((l[i] % 48 : Nat) : Int) else -1
def chS (T : sT) (l : List Nat) (i : Nat) : Int := if h : i < l.length then tSh T (l[i] % 48) else 1000
theorem tRk_mod {T : sT} {e : Nat} (he : e < 48) : tRk T e % 48 = e := by unfold tRk; omega
theorem chL_at {p : Int} {l : List Nat} (C : chL T p l) {i : Nat} (hi : i < l.length) : 1 ≤ l[i] % 48 ∧ l[i] % 48 < 48 ∧ tCh T p (l[i] % 48) = true ∧ l[i] = tRk T (l[i] % 48) := by
  obtain ⟨e, h1, h2, h3, h4⟩ := (C.2.2 _).mp (List.getElem_mem hi)
  have : l[i] % 48 = e := by rw [h4]; exact tRk_mod h2
  rw [this]
  exact ⟨h1, h2, h3, h4⟩
theorem chL_next {p : Int} {l : List Nat} (Wt : tW T) (U : tUn T) (C : chL T p l) {i : Nat} {last nx : Int} (hl : (i = 0 ∧ last = -1) ∨ ∃ j, i = j + 1 ∧ last = chS T l j) (P : chP T p last 48 nx) : nx = chE l i ∧ (if nx = -1 then 1000 else tSh T nx.toNat) = chS T l i := by
  have st := List.pairwise_iff_getElem.mp C.1
  have rk : ∀ {e f : Nat}, e < 48 → f < 48 → tSh T e < tSh T f → tRk T e < tRk T f := fun {e f} he hf h => by
    have a := tSh_rg Wt he
    have b := tSh_rg Wt hf
    unfold tRk
    omega
  -- which children come behind the last one
  have beh : ∀ {q : Nat} (hq : q < l.length), last < tSh T (l[q] % 48) ↔ i ≤ q := fun {q} hq => by
    obtain ⟨c1, c2, c3, c4⟩ := chL_at C hq
    have a := tSh_rg Wt c2
    rcases hl with ⟨h0, h1⟩ | ⟨j, h0, h1⟩
    · constructor <;> intro _ <;> omega
    · unfold chS at h1
      by_cases hj : j < l.length
      · rw [dif_pos hj] at h1
        obtain ⟨d1, d2, d3, d4⟩ := chL_at C hj
        constructor
        · intro g
          rw [h1] at g
          have := rk d2 c2 g
          rw [← d4, ← c4] at this
          rcases Nat.lt_or_ge j q with k | k
          · omega
          · exfalso
            by_cases e : q = j
            · subst e; omega
            · have := st q j hq hj (by omega); omega
        · intro g
          have := st j q hj hq (by omega)
          rw [h1]
          rcases Int.lt_trichotomy (tSh T (l[j] % 48)) (tSh T (l[q] % 48)) with k | k | k
          · exact k
          · have e := tSh_inj Wt U d1 d2 c1 c2 d3 c3 k
            rw [d4, c4, e] at this
            omega
          · have := rk c2 d2 k
            rw [← d4, ← c4] at this
            omega
      · rw [dif_neg hj] at h1
        constructor <;> intro _ <;> omega
  rcases P with ⟨a, b⟩ | ⟨e, a, b1, b2, b3, b4, b5⟩
  · have hi : ¬ i < l.length := fun hi => by
      obtain ⟨c1, c2, c3, c4⟩ := chL_at C hi
      have := b _ c1 c2 c3
      have := (beh hi).mpr (Nat.le_refl _)
      omega
    unfold chE chS
    rw [dif_neg hi, dif_neg hi, if_pos a]
    exact ⟨a, rfl⟩
  · obtain ⟨q, hq, eq⟩ := List.getElem_of_mem ((C.2.2 _).mpr ⟨e, b1, b2, b3, rfl⟩)
    have em : l[q] % 48 = e := by rw [eq]; exact tRk_mod b2
    have hiq := (beh hq).mp (by rw [em]; exact b4)
    have hi : i < l.length := by omega
    obtain ⟨c1, c2, c3, c4⟩ := chL_at C hi
    have h5 := b5 _ c1 c2 c3 ((beh hi).mpr (Nat.le_refl _))
    have : q = i := by
      rcases Nat.lt_or_ge i q with k | k
      · exfalso
        have s := st i q hi hq k
        by_cases k2 : tSh T (l[i] % 48) = tSh T e
        · have e2 := tSh_inj Wt U c1 c2 b1 b2 c3 b3 k2
          rw [c4, e2, eq] at s
          omega
        · have := rk b2 c2 (show tSh T e < tSh T (l[i] % 48) by omega)
          rw [← c4, ← eq] at this
          omega
      · omega
    subst this
    unfold chE chS
    rw [dif_pos hq, dif_pos hq, em]
    subst a
    exact ⟨rfl, by rw [if_neg (by omega), Int.toNat_natCast]⟩
end OP
