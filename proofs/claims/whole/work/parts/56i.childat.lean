-- LEVEL 2, THE CALL CHILD AT
theorem th_bn {H : sH} {cs : Nat → sCh} {y : Nat} : ∀ (l : List Nat) (T : sT), tTh (rpl H cs T l) y = true → (∃ k ∈ l, cK (cs k) = 0 ∧ cE (cs k) = y ∧ tBn (rpl H cs T l) y = cR (cs k)) ∨ (tTh T y = true ∧ tBn (rpl H cs T l) y = tBn T y)
  | [], T, h => Or.inr ⟨h, rfl⟩
  | k :: l, T, h => by
    rcases th_bn l (tTake H T (cs k)) h with ⟨q, g1, g2, g3, g4⟩ | ⟨g1, g2⟩
    · exact Or.inl ⟨q, List.mem_cons_of_mem _ g1, g2, g3, g4⟩
    · have g2 : tBn (rpl H cs T (k :: l)) y = tBn (tTake H T (cs k)) y := g2
      rcases tBn_take (H := H) (T := T) (c := cs k) with ⟨a1, a2, a3⟩ | ⟨a1, a2, a3⟩
      · rw [a2] at g1
        rw [a3] at g2
        by_cases e : y = cE (cs k)
        · rw [e, upf_s] at g2
          exact Or.inl ⟨k, List.mem_cons_self, a1, e.symm, by rw [e]; exact g2⟩
        · rw [upf_o _ _ e] at g1 g2
          exact Or.inr ⟨g1, g2⟩
      · rw [a2] at g1
        rw [a3] at g2
        exact Or.inr ⟨g1, g2⟩
theorem pw_inj {r : Nat → Nat} {l : List Nat} (h : l.Pairwise (fun a b => r a < r b)) {a b : Nat} (ha : a ∈ l) (hb : b ∈ l) (e : r a = r b) : a = b := by
  obtain ⟨i, hi, rfl⟩ := List.getElem_of_mem ha
  obtain ⟨j, hj, rfl⟩ := List.getElem_of_mem hb
  have g := List.pairwise_iff_getElem.mp h
  rcases Nat.lt_trichotomy i j with q | q | q
  · have := g i j hi hj q; omega
  · subst q; rfl
  · have := g j i hj hi q; omega
/-- siblings are shown with names of their own -/
def tUn (T : sT) : Prop := ∀ e f, 1 ≤ e → e < 48 → 1 ≤ f → f < 48 → tTh T e = true → tTh T f = true → tBn T e = tBn T f → e = f
theorem tSh_inj {T : sT} (W : tW T) (U : tUn T) {p : Int} {e f : Nat} (h1 : 1 ≤ e) (h2 : e < 48) (h3 : 1 ≤ f) (h4 : f < 48) (he : tCh T p e = true) (hf : tCh T p f = true) (g : tSh T e = tSh T f) : e = f := by
  unfold tCh at he hf
  rw [Bool.and_eq_true, decide_eq_true_eq] at he hf
  have ne := W.2.2.1 e h2
  have nf := W.2.2.1 f h4
  by_cases q : tBn T e = tBn T f
  · exact U e f h1 h2 h3 h4 (tLv_th h2 he.1) (tLv_th h4 hf.1) q
  · unfold tSh at g
    by_cases a : anyF (tCl T e) 1 47 = true
    · rw [if_pos a] at g
      by_cases b : anyF (tCl T f) 1 47 = true
      · rw [if_pos b] at g; omega
      · rw [if_neg b] at g; omega
    · rw [if_neg a] at g
      by_cases b : anyF (tCl T f) 1 47 = true
      · rw [if_pos b] at g; omega
      · rw [if_neg b] at g
        exfalso
        rcases Nat.lt_or_ge (tBn T e) (tBn T f) with k | k
        · refine b (anyF_iff.mpr ⟨e, h1, by omega, ?_⟩)
          unfold tCl
          rw [he.1, he.2, hf.2, g, decide_eq_true rfl, decide_eq_true rfl, decide_eq_true k]; rfl
        · refine a (anyF_iff.mpr ⟨f, h3, by omega, ?_⟩)
          unfold tCl
          rw [hf.1, he.2, hf.2, g, decide_eq_true rfl, decide_eq_true rfl, decide_eq_true (show tBn T f < tBn T e by omega)]; rfl
section OP
variable {N : Nat} {S : kS} {M : mS} {W : sW} {T : sT}
theorem wTr_un (h : wOk W) (m : Nat) : tUn (wTr W m) := fun e f h1 h2 h3 h4 he hf q => by
  obtain ⟨-, -, g3, ⟨ar, g4⟩, -, -, g7, -⟩ := h.2.2.2.1
  have z : ∀ y, 1 ≤ y → tTh (wTr W m) y = true → ∃ k ∈ wO W, cK (wC W k) = 0 ∧ cE (wC W k) = y ∧ tBn (wTr W m) y = cR (wC W k) := fun y hy ht => by
    rcases th_bn _ _ ht with ⟨k, a, b⟩ | ⟨a, -⟩
    · exact ⟨k, knl_sub.subset a, b⟩
    · have : y = 0 := of_decide_eq_true a
      omega
  obtain ⟨k, k1, k2, k3, k4⟩ := z e h1 he
  obtain ⟨j, j1, j2, j3, j4⟩ := z f h3 hf
  have : k = j := pw_inj (r := fun a => cR (wC W a)) g4.1 k1 j1 (by show cR _ = cR _; omega)
  rw [← k3, ← j3, this]
/-- the next child -/
def chP (T : sT) (p last : Int) (i : Nat) (nx : Int) : Prop := (nx = -1 ∧ ∀ f, 1 ≤ f → f < i → tCh T p f = true → tSh T f ≤ last) ∨ ∃ e : Nat, nx = e ∧ 1 ≤ e ∧ e < 48 ∧ tCh T p e = true ∧ last < tSh T e ∧ ∀ f, 1 ≤ f → f < i → tCh T p f = true → last < tSh T f → tSh T e ≤ tSh T f
theorem r_childAt_70 (L : rLd M T) {p last : Int} (hp1 : -2 ≤ p) (hp2 : p < 48) (hl1 : -1 ≤ last) (hl2 : last ≤ 1000) {x3 x6 : Int32} {k159 : Int32 → Int32 → Int32 → Int32 → mS → Option (Int32 × mS)} : ∀ (n k i : Nat) (nx : Int), 1 ≤ i → i + k = 48 → k < n → chP T p last i nx → ∃ nx', pf_childAt_70 N k159 n (zI p) x3 (zI last) x6 (zI nx) (zI (i : Nat)) M = k159 (zI p) x3 x6 (zI nx') M ∧ chP T p last 48 nx'
  | 0, k, i, nx, hi, hk, hn, hP => by omega
  | n + 1, k, i, nx, hi, hk, hn, hP => by
    simp only [pf_childAt_70, pf_childAt_114, pf_childAt_151, nm_i]
    rw [zL_48, il_le (by omega) (by omega) (by omega) (by omega)]
    cases k with
    | zero =>
      have : i = 48 := by omega
      subst this
      rw [if_pos (by omega)]
      exact ⟨nx, rfl, hP⟩
    | succ k =>
      have hi48 : i < 48 := by omega
      have hpl := tPl_rg L.2.1 hi48
      have ek : zI (i : Nat) + 1 = zI ((i + 1 : Nat) : Int) := by rw [zL_1, zI_add]; congr 1
      have ih := fun nx => r_childAt_70 L hp1 hp2 hl1 hl2 (x3 := x3) (x6 := x6) (k159 := k159) n k (i + 1) nx (by omega) (by omega) (by omega)
      -- the entry i is no better
      have keep : chP T p last (i + 1) nx → ∃ nx', pf_childAt_70 N k159 n (zI p) x3 (zI last) x6 (zI nx) (zI ((i + 1 : Nat) : Int)) M = k159 (zI p) x3 x6 (zI nx') M ∧ chP T p last 48 nx' := fun g => ih nx g
      have none : ¬ (tCh T p i = true ∧ last < tSh T i) → chP T p last (i + 1) nx := fun no => by
        rcases hP with ⟨a, b⟩ | ⟨e, a, b1, b2, b3, b4, b5⟩
        · refine Or.inl ⟨a, fun f f1 f2 f3 => ?_⟩
          by_cases q : f = i
          · subst q
            by_cases g : tSh T f ≤ last
            · exact g
            · exact absurd ⟨f3, by omega⟩ no
          · exact b f f1 (by omega) f3
        · refine Or.inr ⟨e, a, b1, b2, b3, b4, fun f f1 f2 f3 f4 => ?_⟩
          by_cases q : f = i
          · subst q; exact absurd ⟨f3, f4⟩ no
          · exact b5 f f1 (by omega) f3 f4
      rw [if_neg (by omega), r_isLive L.1 (by omega) (by omega), bd_i, il_B, ek]
      by_cases q1 : tLv T (i : Nat) = true
      · have hth := tLv_th hi48 q1
        have hsr := tSh_rg L.2.1 hi48
        rw [if_pos q1, gd_n hi48 (by omega), zI_cn (by omega), L.2.2.1 i hi48, il_eq (by omega) (by omega) (by omega) (by omega)]
        by_cases q2 : tPl T (i : Nat) = p
        · have hc : tCh T p i = true := by unfold tCh; rw [q1, decide_eq_true q2]; rfl
          rw [if_pos q2, gd_n hi48 (by omega), L.2.2.2 i hi48 hth, il_le (by omega) (by omega) (by omega) (by omega)]
          by_cases q3 : tSh T i ≤ last
          · rw [if_pos q3, if_pos trivial]
            exact keep (none (fun g => by omega))
          · rw [if_neg q3, if_neg (by decide)]
            have new : (∀ f, 1 ≤ f → f < i → tCh T p f = true → last < tSh T f → tSh T i ≤ tSh T f) → chP T p last (i + 1) (i : Nat) := fun g => Or.inr ⟨i, rfl, hi, hi48, hc, by omega, fun f f1 f2 f3 f4 => by
              by_cases q : f = i
              · subst q; omega
              · exact g f f1 (by omega) f3 f4⟩
            rcases hP with ⟨a, b⟩ | ⟨e, a, b1, b2, b3, b4, b5⟩
            · rw [a, if_pos (show zI (-1) = (-1 : Int32) from rfl)]
              exact ih _ (new (fun f f1 f2 f3 f4 => by have := b f f1 f2 f3; omega))
            · subst a
              have hthe := tLv_th b2 (by unfold tCh at b3; rw [Bool.and_eq_true] at b3; exact b3.1)
              have hse := tSh_rg L.2.1 b2
              rw [if_neg (by rw [zL_m1, zI_eq (by omega) (by omega) (by omega) (by omega)]; omega), gd_n b2 (by omega), gd_n hi48 (by omega), zI_cn (show e < 2147483648 by omega), L.2.2.2 e b2 hthe, il_le (by omega) (by omega) (by omega) (by omega)]
              by_cases q4 : tSh T e ≤ tSh T i
              · rw [if_pos q4]
                refine keep (Or.inr ⟨e, rfl, b1, b2, b3, b4, fun f f1 f2 f3 f4 => ?_⟩)
                by_cases q : f = i
                · subst q; exact q4
                · exact b5 f f1 (by omega) f3 f4
              · rw [if_neg q4]
                exact ih _ (new (fun f f1 f2 f3 f4 => by have := b5 f f1 f2 f3 f4; omega))
        · rw [if_neg q2, if_pos trivial]
          exact keep (none (fun g => by
            have := g.1
            unfold tCh at this
            rw [Bool.and_eq_true, decide_eq_true_eq] at this
            exact q2 this.2))
      · rw [if_neg q1, if_pos trivial]
        exact keep (none (fun g => by
          have := g.1
          unfold tCh at this
          rw [Bool.and_eq_true, decide_eq_true_eq] at this
          exact q1 this.1))
/-- children by their names: l is their rising row -/
def chL (T : sT) (p : Int) (l : List Nat) : Prop := nSt l ∧ l.length ≤ 48 ∧ ∀ x, x ∈ l ↔ ∃ e, 1 ≤ e ∧ e < 48 ∧ tCh T p e = true ∧ x = tRk T e
def chE (l : List Nat) (i : Nat) : Int := if h : i < l.length then ((l[i] % 48 : Nat) : Int) else -1
def chS (T : sT) (l : List Nat) (i : Nat) : Int := if h : i < l.length then tSh T (l[i] % 48) else 1000
theorem tRk_mod {T : sT} {e : Nat} (he : e < 48) : tRk T e % 48 = e := by unfold tRk; omega
theorem chL_at {p : Int} {l : List Nat} (C : chL T p l) {i : Nat} (hi : i < l.length) : 1 ≤ l[i] % 48 ∧ l[i] % 48 < 48 ∧ tCh T p (l[i] % 48) = true ∧ l[i] = tRk T (l[i] % 48) := by
  obtain ⟨e, h1, h2, h3, h4⟩ := (C.2.2 _).mp (List.getElem_mem hi)
  have : l[i] % 48 = e := by rw [h4]; exact tRk_mod h2
  rw [this]
  exact ⟨h1, h2, h3, h4⟩
theorem chL_next {p : Int} {l : List Nat} (Wt : tW T) (U : tUn T) (C : chL T p l) {i : Nat} {last nx : Int} (hl : (i = 0 ∧ last = -1) ∨ ∃ j, i = j + 1 ∧ last = chS T l j) (P : chP T p last 48 nx) : nx = chE l i ∧ (if nx = -1 then 1000 else tSh T nx.toNat) = chS T l i := by
  have st := List.pairwise_iff_getElem.mp C.1
  have rk : ∀ {e f : Nat}, e < 48 → f < 48 → tSh T e < tSh T f → tRk T e < tRk T f := fun {e f} he hf h => by
    have a := tSh_rg Wt he
    have b := tSh_rg Wt hf
    unfold tRk
    omega
  -- which children come behind the last one
  have beh : ∀ {q : Nat} (hq : q < l.length), last < tSh T (l[q] % 48) ↔ i ≤ q := fun {q} hq => by
    obtain ⟨c1, c2, c3, c4⟩ := chL_at C hq
    have a := tSh_rg Wt c2
    rcases hl with ⟨h0, h1⟩ | ⟨j, h0, h1⟩
    · constructor <;> intro _ <;> omega
    · unfold chS at h1
      by_cases hj : j < l.length
      · rw [dif_pos hj] at h1
        obtain ⟨d1, d2, d3, d4⟩ := chL_at C hj
        constructor
        · intro g
          rw [h1] at g
          have := rk d2 c2 g
          rw [← d4, ← c4] at this
          rcases Nat.lt_or_ge j q with k | k
          · omega
          · exfalso
            by_cases e : q = j
            · subst e; omega
            · have := st q j hq hj (by omega); omega
        · intro g
          have := st j q hj hq (by omega)
          rw [h1]
          rcases Int.lt_trichotomy (tSh T (l[j] % 48)) (tSh T (l[q] % 48)) with k | k | k
          · exact k
          · have e := tSh_inj Wt U d1 d2 c1 c2 d3 c3 k
            rw [d4, c4, e] at this
            omega
          · have := rk c2 d2 k
            rw [← d4, ← c4] at this
            omega
      · rw [dif_neg hj] at h1
        constructor <;> intro _ <;> omega
  rcases P with ⟨a, b⟩ | ⟨e, a, b1, b2, b3, b4, b5⟩
  · have hi : ¬ i < l.length := fun hi => by
      obtain ⟨c1, c2, c3, c4⟩ := chL_at C hi
      have := b _ c1 c2 c3
      have := (beh hi).mpr (Nat.le_refl _)
      omega
    unfold chE chS
    rw [dif_neg hi, dif_neg hi, if_pos a]
    exact ⟨a, rfl⟩
  · obtain ⟨q, hq, eq⟩ := List.getElem_of_mem ((C.2.2 _).mpr ⟨e, b1, b2, b3, rfl⟩)
    have em : l[q] % 48 = e := by rw [eq]; exact tRk_mod b2
    have hiq := (beh hq).mp (by rw [em]; exact b4)
    have hi : i < l.length := by omega
    obtain ⟨c1, c2, c3, c4⟩ := chL_at C hi
    have h5 := b5 _ c1 c2 c3 ((beh hi).mpr (Nat.le_refl _))
    have : q = i := by
      rcases Nat.lt_or_ge i q with k | k
      · exfalso
        have s := st i q hi hq k
        by_cases k2 : tSh T (l[i] % 48) = tSh T e
        · have e2 := tSh_inj Wt U c1 c2 b1 b2 c3 b3 k2
          rw [c4, e2, eq] at s
          omega
        · have := rk b2 c2 (show tSh T e < tSh T (l[i] % 48) by omega)
          rw [← c4, ← eq] at this
          omega
      · omega
    subst this
    unfold chE chS
    rw [dif_pos hq, dif_pos hq, em]
    subst a
    exact ⟨rfl, by rw [if_neg (by omega), Int.toNat_natCast]⟩
theorem r_childAt_51 (hN : 100 ≤ N) (L : rLd M T) (U : tUn T) {p : Int} (hp1 : -2 ≤ p) (hp2 : p < 48) {l : List Nat} (C : chL T p l) {idx : Nat} (hx : idx < 2147483648) : ∀ (n k i : Nat) (its last : Int), i + k = 49 → k < n → i ≤ idx + 1 → ((i = 0 ∧ its = -1 ∧ last = -1) ∨ ∃ j, i = j + 1 ∧ its = chE l j ∧ last = chS T l j) → pf_childAt_51 N n (zI p) (zI (idx : Nat)) (zI its) (zI last) (zI (i : Nat)) M = some (zI (chE l idx), M)
  | 0, k, i, its, last, hk, hn, hi, hI => by omega
  | n + 1, k, i, its, last, hk, hn, hi, hI => by
    simp only [pf_childAt_51]
    rw [zL_48, il_lt (by omega) (by omega) (by omega) (by omega), il_lt (by omega) (by omega) (by omega) (by omega)]
    by_cases q : idx < i
    · rw [if_pos (by omega)]
      rcases hI with ⟨a, -⟩ | ⟨j, a, b, -⟩
      · omega
      · have : j = idx := by omega
        subst this
        rw [b]
    · rw [if_neg (by omega)]
      by_cases q2 : 48 < i
      · rw [if_pos (by omega)]
        rcases hI with ⟨a, -⟩ | ⟨j, a, b, -⟩
        · omega
        · have hlen := C.2.1
          rw [b]
          unfold chE
          rw [dif_neg (by omega), dif_neg (by omega)]
      · have hl : -1 ≤ last ∧ last ≤ 1000 := by
          rcases hI with ⟨-, -, a⟩ | ⟨j, -, -, a⟩
          · omega
          · unfold chS at a
            by_cases hj : j < l.length
            · rw [dif_pos hj] at a
              obtain ⟨-, c2, -, -⟩ := chL_at C hj
              have := tSh_rg L.2.1 c2
              omega
            · rw [dif_neg hj] at a; omega
        obtain ⟨nx, e1, e2⟩ := r_childAt_70 (N := N) L hp1 hp2 hl.1 hl.2 (x3 := zI (idx : Nat)) (x6 := zI (i : Nat)) (k159 := pf_childAt_159 N (pf_childAt_51 N n)) N 47 1 (-1) (by omega) (by omega) (by omega) (Or.inl ⟨rfl, fun f f1 f2 => by omega⟩)
        obtain ⟨e3, e4⟩ := chL_next L.2.1 U C (by rcases hI with ⟨a, -, b⟩ | ⟨j, a, -, b⟩; exact Or.inl ⟨a, b⟩; exact Or.inr ⟨j, a, b⟩) e2
        have ih := r_childAt_51 hN L U hp1 hp2 C hx n (k - 1) (i + 1) nx (chS T l i) (by omega) (by omega) (by omega) (Or.inr ⟨i, rfl, e3, rfl⟩)
        have e1 : pf_childAt_70 N (pf_childAt_159 N (pf_childAt_51 N n)) N (zI p) (zI (idx : Nat)) (zI last) (zI (i : Nat)) (-1) 1 M = _ := e1
        have ek : zI (i : Nat) + 1 = zI ((i + 1 : Nat) : Int) := by rw [zL_1, zI_add]; congr 1
        rw [if_neg (by omega), e1]
        simp only [pf_childAt_159, pf_childAt_182, nm_i]
        rw [ek]
        rcases e2 with ⟨a, -⟩ | ⟨e, a, b1, b2, b3, -⟩
        · rw [a] at e4 ih ⊢
          rw [if_pos rfl] at e4
          rw [if_pos (show zI (-1) = (-1 : Int32) from rfl)]
          rw [← e4] at ih
          exact ih
        · rw [a] at e4 ih ⊢
          rw [if_neg (by omega), Int.toNat_natCast] at e4
          rw [if_neg (by rw [zL_m1, zI_eq (by omega) (by omega) (by omega) (by omega)]; omega), gd_n b2 (by omega), zI_cn (by omega), L.2.2.2 e b2 (tLv_th b2 (by unfold tCh at b3; rw [Bool.and_eq_true] at b3; exact b3.1)), e4]
          exact ih
/-- both, once the place is known to be there -/
theorem both_childAt (hN : 20000 ≤ N) (h : wOk W) (K : kRel S W) {M0 : mS} (R : mRel M0 W) (t0 : M0.1 0 = 0) {m : Nat} (hm : m < 4) {y z : Int} (h1 : -2 ≤ y) (h2 : y < 48) (h5 : -2147483648 ≤ z) (h6 : z < 2147483648) : opOk 1 0 0 (pX9_childAt_19 N (zI y) (zI z) m S) (pf_childAt_27 N (zI (m : Nat)) (zI y) (zI z) M0) := by
  simp only [pX9_childAt_19, pf_childAt_27, pf_childAt_31]
  rw [g_index h5 h6, zL_0, il_le (by omega) (by omega) h5 h6]
  by_cases q : 0 ≤ z
  · obtain ⟨i, rfl⟩ : ∃ i : Nat, z = i := ⟨z.toNat, by omega⟩
    have Q := kRel_t h K hm
    obtain ⟨S', l, a1, a2, a3, a4⟩ := q_rankedAt (N := N) Q (by omega) (place := y) (by omega) (by omega)
    have C : chL (wTr W m) y l := ⟨a2.2.2.1, Nat.le_trans a2.2.2.2.2 (by decide), a3⟩
    obtain ⟨M', e1, L, -, R', f⟩ := w_lays (N := N) hN h R hm
    have er := r_childAt_51 (N := N) (by omega) L (wTr_un h m) h1 h2 C (idx := i) (by omega) N 49 0 (-1) (-1) (by omega) (by omega) (by omega) (Or.inl ⟨rfl, rfl, rfl⟩)
    have er : pf_childAt_51 N N (zI y) (zI (i : Nat)) (-1) (-1) (zI 0) M' = _ := er
    have hlen := C.2.1
    rw [if_pos q, if_pos q, bx_l, a1, bk_i, a2.1, il_le (by omega) (by omega) (by omega) (by omega), e1, bd_i, er]
    have K2 := kRel_2 hm K a4
    have t1 : M'.1 0 = 0 := by rw [f.1 0 (by omega) (by omega)]; exact t0
    by_cases q2 : i < l.length
    · have hx := a2.2.2.2.1 _ (List.getElem_mem q2)
      rw [if_neg (by omega), q_at a2 q2, bk_i, zL_48, zI_div (by omega) (by omega) (by omega) (by omega), zI_mul, zI_sub]
      have : (l[i] : Int) - (l[i] : Int) / 48 * 48 = chE l i := by
        unfold chE
        rw [dif_pos q2]
        omega
      rw [this]
      exact opOk_v rfl rfl t1 h K2 R'
    · rw [if_pos (by omega)]
      have : chE l i = -1 := by
        unfold chE
        rw [dif_neg q2]
      rw [this]
      exact opOk_v rfl rfl t1 h K2 R'
  · rw [if_neg q, if_neg q, bx_r, fails_i, bd_i]
    exact opOk_x rfl rfl (Or.inl ⟨rfl, thr_k⟩) h K (mRel_0 R)
theorem op_childAt (hN : 20000 ≤ N) (h : wOk W) (K : kRel S W) (R : mRel M W) (x y z : Int32) : opOk 1 0 0 (pX9_childAt N x y z S) (pf_childAt N x y z M) := by
  obtain ⟨x, h1, h2, rfl⟩ := zI_of x
  obtain ⟨y, h3, h4, rfl⟩ := zI_of y
  obtain ⟨z, h5, h6, rfl⟩ := zI_of z
  have R0 := mRel_0 (v := (0 : Int32)) R
  simp only [pX9_childAt, pf_childAt, sv_i]
  rw [r_isMaster h1 h2, bs_i, il_B, zL_m2, il_eq h3 h4 (by omega) (by omega)]
  by_cases q : 0 ≤ x ∧ x < 4
  · obtain ⟨m, rfl⟩ : ∃ m : Nat, x = m := ⟨x.toNat, by omega⟩
    have hm : m < 4 := by omega
    have Q := kRel_t h K hm
    rw [if_pos (in_yes (by omega)), g_master hm, bx_l, gn_l hm, il_eq h3 h4 (by omega) (by omega)]
    by_cases q2 : y = -2
    · rw [if_pos q2, if_pos q2]
      exact both_childAt hN h K R0 thr_k hm (by omega) (by omega) h5 h6
    · rw [if_neg q2, if_neg q2, g_entry Q h3 h4]
      obtain ⟨M', R', f, ⟨q4, e⟩ | ⟨m', hm', em, e, L, -⟩⟩ := w_isAt (N := N) hN h R0 (x := (m : Int)) h1 h2 h3 h4
      · omega
      · have : m' = m := by omega
        subst this
        rw [e, bd_i, il_B]
        by_cases g : tLv (wTr W m') y = true
        · have hy := tLv_lt g
          rw [if_pos g, if_pos g, bx_l]
          exact both_childAt hN h K R' (thr_0 f) hm (by omega) (by omega) h5 h6
        · rw [if_neg g, if_neg g, bx_r]
          simp only [pf_childAt_31]
          rw [fails_i, bd_i]
          exact opOk_x rfl rfl (Or.inl ⟨rfl, thr_k⟩) h K (mRel_0 R')
  · rw [if_neg (in_no (by omega)), g_masterNo h1 h2 q, bx_r]
    simp only [pf_childAt_31]
    rw [fails_i, bd_i]
    exact opOk_x rfl rfl (Or.inl ⟨rfl, thr_k⟩) h K (mRel_0 R0)
end OP
