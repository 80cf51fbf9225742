-- LEVEL 2, THE REFERENCE LAYS A MASTER'S TREE: PLACES, NAMES, THE START
def rPl (M : mS) (T : sT) : Prop := ∀ e, e < 48 → M.2 45 e = zI (tPl T e)
def rSh (M : mS) (T : sT) : Prop := ∀ e, e < 48 → tTh T e = true → M.2 46 e = zI (tSh T e)
def rLd (M : mS) (T : sT) : Prop := rT M T ∧ tW T ∧ rPl M T ∧ rSh M T
/-- nothing but the row c was written -/
def rf1 (c : Nat) (M M' : mS) : Prop := M'.1 = M.1 ∧ ∀ q, q ≠ c → M'.2 q = M.2 q
theorem rf1.rf {c : Nat} {M : mS} : rf1 c M M := ⟨rfl, fun _ _ => rfl⟩
theorem rf1.trans {c : Nat} {M M' M2 : mS} (h : rf1 c M M') (h2 : rf1 c M' M2) : rf1 c M M2 := ⟨h2.1.trans h.1, fun q a => (h2.2 q a).trans (h.2 q a)⟩
theorem rf1_mA {c j : Nat} {v : Int32} {M : mS} : rf1 c M (mA M c j v) := ⟨rfl, fun q hq => mA_o _ _ _ hq⟩
theorem rT_1 {c : Nat} {M M' : mS} {T : sT} (hc : c = 44 ∨ c = 45 ∨ c = 46) (h : rf1 c M M') (R : rT M T) : rT M' T := by
  obtain ⟨r1, r2, r3, r4, r5, r6, r7, r8⟩ := R
  exact ⟨by rw [h.2 _ (by omega)]; exact r1, by rw [h.2 _ (by omega)]; exact r2, by rw [h.2 _ (by omega)]; exact r3, by rw [h.2 _ (by omega)]; exact r4, by rw [h.2 _ (by omega)]; exact r5, by rw [h.2 _ (by omega)]; exact r6, rVs_fr (by rw [h.1]) (h.2 _ (by omega)) (h.2 _ (by omega)) (h.2 _ (by omega)) r7, by rw [h.2 _ (by omega)]; exact r8⟩
section RP
variable {N : Nat} {T : sT}
theorem tPl_no {o : Nat} (ho : 1 ≤ o) : tPl T o ≠ -1 := by
  unfold tPl
  rw [if_neg (by omega)]
  split
  · rename_i h
    have := tLv_lt h
    omega
  · omega
theorem tSh_0 : tSh T 0 = tNm T 0 := by
  unfold tSh
  have hn : ¬ anyF (tCl T 0) 1 47 = true := by
    rw [anyF_iff]
    rintro ⟨j, h1, h2, h3⟩
    unfold tCl at h3
    simp only [Bool.and_eq_true, decide_eq_true_eq] at h3
    have e : tPl T ((0 : Nat) : Int) = -1 := if_pos rfl
    rw [e] at h3
    exact tPl_no h1 h3.2.1
  exact if_neg hn
theorem r_lays_148 {k198 : mS → Option (Int32 × mS)} (W : tW T) : ∀ (n k i : Nat) (M : mS), i + k = 48 → k < n → rT M T → (∀ j, j < i → M.2 45 j = zI (tPl T j)) → ∃ M', pf_lays_148 N k198 n (zI (i : Nat)) M = k198 M' ∧ rPl M' T ∧ rf1 45 M M'
  | 0, k, i, M, hk, hn, R, h => by omega
  | n + 1, k, i, M, hk, hn, R, h => by
    simp only [pf_lays_148, pf_lays_191, nm_i, sv_i]
    rw [zL_48, il_le (by omega) (by omega) (by omega) (by omega)]
    cases k with
    | zero =>
      rw [if_pos (by omega)]
      exact ⟨M, rfl, fun e he => h e (by omega), rf1.rf⟩
    | succ k =>
      have hi : i < 48 := by omega
      have hp := W.2.1 i hi
      have hp2 := W.1.1 i hi
      rw [if_neg (by omega), zL_0, il_eq (by omega) (by omega) (by omega) (by omega), zL_m1, zL_m2, zL_1]
      simp only [gd_n hi (show (48 : Nat) < 2147483648 by omega), zI_cn (show i < 2147483648 by omega), zI_add]
      rw [show (i : Int) + 1 = ((i + 1 : Nat) : Int) by omega]
      have fin : ∀ v : Int, v = tPl T i → ∃ M', pf_lays_148 N k198 n (zI ((i + 1 : Nat) : Int)) (mA M 45 i (zI v)) = k198 M' ∧ rPl M' T ∧ rf1 45 M M' := fun v hv => by
        obtain ⟨M', e1, e2, f⟩ := r_lays_148 (k198 := k198) W n k (i + 1) (mA M 45 i (zI v)) (by omega) (by omega) (rT_1 (Or.inr (Or.inl rfl)) rf1_mA R) (fun j hj => by
          rw [mA_s]
          by_cases g : j = i
          · rw [g, upd_s, hv]
          · rw [upd_o _ _ g]; exact h j (by omega))
        exact ⟨M', e1, e2, rf1_mA.trans f⟩
      by_cases q : (i : Int) = 0
      · rw [if_pos q]
        exact fin (-1) (by unfold tPl; rw [if_pos q])
      · rw [if_neg q, R.2.2.2.1 i hi, r_isLive R (by omega) (by omega), bd_i, ← zL_0, il_B]
        cases hb : tLv T (tPa T i) with
        | false =>
          rw [if_neg (by decide)]
          exact fin (-2) (by unfold tPl; rw [if_neg q, Int.toNat_natCast, hb]; rfl)
        | true =>
          rw [if_pos rfl, R.2.2.2.1 i hi]
          exact fin _ (by unfold tPl; rw [if_neg q, Int.toNat_natCast, hb]; rfl)
theorem r_lays_211 {M : mS} {p : Nat} (R : rT M T) (W : tW T) (P : rPl M T) (B : rB M T p) (hp : p ≤ 1000) {k295 : Int32 → Int32 → mS → Option (Int32 × mS)} {e : Nat} (h1 : 1 ≤ e) (he : e < 48) : ∀ (n k i : Nat) (b : Bool), 1 ≤ i → i + k = 48 → k < n → ∃ b', pf_lays_211 N k295 n (zI (e : Nat)) (zB b) (zI (i : Nat)) M = k295 (zI (e : Nat)) (zB b') M ∧ (tTh T e = true → b' = (b || anyF (tCl T e) i k))
  | 0, k, i, b, hi, hk, hn => by omega
  | n + 1, k, i, b, hi, hk, hn => by
    simp only [pf_lays_211, pf_lays_288, nm_i]
    rw [zL_48, il_le (by omega) (by omega) (by omega) (by omega)]
    cases k with
    | zero =>
      rw [if_pos (by omega)]
      refine ⟨b, rfl, fun _ => ?_⟩
      show b = (b || false)
      rw [Bool.or_false]
    | succ k =>
      have hik : i < 48 := by omega
      have pe := tPl_rg W he
      have pi := tPl_rg W hik
      have ne := W.2.2.1 e he
      have ni := W.2.2.1 i hik
      rw [if_neg (by omega), show ((0 : Int32)) = zB false from rfl, show ((1 : Int32)) = zB true from rfl]
      have z0 : zB false = zI 0 := rfl
      have z1 : zB true = zI 1 := rfl
      rw [if_neg (show ¬ zI (e : Nat) ≤ zB false by rw [z0, zI_le (by omega) (by omega) (by omega) (by omega)]; omega), show zI (i : Nat) + zB true = zI ((i + 1 : Nat) : Int) by rw [z1, zI_add]; congr 1]
      cases b with
      | true =>
        rw [if_neg (by decide)]
        obtain ⟨b', e1, e2⟩ := r_lays_211 R W P B hp (k295 := k295) h1 he n k (i + 1) true (by omega) (by omega) (by omega)
        exact ⟨b', e1, fun ht => by rw [e2 ht]; simp⟩
      | false =>
        rw [if_pos rfl, r_isLive R (by omega) (by omega), bd_i, z0, ← zL_0, il_B]
        have no : tCl T e i = false → ∃ b', pf_lays_211 N k295 n (zI (e : Nat)) 0 (zI ((i + 1 : Nat) : Int)) M = k295 (zI (e : Nat)) (zB b') M ∧ (tTh T e = true → b' = (false || anyF (tCl T e) i (k + 1))) := fun hc => by
          obtain ⟨b', e1, e2⟩ := r_lays_211 R W P B hp (k295 := k295) h1 he n k (i + 1) false (by omega) (by omega) (by omega)
          exact ⟨b', e1, fun ht => by rw [e2 ht, anyF_s, hc, Bool.false_or, Bool.false_or]⟩
        cases hlv : tLv T i with
        | false =>
          rw [if_neg (by decide)]
          exact no (by unfold tCl; rw [hlv]; rfl)
        | true =>
          have hti := tLv_th hik hlv
          rw [if_pos rfl]
          simp only [gd_n hik (show (48 : Nat) < 2147483648 by omega), gd_n he (show (48 : Nat) < 2147483648 by omega), zI_cn (show i < 2147483648 by omega), zI_cn (show e < 2147483648 by omega)]
          rw [P i hik, P e he, il_eq (by omega) (by omega) (by omega) (by omega)]
          by_cases q1 : tPl T i = tPl T e
          · rw [if_pos q1, R.2.2.2.2.1 i hik, R.2.2.2.2.1 e he, il_eq (by omega) (by omega) (by omega) (by omega)]
            by_cases q2 : tNm T i = tNm T e
            · rw [if_pos q2]
              obtain ⟨b, b1, b2⟩ := B
              obtain ⟨c1, c2⟩ := b1 i hi hik hti
              by_cases hte : tTh T e = true
              · obtain ⟨c3, c4⟩ := b1 e h1 he hte
                have c5 := b2 i e hi hik hti h1 he hte
                rw [c1, c3, il_le (by omega) (by omega) (by omega) (by omega)]
                by_cases q3 : b i < b e
                · rw [if_neg (by omega)]
                  obtain ⟨b', e1, e2⟩ := r_lays_211 R W P ⟨b, b1, b2⟩ hp (k295 := k295) h1 he n k (i + 1) true (by omega) (by omega) (by omega)
                  refine ⟨b', e1, fun ht => ?_⟩
                  have : tCl T e i = true := by unfold tCl; simp [hlv, q1, q2, c5.mp q3]
                  rw [e2 ht, anyF_s, this]; rfl
                · rw [if_pos (by omega)]
                  exact no (by unfold tCl; simp [show ¬ tBn T i < tBn T e from fun h => q3 (c5.mpr h)])
              · have nt : ∀ (Q : Bool → Prop), (tTh T e = true → ∃ b', Q b') → True := fun _ _ => trivial
                split
                · obtain ⟨b', e1, -⟩ := r_lays_211 R W P ⟨b, b1, b2⟩ hp (k295 := k295) h1 he n k (i + 1) false (by omega) (by omega) (by omega)
                  exact ⟨b', e1, fun ht => absurd ht hte⟩
                · obtain ⟨b', e1, -⟩ := r_lays_211 R W P ⟨b, b1, b2⟩ hp (k295 := k295) h1 he n k (i + 1) true (by omega) (by omega) (by omega)
                  exact ⟨b', e1, fun ht => absurd ht hte⟩
            · rw [if_neg q2]
              exact no (by unfold tCl; simp [q2])
          · rw [if_neg q1]
            exact no (by unfold tCl; simp [q1])
theorem r_lays_200 {p : Nat} (W : tW T) (hp : p ≤ 1000) : ∀ (n k i : Nat) (M : mS), i + k = 48 → k < n → 48 < N → rT M T → rPl M T → rB M T p → (∀ j, j < i → tTh T j = true → M.2 46 j = zI (tSh T j)) → ∃ M', pf_lays_200 N n (zI (i : Nat)) M = some ((0 : Int32), M') ∧ rSh M' T ∧ rf1 46 M M'
  | 0, k, i, M, hk, hn, hN, R, P, B, h => by omega
  | n + 1, k, i, M, hk, hn, hN, R, P, B, h => by
    simp only [pf_lays_200]
    rw [zL_48, il_le (by omega) (by omega) (by omega) (by omega)]
    cases k with
    | zero =>
      rw [if_pos (by omega)]
      exact ⟨M, rfl, fun e he => h e (by omega), rf1.rf⟩
    | succ k =>
      have hi : i < 48 := by omega
      rw [if_neg (by omega)]
      have nx : ∀ v : Int, (tTh T i = true → v = tSh T i) → ∃ M', pf_lays_200 N n (zI ((i + 1 : Nat) : Int)) (mA M 46 i (zI v)) = some ((0 : Int32), M') ∧ rSh M' T ∧ rf1 46 M M' := fun v hv => by
        obtain ⟨M', e1, e2, f⟩ := r_lays_200 (p := p) W hp n k (i + 1) (mA M 46 i (zI v)) (by omega) (by omega) hN (rT_1 (Or.inr (Or.inr rfl)) rf1_mA R) (fun e he => by rw [mA_o _ _ _ (by omega)]; exact P e he) (by
          obtain ⟨b, b1, b2⟩ := B
          exact ⟨b, fun e h1 h2 h3 => by rw [mA_o _ _ _ (by omega)]; exact b1 e h1 h2 h3, b2⟩) (fun j hj ht => by
          rw [mA_s]
          by_cases g : j = i
          · rw [g, upd_s, hv (g ▸ ht)]
          · rw [upd_o _ _ g]; exact h j (by omega) ht)
        exact ⟨M', e1, e2, rf1_mA.trans f⟩
      have fin : ∀ b : Bool, (tTh T i = true → b = anyF (tCl T i) 1 47) → ∃ M', pf_lays_295 N (pf_lays_200 N n) (zI (i : Nat)) (zB b) M = some ((0 : Int32), M') ∧ rSh M' T ∧ rf1 46 M M' := fun b hb => by
        simp only [pf_lays_295, pf_lays_317, nm_i, sv_i]
        simp only [gd_n hi (show (48 : Nat) < 2147483648 by omega), zI_cn (show i < 2147483648 by omega)]
        rw [il_B, zL_1, zI_add, show (i : Int) + 1 = ((i + 1 : Nat) : Int) by omega, R.2.2.2.2.1 i hi, zL_100, zI_add]
        cases b with
        | false =>
          rw [if_neg (by decide)]
          exact nx _ (fun ht => by unfold tSh; rw [← hb ht]; rfl)
        | true =>
          rw [if_pos rfl]
          exact nx _ (fun ht => by unfold tSh; rw [← hb ht]; rfl)
      by_cases h0 : i = 0
      · subst h0
        obtain ⟨N', rfl⟩ : ∃ N', N = N' + 1 := ⟨N - 1, by omega⟩
        have q : pf_lays_211 (N' + 1) (pf_lays_295 (N' + 1) (pf_lays_200 (N' + 1) n)) (N' + 1) (zI ((0 : Nat) : Int)) 0 1 M = pf_lays_295 (N' + 1) (pf_lays_200 (N' + 1) n) (zI ((0 : Nat) : Int)) (zB false) M := by
          simp only [pf_lays_211]
          rw [if_neg (by decide), if_pos (by decide)]; rfl
        rw [q]
        exact fin false (fun _ => by
          have hn : ¬ anyF (tCl T 0) 1 47 = true := by
            rw [anyF_iff]
            rintro ⟨j, h1, h2, h3⟩
            unfold tCl at h3
            simp only [Bool.and_eq_true, decide_eq_true_eq] at h3
            have e : tPl T ((0 : Nat) : Int) = -1 := if_pos rfl
            rw [e] at h3
            exact tPl_no h1 h3.2.1
          rw [Bool.eq_false_iff.mpr hn])
      · obtain ⟨b', e1, e2⟩ := r_lays_211 (N := N) R W P B hp (k295 := pf_lays_295 N (pf_lays_200 N n)) (show 1 ≤ i by omega) hi N 47 1 false (by omega) (by omega) (by omega)
        have e1 : pf_lays_211 N (pf_lays_295 N (pf_lays_200 N n)) N (zI (i : Nat)) 0 1 M = pf_lays_295 N (pf_lays_200 N n) (zI (i : Nat)) (zB b') M := e1
        rw [e1]
        exact fin b' (fun ht => by rw [e2 ht, Bool.false_or])
def rIn (M : mS) (j : Nat) : Prop := M.2 38 j = zB (decide (j = 0)) ∧ M.2 39 j = zB false ∧ M.2 40 j = zI (-1) ∧ M.2 41 j = zI (-1) ∧ M.2 42 j = zI 0 ∧ M.2 43 j = zI (-1)
theorem r_lays_21 {k83 : Int32 → mS → Option (Int32 × mS)} {x : Int32} : ∀ (n k i : Nat) (M : mS), i + k = 48 → k < n → (∀ j, j < i → rIn M j) → ∃ M', pf_lays_21 N k83 n x (zI (i : Nat)) M = k83 x M' ∧ (∀ j, j < 48 → rIn M' j) ∧ M'.1 = M.1 ∧ ∀ c, (c < 38 ∨ 43 < c) → M'.2 c = M.2 c
  | 0, k, i, M, hk, hn, h => by omega
  | n + 1, k, i, M, hk, hn, h => by
    simp only [pf_lays_21, pf_lays_41, nm_i, sv_i]
    rw [zL_48, il_le (by omega) (by omega) (by omega) (by omega)]
    cases k with
    | zero =>
      rw [if_pos (by omega)]
      exact ⟨M, rfl, fun e he => h e (by omega), rfl, fun _ _ => rfl⟩
    | succ k =>
      have hi : i < 48 := by omega
      have n0 : vp_nar .boolean (0 : Int32) = zB false := zB_nar false
      have n1 : vp_nar .boolean (1 : Int32) = zB true := zB_nar true
      have ev : ∀ A B : Option (Int32 × mS), (zI (i : Nat) = 0 → A = B) → True := fun _ _ _ => trivial
      rw [if_neg (by omega)]
      simp only [gd_n hi (show (48 : Nat) < 2147483648 by omega), zI_cn (show i < 2147483648 by omega), n0, n1]
      have fin : ∃ M', pf_lays_21 N k83 n x (zI (i : Nat) + 1) (mA (mA (mA (mA (mA (mA M 38 i (zB (decide (i = 0)))) 39 i (zB false)) 40 i (-1)) 41 i (-1)) 42 i 0) 43 i (-1)) = k83 x M' ∧ (∀ j, j < 48 → rIn M' j) ∧ M'.1 = M.1 ∧ ∀ c, (c < 38 ∨ 43 < c) → M'.2 c = M.2 c := by
        rw [show zI (i : Nat) + 1 = zI ((i + 1 : Nat) : Int) by rw [zL_1, zI_add]; congr 1]
        generalize hM1 : mA (mA (mA (mA (mA (mA M 38 i (zB (decide (i = 0)))) 39 i (zB false)) 40 i (-1)) 41 i (-1)) 42 i 0) 43 i (-1) = M1
        have g38 : M1.2 38 = upd (M.2 38) i (zB (decide (i = 0))) := by
          rw [← hM1, mA_o _ _ _ (by omega), mA_o _ _ _ (by omega), mA_o _ _ _ (by omega), mA_o _ _ _ (by omega), mA_o _ _ _ (by omega), mA_s]
        have g39 : M1.2 39 = upd (M.2 39) i (zB false) := by
          rw [← hM1, mA_o _ _ _ (by omega), mA_o _ _ _ (by omega), mA_o _ _ _ (by omega), mA_o _ _ _ (by omega), mA_s, mA_o _ _ _ (by omega)]
        have g40 : M1.2 40 = upd (M.2 40) i (-1) := by
          rw [← hM1, mA_o _ _ _ (by omega), mA_o _ _ _ (by omega), mA_o _ _ _ (by omega), mA_s, mA_o _ _ _ (by omega), mA_o _ _ _ (by omega)]
        have g41 : M1.2 41 = upd (M.2 41) i (-1) := by
          rw [← hM1, mA_o _ _ _ (by omega), mA_o _ _ _ (by omega), mA_s, mA_o _ _ _ (by omega), mA_o _ _ _ (by omega), mA_o _ _ _ (by omega)]
        have g42 : M1.2 42 = upd (M.2 42) i 0 := by
          rw [← hM1, mA_o _ _ _ (by omega), mA_s, mA_o _ _ _ (by omega), mA_o _ _ _ (by omega), mA_o _ _ _ (by omega), mA_o _ _ _ (by omega)]
        have g43 : M1.2 43 = upd (M.2 43) i (-1) := by
          rw [← hM1, mA_s, mA_o _ _ _ (by omega), mA_o _ _ _ (by omega), mA_o _ _ _ (by omega), mA_o _ _ _ (by omega), mA_o _ _ _ (by omega)]
        have go : ∀ c, (c < 38 ∨ 43 < c) → M1.2 c = M.2 c := fun c hc => by
          rw [← hM1, mA_o _ _ _ (by omega), mA_o _ _ _ (by omega), mA_o _ _ _ (by omega), mA_o _ _ _ (by omega), mA_o _ _ _ (by omega), mA_o _ _ _ (by omega)]
        have g1 : M1.1 = M.1 := by rw [← hM1]; rfl
        obtain ⟨M', e1, e2, e3, e4⟩ := r_lays_21 (k83 := k83) (x := x) n k (i + 1) M1 (by omega) (by omega) (fun j hj => by
          unfold rIn
          rw [g38, g39, g40, g41, g42, g43]
          by_cases g : j = i
          · rw [g, upd_s, upd_s, upd_s, upd_s, upd_s, upd_s]; exact ⟨rfl, rfl, rfl, rfl, rfl, rfl⟩
          · rw [upd_o _ _ g, upd_o _ _ g, upd_o _ _ g, upd_o _ _ g, upd_o _ _ g, upd_o _ _ g]; exact h j (by omega))
        exact ⟨M', e1, e2, e3.trans g1, fun c hc => (e4 c hc).trans (go c hc)⟩
      by_cases q : i = 0
      · rw [if_pos (show zI (i : Nat) = 0 by rw [q]; rfl)]
        rw [decide_eq_true q] at fin
        exact fin
      · rw [if_neg (show ¬ zI (i : Nat) = 0 by rw [zL_0, zI_eq (by omega) (by omega) (by omega) (by omega)]; omega)]
        rw [decide_eq_false q] at fin
        exact fin
theorem r_lays_85 {k105 : Int32 → mS → Option (Int32 × mS)} {x : Int32} : ∀ (n k i : Nat) (M : mS), i + k = 15840 → k < n → (∀ j, j < i → M.2 51 j = 0) → ∃ M', pf_lays_85 N k105 n x (zI (i : Nat)) M = k105 x M' ∧ (∀ j, j < 15840 → M'.2 51 j = 0) ∧ rf1 51 M M'
  | 0, k, i, M, hk, hn, h => by omega
  | n + 1, k, i, M, hk, hn, h => by
    simp only [pf_lays_85, nm_i, sv_i]
    rw [zL_15840, il_le (by omega) (by omega) (by omega) (by omega)]
    cases k with
    | zero =>
      rw [if_pos (by omega)]
      exact ⟨M, rfl, fun e he => h e (by omega), rf1.rf⟩
    | succ k =>
      rw [if_neg (by omega), gd_n (by omega) (by omega), zI_cn (by omega), zL_1, zI_add, show (i : Int) + 1 = ((i + 1 : Nat) : Int) by omega]
      obtain ⟨M', e1, e2, f⟩ := r_lays_85 (k105 := k105) (x := x) n k (i + 1) (mA M 51 i 0) (by omega) (by omega) (fun j hj => by
        rw [mA_s]
        by_cases g : j = i
        · rw [g, upd_s]
        · rw [upd_o _ _ g]; exact h j (by omega))
      exact ⟨M', e1, e2, rf1_mA.trans f⟩
end RP
