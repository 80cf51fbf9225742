-- LEVEL 2, VALUES ALIKE; A TREE EMPTIED; A TREE KEPT IN ORDER
theorem nSt_ext : ∀ {l l' : List Nat}, nSt l → nSt l' → (∀ x, x ∈ l ↔ x ∈ l') → l = l'
  | [], [], _, _, _ => rfl
  | [], b :: l', _, _, h => absurd ((h b).mpr List.mem_cons_self) List.not_mem_nil
  | a :: l, [], _, _, h => absurd ((h a).mp List.mem_cons_self) List.not_mem_nil
  | a :: l, b :: l', h1, h2, h => by
    have g1 := List.pairwise_cons.mp h1
    have g2 := List.pairwise_cons.mp h2
    have e : a = b := by
      rcases List.mem_cons.mp ((h a).mp List.mem_cons_self) with q | q
      · exact q
      · have q2 := g2.1 a q
        rcases List.mem_cons.mp ((h b).mpr List.mem_cons_self) with q3 | q3
        · exact q3.symm
        · have := g1.1 b q3
          omega
    subst e
    congr 1
    refine nSt_ext g1.2 g2.2 (fun x => ⟨fun q => ?_, fun q => ?_⟩)
    · have := g1.1 x q
      rcases List.mem_cons.mp ((h x).mp (List.mem_cons_of_mem _ q)) with q3 | q3
      · omega
      · exact q3
    · have := g2.1 x q
      rcases List.mem_cons.mp ((h x).mpr (List.mem_cons_of_mem _ q)) with q3 | q3
      · omega
      · exact q3
def nMid (l : List Nat) (lo hi : Int) : List Nat := (l.take (nCt l hi)).drop (nCt l lo)
theorem nMid_mem {l : List Nat} (h : nSt l) {lo hi : Int} {x : Nat} : x ∈ nMid l lo hi ↔ x ∈ l ∧ lo ≤ (x : Int) ∧ (x : Int) < hi := by
  unfold nMid
  constructor
  · intro hx
    have h1 : x ∈ l.take (nCt l hi) := List.mem_of_mem_drop hx
    refine ⟨List.mem_of_mem_take h1, ?_, nSt_take h h1⟩
    rw [List.drop_take] at hx
    exact nSt_drop h (List.mem_of_mem_take hx)
  · rintro ⟨hx, h1, h2⟩
    obtain ⟨g1, g2⟩ := nCt_mem h hx
    have c1 := nCt_at (z := lo) h g1
    have c2 := nCt_at (z := hi) h g1
    rw [g2] at c1 c2
    have c2 := c2.mp h2
    have c3 : nCt l lo ≤ nCt l (x : Nat) := Nat.le_of_not_lt (fun q => by have := c1.mpr q; omega)
    have hle := nCt_le l hi
    rw [List.mem_iff_getElem]
    refine ⟨nCt l (x : Nat) - nCt l lo, by rw [List.length_drop, List.length_take]; omega, ?_⟩
    rw [List.getElem_drop, List.getElem_take]
    have e : nCt l lo + (nCt l (x : Nat) - nCt l lo) = nCt l (x : Nat) := by omega
    simp only [e]
    exact g2
theorem nMid_st {l : List Nat} (h : nSt l) {lo hi : Int} : nSt (nMid l lo hi) := (h.sublist (List.take_sublist _ _)).sublist (List.drop_sublist _ _)
theorem nMid_len {l : List Nat} {lo hi : Int} : (nMid l lo hi).length = nCt l hi - nCt l lo := by
  have := nCt_le l hi
  unfold nMid
  rw [List.length_drop, List.length_take]; omega
theorem nMid_get {l : List Nat} {lo hi : Int} {q : Nat} (hq : q < nCt l hi - nCt l lo) : (nMid l lo hi)[q]? = l[nCt l lo + q]? := by
  unfold nMid
  rw [List.getElem?_drop, List.getElem?_take, if_pos (by omega)]
theorem nMid_eq {l l' : List Nat} {lo hi : Int} {c : Nat} (h1 : nCt l hi - nCt l lo = c) (h2 : nCt l' hi - nCt l' lo = c) : (∀ q, q < c → l[nCt l lo + q]? = l'[nCt l' lo + q]?) ↔ nMid l lo hi = nMid l' lo hi := by
  constructor
  · intro h
    apply List.ext_getElem?
    intro q
    by_cases g : q < c
    · rw [nMid_get (by omega), nMid_get (by omega)]; exact h q g
    · rw [List.getElem?_eq_none (by rw [nMid_len]; omega), List.getElem?_eq_none (by rw [nMid_len]; omega)]
  · intro h q g
    rw [← nMid_get (hi := hi) (by omega), ← nMid_get (hi := hi) (by omega), h]
/-- the same values of an entry -/
def vSame (T U : sT) (e : Nat) : Prop := ∀ a v, (e, a, v) ∈ tVs T ↔ (e, a, v) ∈ tVs U
section QV
variable {N : Nat} {S : kS} {t u : Nat} {T U : sT} {H : sH}
theorem q_mid {l1 l2 : List Nat} (hT : tW T) (hU : tW U) (p1 : l1.Perm ((tVs T).map vC1)) (p2 : l2.Perm ((tVs U).map vC1)) (n1 : nSt l1) (n2 : nSt l2) {e : Nat} : nMid l1 ((e * 10000 : Nat) : Int) ((e * 10000 + 10000 : Nat) : Int) = nMid l2 ((e * 10000 : Nat) : Int) ((e * 10000 + 10000 : Nat) : Int) ↔ vSame T U e := by
  have mem : ∀ (V : sT) (l : List Nat) (hV : tW V) (p : l.Perm ((tVs V).map vC1)) (n : nSt l) (x : Nat), x ∈ nMid l ((e * 10000 : Nat) : Int) ((e * 10000 + 10000 : Nat) : Int) ↔ ∃ a v, (e, a, v) ∈ tVs V ∧ x = vC1 (e, a, v) := fun V l hV p n x => by
    rw [nMid_mem n, p.mem_iff, List.mem_map]
    constructor
    · rintro ⟨⟨y, hy, hyx⟩, h1, h2⟩
      obtain ⟨v1, v2, v3⟩ := tW_v hV y hy
      have : y.1 = e := by unfold vC1 at hyx; omega
      exact ⟨y.2.1, y.2.2, by rw [← this]; exact hy, by rw [← this]; exact hyx.symm⟩
    · rintro ⟨a, v, h1, rfl⟩
      obtain ⟨v1, v2, v3⟩ := tW_v hV _ h1
      have v2 : a < 10 := v2
      have v3 : v < 1000 := v3
      exact ⟨⟨_, h1, rfl⟩, by unfold vC1; simp only; omega, by unfold vC1; simp only; omega⟩
  constructor
  · intro h a v
    constructor
    · intro g
      have := (mem T l1 hT p1 n1 (vC1 (e, a, v))).mpr ⟨a, v, g, rfl⟩
      rw [h] at this
      obtain ⟨a', v', g1, g2⟩ := (mem U l2 hU p2 n2 _).mp this
      rw [vC1_inj (tW_v hT _ g) (tW_v hU _ g1) g2]
      exact g1
    · intro g
      have := (mem U l2 hU p2 n2 (vC1 (e, a, v))).mpr ⟨a, v, g, rfl⟩
      rw [← h] at this
      obtain ⟨a', v', g1, g2⟩ := (mem T l1 hT p1 n1 _).mp this
      rw [vC1_inj (tW_v hU _ g) (tW_v hT _ g1) g2]
      exact g1
  · intro h
    refine nSt_ext (nMid_st n1) (nMid_st n2) (fun x => ?_)
    rw [mem T l1 hT p1 n1, mem U l2 hU p2 n2]
    constructor
    · rintro ⟨a, v, g1, g2⟩; exact ⟨a, v, (h a v).mp g1, g2⟩
    · rintro ⟨a, v, g1, g2⟩; exact ⟨a, v, (h a v).mpr g1, g2⟩
theorem q_hasValuesAs_56 {l l' : List Nat} (n1 : nR S t 0 l) (n2 : nR S u 0 l') {c h h' : Nat} (hc : h + c ≤ l.length) (hc' : h' + c ≤ l'.length) : ∀ (n k i : Nat), i + k = c → k < n → ∃ b, pX8_hasValuesAs_56 N t u n (zI (c : Nat)) (zI (h : Nat)) (zI (h' : Nat)) (zI (i : Nat)) S = some (zB b, S) ∧ (b = true ↔ ∀ q, i ≤ q → q < c → l[h + q]? = l'[h' + q]?)
  | 0, k, i, hk, hn => by omega
  | n + 1, k, i, hk, hn => by
    have b1 := n1.2.2.2.2
    have b2 := n2.2.2.2.2
    have b3 := kNl_le 0
    simp only [pX8_hasValuesAs_56, nm_i]
    rw [il_le (by omega) (by omega) (by omega) (by omega)]
    cases k with
    | zero =>
      rw [if_pos (by omega)]
      exact ⟨true, rfl, fun _ q g1 g2 => by omega, fun _ => rfl⟩
    | succ k =>
      have i1 : h + i < l.length := by omega
      have i2 : h' + i < l'.length := by omega
      have c1 := n1.2.2.2.1 _ (List.getElem_mem i1)
      have c2 := n2.2.2.2.1 _ (List.getElem_mem i2)
      rw [if_neg (by omega), zL_1]
      simp only [zI_add]
      rw [show (h : Int) + (i : Int) = ((h + i : Nat) : Int) by omega, show (h' : Int) + (i : Int) = ((h' + i : Nat) : Int) by omega, show (i : Int) + 1 = ((i + 1 : Nat) : Int) by omega, q_at n1 i1, bk_i, q_at n2 i2, bk_i, il_eq (by omega) (by omega) (by omega) (by omega)]
      by_cases q1 : l[h + i] = l'[h' + i]
      · rw [if_pos (by omega)]
        obtain ⟨b, e1, e2⟩ := q_hasValuesAs_56 n1 n2 hc hc' n k (i + 1) (by omega) (by omega)
        refine ⟨b, e1, e2.trans ⟨fun g q g1 g2 => ?_, fun g q g1 g2 => g q (by omega) g2⟩⟩
        by_cases g3 : q = i
        · subst g3
          rw [List.getElem?_eq_getElem i1, List.getElem?_eq_getElem i2, q1]
        · exact g q (by omega) g2
      · rw [if_neg (by omega)]
        refine ⟨false, rfl, fun g => Bool.noConfusion g, fun g => ?_⟩
        have := g i (by omega) (by omega)
        rw [List.getElem?_eq_getElem i1, List.getElem?_eq_getElem i2] at this
        exact absurd (Option.some.inj this) q1
theorem q_hasValuesAs (hN : 900 ≤ N) (R : tOk S t T) (Q : tOk S u U) {e : Nat} (he : e < 48) : ∃ b, pX8_hasValuesAs N t u (zI (e : Nat)) S = some (zB b, S) ∧ (b = true ↔ vSame T U e) := by
  obtain ⟨⟨-, -, -, -, -, -, -, -, -, l1, l1', n1, n1', p1, p1'⟩, hT⟩ := R
  obtain ⟨⟨-, -, -, -, -, -, -, -, -, l2, l2', n2, n2', p2, p2'⟩, hU⟩ := Q
  have b1 := n1.2.2.2.2
  have b2 := n2.2.2.2.2
  have b3 := kNl_le 0
  have c1 := nCt_le l1 ((e * 10000 + 10000 : Nat) : Int)
  have c2 := nCt_le l2 ((e * 10000 + 10000 : Nat) : Int)
  have s1 := nCt_sub (l := l1) (lo := ((e * 10000 : Nat) : Int)) (hi := ((e * 10000 + 10000 : Nat) : Int)) (by omega)
  have s2 := nCt_sub (l := l2) (lo := ((e * 10000 : Nat) : Int)) (hi := ((e * 10000 + 10000 : Nat) : Int)) (by omega)
  have mid := q_mid hT hU p1 p2 n1.2.2.1 n2.2.2.1 (e := e)
  simp only [pX8_hasValuesAs, pX8_valuesBetween]
  rw [zL_10000, zL_0, show (9999 : Int32) = zI 9999 from rfl]
  simp only [zI_mul, zI_add]
  rw [show (e : Int) * 10000 + 0 = ((e * 10000 : Nat) : Int) by omega, show (e : Int) * 10000 + 9999 = ((e * 10000 + 9999 : Nat) : Int) by omega, show (e : Int) * 10000 = ((e * 10000 : Nat) : Int) by omega,
    q_countBetween n1 (by omega) (by omega) (by omega) (by omega) (by omega), bk_i, bk_i, q_countBetween n2 (by omega) (by omega) (by omega) (by omega) (by omega), bk_i, bk_i,
    show ((e * 10000 + 9999 : Nat) : Int) + 1 = ((e * 10000 + 10000 : Nat) : Int) by omega, il_eq (by omega) (by omega) (by omega) (by omega)]
  by_cases g : nCt l1 ((e * 10000 + 10000 : Nat) : Int) - nCt l1 ((e * 10000 : Nat) : Int) = nCt l2 ((e * 10000 + 10000 : Nat) : Int) - nCt l2 ((e * 10000 : Nat) : Int)
  · rw [if_pos (by omega), q_indexOf n1 (by omega) (by omega) (by omega), bk_i, q_indexOf n2 (by omega) (by omega) (by omega), bk_i]
    obtain ⟨b, e1, e2⟩ := q_hasValuesAs_56 (N := N) n1 n2 (c := nCt l1 ((e * 10000 + 10000 : Nat) : Int) - nCt l1 ((e * 10000 : Nat) : Int)) (h := nCt l1 ((e * 10000 : Nat) : Int)) (h' := nCt l2 ((e * 10000 : Nat) : Int)) (by omega) (by omega) N _ 0 (Nat.zero_add _) (by omega)
    refine ⟨b, ?_, ?_⟩
    · rw [show (nCt l1 ((e * 10000 + 10000 : Nat) : Int) : Int) - (nCt l1 ((e * 10000 : Nat) : Int) : Int) = ((nCt l1 ((e * 10000 + 10000 : Nat) : Int) - nCt l1 ((e * 10000 : Nat) : Int) : Nat) : Int) by omega]
      exact e1
    · rw [e2, ← mid, ← nMid_eq rfl g.symm]
      exact ⟨fun h q hq => h q (Nat.zero_le _) hq, fun h q _ hq => h q hq⟩
  · rw [if_neg (by omega)]
    refine ⟨false, rfl, fun h => Bool.noConfusion h, fun h => ?_⟩
    have := mid.mpr h
    have := congrArg List.length this
    rw [nMid_len, nMid_len] at this
    exact absurd this g
/-- two trees show an entry alike -/
def tAs (T U : sT) (e : Nat) : Prop := tPl T e = tPl U e ∧ tSh T e = tSh U e ∧ tKl T e = tKl U e ∧ tLk T e = tLk U e ∧ (∀ k, k < 330 → tSy T e k = tSy U e k) ∧ vSame T U e
theorem q_showsAs (hN : 900 ≤ N) (R : tOk S t T) (Q : tOk S u U) {e : Nat} (he : e < 48) (h1 : tTh T e = true) (h2 : tTh U e = true) : ∃ b, pX8_showsAs N t u (zI (e : Nat)) S = some (zB b, S) ∧ (b = true ↔ tAs T U e) := by
  have a1 := tPl_rg R.2 he
  have a2 := tPl_rg Q.2 he
  have a3 := tSh_rg R.2 he
  have a4 := tSh_rg Q.2 he
  have a5 := R.2.2.2.2.1 e he
  have a6 := Q.2.2.2.2.1 e he
  have a7 := R.2.2.2.2.2.1 e he
  have a8 := Q.2.2.2.2.2.1 e he
  simp only [pX8_showsAs, pX8_showsAs_61]
  rw [q_placeOf R he, bk_i, q_placeOf Q he, bk_i, il_eq (by omega) (by omega) (by omega) (by omega), q_shownName R (by omega) he h1, bk_i, q_shownName Q (by omega) he h2, bk_i, il_eq (by omega) (by omega) (by omega) (by omega)]
  simp only [gd_n he (show (48 : Nat) < 2147483648 by omega), zI_cn (show e < 2147483648 by omega), R.1.2.1 e he, Q.1.2.1 e he, R.1.2.2.1 e he, Q.1.2.2.1 e he]
  have no : ∀ {P : Prop}, ¬ P → ∃ b, (if True then some ((0 : Int32), S) else none) = some (zB b, S) ∧ (b = true ↔ P) := fun h => ⟨false, rfl, fun g => Bool.noConfusion g, fun g => absurd g h⟩
  by_cases c1 : tPl T e = tPl U e
  · rw [if_pos c1]
    by_cases c2 : tSh T e = tSh U e
    · rw [if_pos c2]
      by_cases c3 : tKl T e = tKl U e
      · rw [if_pos (show zI (tKl T e) = zI (tKl U e) by rw [c3])]
        by_cases c4 : tLk T e = tLk U e
        · rw [if_pos (show zI (tLk T e) = zI (tLk U e) by rw [c4]), if_neg (by decide)]
          obtain ⟨b, e1, e2⟩ := q_areSame (N := N) (by omega) R Q he
          obtain ⟨b', e3, e4⟩ := q_hasValuesAs hN R Q he
          rw [e1, bk_i, il_B]
          cases b with
          | false =>
            rw [if_neg (by decide)]
            refine ⟨false, rfl, fun g => Bool.noConfusion g, fun g => ?_⟩
            exact absurd (e2.mpr g.2.2.2.2.1) (by decide)
          | true =>
            rw [if_pos rfl, e3, bk_i, il_B]
            cases b' with
            | false =>
              rw [if_neg (by decide)]
              refine ⟨false, rfl, fun g => Bool.noConfusion g, fun g => ?_⟩
              exact absurd (e4.mpr g.2.2.2.2.2) (by decide)
            | true =>
              rw [if_pos rfl]
              exact ⟨true, rfl, fun _ => ⟨c1, c2, c3, c4, e2.mp rfl, e4.mp rfl⟩, fun _ => rfl⟩
        · rw [if_neg (by rw [zI_eq (by omega) (by omega) (by omega) (by omega)]; exact c4), if_pos trivial]
          exact ⟨false, rfl, fun g => Bool.noConfusion g, fun g => absurd g.2.2.2.1 c4⟩
      · rw [if_neg (by rw [zI_eq (by omega) (by omega) (by omega) (by omega)]; exact c3), if_pos trivial]
        exact ⟨false, rfl, fun g => Bool.noConfusion g, fun g => absurd g.2.2.1 c3⟩
    · rw [if_neg c2, if_pos trivial]
      exact ⟨false, rfl, fun g => Bool.noConfusion g, fun g => absurd g.2.1 c2⟩
  · rw [if_neg c1, if_pos trivial]
    exact ⟨false, rfl, fun g => Bool.noConfusion g, fun g => absurd g.1 c1⟩
end QV
