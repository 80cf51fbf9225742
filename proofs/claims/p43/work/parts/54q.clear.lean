-- LEVEL 2, VALUES ALIKE; A TREE EMPTIED; A TREE KEPT IN ORDER
theorem nSt_ext : ∀ {l l' : List Nat}, nSt l → nSt l' → (∀ x, x ∈ l ↔ x ∈ l') → l = l'
  | [], [], _, _, _ => rfl
  | [], b :: l', _, _, h => absurd ((h b).mpr List.mem_cons_self) List.not_mem_nil
  | a :: l, [], _, _, h => absurd ((h a).mp List.mem_cons_self) List.not_mem_nil
  | a :: l, b :: l', h1, h2, h => by
    have g1 := List.pairwise_cons.mp h1
    have g2 := List.pairwise_cons.mp h2
    have e : a = b := by
      rcases List.mem_cons.mp ((h a).mp List.mem_cons_self) with q | q
      · exact q
      · have q2 := g2.1 a q
        rcases List.mem_cons.mp ((h b).mpr List.mem_cons_self) with q3 | q3
        · exact q3.symm
        · have := g1.1 b q3
          omega
    subst e
    congr 1
    refine nSt_ext g1.2 g2.2 (fun x => ⟨fun q => ?_, fun q => ?_⟩)
    · have := g1.1 x q
      rcases List.mem_cons.mp ((h x).mp (List.mem_cons_of_mem _ q)) with q3 | q3
      · omega
      · exact q3
    · have := g2.1 x q
      rcases List.mem_cons.mp ((h x).mpr (List.mem_cons_of_mem _ q)) with q3 | q3
      · omega
      · exact q3
def nMid (l : List Nat) (lo hi : Int) : List Nat := (l.take (nCt l hi)).drop (nCt l lo)
theorem nMid_mem {l : List Nat} (h : nSt l) {lo hi : Int} {x : Nat} : x ∈ nMid l lo hi ↔ x ∈ l ∧ lo ≤ (x : Int) ∧ (x : Int) < hi := by
  unfold nMid
  constructor
  · intro hx
    have h1 : x ∈ l.take (nCt l hi) := List.mem_of_mem_drop hx
    refine ⟨List.mem_of_mem_take h1, ?_, nSt_take h h1⟩
    rw [List.drop_take] at hx
    exact nSt_drop h (List.mem_of_mem_take hx)
  · rintro ⟨hx, h1, h2⟩
    obtain ⟨g1, g2⟩ := nCt_mem h hx
    have c1 := nCt_at (z := lo) h g1
    have c2 := nCt_at (z := hi) h g1
    rw [g2] at c1 c2
    have c2 := c2.mp h2
    have c3 : nCt l lo ≤ nCt l (x : Nat) := Nat.le_of_not_lt (fun q => by have := c1.mpr q; omega)
    have hle := nCt_le l hi
    rw [List.mem_iff_getElem]
    refine ⟨nCt l (x : Nat) - nCt l lo, by rw [List.length_drop, List.length_take]; omega, ?_⟩
    rw [List.getElem_drop, List.getElem_take]
    have e : nCt l lo + (nCt l (x : Nat) - nCt l lo) = nCt l (x : Nat) := by omega
    simp only [e]
    exact g2
theorem nMid_st {l : List Nat} (h : nSt l) {lo hi : Int} : nSt (nMid l lo hi) := (h.sublist (List.take_sublist _ _)).sublist (List.drop_sublist _ _)
theorem nMid_len {l : List Nat} {lo hi : Int} : (nMid l lo hi).length = nCt l hi - nCt l lo := by
  have := nCt_le l hi
  unfold nMid
  rw [List.length_drop, List.length_take]; omega
theorem nMid_get {l : List Nat} {lo hi : Int} {q : Nat} (hq : q < nCt l hi - nCt l lo) : (nMid l lo hi)[q]? = l[nCt l lo + q]? := by
  unfold nMid
  rw [List.getElem?_drop, List.getElem?_take, if_pos (by omega)]
theorem nMid_eq {l l' : List Nat} {lo hi : Int} {c : Nat} (h1 : nCt l hi - nCt l lo = c) (h2 : nCt l' hi - nCt l' lo = c) : (∀ q, q < c → l[nCt l lo + q]? = l'[nCt l' lo + q]?) ↔ nMid l lo hi = nMid l' lo hi := by
  constructor
  · intro h
    apply List.ext_getElem?
    intro q
    by_cases g : q < c
    · rw [nMid_get (by omega), nMid_get (by omega)]; exact h q g
    · rw [List.getElem?_eq_none (by rw [nMid_len]; omega), List.getElem?_eq_none (by rw [nMid_len]; omega)]
  · intro h q g
    rw [← nMid_get (hi := hi) (by omega), ← nMid_get (hi := hi) (by omega), h]
/-- the same values of an entry -/
def vSame (T U : sT) (e : Nat) : Prop := ∀ a v, (e, a, v) ∈ tVs T ↔ (e, a, v) ∈ tVs U
section QV
variable {N : Nat} {S : kS} {t u : Nat} {T U : sT} {H : sH}
theorem q_mid {l1 l2 : List Nat} (hT : tW T) (hU : tW U) (p1 : l1.Perm ((tVs T).map vC1)) (p2 : l2.Perm ((tVs U).map vC1)) (n1 : nSt l1) (n2 : nSt l2) {e : Nat} : nMid l1 ((e * 10000 : Nat) : Int) ((e * 10000 + 10000 : Nat) : Int) = nMid l2 ((e * 10000 : Nat) : Int) ((e * 10000 + 10000 : Nat) : Int) ↔ vSame T U e := by
  have mem : ∀ (V : sT) (l : List Nat) (hV : tW V) (p : l.Perm ((tVs V).map vC1)) (n : nSt l) (x : Nat), x ∈ nMid l ((e * 10000 : Nat) : Int) ((e * 10000 + 10000 : Nat) : Int) ↔ ∃ a v, (e, a, v) ∈ tVs V ∧ x = vC1 (e, a, v) := fun V l hV p n x => by
    rw [nMid_mem n, p.mem_iff, List.mem_map]
    constructor
    · rintro ⟨⟨y, hy, hyx⟩, h1, h2⟩
      obtain ⟨v1, v2, v3⟩ := tW_v hV y hy
      have : y.1 = e := by unfold vC1 at hyx; omega
      exact ⟨y.2.1, y.2.2, by rw [← this]; exact hy, by rw [← this]; exact hyx.symm⟩
    · rintro ⟨a, v, h1, rfl⟩
      obtain ⟨v1, v2, v3⟩ := tW_v hV _ h1
      have v2 : a < 10 := v2
      have v3 : v < 1000 := v3
      exact ⟨⟨_, h1, rfl⟩, by unfold vC1; simp only; omega, by unfold vC1; simp only; omega⟩
  constructor
  · intro h a v
    constructor
    · intro g
      have := (mem T l1 hT p1 n1 (vC1 (e, a, v))).mpr ⟨a, v, g, rfl⟩
      rw [h] at this
      obtain ⟨a', v', g1, g2⟩ := (mem U l2 hU p2 n2 _).mp this
      rw [vC1_inj (tW_v hT _ g) (tW_v hU _ g1) g2]
      exact g1
    · intro g
      have := (mem U l2 hU p2 n2 (vC1 (e, a, v))).mpr ⟨a, v, g, rfl⟩
      rw [← h] at this
      obtain ⟨a', v', g1, g2⟩ := (mem T l1 hT p1 n1 _).mp this
      rw [vC1_inj (tW_v hU _ g) (tW_v hT _ g1) g2]
      exact g1
  · intro h
    refine nSt_ext (nMid_st n1) (nMid_st n2) (fun x => ?_)
    rw [mem T l1 hT p1 n1, mem U l2 hU p2 n2]
    constructor
    · rintro ⟨a, v, g1, g2⟩; exact ⟨a, v, (h a v).mp g1, g2⟩
    · rintro ⟨a, v, g1, g2⟩; exact ⟨a, v, (h a v).mpr g1, g2⟩
/-- two trees show an entry alike -/
def tAs (T U : sT) (e : Nat) : Prop := tPl T e = tPl U e ∧ tSh T e = tSh U e ∧ tKl T e = tKl U e ∧ tLk T e = tLk U e ∧ (∀ k, k < 330 → tSy T e k = tSy U e k) ∧ vSame T U e
end QV
