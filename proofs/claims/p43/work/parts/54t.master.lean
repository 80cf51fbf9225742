-- LEVEL 2, A MASTER: WHAT IT WAS TOLD
/-- the class's master m was told tl -/
def tdR (S : kS) (m : Nat) (tl : Nat → Nat → Nat) : Prop := kI S (16 + 4 * m) = zI (m : Nat) ∧ ∀ i j, i < 4 → j < 4 → kA S (19 + 2 * m) (4 * i + j) = zI (tl i j : Nat) ∧ tl i j ≤ 250
def up2 (f : Nat → Nat → Nat) (i j v : Nat) : Nat → Nat → Nat := fun a b => if a = i ∧ b = j then v else f a b
theorem up2_s (f : Nat → Nat → Nat) (i j v : Nat) : up2 f i j v i j = v := if_pos ⟨rfl, rfl⟩
theorem up2_o (f : Nat → Nat → Nat) {i j a b : Nat} (v : Nat) (h : ¬ (a = i ∧ b = j)) : up2 f i j v a b = f a b := if_neg h
/-- it knows a change -/
def gotB (tl : Nat → Nat → Nat) (i : Nat) (c : sCh) : Bool := decide (cN c < tl i (cM c))
section QMs
variable {N : Nat} {S : kS} {m : Nat} {tl : Nat → Nat → Nat}
theorem tdR_fr {S S' : kS} (h1 : kI S' (16 + 4 * m) = kI S (16 + 4 * m)) (h2 : kA S' (19 + 2 * m) = kA S (19 + 2 * m)) (R : tdR S m tl) : tdR S' m tl := by
  unfold tdR at *
  rw [h1, h2]
  exact R
theorem q_toldOf (R : tdR S m tl) {i j : Nat} (hi : i < 4) (hj : j < 4) : pX4_toldOf N m (zI (i : Nat)) (zI (j : Nat)) S = some (zI (tl i j : Nat), S) := by
  simp only [pX4_toldOf]
  rw [zL_4]
  simp only [zI_mul, zI_add]
  rw [show (i : Int) * 4 + (j : Int) = ((4 * i + j : Nat) : Int) by omega, gd_n (by omega) (by omega), zI_cn (by omega), (R.2 i j hi hj).1]
theorem q_isTold (R : tdR S m tl) {k : Nat} {c : sCh} (C : cRS S k c) (hc : cOk c) {i : Nat} (hi : i < 4) : pX4_isToldThatKnows N m (zI (i : Nat)) k S = some (zB (gotB tl i c), S) := by
  obtain ⟨r0, rk, re, rm, rn, rs, -⟩ := C
  obtain ⟨ck, ce, cm, cn, cs, -⟩ := hc
  have hb := (R.2 i (cM c) hi cm).2
  simp only [pX4_isToldThatKnows]
  rw [gn_l r0, rm, q_toldOf R hi cm, bk_i, gn_l r0, rn, il_le (by omega) (by omega) (by omega) (by omega)]
  unfold gotB
  by_cases q : cN c < tl i (cM c)
  · rw [if_neg (by omega), decide_eq_true q]; rfl
  · rw [if_pos (by omega), decide_eq_false q]; rfl
theorem q_hasGot (R : tdR S m tl) (hm : m < 4) {k : Nat} {c : sCh} (C : cRS S k c) (hc : cOk c) : pX4_hasGot N m k S = some (zB (gotB tl m c), S) := by
  simp only [pX4_hasGot]
  rw [R.1, q_isTold R C hc hm, bk_i, zk_B]
/-- nothing but what the master m was told was written -/
def frM (m : Nat) (S S' : kS) : Prop := (∀ q, q ≠ 18 + 4 * m → kI S' q = kI S q) ∧ (∀ c, c ≠ 19 + 2 * m → kA S' c = kA S c) ∧ kL S' = kL S ∧ kJ S' = kJ S ∧ S'.2.2.2.2 = S.2.2.2.2
theorem frM.rf {S : kS} : frM m S S := ⟨fun _ _ => rfl, fun _ _ => rfl, rfl, rfl, rfl⟩
theorem frM.trans {S S' S2 : kS} (h : frM m S S') (h2 : frM m S' S2) : frM m S S2 :=
  ⟨fun q a => (h2.1 q a).trans (h.1 q a), fun q a => (h2.2.1 q a).trans (h.2.1 q a), h2.2.2.1.trans h.2.2.1, h2.2.2.2.1.trans h.2.2.2.1, h2.2.2.2.2.trans h.2.2.2.2⟩
theorem q_learn (R : tdR S m tl) (hm : m < 4) {g : Nat} (hg : kI S (18 + 4 * m) = zI (g : Nat)) (hg2 : g ≤ 250) {k : Nat} {c : sCh} (C : cRS S k c) (hc : cOk c) : ∃ S', pX4_learn N m k S = some ((), S') ∧ tdR S' m (up2 tl m (cM c) (cN c + 1)) ∧ kI S' (18 + 4 * m) = zI ((if g < cS c then cS c else g : Nat) : Int) ∧ frM m S S' := by
  obtain ⟨r0, rk, re, rm, rn, rs, -⟩ := C
  obtain ⟨ck, ce, cm, cn, cs, -⟩ := hc
  simp only [pX4_learn]
  rw [gn_l r0, gn_l r0, R.1, rm, rn, zL_4, zL_1]
  simp only [zI_mul, zI_add]
  rw [show (m : Int) * 4 + (cM c : Int) = ((4 * m + cM c : Nat) : Int) by omega, gd_n (by omega) (by omega), zI_cn (by omega), svk_i, gn_l (by exact r0), svk_i]
  have e1 : kI (sA S (19 + 2 * m) (4 * m + cM c) (zI ((cN c : Int) + 1))) (18 + 4 * m) = zI (g : Nat) := hg
  have e2 : kF (sA S (19 + 2 * m) (4 * m + cM c) (zI ((cN c : Int) + 1))) k 8 = zI (cS c : Nat) := rs
  rw [e1, e2, il_lt (by omega) (by omega) (by omega) (by omega)]
  refine ⟨_, rfl, ⟨?_, fun i j hi hj => ⟨?_, ?_⟩⟩, ?_, ⟨fun q h => ?_, fun d h => ?_, rfl, rfl, rfl⟩⟩
  · rw [kI_sI, upd_o _ _ (by omega)]; exact R.1
  · rw [kA_sI, kA_sA_s]
    by_cases q : i = m ∧ j = cM c
    · obtain ⟨q1, q2⟩ := q
      subst q1; subst q2
      rw [upd_s, up2_s]
      congr 1
    · rw [upd_o _ _ (by omega), up2_o _ _ q]
      exact (R.2 i j hi hj).1
  · by_cases q : i = m ∧ j = cM c
    · obtain ⟨q1, q2⟩ := q
      subst q1; subst q2
      rw [up2_s]; omega
    · rw [up2_o _ _ q]
      exact (R.2 i j hi hj).2
  · rw [kI_sI, upd_s]
    by_cases q : g < cS c
    · rw [if_pos (by omega), if_pos q]
    · rw [if_neg (by omega), if_neg q]
  · rw [kI_sI, upd_o _ _ h]; rfl
  · rw [kA_sI, kA_sA_o _ _ _ h]
/-- two masters tell one another -/
def mrg (f g : Nat → Nat → Nat) : Nat → Nat → Nat := fun i j => max (f i j) (g i j)
def frP (m n : Nat) (S S' : kS) : Prop := kI S' = kI S ∧ (∀ c, c ≠ 19 + 2 * m → c ≠ 19 + 2 * n → kA S' c = kA S c) ∧ kL S' = kL S ∧ kJ S' = kJ S ∧ S'.2.2.2.2 = S.2.2.2.2
theorem q_talkTo_2 {n : Nat} {tn : Nat → Nat → Nat} (hmn : m ≠ n) : ∀ (f k i : Nat) (S : kS), i + k = 16 → k < f → (∀ q, q < 16 → kA S (19 + 2 * m) q = zI ((if q < i then max (tl (q / 4) (q % 4)) (tn (q / 4) (q % 4)) else tl (q / 4) (q % 4) : Nat) : Int)) → (∀ q, q < 16 → kA S (19 + 2 * n) q = zI ((if q < i then max (tl (q / 4) (q % 4)) (tn (q / 4) (q % 4)) else tn (q / 4) (q % 4) : Nat) : Int)) → (∀ q, q < 16 → tl (q / 4) (q % 4) ≤ 250 ∧ tn (q / 4) (q % 4) ≤ 250) → ∃ S', pX4_talkTo_2 N m n f (zI (i : Nat)) S = some ((), S') ∧ (∀ q, q < 16 → kA S' (19 + 2 * m) q = zI (max (tl (q / 4) (q % 4)) (tn (q / 4) (q % 4)) : Nat)) ∧ (∀ q, q < 16 → kA S' (19 + 2 * n) q = zI (max (tl (q / 4) (q % 4)) (tn (q / 4) (q % 4)) : Nat)) ∧ frP m n S S'
  | 0, k, i, S, hk, hf, _, _, _ => by omega
  | f + 1, k, i, S, hk, hf, h1, h2, h3 => by
    simp only [pX4_talkTo_2, nm_i]
    rw [zL_16, il_le (by omega) (by omega) (by omega) (by omega)]
    cases k with
    | zero =>
      rw [if_pos (by omega)]
      exact ⟨S, rfl, fun q hq => by rw [h1 q hq, if_pos (by omega)], fun q hq => by rw [h2 q hq, if_pos (by omega)], rfl, fun _ _ _ => rfl, rfl, rfl, rfl⟩
    | succ k =>
      have hi : i < 16 := by omega
      obtain ⟨b1, b2⟩ := h3 i hi
      have e1 := h1 i hi
      have e2 := h2 i hi
      rw [if_neg (by omega)] at e1 e2
      rw [if_neg (by omega)]
      simp only [gd_n hi (show (16 : Nat) < 2147483648 by omega), zI_cn (show i < 2147483648 by omega), svk_i]
      rw [e1, e2, il_lt (by omega) (by omega) (by omega) (by omega), show (if (tl (i / 4) (i % 4) : Int) < (tn (i / 4) (i % 4) : Int) then zI (tn (i / 4) (i % 4) : Nat) else zI (tl (i / 4) (i % 4) : Nat)) = zI (max (tl (i / 4) (i % 4)) (tn (i / 4) (i % 4)) : Nat) by
        by_cases g : tl (i / 4) (i % 4) < tn (i / 4) (i % 4)
        · rw [if_pos (by omega), Nat.max_eq_right (by omega)]
        · rw [if_neg (by omega), Nat.max_eq_left (by omega)], zL_1, zI_add, show (i : Int) + 1 = ((i + 1 : Nat) : Int) by omega]
      obtain ⟨S', q1, q2, q3, f1, f2, f3, f4, f5⟩ := q_talkTo_2 hmn f k (i + 1) (sA (sA S (19 + 2 * m) i (zI (max (tl (i / 4) (i % 4)) (tn (i / 4) (i % 4)) : Nat))) (19 + 2 * n) i (zI (max (tl (i / 4) (i % 4)) (tn (i / 4) (i % 4)) : Nat))) (by omega) (by omega) (fun q hq => by
        rw [kA_sA_o _ _ _ (by omega), kA_sA_s]
        by_cases g : q = i
        · subst g; rw [upd_s, if_pos (by omega)]
        · rw [upd_o _ _ g, h1 q hq]
          by_cases g2 : q < i
          · rw [if_pos g2, if_pos (by omega)]
          · rw [if_neg g2, if_neg (by omega)]) (fun q hq => by
        rw [kA_sA_s]
        by_cases g : q = i
        · subst g; rw [upd_s, if_pos (by omega)]
        · rw [upd_o _ _ g, kA_sA_o _ _ _ (by omega), h2 q hq]
          by_cases g2 : q < i
          · rw [if_pos g2, if_pos (by omega)]
          · rw [if_neg g2, if_neg (by omega)]) h3
      exact ⟨S', q1, q2, q3, f1, fun c a b => (f2 c a b).trans ((kA_sA_o _ _ _ b).trans (kA_sA_o _ _ _ a)), f3, f4, f5⟩
theorem q_talkTo {n : Nat} {tn : Nat → Nat → Nat} (hN : 17 ≤ N) (hmn : m ≠ n) (R : tdR S m tl) (Q : tdR S n tn) : ∃ S', pX4_talkTo N m n S = some ((), S') ∧ tdR S' m (mrg tl tn) ∧ tdR S' n (mrg tl tn) ∧ frP m n S S' := by
  obtain ⟨S', q1, q2, q3, f⟩ := q_talkTo_2 (N := N) (tl := tl) (tn := tn) hmn N 16 0 S (by omega) (by omega) (fun q hq => by
    rw [if_neg (by omega), ← (R.2 (q / 4) (q % 4) (by omega) (by omega)).1, show 4 * (q / 4) + q % 4 = q by omega]) (fun q hq => by
    rw [if_neg (by omega), ← (Q.2 (q / 4) (q % 4) (by omega) (by omega)).1, show 4 * (q / 4) + q % 4 = q by omega]) (fun q hq => ⟨(R.2 (q / 4) (q % 4) (by omega) (by omega)).2, (Q.2 (q / 4) (q % 4) (by omega) (by omega)).2⟩)
  have hm : ∀ i j, i < 4 → j < 4 → mrg tl tn i j ≤ 250 := fun i j hi hj => by
    have a := (R.2 i j hi hj).2
    have b := (Q.2 i j hi hj).2
    exact Nat.max_le.mpr ⟨a, b⟩
  refine ⟨S', q1, ⟨by rw [f.1]; exact R.1, fun i j hi hj => ⟨?_, hm i j hi hj⟩⟩, ⟨by rw [f.1]; exact Q.1, fun i j hi hj => ⟨?_, hm i j hi hj⟩⟩, f⟩
  · have := q2 (4 * i + j) (by omega)
    rw [show (4 * i + j) / 4 = i by omega, show (4 * i + j) % 4 = j by omega] at this
    exact this
  · have := q3 (4 * i + j) (by omega)
    rw [show (4 * i + j) / 4 = i by omega, show (4 * i + j) % 4 = j by omega] at this
    exact this
/-- the marks that it keeps -/
theorem q_marked {T : sT} (R : tR S m T) {dr : Nat → Bool} (hd : ∀ e, e < 64 → lb (kL S m) e = (decide (e < 48) && dr e)) : ∃ w, pX4_marked N m S = some (w, S) ∧ ∀ e, e < 64 → lb w e = (decide (e < 48) && (tDd T e && !dr e)) := by
  refine ⟨_, rfl, fun e he => ?_⟩
  show lb (kL S (9 + 2 * m) &&& (kL S m ^^^ (-1))) e = _
  rw [lb_and, lb_not _ he, R.2.2.2.2.2.2.1 e he, hd e he]
  by_cases g : e < 48 <;> simp [g]
end QMs
