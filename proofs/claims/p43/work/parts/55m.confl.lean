-- LEVEL 2, CALLS: CONFLICTS
section O8
variable {N : Nat} {S : kS} {W : sW} {H : sH} {T : sT}
def cfl (H : sH) (T : sT) (sort e : Nat) : Bool := if sort = 0 then decide (100 ≤ tSh T e) else if sort = 1 then decide (tPl T e = -2) else tInc H T e
def cfN (H : sH) (T : sT) (sort : Nat) : Nat → Nat → Nat
  | _, 0 => 0
  | i, n + 1 => (if tLv T i && cfl H T sort i then 1 else 0) + cfN H T sort (i + 1) n
theorem q_isInConflict (hN : 900 ≤ N) {t : Nat} (R : tOk S t T) (hH : hR S H) (hw : hW H) {sort e : Nat} (hs : sort < 3) (he : e < 48) (hl : tLv T e = true) : pX9_isInConflict N t (zI (e : Nat)) (zI (sort : Nat)) S = some (zB (cfl H T sort e), S) := by
  have s1 := tSh_rg R.2 he
  have p1 := tPl_rg R.2 he
  simp only [pX9_isInConflict]
  rw [zL_0, zL_1, il_eq (by omega) (by omega) (by omega) (by omega), il_eq (by omega) (by omega) (by omega) (by omega)]
  unfold cfl
  by_cases q0 : sort = 0
  · rw [if_pos (show (sort : Int) = 0 by omega), if_pos q0, q_shownName R (by omega) he (tLv_th he hl), bk_i, zL_100, il_lt (by omega) (by omega) (by omega) (by omega)]
    by_cases q : tSh T e < 100
    · rw [if_pos q, decide_eq_false (by omega)]; rfl
    · rw [if_neg q, decide_eq_true (by omega)]; rfl
  · rw [if_neg (show ¬ (sort : Int) = 0 by omega), if_neg q0]
    by_cases q1 : sort = 1
    · rw [if_pos (show (sort : Int) = 1 by omega), if_pos q1, q_placeOf R he, bk_i, zL_m2, il_eq (by omega) (by omega) (by omega) (by omega)]
      by_cases q : tPl T e = -2
      · rw [if_pos q, decide_eq_true q]; rfl
      · rw [if_neg q, decide_eq_false q]; rfl
    · rw [if_neg (show ¬ (sort : Int) = 1 by omega), if_neg q1, q_isIncomplete R hH hw (by omega) he, bk_i, zk_B]
theorem q_conflicts_35 (hN : 900 ≤ N) {t : Nat} (R : tOk S t T) (hH : hR S H) (hw : hW H) {sort : Nat} (hs : sort < 3) : ∀ (n k i c : Nat), 1 ≤ i → i + k = 48 → k < n → pX9_conflicts_35 N n (zI (sort : Nat)) t (zI (c : Nat)) (zI (i : Nat)) S = some (.inl (zI ((c + cfN H T sort i k : Nat) : Int)), S)
  | 0, k, i, c, _, hk, hn => by omega
  | n + 1, k, i, c, h1, hk, hn => by
    simp only [pX9_conflicts_35, pX9_conflicts_64, nm_i]
    rw [zL_48, il_le (by omega) (by omega) (by omega) (by omega)]
    cases k with
    | zero => rw [if_pos (by omega)]; rfl
    | succ k =>
      have hi : i < 48 := by omega
      have e : cfN H T sort i (k + 1) = (if tLv T i && cfl H T sort i then 1 else 0) + cfN H T sort (i + 1) k := rfl
      rw [if_neg (by omega), q_isLive R (by omega) (by omega), bk_i, il_B, show zI (i : Nat) + 1 = zI ((i + 1 : Nat) : Int) by rw [zL_1, zI_add]; congr 1, show zI (c : Nat) + 1 = zI ((c + 1 : Nat) : Int) by rw [zL_1, zI_add]; congr 1, e]
      cases hl : tLv T i with
      | false =>
        rw [if_neg (by decide), q_conflicts_35 hN R hH hw hs n k (i + 1) c (by omega) (by omega) (by omega), Bool.false_and, if_neg (by decide), Nat.zero_add]
      | true =>
        rw [if_pos rfl, q_isInConflict hN R hH hw hs hi hl, bk_i, il_B, Bool.true_and]
        cases cfl H T sort i with
        | false =>
          rw [if_neg (by decide), if_neg (by decide), q_conflicts_35 hN R hH hw hs n k (i + 1) c (by omega) (by omega) (by omega), Nat.zero_add]
        | true =>
          rw [if_pos rfl, if_pos rfl, q_conflicts_35 hN R hH hw hs n k (i + 1) (c + 1) (by omega) (by omega) (by omega), Nat.add_assoc]
theorem tInc_H (hw : hW H) (hq : hQ H) (X : tX H T) {e : Nat} (he : e < 48) : anyF (fun a => ib (hReq H (tKl T e)) a && decide (tCnt T e a = 0)) 0 (hA H) = tInc H T e := by
  have h10 := hw.1
  have no : ∀ a, hA H ≤ a → a < 32 → ib (hReq H (tKl T e)) a = false := fun a h1 h2 => by
    unfold hReq
    by_cases q : hIs H (tKl T e) = true
    · rw [if_pos q]
      unfold hIs at q
      rw [Bool.and_eq_true, decide_eq_true_eq, decide_eq_true_eq] at q
      exact hq _ (by omega) a h1 h2
    · rw [if_neg q, ib_0]
  unfold tInc
  apply Bool.eq_iff_iff.mpr
  rw [anyF_iff, anyF_iff]
  constructor
  · rintro ⟨j, h1, h2, h3⟩
    exact ⟨j, h1, by omega, h3⟩
  · rintro ⟨j, h1, h2, h3⟩
    refine ⟨j, h1, ?_, h3⟩
    rw [Bool.and_eq_true] at h3
    rcases Nat.lt_or_ge j (0 + hA H) with g | g
    · exact g
    · rw [no j (by omega) (by omega)] at h3
      exact Bool.noConfusion h3.1
end O8
