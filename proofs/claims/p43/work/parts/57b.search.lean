-- LEVEL 2, THE CALL SEARCH
/-- the state with what was found last -/
def wFd (W : sW) (F : List Nat) : sW := wMk (wH W) (wD W) (wP W) (wK W) (wC W) (wN W) (wO W) (wT W) (wX W) (wU W) (wE W) F
def scp (T : sT) (sc b e : Nat) : Bool := if sc = 0 then decide (e = b) else if sc = 1 then decide (tPl T e = (b : Int)) else pCome (fun x => tPl T x) 48 (e : Nat) (b : Nat)
/-- an entry that a search finds -/
def fnd (W : sW) (m sc b e : Nat) : Bool := tLv (wTr W m) (e : Nat) && (scp (wTr W m) sc b e && (wFt W (wTr W m) e && tMay (wH W) (wTr W m) (wU W m) (e : Nat) 0))
def fL (W : sW) (m sc b i : Nat) : List Nat := ((List.range i).filter (fnd W m sc b)).map (fun e => 100 * m + e)
theorem fL_s {W : sW} {m sc b i : Nat} : fL W m sc b (i + 1) = if fnd W m sc b i = true then fL W m sc b i ++ [100 * m + i] else fL W m sc b i := by
  unfold fL
  rw [List.range_succ, List.filter_append, List.map_append]
  by_cases q : fnd W m sc b i = true
  · rw [if_pos q, List.filter_cons, if_pos q]; rfl
  · rw [if_neg q, List.filter_cons, if_neg q]
    exact List.append_nil _
theorem fL_len {W : sW} {m sc b : Nat} : ∀ i, (fL W m sc b i).length ≤ i
  | 0 => Nat.le_refl _
  | i + 1 => by
    have ih := fL_len (W := W) (m := m) (sc := sc) (b := b) i
    rw [fL_s]
    split
    · rw [List.length_append, List.length_singleton]; omega
    · omega
theorem fL_ct {W : sW} {m sc b : Nat} : ∀ i, (fL W m sc b i).length = fb_ct (fnd W m sc b) i
  | 0 => rfl
  | i + 1 => by
    have ih := fL_ct (W := W) (m := m) (sc := sc) (b := b) i
    rw [fL_s, fb_ct_succ]
    split
    · rw [List.length_append, List.length_singleton]; omega
    · omega
theorem fL_lt {W : sW} {m sc b : Nat} (hm : m < 4) {i : Nat} (hi : i ≤ 48) : ∀ s ∈ fL W m sc b i, s < 400 := fun s hs => by
  unfold fL at hs
  obtain ⟨e, h1, h2⟩ := List.mem_map.mp hs
  have := List.mem_range.mp (List.mem_filter.mp h1).1
  omega
section SE
variable {N : Nat} {S : kS} {W : sW} {T : sT} {H : sH}
theorem wFd_ok (h : wOk W) {F : List Nat} (h1 : F.length ≤ 192) (h2 : ∀ s ∈ F, s < 400) : wOk (wFd W F) := by
  obtain ⟨o1, o2, o3, o4, o5, o6, o7, o8, o9⟩ := h
  exact ⟨o1, o2, o3, o4, o5, o6, o7, ⟨h1, h2⟩, o9⟩
theorem kRel_F {S' : kS} {F : List Nat} (K : kRel S W) (hI : ∀ q, q ≤ 7 ∨ 11 ≤ q → kI S' q = kI S q) (hAr : ∀ c, c ≠ 14 → c ≠ 16 → kA S' c = kA S c) (hJ : ∀ c, 26 ≤ c → kJ S' c = kJ S c) (hL : kL S' = kL S) (hD : S'.2.2.2.2 = S.2.2.2.2) (fo : kI S' 8 = zI (F.length : Nat) ∧ ∀ i (h : i < F.length), kA S' 14 i = zI (F[i] : Nat)) : kRel S' (wFd W F) := by
  have f := K.2.2.1
  exact kRel_e (D := wD W) (P := wP W) (F := wK W) (en := wE W) (fd := F) K (fun q hq => hI q (by omega)) (fun c hc => hAr c (by omega) (by omega)) hJ hL hD ⟨by rw [hI 5 (by omega)]; exact K.2.1.1, by rw [hAr 6 (by omega) (by omega)]; exact K.2.1.2⟩ ⟨by rw [hI 6 (by omega)]; exact f.1, by rw [hI 7 (by omega)]; exact f.2.1, by rw [hAr 8 (by omega) (by omega), hAr 9 (by omega) (by omega), hAr 10 (by omega) (by omega)]; exact f.2.2⟩ (by rw [hI 0 (by omega)]; exact K.2.2.2.2.2.2.2.2.2.1) fo
/-- the class -/
theorem q_isInScope (hN : 900 ≤ N) {t : Nat} (Q : tOk S t T) {sc b e : Nat} (hsc : sc < 3) (hb : b < 48) (he : e < 48) : pX3_isInScope N t (zI (e : Nat)) (zI (b : Nat)) (zI (sc : Nat)) S = some (zB (scp T sc b e), S) := by
  have s0 : (zI (sc : Nat) = (0 : Int32)) ↔ sc = 0 := by rw [zL_0, zI_eq (by omega) (by omega) (by omega) (by omega)]; omega
  have s1 : (zI (sc : Nat) = (1 : Int32)) ↔ sc = 1 := by rw [zL_1, zI_eq (by omega) (by omega) (by omega) (by omega)]; omega
  have hp := tPl_rg Q.2 he
  simp only [pX3_isInScope]
  unfold scp
  by_cases q0 : sc = 0
  · rw [if_pos (s0.mpr q0), if_pos q0, il_eq (by omega) (by omega) (by omega) (by omega)]
    by_cases z : e = b
    · rw [if_pos (by omega), decide_eq_true z]; rfl
    · rw [if_neg (by omega), decide_eq_false z]; rfl
  · rw [if_neg (fun g => q0 (s0.mp g)), if_neg q0]
    by_cases q1 : sc = 1
    · rw [if_pos (s1.mpr q1), if_pos q1, q_placeOf Q he, bk_i, il_eq (by omega) (by omega) (by omega) (by omega)]
      by_cases z : tPl T e = (b : Int)
      · rw [if_pos z, decide_eq_true z]; rfl
      · rw [if_neg z, decide_eq_false z]; rfl
    · rw [if_neg (fun g => q1 (s1.mp g)), if_neg q1, q_isAtOrBeneath Q (by omega) hb (by omega) (by omega), bk_i, zk_B]
theorem q_keep {F : List Nat} {s : Nat} (K : kRel S (wFd W F)) (hF : F.length < 192) : ∃ S', pX3_keep N (zI (s : Nat)) S = some ((), S') ∧ kRel S' (wFd W (F ++ [s])) ∧ (∀ q, q ≠ 8 → kI S' q = kI S q) ∧ (∀ c, c ≠ 14 → kA S' c = kA S c) ∧ kJ S' = kJ S := by
  have fo := K.2.2.2.2.2.2.2.2.2.2.2.2
  have f1 : kI S 8 = zI (F.length : Nat) := fo.1
  have f2 : ∀ j (hj : j < F.length), kA S 14 j = zI (F[j] : Nat) := fo.2
  have g : kI (sA S 14 F.length (zI (s : Nat))) 8 = zI (F.length : Nat) := f1
  simp only [pX3_keep, svk_i]
  rw [f1, zL_192, il_le (by omega) (by omega) (by omega) (by omega), if_neg (by omega), gd_n hF (by omega), zI_cn (by omega), g, zL_1, zI_add, show (F.length : Int) + 1 = ((F.length + 1 : Nat) : Int) by omega]
  refine ⟨_, rfl, ?_, fun q hq => by rw [kI_sI, upd_o _ _ hq]; rfl, fun c hc => by rw [kA_sI, kA_sA_o _ _ _ hc], rfl⟩
  refine kRel_F (W := wFd W F) K (fun q hq => by rw [kI_sI, upd_o _ _ (by omega)]; rfl) (fun c h1 h2 => by rw [kA_sI, kA_sA_o _ _ _ h1]) (fun _ _ => rfl) rfl rfl ⟨by rw [kI_sI, upd_s, List.length_append, List.length_singleton], fun j hj => ?_⟩
  rw [kA_sI, kA_sA_s]
  rw [List.length_append, List.length_singleton] at hj
  by_cases z : j = F.length
  · subst z
    rw [upd_s, List.getElem_append_right (Nat.le_refl _)]
    simp
  · rw [upd_o _ _ z, List.getElem_append_left (by omega)]
    exact f2 j (by omega)
theorem q_byIndex_43 (hN : 20000 ≤ N) (h : wOk W) {m sc b : Nat} (hm : m < 4) (hsc : sc < 3) (hb : b < 48) {w : Int64} (hw : ∀ e, e < 64 → lb w e = (decide (e < 48) && (tLv (wTr W m) (e : Nat) && wFt W (wTr W m) e))) : ∀ (n k i : Nat) (S : kS), i + k = 48 → k < n → kRel S (wFd W (fL W m sc b i)) → kI S 10 = zI (wU W m : Nat) → ∃ S2, pX3_byIndex_43 N (pX3_byIndex_118 N) n (zI (m : Nat)) (zI (b : Nat)) (zI (sc : Nat)) m w (zI (i : Nat)) S = some (zI ((fL W m sc b 48).length : Nat), S2) ∧ kRel S2 (wFd W (fL W m sc b 48))
  | 0, k, i, S, hk, hn, K, U => by omega
  | n + 1, k, i, S, hk, hn, K, U => by
    simp only [pX3_byIndex_43, pX3_byIndex_79, pX3_byIndex_112, nm_i]
    rw [zL_48, il_le (by omega) (by omega) (by omega) (by omega)]
    cases k with
    | zero =>
      have : i = 48 := by omega
      subst this
      rw [if_pos (by omega)]
      simp only [pX3_byIndex_118]
      rw [K.2.2.2.2.2.2.2.2.2.2.2.2.1]
      exact ⟨S, rfl, K⟩
    | succ k =>
      have hi : i < 48 := by omega
      have hlen := fL_len (W := W) (m := m) (sc := sc) (b := b) i
      have ek : zI (i : Nat) + 1 = zI ((i + 1 : Nat) : Int) := by rw [zL_1, zI_add]; congr 1
      have hF : wOk (wFd W (fL W m sc b i)) := wFd_ok h (by omega) (fL_lt hm (by omega))
      have Q : tOk S m (wTr W m) := kRel_t hF K hm
      have no : fnd W m sc b i = false → ∃ S2, pX3_byIndex_43 N (pX3_byIndex_118 N) n (zI (m : Nat)) (zI (b : Nat)) (zI (sc : Nat)) m w (zI ((i + 1 : Nat) : Int)) S = some (zI ((fL W m sc b 48).length : Nat), S2) ∧ kRel S2 (wFd W (fL W m sc b 48)) := fun g => by
        have es : fL W m sc b (i + 1) = fL W m sc b i := by rw [fL_s, if_neg (by rw [g]; decide)]
        exact q_byIndex_43 hN h hm hsc hb hw n k (i + 1) S (by omega) (by omega) (by rw [es]; exact K) U
      have hwi := hw i (by omega)
      rw [decide_eq_true hi, Bool.true_and] at hwi
      rw [if_neg (by omega), il_bit (by omega), ek]
      by_cases q1 : lb w i = true
      · rw [q1] at hwi
        have hwi := hwi.symm
        rw [Bool.and_eq_true] at hwi
        rw [if_pos q1, q_isInScope (by omega) Q hsc hb hi, bk_i, il_B]
        by_cases q2 : scp (wTr W m) sc b i = true
        · have eg := q_grants (N := N) Q (H := wH W) K.1 (by omega) (h.2.2.2.2.2.1 m hm) (what := 0) (by omega) (x := (i : Int)) (by omega) (by omega)
          have eg : pX8_grants N m (zI (wU W m : Nat)) (zI (i : Nat)) 0 S = _ := eg
          rw [if_pos q2, if_neg (by decide), U, eg, bk_i, il_B]
          by_cases q3 : tMay (wH W) (wTr W m) (wU W m) (i : Nat) 0 = true
          · have hf : fnd W m sc b i = true := by
              unfold fnd
              rw [hwi.1, q2, hwi.2, q3]; rfl
            have es : fL W m sc b (i + 1) = fL W m sc b i ++ [100 * m + i] := by rw [fL_s, if_pos hf]
            obtain ⟨S3, c1, c2, c3, c4, c5⟩ := q_keep (N := N) (s := 100 * m + i) K (show (fL W m sc b i).length < 192 by omega)
            rw [if_pos q3, zL_100, zI_mul, zI_add, show (m : Int) * 100 + (i : Nat) = ((100 * m + i : Nat) : Int) by omega, c1, bk_i]
            exact q_byIndex_43 hN h hm hsc hb hw n k (i + 1) S3 (by omega) (by omega) (by rw [es]; exact c2) (by rw [c3 10 (by omega)]; exact U)
          · rw [if_neg q3]
            exact no (by unfold fnd; rw [Bool.eq_false_iff.mpr q3, Bool.and_false, Bool.and_false, Bool.and_false])
        · rw [if_neg q2, if_pos trivial]
          exact no (by unfold fnd; rw [Bool.eq_false_iff.mpr q2, Bool.false_and, Bool.and_false])
      · rw [if_neg q1, if_pos trivial]
        refine no ?_
        rw [Bool.eq_false_iff.mpr q1] at hwi
        unfold fnd
        cases z1 : tLv (wTr W m) (i : Nat) with
        | false => rfl
        | true =>
          rw [z1, Bool.true_and] at hwi
          rw [← hwi, Bool.false_and, Bool.and_false, Bool.and_false]
end SE
