-- LEVEL 2, THE CALL SWEEP
/-- the marks that it drops -/
def swp (W : sW) (m e : Nat) : Bool := mkd W m e && (kDl W m 0 e && (kDl W m 1 e && (kDl W m 2 e && kDl W m 3 e)))
section ON
variable {N : Nat} {S : kS} {W : sW} {T : sT}
theorem q_deletionsKnownBy_5 (h : wOk W) (K : kRel S W) {m i : Nat} (hm : m < 4) (hi : i < 4) : ∀ (n k p : Nat) (w : Int64), p + k = (wO W).length → k < n → ∃ w', pX9_deletionsKnownBy_5 N m n (zI (i : Nat)) w (zI (p : Nat)) S = some (w', S) ∧ ∀ j, j < 64 → (lb w' j = true ↔ lb w j = true ∨ ∃ (q : Nat) (hq : q < (wO W).length), p ≤ q ∧ kDp W m i j ((wO W)[q]) = true)
  | 0, k, p, w, hk, hn => by omega
  | n + 1, k, p, w, hk, hn => by
    obtain ⟨g1, g2, g3, ⟨ar, g4⟩, -⟩ := h.2.2.2.1
    have L := K.2.2.2.2.1.1
    simp only [pX9_deletionsKnownBy_5, pX9_deletionsKnownBy_70, nm_i, nml_i]
    rw [q_logSize L, bk_i, il_le (by omega) (by omega) (by omega) (by omega)]
    cases k with
    | zero =>
      rw [if_pos (by omega)]
      exact ⟨w, rfl, fun j hj => ⟨fun g => Or.inl g, fun g => by
        rcases g with g | ⟨q, hq, a, -⟩
        · exact g
        · omega⟩⟩
    | succ k =>
      have hp : p < (wO W).length := by omega
      have hmem : (wO W)[p] ∈ wO W := List.getElem_mem hp
      have hkn := (g3 _).mp hmem
      have hc := (g4.2 _ hmem).1
      have C := K.2.2.2.1.2 _ hkn
      have K10 := K.2.2.2.2.2.1 m hm
      have hK8 := hc.1
      have hE48 := hc.2.1
      have hkn2 : (wO W)[p] < kn S := by rw [K.2.2.2.1.1]; exact hkn
      have ek : zI (p : Nat) + 1 = zI ((p + 1 : Nat) : Int) := by rw [zL_1, zI_add]; congr 1
      have stp : ∀ (w2 : Int64), (∀ j, j < 64 → (lb w2 j = true ↔ lb w j = true ∨ kDp W m i j ((wO W)[p]) = true)) → ∃ w', pX9_deletionsKnownBy_5 N m n (zI (i : Nat)) w2 (zI (p : Nat) + 1) S = some (w', S) ∧ ∀ j, j < 64 → (lb w' j = true ↔ lb w j = true ∨ ∃ (q : Nat) (hq : q < (wO W).length), p ≤ q ∧ kDp W m i j ((wO W)[q]) = true) := fun w2 hw2 => by
        obtain ⟨w', e1, e2⟩ := q_deletionsKnownBy_5 h K hm hi n k (p + 1) w2 (by omega) (by omega)
        rw [ek]
        refine ⟨w', e1, fun j hj => ?_⟩
        rw [e2 j hj, hw2 j hj]
        constructor
        · rintro ((g | g) | ⟨q, hq, a, b⟩)
          · exact Or.inl g
          · exact Or.inr ⟨p, hp, Nat.le_refl _, g⟩
          · exact Or.inr ⟨q, hq, by omega, b⟩
        · rintro (g | ⟨q, hq, a, b⟩)
          · exact Or.inl (Or.inl g)
          · by_cases e : q = p
            · subst e; exact Or.inl (Or.inr b)
            · exact Or.inr ⟨q, hq, by omega, b⟩
      have nope : ∀ {P : Prop} [Decidable P], (∀ j, kDp W m i j ((wO W)[p]) = false) → ∃ w', pX9_deletionsKnownBy_5 N m n (zI (i : Nat)) w (zI (p : Nat) + 1) S = some (w', S) ∧ ∀ j, j < 64 → (lb w' j = true ↔ lb w j = true ∨ ∃ (q : Nat) (hq : q < (wO W).length), p ≤ q ∧ kDp W m i j ((wO W)[q]) = true) := fun g => stp w (fun j hj => by rw [g j]; exact ⟨fun a => Or.inl a, fun a => a.elim id (fun b => Bool.noConfusion b)⟩)
      rw [if_neg (by omega), q_logGet L hp, bk_i, gn_l hkn2, gn_l hkn2, C.2.1, zL_8, il_eq (by omega) (by omega) (by omega) (by omega)]
      by_cases k8 : cK (wC W (wO W)[p]) = 8
      · rw [if_pos (by omega), q_hasGot K10 hm C hc, bk_i, il_B]
        by_cases kg : gotB (wT W m) m (wC W (wO W)[p]) = true
        · rw [if_pos kg, q_isTold K10 C hc hi, bk_i, il_B]
          by_cases kt : gotB (wT W m) i (wC W (wO W)[p]) = true
          · rw [if_pos kt, gn_l hkn2, C.2.2.1]
            refine stp _ (fun j hj => ?_)
            rw [lb_or, lb_shl1 (by omega) hj, Bool.or_eq_true, decide_eq_true_eq]
            unfold kDp
            rw [decide_eq_true k8, kg, kt, Bool.and_true, Bool.and_true, Bool.true_and, decide_eq_true_eq]
            exact ⟨fun a => a.imp id Eq.symm, fun a => a.imp id Eq.symm⟩
          · rw [if_neg kt]
            exact nope (P := True) (fun j => by unfold kDp; rw [Bool.eq_false_iff.mpr kt, Bool.and_false, Bool.and_false, Bool.and_false])
        · rw [if_neg kg]
          exact nope (P := True) (fun j => by unfold kDp; rw [Bool.eq_false_iff.mpr kg, Bool.false_and, Bool.and_false, Bool.and_false])
      · rw [if_neg (by omega)]
        exact nope (P := True) (fun j => by unfold kDp; rw [decide_eq_false k8, Bool.false_and])
theorem q_deletionsKnownBy (hN : 300 ≤ N) (h : wOk W) (K : kRel S W) {m i : Nat} (hm : m < 4) (hi : i < 4) : ∃ w', pX9_deletionsKnownBy N m (zI (i : Nat)) S = some (w', S) ∧ ∀ j, j < 64 → lb w' j = kDl W m i j := by
  obtain ⟨g1, g2, g3, -⟩ := h.2.2.2.1
  obtain ⟨w', e1, e2⟩ := q_deletionsKnownBy_5 (N := N) h K hm hi N (wO W).length 0 0 (by omega) (by omega)
  refine ⟨w', e1, fun j hj => ?_⟩
  rw [Bool.eq_iff_iff, e2 j hj, lb_0]
  unfold kDl
  rw [anyF_iff]
  constructor
  · rintro (g | ⟨q, hq, -, b⟩)
    · exact Bool.noConfusion g
    · exact ⟨_, Nat.zero_le _, by have := (g3 _).mp (List.getElem_mem hq); omega, b⟩
  · rintro ⟨k, -, k2, k3⟩
    obtain ⟨q, hq, e⟩ := List.getElem_of_mem ((g3 k).mpr (by omega))
    exact Or.inr ⟨q, hq, Nat.zero_le _, by rw [e]; exact k3⟩
/-- the state with dropped marks -/
def wSw (W : sW) (m : Nat) : sW := wMk (wH W) (wD W) (wP W) (wK W) (wC W) (wN W) (wO W) (wT W) (fun a e => wX W a e || (decide (a = m) && swp W m e)) (wU W) (wE W) (wF W)
theorem swp_lt (h : wOk W) {m e : Nat} (he : wE W ≤ e) : swp W m e = false := by
  unfold swp
  rw [mkd_lt h he, Bool.false_and]
end ON
