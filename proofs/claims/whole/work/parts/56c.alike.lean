-- LEVEL 2, THE CALL ARE ALIKE: THE CLASS
section OK2
variable {N : Nat} {S : kS} {t u : Nat} {T U : sT}
theorem q_areAlike_37 (hN : 900 ≤ N) (R : tOk S t T) (Q : tOk S u U) (hlv : ∀ e : Nat, e < 48 → tLv T e = tLv U e) : ∀ (n k i : Nat), i + k = 48 → k < n → ∃ b, pX9_areAlike_37 N n t u (zI (i : Nat)) S = some (.inl (zB b), S) ∧ (b = true ↔ ∀ e, i ≤ e → e < 48 → tLv T (e : Nat) = true → tAs T U e)
  | 0, k, i, hk, hn => by omega
  | n + 1, k, i, hk, hn => by
    simp only [pX9_areAlike_37, pX9_areAlike_66, nm_i]
    rw [zL_48, il_le (by omega) (by omega) (by omega) (by omega)]
    cases k with
    | zero =>
      rw [if_pos (by omega)]
      exact ⟨true, rfl, fun _ e h1 h2 => by omega, fun _ => rfl⟩
    | succ k =>
      have hi : i < 48 := by omega
      obtain ⟨b, e1, e2⟩ := q_areAlike_37 hN R Q hlv n k (i + 1) (by omega) (by omega)
      rw [if_neg (by omega), q_isLive R (by omega) (by omega), bk_i, il_B, show zI (i : Nat) + 1 = zI ((i + 1 : Nat) : Int) by rw [zL_1, zI_add]; congr 1]
      cases hl : tLv T i with
      | false =>
        rw [if_neg (by decide)]
        refine ⟨b, e1, e2.trans ⟨fun h e a c d => ?_, fun h e a c d => h e (by omega) c d⟩⟩
        by_cases g : e = i
        · rw [g, hl] at d; exact Bool.noConfusion d
        · exact h e (by omega) c d
      | true =>
        obtain ⟨b', e3, e4⟩ := q_showsAs (N := N) hN R Q hi (tLv_th hi hl) (tLv_th hi (by rw [← hlv i hi]; exact hl))
        rw [if_pos rfl, e3, bk_i, il_B]
        cases b' with
        | false =>
          rw [if_neg (by decide)]
          refine ⟨false, rfl, fun g => Bool.noConfusion g, fun g => ?_⟩
          exact absurd (e4.mpr (g i (Nat.le_refl _) hi hl)) (by decide)
        | true =>
          rw [if_pos rfl]
          refine ⟨b, e1, e2.trans ⟨fun h e a c d => ?_, fun h e a c d => h e (by omega) c d⟩⟩
          by_cases g : e = i
          · rw [g]; exact e4.mp rfl
          · exact h e (by omega) c d
theorem lv_word (R : tOk S t T) (Q : tOk S u U) : ((kL S (8 + 2 * t)) &&& ((kL S (9 + 2 * t)) ^^^ (-1 : Int64)) = (kL S (8 + 2 * u)) &&& ((kL S (9 + 2 * u)) ^^^ (-1 : Int64))) ↔ ∀ e : Nat, e < 48 → tLv T e = tLv U e := by
  constructor
  · intro h e he
    rw [← lv_bit R (show e < 64 by omega), h, lv_bit Q (by omega)]
  · intro h
    refine lb_ext (fun i hi => ?_)
    rw [lv_bit R hi, lv_bit Q hi]
    by_cases g : i < 48
    · exact h i g
    · rw [tLv_out (Or.inr (by omega)), tLv_out (Or.inr (by omega))]
end OK2
