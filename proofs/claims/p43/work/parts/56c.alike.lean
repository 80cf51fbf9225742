-- LEVEL 2, THE CALL ARE ALIKE: THE CLASS
section OK2
variable {N : Nat} {S : kS} {t u : Nat} {T U : sT}
theorem lv_word (R : tOk S t T) (Q : tOk S u U) : ((kL S (8 + 2 * t)) &&& ((kL S (9 + 2 * t)) ^^^ (-1 : Int64)) = (kL S (8 + 2 * u)) &&& ((kL S (9 + 2 * u)) ^^^ (-1 : Int64))) ↔ ∀ e : Nat, e < 48 → tLv T e = tLv U e := by
  constructor
  · intro h e he
    rw [← lv_bit R (show e < 64 by omega), h, lv_bit Q (by omega)]
  · intro h
    refine lb_ext (fun i hi => ?_)
    rw [lv_bit R hi, lv_bit Q hi]
    by_cases g : i < 48
    · exact h i g
    · rw [tLv_out (Or.inr (by omega)), tLv_out (Or.inr (by omega))]
end OK2
