-- LEVEL 2, WHAT THE REFERENCE ANSWERS OF A TREE THAT IS LAID
theorem anyF_e (p : Nat → Bool) (i : Nat) : ∀ n, anyF p i (n + 1) = (anyF p i n || p (i + n))
  | 0 => by
    rw [anyF_s]
    show (p i || false) = (false || p (i + 0))
    rw [Bool.or_false, Bool.false_or, Nat.add_zero]
  | n + 1 => by
    apply Bool.eq_iff_iff.mpr
    rw [Bool.or_eq_true, anyF_iff, anyF_iff]
    constructor
    · rintro ⟨j, h1, h2, h3⟩
      by_cases q : j = i + (n + 1)
      · right; rw [← q]; exact h3
      · left; exact ⟨j, h1, by omega, h3⟩
    · rintro (⟨j, h1, h2, h3⟩ | h)
      · exact ⟨j, h1, by omega, h3⟩
      · exact ⟨i + (n + 1), by omega, by omega, h⟩
/-- classes and attributes that there are -/
def tX (H : sH) (T : sT) : Prop := (∀ e, e < 48 → tKl T e < (hC H : Int)) ∧ ∀ x ∈ tVs T, x.2.1 < hA H
section RQ
variable {N : Nat} {T : sT} {H : sH}
theorem tCnt_le {e a : Nat} : tCnt T e a ≤ (tVs T).length := List.countP_le_length
theorem hReq_m {H : sH} : hReq H (-1) = 0 := by unfold hReq hIs; rfl
theorem hAll_m {H : sH} : hAll H (-1) = 0 := by unfold hAll hIs; rfl
theorem i32_or_assoc (a b c : Int32) : (a ||| b) ||| c = a ||| (b ||| c) := by
  apply ib_ext
  intro i hi
  rw [ib_or, ib_or, ib_or, ib_or, Bool.or_assoc]
theorem i32_or_0 (a : Int32) : a ||| 0 = a := by
  apply ib_ext
  intro i hi
  rw [ib_or, ib_0, Bool.or_false]
end RQ
