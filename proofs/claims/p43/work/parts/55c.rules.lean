-- LEVEL 2, WHAT RULES DECIDE, BY THE REFERENCE
/-- the kind of a subject -/
def sKd (s : Nat) : Nat := if s < 6 then 0 else if s < 54 then 1 else 2
/-- what is known behind the subjects below i -/
def stD (p q : Nat → Bool) (i : Nat) : Nat × Bool := if anyF p 0 (min i 6) then (0, anyF (fun s => p s && q s) 0 (min i 6)) else if anyF p 6 (min i 54 - 6) then (1, anyF (fun s => p s && q s) 6 (min i 54 - 6)) else if anyF p 54 (i - 54) then (2, anyF (fun s => p s && q s) 54 (i - 54)) else (3, false)
theorem anyF_and {p q : Nat → Bool} {i n : Nat} (h : anyF p i n = false) : anyF (fun s => p s && q s) i n = false := by
  rw [Bool.eq_false_iff] at h ⊢
  intro g
  obtain ⟨j, h1, h2, h3⟩ := anyF_iff.mp g
  rw [Bool.and_eq_true] at h3
  exact h (anyF_iff.mpr ⟨j, h1, h2, h3.1⟩)
theorem stD_s {p q : Nat → Bool} {i : Nat} (hi : i < 55) : stD p q (i + 1) = if p i then (if (stD p q i).1 < sKd i then stD p q i else if (stD p q i).1 = sKd i then (sKd i, (stD p q i).2 || q i) else (sKd i, q i)) else stD p q i := by
  unfold stD sKd
  by_cases h1 : i < 6
  · rw [show min (i + 1) 6 = i + 1 by omega, show min i 6 = i by omega, show min (i + 1) 54 - 6 = 0 by omega, show min i 54 - 6 = 0 by omega, show i + 1 - 54 = 0 by omega, show i - 54 = 0 by omega, anyF_e p 0 i, anyF_e (fun s => p s && q s) 0 i, Nat.zero_add, if_pos h1]
    have z1 : ∀ (f : Nat → Bool) j, anyF f j 0 = false := fun _ _ => rfl
    rw [z1, z1]
    have h := anyF_and (p := p) (q := q) (i := 0) (n := i)
    cases e1 : anyF p 0 i with
    | true => cases p i <;> cases anyF (fun s => p s && q s) 0 i <;> cases q i <;> rfl
    | false => rw [h e1]; cases p i <;> cases q i <;> rfl
  · by_cases h2 : i < 54
    · rw [show min (i + 1) 6 = 6 by omega, show min i 6 = 6 by omega, show min (i + 1) 54 - 6 = (i - 6) + 1 by omega, show min i 54 - 6 = i - 6 by omega, show i + 1 - 54 = 0 by omega, show i - 54 = 0 by omega, anyF_e p 6 (i - 6), anyF_e (fun s => p s && q s) 6 (i - 6), show 6 + (i - 6) = i by omega, if_neg h1, if_pos h2]
      have z1 : ∀ (f : Nat → Bool) j, anyF f j 0 = false := fun _ _ => rfl
      rw [z1]
      have h := anyF_and (p := p) (q := q) (i := 6) (n := i - 6)
      cases anyF p 0 6 with
      | true => cases p i <;> rfl
      | false =>
        cases e1 : anyF p 6 (i - 6) with
        | true => cases p i <;> cases anyF (fun s => p s && q s) 6 (i - 6) <;> cases q i <;> rfl
        | false => rw [h e1]; cases p i <;> cases q i <;> rfl
    · have : i = 54 := by omega
      subst this
      rw [show min (54 + 1) 6 = 6 by omega, show min 54 6 = 6 by omega, show min (54 + 1) 54 - 6 = 48 by omega, show min 54 54 - 6 = 48 by omega, show 54 + 1 - 54 = 0 + 1 by omega, show 54 - 54 = 0 by omega, anyF_e p 54 0, anyF_e (fun s => p s && q s) 54 0, Nat.add_zero, if_neg h1, if_neg h2]
      have z1 : ∀ (f : Nat → Bool) j, anyF f j 0 = false := fun _ _ => rfl
      rw [z1, z1]
      cases anyF p 0 6 with
      | true => cases p 54 <;> rfl
      | false =>
        cases anyF p 6 48 with
        | true => cases p 54 <;> rfl
        | false => cases p 54 <;> cases q 54 <;> rfl
theorem stD_le {p q : Nat → Bool} {i : Nat} : (stD p q i).1 ≤ 3 := by
  unfold stD
  split
  · exact Nat.zero_le _
  · split
    · exact Nat.le_of_ble_eq_true rfl
    · split
      · exact Nat.le_of_ble_eq_true rfl
      · exact Nat.le_refl _
section RR
variable {N : Nat} {T : sT} {H : sH} {who e up what : Nat}
theorem stD_55 : (if (stD (tAct H T who e up what) (tDen T e up what) 55).1 = 3 then 0 else if (stD (tAct H T who e up what) (tDen T e up what) 55).2 = false then 1 else 2) = tDec H T who e up what := by
  unfold stD tDec tDec1
  rw [show min 55 6 = 6 by omega, show min 55 54 - 6 = 48 by omega, show 55 - 54 = 1 by omega]
  have h0 := anyF_and (p := tAct H T who e up what) (q := tDen T e up what) (i := 0) (n := 6)
  have h1 := anyF_and (p := tAct H T who e up what) (q := tDen T e up what) (i := 6) (n := 48)
  have h2 := anyF_and (p := tAct H T who e up what) (q := tDen T e up what) (i := 54) (n := 1)
  cases e0 : anyF (tAct H T who e up what) 0 6 with
  | true => cases anyF (fun s => tAct H T who e up what s && tDen T e up what s) 0 6 <;> rfl
  | false =>
    rw [h0 e0]
    cases e1 : anyF (tAct H T who e up what) 6 48 with
    | true => cases anyF (fun s => tAct H T who e up what s && tDen T e up what s) 6 48 <;> rfl
    | false =>
      rw [h1 e1]
      cases e2 : anyF (tAct H T who e up what) 54 1 with
      | true => cases anyF (fun s => tAct H T who e up what s && tDen T e up what s) 54 1 <;> rfl
      | false => rw [h2 e2]; rfl
/-- the next of what is known -/
def stN (d : Nat × Bool) (κ : Nat) (act den : Bool) : Nat × Bool := if act then (if d.1 < κ then d else if d.1 = κ then (κ, d.2 || den) else (κ, den)) else d
end RR
