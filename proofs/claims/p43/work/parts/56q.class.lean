-- LEVEL 2, THE CALL OBJECT CLASS
section HY
variable {N : Nat} {S S' : kS} {W : sW} {H' : sH}
/-- a set of attributes that there are -/
def isS (x : Int32) (n : Nat) : Bool := !anyF (fun i => decide (n ≤ i) && ib x i) 0 32
theorem isS_iff {x : Int32} {n : Nat} : isS x n = true ↔ ∀ i, n ≤ i → i < 32 → ib x i = false := by
  unfold isS
  rw [Bool.not_eq_true', Bool.eq_false_iff]
  constructor
  · intro h i h1 h2
    rw [Bool.eq_false_iff]
    intro g
    exact h (anyF_iff.mpr ⟨i, Nat.zero_le _, by omega, by rw [g, decide_eq_true h1]; rfl⟩)
  · intro h g
    obtain ⟨i, -, i2, i3⟩ := anyF_iff.mp g
    rw [Bool.and_eq_true, decide_eq_true_eq] at i3
    rw [h i i3.1 (by omega)] at i3
    exact Bool.noConfusion i3.2
theorem ib_ushr {n : Nat} (hn : n < 32) (x : Int32) {i : Nat} (hi : i < 32) : ib ((x.toUInt32 >>> ((zI (n : Int)).toUInt32 &&& Int32.toUInt32 31)).toInt32) i = (decide (n + i < 32) && ib x (n + i)) := by
  unfold ib
  show (x.toBitVec >>> (((zI (n : Int)).toUInt32 &&& Int32.toUInt32 31).toBitVec % 32).toNat).getLsbD i = _
  rw [iw_su n hn, BitVec.getLsbD_ushiftRight]
  by_cases g : n + i < 32
  · rw [decide_eq_true g, Bool.true_and]
  · rw [decide_eq_false g, Bool.false_and]
    exact BitVec.getLsbD_of_ge _ _ (by omega)
theorem su_0 {n : Nat} (hn : n < 32) (x : Int32) : ((x.toUInt32 >>> ((zI (n : Int)).toUInt32 &&& Int32.toUInt32 31)).toInt32 = 0) ↔ isS x n = true := by
  rw [isS_iff]
  constructor
  · intro h i h1 h2
    have this : ib ((x.toUInt32 >>> ((zI (n : Int)).toUInt32 &&& Int32.toUInt32 31)).toInt32) (i - n) = ib 0 (i - n) := congrArg (fun y => ib y (i - n)) h
    rw [ib_ushr hn x (by omega), ib_0, show n + (i - n) = i by omega, decide_eq_true h2, Bool.true_and] at this
    exact this
  · intro h
    refine ib_ext (fun i hi => ?_)
    rw [ib_ushr hn x hi, ib_0]
    by_cases g : n + i < 32
    · rw [h (n + i) (by omega) g, Bool.and_false]
    · rw [decide_eq_false g, Bool.false_and]
theorem ss_0 {n : Nat} (hn : n < 32) (x : Int32) : (x >>> (zI (n : Int) &&& 31) = 0) ↔ isS x n = true := by
  rw [isS_iff]
  constructor
  · intro h i h1 h2
    have this : ib (x >>> (zI (n : Int) &&& 31)) (i - n) = ib 0 (i - n) := congrArg (fun y => ib y (i - n)) h
    rw [ib_sshr hn x (by omega), ib_0, show n + (i - n) = i by omega, if_pos h2] at this
    exact this
  · intro h
    refine ib_ext (fun i hi => ?_)
    rw [ib_sshr hn x hi, ib_0]
    by_cases g : n + i < 32
    · rw [if_pos g, h (n + i) (by omega) g]
    · rw [if_neg g, h 31 (by omega) (by omega)]
end HY
