-- LEVEL 2, NUMBERS: the machine's ints by whole numbers
def zI (z : Int) : Int32 := Int32.ofInt z
theorem zI_n (n : Nat) : nI n = zI (n : Int) := Int32.ofInt_eq_ofNat.symm
theorem zI_self (x : Int32) : zI x.toInt = x := Int32.ofInt_toInt x
theorem zI_of (x : Int32) : ∃ z : Int, -2147483648 ≤ z ∧ z < 2147483648 ∧ x = zI z := ⟨x.toInt, Int32.le_toInt x, Int32.toInt_lt x, (zI_self x).symm⟩
theorem zI_toInt {z : Int} (h1 : -2147483648 ≤ z) (h2 : z < 2147483648) : (zI z).toInt = z := Int32.toInt_ofInt_of_le (by omega) (by omega)
theorem zI_add (a b : Int) : zI a + zI b = zI (a + b) := (Int32.ofInt_add a b).symm
theorem zI_sub (a b : Int) : zI a - zI b = zI (a - b) := (Int32.ofInt_sub a b).symm
theorem zI_mul (a b : Int) : zI a * zI b = zI (a * b) := (Int32.ofInt_mul a b).symm
theorem zI_lt {a b : Int} (h1 : -2147483648 ≤ a) (h2 : a < 2147483648) (h3 : -2147483648 ≤ b) (h4 : b < 2147483648) : (zI a < zI b) = (a < b) := by
  rw [Int32.lt_iff_toInt_lt, zI_toInt h1 h2, zI_toInt h3 h4]
theorem zI_le {a b : Int} (h1 : -2147483648 ≤ a) (h2 : a < 2147483648) (h3 : -2147483648 ≤ b) (h4 : b < 2147483648) : (zI a ≤ zI b) = (a ≤ b) := by
  rw [Int32.le_iff_toInt_le, zI_toInt h1 h2, zI_toInt h3 h4]
theorem zI_eq {a b : Int} (h1 : -2147483648 ≤ a) (h2 : a < 2147483648) (h3 : -2147483648 ≤ b) (h4 : b < 2147483648) : (zI a = zI b) = (a = b) := by
  rw [← Int32.toInt_inj, zI_toInt h1 h2, zI_toInt h3 h4]
theorem il_lt {α : Type} {a b : Int} {X Y : α} (h1 : -2147483648 ≤ a) (h2 : a < 2147483648) (h3 : -2147483648 ≤ b) (h4 : b < 2147483648) : (if zI a < zI b then X else Y) = if a < b then X else Y := by
  by_cases h : a < b
  · rw [if_pos h, if_pos (by rw [zI_lt h1 h2 h3 h4]; exact h)]
  · rw [if_neg h, if_neg (by rw [zI_lt h1 h2 h3 h4]; exact h)]
theorem il_le {α : Type} {a b : Int} {X Y : α} (h1 : -2147483648 ≤ a) (h2 : a < 2147483648) (h3 : -2147483648 ≤ b) (h4 : b < 2147483648) : (if zI a ≤ zI b then X else Y) = if a ≤ b then X else Y := by
  by_cases h : a ≤ b
  · rw [if_pos h, if_pos (by rw [zI_le h1 h2 h3 h4]; exact h)]
  · rw [if_neg h, if_neg (by rw [zI_le h1 h2 h3 h4]; exact h)]
theorem il_eq {α : Type} {a b : Int} {X Y : α} (h1 : -2147483648 ≤ a) (h2 : a < 2147483648) (h3 : -2147483648 ≤ b) (h4 : b < 2147483648) : (if zI a = zI b then X else Y) = if a = b then X else Y := by
  by_cases h : a = b
  · rw [if_pos h, if_pos (by rw [zI_eq h1 h2 h3 h4]; exact h)]
  · rw [if_neg h, if_neg (by rw [zI_eq h1 h2 h3 h4]; exact h)]
theorem zI_clamp {z : Int} (h1 : -2147483648 ≤ z) (h2 : z < 2147483648) : (zI z).toNatClampNeg = z.toNat := Int32.toNatClampNeg_ofInt_of_le (by omega) (by omega)
theorem zI_cn {n : Nat} (h : n < 2147483648) : (zI (n : Int)).toNatClampNeg = n := by
  rw [zI_clamp (by omega) (by omega)]; exact Int.toNat_natCast n
theorem zI_div {a b : Int} (h1 : 0 ≤ a) (h2 : a < 2147483648) (h3 : 0 < b) (h4 : b < 2147483648) : zI a / zI b = zI (a / b) := by
  rw [← Int32.toInt_inj, Int32.toInt_div_of_ne_right _ _ (by
    intro e
    have := congrArg Int32.toInt e
    rw [zI_toInt (by omega) h4] at this
    rw [show (-1 : Int32).toInt = -1 from by decide] at this
    omega), zI_toInt (by omega) h2, zI_toInt (by omega) h4, Int.tdiv_eq_ediv_of_nonneg h1, zI_toInt]
  · have := Int.ediv_nonneg h1 (Int.le_of_lt h3); omega
  · exact Int.lt_of_le_of_lt (Int.ediv_le_self _ h1) h2
-- written numbers
theorem zL (n : Nat) : Int32.ofNat n = zI (n : Int) := zI_n n
theorem zL_0 : (0 : Int32) = zI 0 := rfl
theorem zL_1 : (1 : Int32) = zI 1 := rfl
theorem zL_2 : (2 : Int32) = zI 2 := rfl
theorem zL_3 : (3 : Int32) = zI 3 := rfl
theorem zL_4 : (4 : Int32) = zI 4 := rfl
theorem zL_5 : (5 : Int32) = zI 5 := rfl
theorem zL_6 : (6 : Int32) = zI 6 := rfl
theorem zL_7 : (7 : Int32) = zI 7 := rfl
theorem zL_8 : (8 : Int32) = zI 8 := rfl
theorem zL_9 : (9 : Int32) = zI 9 := rfl
theorem zL_10 : (10 : Int32) = zI 10 := rfl
theorem zL_12 : (12 : Int32) = zI 12 := rfl
theorem zL_15 : (15 : Int32) = zI 15 := rfl
theorem zL_16 : (16 : Int32) = zI 16 := rfl
theorem zL_20 : (20 : Int32) = zI 20 := rfl
theorem zL_21 : (21 : Int32) = zI 21 := rfl
theorem zL_48 : (48 : Int32) = zI 48 := rfl
theorem zL_54 : (54 : Int32) = zI 54 := rfl
theorem zL_55 : (55 : Int32) = zI 55 := rfl
theorem zL_99 : (99 : Int32) = zI 99 := rfl
theorem zL_100 : (100 : Int32) = zI 100 := rfl
theorem zL_103 : (103 : Int32) = zI 103 := rfl
theorem zL_104 : (104 : Int32) = zI 104 := rfl
theorem zL_192 : (192 : Int32) = zI 192 := rfl
theorem zL_250 : (250 : Int32) = zI 250 := rfl
theorem zL_330 : (330 : Int32) = zI 330 := rfl
theorem zL_512 : (512 : Int32) = zI 512 := rfl
theorem zL_999 : (999 : Int32) = zI 999 := rfl
theorem zL_1000 : (1000 : Int32) = zI 1000 := rfl
theorem zL_10000 : (10000 : Int32) = zI 10000 := rfl
theorem zL_15840 : (15840 : Int32) = zI 15840 := rfl
theorem zL_m1 : (-1 : Int32) = zI (-1) := rfl
theorem zL_m2 : (-2 : Int32) = zI (-2) := rfl
-- guards
theorem gd_z {β : Type} {z : Int} {n : Nat} {k : Option β} (h1 : 0 ≤ z) (h2 : z < n) (h3 : n < 2147483648) : gd (zI z) n k = k := by
  unfold gd
  rw [if_neg]
  intro h
  rcases h with h | h
  · rw [zL_0, zI_lt (by omega) (by omega) (by omega) (by omega)] at h; omega
  · rw [zI_clamp (by omega) (by omega)] at h; omega
theorem gd_n {β : Type} {j n : Nat} {k : Option β} (h2 : j < n) (h3 : n < 2147483648) : gd (zI (j : Int)) n k = k := gd_z (by omega) (by omega) h3
theorem gm_n {β : Type} {j : Nat} {K : Nat → Option β} (h : j < 4) : gm (zI (j : Int)) K = K j := by
  unfold gm
  rw [zI_cn (by omega), if_neg]
  intro h
  rcases h with h | h
  · rw [zL_0, zI_lt (by omega) (by omega) (by omega) (by omega)] at h; omega
  · omega
theorem gn_l {β : Type} {k n : Nat} {K : Option β} (h : k < n) : gn k n K = K := if_pos h
theorem nm_i {β : Type} (x : Int32) (k : Int32 → Option β) : nm x k = k x := rfl
theorem nml_i {β : Type} (x : Int64) (k : Int64 → Option β) : nml x k = k x := rfl
theorem svk_i {β : Type} (S : kS) (k : kS → Option β) : svk S k = k S := rfl
theorem bs_i {β : Type} (v : Int32) (k : Int32 → Option β) : bs (some v) k = k v := rfl
theorem bk_i {α β : Type} (v : α) (S : kS) (k : α → kS → Option β) : bk (some (v, S)) k = k v S := rfl
theorem bx_l {α β : Type} (v : α) (S : kS) (k : α → kS → Option ((β ⊕ Nat) × kS)) : bx (some (.inl v, S)) k = k v S := rfl
theorem bx_r {α β : Type} (e : Nat) (S : kS) (k : α → kS → Option ((β ⊕ Nat) × kS)) : bx (some (.inr e, S)) k = some (.inr e, S) := rfl
-- truth values
def zB (b : Bool) : Int32 := bif b then 1 else 0
theorem zB_t : zB true = 1 := rfl
theorem zB_f : zB false = 0 := rfl
theorem zB_0 (b : Bool) : (zB b = 0) = (b = false) := by cases b <;> simp [zB]
theorem zB_1 (b : Bool) : (zB b = 1) = (b = true) := by cases b <;> simp [zB]
theorem zB_nar (b : Bool) : vp_nar .boolean (zB b) = zB b := by cases b <;> decide
theorem zs_B (b : Bool) : zs (zB b) = some (zB b) := if_pos (zB_nar b)
theorem zk_B (b : Bool) (S : kS) : zk (zB b) S = some (zB b, S) := if_pos (zB_nar b)
theorem zx_B (b : Bool) (S : kS) : zx (zB b) S = some (.inl (zB b), S) := if_pos (zB_nar b)
theorem il_B {α : Type} {b : Bool} {X Y : α} : (if zB b = 0 then X else Y) = if b = true then Y else X := by
  cases b
  · rw [if_pos (show zB false = 0 from rfl), if_neg (by decide)]
  · rw [if_neg (show ¬ zB true = 0 by decide), if_pos rfl]
-- bits of longs
def lb (x : Int64) (i : Nat) : Bool := x.toBitVec.getLsbD i
theorem lb_and (x y : Int64) (i : Nat) : lb (x &&& y) i = (lb x i && lb y i) := by unfold lb; rw [Int64.toBitVec_and, BitVec.getLsbD_and]
theorem lb_or (x y : Int64) (i : Nat) : lb (x ||| y) i = (lb x i || lb y i) := by unfold lb; rw [Int64.toBitVec_or, BitVec.getLsbD_or]
theorem lb_m1 : ∀ i, i < 64 → lb (-1) i = true := by decide +kernel
theorem lb_not (x : Int64) {i : Nat} (h : i < 64) : lb (x ^^^ (-1)) i = !lb x i := by
  have e : lb (x ^^^ (-1)) i = (lb x i ^^ lb (-1) i) := by unfold lb; rw [Int64.toBitVec_xor, BitVec.getLsbD_xor]
  rw [e, lb_m1 i h]; cases lb x i <;> rfl
theorem lb_0 (i : Nat) : lb 0 i = false := BitVec.getLsbD_zero
theorem lb_ext {x y : Int64} (h : ∀ i, i < 64 → lb x i = lb y i) : x = y := Int64.toBitVec_inj.mp (BitVec.eq_of_getLsbD_eq (fun i hi => h i hi))
theorem lw_c : ∀ k : Nat, k < 64 → ((zI (k : Int)).toInt64 &&& 63) = lN k := by decide +kernel
theorem lw_sm : ∀ k : Nat, k < 64 → ((lN k).toBitVec.smod 64).toNat = k := by decide +kernel
theorem lb_shl1 {k i : Nat} (hk : k < 64) (hi : i < 64) : lb ((1 : Int64) <<< ((zI (k : Int)).toInt64 &&& 63)) i = decide (i = k) := by
  unfold lb
  rw [lw_c k hk, Int64.toBitVec_shiftLeft]
  show ((1 : Int64).toBitVec <<< ((lN k).toBitVec.smod 64).toNat).getLsbD i = _
  rw [lw_sm k hk, BitVec.getLsbD_shiftLeft]
  show (decide (i < 64) && !decide (i < k) && (1#64).getLsbD (i - k)) = _
  rw [BitVec.getLsbD_one]
  by_cases h : i = k
  · subst h; simp [hi]
  · rcases Nat.lt_or_ge i k with g | g
    · simp [h, g]
    · simp [h, show ¬ (i - k = 0) by omega]
theorem lb_sshr {k i : Nat} (hk : k < 64) (hi : i < 64) (x : Int64) : lb (x >>> ((zI (k : Int)).toInt64 &&& 63)) i = if k + i < 64 then lb x (k + i) else lb x 63 := by
  unfold lb
  rw [lw_c k hk, Int64.toBitVec_shiftRight]
  show (x.toBitVec.sshiftRight ((lN k).toBitVec.smod 64).toNat).getLsbD i = _
  rw [lw_sm k hk, BitVec.getLsbD_sshiftRight, BitVec.msb_eq_getLsbD_last]
  simp [hi]
theorem lb_1 (i : Nat) : lb 1 i = decide (i = 0) := by
  unfold lb
  show (1#64).getLsbD i = _
  rw [BitVec.getLsbD_one]; simp
theorem lg_cmp_0 (x y : Int64) : (lg_cmp x y = 0) = (x = y) := propext (lg_cmp_eq x y)
theorem lb_test {k : Nat} (hk : k < 64) (x : Int64) : (lg_cmp ((x >>> ((zI (k : Int)).toInt64 &&& 63)) &&& 1) 1 = 0) = (lb x k = true) := by
  rw [lg_cmp_0]
  apply propext
  constructor
  · intro h
    have := congrArg (fun y => lb y 0) h
    simp only [lb_and, lb_1] at this
    rw [lb_sshr hk (by omega)] at this
    simpa [hk] using this
  · intro h
    apply lb_ext
    intro i hi
    rw [lb_and, lb_1, lb_sshr hk hi]
    by_cases h0 : i = 0
    · subst h0; simp [hk, h]
    · simp [h0]
theorem lb_zero (x : Int64) : (lg_cmp x 0 = 0) = (∀ i, i < 64 → lb x i = false) := by
  rw [lg_cmp_0]
  apply propext
  constructor
  · intro h i _; rw [h, lb_0]
  · intro h; exact lb_ext (fun i hi => by rw [h i hi, lb_0])
theorem il_bit {α : Type} {k : Nat} (hk : k < 64) {x : Int64} {X Y : α} : (if lg_cmp ((x >>> ((zI (k : Int)).toInt64 &&& 63)) &&& 1) 1 = 0 then X else Y) = if lb x k = true then X else Y := by
  by_cases h : lb x k = true
  · rw [if_pos h, if_pos (by rw [lb_test hk]; exact h)]
  · rw [if_neg h, if_neg (by rw [lb_test hk]; exact h)]
-- bits of ints
def ib (x : Int32) (i : Nat) : Bool := x.toBitVec.getLsbD i
theorem ib_or (x y : Int32) (i : Nat) : ib (x ||| y) i = (ib x i || ib y i) := by unfold ib; rw [Int32.toBitVec_or, BitVec.getLsbD_or]
theorem ib_and (x y : Int32) (i : Nat) : ib (x &&& y) i = (ib x i && ib y i) := by unfold ib; rw [Int32.toBitVec_and, BitVec.getLsbD_and]
theorem ib_0 (i : Nat) : ib 0 i = false := BitVec.getLsbD_zero
theorem ib_1 (i : Nat) : ib 1 i = decide (i = 0) := by
  unfold ib
  show (1#32).getLsbD i = _
  rw [BitVec.getLsbD_one]; simp
theorem ib_m1 : ∀ i, i < 32 → ib (-1) i = true := by decide +kernel
theorem ib_not (x : Int32) {i : Nat} (h : i < 32) : ib (x ^^^ (-1)) i = !ib x i := by
  have e : ib (x ^^^ (-1)) i = (ib x i ^^ ib (-1) i) := by unfold ib; rw [Int32.toBitVec_xor, BitVec.getLsbD_xor]
  rw [e, ib_m1 i h]; cases ib x i <;> rfl
theorem ib_ext {x y : Int32} (h : ∀ i, i < 32 → ib x i = ib y i) : x = y := Int32.toBitVec_inj.mp (BitVec.eq_of_getLsbD_eq (fun i hi => h i hi))
theorem iw_sl : ∀ n : Nat, n < 32 → ((zI (n : Int) &&& 31).toBitVec.smod 32).toNat = n := by decide +kernel
theorem iw_su : ∀ n : Nat, n < 32 → (((zI (n : Int)).toUInt32 &&& Int32.toUInt32 31).toBitVec % 32).toNat = n := by decide +kernel
theorem ib_shl {n : Nat} (hn : n < 32) (x : Int32) {i : Nat} (hi : i < 32) : ib (x <<< (zI (n : Int) &&& 31)) i = (decide (n ≤ i) && ib x (i - n)) := by
  unfold ib
  rw [Int32.toBitVec_shiftLeft]
  show (x.toBitVec <<< ((zI (n : Int) &&& 31).toBitVec.smod 32).toNat).getLsbD i = _
  rw [iw_sl n hn, BitVec.getLsbD_shiftLeft]
  rcases Nat.lt_or_ge i n with h | h
  · simp [h, Nat.not_le.mpr h]
  · simp [hi, h, Nat.not_lt.mpr h]
theorem ib_sshr {n : Nat} (hn : n < 32) (x : Int32) {i : Nat} (hi : i < 32) : ib (x >>> (zI (n : Int) &&& 31)) i = if n + i < 32 then ib x (n + i) else ib x 31 := by
  unfold ib
  rw [Int32.toBitVec_shiftRight]
  show (x.toBitVec.sshiftRight ((zI (n : Int) &&& 31).toBitVec.smod 32).toNat).getLsbD i = _
  rw [iw_sl n hn, BitVec.getLsbD_sshiftRight, BitVec.msb_eq_getLsbD_last]
  simp [hi]
theorem ib_test {n : Nat} (hn : n < 32) (x : Int32) : (((x >>> (zI (n : Int) &&& 31)) &&& 1) = 1) = (ib x n = true) := by
  apply propext
  constructor
  · intro h
    have := congrArg (fun y => ib y 0) h
    simp only [ib_and, ib_1] at this
    rw [ib_sshr hn x (by omega)] at this
    simpa [hn] using this
  · intro h
    apply ib_ext
    intro i hi
    rw [ib_and, ib_1, ib_sshr hn x hi]
    by_cases h0 : i = 0
    · subst h0; simp [hn, h]
    · simp [h0]
theorem ib_test0 {n : Nat} (hn : n < 32) (x : Int32) : (((x >>> (zI (n : Int) &&& 31)) &&& 1) = 0) = (ib x n = false) := by
  apply propext
  constructor
  · intro h
    have := congrArg (fun y => ib y 0) h
    simp only [ib_and, ib_1, ib_0] at this
    rw [ib_sshr hn x (by omega)] at this
    simpa [hn] using this
  · intro h
    apply ib_ext
    intro i hi
    rw [ib_and, ib_1, ib_sshr hn x hi, ib_0]
    by_cases h0 : i = 0
    · subst h0; simp [hn, h]
    · simp [h0]
theorem ib_shl1 {n i : Nat} (hn : n < 32) (hi : i < 32) : ib ((1 : Int32) <<< (zI (n : Int) &&& 31)) i = decide (i = n) := by
  rw [ib_shl hn 1 hi, ib_1]
  by_cases h : i = n
  · subst h; simp
  · rcases Nat.lt_or_ge i n with g | g
    · simp [h, Nat.not_le.mpr g]
    · simp [h, show ¬ (i - n = 0) by omega]
theorem il_ibit {α : Type} {n : Nat} (hn : n < 32) {x : Int32} {X Y : α} : (if ((x >>> (zI (n : Int) &&& 31)) &&& 1) = 1 then X else Y) = if ib x n = true then X else Y := by
  by_cases h : ib x n = true
  · rw [if_pos h, if_pos (by rw [ib_test hn]; exact h)]
  · rw [if_neg h, if_neg (by rw [ib_test hn]; exact h)]

