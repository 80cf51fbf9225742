-- LEVEL 2, BITS COUNTED (begins with rows of kit/laws: bits, counts)
theorem wb_tb (n : Nat) : (lN n).toBitVec = BitVec.ofNat 64 n := rfl
theorem wb_inj {a b : Int64} (h : a.toBitVec = b.toBitVec) : a = b := Int64.toBitVec_inj.mp h
theorem wb_tn {n : Nat} (h : n < 2 ^ 64) : (lN n).toBitVec.toNat = n := by rw [wb_tb, BitVec.toNat_ofNat, Nat.mod_eq_of_lt h]
theorem wb_of (x : Int64) : ∃ n, n < 2 ^ 64 ∧ x = lN n := ⟨x.toBitVec.toNat, x.toBitVec.isLt, wb_inj (by rw [wb_tb]; simp)⟩
theorem wb_of32 (x : Int32) : ∃ n, n < 2 ^ 32 ∧ x = nI n := ⟨x.toBitVec.toNat, x.toBitVec.isLt, Int32.toBitVec_inj.mp (by show _ = BitVec.ofNat 32 _; simp)⟩
theorem wb_c : ∀ k, k < 64 → ((nI k).toInt64 &&& 63) = lN k := by decide +kernel
theorem wb_cu : ∀ k, k < 64 → ((nI k).toInt64.toUInt64 &&& Int64.toUInt64 63) = UInt64.ofNat k := by decide +kernel
theorem wb_sm : ∀ k, k < 64 → (BitVec.ofNat 64 k).smod 64 = BitVec.ofNat 64 k := by decide +kernel
theorem wb_pw {a b : Nat} (h : a ≤ b) : 2 ^ b = 2 ^ a * 2 ^ (b - a) := by rw [← Nat.pow_add]; congr 1; omega
theorem wb_lt2 {a b : Nat} (h : a < b) : 2 ^ a < 2 ^ b := Nat.pow_lt_pow_right (by decide) h
theorem wb_mod (n : Nat) : lN n = lN (n % 2 ^ 64) := wb_inj (by rw [wb_tb, wb_tb]; apply BitVec.eq_of_toNat_eq; rw [BitVec.toNat_ofNat, BitVec.toNat_ofNat, Nat.mod_mod])
theorem wb_shr {n k : Nat} (hn : n < 2 ^ 64) (hk : k < 64) : ((lN n).toUInt64 >>> ((nI k).toInt64.toUInt64 &&& Int64.toUInt64 63)).toInt64 = lN (n / 2 ^ k) := by
  rw [wb_cu k hk]
  apply wb_inj
  apply BitVec.eq_of_toNat_eq
  show ((lN n).toUInt64 >>> UInt64.ofNat k).toNat = (BitVec.ofNat 64 _).toNat
  have h1 : (UInt64.ofNat k).toNat = k := by
    show (BitVec.ofNat 64 k).toNat = k
    rw [BitVec.toNat_ofNat, Nat.mod_eq_of_lt (by omega)]
  have h2 : (lN n).toUInt64.toNat = n := wb_tn hn
  rw [UInt64.toNat_shiftRight, h1, h2, Nat.mod_eq_of_lt hk, Nat.shiftRight_eq_div_pow, BitVec.toNat_ofNat, Nat.mod_eq_of_lt (Nat.lt_of_le_of_lt (Nat.div_le_self _ _) hn)]
theorem wb_and {a b : Nat} (ha : a < 2 ^ 64) (hb : b < 2 ^ 64) : lN a &&& lN b = lN (a &&& b) := by
  apply wb_inj
  rw [Int64.toBitVec_and, wb_tb, wb_tb, wb_tb]
  apply BitVec.eq_of_toNat_eq
  rw [BitVec.toNat_and, BitVec.toNat_ofNat, BitVec.toNat_ofNat, BitVec.toNat_ofNat, Nat.mod_eq_of_lt ha, Nat.mod_eq_of_lt hb, Nat.mod_eq_of_lt (Nat.and_lt_two_pow _ hb)]
def fb_ct (p : Nat → Bool) : Nat → Nat
  | 0 => 0
  | n + 1 => fb_ct p n + (if p n then 1 else 0)
theorem fb_ct_succ (p : Nat → Bool) (n : Nat) : fb_ct p (n + 1) = fb_ct p n + (if p n then 1 else 0) := rfl
theorem fb_ct_le (p : Nat → Bool) : ∀ n, fb_ct p n ≤ n
  | 0 => Nat.le_refl _
  | n + 1 => by
    have h := fb_ct_le p n
    rw [fb_ct_succ]
    split <;> omega
theorem fb_ct_step (p : Nat → Bool) (m : Nat) : ∀ n, fb_ct p m ≤ fb_ct p (m + n)
  | 0 => Nat.le_refl _
  | n + 1 => by
    have h := fb_ct_step p m n
    show fb_ct p m ≤ fb_ct p (m + n + 1)
    rw [fb_ct_succ]
    omega
theorem fb_ct_mono (p : Nat → Bool) {m n : Nat} (h : m ≤ n) : fb_ct p m ≤ fb_ct p n := by
  have := fb_ct_step p m (n - m)
  rwa [Nat.add_sub_cancel' h] at this
theorem fb_ct_cong {p q : Nat → Bool} : ∀ {n : Nat}, (∀ k, k < n → p k = q k) → fb_ct p n = fb_ct q n
  | 0, _ => rfl
  | n + 1, h => by
    rw [fb_ct_succ, fb_ct_succ, fb_ct_cong (fun k hk => h k (by omega)), h n (by omega)]
/-- one place changed -/
theorem fb_ct_out (p : Nat → Bool) (b : Bool) {i n : Nat} (h : n ≤ i) : fb_ct (fun k => if k = i then b else p k) n = fb_ct p n :=
  fb_ct_cong fun k hk => if_neg (by omega)
theorem fb_ct_upd (p : Nat → Bool) (b : Bool) {i : Nat} : ∀ {n : Nat}, i < n → fb_ct (fun k => if k = i then b else p k) n + (if p i then 1 else 0) = fb_ct p n + (if b then 1 else 0)
  | 0, h => absurd h (Nat.not_lt_zero i)
  | n + 1, h => by
    rw [fb_ct_succ, fb_ct_succ]
    rcases Nat.lt_or_ge i n with q | q
    · have := fb_ct_upd p b q
      have e : (if n = i then b else p n) = p n := if_neg (by omega)
      rw [e]
      omega
    · have e : i = n := by omega
      subst e
      rw [fb_ct_out p b (Nat.le_refl _)]
      simp only [if_true]
      omega
theorem fb_ct_sub {p q : Nat → Bool} : ∀ {n : Nat}, (∀ k, k < n → p k = true → q k = true) → fb_ct p n ≤ fb_ct q n
  | 0, _ => Nat.le_refl _
  | n + 1, h => by
    have h1 := fb_ct_sub (n := n) (p := p) (q := q) (fun k hk => h k (by omega))
    have h2 := h n (by omega)
    rw [fb_ct_succ, fb_ct_succ]
    cases hp : p n <;> cases hq : q n <;> simp_all <;> omega
theorem fb_ct_or {p q : Nat → Bool} : ∀ {n : Nat}, (∀ k, k < n → ¬ (p k = true ∧ q k = true)) → fb_ct (fun k => p k || q k) n = fb_ct p n + fb_ct q n
  | 0, _ => rfl
  | n + 1, h => by
    have h1 := fb_ct_or (n := n) (p := p) (q := q) (fun k hk => h k (by omega))
    have h2 := h n (by omega)
    rw [fb_ct_succ, fb_ct_succ, fb_ct_succ, h1]
    cases hp : p n <;> cases hq : q n <;> simp_all <;> omega
theorem fb_ct_not (p : Nat → Bool) : ∀ n, fb_ct p n + fb_ct (fun k => !p k) n = n
  | 0 => rfl
  | n + 1 => by
    have h := fb_ct_not p n
    rw [fb_ct_succ, fb_ct_succ]
    cases p n <;> simp <;> omega
theorem fb_ct_split (p : Nat → Bool) (m : Nat) : ∀ n, fb_ct p (m + n) = fb_ct p m + fb_ct (fun k => p (m + k)) n
  | 0 => rfl
  | n + 1 => by
    have h := fb_ct_split p m n
    show fb_ct p (m + n + 1) = _
    rw [fb_ct_succ, fb_ct_succ, h, Nat.add_assoc]
theorem fb_ct_zero {p : Nat → Bool} : ∀ {n : Nat}, fb_ct p n = 0 ↔ ∀ k, k < n → p k = false
  | 0 => ⟨fun _ k hk => absurd hk (Nat.not_lt_zero k), fun _ => rfl⟩
  | n + 1 => by
    have h := fb_ct_zero (p := p) (n := n)
    rw [fb_ct_succ]
    constructor
    · intro e k hk
      have e1 : fb_ct p n = 0 := by omega
      rcases Nat.lt_or_ge k n with q | q
      · exact h.mp e1 k q
      · have ek : k = n := by omega
        subst ek
        cases hp : p k
        · rfl
        · simp [hp] at e
    · intro a
      rw [h.mpr (fun k hk => a k (by omega)), a n (by omega)]
      rfl
theorem fb_ct_pos {p : Nat → Bool} {n : Nat} : 0 < fb_ct p n ↔ ∃ k, k < n ∧ p k = true := by
  constructor
  · intro h
    refine Classical.byContradiction fun hx => ?_
    have := fb_ct_zero.mpr (fun k hk => by
      cases hp : p k
      · rfl
      · exact absurd ⟨k, hk, hp⟩ hx : ∀ k, k < n → p k = false)
    omega
  · rintro ⟨k, hk, hp⟩
    rcases Nat.eq_zero_or_pos (fb_ct p n) with e | e
    · have := fb_ct_zero.mp e k hk
      rw [this] at hp
      cases hp
    · exact e
theorem fb_ct_all {p : Nat → Bool} {n : Nat} : fb_ct p n = n ↔ ∀ k, k < n → p k = true := by
  have h := fb_ct_not p n
  constructor
  · intro e k hk
    have z : fb_ct (fun k => !p k) n = 0 := by omega
    have := fb_ct_zero.mp z k hk
    cases hp : p k
    · simp [hp] at this
    · rfl
  · intro a
    have z : fb_ct (fun k => !p k) n = 0 := fb_ct_zero.mpr (fun k hk => by simp [a k hk])
    omega
/-- the k-th place with the property -/
-- bytes
def hor : List Nat → Nat
  | [] => 0
  | b :: l => 256 * hor l + b
theorem bc_sh {s H L h l : Nat} (hs : s ≤ 7) (hl : l < 256) (hL : L < 2 ^ (8 - s)) : ((256 * h + l) / 2 ^ s) &&& (256 * H + L) = 256 * ((h / 2 ^ s) &&& H) + ((l / 2 ^ s) &&& L) := by
  have hL8 : L < 2 ^ 8 := Nat.lt_of_lt_of_le hL (Nat.pow_le_pow_right (by omega) (by omega))
  have hl8 : l < 2 ^ 8 := hl
  apply Nat.eq_of_testBit_eq
  intro j
  have e1 := Nat.testBit_two_pow_mul_add h hl8 (j + s)
  have e2 := Nat.testBit_two_pow_mul_add H hL8 j
  have e3 := Nat.testBit_two_pow_mul_add ((h / 2 ^ s) &&& H) (Nat.and_lt_two_pow (l / 2 ^ s) hL8) j
  rw [show (256 : Nat) = 2 ^ 8 from rfl, Nat.testBit_and, Nat.testBit_div_two_pow, e1, e2, e3, Nat.testBit_and, Nat.testBit_and, Nat.testBit_div_two_pow, Nat.testBit_div_two_pow]
  by_cases q : j < 8
  · rw [if_pos q, if_pos q]
    by_cases q2 : j + s < 8
    · rw [if_pos q2]
    · rw [Nat.testBit_lt_two_pow (x := L) (i := j) (Nat.lt_of_lt_of_le hL (Nat.pow_le_pow_right (by omega) (by omega))), Bool.and_false, Bool.and_false]
  · rw [if_neg q, if_neg q, if_neg (by omega), show j + s - 8 = j - 8 + s by omega]
theorem hor_and {s m : Nat} (hs : s ≤ 7) (hm : m < 2 ^ (8 - s)) : ∀ l : List Nat, (∀ b ∈ l, b < 256) → (hor l / 2 ^ s) &&& hor (l.map (fun _ => m)) = hor (l.map (fun b => (b / 2 ^ s) &&& m))
  | [], _ => by
    show (0 / 2 ^ s) &&& 0 = 0
    rw [Nat.and_zero]
  | b :: l, h => by
    show ((256 * hor l + b) / 2 ^ s) &&& (256 * hor (l.map (fun _ => m)) + m) = 256 * hor (l.map (fun b => (b / 2 ^ s) &&& m)) + ((b / 2 ^ s) &&& m)
    rw [bc_sh hs (h b List.mem_cons_self) hm, hor_and hs hm l (fun x hx => h x (List.mem_cons_of_mem _ hx))]
theorem hor_add {f g : Nat → Nat} : ∀ l : List Nat, hor (l.map f) + hor (l.map g) = hor (l.map (fun b => f b + g b))
  | [] => rfl
  | b :: l => by
    have := hor_add (f := f) (g := g) l
    show (256 * hor (l.map f) + f b) + (256 * hor (l.map g) + g b) = 256 * hor (l.map (fun b => f b + g b)) + (f b + g b)
    omega
theorem hor_id : ∀ l : List Nat, hor (l.map (fun b => b)) = hor l := fun l => by rw [List.map_id']
theorem hor_cong {f g : Nat → Nat} : ∀ l : List Nat, (∀ b ∈ l, f b = g b) → hor (l.map f) = hor (l.map g) := fun l h => by rw [List.map_congr_left h]
def bcc (b : Nat) : Nat := b - ((b / 2 ^ 1) &&& 85)
def bcd (b : Nat) : Nat := ((bcc b / 2 ^ 0) &&& 51) + ((bcc b / 2 ^ 2) &&& 51)
def bcg (b : Nat) : Nat := bcd b % 16 + bcd b / 16
theorem bc_all : ∀ b, b < 256 → ((b / 2 ^ 1) &&& 85) ≤ b ∧ bcc b < 256 ∧ bcd b % 16 ≤ 4 ∧ bcd b / 16 ≤ 4 ∧ bcg b = fb_ct (fun i => b.testBit i) 8 ∧ bcg b ≤ 8 := by decide +kernel
theorem hor_sub : ∀ l : List Nat, (∀ b ∈ l, b < 256) → hor l = hor (l.map (fun b => (b / 2 ^ 1) &&& 85)) + hor (l.map bcc)
  | [], _ => rfl
  | b :: l, h => by
    have ih := hor_sub l (fun x hx => h x (List.mem_cons_of_mem _ hx))
    have := (bc_all b (h b List.mem_cons_self)).1
    show 256 * hor l + b = (256 * hor (l.map (fun b => (b / 2 ^ 1) &&& 85)) + ((b / 2 ^ 1) &&& 85)) + (256 * hor (l.map bcc) + (b - ((b / 2 ^ 1) &&& 85)))
    omega
theorem hor_nib : ∀ l : List Nat, (∀ b ∈ l, b < 256) → hor (l.map bcd) % 16 ≤ 4 ∧ (hor (l.map bcd) + hor (l.map bcd) / 16) &&& hor (l.map (fun _ => 15)) = hor (l.map bcg)
  | [], _ => ⟨by show 0 % 16 ≤ 4; omega, rfl⟩
  | b :: l, h => by
    obtain ⟨i1, i2⟩ := hor_nib l (fun x hx => h x (List.mem_cons_of_mem _ hx))
    obtain ⟨-, -, b1, b2, -, -⟩ := bc_all b (h b List.mem_cons_self)
    show (256 * hor (l.map bcd) + bcd b) % 16 ≤ 4 ∧ ((256 * hor (l.map bcd) + bcd b) + (256 * hor (l.map bcd) + bcd b) / 16) &&& (256 * hor (l.map (fun _ => 15)) + 15) = 256 * hor (l.map bcg) + (bcd b % 16 + bcd b / 16)
    generalize hor (l.map bcd) = z at *
    generalize bcd b = d at *
    refine ⟨by omega, ?_⟩
    have e : (256 * z + d) + (256 * z + d) / 16 = 256 * (z + z / 16) + (d + d / 16 + 16 * (z % 16)) := by omega
    have s := bc_sh (s := 0) (h := z + z / 16) (l := d + d / 16 + 16 * (z % 16)) (H := hor (l.map (fun _ => 15))) (L := 15) (by omega) (by omega) (by decide)
    rw [Nat.pow_zero, Nat.div_one, Nat.div_one, Nat.div_one] at s
    rw [e, s, i2, show (15 : Nat) = 2 ^ 4 - 1 from rfl, Nat.and_two_pow_sub_one_eq_mod]
    omega
theorem hor_ct : ∀ l : List Nat, (∀ b ∈ l, b < 256) → fb_ct (fun i => (hor l).testBit i) (8 * l.length) = (l.map bcg).sum
  | [], _ => rfl
  | b :: l, h => by
    have hb := h b List.mem_cons_self
    have ih := hor_ct l (fun x hx => h x (List.mem_cons_of_mem _ hx))
    rw [List.map_cons, List.sum_cons, ← ih, (bc_all b hb).2.2.2.2.1, List.length_cons, show 8 * (l.length + 1) = 8 + 8 * l.length by omega, fb_ct_split]
    have hb8 : b < 2 ^ 8 := hb
    have e : ∀ j, (hor (b :: l)).testBit j = if j < 8 then b.testBit j else (hor l).testBit (j - 8) := fun j => Nat.testBit_two_pow_mul_add (hor l) hb8 j
    congr 1
    · exact fb_ct_cong (fun k hk => by rw [e, if_pos hk])
    · exact fb_ct_cong (fun k hk => by rw [e, if_neg (by omega), show 8 + k - 8 = k by omega])
theorem hor_of {n : Nat} (h : n < 18446744073709551616) : ∃ l : List Nat, l.length = 8 ∧ (∀ b ∈ l, b < 256) ∧ n = hor l := by
  refine ⟨[n % 256, n / 256 % 256, n / 65536 % 256, n / 16777216 % 256, n / 4294967296 % 256, n / 1099511627776 % 256, n / 281474976710656 % 256, n / 72057594037927936], rfl, fun b hb => ?_, ?_⟩
  · simp only [List.mem_cons, List.not_mem_nil, or_false] at hb
    rcases hb with rfl | rfl | rfl | rfl | rfl | rfl | rfl | rfl <;> omega
  · show n = 256 * (256 * (256 * (256 * (256 * (256 * (256 * (256 * 0 + n / 72057594037927936) + n / 281474976710656 % 256) + n / 1099511627776 % 256) + n / 4294967296 % 256) + n / 16777216 % 256) + n / 65536 % 256) + n / 256 % 256) + n % 256
    omega
theorem hor_lt : ∀ l : List Nat, (∀ b ∈ l, b < 256) → hor l < 256 ^ l.length
  | [], _ => by show 0 < 256 ^ 0; omega
  | b :: l, h => by
    have ih := hor_lt l (fun x hx => h x (List.mem_cons_of_mem _ hx))
    have := h b List.mem_cons_self
    show 256 * hor l + b < 256 ^ (l.length + 1)
    rw [Nat.pow_succ]
    omega
theorem lNb_add (a b : Nat) : lN a + lN b = lN (a + b) := wb_inj (BitVec.ofNat_add a b).symm
theorem lNb_sub {a b : Nat} (h : b ≤ a) : lN a - lN b = lN (a - b) := by
  have e : lN a = lN (a - b) + lN b := by rw [lNb_add]; congr 1; omega
  rw [e]
  exact wb_inj (by
    rw [Int64.toBitVec_sub, Int64.toBitVec_add, BitVec.add_sub_cancel])
theorem lb_lN {n i : Nat} (hi : i < 64) : lb (lN n) i = n.testBit i := by
  show (BitVec.ofNat 64 n).getLsbD i = _
  rw [BitVec.getLsbD_ofNat, decide_eq_true hi, Bool.true_and]
theorem lN_127 (a : Nat) : (lN a).toInt32 &&& (127 : Int32) = nI (a % 128) := by
  refine ib_ext (fun i hi => ?_)
  have e1 : ib (lN a).toInt32 i = a.testBit i := by
    show ((BitVec.ofNat 64 a).signExtend 32).getLsbD i = _
    rw [BitVec.getLsbD_signExtend, decide_eq_true hi, Bool.true_and, if_pos (by omega), BitVec.getLsbD_ofNat, decide_eq_true (show i < 64 by omega), Bool.true_and]
  have e2 : ib (127 : Int32) i = decide (i < 7) := by
    show (BitVec.ofNat 32 (2 ^ 7 - 1)).getLsbD i = _
    rw [BitVec.getLsbD_ofNat, decide_eq_true hi, Bool.true_and, Nat.testBit_two_pow_sub_one]
  have e3 : ib (nI (a % 128)) i = (a % 2 ^ 7).testBit i := by
    show (BitVec.ofNat 32 (a % 128)).getLsbD i = _
    rw [BitVec.getLsbD_ofNat, decide_eq_true hi, Bool.true_and]
  rw [ib_and, e1, e2, e3, Nat.testBit_mod_two_pow, Bool.and_comm]

