-- LEVEL 2, THE CALL SEARCH BY WALK
theorem pred_bit {n i : Nat} (h : n.testBit i = true) (h2 : ∀ j, j < i → n.testBit j = false) (j : Nat) : (n - 1).testBit j = if j < i then true else if j = i then false else n.testBit j := by
  have e : n % 2 ^ (i + 1) = 2 ^ i := by
    apply Nat.eq_of_testBit_eq
    intro k
    rw [Nat.testBit_mod_two_pow, Nat.testBit_two_pow]
    by_cases q : k < i
    · rw [h2 k q, Bool.and_false, decide_eq_false (by omega)]
    · by_cases q2 : k = i
      · rw [q2, h, decide_eq_true (show i < i + 1 by omega), decide_eq_true rfl]; rfl
      · rw [decide_eq_false (show ¬ k < i + 1 by omega), decide_eq_false (show ¬ i = k by omega)]; rfl
  have d := Nat.div_add_mod n (2 ^ (i + 1))
  rw [e] at d
  have p : 0 < 2 ^ i := Nat.two_pow_pos i
  have p2 : (2 : Nat) ^ (i + 1) = 2 ^ i * 2 := Nat.pow_succ 2 i
  have e1 : n - 1 = 2 ^ (i + 1) * (n / 2 ^ (i + 1)) + (2 ^ i - 1) := by omega
  have t1 := Nat.testBit_two_pow_mul_add (n / 2 ^ (i + 1)) (b := 2 ^ i - 1) (i := i + 1) (by omega) j
  have t2 := Nat.testBit_two_pow_mul_add (n / 2 ^ (i + 1)) (b := 2 ^ i) (i := i + 1) (by omega) j
  rw [d] at t2
  rw [e1, t1, t2]
  by_cases q : j < i
  · rw [if_pos (by omega), if_pos q, Nat.testBit_two_pow_sub_one, decide_eq_true q]
  · rw [if_neg q]
    by_cases q2 : j = i
    · rw [if_pos (by omega), if_pos q2, Nat.testBit_two_pow_sub_one, decide_eq_false q]
    · rw [if_neg (by omega), if_neg q2, if_neg (by omega)]
theorem ib_nI {n i : Nat} (hi : i < 32) : ib (nI n) i = n.testBit i := by
  show (BitVec.ofNat 32 n).getLsbD i = _
  rw [BitVec.getLsbD_ofNat, decide_eq_true hi, Bool.true_and]
-- the pictures without a state
def nz74 (x0 x1 : Int32) : Int32 := x1 + ((x0.toUInt32 >>> ((1 : Int32).toUInt32 &&& Int32.toUInt32 31)).toInt32)
def nz62 (x0 x1 : Int32) : Int32 := if x0 ≤ (4 : Int32) then nz74 x0 x1 else nz74 ((x0.toUInt32 >>> ((2 : Int32).toUInt32 &&& Int32.toUInt32 31)).toInt32) (x1 + (2 : Int32))
def nz49 (x0 x1 : Int32) : Int32 := if x0 ≤ (16 : Int32) then nz62 x0 x1 else nz62 ((x0.toUInt32 >>> ((4 : Int32).toUInt32 &&& Int32.toUInt32 31)).toInt32) (x1 + (4 : Int32))
def nz34 (x0 x1 : Int32) : Int32 := if x0 ≤ (256 : Int32) then nz49 x0 x1 else nz49 ((x0.toUInt32 >>> ((8 : Int32).toUInt32 &&& Int32.toUInt32 31)).toInt32) (x1 + (8 : Int32))
def nz0 (y : Int32) : Int32 := if (0 : Int32) < y then (if y ≤ (65536 : Int32) then nz34 y (1 : Int32) else nz34 ((y.toUInt32 >>> ((16 : Int32).toUInt32 &&& Int32.toUInt32 31)).toInt32) ((1 : Int32) + (16 : Int32))) else y &&& (32 : Int32)
theorem nz_all : ∀ i, i < 32 → nz0 (nI (2 ^ i - 1)) = nI i := by decide +kernel
section WA
variable {N : Nat} {S : kS} {W : sW} {T : sT} {H : sH}
theorem q_nz62 {x0 x1 : Int32} : pJ6_numberOfTrailingZeros_0f7a4_62 N x0 x1 S = some (nz62 x0 x1, S) := by
  simp only [pJ6_numberOfTrailingZeros_0f7a4_62, pJ6_numberOfTrailingZeros_0f7a4_74, nm_i]
  unfold nz62 nz74
  split <;> rfl
theorem q_nz49 {x0 x1 : Int32} : pJ6_numberOfTrailingZeros_0f7a4_49 N x0 x1 S = some (nz49 x0 x1, S) := by
  simp only [pJ6_numberOfTrailingZeros_0f7a4_49, nm_i, q_nz62]
  unfold nz49
  split <;> rfl
theorem q_nz34 {x0 x1 : Int32} : pJ6_numberOfTrailingZeros_0f7a4_34 N x0 x1 S = some (nz34 x0 x1, S) := by
  simp only [pJ6_numberOfTrailingZeros_0f7a4_34, nm_i, q_nz49]
  unfold nz34
  split <;> rfl
theorem q_ntz32 {n i : Nat} (hi : i < 32) (h : n.testBit i = true) (h2 : ∀ j, j < i → n.testBit j = false) : pJ6_numberOfTrailingZeros_0f7a4 N (nI n) S = some (zI (i : Nat), S) := by
  have hn : 1 ≤ n := by
    rcases Nat.eq_zero_or_pos n with q | q
    · rw [q, Nat.zero_testBit] at h; exact Bool.noConfusion h
    · exact q
  have e0 : nI n - (1 : Int32) = nI (n - 1) := by
    rw [zI_n, zI_n, zL_1, zI_sub]; congr 1; omega
  have ey : (nI n ^^^ (-1 : Int32)) &&& (nI n - (1 : Int32)) = nI (2 ^ i - 1) := by
    rw [e0]
    refine ib_ext (fun j hj => ?_)
    rw [ib_and, ib_not _ hj, ib_nI hj, ib_nI hj, ib_nI hj, pred_bit h h2, Nat.testBit_two_pow_sub_one]
    by_cases q : j < i
    · rw [if_pos q, h2 j q, decide_eq_true q]; rfl
    · rw [if_neg q, decide_eq_false q]
      by_cases q2 : j = i
      · rw [if_pos q2, Bool.and_false]
      · rw [if_neg q2]
        cases n.testBit j <;> rfl
  have e : ∀ y : Int32, (if (0 : Int32) < y then (if y ≤ (65536 : Int32) then pJ6_numberOfTrailingZeros_0f7a4_34 N y (1 : Int32) S else pJ6_numberOfTrailingZeros_0f7a4_34 N ((y.toUInt32 >>> ((16 : Int32).toUInt32 &&& Int32.toUInt32 31)).toInt32) ((1 : Int32) + (16 : Int32)) S) else some (y &&& (32 : Int32), S)) = some (nz0 y, S) := fun y => by
    rw [q_nz34, q_nz34]
    unfold nz0
    split
    · split <;> rfl
    · rfl
  simp only [pJ6_numberOfTrailingZeros_0f7a4, nm_i]
  rw [ey, e, nz_all i hi, zI_n]
theorem q_ntz {w : Int64} {i : Nat} (hi : i < 64) (h : lb w i = true) (h2 : ∀ j, j < i → lb w j = false) : pJ13_numberOfTrailingZeros_95d88 N w S = some (zI (i : Nat), S) := by
  obtain ⟨n, hn, rfl⟩ := wb_of w
  have t1 : n.testBit i = true := by rw [← lb_lN hi]; exact h
  have t2 : ∀ j, j < i → n.testBit j = false := fun j hj => by rw [← lb_lN (show j < 64 by omega)]; exact h2 j hj
  have toI : ∀ n, (lN n).toInt32 = nI n := fun n => ib_ext (fun j hj => by
    rw [ib_nI hj]
    show ((BitVec.ofNat 64 n).signExtend 32).getLsbD j = _
    rw [BitVec.getLsbD_signExtend, decide_eq_true hj, Bool.true_and, if_pos (by omega), BitVec.getLsbD_ofNat, decide_eq_true (show j < 64 by omega), Bool.true_and])
  have s32 : ((lN n).toUInt64 >>> ((32 : Int32).toInt64.toUInt64 &&& Int64.toUInt64 63)).toInt64 = lN (n / 2 ^ 32) := wb_shr (k := 32) hn (by omega)
  simp only [pJ13_numberOfTrailingZeros_95d88, nm_i]
  rw [s32, toI, toI]
  have z0 : (nI n = (0 : Int32)) ↔ 32 ≤ i := by
    constructor
    · intro g
      rcases Nat.lt_or_ge i 32 with q | q
      · have : ib (nI n) i = ib 0 i := by rw [g]
        rw [ib_nI q, ib_0, t1] at this
        exact Bool.noConfusion this
      · exact q
    · intro g
      refine ib_ext (fun j hj => ?_)
      rw [ib_nI hj, ib_0]
      exact t2 j (by omega)
  by_cases q : 32 ≤ i
  · rw [if_pos (z0.mpr q), q_ntz32 (i := i - 32) (by omega) (by rw [Nat.testBit_div_two_pow, show i - 32 + 32 = i by omega]; exact t1) (fun j hj => by rw [Nat.testBit_div_two_pow]; exact t2 _ (by omega)), bk_i, show (32 : Int32) = zI 32 from rfl, zI_add]
    congr 3
    omega
  · rw [if_neg (fun g => q (z0.mp g)), q_ntz32 (by omega) t1 t2, bk_i]
theorem lb_less {w : Int64} {i : Nat} (hi : i < 64) (h : lb w i = true) (h2 : ∀ j, j < i → lb w j = false) {j : Nat} (hj : j < 64) : lb (w &&& (w - (1 : Int64))) j = (lb w j && !decide (j = i)) := by
  obtain ⟨n, hn, rfl⟩ := wb_of w
  have t1 : n.testBit i = true := by rw [← lb_lN hi]; exact h
  have t2 : ∀ j, j < i → n.testBit j = false := fun j hj => by rw [← lb_lN (show j < 64 by omega)]; exact h2 j hj
  have hn1 : 1 ≤ n := by
    rcases Nat.eq_zero_or_pos n with q | q
    · rw [q, Nat.zero_testBit] at t1; exact Bool.noConfusion t1
    · exact q
  rw [show (1 : Int64) = lN 1 from rfl, lNb_sub hn1, lb_and, lb_lN hj, lb_lN hj, pred_bit t1 t2]
  by_cases q : j < i
  · rw [if_pos q, t2 j q]; rfl
  · rw [if_neg q]
    by_cases q2 : j = i
    · rw [if_pos q2, decide_eq_true q2]; simp
    · rw [if_neg q2, decide_eq_false q2]
      cases n.testBit j <;> rfl
theorem lb_first {w : Int64} (h : ¬ lg_cmp w 0 = 0) : ∃ i, i < 64 ∧ lb w i = true ∧ ∀ j, j < i → lb w j = false := by
  have ex : ∀ k, k ≤ 64 → (∀ j, j < k → lb w j = false) ∨ ∃ i, i < 64 ∧ lb w i = true ∧ ∀ j, j < i → lb w j = false := fun k => by
    induction k with
    | zero => exact fun _ => Or.inl (fun j hj => by omega)
    | succ k ih =>
      intro hk
      rcases ih (by omega) with g | g
      · cases q : lb w k with
        | true => exact Or.inr ⟨k, by omega, q, g⟩
        | false => exact Or.inl (fun j hj => by
          by_cases z : j = k
          · rw [z]; exact q
          · exact g j (by omega))
      · exact Or.inr g
  rcases ex 64 (Nat.le_refl _) with g | g
  · exact absurd ((lb_zero w).mpr g) h
  · exact g
/-- chains over places -/
theorem tPl_lv {e : Nat} (h : 0 ≤ tPl T e) : tLv T (tPl T e) = true := by
  unfold tPl at h ⊢
  by_cases q : (e : Int) = 0
  · rw [if_pos q] at h; omega
  · rw [if_neg q] at h ⊢
    by_cases q2 : tLv T (tPa T (e : Int).toNat) = true
    · rw [if_pos q2]; exact q2
    · rw [if_neg q2] at h; omega
theorem climb_cyc {pa : Nat → Int} {k : Nat} {b : Int} (h : climb pa (k + 1) b = b) : ∀ n, climb pa (n * (k + 1)) b = b
  | 0 => by rw [Nat.zero_mul]; rfl
  | n + 1 => by
    rw [show (n + 1) * (k + 1) = (k + 1) + n * (k + 1) by rw [Nat.add_mul, Nat.one_mul, Nat.add_comm], climb_add, h]
    exact climb_cyc h n
theorem no_cyc (Wt : tW T) {k : Nat} {b : Nat} (hb : b < 48) (h : climb (fun x => tPl T x) (k + 1) (b : Nat) = (b : Int)) : False := by
  have e := (tPl_end Wt.1).at (x := (b : Int)) (by omega)
  have c := climb_cyc h 48
  have m := climb_mono (pa := fun x => tPl T x) (m := 48) (n := 48 * (k + 1)) (x := (b : Int)) (by rw [Nat.mul_add]; omega) e
  rw [c] at m
  omega
/-- the sets that are ahead and behind -/
def wkI (T : sT) (sc b : Nat) (A V : Nat → Bool) : Prop := (∀ e, e < 48 → (A e = true ∨ V e = true) → tLv T (e : Nat) = true ∧ scp T sc b e = true) ∧ (∀ e, e < 48 → A e = true → V e = true → False) ∧ (sc ≠ 2 → ∀ e, e < 48 → tLv T (e : Nat) = true → scp T sc b e = true → A e = true ∨ V e = true) ∧ (sc = 2 → (A b = true ∨ V b = true) ∧ ∀ e, e < 48 → tLv T (e : Nat) = true → scp T sc b e = true → e ≠ b → ((0 ≤ tPl T e ∧ V (tPl T e).toNat = true) ↔ (A e = true ∨ V e = true)))
theorem wk_end (Wt : tW T) {sc b : Nat} (hsc : sc < 3) (hb : b < 48) {A V : Nat → Bool} (I : wkI T sc b A V) (hA : ∀ e, e < 48 → A e = false) : ∀ e, e < 48 → V e = (tLv T (e : Nat) && scp T sc b e) := fun e he => by
  obtain ⟨i1, i2, i3, i4⟩ := I
  rw [Bool.eq_iff_iff, Bool.and_eq_true]
  constructor
  · intro h
    exact i1 e he (Or.inr h)
  · rintro ⟨h1, h2⟩
    by_cases q : sc = 2
    · obtain ⟨j1, j2⟩ := i4 q
      have go : ∀ (i : Nat) (e : Nat), i < 48 → e < 48 → tLv T (e : Nat) = true → climb (fun x => tPl T x) i (e : Nat) = (b : Int) → V e = true := fun i => by
        induction i with
        | zero =>
          intro e _ he _ hc
          have hc : (e : Int) = (b : Int) := hc
          have : e = b := by omega
          subst this
          rcases j1 with g | g
          · rw [hA e he] at g; exact Bool.noConfusion g
          · exact g
        | succ i ih =>
          intro e hi he hl hc
          by_cases z : e = b
          · subst z
            rcases j1 with g | g
            · rw [hA e he] at g; exact Bool.noConfusion g
            · exact g
          · have hs : scp T sc b e = true := by
              unfold scp
              rw [if_neg (by omega), if_neg (by omega)]
              exact (pCome_iff (by omega) 48 (e : Int)).mpr ⟨i + 1, hi, hc⟩
            rw [climb_s (by omega), Int.toNat_natCast] at hc
            have hp : 0 ≤ tPl T e := by
              rcases Int.lt_or_le (tPl T e) 0 with g | g
              · rw [climb_neg i g] at hc; omega
              · exact g
            have hr := tPl_rg Wt he
            obtain ⟨p, hpe⟩ : ∃ p : Nat, tPl T e = p := ⟨(tPl T e).toNat, by omega⟩
            have hlp := tPl_lv hp
            rw [hpe] at hlp hc
            have vp := ih p (by omega) (by omega) hlp hc
            rcases (j2 e he hl hs z).mp ⟨hp, by rw [hpe, Int.toNat_natCast]; exact vp⟩ with g | g
            · rw [hA e he] at g; exact Bool.noConfusion g
            · exact g
      unfold scp at h2
      rw [if_neg (by omega), if_neg (by omega)] at h2
      obtain ⟨i, hi, hc⟩ := (pCome_iff (by omega) 48 (e : Int)).mp h2
      exact go i e hi he h1 hc
    · rcases i3 q e he h1 h2 with g | g
      · rw [hA e he] at g; exact Bool.noConfusion g
      · exact g
/-- one entry is visited -/
theorem wk_step (Wt : tW T) {sc b : Nat} (hsc : sc < 3) (hb : b < 48) {A V : Nat → Bool} (I : wkI T sc b A V) {x : Nat} (hx : x < 48) (hAx : A x = true) : wkI T sc b (fun e => (A e && !decide (e = x)) || (decide (sc = 2) && tCh T (x : Nat) e)) (fun e => if e = x then true else V e) := by
  obtain ⟨i1, i2, i3, i4⟩ := I
  have hVx : V x = false := by
    rw [Bool.eq_false_iff]
    exact fun g => i2 x hx hAx g
  have ch : ∀ e, tCh T (x : Nat) e = true ↔ tLv T (e : Nat) = true ∧ tPl T e = (x : Int) := fun e => by
    unfold tCh
    rw [Bool.and_eq_true, decide_eq_true_eq]
  have hAe : ∀ e, ((A e && !decide (e = x)) || (decide (sc = 2) && tCh T (x : Nat) e)) = true ↔ (A e = true ∧ e ≠ x) ∨ (sc = 2 ∧ tLv T (e : Nat) = true ∧ tPl T e = (x : Int)) := fun e => by
    rw [Bool.or_eq_true, Bool.and_eq_true, Bool.and_eq_true, ch, Bool.not_eq_true', decide_eq_false_iff_not, decide_eq_true_eq]
  have hVe : ∀ e, (if e = x then true else V e) = true ↔ V e = true ∨ e = x := fun e => by
    by_cases q : e = x
    · rw [if_pos q]; exact ⟨fun _ => Or.inr q, fun _ => rfl⟩
    · rw [if_neg q]; exact ⟨fun h => Or.inl h, fun h => h.elim id (fun g => absurd g q)⟩
  -- x's own chain, when the scope is 2
  have chain : sc = 2 → ∃ i, i < 48 ∧ climb (fun z => tPl T z) i (x : Nat) = (b : Int) := fun q => by
    have := (i1 x hx (Or.inl hAx)).2
    unfold scp at this
    rw [if_neg (by omega), if_neg (by omega)] at this
    exact (pCome_iff (by omega) 48 (x : Int)).mp this
  have chs : sc = 2 → ∀ e : Nat, e < 48 → tPl T e = (x : Int) → scp T sc b e = true := fun q e he hp => by
    obtain ⟨i, hi, hc⟩ := chain q
    have hc2 : climb (fun z => tPl T z) (i + 1) (e : Nat) = (b : Int) := by
      rw [climb_s (by omega), Int.toNat_natCast]
      show climb _ i (tPl T e) = _
      rw [hp]; exact hc
    have h48 := (tPl_end Wt.1).at (x := (e : Int)) (by omega)
    unfold scp
    rw [if_neg (by omega), if_neg (by omega)]
    refine (pCome_iff (by omega) 48 (e : Int)).mpr ⟨i + 1, ?_, hc2⟩
    rcases Nat.lt_or_ge (i + 1) 48 with g | g
    · exact g
    · exfalso
      have : i + 1 = 48 := by omega
      rw [this] at hc2
      omega
  refine ⟨fun e he h => ?_, fun e he h1 h2 => ?_, fun q e he h1 h2 => ?_, fun q => ⟨?_, fun e he h1 h2 hne => ?_⟩⟩
  · rcases h with h | h
    · rcases (hAe e).mp h with ⟨g, -⟩ | ⟨g1, g2, g3⟩
      · exact i1 e he (Or.inl g)
      · exact ⟨g2, chs g1 e he g3⟩
    · rcases (hVe e).mp h with g | g
      · exact i1 e he (Or.inr g)
      · rw [g]; exact i1 x hx (Or.inl hAx)
  · rcases (hAe e).mp h1 with ⟨g, gn⟩ | ⟨g1, g2, g3⟩
    · rcases (hVe e).mp h2 with k | k
      · exact i2 e he g k
      · exact gn k
    · obtain ⟨i, hi, hc⟩ := chain g1
      rcases (hVe e).mp h2 with k | k
      · by_cases z : e = b
        · subst z
          refine no_cyc Wt (k := i) he ?_
          rw [climb_s (by omega), Int.toNat_natCast]
          show climb _ i (tPl T e) = _
          rw [g3]; exact hc
        · have := ((i4 g1).2 e he g2 (chs g1 e he g3) z).mpr (Or.inr k)
          rw [g3, Int.toNat_natCast, hVx] at this
          exact Bool.noConfusion this.2
      · subst k
        refine no_cyc Wt (k := 0) he ?_
        rw [climb_s (by omega), Int.toNat_natCast]
        show tPl T e = _
        exact g3
  · rcases i3 q e he h1 h2 with g | g
    · by_cases z : e = x
      · exact Or.inr ((hVe e).mpr (Or.inr z))
      · exact Or.inl ((hAe e).mpr (Or.inl ⟨g, z⟩))
    · exact Or.inr ((hVe e).mpr (Or.inl g))
  · rcases (i4 q).1 with g | g
    · by_cases z : b = x
      · exact Or.inr ((hVe b).mpr (Or.inr z))
      · exact Or.inl ((hAe b).mpr (Or.inl ⟨g, z⟩))
    · exact Or.inr ((hVe b).mpr (Or.inl g))
  · have old := (i4 q).2 e he h1 h2 hne
    have hr := tPl_rg Wt he
    constructor
    · rintro ⟨k1, k2⟩
      rcases (hVe _).mp k2 with g | g
      · rcases old.mp ⟨k1, g⟩ with a | a
        · by_cases z : e = x
          · exact Or.inr ((hVe e).mpr (Or.inr z))
          · exact Or.inl ((hAe e).mpr (Or.inl ⟨a, z⟩))
        · exact Or.inr ((hVe e).mpr (Or.inl a))
      · exact Or.inl ((hAe e).mpr (Or.inr ⟨q, h1, by omega⟩))
    · intro k
      have : (A e = true ∨ V e = true) ∨ tPl T e = (x : Int) := by
        rcases k with k | k
        · rcases (hAe e).mp k with ⟨a, -⟩ | ⟨-, -, a⟩
          · exact Or.inl (Or.inl a)
          · exact Or.inr a
        · rcases (hVe e).mp k with a | a
          · exact Or.inl (Or.inr a)
          · rw [a]; exact Or.inl (Or.inl hAx)
      rcases this with a | a
      · obtain ⟨a1, a2⟩ := old.mpr a
        exact ⟨a1, (hVe _).mpr (Or.inl a2)⟩
      · exact ⟨by omega, (hVe _).mpr (Or.inr (by omega))⟩
def fit (W : sW) (m e : Nat) : Bool := wFt W (wTr W m) e && tMay (wH W) (wTr W m) (wU W m) (e : Nat) 0
theorem q_byWalk_36 (hN : 20000 ≤ N) (h : wOk W) (K : kRel S W) {m sc b : Nat} (hm : m < 4) (hsc : sc < 3) (hb : b < 48) (hK1 : (wK W).length = 1) : ∀ (n k : Nat) (A V : Nat → Bool) (w : Int64), k + fb_ct V 48 = 48 → k < n → wkI (wTr W m) sc b A V → (∀ e, e < 64 → lb w e = (decide (e < 48) && A e)) → pX3_byWalk_36 N n (zI (m : Nat)) (zI (sc : Nat)) m w (zI (fb_ct (fun e => V e && fit W m e) 48 : Nat)) (zI (fb_ct V 48 : Nat)) S = some (zI (fb_ct (fnd W m sc b) 48 : Nat), S)
  | 0, k, A, V, w, hk, hn, I, hw => by omega
  | n + 1, k, A, V, w, hk, hn, I, hw => by
    have Q := kRel_t h K hm
    have hend : (∀ e, e < 48 → A e = false) → fb_ct (fun e => V e && fit W m e) 48 = fb_ct (fnd W m sc b) 48 := fun hA => fb_ct_cong (fun e he => by
      show (V e && fit W m e) = _
      rw [wk_end Q.2 hsc hb I hA e he]
      unfold fnd fit
      rw [Bool.and_assoc])
    simp only [pX3_byWalk_36, pX3_byWalk_103, pX3_byWalk_120, nm_i, nml_i]
    rw [zL_48, il_le (by omega) (by have := fb_ct_le V 48; omega) (by omega) (by have := fb_ct_le V 48; omega)]
    by_cases q : fb_ct V 48 = 48
    · rw [if_pos (by omega), hend (fun e he => by
        rw [Bool.eq_false_iff]
        exact fun g => I.2.1 e he g (fb_ct_all.mp q e he))]
    · rw [if_neg (by omega)]
      cases k with
      | zero => omega
      | succ k =>
        by_cases q2 : lg_cmp w 0 = 0
        · rw [if_pos q2, hend (fun e he => by
            have := (lb_zero w) ▸ q2
            have := this e (by omega)
            rw [hw e (by omega), decide_eq_true he, Bool.true_and] at this
            exact this)]
        · obtain ⟨x, x1, x2, x3⟩ := lb_first q2
          have hx2 := x2
          rw [hw x x1, Bool.and_eq_true, decide_eq_true_eq] at hx2
          obtain ⟨hx, hAx⟩ := hx2
          have hVx : V x = false := by
            rw [Bool.eq_false_iff]
            exact fun g => I.2.1 x hx hAx g
          have I' := wk_step Q.2 hsc hb I hx hAx
          -- counts
          have ct1 : fb_ct (fun e => if e = x then true else V e) 48 = fb_ct V 48 + 1 := by
            have := fb_ct_upd V true (i := x) (n := 48) hx
            rw [hVx] at this
            simpa using this
          have ct2 : fb_ct (fun e => (if e = x then true else V e) && fit W m e) 48 = fb_ct (fun e => V e && fit W m e) 48 + (if fit W m x then 1 else 0) := by
            have := fb_ct_upd (fun e => V e && fit W m e) (fit W m x) (i := x) (n := 48) hx
            have e0 : (V x && fit W m x) = false := by rw [hVx]; rfl
            simp only [e0] at this
            rw [← fb_ct_cong (p := fun e => if e = x then fit W m x else V e && fit W m e) (q := fun e => (if e = x then true else V e) && fit W m e) (fun e he => by
              show (if e = x then fit W m x else V e && fit W m e) = ((if e = x then true else V e) && fit W m e)
              by_cases z : e = x
              · rw [if_pos z, if_pos z, z]; rfl
              · rw [if_neg z, if_neg z])]
            simpa using this
          -- the words that follow
          have next : ∀ c : Nat, c = fb_ct (fun e => V e && fit W m e) 48 + (if fit W m x then 1 else 0) → (if zI (sc : Nat) = (2 : Int32) then (bk (pX8_childrenAt N m (zI (x : Nat)) S) fun v101 S102 => pX3_byWalk_36 N n (zI (m : Nat)) (zI (sc : Nat)) m ((w &&& (w - (1 : Int64))) ||| v101) (zI (c : Nat)) (zI (fb_ct V 48 : Nat) + 1) S102) else pX3_byWalk_36 N n (zI (m : Nat)) (zI (sc : Nat)) m (w &&& (w - (1 : Int64))) (zI (c : Nat)) (zI (fb_ct V 48 : Nat) + 1) S) = some (zI (fb_ct (fnd W m sc b) 48 : Nat), S) := fun c hc => by
            have ek : zI (fb_ct V 48 : Nat) + 1 = zI ((fb_ct (fun e => if e = x then true else V e) 48 : Nat) : Int) := by rw [ct1, zL_1, zI_add]; congr 1
            rw [ek, hc, ← ct2]
            have s2 : (zI (sc : Nat) = (2 : Int32)) ↔ sc = 2 := by rw [zL_2, zI_eq (by omega) (by omega) (by omega) (by omega)]; omega
            by_cases z : sc = 2
            · obtain ⟨cw, c1, c2⟩ := q_childrenAt (N := N) Q (by omega) (place := (x : Int)) (by omega) (by omega)
              rw [if_pos (s2.mpr z), c1, bk_i]
              refine q_byWalk_36 hN h K hm hsc hb hK1 n k _ _ _ (by omega) (by omega) I' (fun e he => ?_)
              rw [lb_or, lb_less x1 x2 x3 he, hw e he, c2 e he, decide_eq_true z, Bool.true_and]
              by_cases g : e < 48
              · rw [decide_eq_true g, Bool.true_and, Bool.true_and, Bool.true_and]
                by_cases g2 : 1 ≤ e
                · rw [decide_eq_true g2, Bool.true_and]
                · have : e = 0 := by omega
                  subst this
                  have : tCh (wTr W m) (x : Nat) 0 = false := by
                    unfold tCh
                    rw [show tPl (wTr W m) ((0 : Nat) : Int) = -1 from rfl, decide_eq_false (by omega), Bool.and_false]
                  rw [this, decide_eq_false g2, Bool.false_and]
              · rw [decide_eq_false g, Bool.false_and, Bool.false_and, Bool.false_and, Bool.and_false]; rfl
            · rw [if_neg (fun g => z (s2.mp g))]
              refine q_byWalk_36 hN h K hm hsc hb hK1 n k _ _ _ (by omega) (by omega) I' (fun e he => ?_)
              rw [lb_less x1 x2 x3 he, hw e he, decide_eq_false z, Bool.false_and, Bool.or_false, Bool.and_assoc]
          have eg := q_grants (N := N) Q (H := wH W) K.1 (by omega) (h.2.2.2.2.2.1 m hm) (what := 0) (by omega) (x := (x : Int)) (by omega) (by omega)
          have eg : pX8_grants N m (zI (wU W m : Nat)) (zI (x : Nat)) 0 S = _ := eg
          rw [if_neg q2, q_ntz x1 x2 x3, bk_i, q_applies (by omega) h Q K.1 K.2.2.1 hK1 hx, bk_i, il_B]
          by_cases f1 : wFt W (wTr W m) x = true
          · rw [if_pos f1, gm_n hm, K.2.2.2.2.2.2.1 m hm, eg, bk_i, il_B]
            by_cases f2 : tMay (wH W) (wTr W m) (wU W m) (x : Nat) 0 = true
            · have ff : fit W m x = true := by unfold fit; rw [f1, f2]; rfl
              rw [if_pos f2, zL_1, zI_add, show (fb_ct (fun e => V e && fit W m e) 48 : Int) + 1 = ((fb_ct (fun e => V e && fit W m e) 48 + 1 : Nat) : Int) by omega]
              exact next _ (by rw [ff]; rfl)
            · have ff : fit W m x = false := by unfold fit; rw [Bool.eq_false_iff.mpr f2, Bool.and_false]
              rw [if_neg f2]
              exact next _ (by rw [ff]; rfl)
          · have ff : fit W m x = false := by unfold fit; rw [Bool.eq_false_iff.mpr f1, Bool.false_and]
            rw [if_neg f1]
            exact next _ (by rw [ff]; rfl)
end WA
