/-! plain facts to paste, each family by itself; over the kit's nI, lN and upd -/
/-! ===== drawers: more things than places ===== -/
theorem fb_holes : ∀ (m n : Nat) (f : Nat → Nat), (∀ i, i < n → f i < m) → (∀ i j, i < j → j < n → f i ≠ f j) → n ≤ m := by
  intro m
  induction m with
  | zero =>
    intro n f h1 _
    rcases Nat.eq_zero_or_pos n with h | h
    · omega
    · exact absurd (h1 0 h) (Nat.not_lt_zero _)
  | succ m ih =>
    intro n f h1 h2
    by_cases hx : ∃ i, i < n ∧ f i = m
    · obtain ⟨a, ha, hfa⟩ := hx
      have hg := ih (n - 1) (fun i => if i < a then f i else f (i + 1)) (by
        intro i hi
        by_cases q : i < a
        · simp only [if_pos q]
          have b1 := h1 i (by omega)
          have b2 := h2 i a q ha
          omega
        · simp only [if_neg q]
          have b1 := h1 (i + 1) (by omega)
          have b2 := h2 a (i + 1) (by omega) (by omega)
          omega) (by
        intro i j hij hj
        by_cases q : i < a
        · by_cases r : j < a
          · simp only [if_pos q, if_pos r]
            exact h2 i j hij (by omega)
          · simp only [if_pos q, if_neg r]
            exact h2 i (j + 1) (by omega) (by omega)
        · have r : ¬ j < a := by omega
          simp only [if_neg q, if_neg r]
          exact h2 (i + 1) (j + 1) (by omega) (by omega))
      omega
    · have hg := ih n f (fun i hi => by
        have b1 := h1 i hi
        have b2 : f i ≠ m := fun e => hx ⟨i, hi, e⟩
        omega) h2
      omega
/-- two of them in one place -/
theorem fb_twice {m n : Nat} {f : Nat → Nat} (h : ∀ i, i < n → f i < m) (hm : m < n) : ∃ i j, i < j ∧ j < n ∧ f i = f j := by
  refine Classical.byContradiction fun hx => ?_
  have := fb_holes m n f h (fun i j hij hj e => hx ⟨i, j, hij, hj, e⟩)
  omega
/-- as many as places, none twice: each place is taken -/
theorem fb_onto {n : Nat} {f : Nat → Nat} (h : ∀ i, i < n → f i < n) (h2 : ∀ i j, i < j → j < n → f i ≠ f j) {y : Nat} (hy : y < n) : ∃ i, i < n ∧ f i = y := by
  refine Classical.byContradiction fun hx => ?_
  have hne : ∀ i, i < n → f i ≠ y := fun i hi e => hx ⟨i, hi, e⟩
  have := fb_holes (n - 1) n (fun i => if f i < y then f i else f i - 1) (by
    intro i hi
    have b1 := h i hi
    have b2 := hne i hi
    by_cases q : f i < y
    · simp only [if_pos q]; omega
    · simp only [if_neg q]; omega) (by
    intro i j hij hj
    have b1 := hne i (by omega)
    have b2 := hne j hj
    have b3 := h2 i j hij hj
    by_cases q : f i < y
    · by_cases r : f j < y
      · simp only [if_pos q, if_pos r]; exact b3
      · simp only [if_pos q, if_neg r]; omega
    · by_cases r : f j < y
      · simp only [if_neg q, if_pos r]; omega
      · simp only [if_neg q, if_neg r]; omega)
  omega
-- LEVEL 2, CHAINS OF PARENTS
theorem climb_neg {pa : Nat → Int} : ∀ (n : Nat) {x : Int}, x < 0 → climb pa n x = x
  | 0, _, _ => rfl
  | _ + 1, _, h => if_pos h
theorem climb_s {pa : Nat → Int} {n : Nat} {x : Int} (h : 0 ≤ x) : climb pa (n + 1) x = climb pa n (pa x.toNat) := if_neg (by omega)
theorem climb_add {pa : Nat → Int} (n : Nat) : ∀ (m : Nat) (x : Int), climb pa (m + n) x = climb pa n (climb pa m x)
  | 0, x => by rw [Nat.zero_add]; rfl
  | m + 1, x => by
    rw [show m + 1 + n = (m + n) + 1 by omega]
    by_cases h : x < 0
    · rw [climb_neg _ h, climb_neg _ h, climb_neg _ h]
    · rw [climb_s (by omega), climb_s (by omega), climb_add n m]
theorem climb_mono {pa : Nat → Int} {m n : Nat} {x : Int} (hmn : m ≤ n) (h : climb pa m x < 0) : climb pa n x < 0 := by
  rw [show n = m + (n - m) by omega, climb_add, climb_neg _ h]; exact h
theorem climb_lt {pa : Nat → Int} (hok : ∀ e, e < 48 → pa e < 48) : ∀ (n : Nat) {x : Int}, x < 48 → climb pa n x < 48
  | 0, _, h => h
  | n + 1, x, h => by
    by_cases h0 : x < 0
    · rw [climb_neg _ h0]; exact h
    · rw [climb_s (by omega)]
      exact climb_lt hok n (hok _ (by omega))
theorem climb_48 {pa : Nat → Int} (hok : ∀ e, e < 48 → pa e < 48) {x : Int} (hx : x < 48) : ∀ n : Nat, climb pa n x < 0 → climb pa 48 x < 0 := by
  intro n
  induction n using Nat.strongRecOn with
  | ind n ih =>
    intro h
    rcases Nat.lt_or_ge 48 n with hn | hn
    · by_cases h48 : climb pa 48 x < 0
      · exact h48
      · have hpos : ∀ i, i < 49 → 0 ≤ climb pa i x := fun i hi => by
          rcases Int.lt_or_le (climb pa i x) 0 with q | q
          · exact absurd (climb_mono (by omega) q) h48
          · exact q
        obtain ⟨i, j, hij, hj, e⟩ := fb_twice (m := 48) (n := 49) (f := fun i => (climb pa i x).toNat) (fun i hi => by
          have h1 := climb_lt hok i hx
          have h2 := hpos i hi
          show (climb pa i x).toNat < 48
          omega) (by omega)
        have h1 := hpos i (by omega)
        have h2 := hpos j hj
        have e' : climb pa i x = climb pa j x := by
          have e : (climb pa i x).toNat = (climb pa j x).toNat := e
          omega
        refine ih (i + (n - j)) (by omega) ?_
        rw [climb_add, e', ← climb_add, show j + (n - j) = n by omega]
        exact h
    · exact climb_mono hn h
theorem pCome_iff {pa : Nat → Int} {to : Int} (ht : 0 ≤ to) : ∀ (n : Nat) (x : Int), pCome pa n x to = true ↔ ∃ i, i < n ∧ climb pa i x = to
  | 0, x => by
    constructor
    · intro h; cases h
    · rintro ⟨i, hi, -⟩; omega
  | n + 1, x => by
    unfold pCome
    by_cases h0 : x < 0
    · rw [if_pos h0]
      constructor
      · intro h; cases h
      · rintro ⟨i, -, e⟩
        rw [climb_neg _ h0] at e; omega
    · rw [if_neg h0]
      by_cases h1 : x = to
      · rw [if_pos h1]
        exact ⟨fun _ => ⟨0, by omega, h1⟩, fun _ => rfl⟩
      · rw [if_neg h1, pCome_iff ht n]
        constructor
        · rintro ⟨i, hi, e⟩
          exact ⟨i + 1, by omega, by rw [climb_s (by omega)]; exact e⟩
        · rintro ⟨i, hi, e⟩
          cases i with
          | zero => exact absurd e h1
          | succ i => exact ⟨i, by omega, by rw [climb_s (by omega)] at e; exact e⟩
/-- chains end, and stay within the entries -/
def pEnd (pa : Nat → Int) : Prop := (∀ e, e < 48 → pa e < 48) ∧ ∀ e : Nat, e < 48 → climb pa 48 e < 0
theorem pEnd.at {pa : Nat → Int} (h : pEnd pa) {x : Int} (hx : x < 48) : climb pa 48 x < 0 := by
  rcases Int.lt_or_le x 0 with q | q
  · rw [climb_neg _ q]; exact q
  · have := h.2 x.toNat (by omega)
    rwa [Int.toNat_of_nonneg q] at this
/-- no chain from x meets 'to': it stays as it was when the parent of 'to' is changed -/
theorem climb_upf {pa : Nat → Int} {e : Nat} {p : Int} : ∀ (n : Nat) (x : Int), (∀ i, i < n → climb pa i x ≠ e) → climb (upf pa e p) n x = climb pa n x
  | 0, _, _ => rfl
  | n + 1, x, h => by
    by_cases h0 : x < 0
    · rw [climb_neg _ h0, climb_neg _ h0]
    · rw [climb_s (by omega), climb_s (by omega), upf_o _ _ (by
        have := h 0 (by omega)
        have : x ≠ e := this
        omega)]
      exact climb_upf n _ (fun i hi => by
        have := h (i + 1) (by omega)
        rwa [climb_s (by omega)] at this)
theorem pEnd.move {pa : Nat → Int} (h : pEnd pa) {e : Nat} {p : Int} (hp : p < 48) (hc : pCome pa 48 p e = false) : pEnd (upf pa e p) := by
  have hok : ∀ x, x < 48 → upf pa e p x < 48 := fun x hx => by
    by_cases q : x = e
    · rw [q, upf_s]; exact hp
    · rw [upf_o _ _ q]; exact h.1 x hx
  refine ⟨hok, fun x hx => ?_⟩
  have hne : ∀ i, climb pa i p ≠ e := fun i hi => by
    have hi48 : i < 48 := by
      rcases Nat.lt_or_ge i 48 with q | q
      · exact q
      · have := climb_mono q (h.at hp)
        omega
    have := (pCome_iff (pa := pa) (to := (e : Int)) (by omega) 48 p).mpr ⟨i, hi48, hi⟩
    rw [hc] at this; cases this
  have hpe : climb (upf pa e p) 48 p < 0 := by
    rw [climb_upf 48 p (fun i _ => hne i)]; exact h.at hp
  have key : ∀ (n : Nat) (y : Int), climb pa n y < 0 → ∃ m, climb (upf pa e p) m y < 0 := by
    intro n
    induction n with
    | zero => intro y hy; exact ⟨0, hy⟩
    | succ n ih =>
      intro y hy
      by_cases h0 : y < 0
      · exact ⟨0, h0⟩
      · by_cases q : y = e
        · refine ⟨49, ?_⟩
          rw [climb_s (by omega), q, Int.toNat_natCast, upf_s]
          exact hpe
        · rw [climb_s (by omega)] at hy
          obtain ⟨m, hm⟩ := ih _ hy
          refine ⟨m + 1, ?_⟩
          rw [climb_s (by omega), upf_o _ _ (by omega)]
          exact hm
  obtain ⟨m, hm⟩ := key 48 x (h.2 x hx)
  exact climb_48 hok (by omega) m hm
theorem pEnd.fresh {pa : Nat → Int} (h : pEnd pa) {e : Nat} {p : Int} (hp : p < 48) (hpe : p ≠ e) (hno : ∀ x, x < 48 → pa x ≠ e) : pEnd (upf pa e p) := by
  refine h.move hp ?_
  cases hc : pCome pa 48 p e with
  | false => rfl
  | true =>
    obtain ⟨i, -, hi⟩ := (pCome_iff (by omega) 48 p).mp hc
    exfalso
    cases i with
    | zero => exact hpe hi
    | succ i =>
      rw [climb_add 1 i p] at hi
      have hlt := climb_lt h.1 i hp
      by_cases h0 : climb pa i p < 0
      · rw [climb_neg _ h0] at hi; omega
      · rw [climb_s (by omega)] at hi
        exact hno _ (by omega) hi
/-- a chain that ends sooner -/
theorem climb_sub {pa pl : Nat → Int} (h : ∀ x, pl x = pa x ∨ pl x < 0) : ∀ (n : Nat) (x : Int), climb pa n x < 0 → climb pl n x < 0
  | 0, _, q => q
  | n + 1, x, q => by
    by_cases h0 : x < 0
    · rw [climb_neg _ h0]; exact h0
    · rw [climb_s (by omega)] at q ⊢
      rcases h x.toNat with e | e
      · rw [e]; exact climb_sub h n _ q
      · rw [climb_neg _ e]; exact e
theorem tPl_sub (T : sT) (x : Nat) : tPl T x = tPa T x ∨ tPl T x < 0 := by
  unfold tPl
  by_cases h0 : (x : Int) = 0
  · rw [if_pos h0]; exact Or.inr (by omega)
  · rw [if_neg h0, Int.toNat_natCast]
    by_cases h1 : tLv T (tPa T x) = true
    · rw [if_pos h1]; exact Or.inl rfl
    · rw [if_neg h1]; exact Or.inr (by omega)
theorem tPl_end {T : sT} (h : pEnd (tPa T)) : pEnd (fun x => tPl T x) := by
  refine ⟨fun e he => ?_, fun e he => climb_sub (tPl_sub T) 48 _ (h.2 e he)⟩
  rcases tPl_sub T e with q | q
  · show tPl T e < 48
    rw [q]; exact h.1 e he
  · show tPl T e < 48
    omega

