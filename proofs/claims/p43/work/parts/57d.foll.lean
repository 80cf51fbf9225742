-- LEVEL 2, THE CALL FOLLOW: WHAT IT DOES
def mt2 (met : Nat → Nat → Bool) (m e : Nat) : Nat → Nat → Bool := fun a b => if a = m ∧ b = e then true else met a b
theorem mt2_s {met : Nat → Nat → Bool} {m e : Nat} : mt2 met m e m e = true := if_pos ⟨rfl, rfl⟩
theorem mt2_o {met : Nat → Nat → Bool} {m e a b : Nat} (h : ¬ (a = m ∧ b = e)) : mt2 met m e a b = met a b := if_neg h
theorem mt2_mono {met : Nat → Nat → Bool} {m e a b : Nat} (h : met a b = true) : mt2 met m e a b = true := by
  unfold mt2
  split
  · rfl
  · exact h
/-- goes over links -/
def arr (W : sW) : Nat → (Nat → Nat → Bool) → Nat → Nat → (Nat → Nat → Bool) × Option (Nat × Nat)
  | 0, met, _, _ => (met, none)
  | n + 1, met, m, e => if tLv (wTr W m) (e : Nat) = true ∧ met m e = false then
      (if tLk (wTr W m) e = -1 then (mt2 met m e, some (m, e)) else if tLk (wTr W m) e < 100 then arr W n (mt2 met m e) m (tLk (wTr W m) e).toNat else arr W n (mt2 met m e) (tLk (wTr W m) e - 100).toNat e)
    else (met, none)
def arS : Option (Nat × Nat) → Int
  | none => -1
  | some (a, b) => ((100 * a + b : Nat) : Int)
/-- how many spots have not been met -/
def unM (met : Nat → Nat → Bool) : Nat := fb_ct (fun q => !met (q / 48) (q % 48)) 192
theorem unM_le (met : Nat → Nat → Bool) : unM met ≤ 192 := fb_ct_le _ _
theorem unM_s {met : Nat → Nat → Bool} {m e : Nat} (hm : m < 4) (he : e < 48) (h : met m e = false) : unM (mt2 met m e) + 1 = unM met := by
  have u := fb_ct_upd (fun q => !met (q / 48) (q % 48)) false (i := 48 * m + e) (n := 192) (by omega)
  have e1 : (!met ((48 * m + e) / 48) ((48 * m + e) % 48)) = true := by
    rw [show (48 * m + e) / 48 = m by omega, show (48 * m + e) % 48 = e by omega, h]; rfl
  simp only [e1] at u
  have e2 : unM (mt2 met m e) = fb_ct (fun q => if q = 48 * m + e then false else !met (q / 48) (q % 48)) 192 := fb_ct_cong (fun q hq => by
    show (!mt2 met m e (q / 48) (q % 48)) = _
    by_cases z : q = 48 * m + e
    · rw [if_pos z, z, show (48 * m + e) / 48 = m by omega, show (48 * m + e) % 48 = e by omega, mt2_s]; rfl
    · rw [if_neg z, mt2_o (by omega)])
  rw [e2]
  unfold unM
  simpa using u
theorem fb_ct_blk {p : Nat → Bool} {a : Nat} : ∀ k, fb_ct (fun q => decide (q / 48 = a) && p (q % 48)) (48 * k) = if a < k then fb_ct p 48 else 0
  | 0 => rfl
  | k + 1 => by
    rw [show 48 * (k + 1) = 48 * k + 48 by omega, fb_ct_split, fb_ct_blk k]
    have e : fb_ct (fun j => decide ((48 * k + j) / 48 = a) && p ((48 * k + j) % 48)) 48 = if a = k then fb_ct p 48 else 0 := by
      by_cases z : a = k
      · rw [if_pos z]
        exact fb_ct_cong (fun j hj => by
          show (decide ((48 * k + j) / 48 = a) && p ((48 * k + j) % 48)) = p j
          rw [show (48 * k + j) / 48 = k by omega, show (48 * k + j) % 48 = j by omega, decide_eq_true z.symm]; rfl)
      · rw [if_neg z]
        exact fb_ct_zero.mpr (fun j hj => by
          show (decide ((48 * k + j) / 48 = a) && p ((48 * k + j) % 48)) = false
          rw [show (48 * k + j) / 48 = k by omega, decide_eq_false (fun g => z g.symm)]; rfl)
    rw [e]
    by_cases z : a = k
    · rw [if_neg (by omega), if_pos z, if_pos (by omega)]; omega
    · by_cases z2 : a < k
      · rw [if_pos z2, if_neg z, if_pos (by omega)]; omega
      · rw [if_neg z2, if_neg z, if_neg (by omega)]
/-- children, by rising names -/
def kidL (T : sT) (p : Int) : Nat → List Nat
  | 0 => []
  | e + 1 => if (decide (1 ≤ e) && tCh T p e) = true then nIns (kidL T p e) (tRk T e) else kidL T p e
theorem kidL_ok {T : sT} (Wt : tW T) {p : Int} : ∀ i, i ≤ 48 → nSt (kidL T p i) ∧ (∀ x, x ∈ kidL T p i ↔ ∃ e, 1 ≤ e ∧ e < i ∧ tCh T p e = true ∧ x = tRk T e) ∧ (kidL T p i).length = fb_ct (fun e => decide (1 ≤ e) && tCh T p e) i
  | 0, _ => ⟨List.Pairwise.nil, fun x => ⟨fun h => absurd h List.not_mem_nil, fun ⟨e, _, h, _⟩ => by omega⟩, rfl⟩
  | i + 1, hi => by
    obtain ⟨a, b, c⟩ := kidL_ok Wt (p := p) i (by omega)
    rw [fb_ct_succ]
    show nSt (if (decide (1 ≤ i) && tCh T p i) = true then nIns (kidL T p i) (tRk T i) else kidL T p i) ∧ (∀ x, x ∈ (if (decide (1 ≤ i) && tCh T p i) = true then nIns (kidL T p i) (tRk T i) else kidL T p i) ↔ _) ∧ (if (decide (1 ≤ i) && tCh T p i) = true then nIns (kidL T p i) (tRk T i) else kidL T p i).length = _
    by_cases q : (decide (1 ≤ i) && tCh T p i) = true
    · have q2 := q
      rw [Bool.and_eq_true, decide_eq_true_eq] at q2
      rw [if_pos q, if_pos q]
      have ni : tRk T i ∉ kidL T p i := fun g => by
        obtain ⟨e, e1, e2, e3, e4⟩ := (b _).mp g
        have := tRk_inj (T := T) (show i < 48 by omega) (show e < 48 by omega) e4
        omega
      have pm := nIns_perm (kidL T p i) (tRk T i)
      refine ⟨nIns_st a ni, fun x => ?_, by rw [pm.length_eq, List.length_cons, c]⟩
      rw [pm.mem_iff, List.mem_cons, b]
      constructor
      · rintro (g | ⟨e, e1, e2, e3⟩)
        · exact ⟨i, q2.1, by omega, q2.2, g⟩
        · exact ⟨e, e1, by omega, e3⟩
      · rintro ⟨e, e1, e2, e3, e4⟩
        by_cases z : e = i
        · subst z; exact Or.inl e4
        · exact Or.inr ⟨e, e1, by omega, e3, e4⟩
    · rw [if_neg q, if_neg q]
      refine ⟨a, fun x => (b x).trans ⟨fun ⟨e, e1, e2, e3⟩ => ⟨e, e1, by omega, e3⟩, fun ⟨e, e1, e2, e3, e4⟩ => ⟨e, e1, ?_, e3, e4⟩⟩, by omega⟩
      by_cases z : e = i
      · subst z
        rw [decide_eq_true e1, e3] at q
        exact absurd rfl q
      · omega
def spt (a x : Nat) : Nat := 100 * a + x % 48
def kds (W : sW) (a b : Nat) : List Nat := (kidL (wTr W a) (b : Nat) 48).map (spt a)
/-- whether an entry at which one has arrived is found -/
def lok (W : sW) (u a b : Nat) : Bool := wFt W (wTr W a) b && tMay (wH W) (wTr W a) u (b : Nat) 0
def nxS (W : sW) (sc : Nat) (r : Option (Nat × Nat)) (st : List Nat) : List Nat := match r with
  | none => st
  | some (a, b) => if sc = 2 then kds W a b ++ st else st
def nxF (W : sW) (u : Nat) (r : Option (Nat × Nat)) (F : List Nat) : List Nat := match r with
  | none => F
  | some (a, b) => if lok W u a b = true then F ++ [100 * a + b] else F
/-- the spots that wait are taken one after the other, the first one first -/
def lpF (W : sW) (u sc : Nat) : Nat → (Nat → Nat → Bool) → List Nat → List Nat → List Nat
  | 0, _, _, F => F
  | _ + 1, _, [], F => F
  | n + 1, met, x :: st, F => lpF W u sc n (arr W 193 met (x / 100) (x % 100)).1 (nxS W sc (arr W 193 met (x / 100) (x % 100)).2 st) (nxF W u (arr W 193 met (x / 100) (x % 100)).2 F)
/-- children that can still come to wait -/
def phB (W : sW) (met : Nat → Nat → Bool) (m c : Nat) : Bool := decide (1 ≤ c) && (tLv (wTr W m) (c : Nat) && (decide (0 ≤ tPl (wTr W m) c) && !met m (tPl (wTr W m) c).toNat))
def phi (W : sW) (met : Nat → Nat → Bool) : Nat := fb_ct (fun q => phB W met (q / 48) (q % 48)) 192
theorem phi_le {W : sW} (met : Nat → Nat → Bool) : phi W met ≤ 188 := by
  have e : ∀ k, fb_ct (fun q => phB W met (q / 48) (q % 48)) (48 * k) ≤ 47 * k := fun k => by
    induction k with
    | zero => exact Nat.le_refl _
    | succ k ih =>
      rw [show 48 * (k + 1) = 48 * k + 48 by omega, fb_ct_split]
      have : fb_ct (fun j => phB W met ((48 * k + j) / 48) ((48 * k + j) % 48)) 48 ≤ 47 := by
        have z : phB W met k 0 = false := rfl
        have := fb_ct_split (fun j => phB W met ((48 * k + j) / 48) ((48 * k + j) % 48)) 1 47
        rw [show 1 + 47 = 48 from rfl] at this
        rw [this]
        have o : fb_ct (fun j => phB W met ((48 * k + j) / 48) ((48 * k + j) % 48)) 1 = 0 := fb_ct_zero.mpr (fun j hj => by
          show phB W met ((48 * k + j) / 48) ((48 * k + j) % 48) = false
          rw [show (48 * k + j) % 48 = 0 by omega]
          rfl)
        have := fb_ct_le (fun j => phB W met ((48 * k + (1 + j)) / 48) ((48 * k + (1 + j)) % 48)) 47
        omega
      omega
  have := e 4
  exact this
section FA
variable {W : sW}
theorem kds_ok (h : wOk W) (a b : Nat) : chL (wTr W a) (b : Nat) (kidL (wTr W a) (b : Nat) 48) ∧ (kds W a b).length = fb_ct (fun e => decide (1 ≤ e) && tCh (wTr W a) (b : Nat) e) 48 := by
  obtain ⟨k1, k2, k3⟩ := kidL_ok (wTr_ok h a).1 (p := (b : Nat)) 48 (Nat.le_refl _)
  refine ⟨⟨k1, by rw [k3]; exact fb_ct_le _ _, k2⟩, ?_⟩
  unfold kds
  rw [List.length_map, k3]
theorem arr_ok (h : wOk W) : ∀ (n : Nat) (met : Nat → Nat → Bool) (m e : Nat), m < 4 → e < 100 → (∀ a b, met a b = true → (arr W n met m e).1 a b = true) ∧ ∀ a b, (arr W n met m e).2 = some (a, b) → a < 4 ∧ b < 48 ∧ tLv (wTr W a) (b : Nat) = true ∧ met a b = false ∧ (arr W n met m e).1 a b = true
  | 0, met, m, e, hm, he => ⟨fun a b g => g, fun a b g => by cases g⟩
  | n + 1, met, m, e, hm, he => by
    have Wt := (wTr_ok h m).1
    unfold arr
    by_cases q : tLv (wTr W m) (e : Nat) = true ∧ met m e = false
    · have he48 : e < 48 := by have := tLv_lt q.1; omega
      have hk := Wt.2.2.2.2.1 e he48
      rw [if_pos q]
      by_cases q1 : tLk (wTr W m) e = -1
      · rw [if_pos q1]
        refine ⟨fun a b g => mt2_mono g, fun a b g => ?_⟩
        have g : some (m, e) = some (a, b) := g
        cases g
        exact ⟨hm, he48, q.1, q.2, mt2_s⟩
      · have lst : ∀ m' e', m' < 4 → e' < 100 → (∀ a b, met a b = true → (arr W n (mt2 met m e) m' e').1 a b = true) ∧ ∀ a b, (arr W n (mt2 met m e) m' e').2 = some (a, b) → a < 4 ∧ b < 48 ∧ tLv (wTr W a) (b : Nat) = true ∧ met a b = false ∧ (arr W n (mt2 met m e) m' e').1 a b = true := fun m' e' h1 h2 => by
          obtain ⟨i1, i2⟩ := arr_ok h n (mt2 met m e) m' e' h1 h2
          refine ⟨fun a b g => i1 a b (mt2_mono g), fun a b g => ?_⟩
          obtain ⟨j1, j2, j3, j4, j5⟩ := i2 a b g
          refine ⟨j1, j2, j3, ?_, j5⟩
          unfold mt2 at j4
          split at j4
          · exact Bool.noConfusion j4
          · exact j4
        rw [if_neg q1]
        by_cases q2 : tLk (wTr W m) e < 100
        · rw [if_pos q2]
          exact lst _ _ hm (by omega)
        · rw [if_neg q2]
          exact lst _ _ (by omega) (by omega)
    · rw [if_neg q]
      exact ⟨fun a b g => g, fun a b g => by cases g⟩
/-- an arrival takes its children from those that can come -/
theorem phi_arr (h : wOk W) {met met' : Nat → Nat → Bool} (h1 : ∀ a b, met a b = true → met' a b = true) : phi W met' ≤ phi W met ∧ ∀ a b, a < 4 → b < 48 → met a b = false → met' a b = true → phi W met' + (kds W a b).length ≤ phi W met := by
  have mono : ∀ m c, phB W met' m c = true → phB W met m c = true := fun m c g => by
    unfold phB at g ⊢
    rw [Bool.and_eq_true, Bool.and_eq_true, Bool.and_eq_true, Bool.not_eq_true'] at g ⊢
    refine ⟨g.1, g.2.1, g.2.2.1, ?_⟩
    rw [Bool.eq_false_iff]
    intro k
    rw [h1 _ _ k] at g
    exact Bool.noConfusion g.2.2.2
  refine ⟨fb_ct_sub (fun q _ g => mono _ _ g), fun a b ha hb k1 k2 => ?_⟩
  rw [(kds_ok h a b).2]
  have blk := fb_ct_blk (p := fun e => decide (1 ≤ e) && tCh (wTr W a) (b : Nat) e) (a := a) 4
  rw [if_pos ha] at blk
  have blk : fb_ct (fun q => decide (q / 48 = a) && (decide (1 ≤ q % 48) && tCh (wTr W a) (b : Nat) (q % 48))) 192 = _ := blk
  rw [← blk]
  unfold phi
  rw [← fb_ct_or (p := fun q => phB W met' (q / 48) (q % 48)) (q := fun q => decide (q / 48 = a) && (decide (1 ≤ q % 48) && tCh (wTr W a) (b : Nat) (q % 48))) (n := 192) (fun q hq g => ?_)]
  · refine fb_ct_sub (fun q hq g => ?_)
    rw [Bool.or_eq_true] at g
    rcases g with g | g
    · exact mono _ _ g
    · rw [Bool.and_eq_true, Bool.and_eq_true, decide_eq_true_eq] at g
      obtain ⟨g1, g2, g3⟩ := g
      unfold tCh at g3
      rw [Bool.and_eq_true, decide_eq_true_eq] at g3
      unfold phB
      rw [g1, g2, g3.1, g3.2, Int.toNat_natCast, k1, decide_eq_true (show (0 : Int) ≤ (b : Int) by omega)]; rfl
  · obtain ⟨g1, g2⟩ := g
    rw [Bool.and_eq_true, Bool.and_eq_true, decide_eq_true_eq] at g2
    obtain ⟨g3, g4, g5⟩ := g2
    unfold tCh at g5
    rw [Bool.and_eq_true, decide_eq_true_eq] at g5
    unfold phB at g1
    rw [g3, g5.2, Int.toNat_natCast, k2] at g1
    simp at g1
/-- the room that is left -/
def fJ (W : sW) (met : Nat → Nat → Bool) (st F : List Nat) : Prop := F.length + st.length + phi W met ≤ 189 ∧ (∀ s ∈ st, s / 100 < 4 ∧ s % 100 < 48) ∧ ∀ s ∈ F, s < 400
theorem kds_mem (h : wOk W) {a b s : Nat} (ha : a < 4) (hs : s ∈ kds W a b) : s / 100 < 4 ∧ s % 100 < 48 := by
  unfold kds at hs
  obtain ⟨x, -, h2⟩ := List.mem_map.mp hs
  unfold spt at h2
  omega
theorem fJ_step (h : wOk W) {u sc : Nat} {met : Nat → Nat → Bool} {x : Nat} {st F : List Nat} (J : fJ W met (x :: st) F) : fJ W (arr W 193 met (x / 100) (x % 100)).1 (nxS W sc (arr W 193 met (x / 100) (x % 100)).2 st) (nxF W u (arr W 193 met (x / 100) (x % 100)).2 F) ∧ (nxS W sc (arr W 193 met (x / 100) (x % 100)).2 st).length + phi W (arr W 193 met (x / 100) (x % 100)).1 + 1 ≤ (x :: st).length + phi W met := by
  obtain ⟨j1, j2, j3⟩ := J
  obtain ⟨hx1, hx2⟩ := j2 x List.mem_cons_self
  obtain ⟨a1, a2⟩ := arr_ok h 193 met (x / 100) (x % 100) hx1 (by omega)
  obtain ⟨p1, p2⟩ := phi_arr h a1
  generalize arr W 193 met (x / 100) (x % 100) = r at *
  obtain ⟨met', o⟩ := r
  rw [List.length_cons] at j1 ⊢
  have j2' : ∀ s ∈ st, s / 100 < 4 ∧ s % 100 < 48 := fun s hs => j2 s (List.mem_cons_of_mem _ hs)
  cases o with
  | none =>
    have p1 : phi W met' ≤ phi W met := p1
    exact ⟨⟨by show F.length + st.length + phi W met' ≤ 189; omega, j2', j3⟩, by show st.length + phi W met' + 1 ≤ _; omega⟩
  | some ab =>
    obtain ⟨a, b⟩ := ab
    obtain ⟨b1, b2, b3, b4, b5⟩ := a2 a b rfl
    have q := p2 a b b1 b2 b4 b5
    have q : phi W met' + (kds W a b).length ≤ phi W met := q
    have lF : (nxF W u (some (a, b)) F).length ≤ F.length + 1 := by
      show (if lok W u a b = true then F ++ [100 * a + b] else F).length ≤ _
      split
      · rw [List.length_append, List.length_singleton]; omega
      · omega
    have lS : (nxS W sc (some (a, b)) st).length ≤ (kds W a b).length + st.length := by
      show (if sc = 2 then kds W a b ++ st else st).length ≤ _
      split
      · rw [List.length_append]; omega
      · omega
    refine ⟨⟨by show (nxF W u (some (a, b)) F).length + (nxS W sc (some (a, b)) st).length + phi W met' ≤ 189; omega, fun s hs => ?_, fun s hs => ?_⟩, by show (nxS W sc (some (a, b)) st).length + phi W met' + 1 ≤ _; omega⟩
    · have hs : s ∈ (if sc = 2 then kds W a b ++ st else st) := hs
      split at hs
      · rcases List.mem_append.mp hs with g | g
        · exact kds_mem h b1 g
        · exact j2' s g
      · exact j2' s hs
    · have hs : s ∈ (if lok W u a b = true then F ++ [100 * a + b] else F) := hs
      split at hs
      · rcases List.mem_append.mp hs with g | g
        · exact j3 s g
        · rw [List.mem_singleton] at g; omega
      · exact j3 s hs
theorem lpF_ok (h : wOk W) {u sc : Nat} : ∀ (n : Nat) (met : Nat → Nat → Bool) (st F : List Nat), fJ W met st F → (lpF W u sc n met st F).length ≤ 192 ∧ ∀ s ∈ lpF W u sc n met st F, s < 400
  | 0, met, st, F, J => ⟨by show F.length ≤ 192; have := J.1; omega, J.2.2⟩
  | n + 1, met, [], F, J => ⟨by show F.length ≤ 192; have := J.1; omega, J.2.2⟩
  | n + 1, met, x :: st, F, J => lpF_ok h n _ _ _ (fJ_step h J).1
end FA
