-- LEVEL 2, THE LOG
def kpOk (p : Nat) : Prop := p = 0 ∨ p = 10 ∨ p = 15 ∨ p = 22 ∨ p = 33 ∨ p = 49 ∨ p = 73 ∨ p = 109 ∨ p = 163 ∨ p = 244 ∨ p = 366
/-- what the log holds -/
def lgR (S : kS) (o : List Nat) : Prop := kI S 12 = zI (o.length : Nat) ∧ kpOk (kp S) ∧ o.length ≤ kp S ∧ (∀ (i : Nat) (h : i < o.length), kE S i = some o[i]) ∧ (∀ i k, kE S i = some k → k < kn S)
/-- nothing but the log was written -/
def frG (S S' : kS) : Prop := (∀ q, q ≠ 11 → q ≠ 12 → kI S' q = kI S q) ∧ kL S' = kL S ∧ kA S' = kA S ∧ kJ S' = kJ S ∧ kn S' = kn S ∧ kF S' = kF S ∧ kC S' = kC S ∧ km S' = km S ∧ kl S' = kl S ∧ kx S' = kx S
theorem kpOk.le {p : Nat} (h : kpOk p) : p ≤ 366 := by unfold kpOk at h; omega
theorem q_logGet {N : Nat} {S : kS} {o : List Nat} (R : lgR S o) {i : Nat} (hi : i < o.length) : pLog_get N (zI (i : Nat)) S = some (o[i], S) := by
  obtain ⟨r1, r2, r3, r4, r5⟩ := R
  have hp := r2.le
  have e1 : pLog_ed (zI (i : Nat)) S = some (o[i], S) := by
    unfold pLog_ed gE
    rw [zI_cn (by omega), if_neg (by
      rw [zL_0, zI_lt (by omega) (by omega) (by omega) (by omega)]; omega), r4 i hi]
  simp only [pLog_get, pChk]
  rw [zL_0, il_lt (by omega) (by omega) (by omega) (by omega), if_neg (by omega), r1, il_lt (by omega) (by omega) (by omega) (by omega), if_pos (by omega), bk_i, bk_i, e1, bk_i]
theorem q_logSize {N : Nat} {S : kS} {o : List Nat} (R : lgR S o) : pLog_size N S = some (zI (o.length : Nat), S) := by
  unfold pLog_size
  rw [R.1]
theorem lgR_fr {S S' : kS} {o : List Nat} (h1 : kI S' 12 = kI S 12) (h2 : S'.2.2.2.2 = S.2.2.2.2) (R : lgR S o) : lgR S' o := by
  obtain ⟨e1, e2, e3, e4, e5, e6, e7, e8⟩ := kD_eq h2
  unfold lgR at *
  rw [h1, e1, e7, e8]
  exact R
theorem kp_shr : ∀ p : Nat, p ≤ 400 → (zI ((p : Nat) : Int) >>> (zI 1 &&& 31)) = zI ((p / 2 : Nat) : Int) := by decide +kernel
theorem gP_p {γ : Type} {P : Prop} {K : Option γ} (h : P) : gP P K = K := by unfold gP; exact if_pos h
/-- the row grows -/
theorem q_grow {S : kS} {o : List Nat} (R : lgR S o) (h : o.length = kp S) (hl : o.length < 250) : ∃ n, pGrow0 S = some (.inl (), nE S n) ∧ kpOk n ∧ o.length < n := by
  obtain ⟨r1, r2, r3, r4, r5⟩ := R
  have hp := r2.le
  simp only [pGrow0, pGrow]
  rw [r1, zL_1, zI_add]
  have hk : ∀ n, kp S ≤ n → n ≤ 366 → n ≠ 0 → kOkE S n := fun n h1 h2 h3 => ⟨h1, h2, h3, fun i _ k hk => r5 i k hk⟩
  by_cases h0 : kp S = 0
  · have ho : o.length = 0 := by omega
    rw [h0, ho, if_neg (by decide)]
    have e : (if (10 : Int32) < zI (((0 : Nat) : Int) + 1) then zI (((0 : Nat) : Int) + 1) else 10) = 10 := by decide
    rw [e, gP_p ⟨rfl, by decide, hk _ (by rw [h0]; exact Nat.zero_le _) (by decide) (by decide)⟩, bx_l]
    exact ⟨10, rfl, Or.inr (Or.inl rfl), by omega⟩
  · have hm : (kp S + kp S / 2) ≤ 366 ∧ kpOk (kp S + kp S / 2) := by
      unfold kpOk at r2 ⊢
      omega
    have h10 : 10 ≤ kp S := by unfold kpOk at r2; omega
    rw [zL, if_pos (by rw [zL_0, zI_lt (by omega) (by omega) (by omega) (by omega)]; omega), kp_shr _ (by omega)]
    simp only [pNewLen, nm_i]
    have e2 : (if zI ((o.length : Nat) + 1 - (kp S : Int)) < zI ((kp S / 2 : Nat) : Int) then zI ((kp S / 2 : Nat) : Int) else zI ((o.length : Nat) + 1 - (kp S : Int))) = zI ((kp S / 2 : Nat) : Int) := by
      rw [il_lt (by omega) (by omega) (by omega) (by omega), if_pos (by omega)]
    rw [zI_sub, e2, zI_add, show (kp S : Int) + ((kp S / 2 : Nat) : Int) = ((kp S + kp S / 2 : Nat) : Int) by omega, zL_0, il_le (by omega) (by omega) (by omega) (by omega), if_neg (by omega), show (2147483639 : Int32) = zI 2147483639 from rfl, il_lt (by omega) (by omega) (by omega) (by omega), if_neg (by omega), bk_i, zI_cn (by omega),
      gP_p ⟨h0, by rw [zI_lt (by omega) (by omega) (by omega) (by omega)]; omega, hk _ (by omega) (by omega) (by omega)⟩, bx_l]
    exact ⟨_, rfl, hm.2, by omega⟩
theorem frG_nE {S : kS} {n : Nat} : frG S (nE S n) := ⟨fun _ _ _ => rfl, rfl, rfl, rfl, rfl, rfl, rfl, rfl, rfl, rfl⟩
theorem frG.trans {S S' S2 : kS} (h : frG S S') (h2 : frG S' S2) : frG S S2 :=
  ⟨fun q a b => (h2.1 q a b).trans (h.1 q a b), h2.2.1.trans h.2.1, h2.2.2.1.trans h.2.2.1, h2.2.2.2.1.trans h.2.2.2.1, h2.2.2.2.2.1.trans h.2.2.2.2.1, h2.2.2.2.2.2.1.trans h.2.2.2.2.2.1, h2.2.2.2.2.2.2.1.trans h.2.2.2.2.2.2.1, h2.2.2.2.2.2.2.2.1.trans h.2.2.2.2.2.2.2.1, h2.2.2.2.2.2.2.2.2.1.trans h.2.2.2.2.2.2.2.2.1, h2.2.2.2.2.2.2.2.2.2.trans h.2.2.2.2.2.2.2.2.2⟩
theorem cRS_G {S S' : kS} {k : Nat} {c : sCh} (h : frG S S') (R : cRS S k c) : cRS S' k c := by
  obtain ⟨-, -, -, -, e1, e2, e3, e4, e5, e6⟩ := h
  unfold cRS at *
  rw [e1, e2, e3, e4, e5, e6]
  exact R
/-- a change comes to a place -/
theorem q_logAdd38 {S : kS} {o : List Nat} (R : lgR S o) (hlt : o.length < kp S) {i k : Nat} (hi : i ≤ o.length) (hk : k < kn S) : ∃ S', pLog_add_38 (zI (i : Nat)) (zI (o.length : Nat)) k S = some (.inl (), S') ∧ lgR S' (o.take i ++ k :: o.drop i) ∧ frG S S' := by
  obtain ⟨r1, r2, r3, r4, r5⟩ := R
  have hp := r2.le
  unfold pLog_add_38
  have ok : kOkA S (zI (i : Nat)) (zI (o.length : Nat)) k := by
    unfold kOkA
    rw [zL_0, zL_1]
    simp only [zI_add, zI_sub]
    rw [zI_lt (by omega) (by omega) (by omega) (by omega), zI_lt (by omega) (by omega) (by omega) (by omega), zI_lt (by omega) (by omega) (by omega) (by omega), zI_cn (by omega), zI_clamp (by omega) (by omega), zI_clamp (by omega) (by omega)]
    exact ⟨by omega, by omega, by omega, by omega, by omega, by omega, by omega, hk, fun j _ q hq => r5 _ q hq⟩
  rw [gP_p ok]
  simp only [svk_i]
  rw [zL_1]
  simp only [zI_add, zI_sub]
  refine ⟨_, rfl, ⟨?_, r2, ?_, fun j hj => ?_, fun j q hq => ?_⟩, ⟨fun q h1 h2 => ?_, rfl, rfl, rfl, rfl, rfl, rfl, rfl, rfl, rfl⟩⟩
  · rw [kI_sI, upd_s, List.length_append, List.length_take, List.length_cons, List.length_drop]
    congr 1
    omega
  · show (o.take i ++ k :: o.drop i).length ≤ kp S
    rw [List.length_append, List.length_take, List.length_cons, List.length_drop]
    omega
  · rw [List.length_append, List.length_take, List.length_cons, List.length_drop] at hj
    show va_up (va_cpy (kE S) (kE S) _ _ _) _ (some k) j = _
    rw [zI_cn (by omega), zI_clamp (by omega) (by omega), zI_clamp (by omega) (by omega)]
    unfold va_up va_cpy
    by_cases g1 : j < i
    · rw [if_neg (by omega), if_neg (by omega), r4 j (by omega), List.getElem_append_left (by rw [List.length_take]; omega), List.getElem_take]
    · by_cases g2 : j = i
      · subst g2
        rw [if_pos rfl, List.getElem_append_right (by rw [List.length_take]; omega)]
        congr 1
        simp only [List.length_take, Nat.min_eq_left hi, Nat.sub_self, List.getElem_cons_zero]
      · rw [if_neg (by omega), if_pos (by omega), show i + (j - ((i : Int) + 1).toNat) = j - 1 by omega, r4 (j - 1) (by omega), List.getElem_append_right (by rw [List.length_take]; omega)]
        congr 1
        have e : j - (o.take i).length = (j - 1 - i) + 1 := by rw [List.length_take]; omega
        simp only [e, List.getElem_cons_succ, List.getElem_drop]
        congr 1
        omega
  · have hq : va_up (va_cpy (kE S) (kE S) _ _ _) _ (some k) j = some q := hq
    show q < kn S
    unfold va_up va_cpy at hq
    split at hq
    · exact Option.some.inj hq ▸ hk
    · split at hq
      · exact r5 _ _ hq
      · exact r5 _ _ hq
  · rw [kI_sI, upd_o _ _ h2]
    rfl
theorem q_logAdd {S : kS} {o : List Nat} (R : lgR S o) (hl : o.length < 250) {i k : Nat} (hi : i ≤ o.length) (hk : k < kn S) : ∃ S', pLog_add (zI (i : Nat)) k S = some (.inl (), S') ∧ lgR S' (o.take i ++ k :: o.drop i) ∧ frG S S' := by
  have hp := R.2.1.le
  have f0 : frG S (sI S 11 (kI S 11 + 1)) := ⟨fun q h1 _ => upd_o _ _ h1, rfl, rfl, rfl, rfl, rfl, rfl, rfl, rfl, rfl⟩
  have R0 : lgR (sI S 11 (kI S 11 + 1)) o := lgR_fr (by rw [kI_sI, upd_o _ _ (by omega)]) rfl R
  have rng : pLog_rng (zI (i : Nat)) S = some ((), S) := by
    unfold pLog_rng
    rw [R.1, il_lt (by omega) (by omega) (by omega) (by omega), if_neg (by omega), zL_0, il_le (by omega) (by omega) (by omega) (by omega), if_pos (by omega)]
  simp only [pLog_add]
  rw [rng, bk_i, svk_i, gP_p (show k < kn (sI S 11 (kI S 11 + 1)) from hk), R0.1, zL, il_eq (by omega) (by omega) (by have : kp (sI S 11 (kI S 11 + 1)) = kp S := rfl; omega) (by have : kp (sI S 11 (kI S 11 + 1)) = kp S := rfl; omega), show kp (sI S 11 (kI S 11 + 1)) = kp S from rfl]
  by_cases g : o.length = kp S
  · rw [if_pos (show (o.length : Int) = (kp S : Int) by omega)]
    obtain ⟨n, e1, n1, n2⟩ := q_grow R0 g hl
    rw [e1, bx_l]
    obtain ⟨q1, q2, q3, q4, q5⟩ := R0
    obtain ⟨S', e2, R2, f2⟩ := q_logAdd38 (S := nE (sI S 11 (kI S 11 + 1)) n) (o := o) ⟨q1, n1, by show o.length ≤ n; omega, fun j hj => by
      show (if j < kp S then kE S j else none) = _
      rw [if_pos (by omega)]; exact q4 j hj, fun j q hq => by
      have hq : (if j < kp S then kE S j else none) = some q := hq
      split at hq
      · exact q5 j q hq
      · cases hq⟩ n2 hi hk
    exact ⟨S', e2, R2, (f0.trans frG_nE).trans f2⟩
  · rw [if_neg (show ¬ (o.length : Int) = (kp S : Int) by omega)]
    have h3 := R.2.2.1
    obtain ⟨S', e2, R2, f2⟩ := q_logAdd38 R0 (show o.length < kp S by omega) hi hk
    exact ⟨S', e2, R2, f0.trans f2⟩

