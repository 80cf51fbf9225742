-- LEVEL 2: ON EVERY SCRIPT BOTH ANSWER ALIKE
def gInv (Z : gZ) : Prop := ∃ W, wOk W ∧ kRel Z.1 W ∧ mRel Z.2.1 W
def H0 : sH := (0, fun _ => false, fun _ => false, 0, fun _ => -1, fun _ => 0, fun _ => 0)
def W00 : sW := wMk H0 [] [] [] (fun _ => (0, 0, 0, 0, 0, [], 0, 0, 0)) 0 [] (fun _ _ _ => 0) (fun _ _ => false) (fun _ => 0) 1 []
theorem n0 {P : Prop} {k : Nat} (h : k < 0) : P := absurd h (Nat.not_lt_zero _)
theorem lb1_0 : ∀ i, i < 64 → lb 1 i = (decide (i < 48) && decide (i = 0)) := by decide +kernel
theorem wOk_0 : wOk W00 := by
  refine ⟨⟨Nat.zero_le _, Nat.zero_le _, fun k hk => n0 hk, fun _ _ => ⟨rfl, rfl⟩⟩, ⟨Nat.zero_le _, fun x hx => absurd hx List.not_mem_nil⟩, ⟨Nat.zero_le _, Nat.zero_le _, fun k hk => absurd hk List.not_mem_nil, fun i hi => n0 hi, ⟨fun _ => [], fun _ => Nat.zero_le _, rfl, rfl, fun i hi => n0 hi⟩⟩, ⟨Nat.zero_le _, rfl, fun k => ⟨fun g => absurd g List.not_mem_nil, fun g => n0 g⟩, ⟨fun _ => 0, List.Pairwise.nil, fun k hk => absurd hk List.not_mem_nil⟩, Nat.zero_le _, fun k hk => n0 hk, fun k q hk => n0 hk, fun k hk => n0 hk, fun k hk => n0 hk, fun k q _ hq => n0 hq⟩, fun m i j _ _ _ => ⟨Nat.le_refl _, Nat.zero_le _, rfl⟩, fun m _ => show (0 : Nat) < 6 by omega, ⟨Nat.le_refl _, show (1 : Nat) ≤ 48 by omega⟩, ⟨Nat.zero_le _, fun s hs => absurd hs List.not_mem_nil⟩, fun k hk => n0 hk⟩
theorem tR_0 : ∀ m, m < 4 → tR kS0 m tNew := by
  intro m hm
  have z : m = 0 ∨ m = 1 ∨ m = 2 ∨ m = 3 := by omega
  rcases z with rfl | rfl | rfl | rfl <;> exact ⟨fun _ _ => rfl, fun _ _ => rfl, fun _ _ => rfl, fun _ _ => rfl, fun _ _ _ => rfl, lb1_0, fun i _ => (lb_0 i).trans (Bool.and_false _).symm, fun e c r s _ _ _ _ => ⟨lb_0 _, lb_0 _⟩, fun k i _ _ _ => ⟨lb_0 _, lb_0 _⟩, [], [], ⟨rfl, fun i h => n0 h, List.Pairwise.nil, fun x h => absurd h List.not_mem_nil, Nat.zero_le _⟩, ⟨rfl, fun i h => n0 h, List.Pairwise.nil, fun x h => absurd h List.not_mem_nil, Nat.zero_le _⟩, List.Perm.nil, List.Perm.nil⟩
theorem kRel_00 : kRel kS0 W00 := by
  refine ⟨⟨rfl, rfl, fun a _ => ib_0 a, fun a _ => ib_0 a, fun k hk => n0 hk, fun k hk => n0 hk, fun k hk => n0 hk⟩, ⟨rfl, fun i hi => n0 hi⟩, ⟨rfl, rfl, fun i hi => n0 hi⟩, ⟨rfl, fun k hk => n0 hk⟩, ⟨⟨rfl, Or.inl rfl, Nat.zero_le _, fun i hi => n0 hi, fun i k g => by cases g⟩, fun k j g => by cases g⟩, fun m hm => ⟨?_, fun i j _ _ => ⟨?_, Nat.zero_le _⟩⟩, fun m hm => ?_, fun m hm => ?_, fun m e hm _ => ?_, rfl, fun m hm => tR_0 m hm, rfl, ⟨rfl, fun i hi => n0 hi⟩⟩
  · have z : m = 0 ∨ m = 1 ∨ m = 2 ∨ m = 3 := by omega
    rcases z with rfl | rfl | rfl | rfl <;> rfl
  · have z : m = 0 ∨ m = 1 ∨ m = 2 ∨ m = 3 := by omega
    rcases z with rfl | rfl | rfl | rfl <;> rfl
  · have z : m = 0 ∨ m = 1 ∨ m = 2 ∨ m = 3 := by omega
    rcases z with rfl | rfl | rfl | rfl <;> rfl
  · have z : m = 0 ∨ m = 1 ∨ m = 2 ∨ m = 3 := by omega
    rcases z with rfl | rfl | rfl | rfl <;> rfl
  · have z : m = 0 ∨ m = 1 ∨ m = 2 ∨ m = 3 := by omega
    rcases z with rfl | rfl | rfl | rfl <;> exact (lb_0 e).trans (Bool.and_false _).symm
theorem mRel_00 : mRel mS0 W00 := by
  refine ⟨⟨rfl, rfl, fun a _ => rfl, fun a _ => rfl, fun k hk => n0 hk, fun k hk => n0 hk, fun k hk => n0 hk⟩, ⟨rfl, fun i hi => n0 hi⟩, ⟨rfl, rfl, fun i hi => n0 hi, fun i hi => n0 hi⟩, ⟨rfl, Nat.zero_le _, fun k hk => n0 hk⟩, fun i hi => n0 hi, fun m i j _ _ _ => ⟨rfl, Nat.zero_le _⟩, fun m _ => rfl, fun m e _ _ => rfl, rfl, Or.inl rfl, ⟨rfl, fun i hi => n0 hi⟩, ⟨0, rfl, Nat.zero_le _, fun k hk => n0 hk⟩⟩
theorem gInv_0 : gInv gZ0 := ⟨W00, wOk_0, kRel_00, mRel_00⟩
section PU
variable {N : Nat} {a b c : Nat} {A : Option ((Int32 ⊕ Nat) × kS)} {B : Option (Int32 × mS)}
theorem pu_c {zb : Int32 → Int64} {e : Nat → Option Int32} {F : Nat → Int64} (O : opOk a b c A B) (he : ∀ (k : Nat) (t : Int32), (∃ S', A = some (.inr k, S')) → (k = a ∧ t = 1) ∨ (k = b ∧ t = 2) ∨ (k = c ∧ t = 3) → e k = some t) : ∃ Z', gCmp zb (lPg zb e A F) B = some Z' ∧ gInv Z' := by
  obtain ⟨o, S', v, M', W', rfl, rfl, ag, h1, h2, h3⟩ := O
  cases o with
  | inl u =>
    obtain ⟨t0, rfl⟩ := ag
    refine ⟨(S', M', vp_updL F 0 (zb u)), ?_, W', h1, h2, h3⟩
    show (if M'.1 0 = 0 ∧ ((0 : Int32) = 0 → vp_updL F 0 (zb u) 0 = zb u) then some (S', M', vp_updL F 0 (zb u)) else none) = _
    rw [if_pos ⟨t0, fun _ => if_pos rfl⟩]
  | inr k =>
    have ek := he k (M'.1 0) ⟨S', rfl⟩ ag
    refine ⟨(S', M', F), ?_, W', h1, h2, h3⟩
    have e1 : lPg zb e (some (.inr k, S')) F = some (M'.1 0, S', F) := by
      unfold lPg
      simp only [ek]
    rw [e1]
    show (if M'.1 0 = M'.1 0 ∧ (M'.1 0 = 0 → F 0 = zb v) then some (S', M', F) else none) = _
    have nz : M'.1 0 ≠ 0 := by
      rcases ag with ⟨-, g⟩ | ⟨-, g⟩ | ⟨-, g⟩ <;> rw [g] <;> decide
    rw [if_pos ⟨rfl, fun g => absurd g nz⟩]
theorem pu_2 {A : Option (Int32 × kS)} {F : Nat → Int64} (O : opOk2 A B) : ∃ Z', gCmp2 A B F = some Z' ∧ gInv Z' := by
  obtain ⟨v, S', M', W', rfl, rfl, h1, h2, h3⟩ := O
  refine ⟨(S', M', F), ?_, W', h1, h2, h3⟩
  show (if v = v then some (S', M', F) else none) = _
  rw [if_pos rfl]
theorem pu_3 {zb : Int32 → Int64} {F : Nat → Int64} (O : opOk 1 2 3 A B) : ∃ Z', gCmp zb (lPg zb (lE3 1 2 3) A F) B = some Z' ∧ gInv Z' := pu_c O (fun k t _ h => by
  rcases h with ⟨rfl, rfl⟩ | ⟨rfl, rfl⟩ | ⟨rfl, rfl⟩ <;> rfl)
theorem pu_13 {zb : Int32 → Int64} {F : Nat → Int64} (O : opOk 1 3 0 A B) (z : nz A) : ∃ Z', gCmp zb (lPg zb (lE2 1 3) A F) B = some Z' ∧ gInv Z' := pu_c O (fun k t ⟨S', hA⟩ h => by
  rcases h with ⟨rfl, rfl⟩ | ⟨rfl, rfl⟩ | ⟨rfl, rfl⟩
  · rfl
  · rfl
  · exact absurd hA (z S'))
theorem pu_12 {zb : Int32 → Int64} {F : Nat → Int64} (O : opOk 1 2 0 A B) (z : nz A) : ∃ Z', gCmp zb (lPg zb (lE2 1 2) A F) B = some Z' ∧ gInv Z' := pu_c O (fun k t ⟨S', hA⟩ h => by
  rcases h with ⟨rfl, rfl⟩ | ⟨rfl, rfl⟩ | ⟨rfl, rfl⟩
  · rfl
  · rfl
  · exact absurd hA (z S'))
theorem pu_1 {zb : Int32 → Int64} {F : Nat → Int64} (O : opOk 1 0 0 A B) (z : nz A) : ∃ Z', gCmp zb (lPg zb (lE1 1) A F) B = some Z' ∧ gInv Z' := pu_c O (fun k t ⟨S', hA⟩ h => by
  rcases h with ⟨rfl, rfl⟩ | ⟨rfl, rfl⟩ | ⟨rfl, rfl⟩
  · rfl
  · exact absurd hA (z S')
  · exact absurd hA (z S'))
theorem pu_33 {zb : Int32 → Int64} {F : Nat → Int64} (O : opOk 3 0 0 A B) (z : nz A) : ∃ Z', gCmp zb (lPg zb (lE1 3) A F) B = some Z' ∧ gInv Z' := pu_c O (fun k t ⟨S', hA⟩ h => by
  rcases h with ⟨rfl, rfl⟩ | ⟨rfl, rfl⟩ | ⟨rfl, rfl⟩
  · rfl
  · exact absurd hA (z S')
  · exact absurd hA (z S'))
theorem gB_z (x : Int32) : gB x = zB (!decide (x = 0)) := by
  unfold gB
  by_cases z : x = 0
  · rw [if_pos z, decide_eq_true z]; rfl
  · rw [if_neg z, decide_eq_false z]; rfl
theorem pu_op (hN : 20000 ≤ N) {w : Nat → Int32} {Z : gZ} (I : gInv Z) : ∀ j, ∃ Z', gOp N j w Z = some Z' ∧ gInv Z' := by
  obtain ⟨W, h, K, R⟩ := I
  intro j
  match j with
  | 0 =>
    show ∃ Z', gCmp lZi (lPg lZi (lE1 3) (pX9_attribute N (gB (w 1)) (gB (w 2)) Z.1) Z.2.2) (pf_attribute N (gB (w 1)) (gB (w 2)) Z.2.1) = some Z' ∧ gInv Z'
    rw [gB_z, gB_z]
    exact pu_33 (op_attribute h K R _ _) nz_pX9_attribute
  | 1 => exact pu_13 (op_objectClass h K R _ _ _) nz_pX9_objectClass
  | 2 => exact pu_1 (op_serve h K R _ _) nz_pX9_serve
  | 3 => exact pu_3 (op_draft h K R _ _)
  | 4 => exact pu_2 (op_undraft (N := N) h K R)
  | 5 => exact pu_3 (op_add hN h K R _ _ _ _)
  | 6 => exact pu_3 (op_addValue hN h K R _ _ _ _)
  | 7 => exact pu_3 (op_removeValue hN h K R _ _ _ _)
  | 8 => exact pu_3 (op_replace hN h K R _ _ _ _)
  | 9 => exact pu_3 (op_rename hN h K R _ _ _)
  | 10 => exact pu_13 (op_move hN h K R _ _ _) nz_pX9_move
  | 11 => exact pu_13 (op_delete hN h K R _ _) nz_pX9_delete
  | 12 => exact pu_13 (op_link hN h K R _ _ _) nz_pX9_link
  | 13 => exact pu_3 (op_rule hN h K R _ _ _ _ _ _)
  | 14 => exact pu_12 (op_exchange hN h K R _ _ _) nz_pX9_exchange
  | 15 => exact pu_1 (op_sweep hN h K R _) nz_pX9_sweep
  | 16 => exact pu_3 (op_equal h K R _ _)
  | 17 => exact pu_3 (op_atLeast h K R _ _)
  | 18 => exact pu_13 (op_has h K R _) nz_pX9_has
  | 19 => exact pu_13 (op_ofClass h K R _) nz_pX9_ofClass
  | 20 => exact pu_33 (op_combine h K R _) nz_pX9_combine
  | 21 => exact pu_33 (op_not h K R) nz_pX9_not
  | 22 => exact pu_2 (op_wipe (N := N) h K R)
  | 23 => exact pu_13 (op_search hN h K R _ _ _) nz_pX9_search
  | 24 => exact pu_13 (op_searchByWalk hN h K R _ _ _) nz_pX9_searchByWalk
  | 25 => exact pu_13 (op_follow hN h K R _ _ _) nz_pX9_follow
  | 26 => exact pu_1 (op_found h K R _) nz_pX9_found
  | 27 => exact pu_1 (op_live hN h K R _) nz_pX9_live
  | 28 => exact pu_1 (op_parentOf hN h K R _ _) nz_pX9_parentOf
  | 29 => exact pu_1 (op_parentAnew hN h K R _ _) nz_pX9_parentAnew
  | 30 => exact pu_1 (op_nameOf hN h K R _ _) nz_pX9_nameOf
  | 31 => exact pu_1 (op_valueAt hN h K R _ _ _ _) nz_pX9_valueAt
  | 32 => exact pu_1 (op_valuesAnew hN h K R _ _ _) nz_pX9_valuesAnew
  | 33 => exact pu_1 (op_linkOf hN h K R _ _) nz_pX9_linkOf
  | 34 => exact pu_1 (op_may hN h K R _ _ _ _) nz_pX9_may
  | 35 => exact pu_1 (op_childAt hN h K R _ _ _) nz_pX9_childAt
  | 36 => exact pu_1 (op_conflicts hN h K R _ _) nz_pX9_conflicts
  | 37 => exact pu_1 (op_knows h K R _ _) nz_pX9_knows
  | 38 => exact pu_1 (op_marks hN h K R _) nz_pX9_marks
  | 39 => exact pu_1 (op_areAlike hN h K R _ _) nz_pX9_areAlike
  | n + 40 => exact ⟨Z, rfl, W, h, K, R⟩
theorem pu_go (hN : 20000 ≤ N) {xs : Nat → Int32} : ∀ (n i : Nat) (Z : gZ), gInv Z → ∃ Z', gGo N xs n i Z = some Z'
  | 0, _, Z, _ => ⟨Z, rfl⟩
  | n + 1, i, Z, I => by
    obtain ⟨Z1, e1, I1⟩ := pu_op (N := N) hN (w := fun k => xs (i + k)) I ((fun k => xs (i + k)) 0 &&& 63).toNatClampNeg
    obtain ⟨Z2, e2⟩ := pu_go hN n (i + 7) Z1 I1
    refine ⟨Z2, ?_⟩
    have e1 : gStep N (fun k => xs (i + k)) Z = some Z1 := e1
    unfold gGo
    simp only [e1]
    exact e2
end PU
theorem hpure (xs : Nat → Int32) (n : Nat) (_ : n ≤ 512) : ∃ (N : Nat) (Z' : gZ), gGo N xs n 0 gZ0 = some Z' := by
  obtain ⟨Z, e⟩ := pu_go (N := 20000) (Nat.le_refl _) (xs := xs) n 0 gZ0 gInv_0
  exact ⟨20000, Z, e⟩
