-- LEVEL 2: ON EVERY SCRIPT BOTH ANSWER ALIKE
def H0 : sH := (0, fun _ => false, fun _ => false, 0, fun _ => -1, fun _ => 0, fun _ => 0)
def W00 : sW := wMk H0 [] [] [] (fun _ => (0, 0, 0, 0, 0, [], 0, 0, 0)) 0 [] (fun _ _ _ => 0) (fun _ _ => false) (fun _ => 0) 1 []
theorem n0 {P : Prop} {k : Nat} (h : k < 0) : P := absurd h (Nat.not_lt_zero _)
theorem lb1_0 : ∀ i, i < 64 → lb 1 i = (decide (i < 48) && decide (i = 0)) := by decide +kernel
theorem wOk_0 : wOk W00 := by
  refine ⟨⟨Nat.zero_le _, Nat.zero_le _, fun k hk => n0 hk, fun _ _ => ⟨rfl, rfl⟩⟩, ⟨Nat.zero_le _, fun x hx => absurd hx List.not_mem_nil⟩, ⟨Nat.zero_le _, Nat.zero_le _, fun k hk => absurd hk List.not_mem_nil, fun i hi => n0 hi, ⟨fun _ => [], fun _ => Nat.zero_le _, rfl, rfl, fun i hi => n0 hi⟩⟩, ⟨Nat.zero_le _, rfl, fun k => ⟨fun g => absurd g List.not_mem_nil, fun g => n0 g⟩, ⟨fun _ => 0, List.Pairwise.nil, fun k hk => absurd hk List.not_mem_nil⟩, Nat.zero_le _, fun k hk => n0 hk, fun k q hk => n0 hk, fun k hk => n0 hk, fun k hk => n0 hk, fun k q _ hq => n0 hq⟩, fun m i j _ _ _ => ⟨Nat.le_refl _, Nat.zero_le _, rfl⟩, fun m _ => show (0 : Nat) < 6 by omega, ⟨Nat.le_refl _, show (1 : Nat) ≤ 48 by omega⟩, ⟨Nat.zero_le _, fun s hs => absurd hs List.not_mem_nil⟩, fun k hk => n0 hk⟩
theorem tR_0 : ∀ m, m < 4 → tR kS0 m tNew := by
  intro m hm
  have z : m = 0 ∨ m = 1 ∨ m = 2 ∨ m = 3 := by omega
  rcases z with rfl | rfl | rfl | rfl <;> exact ⟨fun _ _ => rfl, fun _ _ => rfl, fun _ _ => rfl, fun _ _ => rfl, fun _ _ _ => rfl, lb1_0, fun i _ => (lb_0 i).trans (Bool.and_false _).symm, fun e c r s _ _ _ _ => ⟨lb_0 _, lb_0 _⟩, fun k i _ _ _ => ⟨lb_0 _, lb_0 _⟩, [], [], ⟨rfl, fun i h => n0 h, List.Pairwise.nil, fun x h => absurd h List.not_mem_nil, Nat.zero_le _⟩, ⟨rfl, fun i h => n0 h, List.Pairwise.nil, fun x h => absurd h List.not_mem_nil, Nat.zero_le _⟩, List.Perm.nil, List.Perm.nil⟩
theorem kRel_00 : kRel kS0 W00 := by
  refine ⟨⟨rfl, rfl, fun a _ => ib_0 a, fun a _ => ib_0 a, fun k hk => n0 hk, fun k hk => n0 hk, fun k hk => n0 hk⟩, ⟨rfl, fun i hi => n0 hi⟩, ⟨rfl, rfl, fun i hi => n0 hi⟩, ⟨rfl, fun k hk => n0 hk⟩, ⟨⟨rfl, Or.inl rfl, Nat.zero_le _, fun i hi => n0 hi, fun i k g => by cases g⟩, fun k j g => by cases g⟩, fun m hm => ⟨?_, fun i j _ _ => ⟨?_, Nat.zero_le _⟩⟩, fun m hm => ?_, fun m hm => ?_, fun m e hm _ => ?_, rfl, fun m hm => tR_0 m hm, rfl, ⟨rfl, fun i hi => n0 hi⟩⟩
  · have z : m = 0 ∨ m = 1 ∨ m = 2 ∨ m = 3 := by omega
    rcases z with rfl | rfl | rfl | rfl <;> rfl
  · have z : m = 0 ∨ m = 1 ∨ m = 2 ∨ m = 3 := by omega
    rcases z with rfl | rfl | rfl | rfl <;> rfl
  · have z : m = 0 ∨ m = 1 ∨ m = 2 ∨ m = 3 := by omega
    rcases z with rfl | rfl | rfl | rfl <;> rfl
  · have z : m = 0 ∨ m = 1 ∨ m = 2 ∨ m = 3 := by omega
    rcases z with rfl | rfl | rfl | rfl <;> rfl
  · have z : m = 0 ∨ m = 1 ∨ m = 2 ∨ m = 3 := by omega
    rcases z with rfl | rfl | rfl | rfl <;> exact (lb_0 e).trans (Bool.and_false _).symm
