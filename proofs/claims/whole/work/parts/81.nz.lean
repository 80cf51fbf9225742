-- LEVEL 2: NO EXCEPTION HAS THE KIND 0
def nz {α : Type} (A : Option ((α ⊕ Nat) × kS)) : Prop := ∀ S', A ≠ some (.inr 0, S')
section NZ
variable {α β : Type}
theorem nz_l {v : α} {S : kS} : nz (some (.inl v, S)) := fun _ h => by cases h
theorem nz_n : nz (none : Option ((α ⊕ Nat) × kS)) := fun _ h => by cases h
theorem nz_i {k : Nat} {S : kS} (h : k ≠ 0) : nz (α := α) (some (.inr k, S)) := fun _ g => by
  cases g
  exact h rfl
theorem nz_ite {c : Prop} {d : Decidable c} {A B : Option ((α ⊕ Nat) × kS)} (h1 : nz A) (h2 : nz B) : nz (@ite _ c d A B) := by
  by_cases z : c
  · rw [if_pos z]; exact h1
  · rw [if_neg z]; exact h2
theorem nz_bk {o : Option (β × kS)} {k : β → kS → Option ((α ⊕ Nat) × kS)} (h : ∀ v S, nz (k v S)) : nz (bk o k) := by
  cases o with
  | none => exact nz_n
  | some q => exact h _ _
theorem nz_bx {o : Option ((β ⊕ Nat) × kS)} {k : β → kS → Option ((α ⊕ Nat) × kS)} (h0 : nz o) (h : ∀ v S, nz (k v S)) : nz (bx o k) := by
  match o, h0 with
  | none, _ => exact nz_n
  | some (.inl v, S), _ => exact h _ _
  | some (.inr e, S), h0 =>
      intro S' g
      have g : (some (.inr e, S) : Option ((α ⊕ Nat) × kS)) = some (.inr 0, S') := g
      cases g
      exact h0 _ rfl
theorem nz_gn {a b : Nat} {A : Option ((α ⊕ Nat) × kS)} (h : nz A) : nz (gn a b A) := nz_ite h nz_n
theorem nz_gd {a : Int32} {b : Nat} {A : Option ((α ⊕ Nat) × kS)} (h : nz A) : nz (gd a b A) := nz_ite nz_n h
theorem nz_gm {a : Int32} {A : Nat → Option ((α ⊕ Nat) × kS)} (h : ∀ j, nz (A j)) : nz (gm a A) := nz_ite nz_n (h _)
theorem nz_svk {S : kS} {k : kS → Option ((α ⊕ Nat) × kS)} (h : ∀ S, nz (k S)) : nz (svk S k) := h _
theorem nz_nm {x : Int32} {k : Int32 → Option ((α ⊕ Nat) × kS)} (h : ∀ S, nz (k S)) : nz (nm x k) := h _
theorem nz_nml {x : Int64} {k : Int64 → Option ((α ⊕ Nat) × kS)} (h : ∀ S, nz (k S)) : nz (nml x k) := h _
theorem nz_gP {P : Prop} {A : Option ((α ⊕ Nat) × kS)} (h : nz A) : nz (gP P A) := nz_ite h nz_n
theorem nz_gNew {S : kS} {A : Option ((α ⊕ Nat) × kS)} (h : nz A) : nz (gNew S A) := nz_ite h nz_n
theorem nz_gVn {S : kS} {A : Option ((α ⊕ Nat) × kS)} (h : nz A) : nz (gVn S A) := nz_ite h nz_n
theorem nz_zx {v : Int32} {S : kS} : nz (zx v S) := nz_ite nz_l nz_n
end NZ
theorem nz_pX9_masterAt_9 {N : Nat} {S : kS} : nz (pX9_masterAt_9 N S) := by
  unfold pX9_masterAt_9
  repeat (with_reducible first | exact nz_l | exact nz_n | exact nz_zx | exact nz_i (by decide) | refine nz_ite ?_ ?_ | refine nz_bk (fun _ _ => ?_) | refine nz_bx ?_ (fun _ _ => ?_) | refine nz_gn ?_ | refine nz_gd ?_ | refine nz_gm (fun _ => ?_) | refine nz_svk (fun _ => ?_) | refine nz_nm (fun _ => ?_) | refine nz_nml (fun _ => ?_) | refine nz_gNew ?_ | refine nz_gP ?_)
theorem nz_pX9_masterAt {N : Nat} {x1 : Int32} {S : kS} : nz (pX9_masterAt N x1 S) := by
  unfold pX9_masterAt
  repeat (with_reducible first | exact nz_pX9_masterAt_9 | exact nz_l | exact nz_n | exact nz_zx | exact nz_i (by decide) | refine nz_ite ?_ ?_ | refine nz_bk (fun _ _ => ?_) | refine nz_bx ?_ (fun _ _ => ?_) | refine nz_gn ?_ | refine nz_gd ?_ | refine nz_gm (fun _ => ?_) | refine nz_svk (fun _ => ?_) | refine nz_nm (fun _ => ?_) | refine nz_nml (fun _ => ?_) | refine nz_gNew ?_ | refine nz_gP ?_)
theorem nz_pX9_needUser_10 {N : Nat} {S : kS} : nz (pX9_needUser_10 N S) := by
  unfold pX9_needUser_10
  repeat (with_reducible first | exact nz_l | exact nz_n | exact nz_zx | exact nz_i (by decide) | refine nz_ite ?_ ?_ | refine nz_bk (fun _ _ => ?_) | refine nz_bx ?_ (fun _ _ => ?_) | refine nz_gn ?_ | refine nz_gd ?_ | refine nz_gm (fun _ => ?_) | refine nz_svk (fun _ => ?_) | refine nz_nm (fun _ => ?_) | refine nz_nml (fun _ => ?_) | refine nz_gNew ?_ | refine nz_gP ?_)
theorem nz_pX9_needUser {N : Nat} {x0 : Int32} {S : kS} : nz (pX9_needUser N x0 S) := by
  unfold pX9_needUser
  repeat (with_reducible first | exact nz_pX9_needUser_10 | exact nz_l | exact nz_n | exact nz_zx | exact nz_i (by decide) | refine nz_ite ?_ ?_ | refine nz_bk (fun _ _ => ?_) | refine nz_bx ?_ (fun _ _ => ?_) | refine nz_gn ?_ | refine nz_gd ?_ | refine nz_gm (fun _ => ?_) | refine nz_svk (fun _ => ?_) | refine nz_nm (fun _ => ?_) | refine nz_nml (fun _ => ?_) | refine nz_gNew ?_ | refine nz_gP ?_)
theorem nz_pX9_serve {N : Nat} {x1 : Int32} {x2 : Int32} {S : kS} : nz (pX9_serve N x1 x2 S) := by
  unfold pX9_serve
  repeat (with_reducible first | exact nz_pX9_masterAt | exact nz_pX9_needUser | exact nz_l | exact nz_n | exact nz_zx | exact nz_i (by decide) | refine nz_ite ?_ ?_ | refine nz_bk (fun _ _ => ?_) | refine nz_bx ?_ (fun _ _ => ?_) | refine nz_gn ?_ | refine nz_gd ?_ | refine nz_gm (fun _ => ?_) | refine nz_svk (fun _ => ?_) | refine nz_nm (fun _ => ?_) | refine nz_nml (fun _ => ?_) | refine nz_gNew ?_ | refine nz_gP ?_)
theorem nz_pX9_needEntry {N : Nat} {n0 : Nat} {x1 : Int32} {S : kS} : nz (pX9_needEntry N n0 x1 S) := by
  unfold pX9_needEntry
  repeat (with_reducible first | exact nz_l | exact nz_n | exact nz_zx | exact nz_i (by decide) | refine nz_ite ?_ ?_ | refine nz_bk (fun _ _ => ?_) | refine nz_bx ?_ (fun _ _ => ?_) | refine nz_gn ?_ | refine nz_gd ?_ | refine nz_gm (fun _ => ?_) | refine nz_svk (fun _ => ?_) | refine nz_nm (fun _ => ?_) | refine nz_nml (fun _ => ?_) | refine nz_gNew ?_ | refine nz_gP ?_)
theorem nz_pX9_parentOf {N : Nat} {x1 : Int32} {x2 : Int32} {S : kS} : nz (pX9_parentOf N x1 x2 S) := by
  unfold pX9_parentOf
  repeat (with_reducible first | exact nz_pX9_masterAt | exact nz_pX9_needEntry | exact nz_l | exact nz_n | exact nz_zx | exact nz_i (by decide) | refine nz_ite ?_ ?_ | refine nz_bk (fun _ _ => ?_) | refine nz_bx ?_ (fun _ _ => ?_) | refine nz_gn ?_ | refine nz_gd ?_ | refine nz_gm (fun _ => ?_) | refine nz_svk (fun _ => ?_) | refine nz_nm (fun _ => ?_) | refine nz_nml (fun _ => ?_) | refine nz_gNew ?_ | refine nz_gP ?_)
theorem nz_pX9_parentAnew {N : Nat} {x1 : Int32} {x2 : Int32} {S : kS} : nz (pX9_parentAnew N x1 x2 S) := by
  unfold pX9_parentAnew
  repeat (with_reducible first | exact nz_pX9_masterAt | exact nz_pX9_needEntry | exact nz_l | exact nz_n | exact nz_zx | exact nz_i (by decide) | refine nz_ite ?_ ?_ | refine nz_bk (fun _ _ => ?_) | refine nz_bx ?_ (fun _ _ => ?_) | refine nz_gn ?_ | refine nz_gd ?_ | refine nz_gm (fun _ => ?_) | refine nz_svk (fun _ => ?_) | refine nz_nm (fun _ => ?_) | refine nz_nml (fun _ => ?_) | refine nz_gNew ?_ | refine nz_gP ?_)
theorem nz_pX9_nameOf {N : Nat} {x1 : Int32} {x2 : Int32} {S : kS} : nz (pX9_nameOf N x1 x2 S) := by
  unfold pX9_nameOf
  repeat (with_reducible first | exact nz_pX9_masterAt | exact nz_pX9_needEntry | exact nz_l | exact nz_n | exact nz_zx | exact nz_i (by decide) | refine nz_ite ?_ ?_ | refine nz_bk (fun _ _ => ?_) | refine nz_bx ?_ (fun _ _ => ?_) | refine nz_gn ?_ | refine nz_gd ?_ | refine nz_gm (fun _ => ?_) | refine nz_svk (fun _ => ?_) | refine nz_nm (fun _ => ?_) | refine nz_nml (fun _ => ?_) | refine nz_gNew ?_ | refine nz_gP ?_)
theorem nz_pX9_linkOf {N : Nat} {x1 : Int32} {x2 : Int32} {S : kS} : nz (pX9_linkOf N x1 x2 S) := by
  unfold pX9_linkOf
  repeat (with_reducible first | exact nz_pX9_masterAt | exact nz_pX9_needEntry | exact nz_l | exact nz_n | exact nz_zx | exact nz_i (by decide) | refine nz_ite ?_ ?_ | refine nz_bk (fun _ _ => ?_) | refine nz_bx ?_ (fun _ _ => ?_) | refine nz_gn ?_ | refine nz_gd ?_ | refine nz_gm (fun _ => ?_) | refine nz_svk (fun _ => ?_) | refine nz_nm (fun _ => ?_) | refine nz_nml (fun _ => ?_) | refine nz_gNew ?_ | refine nz_gP ?_)
theorem nz_pX9_knows {N : Nat} {x1 : Int32} {x2 : Int32} {S : kS} : nz (pX9_knows N x1 x2 S) := by
  unfold pX9_knows
  repeat (with_reducible first | exact nz_pX9_masterAt | exact nz_l | exact nz_n | exact nz_zx | exact nz_i (by decide) | refine nz_ite ?_ ?_ | refine nz_bk (fun _ _ => ?_) | refine nz_bx ?_ (fun _ _ => ?_) | refine nz_gn ?_ | refine nz_gd ?_ | refine nz_gm (fun _ => ?_) | refine nz_svk (fun _ => ?_) | refine nz_nm (fun _ => ?_) | refine nz_nml (fun _ => ?_) | refine nz_gNew ?_ | refine nz_gP ?_)
theorem nz_pX9_found_15 {N : Nat} {S : kS} : nz (pX9_found_15 N S) := by
  unfold pX9_found_15
  repeat (with_reducible first | exact nz_l | exact nz_n | exact nz_zx | exact nz_i (by decide) | refine nz_ite ?_ ?_ | refine nz_bk (fun _ _ => ?_) | refine nz_bx ?_ (fun _ _ => ?_) | refine nz_gn ?_ | refine nz_gd ?_ | refine nz_gm (fun _ => ?_) | refine nz_svk (fun _ => ?_) | refine nz_nm (fun _ => ?_) | refine nz_nml (fun _ => ?_) | refine nz_gNew ?_ | refine nz_gP ?_)
theorem nz_pX9_found {N : Nat} {x1 : Int32} {S : kS} : nz (pX9_found N x1 S) := by
  unfold pX9_found
  repeat (with_reducible first | exact nz_pX9_found_15 | exact nz_l | exact nz_n | exact nz_zx | exact nz_i (by decide) | refine nz_ite ?_ ?_ | refine nz_bk (fun _ _ => ?_) | refine nz_bx ?_ (fun _ _ => ?_) | refine nz_gn ?_ | refine nz_gd ?_ | refine nz_gm (fun _ => ?_) | refine nz_svk (fun _ => ?_) | refine nz_nm (fun _ => ?_) | refine nz_nml (fun _ => ?_) | refine nz_gNew ?_ | refine nz_gP ?_)
theorem nz_pX9_needAttribute_15 {N : Nat} {S : kS} : nz (pX9_needAttribute_15 N S) := by
  unfold pX9_needAttribute_15
  repeat (with_reducible first | exact nz_l | exact nz_n | exact nz_zx | exact nz_i (by decide) | refine nz_ite ?_ ?_ | refine nz_bk (fun _ _ => ?_) | refine nz_bx ?_ (fun _ _ => ?_) | refine nz_gn ?_ | refine nz_gd ?_ | refine nz_gm (fun _ => ?_) | refine nz_svk (fun _ => ?_) | refine nz_nm (fun _ => ?_) | refine nz_nml (fun _ => ?_) | refine nz_gNew ?_ | refine nz_gP ?_)
theorem nz_pX9_needAttribute {N : Nat} {x1 : Int32} {S : kS} : nz (pX9_needAttribute N x1 S) := by
  unfold pX9_needAttribute
  repeat (with_reducible first | exact nz_pX9_needAttribute_15 | exact nz_l | exact nz_n | exact nz_zx | exact nz_i (by decide) | refine nz_ite ?_ ?_ | refine nz_bk (fun _ _ => ?_) | refine nz_bx ?_ (fun _ _ => ?_) | refine nz_gn ?_ | refine nz_gd ?_ | refine nz_gm (fun _ => ?_) | refine nz_svk (fun _ => ?_) | refine nz_nm (fun _ => ?_) | refine nz_nml (fun _ => ?_) | refine nz_gNew ?_ | refine nz_gP ?_)
theorem nz_pX9_valuesAnew {N : Nat} {x1 : Int32} {x2 : Int32} {x3 : Int32} {S : kS} : nz (pX9_valuesAnew N x1 x2 x3 S) := by
  unfold pX9_valuesAnew
  repeat (with_reducible first | exact nz_pX9_masterAt | exact nz_pX9_needEntry | exact nz_pX9_needAttribute | exact nz_l | exact nz_n | exact nz_zx | exact nz_i (by decide) | refine nz_ite ?_ ?_ | refine nz_bk (fun _ _ => ?_) | refine nz_bx ?_ (fun _ _ => ?_) | refine nz_gn ?_ | refine nz_gd ?_ | refine nz_gm (fun _ => ?_) | refine nz_svk (fun _ => ?_) | refine nz_nm (fun _ => ?_) | refine nz_nml (fun _ => ?_) | refine nz_gNew ?_ | refine nz_gP ?_)
theorem nz_pX9_needRight_9 {N : Nat} {S : kS} : nz (pX9_needRight_9 N S) := by
  unfold pX9_needRight_9
  repeat (with_reducible first | exact nz_l | exact nz_n | exact nz_zx | exact nz_i (by decide) | refine nz_ite ?_ ?_ | refine nz_bk (fun _ _ => ?_) | refine nz_bx ?_ (fun _ _ => ?_) | refine nz_gn ?_ | refine nz_gd ?_ | refine nz_gm (fun _ => ?_) | refine nz_svk (fun _ => ?_) | refine nz_nm (fun _ => ?_) | refine nz_nml (fun _ => ?_) | refine nz_gNew ?_ | refine nz_gP ?_)
theorem nz_pX9_needRight {N : Nat} {x0 : Int32} {S : kS} : nz (pX9_needRight N x0 S) := by
  unfold pX9_needRight
  repeat (with_reducible first | exact nz_pX9_needRight_9 | exact nz_l | exact nz_n | exact nz_zx | exact nz_i (by decide) | refine nz_ite ?_ ?_ | refine nz_bk (fun _ _ => ?_) | refine nz_bx ?_ (fun _ _ => ?_) | refine nz_gn ?_ | refine nz_gd ?_ | refine nz_gm (fun _ => ?_) | refine nz_svk (fun _ => ?_) | refine nz_nm (fun _ => ?_) | refine nz_nml (fun _ => ?_) | refine nz_gNew ?_ | refine nz_gP ?_)
theorem nz_pX9_may {N : Nat} {x1 : Int32} {x2 : Int32} {x3 : Int32} {x4 : Int32} {S : kS} : nz (pX9_may N x1 x2 x3 x4 S) := by
  unfold pX9_may
  repeat (with_reducible first | exact nz_pX9_masterAt | exact nz_pX9_needUser | exact nz_pX9_needEntry | exact nz_pX9_needRight | exact nz_l | exact nz_n | exact nz_zx | exact nz_i (by decide) | refine nz_ite ?_ ?_ | refine nz_bk (fun _ _ => ?_) | refine nz_bx ?_ (fun _ _ => ?_) | refine nz_gn ?_ | refine nz_gd ?_ | refine nz_gm (fun _ => ?_) | refine nz_svk (fun _ => ?_) | refine nz_nm (fun _ => ?_) | refine nz_nml (fun _ => ?_) | refine nz_gNew ?_ | refine nz_gP ?_)
theorem nz_pX9_needRoomForFilter_24 {N : Nat} {S : kS} : nz (pX9_needRoomForFilter_24 N S) := by
  unfold pX9_needRoomForFilter_24
  repeat (with_reducible first | exact nz_l | exact nz_n | exact nz_zx | exact nz_i (by decide) | refine nz_ite ?_ ?_ | refine nz_bk (fun _ _ => ?_) | refine nz_bx ?_ (fun _ _ => ?_) | refine nz_gn ?_ | refine nz_gd ?_ | refine nz_gm (fun _ => ?_) | refine nz_svk (fun _ => ?_) | refine nz_nm (fun _ => ?_) | refine nz_nml (fun _ => ?_) | refine nz_gNew ?_ | refine nz_gP ?_)
theorem nz_pX9_needRoomForFilter {N : Nat} {S : kS} : nz (pX9_needRoomForFilter N S) := by
  unfold pX9_needRoomForFilter
  repeat (with_reducible first | exact nz_pX9_needRoomForFilter_24 | exact nz_l | exact nz_n | exact nz_zx | exact nz_i (by decide) | refine nz_ite ?_ ?_ | refine nz_bk (fun _ _ => ?_) | refine nz_bx ?_ (fun _ _ => ?_) | refine nz_gn ?_ | refine nz_gd ?_ | refine nz_gm (fun _ => ?_) | refine nz_svk (fun _ => ?_) | refine nz_nm (fun _ => ?_) | refine nz_nml (fun _ => ?_) | refine nz_gNew ?_ | refine nz_gP ?_)
theorem nz_pX9_has {N : Nat} {x1 : Int32} {S : kS} : nz (pX9_has N x1 S) := by
  unfold pX9_has
  repeat (with_reducible first | exact nz_pX9_needAttribute | exact nz_pX9_needRoomForFilter | exact nz_l | exact nz_n | exact nz_zx | exact nz_i (by decide) | refine nz_ite ?_ ?_ | refine nz_bk (fun _ _ => ?_) | refine nz_bx ?_ (fun _ _ => ?_) | refine nz_gn ?_ | refine nz_gd ?_ | refine nz_gm (fun _ => ?_) | refine nz_svk (fun _ => ?_) | refine nz_nm (fun _ => ?_) | refine nz_nml (fun _ => ?_) | refine nz_gNew ?_ | refine nz_gP ?_)
theorem nz_pX9_needClass {N : Nat} {x1 : Int32} {S : kS} : nz (pX9_needClass N x1 S) := by
  unfold pX9_needClass
  repeat (with_reducible first | exact nz_l | exact nz_n | exact nz_zx | exact nz_i (by decide) | refine nz_ite ?_ ?_ | refine nz_bk (fun _ _ => ?_) | refine nz_bx ?_ (fun _ _ => ?_) | refine nz_gn ?_ | refine nz_gd ?_ | refine nz_gm (fun _ => ?_) | refine nz_svk (fun _ => ?_) | refine nz_nm (fun _ => ?_) | refine nz_nml (fun _ => ?_) | refine nz_gNew ?_ | refine nz_gP ?_)
theorem nz_pX9_ofClass {N : Nat} {x1 : Int32} {S : kS} : nz (pX9_ofClass N x1 S) := by
  unfold pX9_ofClass
  repeat (with_reducible first | exact nz_pX9_needClass | exact nz_pX9_needRoomForFilter | exact nz_l | exact nz_n | exact nz_zx | exact nz_i (by decide) | refine nz_ite ?_ ?_ | refine nz_bk (fun _ _ => ?_) | refine nz_bx ?_ (fun _ _ => ?_) | refine nz_gn ?_ | refine nz_gd ?_ | refine nz_gm (fun _ => ?_) | refine nz_svk (fun _ => ?_) | refine nz_nm (fun _ => ?_) | refine nz_nml (fun _ => ?_) | refine nz_gNew ?_ | refine nz_gP ?_)
theorem nz_pX9_combine_23 {N : Nat} {S : kS} : nz (pX9_combine_23 N S) := by
  unfold pX9_combine_23
  repeat (with_reducible first | exact nz_l | exact nz_n | exact nz_zx | exact nz_i (by decide) | refine nz_ite ?_ ?_ | refine nz_bk (fun _ _ => ?_) | refine nz_bx ?_ (fun _ _ => ?_) | refine nz_gn ?_ | refine nz_gd ?_ | refine nz_gm (fun _ => ?_) | refine nz_svk (fun _ => ?_) | refine nz_nm (fun _ => ?_) | refine nz_nml (fun _ => ?_) | refine nz_gNew ?_ | refine nz_gP ?_)
theorem nz_pX9_combine {N : Nat} {x1 : Int32} {S : kS} : nz (pX9_combine N x1 S) := by
  unfold pX9_combine
  repeat (with_reducible first | exact nz_pX9_combine_23 | exact nz_l | exact nz_n | exact nz_zx | exact nz_i (by decide) | refine nz_ite ?_ ?_ | refine nz_bk (fun _ _ => ?_) | refine nz_bx ?_ (fun _ _ => ?_) | refine nz_gn ?_ | refine nz_gd ?_ | refine nz_gm (fun _ => ?_) | refine nz_svk (fun _ => ?_) | refine nz_nm (fun _ => ?_) | refine nz_nml (fun _ => ?_) | refine nz_gNew ?_ | refine nz_gP ?_)
theorem nz_pX9_not_23 {N : Nat} {S : kS} : nz (pX9_not_23 N S) := by
  unfold pX9_not_23
  repeat (with_reducible first | exact nz_l | exact nz_n | exact nz_zx | exact nz_i (by decide) | refine nz_ite ?_ ?_ | refine nz_bk (fun _ _ => ?_) | refine nz_bx ?_ (fun _ _ => ?_) | refine nz_gn ?_ | refine nz_gd ?_ | refine nz_gm (fun _ => ?_) | refine nz_svk (fun _ => ?_) | refine nz_nm (fun _ => ?_) | refine nz_nml (fun _ => ?_) | refine nz_gNew ?_ | refine nz_gP ?_)
theorem nz_pX9_not {N : Nat} {S : kS} : nz (pX9_not N S) := by
  unfold pX9_not
  repeat (with_reducible first | exact nz_pX9_not_23 | exact nz_l | exact nz_n | exact nz_zx | exact nz_i (by decide) | refine nz_ite ?_ ?_ | refine nz_bk (fun _ _ => ?_) | refine nz_bx ?_ (fun _ _ => ?_) | refine nz_gn ?_ | refine nz_gd ?_ | refine nz_gm (fun _ => ?_) | refine nz_svk (fun _ => ?_) | refine nz_nm (fun _ => ?_) | refine nz_nml (fun _ => ?_) | refine nz_gNew ?_ | refine nz_gP ?_)
theorem nz_pX9_conflicts_18 {N : Nat} {S : kS} : nz (pX9_conflicts_18 N S) := by
  unfold pX9_conflicts_18
  repeat (with_reducible first | exact nz_l | exact nz_n | exact nz_zx | exact nz_i (by decide) | refine nz_ite ?_ ?_ | refine nz_bk (fun _ _ => ?_) | refine nz_bx ?_ (fun _ _ => ?_) | refine nz_gn ?_ | refine nz_gd ?_ | refine nz_gm (fun _ => ?_) | refine nz_svk (fun _ => ?_) | refine nz_nm (fun _ => ?_) | refine nz_nml (fun _ => ?_) | refine nz_gNew ?_ | refine nz_gP ?_)
theorem nz_pX9_conflicts_64 {N : Nat} {k : Int32 → Nat → Int32 → Int32 → kS → Option ((Int32 ⊕ Nat) × kS)} (hk : ∀ a b c d S, nz (k a b c d S)) {x2 : Int32} {n3 : Nat} {x4 x5 : Int32} {S : kS} : nz (pX9_conflicts_64 N k x2 n3 x4 x5 S) := by
  unfold pX9_conflicts_64
  repeat (with_reducible first | exact hk _ _ _ _ _ | exact nz_l | exact nz_n | exact nz_zx | exact nz_i (by decide) | refine nz_ite ?_ ?_ | refine nz_bk (fun _ _ => ?_) | refine nz_bx ?_ (fun _ _ => ?_) | refine nz_gn ?_ | refine nz_gd ?_ | refine nz_gm (fun _ => ?_) | refine nz_svk (fun _ => ?_) | refine nz_nm (fun _ => ?_) | refine nz_nml (fun _ => ?_) | refine nz_gNew ?_ | refine nz_gP ?_)
theorem nz_pX9_conflicts_35 {N : Nat} : ∀ (n : Nat) (x2 : Int32) (n3 : Nat) (x4 x5 : Int32) (S : kS), nz (pX9_conflicts_35 N n x2 n3 x4 x5 S)
  | 0, _, _, _, _, _ => nz_n
  | n + 1, x2, n3, x4, x5, S => by
    have ih := nz_pX9_conflicts_35 (N := N) n
    simp only [pX9_conflicts_35]
    repeat (with_reducible first | exact nz_pX9_conflicts_64 ih | exact nz_l | exact nz_n | exact nz_zx | exact nz_i (by decide) | refine nz_ite ?_ ?_ | refine nz_bk (fun _ _ => ?_) | refine nz_bx ?_ (fun _ _ => ?_) | refine nz_gn ?_ | refine nz_gd ?_ | refine nz_gm (fun _ => ?_) | refine nz_svk (fun _ => ?_) | refine nz_nm (fun _ => ?_) | refine nz_nml (fun _ => ?_) | refine nz_gNew ?_ | refine nz_gP ?_)
theorem nz_pX9_conflicts {N : Nat} {x1 x2 : Int32} {S : kS} : nz (pX9_conflicts N x1 x2 S) := by
  unfold pX9_conflicts
  repeat (with_reducible first | exact nz_pX9_masterAt | exact nz_pX9_conflicts_18 | exact nz_pX9_conflicts_35 _ _ _ _ _ _ | exact nz_l | exact nz_n | exact nz_zx | exact nz_i (by decide) | refine nz_ite ?_ ?_ | refine nz_bk (fun _ _ => ?_) | refine nz_bx ?_ (fun _ _ => ?_) | refine nz_gn ?_ | refine nz_gd ?_ | refine nz_gm (fun _ => ?_) | refine nz_svk (fun _ => ?_) | refine nz_nm (fun _ => ?_) | refine nz_nml (fun _ => ?_) | refine nz_gNew ?_ | refine nz_gP ?_)
theorem nz_pX9_needIndex {N : Nat} {x0 : Int32} {S : kS} : nz (pX9_needIndex N x0 S) := by
  unfold pX9_needIndex
  repeat (with_reducible first | exact nz_l | exact nz_n | exact nz_zx | exact nz_i (by decide) | refine nz_ite ?_ ?_ | refine nz_bk (fun _ _ => ?_) | refine nz_bx ?_ (fun _ _ => ?_) | refine nz_gn ?_ | refine nz_gd ?_ | refine nz_gm (fun _ => ?_) | refine nz_svk (fun _ => ?_) | refine nz_nm (fun _ => ?_) | refine nz_nml (fun _ => ?_) | refine nz_gNew ?_ | refine nz_gP ?_)
theorem nz_pX9_valueAt {N : Nat} {x1 : Int32} {x2 : Int32} {x3 : Int32} {x4 : Int32} {S : kS} : nz (pX9_valueAt N x1 x2 x3 x4 S) := by
  unfold pX9_valueAt
  repeat (with_reducible first | exact nz_pX9_masterAt | exact nz_pX9_needEntry | exact nz_pX9_needAttribute | exact nz_pX9_needIndex | exact nz_l | exact nz_n | exact nz_zx | exact nz_i (by decide) | refine nz_ite ?_ ?_ | refine nz_bk (fun _ _ => ?_) | refine nz_bx ?_ (fun _ _ => ?_) | refine nz_gn ?_ | refine nz_gd ?_ | refine nz_gm (fun _ => ?_) | refine nz_svk (fun _ => ?_) | refine nz_nm (fun _ => ?_) | refine nz_nml (fun _ => ?_) | refine nz_gNew ?_ | refine nz_gP ?_)
theorem nz_pX9_needChangeable {N : Nat} {n0 : Nat} {x1 : Int32} {S : kS} : nz (pX9_needChangeable N n0 x1 S) := by
  unfold pX9_needChangeable
  repeat (with_reducible first | exact nz_pX9_needEntry | exact nz_l | exact nz_n | exact nz_zx | exact nz_i (by decide) | refine nz_ite ?_ ?_ | refine nz_bk (fun _ _ => ?_) | refine nz_bx ?_ (fun _ _ => ?_) | refine nz_gn ?_ | refine nz_gd ?_ | refine nz_gm (fun _ => ?_) | refine nz_svk (fun _ => ?_) | refine nz_nm (fun _ => ?_) | refine nz_nml (fun _ => ?_) | refine nz_gNew ?_ | refine nz_gP ?_)
theorem nz_pX9_needRoom {N : Nat} {S : kS} : nz (pX9_needRoom N S) := by
  unfold pX9_needRoom
  repeat (with_reducible first | exact nz_l | exact nz_n | exact nz_zx | exact nz_i (by decide) | refine nz_ite ?_ ?_ | refine nz_bk (fun _ _ => ?_) | refine nz_bx ?_ (fun _ _ => ?_) | refine nz_gn ?_ | refine nz_gd ?_ | refine nz_gm (fun _ => ?_) | refine nz_svk (fun _ => ?_) | refine nz_nm (fun _ => ?_) | refine nz_nml (fun _ => ?_) | refine nz_gNew ?_ | refine nz_gP ?_)
theorem nz_pX9_needWrite {N : Nat} {n0 : Nat} {x1 : Int32} {S : kS} : nz (pX9_needWrite N n0 x1 S) := by
  unfold pX9_needWrite
  repeat (with_reducible first | exact nz_l | exact nz_n | exact nz_zx | exact nz_i (by decide) | refine nz_ite ?_ ?_ | refine nz_bk (fun _ _ => ?_) | refine nz_bx ?_ (fun _ _ => ?_) | refine nz_gn ?_ | refine nz_gd ?_ | refine nz_gm (fun _ => ?_) | refine nz_svk (fun _ => ?_) | refine nz_nm (fun _ => ?_) | refine nz_nml (fun _ => ?_) | refine nz_gNew ?_ | refine nz_gP ?_)
theorem nz_pX9_need {N : Nat} {x0 : Int32} {S : kS} : nz (pX9_need N x0 S) := by
  unfold pX9_need
  repeat (with_reducible first | exact nz_l | exact nz_n | exact nz_zx | exact nz_i (by decide) | refine nz_ite ?_ ?_ | refine nz_bk (fun _ _ => ?_) | refine nz_bx ?_ (fun _ _ => ?_) | refine nz_gn ?_ | refine nz_gd ?_ | refine nz_gm (fun _ => ?_) | refine nz_svk (fun _ => ?_) | refine nz_nm (fun _ => ?_) | refine nz_nml (fun _ => ?_) | refine nz_gNew ?_ | refine nz_gP ?_)
theorem nz_pLog_add_38 {i y : Int32} {k : Nat} {S : kS} : nz (pLog_add_38 i y k S) := by
  unfold pLog_add_38
  repeat (with_reducible first | exact nz_l | exact nz_n | exact nz_zx | exact nz_i (by decide) | refine nz_ite ?_ ?_ | refine nz_bk (fun _ _ => ?_) | refine nz_bx ?_ (fun _ _ => ?_) | refine nz_gn ?_ | refine nz_gd ?_ | refine nz_gm (fun _ => ?_) | refine nz_svk (fun _ => ?_) | refine nz_nm (fun _ => ?_) | refine nz_nml (fun _ => ?_) | refine nz_gNew ?_ | refine nz_gP ?_)
theorem nz_pGrow {x : Int32} {S : kS} : nz (pGrow x S) := by
  unfold pGrow
  repeat (with_reducible first | exact nz_l | exact nz_n | exact nz_zx | exact nz_i (by decide) | refine nz_ite ?_ ?_ | refine nz_bk (fun _ _ => ?_) | refine nz_bx ?_ (fun _ _ => ?_) | refine nz_gn ?_ | refine nz_gd ?_ | refine nz_gm (fun _ => ?_) | refine nz_svk (fun _ => ?_) | refine nz_nm (fun _ => ?_) | refine nz_nml (fun _ => ?_) | refine nz_gNew ?_ | refine nz_gP ?_)
theorem nz_pGrow0 {S : kS} : nz (pGrow0 S) := by
  unfold pGrow0
  repeat (with_reducible first | exact nz_pGrow | exact nz_l | exact nz_n | exact nz_zx | exact nz_i (by decide) | refine nz_ite ?_ ?_ | refine nz_bk (fun _ _ => ?_) | refine nz_bx ?_ (fun _ _ => ?_) | refine nz_gn ?_ | refine nz_gd ?_ | refine nz_gm (fun _ => ?_) | refine nz_svk (fun _ => ?_) | refine nz_nm (fun _ => ?_) | refine nz_nml (fun _ => ?_) | refine nz_gNew ?_ | refine nz_gP ?_)
theorem nz_pLog_add {i : Int32} {k : Nat} {S : kS} : nz (pLog_add i k S) := by
  unfold pLog_add
  repeat (with_reducible first | exact nz_pGrow0 | exact nz_pLog_add_38 | exact nz_l | exact nz_n | exact nz_zx | exact nz_i (by decide) | refine nz_ite ?_ ?_ | refine nz_bk (fun _ _ => ?_) | refine nz_bx ?_ (fun _ _ => ?_) | refine nz_gn ?_ | refine nz_gd ?_ | refine nz_gm (fun _ => ?_) | refine nz_svk (fun _ => ?_) | refine nz_nm (fun _ => ?_) | refine nz_nml (fun _ => ?_) | refine nz_gNew ?_ | refine nz_gP ?_)
theorem nz_pX9_record_46 {N : Nat} {n1 : Nat} {n2 : Nat} {x3 : Int32} {S : kS} : nz (pX9_record_46 N n1 n2 x3 S) := by
  unfold pX9_record_46
  repeat (with_reducible first | exact nz_pLog_add | exact nz_l | exact nz_n | exact nz_zx | exact nz_i (by decide) | refine nz_ite ?_ ?_ | refine nz_bk (fun _ _ => ?_) | refine nz_bx ?_ (fun _ _ => ?_) | refine nz_gn ?_ | refine nz_gd ?_ | refine nz_gm (fun _ => ?_) | refine nz_svk (fun _ => ?_) | refine nz_nm (fun _ => ?_) | refine nz_nml (fun _ => ?_) | refine nz_gNew ?_ | refine nz_gP ?_)
theorem nz_pX9_record_13 {N n1 n2 : Nat} {k46 : Int32 → kS → Option ((Unit ⊕ Nat) × kS)} (hk : ∀ x S, nz (k46 x S)) : ∀ (n : Nat) (x : Int32) (S : kS), nz (pX9_record_13 N n1 n2 k46 n x S)
  | 0, _, _ => nz_n
  | n + 1, x, S => by
    have ih := nz_pX9_record_13 (N := N) (n1 := n1) (n2 := n2) hk n
    simp only [pX9_record_13]
    repeat (with_reducible first | exact hk _ _ | exact ih _ _ | exact nz_l | exact nz_n | exact nz_zx | exact nz_i (by decide) | refine nz_ite ?_ ?_ | refine nz_bk (fun _ _ => ?_) | refine nz_bx ?_ (fun _ _ => ?_) | refine nz_gn ?_ | refine nz_gd ?_ | refine nz_gm (fun _ => ?_) | refine nz_svk (fun _ => ?_) | refine nz_nm (fun _ => ?_) | refine nz_nml (fun _ => ?_) | refine nz_gNew ?_ | refine nz_gP ?_)
theorem nz_pX9_record {N n1 n2 : Nat} {S : kS} : nz (pX9_record N n1 n2 S) := by
  unfold pX9_record
  repeat (with_reducible first | exact nz_pX9_record_13 (fun _ _ => nz_pX9_record_46) _ _ _ | exact nz_l | exact nz_n | exact nz_zx | exact nz_i (by decide) | refine nz_ite ?_ ?_ | refine nz_bk (fun _ _ => ?_) | refine nz_bx ?_ (fun _ _ => ?_) | refine nz_gn ?_ | refine nz_gd ?_ | refine nz_gm (fun _ => ?_) | refine nz_svk (fun _ => ?_) | refine nz_nm (fun _ => ?_) | refine nz_nml (fun _ => ?_) | refine nz_gNew ?_ | refine nz_gP ?_)
theorem nz_pX9_link_56 {N : Nat} {t0 : Int32} {x2 : Int32} {x3 : Int32} {n4 : Nat} {S : kS} : nz (pX9_link_56 N t0 x2 x3 n4 S) := by
  unfold pX9_link_56
  repeat (with_reducible first | exact nz_pX9_need | exact nz_pX9_record | exact nz_l | exact nz_n | exact nz_zx | exact nz_i (by decide) | refine nz_ite ?_ ?_ | refine nz_bk (fun _ _ => ?_) | refine nz_bx ?_ (fun _ _ => ?_) | refine nz_gn ?_ | refine nz_gd ?_ | refine nz_gm (fun _ => ?_) | refine nz_svk (fun _ => ?_) | refine nz_nm (fun _ => ?_) | refine nz_nml (fun _ => ?_) | refine nz_gNew ?_ | refine nz_gP ?_)
theorem nz_pX9_link_36 {N : Nat} {x2 : Int32} {x3 : Int32} {n4 : Nat} {S : kS} : nz (pX9_link_36 N x2 x3 n4 S) := by
  unfold pX9_link_36
  repeat (with_reducible first | exact nz_pX9_needRoom | exact nz_pX9_needWrite | exact nz_pX9_link_56 | exact nz_l | exact nz_n | exact nz_zx | exact nz_i (by decide) | refine nz_ite ?_ ?_ | refine nz_bk (fun _ _ => ?_) | refine nz_bx ?_ (fun _ _ => ?_) | refine nz_gn ?_ | refine nz_gd ?_ | refine nz_gm (fun _ => ?_) | refine nz_svk (fun _ => ?_) | refine nz_nm (fun _ => ?_) | refine nz_nml (fun _ => ?_) | refine nz_gNew ?_ | refine nz_gP ?_)
theorem nz_pX9_link_30 {N : Nat} {x2 : Int32} {x3 : Int32} {n4 : Nat} {S : kS} : nz (pX9_link_30 N x2 x3 n4 S) := by
  unfold pX9_link_30
  repeat (with_reducible first | exact nz_pX9_needEntry | exact nz_pX9_link_36 | exact nz_l | exact nz_n | exact nz_zx | exact nz_i (by decide) | refine nz_ite ?_ ?_ | refine nz_bk (fun _ _ => ?_) | refine nz_bx ?_ (fun _ _ => ?_) | refine nz_gn ?_ | refine nz_gd ?_ | refine nz_gm (fun _ => ?_) | refine nz_svk (fun _ => ?_) | refine nz_nm (fun _ => ?_) | refine nz_nml (fun _ => ?_) | refine nz_gNew ?_ | refine nz_gP ?_)
theorem nz_pX9_link {N : Nat} {x1 : Int32} {x2 : Int32} {x3 : Int32} {S : kS} : nz (pX9_link N x1 x2 x3 S) := by
  unfold pX9_link
  repeat (with_reducible first | exact nz_pX9_masterAt | exact nz_pX9_needChangeable | exact nz_pX9_link_36 | exact nz_pX9_link_30 | exact nz_l | exact nz_n | exact nz_zx | exact nz_i (by decide) | refine nz_ite ?_ ?_ | refine nz_bk (fun _ _ => ?_) | refine nz_bx ?_ (fun _ _ => ?_) | refine nz_gn ?_ | refine nz_gd ?_ | refine nz_gm (fun _ => ?_) | refine nz_svk (fun _ => ?_) | refine nz_nm (fun _ => ?_) | refine nz_nml (fun _ => ?_) | refine nz_gNew ?_ | refine nz_gP ?_)
theorem nz_pX9_needFreeName {N : Nat} {n0 : Nat} {x1 : Int32} {x2 : Int32} {x3 : Int32} {S : kS} : nz (pX9_needFreeName N n0 x1 x2 x3 S) := by
  unfold pX9_needFreeName
  repeat (with_reducible first | exact nz_l | exact nz_n | exact nz_zx | exact nz_i (by decide) | refine nz_ite ?_ ?_ | refine nz_bk (fun _ _ => ?_) | refine nz_bx ?_ (fun _ _ => ?_) | refine nz_gn ?_ | refine nz_gd ?_ | refine nz_gm (fun _ => ?_) | refine nz_svk (fun _ => ?_) | refine nz_nm (fun _ => ?_) | refine nz_nml (fun _ => ?_) | refine nz_gNew ?_ | refine nz_gP ?_)
theorem nz_pX9_move_53 {N : Nat} {t0 : Int32} {x2 : Int32} {x3 : Int32} {n4 : Nat} {S : kS} : nz (pX9_move_53 N t0 x2 x3 n4 S) := by
  unfold pX9_move_53
  repeat (with_reducible first | exact nz_pX9_need | exact nz_pX9_needFreeName | exact nz_pX9_record | exact nz_l | exact nz_n | exact nz_zx | exact nz_i (by decide) | refine nz_ite ?_ ?_ | refine nz_bk (fun _ _ => ?_) | refine nz_bx ?_ (fun _ _ => ?_) | refine nz_gn ?_ | refine nz_gd ?_ | refine nz_gm (fun _ => ?_) | refine nz_svk (fun _ => ?_) | refine nz_nm (fun _ => ?_) | refine nz_nml (fun _ => ?_) | refine nz_gNew ?_ | refine nz_gP ?_)
theorem nz_pX9_move {N : Nat} {x1 : Int32} {x2 : Int32} {x3 : Int32} {S : kS} : nz (pX9_move N x1 x2 x3 S) := by
  unfold pX9_move
  repeat (with_reducible first | exact nz_pX9_masterAt | exact nz_pX9_needEntry | exact nz_pX9_needChangeable | exact nz_pX9_needRoom | exact nz_pX9_needWrite | exact nz_pX9_move_53 | exact nz_l | exact nz_n | exact nz_zx | exact nz_i (by decide) | refine nz_ite ?_ ?_ | refine nz_bk (fun _ _ => ?_) | refine nz_bx ?_ (fun _ _ => ?_) | refine nz_gn ?_ | refine nz_gd ?_ | refine nz_gm (fun _ => ?_) | refine nz_svk (fun _ => ?_) | refine nz_nm (fun _ => ?_) | refine nz_nml (fun _ => ?_) | refine nz_gNew ?_ | refine nz_gP ?_)
theorem nz_pX9_marks {N : Nat} {x1 : Int32} {S : kS} : nz (pX9_marks N x1 S) := by
  unfold pX9_marks
  repeat (with_reducible first | exact nz_pX9_masterAt | exact nz_l | exact nz_n | exact nz_zx | exact nz_i (by decide) | refine nz_ite ?_ ?_ | refine nz_bk (fun _ _ => ?_) | refine nz_bx ?_ (fun _ _ => ?_) | refine nz_gn ?_ | refine nz_gd ?_ | refine nz_gm (fun _ => ?_) | refine nz_svk (fun _ => ?_) | refine nz_nm (fun _ => ?_) | refine nz_nml (fun _ => ?_) | refine nz_gNew ?_ | refine nz_gP ?_)
theorem nz_pX9_live {N : Nat} {x1 : Int32} {S : kS} : nz (pX9_live N x1 S) := by
  unfold pX9_live
  repeat (with_reducible first | exact nz_pX9_masterAt | exact nz_l | exact nz_n | exact nz_zx | exact nz_i (by decide) | refine nz_ite ?_ ?_ | refine nz_bk (fun _ _ => ?_) | refine nz_bx ?_ (fun _ _ => ?_) | refine nz_gn ?_ | refine nz_gd ?_ | refine nz_gm (fun _ => ?_) | refine nz_svk (fun _ => ?_) | refine nz_nm (fun _ => ?_) | refine nz_nml (fun _ => ?_) | refine nz_gNew ?_ | refine nz_gP ?_)
theorem nz_pX9_delete_38 {N : Nat} {t0 : Int32} {x2 : Int32} {n3 : Nat} {S : kS} : nz (pX9_delete_38 N t0 x2 n3 S) := by
  unfold pX9_delete_38
  repeat (with_reducible first | exact nz_pX9_need | exact nz_pX9_record | exact nz_l | exact nz_n | exact nz_zx | exact nz_i (by decide) | refine nz_ite ?_ ?_ | refine nz_bk (fun _ _ => ?_) | refine nz_bx ?_ (fun _ _ => ?_) | refine nz_gn ?_ | refine nz_gd ?_ | refine nz_gm (fun _ => ?_) | refine nz_svk (fun _ => ?_) | refine nz_nm (fun _ => ?_) | refine nz_nml (fun _ => ?_) | refine nz_gNew ?_ | refine nz_gP ?_)
theorem nz_pX9_delete {N : Nat} {x1 : Int32} {x2 : Int32} {S : kS} : nz (pX9_delete N x1 x2 S) := by
  unfold pX9_delete
  repeat (with_reducible first | exact nz_pX9_masterAt | exact nz_pX9_needChangeable | exact nz_pX9_needRoom | exact nz_pX9_needWrite | exact nz_pX9_delete_38 | exact nz_l | exact nz_n | exact nz_zx | exact nz_i (by decide) | refine nz_ite ?_ ?_ | refine nz_bk (fun _ _ => ?_) | refine nz_bx ?_ (fun _ _ => ?_) | refine nz_gn ?_ | refine nz_gd ?_ | refine nz_gm (fun _ => ?_) | refine nz_svk (fun _ => ?_) | refine nz_nm (fun _ => ?_) | refine nz_nml (fun _ => ?_) | refine nz_gNew ?_ | refine nz_gP ?_)
theorem nz_pX9_sweep_36 {N : Nat} {n2 : Nat} {w3 : Int64} {S : kS} : nz (pX9_sweep_36 N n2 w3 S) := by
  unfold pX9_sweep_36
  repeat (with_reducible first | exact nz_l | exact nz_n | exact nz_zx | exact nz_i (by decide) | refine nz_ite ?_ ?_ | refine nz_bk (fun _ _ => ?_) | refine nz_bx ?_ (fun _ _ => ?_) | refine nz_gn ?_ | refine nz_gd ?_ | refine nz_gm (fun _ => ?_) | refine nz_svk (fun _ => ?_) | refine nz_nm (fun _ => ?_) | refine nz_nml (fun _ => ?_) | refine nz_gNew ?_ | refine nz_gP ?_)
theorem nz_pX9_sweep_14 {N : Nat} {k : Nat → Int64 → kS → Option ((Int32 ⊕ Nat) × kS)} (hk : ∀ a b S, nz (k a b S)) : ∀ (n n2 : Nat) (w : Int64) (x : Int32) (S : kS), nz (pX9_sweep_14 N k n n2 w x S)
  | 0, _, _, _, _ => nz_n
  | n + 1, n2, w, x, S => by
    have ih := nz_pX9_sweep_14 (N := N) hk n
    simp only [pX9_sweep_14]
    repeat (with_reducible first | exact hk _ _ _ | exact ih _ _ _ _ | exact nz_l | exact nz_n | exact nz_zx | exact nz_i (by decide) | refine nz_ite ?_ ?_ | refine nz_bk (fun _ _ => ?_) | refine nz_bx ?_ (fun _ _ => ?_) | refine nz_gn ?_ | refine nz_gd ?_ | refine nz_gm (fun _ => ?_) | refine nz_svk (fun _ => ?_) | refine nz_nm (fun _ => ?_) | refine nz_nml (fun _ => ?_) | refine nz_gNew ?_ | refine nz_gP ?_)
theorem nz_pX9_sweep {N : Nat} {x1 : Int32} {S : kS} : nz (pX9_sweep N x1 S) := by
  unfold pX9_sweep
  repeat (with_reducible first | exact nz_pX9_masterAt | exact nz_pX9_sweep_14 (fun _ _ _ => nz_pX9_sweep_36) _ _ _ _ _ | exact nz_l | exact nz_n | exact nz_zx | exact nz_i (by decide) | refine nz_ite ?_ ?_ | refine nz_bk (fun _ _ => ?_) | refine nz_bx ?_ (fun _ _ => ?_) | refine nz_gn ?_ | refine nz_gd ?_ | refine nz_gm (fun _ => ?_) | refine nz_svk (fun _ => ?_) | refine nz_nm (fun _ => ?_) | refine nz_nml (fun _ => ?_) | refine nz_gNew ?_ | refine nz_gP ?_)
theorem nz_pX9_childAt_19 {N : Nat} {x2 : Int32} {x3 : Int32} {n4 : Nat} {S : kS} : nz (pX9_childAt_19 N x2 x3 n4 S) := by
  unfold pX9_childAt_19
  repeat (with_reducible first | exact nz_pX9_needIndex | exact nz_l | exact nz_n | exact nz_zx | exact nz_i (by decide) | refine nz_ite ?_ ?_ | refine nz_bk (fun _ _ => ?_) | refine nz_bx ?_ (fun _ _ => ?_) | refine nz_gn ?_ | refine nz_gd ?_ | refine nz_gm (fun _ => ?_) | refine nz_svk (fun _ => ?_) | refine nz_nm (fun _ => ?_) | refine nz_nml (fun _ => ?_) | refine nz_gNew ?_ | refine nz_gP ?_)
theorem nz_pX9_childAt {N : Nat} {x1 : Int32} {x2 : Int32} {x3 : Int32} {S : kS} : nz (pX9_childAt N x1 x2 x3 S) := by
  unfold pX9_childAt
  repeat (with_reducible first | exact nz_pX9_masterAt | exact nz_pX9_needEntry | exact nz_pX9_childAt_19 | exact nz_l | exact nz_n | exact nz_zx | exact nz_i (by decide) | refine nz_ite ?_ ?_ | refine nz_bk (fun _ _ => ?_) | refine nz_bx ?_ (fun _ _ => ?_) | refine nz_gn ?_ | refine nz_gd ?_ | refine nz_gm (fun _ => ?_) | refine nz_svk (fun _ => ?_) | refine nz_nm (fun _ => ?_) | refine nz_nml (fun _ => ?_) | refine nz_gNew ?_ | refine nz_gP ?_)
theorem nz_pX9_areAlike_66 {N : Nat} {k : Nat → Nat → Int32 → kS → Option ((Int32 ⊕ Nat) × kS)} (hk : ∀ a b c S, nz (k a b c S)) {n3 n4 : Nat} {x5 : Int32} {S : kS} : nz (pX9_areAlike_66 N k n3 n4 x5 S) := by
  unfold pX9_areAlike_66
  repeat (with_reducible first | exact hk _ _ _ _ | exact nz_l | exact nz_n | exact nz_zx | exact nz_i (by decide) | refine nz_ite ?_ ?_ | refine nz_bk (fun _ _ => ?_) | refine nz_bx ?_ (fun _ _ => ?_) | refine nz_gn ?_ | refine nz_gd ?_ | refine nz_gm (fun _ => ?_) | refine nz_svk (fun _ => ?_) | refine nz_nm (fun _ => ?_) | refine nz_nml (fun _ => ?_) | refine nz_gNew ?_ | refine nz_gP ?_)
theorem nz_pX9_areAlike_37 {N : Nat} : ∀ (n n3 n4 : Nat) (x5 : Int32) (S : kS), nz (pX9_areAlike_37 N n n3 n4 x5 S)
  | 0, _, _, _, _ => nz_n
  | n + 1, n3, n4, x5, S => by
    have ih := nz_pX9_areAlike_37 (N := N) n
    simp only [pX9_areAlike_37]
    repeat (with_reducible first | exact nz_pX9_areAlike_66 ih | exact nz_l | exact nz_n | exact nz_zx | exact nz_i (by decide) | refine nz_ite ?_ ?_ | refine nz_bk (fun _ _ => ?_) | refine nz_bx ?_ (fun _ _ => ?_) | refine nz_gn ?_ | refine nz_gd ?_ | refine nz_gm (fun _ => ?_) | refine nz_svk (fun _ => ?_) | refine nz_nm (fun _ => ?_) | refine nz_nml (fun _ => ?_) | refine nz_gNew ?_ | refine nz_gP ?_)
theorem nz_pX9_areAlike {N : Nat} {x1 x2 : Int32} {S : kS} : nz (pX9_areAlike N x1 x2 S) := by
  unfold pX9_areAlike
  repeat (with_reducible first | exact nz_pX9_masterAt | exact nz_pX9_areAlike_37 _ _ _ _ _ | exact nz_l | exact nz_n | exact nz_zx | exact nz_i (by decide) | refine nz_ite ?_ ?_ | refine nz_bk (fun _ _ => ?_) | refine nz_bx ?_ (fun _ _ => ?_) | refine nz_gn ?_ | refine nz_gd ?_ | refine nz_gm (fun _ => ?_) | refine nz_svk (fun _ => ?_) | refine nz_nm (fun _ => ?_) | refine nz_nml (fun _ => ?_) | refine nz_gNew ?_ | refine nz_gP ?_)
theorem nz_pX9_exchange_30 {N : Nat} {S : kS} : nz (pX9_exchange_30 N S) := by
  unfold pX9_exchange_30
  repeat (with_reducible first | exact nz_l | exact nz_n | exact nz_zx | exact nz_i (by decide) | refine nz_ite ?_ ?_ | refine nz_bk (fun _ _ => ?_) | refine nz_bx ?_ (fun _ _ => ?_) | refine nz_gn ?_ | refine nz_gd ?_ | refine nz_gm (fun _ => ?_) | refine nz_svk (fun _ => ?_) | refine nz_nm (fun _ => ?_) | refine nz_nml (fun _ => ?_) | refine nz_gNew ?_ | refine nz_gP ?_)
theorem nz_pX9_exchange_130 {N : Nat} {n4 : Nat} {n5 : Nat} {x6 : Int32} {S : kS} : nz (pX9_exchange_130 N n4 n5 x6 S) := by
  unfold pX9_exchange_130
  repeat (with_reducible first | exact nz_l | exact nz_n | exact nz_zx | exact nz_i (by decide) | refine nz_ite ?_ ?_ | refine nz_bk (fun _ _ => ?_) | refine nz_bx ?_ (fun _ _ => ?_) | refine nz_gn ?_ | refine nz_gd ?_ | refine nz_gm (fun _ => ?_) | refine nz_svk (fun _ => ?_) | refine nz_nm (fun _ => ?_) | refine nz_nml (fun _ => ?_) | refine nz_gNew ?_ | refine nz_gP ?_)
theorem nz_pX9_exchange_114 {N : Nat} {n4 : Nat} {n5 : Nat} {x6 : Int32} {S : kS} : nz (pX9_exchange_114 N n4 n5 x6 S) := by
  unfold pX9_exchange_114
  repeat (with_reducible first | exact nz_pX9_exchange_130 | exact nz_l | exact nz_n | exact nz_zx | exact nz_i (by decide) | refine nz_ite ?_ ?_ | refine nz_bk (fun _ _ => ?_) | refine nz_bx ?_ (fun _ _ => ?_) | refine nz_gn ?_ | refine nz_gd ?_ | refine nz_gm (fun _ => ?_) | refine nz_svk (fun _ => ?_) | refine nz_nm (fun _ => ?_) | refine nz_nml (fun _ => ?_) | refine nz_gNew ?_ | refine nz_gP ?_)
theorem nz_pX9_exchange_108 {N : Nat} {k46 : Int32 → Nat → Nat → Int32 → Int32 → kS → Option ((Int32 ⊕ Nat) × kS)} (hk : ∀ a b c d e S, nz (k46 a b c d e S)) {x3 : Int32} {n4 n5 : Nat} {x6 x7 : Int32} {S : kS} : nz (pX9_exchange_108 N k46 x3 n4 n5 x6 x7 S) := by
  unfold pX9_exchange_108
  repeat (with_reducible first | exact hk _ _ _ _ _ _ | exact nz_l | exact nz_n | exact nz_zx | exact nz_i (by decide) | refine nz_ite ?_ ?_ | refine nz_bk (fun _ _ => ?_) | refine nz_bx ?_ (fun _ _ => ?_) | refine nz_gn ?_ | refine nz_gd ?_ | refine nz_gm (fun _ => ?_) | refine nz_svk (fun _ => ?_) | refine nz_nm (fun _ => ?_) | refine nz_nml (fun _ => ?_) | refine nz_gNew ?_ | refine nz_gP ?_)
theorem nz_pX9_exchange_46 {N : Nat} {k : Nat → Nat → Int32 → kS → Option ((Int32 ⊕ Nat) × kS)} (hk : ∀ a b c S, nz (k a b c S)) : ∀ (n : Nat) (x3 : Int32) (n4 n5 : Nat) (x6 x7 : Int32) (S : kS), nz (pX9_exchange_46 N k n x3 n4 n5 x6 x7 S)
  | 0, _, _, _, _, _, _ => nz_n
  | n + 1, x3, n4, n5, x6, x7, S => by
    have ih := nz_pX9_exchange_46 (N := N) hk n
    simp only [pX9_exchange_46]
    repeat (with_reducible first | exact hk _ _ _ _ | exact nz_pX9_exchange_108 ih | exact nz_l | exact nz_n | exact nz_zx | exact nz_i (by decide) | refine nz_ite ?_ ?_ | refine nz_bk (fun _ _ => ?_) | refine nz_bx ?_ (fun _ _ => ?_) | refine nz_gn ?_ | refine nz_gd ?_ | refine nz_gm (fun _ => ?_) | refine nz_svk (fun _ => ?_) | refine nz_nm (fun _ => ?_) | refine nz_nml (fun _ => ?_) | refine nz_gNew ?_ | refine nz_gP ?_)
theorem nz_pX9_exchange {N : Nat} {x1 x2 x3 : Int32} {S : kS} : nz (pX9_exchange N x1 x2 x3 S) := by
  unfold pX9_exchange
  repeat (with_reducible first | exact nz_pX9_masterAt | exact nz_pX9_exchange_30 | exact nz_pX9_exchange_46 (fun _ _ _ _ => nz_pX9_exchange_114) _ _ _ _ _ _ _ | exact nz_l | exact nz_n | exact nz_zx | exact nz_i (by decide) | refine nz_ite ?_ ?_ | refine nz_bk (fun _ _ => ?_) | refine nz_bx ?_ (fun _ _ => ?_) | refine nz_gn ?_ | refine nz_gd ?_ | refine nz_gm (fun _ => ?_) | refine nz_svk (fun _ => ?_) | refine nz_nm (fun _ => ?_) | refine nz_nml (fun _ => ?_) | refine nz_gNew ?_ | refine nz_gP ?_)
theorem nz_pX9_attribute {N : Nat} {x1 : Int32} {x2 : Int32} {S : kS} : nz (pX9_attribute N x1 x2 S) := by
  unfold pX9_attribute
  repeat (with_reducible first | exact nz_l | exact nz_n | exact nz_zx | exact nz_i (by decide) | refine nz_ite ?_ ?_ | refine nz_bk (fun _ _ => ?_) | refine nz_bx ?_ (fun _ _ => ?_) | refine nz_gn ?_ | refine nz_gd ?_ | refine nz_gm (fun _ => ?_) | refine nz_svk (fun _ => ?_) | refine nz_nm (fun _ => ?_) | refine nz_nml (fun _ => ?_) | refine nz_gNew ?_ | refine nz_gP ?_)
theorem nz_pX9_objectClass_32 {N : Nat} {S : kS} : nz (pX9_objectClass_32 N S) := by
  unfold pX9_objectClass_32
  repeat (with_reducible first | exact nz_l | exact nz_n | exact nz_zx | exact nz_i (by decide) | refine nz_ite ?_ ?_ | refine nz_bk (fun _ _ => ?_) | refine nz_bx ?_ (fun _ _ => ?_) | refine nz_gn ?_ | refine nz_gd ?_ | refine nz_gm (fun _ => ?_) | refine nz_svk (fun _ => ?_) | refine nz_nm (fun _ => ?_) | refine nz_nml (fun _ => ?_) | refine nz_gNew ?_ | refine nz_gP ?_)
theorem nz_pX9_objectClass_10 {N : Nat} {x1 : Int32} {x2 : Int32} {x3 : Int32} {S : kS} : nz (pX9_objectClass_10 N x1 x2 x3 S) := by
  unfold pX9_objectClass_10
  repeat (with_reducible first | exact nz_pX9_objectClass_32 | exact nz_l | exact nz_n | exact nz_zx | exact nz_i (by decide) | refine nz_ite ?_ ?_ | refine nz_bk (fun _ _ => ?_) | refine nz_bx ?_ (fun _ _ => ?_) | refine nz_gn ?_ | refine nz_gd ?_ | refine nz_gm (fun _ => ?_) | refine nz_svk (fun _ => ?_) | refine nz_nm (fun _ => ?_) | refine nz_nml (fun _ => ?_) | refine nz_gNew ?_ | refine nz_gP ?_)
theorem nz_pX9_objectClass {N : Nat} {x1 : Int32} {x2 : Int32} {x3 : Int32} {S : kS} : nz (pX9_objectClass N x1 x2 x3 S) := by
  unfold pX9_objectClass
  repeat (with_reducible first | exact nz_pX9_needClass | exact nz_pX9_objectClass_10 | exact nz_l | exact nz_n | exact nz_zx | exact nz_i (by decide) | refine nz_ite ?_ ?_ | refine nz_bk (fun _ _ => ?_) | refine nz_bx ?_ (fun _ _ => ?_) | refine nz_gn ?_ | refine nz_gd ?_ | refine nz_gm (fun _ => ?_) | refine nz_svk (fun _ => ?_) | refine nz_nm (fun _ => ?_) | refine nz_nml (fun _ => ?_) | refine nz_gNew ?_ | refine nz_gP ?_)
theorem nz_pX9_needScope_9 {N : Nat} {S : kS} : nz (pX9_needScope_9 N S) := by
  unfold pX9_needScope_9
  repeat (with_reducible first | exact nz_l | exact nz_n | exact nz_zx | exact nz_i (by decide) | refine nz_ite ?_ ?_ | refine nz_bk (fun _ _ => ?_) | refine nz_bx ?_ (fun _ _ => ?_) | refine nz_gn ?_ | refine nz_gd ?_ | refine nz_gm (fun _ => ?_) | refine nz_svk (fun _ => ?_) | refine nz_nm (fun _ => ?_) | refine nz_nml (fun _ => ?_) | refine nz_gNew ?_ | refine nz_gP ?_)
theorem nz_pX9_needScope {N : Nat} {x0 : Int32} {S : kS} : nz (pX9_needScope N x0 S) := by
  unfold pX9_needScope
  repeat (with_reducible first | exact nz_pX9_needScope_9 | exact nz_l | exact nz_n | exact nz_zx | exact nz_i (by decide) | refine nz_ite ?_ ?_ | refine nz_bk (fun _ _ => ?_) | refine nz_bx ?_ (fun _ _ => ?_) | refine nz_gn ?_ | refine nz_gd ?_ | refine nz_gm (fun _ => ?_) | refine nz_svk (fun _ => ?_) | refine nz_nm (fun _ => ?_) | refine nz_nml (fun _ => ?_) | refine nz_gNew ?_ | refine nz_gP ?_)
theorem nz_pX9_needSearch {N : Nat} {x1 : Int32} {x2 : Int32} {x3 : Int32} {S : kS} : nz (pX9_needSearch N x1 x2 x3 S) := by
  unfold pX9_needSearch
  repeat (with_reducible first | exact nz_pX9_masterAt | exact nz_pX9_needEntry | exact nz_pX9_needScope | exact nz_l | exact nz_n | exact nz_zx | exact nz_i (by decide) | refine nz_ite ?_ ?_ | refine nz_bk (fun _ _ => ?_) | refine nz_bx ?_ (fun _ _ => ?_) | refine nz_gn ?_ | refine nz_gd ?_ | refine nz_gm (fun _ => ?_) | refine nz_svk (fun _ => ?_) | refine nz_nm (fun _ => ?_) | refine nz_nml (fun _ => ?_) | refine nz_gNew ?_ | refine nz_gP ?_)
theorem nz_pX9_search {N : Nat} {x1 : Int32} {x2 : Int32} {x3 : Int32} {S : kS} : nz (pX9_search N x1 x2 x3 S) := by
  unfold pX9_search
  repeat (with_reducible first | exact nz_pX9_needSearch | exact nz_l | exact nz_n | exact nz_zx | exact nz_i (by decide) | refine nz_ite ?_ ?_ | refine nz_bk (fun _ _ => ?_) | refine nz_bx ?_ (fun _ _ => ?_) | refine nz_gn ?_ | refine nz_gd ?_ | refine nz_gm (fun _ => ?_) | refine nz_svk (fun _ => ?_) | refine nz_nm (fun _ => ?_) | refine nz_nml (fun _ => ?_) | refine nz_gNew ?_ | refine nz_gP ?_)
theorem nz_pX9_searchByWalk {N : Nat} {x1 : Int32} {x2 : Int32} {x3 : Int32} {S : kS} : nz (pX9_searchByWalk N x1 x2 x3 S) := by
  unfold pX9_searchByWalk
  repeat (with_reducible first | exact nz_pX9_needSearch | exact nz_l | exact nz_n | exact nz_zx | exact nz_i (by decide) | refine nz_ite ?_ ?_ | refine nz_bk (fun _ _ => ?_) | refine nz_bx ?_ (fun _ _ => ?_) | refine nz_gn ?_ | refine nz_gd ?_ | refine nz_gm (fun _ => ?_) | refine nz_svk (fun _ => ?_) | refine nz_nm (fun _ => ?_) | refine nz_nml (fun _ => ?_) | refine nz_gNew ?_ | refine nz_gP ?_)
theorem nz_pX9_follow {N : Nat} {x1 : Int32} {x2 : Int32} {x3 : Int32} {S : kS} : nz (pX9_follow N x1 x2 x3 S) := by
  unfold pX9_follow
  repeat (with_reducible first | exact nz_pX9_needSearch | exact nz_l | exact nz_n | exact nz_zx | exact nz_i (by decide) | refine nz_ite ?_ ?_ | refine nz_bk (fun _ _ => ?_) | refine nz_bx ?_ (fun _ _ => ?_) | refine nz_gn ?_ | refine nz_gd ?_ | refine nz_gm (fun _ => ?_) | refine nz_svk (fun _ => ?_) | refine nz_nm (fun _ => ?_) | refine nz_nml (fun _ => ?_) | refine nz_gNew ?_ | refine nz_gP ?_)
