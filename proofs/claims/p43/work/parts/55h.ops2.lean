-- LEVEL 2, CALLS: MAY, VALUES ANEW, DRAFTS
theorem tX_take {H : sH} {T : sT} {c : sCh} {en : Nat} (h : tX H T) (hc : cOk c) (hi : cIn H en c) : tX H (tTake H T c) := by
  obtain ⟨x1, x2⟩ := id h
  obtain ⟨i1, i2, i3, i4⟩ := hi
  obtain ⟨ck, ce, cm, cn, cs, cadd, cval, -⟩ := hc
  have vt : ∀ (vs : List (Nat × Nat × Nat)) (a v : Nat), a < hA H → (∀ x ∈ vs, x.2.1 < hA H) → ∀ x ∈ vTake H vs (cE c) a v, x.2.1 < hA H := fun vs a v ha hv x hx => by
    rcases List.mem_append.mp hx with g | g
    · exact hv x (List.mem_filter.mp g).1
    · rw [List.mem_singleton] at g; rw [g]; exact ha
  have va : ∀ (l : List (Nat × Nat)) (vs : List (Nat × Nat × Nat)), (∀ x ∈ l, x.1 < hA H) → (∀ x ∈ vs, x.2.1 < hA H) → ∀ x ∈ l.foldl (fun vs x => vTake H vs (cE c) x.1 x.2) vs, x.2.1 < hA H := fun l => by
    induction l with
    | nil => exact fun vs _ hv => hv
    | cons y l ih => exact fun vs hl hv => ih _ (fun x hx => hl x (List.mem_cons_of_mem _ hx)) (vt vs y.1 y.2 (hl y List.mem_cons_self) hv)
  unfold tTake
  by_cases k0 : cK c = 0
  · rw [if_pos k0]
    obtain ⟨j1, j2, j3⟩ := i2 k0
    exact ⟨upf_all (P := fun _ x => x < (hC H : Int)) x1 j1, va _ _ j3 x2⟩
  · rw [if_neg k0]
    by_cases k1 : cK c = 1
    · rw [if_pos k1]
      have := i3 (by omega) (by omega)
      have := (cval (by omega) (by omega)).1
      exact ⟨x1, vt _ _ _ (by omega) x2⟩
    · rw [if_neg k1]
      by_cases k2 : cK c = 2
      · rw [if_pos k2]
        exact ⟨x1, fun x hx => x2 x (List.mem_filter.mp hx).1⟩
      · rw [if_neg k2]
        by_cases k3 : cK c = 3
        · rw [if_pos k3]
          have := i3 (by omega) (by omega)
          have := (cval (by omega) (by omega)).1
          refine ⟨x1, fun x hx => ?_⟩
          rcases List.mem_append.mp hx with g | g
          · exact x2 x (List.mem_filter.mp g).1
          · rw [List.mem_singleton] at g
            rw [g]
            show (cX c).toNat < hA H
            omega
        · rw [if_neg k3]
          repeat' split
          all_goals exact h
theorem tX_rpl {H : sH} {cs : Nat → sCh} {en : Nat} : ∀ (l : List Nat) (T : sT), (∀ k ∈ l, cOk (cs k) ∧ cIn H en (cs k)) → tX H T → tX H (rpl H cs T l)
  | [], T, _, h => h
  | k :: l, T, hl, h => tX_rpl l _ (fun q hq => hl q (List.mem_cons_of_mem _ hq)) (tX_take h (hl k List.mem_cons_self).1 (hl k List.mem_cons_self).2)
section O3
variable {N : Nat} {S : kS} {W : sW}
theorem wTr_X (h : wOk W) (m : Nat) : tX (wH W) (wTr W m) := by
  obtain ⟨-, -, -, ⟨g1, g2, g3, ⟨ar, g4⟩, g5, g6, -⟩, -⟩ := h
  refine tX_rpl (en := wE W) _ _ (fun k hk => ?_) ⟨fun e _ => by show (-1 : Int) < _; omega, fun x hx => absurd hx List.not_mem_nil⟩
  have hk := knl_sub.subset hk
  exact ⟨(g4.2 k hk).1, g6 k ((g3 k).mp hk)⟩
/-- other drafts, filters, entries, spots -/
theorem kRel_e {S' : kS} {D : List (Nat × Nat)} {P : List (Nat × Int × Int)} {F : List Nat} {en : Nat} {fd : List Nat} (K : kRel S W) (hI : ∀ q, (1 ≤ q ∧ q ≤ 4) ∨ q = 12 ∨ 16 ≤ q → kI S' q = kI S q) (hA : ∀ c, c ≤ 5 ∨ 18 ≤ c → kA S' c = kA S c) (hJ : ∀ c, 26 ≤ c → kJ S' c = kJ S c) (hL : kL S' = kL S) (hD : S'.2.2.2.2 = S.2.2.2.2) (d : kI S' 5 = zI (D.length : Nat) ∧ ∀ i (h : i < D.length), kA S' 6 i = zI ((D[i].1 * 1000 + D[i].2 : Nat) : Int)) (f : fcR S' (wH W) P F) (e0 : kI S' 0 = zI (en : Nat)) (fo : kI S' 8 = zI (fd.length : Nat) ∧ ∀ i (h : i < fd.length), kA S' 14 i = zI (fd[i] : Nat)) : kRel S' (wMk (wH W) D P F (wC W) (wN W) (wO W) (wT W) (wX W) (wU W) en fd) := by
  obtain ⟨k1, -, -, ⟨k7, k7b⟩, ⟨k8, k9⟩, k10, k11, k12, k13, k14, k15, k16, -⟩ := K
  obtain ⟨d1, d2, d3, d4, d5, d6, d7, d8⟩ := kD_eq hD
  have hr : hR S' (wH W) := by
    obtain ⟨r1, r2, r3, r4, r5, r6, r7⟩ := k1
    exact ⟨by rw [hI _ (by omega)]; exact r1, by rw [hI _ (by omega)]; exact r2, by rw [hI _ (by omega)]; exact r3, by rw [hI _ (by omega)]; exact r4, by rw [hA _ (by omega)]; exact r5, by rw [hA _ (by omega)]; exact r6, by rw [hA _ (by omega)]; exact r7⟩
  exact ⟨hr, d, f, ⟨by rw [d1]; exact k7, fun k hk => cRS_D hD (k7b k hk)⟩, ⟨lgR_fr (hI _ (by omega)) hD k8, by rw [d3, d4]; exact k9⟩, fun j hj => tdR_fr (hI _ (by omega)) (hA _ (by omega)) (k10 j hj), fun j hj => by rw [hI _ (by omega)]; exact k11 j hj, fun j hj => by rw [hI _ (by omega)]; exact k12 j hj, fun j e hj he => by rw [hL]; exact k13 j e hj he, e0, fun j hj => tR_other (fun q a b => hI q (by omega)) (fun c a b => hA c (by omega)) (fun c a b => hJ c (by omega)) (by rw [hL]) (by rw [hL]) (k15 j hj), by rw [hA _ (by omega)]; exact k16, fo⟩
end O3
