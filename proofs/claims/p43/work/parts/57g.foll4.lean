-- LEVEL 2, THE CALL FOLLOW
def mt0 : Nat → Nat → Bool := fun _ _ => false
def bsS (W : sW) (sc : Nat) (r : Option (Nat × Nat)) : List Nat := match r with
  | none => []
  | some (a, b) => if sc = 0 then [] else kds W a b
def bsF (W : sW) (u sc : Nat) (r : Option (Nat × Nat)) : List Nat := match r with
  | none => []
  | some (a, b) => if sc = 1 then [] else nxF W u (some (a, b)) []
section FD
variable {N : Nat} {S : kS} {W : sW} {u sc : Nat}
theorem fJ_base (h : wOk W) {m b : Nat} (hm : m < 4) (hb : b < 48) : fJ W (arr W 193 mt0 m b).1 (bsS W sc (arr W 193 mt0 m b).2) (bsF W u sc (arr W 193 mt0 m b).2) := by
  obtain ⟨a1, a2⟩ := arr_ok h 193 mt0 m b hm (by omega)
  obtain ⟨p1, p2⟩ := phi_arr h a1
  have p0 := phi_le (W := W) mt0
  generalize arr W 193 mt0 m b = r at *
  obtain ⟨met', o⟩ := r
  cases o with
  | none =>
    have p1 : phi W met' ≤ phi W mt0 := p1
    exact ⟨by show 0 + 0 + phi W met' ≤ 189; omega, fun s hs => absurd hs List.not_mem_nil, fun s hs => absurd hs List.not_mem_nil⟩
  | some ab =>
    obtain ⟨a, b⟩ := ab
    obtain ⟨b1, b2, b3, b4, b5⟩ := a2 a b rfl
    have q := p2 a b b1 b2 b4 b5
    have q : phi W met' + (kds W a b).length ≤ phi W mt0 := q
    have lF : (bsF W u sc (some (a, b))).length ≤ 1 := by
      show (if sc = 1 then [] else if lok W u a b = true then [] ++ [100 * a + b] else []).length ≤ 1
      split
      · exact Nat.zero_le _
      · split
        · exact Nat.le_refl _
        · exact Nat.zero_le _
    have lS : (bsS W sc (some (a, b))).length ≤ (kds W a b).length := by
      show (if sc = 0 then [] else kds W a b).length ≤ _
      split
      · exact Nat.zero_le _
      · exact Nat.le_refl _
    refine ⟨by show (bsF W u sc (some (a, b))).length + (bsS W sc (some (a, b))).length + phi W met' ≤ 189; omega, fun s hs => ?_, fun s hs => ?_⟩
    · have hs : s ∈ (if sc = 0 then [] else kds W a b) := hs
      split at hs
      · exact absurd hs List.not_mem_nil
      · exact kds_mem h b1 hs
    · have hs : s ∈ (if sc = 1 then [] else if lok W u a b = true then [] ++ [100 * a + b] else []) := hs
      split at hs
      · exact absurd hs List.not_mem_nil
      · split at hs
        · rcases List.mem_append.mp hs with g | g
          · exact absurd g List.not_mem_nil
          · rw [List.mem_singleton] at g; omega
        · exact absurd hs List.not_mem_nil
/-- what a call follow finds -/
def flF (W : sW) (m sc b : Nat) : List Nat := lpF W (wU W m) sc 192 (arr W 193 mt0 m b).1 (bsS W sc (arr W 193 mt0 m b).2) (bsF W (wU W m) sc (arr W 193 mt0 m b).2)
theorem q_byLinks (hN : 20000 ≤ N) (h : wOk W) (K : kRel S W) {m b : Nat} (hm : m < 4) (hb : b < 48) (hsc : sc < 3) (hK1 : (wK W).length = 1) : ∃ S', pX3_byLinks N (zI (m : Nat)) (zI (b : Nat)) (zI (sc : Nat)) S = some (zI ((flF W m sc b).length : Nat), S') ∧ kRel S' (wFd W (flF W m sc b)) := by
  have hu := h.2.2.2.2.2.1 m hm
  obtain ⟨S1, e1, e2, f⟩ := q_fillJ (N := N) (c := 15) (z := 4) (v := 0) (S := sI (sI (sI S 10 (zI (wU W m : Nat))) 8 0) 9 0) (by omega) (by omega)
  have i3 : kI S1 = upd (upd (upd (kI S) 10 (zI (wU W m : Nat))) 8 0) 9 0 := f.2.2.2.1
  have K1 : fK S1 W (wU W m) mt0 [] [] := by
    refine ⟨kRel_F K (fun q hq => by rw [i3, upd_o _ _ (by omega), upd_o _ _ (by omega), upd_o _ _ (by omega)]) (fun c _ _ => by rw [f.2.1]; rfl) (fun c hc => by rw [f.1 c (by omega)]; rfl) (f.2.2.1.trans rfl) (f.2.2.2.2.trans rfl) ⟨by rw [i3, upd_o _ _ (by omega), upd_s]; rfl, fun i hi => absurd hi (Nat.not_lt_zero _)⟩, by rw [i3, upd_o _ _ (by omega), upd_o _ _ (by omega), upd_s], by rw [i3, upd_s]; rfl, fun s hs => absurd hs (Nat.not_lt_zero _), fun a e ha he => ?_⟩
    rw [e2 a ha, lb_0]
    show false = (decide (e < 48) && false)
    rw [Bool.and_false]
  obtain ⟨S2, a1, a2⟩ := q_arriveFrom (N := N) hN h (show ([] : List Nat).length ≤ 192 by decide) (fun s hs => absurd hs List.not_mem_nil) K1 (x := 100 * m + b) (by omega)
  rw [show (100 * m + b) / 100 = m by omega, show (100 * m + b) % 100 = b by omega] at a1 a2
  have aok := (arr_ok h 193 mt0 m b hm (by omega)).2
  have J := fJ_base (u := wU W m) (sc := sc) h hm hb
  have s1 : (zI (sc : Nat) = (1 : Int32)) ↔ sc = 1 := by rw [zL_1, zI_eq (by omega) (by omega) (by omega) (by omega)]; omega
  have s0 : (zI (sc : Nat) = (0 : Int32)) ↔ sc = 0 := by rw [zL_0, zI_eq (by omega) (by omega) (by omega) (by omega)]; omega
  have ex : (zI (m : Nat) * (100 : Int32)) + zI (b : Nat) = zI ((100 * m + b : Nat) : Int) := by
    rw [zL_100, zI_mul, zI_add]
    congr 1
    omega
  simp only [pX3_byLinks, svk_i]
  rw [gm_n hm, K.2.2.2.2.2.2.1 m hm, e1, bk_i, ex, a1, bk_i]
  unfold flF
  have ih := q_byLinks_79 (N := N) hN h hu hsc hK1 N 192 0 (arr W 193 mt0 m b).1 (bsS W sc (arr W 193 mt0 m b).2) (bsF W (wU W m) sc (arr W 193 mt0 m b).2)
  have ih := fun S Q => ih S (by omega) (by omega) J Q
  generalize arr W 193 mt0 m b = r at *
  obtain ⟨met', o⟩ := r
  simp only [pX3_byLinks_60, pX3_byLinks_76]
  cases o with
  | none =>
    try dsimp only
    rw [if_pos (show zI (arS none) = (-1 : Int32) from rfl), if_pos (show zI (arS none) = (-1 : Int32) from rfl)]
    exact ih S2 a2
  | some ab =>
    obtain ⟨a, b'⟩ := ab
    obtain ⟨b1, b2, b3, b4, b5⟩ := aok a b' rfl
    have nm1 : ¬ zI (arS (some (a, b'))) = (-1 : Int32) := by
      show ¬ zI ((100 * a + b' : Nat) : Int) = (-1 : Int32)
      rw [zL_m1, zI_eq (by omega) (by omega) (by omega) (by omega)]
      omega
    have J0 := J.1
    have J0 : (bsF W (wU W m) sc (some (a, b'))).length + (bsS W sc (some (a, b'))).length + phi W met' ≤ 189 := J0
    have fin : ∀ S3, fK S3 W (wU W m) met' [] (bsF W (wU W m) sc (some (a, b'))) → ∃ S', (if zI (arS (some (a, b'))) = (-1 : Int32) then pX3_byLinks_79 N (pX3_byLinks_148 N) N (zI (sc : Nat)) (0 : Int32) S3 else (if zI (sc : Nat) = (0 : Int32) then pX3_byLinks_79 N (pX3_byLinks_148 N) N (zI (sc : Nat)) (0 : Int32) S3 else (bk (pX3_awaitChildrenOf N (zI (arS (some (a, b')))) S3) fun _ S102 => pX3_byLinks_79 N (pX3_byLinks_148 N) N (zI (sc : Nat)) (0 : Int32) S102))) = some (zI ((lpF W (wU W m) sc 192 met' (bsS W sc (some (a, b'))) (bsF W (wU W m) sc (some (a, b')))).length : Nat), S') ∧ kRel S' (wFd W (lpF W (wU W m) sc 192 met' (bsS W sc (some (a, b'))) (bsF W (wU W m) sc (some (a, b'))))) := fun S3 K3 => by
      rw [if_neg nm1]
      by_cases z : sc = 0
      · have hns : bsS W sc (some (a, b')) = [] := if_pos z
        rw [if_pos (s0.mpr z)]
        exact ih S3 (by show fK S3 W _ met' (bsS W sc (some (a, b'))) _; rw [hns]; exact K3)
      · have hns : bsS W sc (some (a, b')) = kds W a b' := if_neg z
        rw [hns] at J0
        obtain ⟨S4, d1, d2⟩ := q_await (N := N) hN h (show (bsF W (wU W m) sc (some (a, b'))).length ≤ 192 by omega) J.2.2 K3 b1 b2 (by rw [List.length_nil]; omega)
        have d1 : pX3_awaitChildrenOf N (zI (arS (some (a, b')))) S3 = some ((), S4) := d1
        rw [if_neg (fun g => z (s0.mp g)), d1, bk_i]
        rw [List.append_nil] at d2
        exact ih S4 (by show fK S4 W _ met' (bsS W sc (some (a, b'))) _; rw [hns]; exact d2)
    try dsimp only
    rw [if_neg nm1]
    by_cases z1 : sc = 1
    · have hns : bsF W (wU W m) sc (some (a, b')) = [] := if_pos z1
      rw [if_pos (s1.mpr z1)]
      exact fin S2 (by rw [hns]; exact a2)
    · have hns : bsF W (wU W m) sc (some (a, b')) = nxF W (wU W m) (some (a, b')) [] := if_neg z1
      obtain ⟨S3, c1, c2⟩ := q_lookAt (N := N) hN h hu hK1 (show ([] : List Nat).length < 192 by decide) (fun s hs => absurd hs List.not_mem_nil) a2 b1 b2
      have c1 : pX3_lookAt N (zI (arS (some (a, b')))) S2 = some ((), S3) := c1
      rw [if_neg (fun g => z1 (s1.mp g)), c1, bk_i]
      exact fin S3 (by rw [hns]; exact c2)
end FD
