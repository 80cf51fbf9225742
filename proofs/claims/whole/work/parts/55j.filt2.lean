-- LEVEL 2, CALLS: FILTERS
section O5
variable {N : Nat} {S : kS} {M : mS} {W : sW}
theorem app_get {α : Type} {l : List α} {p : α} : ∀ i (hi : i < (l ++ [p]).length), (∃ h2 : i < l.length, (l ++ [p])[i] = l[i]) ∨ (i = l.length ∧ (l ++ [p])[i] = p) := fun i hi => by
  rw [List.length_append, List.length_singleton] at hi
  by_cases g : i < l.length
  · exact Or.inl ⟨g, List.getElem_append_left g⟩
  · right
    have : i = l.length := by omega
    subst this
    exact ⟨rfl, by rw [List.getElem_append_right (Nat.le_refl _)]; simp⟩
theorem f_ok {H : sH} {P : List (Nat × Int × Int)} {K F : List Nat} {p : Nat × Int × Int} (h : fOk H P K) (hl : P.length < 15) (hF : F.length < 8) (hpre : ∀ k ∈ F, k ∈ K) (hp : pOk H P.length p) (hs : (p.1 ≤ 3 → F = K) ∧ (p.1 = 6 → K = F ++ [p.2.1.toNat]) ∧ (p.1 = 4 ∨ p.1 = 5 → K = F ++ [p.2.1.toNat, p.2.2.toNat])) : fOk H (P ++ [p]) (F ++ [P.length]) := by
  obtain ⟨f1, f2, f3, f4, σ, s0, s1, s2, s3⟩ := h
  have hlen : (P ++ [p]).length = P.length + 1 := by rw [List.length_append, List.length_singleton]
  refine ⟨by omega, by rw [List.length_append, List.length_singleton]; omega, fun k hk => ?_, fun i hi => ?_, upf σ (P.length + 1) (F ++ [P.length]), fun i => ?_, ?_, ?_, fun i hi => ?_⟩
  · rcases List.mem_append.mp hk with g | g
    · have := f3 k (hpre k g); omega
    · rw [List.mem_singleton] at g; omega
  · rcases app_get i hi with ⟨g1, g2⟩ | ⟨g1, g2⟩
    · rw [g2]; exact f4 i g1
    · rw [g2, g1]; exact hp
  · by_cases z : i = P.length + 1
    · rw [z, upf_s, List.length_append, List.length_singleton]; omega
    · rw [upf_o _ _ z]; exact s0 i
  · rw [upf_o _ _ (by omega)]; exact s1
  · rw [hlen, upf_s]
  · rcases app_get i hi with ⟨g1, g2⟩ | ⟨g1, g2⟩
    · rw [g2, upf_o _ _ (by omega), upf_o _ _ (by omega)]; exact s3 i g1
    · rw [g2, g1, upf_s, upf_o _ _ (by omega), s2]
      exact ⟨fun q => by rw [hs.1 q], fun q => ⟨F, hs.2.1 q, rfl⟩, fun q => ⟨F, hs.2.2 q, rfl⟩⟩
/-- both take a part -/
theorem f_fin (h : wOk W) (K : kRel S W) {M0 : mS} (R : mRel M0 W) {p : Nat × Int × Int} {F : List Nat} (hl : (wP W).length < 15) (hF : F.length < 8) (hpre : ∃ t, wK W = F ++ t) (hp : pOk (wH W) (wP W).length p) (hs : (p.1 ≤ 3 → F = wK W) ∧ (p.1 = 6 → wK W = F ++ [p.2.1.toNat]) ∧ (p.1 = 4 ∨ p.1 = 5 → wK W = F ++ [p.2.1.toNat, p.2.2.toNat])) {A : Option (Int32 × kS)} {B : Option (Int32 × mS)} (hA : A = pX2_put N (zI (pcK p)) (zI (pcL (wH W) p)) (zI (pcH (wH W) p)) (zI (((F.length + 1 : Nat) : Int) - ((wK W).length : Nat))) S) (hB : B = pf_puts N (zI (p.1 : Nat)) (zI p.2.1) (zI p.2.2) M) (hM1 : ∀ q, q ≠ 16 → M.1 q = M0.1 q) (hM2 : M.2 = M0.2) (hM3 : M.1 16 = zI (F.length : Nat)) (h0 : M0.1 0 = 0) : ∃ v S' M' W', A = some (v, S') ∧ B = some (v, M') ∧ M'.1 0 = 0 ∧ wOk W' ∧ kRel S' W' ∧ mRel M' W' := by
  obtain ⟨t, ht⟩ := hpre
  obtain ⟨S', e1, a1, a2, a3, a4, a5, a6, a7, a8, a9, a10⟩ := q_fput (N := N) (x := 0) (k := pcK p) (lo := pcL (wH W) p) (hi := pcH (wH W) p) (mo := ((F.length + 1 : Nat) : Int) - ((wK W).length : Nat)) hl K
  obtain ⟨M', e2, b1, b2, b3, b4, b5, b6, b7, b8⟩ := r_puts (N := N) (W := W) (M := M) (k := (p.1 : Nat)) (x := p.2.1) (y := p.2.2) hl hF (by rw [hM1 _ (by omega)]; exact R.2.2.1.1) hM3
  rw [show ((wK W).length : Nat) + (((F.length + 1 : Nat) : Int) - ((wK W).length : Nat)) = ((F.length + 1 : Nat) : Int) by omega] at e1 a3
  have hlen : ((wP W) ++ [p]).length = (wP W).length + 1 := by rw [List.length_append, List.length_singleton]
  have hlen2 : (F ++ [(wP W).length]).length = F.length + 1 := by rw [List.length_append, List.length_singleton]
  obtain ⟨o1, o2, o3, o4, o5, o6, o7, o8⟩ := id h
  obtain ⟨k1, k2, ⟨k3, k3b, k3c⟩, k4⟩ := id K
  obtain ⟨r1, r2, ⟨r3, r3b, r3c, r3d⟩, r4⟩ := id R
  refine ⟨_, S', M', wMk (wH W) (wD W) (wP W ++ [p]) (F ++ [(wP W).length]) (wC W) (wN W) (wO W) (wT W) (wX W) (wU W) (wE W) (wF W), hA.trans e1, hB.trans e2, ?_, ⟨o1, o2, f_ok o3 hl hF (fun k hk => by rw [ht]; exact List.mem_append_left _ hk) hp hs, o4, o5, o6, o7, o8⟩, ?_, ?_⟩
  · rw [b1 _ (by omega) (by omega), hM1 _ (by omega)]; exact h0
  · refine kRel_e K (fun q hq => a1 q (by omega) (by omega)) (fun c hc => a7 c (by omega) (by omega) (by omega)) (fun c _ => by rw [a8]) a9 a10 ⟨by rw [a1 _ (by omega) (by omega)]; exact k2.1, by rw [a7 _ (by omega) (by omega) (by omega)]; exact k2.2⟩ ⟨by rw [a2, hlen], by rw [a3, hlen2], fun i hi => ?_⟩ (by rw [a1 _ (by omega) (by omega)]; exact K.2.2.2.2.2.2.2.2.2.1) ⟨by rw [a1 _ (by omega) (by omega)]; exact K.2.2.2.2.2.2.2.2.2.2.2.2.1, by rw [a7 _ (by omega) (by omega) (by omega)]; exact K.2.2.2.2.2.2.2.2.2.2.2.2.2⟩
    rw [a4, a5, a6]
    rcases app_get i hi with ⟨g1, g2⟩ | ⟨g1, g2⟩
    · rw [g2, upd_o _ _ (by omega), upd_o _ _ (by omega), upd_o _ _ (by omega)]; exact k3c i g1
    · rw [g2, g1, upd_s, upd_s, upd_s]; exact ⟨rfl, rfl, rfl⟩
  · have u1 : ∀ q, q ≠ 11 → q ≠ 16 → M'.1 q = M0.1 q := fun q c d => by rw [b1 q c d, hM1 q d]
    have u2 : ∀ c, c ≠ 12 → c ≠ 13 → c ≠ 14 → c ≠ 17 → M'.2 c = M0.2 c := fun c x y z w => by rw [b8 c x y z w, hM2]
    refine mRel_e R (fun q hq => u1 q (by omega) (by omega)) (fun c hc => u2 c (by omega) (by omega) (by omega) (by omega)) ⟨by rw [u1 _ (by omega) (by omega)]; exact r2.1, by rw [u2 _ (by omega) (by omega) (by omega) (by omega), u2 _ (by omega) (by omega) (by omega) (by omega)]; exact r2.2⟩ ⟨by rw [b2, hlen], by rw [b3, hlen2], fun i hi => ?_, fun i hi => ?_⟩ ⟨by rw [u1 _ (by omega) (by omega)]; exact R.2.2.2.2.2.2.2.2.2.2.1.1, by rw [u2 _ (by omega) (by omega) (by omega) (by omega)]; exact R.2.2.2.2.2.2.2.2.2.2.1.2⟩
    · rw [b4, b5, b6, hM2]
      rcases app_get i hi with ⟨g1, g2⟩ | ⟨g1, g2⟩
      · rw [g2, upd_o _ _ (by omega), upd_o _ _ (by omega), upd_o _ _ (by omega)]; exact r3c i g1
      · rw [g2, g1, upd_s, upd_s, upd_s]; exact ⟨rfl, rfl, rfl⟩
    · rw [b7, hM2]
      rcases app_get i hi with ⟨g1, g2⟩ | ⟨g1, g2⟩
      · rw [g2, upd_o _ _ (by omega)]
        have hk : i < (wK W).length := by rw [ht, List.length_append]; omega
        rw [r3d i hk]
        have e : (wK W)[i]? = F[i]? := by rw [ht, List.getElem?_append_left g1]
        rw [List.getElem?_eq_getElem hk, List.getElem?_eq_getElem g1] at e
        rw [Option.some.inj e]
      · rw [g2, g1, upd_s]
theorem op_has (h : wOk W) (K : kRel S W) (R : mRel M W) (x : Int32) : opOk 1 3 0 (pX9_has N x S) (pf_has N x M) := by
  obtain ⟨x, h1, h2, rfl⟩ := zI_of x
  have h10 := h.1.1
  simp only [pX9_has, pX2_putRange, pf_has, pf_has_25, pf_isAttribute, sv_i]
  rw [R.1.1, zL_1, zI_sub, zL_0, r_in h1 h2 (by omega) (by omega) (by omega) (by omega), bs_i, zr_B, bd_i, ← zL_0, il_B, g_attribute K.1 h.1 h1 h2]
  by_cases q : 0 ≤ x ∧ x < (hA (wH W) : Int)
  · obtain ⟨a, rfl⟩ : ∃ a : Nat, x = a := ⟨x.toNat, by omega⟩
    rw [if_pos q, bx_l, if_pos (in_yes (by omega)), g_roomF K h, r_isCrowded R h, bd_i, il_B]
    by_cases q2 : (wK W).length < 8 ∧ (wP W).length < 15
    · rw [if_pos q2, bx_l, decide_eq_true q2.1, decide_eq_true q2.2, if_neg (by decide)]
      have t0 : (mI M 0 0).1 0 = 0 := thr_k
      rw [t0, if_pos (show (0 : Int32) ≤ 0 by decide)]
      obtain ⟨v, S', M', W', e1, e2, e3, e4, e5, e6⟩ := f_fin (N := N) (M := mI M 0 0) (p := (2, (a : Int), 0)) (F := wK W) h K (mRel_0 (v := (0 : Int32)) R) q2.2 q2.1 ⟨[], (List.append_nil _).symm⟩ ⟨by show 2 ≤ 6; omega, fun _ => ⟨by show (0 : Int) ≤ (a : Int); omega, q.2, by show (0 : Int) ≤ 0; omega, by show (0 : Int) < 1000; omega⟩, fun e => absurd e (by show ¬ 2 = 3; omega), fun e => absurd e (by show ¬ 4 ≤ 2; omega)⟩ ⟨fun _ => rfl, fun e => absurd e (by show ¬ 2 = 6; omega), fun e => absurd e (by show ¬ (2 = 4 ∨ 2 = 5); omega)⟩ (A := pX2_put N 0 ((zI (a : Nat) * 1000) + 0) ((zI (a : Nat) * 1000) + 999) 1 S) (B := pf_puts N 2 (zI (a : Nat)) 0 (mI M 0 0)) (by
        rw [show (((wK W).length + 1 : Nat) : Int) - (((wK W).length : Nat) : Int) = 1 by omega, show pcK (2, (a : Int), 0) = 0 from rfl, show pcL (wH W) (2, (a : Int), 0) = (a : Int) * 1000 from rfl, show pcH (wH W) (2, (a : Int), 0) = (a : Int) * 1000 + 999 from rfl]
        show pX2_put N (zI 0) (zI (a : Nat) * zI 1000 + zI 0) (zI (a : Nat) * zI 1000 + zI 999) (zI 1) S = _
        simp only [zI_mul, zI_add]
        rw [Int.add_zero]) rfl (fun _ _ => rfl) rfl (by
        have := (mRel_0 (v := (0 : Int32)) R).2.2.1.2.1
        exact this) thr_k
      have e1 : pX2_put N 0 ((zI (a : Nat) * 1000) + 0) ((zI (a : Nat) * 1000) + 999) (zI 1) S = _ := e1
      rw [e1, e2, bk_i, bk_i, bd_i]
      exact opOk_v rfl rfl e3 e4 e5 e6
    · have hb : (!(decide ((wK W).length < 8) && decide ((wP W).length < 15))) = true := by
        rw [← Bool.decide_and, decide_eq_false q2]; rfl
      rw [if_neg q2, bx_r, hb, if_pos rfl, thr_k, if_neg (by decide)]
      exact opOk_x rfl rfl (Or.inr (Or.inl ⟨rfl, thr_k⟩)) h K (mRel_0 R)
  · rw [if_neg q, bx_r, if_neg (in_no (by omega)), thr_k, if_neg (by decide)]
    exact opOk_x rfl rfl (Or.inl ⟨rfl, thr_k⟩) h K (mRel_0 R)
end O5
