-- LEVEL 2, WHAT CALLS NEED; THE FIRST CALLS
/-- the class's answer and the reference's: alike, the kinds of exceptions by their places -/
def agr (a b c : Nat) (o : Int32 ⊕ Nat) (t v : Int32) : Prop := match o with
  | .inl u => t = 0 ∧ u = v
  | .inr k => (k = a ∧ t = 1) ∨ (k = b ∧ t = 2) ∨ (k = c ∧ t = 3)
section GU
variable {N : Nat} {S : kS} {W : sW}
theorem g_master {m : Nat} (hm : m < 4) : pX9_masterAt N (zI (m : Nat)) S = some (.inl m, S) := by
  simp only [pX9_masterAt]
  rw [zL_0, zL_4, il_lt (by omega) (by omega) (by omega) (by omega), if_neg (by omega), il_lt (by omega) (by omega) (by omega) (by omega), if_pos (by omega), gm_n hm]
theorem g_masterNo {x : Int} (h1 : -2147483648 ≤ x) (h2 : x < 2147483648) (h : ¬ (0 ≤ x ∧ x < 4)) : pX9_masterAt N (zI x) S = some (.inr 1, S) := by
  simp only [pX9_masterAt, pX9_masterAt_9]
  rw [zL_0, zL_4, il_lt h1 h2 (by omega) (by omega), il_lt h1 h2 (by omega) (by omega)]
  by_cases q : x < 0
  · rw [if_pos q]
  · rw [if_neg q, if_neg (by omega)]
theorem g_user {x : Int} (h1 : -2147483648 ≤ x) (h2 : x < 2147483648) : pX9_needUser N (zI x) S = if 0 ≤ x ∧ x < 6 then some (.inl (), S) else some (.inr 1, S) := by
  simp only [pX9_needUser, pX9_needUser_10]
  rw [zL_0, zL_6, il_lt h1 h2 (by omega) (by omega), il_lt h1 h2 (by omega) (by omega)]
  by_cases q : x < 0
  · rw [if_pos q, if_neg (by omega)]
  · rw [if_neg q]
    by_cases q2 : x < 6
    · rw [if_pos q2, if_pos (by omega)]
    · rw [if_neg q2, if_neg (by omega)]
theorem g_entry {t : Nat} {T : sT} (R : tOk S t T) {x : Int} (h1 : -2147483648 ≤ x) (h2 : x < 2147483648) : pX9_needEntry N t (zI x) S = if tLv T x = true then some (.inl (), S) else some (.inr 1, S) := by
  simp only [pX9_needEntry]
  rw [q_isLive R h1 h2, bk_i, il_B]
theorem g_changeable {t : Nat} {T : sT} (R : tOk S t T) {x : Int} (h1 : -2147483648 ≤ x) (h2 : x < 2147483648) : pX9_needChangeable N t (zI x) S = if x ≠ 0 ∧ tLv T x = true then some (.inl (), S) else some (.inr 1, S) := by
  simp only [pX9_needChangeable]
  rw [zL_0, il_eq h1 h2 (by omega) (by omega), g_entry R h1 h2]
  by_cases q : x = 0
  · rw [if_pos q, if_neg (fun h => h.1 q)]
  · rw [if_neg q]
    by_cases q2 : tLv T x = true
    · rw [if_pos q2, if_pos ⟨q, q2⟩, bx_l]
    · rw [if_neg q2, if_neg (fun h => q2 h.2), bx_r]
theorem g_attribute {H : sH} (hH : hR S H) (hw : hW H) {x : Int} (h1 : -2147483648 ≤ x) (h2 : x < 2147483648) : pX9_needAttribute N (zI x) S = if 0 ≤ x ∧ x < (hA H : Int) then some (.inl (), S) else some (.inr 1, S) := by
  have := hw.1
  simp only [pX9_needAttribute, pX9_needAttribute_15]
  rw [zL_0, il_lt h1 h2 (by omega) (by omega), hH.1, il_lt h1 h2 (by omega) (by omega)]
  by_cases q : x < 0
  · rw [if_pos q, if_neg (by omega)]
  · rw [if_neg q]
    by_cases q2 : x < (hA H : Int)
    · rw [if_pos q2, if_pos (by omega)]
    · rw [if_neg q2, if_neg (by omega)]
theorem g_class {H : sH} (hH : hR S H) (hw : hW H) {x : Int} (h1 : -2147483648 ≤ x) (h2 : x < 2147483648) : pX9_needClass N (zI x) S = if hIs H x = true then some (.inl (), S) else some (.inr 1, S) := by
  simp only [pX9_needClass]
  rw [q_isClass hH hw h1 h2, bk_i, il_B]
theorem g_scope {x : Int} (h1 : -2147483648 ≤ x) (h2 : x < 2147483648) : pX9_needScope N (zI x) S = if 0 ≤ x ∧ x < 3 then some (.inl (), S) else some (.inr 1, S) := by
  simp only [pX9_needScope, pX9_needScope_9]
  rw [zL_0, zL_3, il_lt h1 h2 (by omega) (by omega), il_lt h1 h2 (by omega) (by omega)]
  by_cases q : x < 0
  · rw [if_pos q, if_neg (by omega)]
  · rw [if_neg q]
    by_cases q2 : x < 3
    · rw [if_pos q2, if_pos (by omega)]
    · rw [if_neg q2, if_neg (by omega)]
theorem g_right {x : Int} (h1 : -2147483648 ≤ x) (h2 : x < 2147483648) : pX9_needRight N (zI x) S = if 0 ≤ x ∧ x < 2 then some (.inl (), S) else some (.inr 1, S) := by
  simp only [pX9_needRight, pX9_needRight_9]
  rw [zL_0, zL_2, il_lt h1 h2 (by omega) (by omega), il_lt h1 h2 (by omega) (by omega)]
  by_cases q : x < 0
  · rw [if_pos q, if_neg (by omega)]
  · rw [if_neg q]
    by_cases q2 : x < 2
    · rw [if_pos q2, if_pos (by omega)]
    · rw [if_neg q2, if_neg (by omega)]
theorem g_index {x : Int} (h1 : -2147483648 ≤ x) (h2 : x < 2147483648) : pX9_needIndex N (zI x) S = if 0 ≤ x then some (.inl (), S) else some (.inr 1, S) := by
  simp only [pX9_needIndex]
  rw [zL_0, il_le (by omega) (by omega) h1 h2]
theorem g_value {x : Int} (h1 : -2147483648 ≤ x) (h2 : x < 2147483648) : pX9_needValue N (zI x) S = if 0 ≤ x ∧ x < 1000 then some (.inl (), S) else some (.inr 2, S) := by
  simp only [pX9_needValue, pX9_needValue_11]
  rw [zL_0, zL_1000, il_lt h1 h2 (by omega) (by omega), il_lt h1 h2 (by omega) (by omega)]
  by_cases q : x < 0
  · rw [if_pos q, if_neg (by omega)]
  · rw [if_neg q]
    by_cases q2 : x < 1000
    · rw [if_pos q2, if_pos (by omega)]
    · rw [if_neg q2, if_neg (by omega)]
theorem g_name {x : Int} (h1 : -2147483648 ≤ x) (h2 : x < 2147483648) : pX9_needName N (zI x) S = if 0 ≤ x ∧ x < 100 then some (.inl (), S) else some (.inr 2, S) := by
  simp only [pX9_needName, pX9_needName_10]
  rw [zL_0, zL_100, il_lt h1 h2 (by omega) (by omega), il_lt h1 h2 (by omega) (by omega)]
  by_cases q : x < 0
  · rw [if_pos q, if_neg (by omega)]
  · rw [if_neg q]
    by_cases q2 : x < 100
    · rw [if_pos q2, if_pos (by omega)]
    · rw [if_neg q2, if_neg (by omega)]
theorem g_room {o : List Nat} (L : lgR S o) (hl : o.length ≤ 250) : pX9_needRoom N S = if o.length < 250 then some (.inl (), S) else some (.inr 3, S) := by
  simp only [pX9_needRoom]
  rw [q_logSize L, bk_i, zL_250, il_lt (by omega) (by omega) (by omega) (by omega)]
  by_cases q : o.length < 250
  · rw [if_pos (by omega), if_pos q]
  · rw [if_neg (by omega), if_neg q]
theorem g_need {b : Bool} : pX9_need N (zB b) S = if b = true then some (.inl (), S) else some (.inr 3, S) := by
  simp only [pX9_need]
  rw [il_B]
theorem g_write (hN : 900 ≤ N) (h : wOk W) (R : kRel S W) {m : Nat} (hm : m < 4) {x : Int} (h1 : -2 ≤ x) (h2 : x < 48) : pX9_needWrite N m (zI x) S = if tMay (wH W) (wTr W m) (wU W m) x 1 = true then some (.inl (), S) else some (.inr 3, S) := by
  have hu := h.2.2.2.2.2.1 m hm
  simp only [pX9_needWrite]
  have e := q_grants (N := N) (kRel_t h R hm) R.1 hN hu (what := 1) (by omega) h1 h2
  have e : pX8_grants N m (zI (wU W m : Nat)) (zI x) 1 S = _ := e
  rw [R.2.2.2.2.2.2.1 m hm, e, bk_i, il_B]
theorem g_free (hN : 48 ≤ N) {t : Nat} {T : sT} (R : tOk S t T) {place name but : Int} (h1 : -3 ≤ place) (h2 : place < 1000) (h3 : -1 ≤ name) (h4 : name < 1000) (h5 : -1 ≤ but) (h6 : but < 1000) : pX9_needFreeName N t (zI place) (zI name) (zI but) S = if tShd T place name but = true then some (.inr 3, S) else some (.inl (), S) := by
  simp only [pX9_needFreeName]
  rw [q_isShown R hN h1 h2 h3 h4 h5 h6, bk_i, il_B]
end GU
theorem rCh_e {M M' : mS} {k : Nat} {c : sCh} (h : ∀ d, 23 ≤ d → d ≤ 35 → M'.2 d = M.2 d) (R : rCh M k c) : rCh M' k c := by
  unfold rCh at *
  rw [h 26 (by omega) (by omega), h 27 (by omega) (by omega), h 23 (by omega) (by omega), h 24 (by omega) (by omega), h 25 (by omega) (by omega), h 28 (by omega) (by omega), h 29 (by omega) (by omega), h 30 (by omega) (by omega), h 32 (by omega) (by omega), h 33 (by omega) (by omega), h 34 (by omega) (by omega), h 35 (by omega) (by omega)]
  exact R
theorem rT_e {M M' : mS} {T : sT} (h0 : M'.1 47 = M.1 47) (h : ∀ d, 38 ≤ d → d ≤ 51 → M'.2 d = M.2 d) (R : rT M T) : rT M' T := by
  obtain ⟨r1, r2, r3, r4, r5, r6, r7, r8⟩ := R
  exact ⟨by rw [h _ (by omega) (by omega)]; exact r1, by rw [h _ (by omega) (by omega)]; exact r2, by rw [h _ (by omega) (by omega)]; exact r3, by rw [h _ (by omega) (by omega)]; exact r4, by rw [h _ (by omega) (by omega)]; exact r5, by rw [h _ (by omega) (by omega)]; exact r6, rVs_fr h0 (h _ (by omega) (by omega)) (h _ (by omega) (by omega)) (h _ (by omega) (by omega)) r7, by rw [h _ (by omega) (by omega)]; exact r8⟩
theorem rLd_e {M M' : mS} {T : sT} (h0 : M'.1 47 = M.1 47) (h : ∀ d, 38 ≤ d → d ≤ 51 → M'.2 d = M.2 d) (R : rLd M T) : rLd M' T := by
  obtain ⟨r1, r2, r3, r4⟩ := R
  exact ⟨rT_e h0 h r1, r2, fun e he => by rw [h _ (by omega) (by omega)]; exact r3 e he, fun e he ht => by rw [h _ (by omega) (by omega)]; exact r4 e he ht⟩
theorem rWh_e {M M' : mS} {H : sH} {cs : Nat → sCh} {tl : Nat → Nat → Nat → Nat} {o : List Nat} (h1 : M'.1 37 = M.1 37) (h0 : M'.1 47 = M.1 47) (h : ∀ d, 38 ≤ d → d ≤ 51 → M'.2 d = M.2 d) (R : rWh M H cs tl o) : rWh M' H cs tl o := by
  rcases R with R | ⟨m, a, b, c⟩
  · exact Or.inl (by rw [h1]; exact R)
  · exact Or.inr ⟨m, a, by rw [h1]; exact b, rLd_e h0 h c⟩
theorem rSc_e {M M' : mS} {H : sH} (h1 : M'.1 1 = M.1 1) (h2 : M'.1 4 = M.1 4) (h : ∀ d, d ≤ 7 → M'.2 d = M.2 d) (R : rSc M H) : rSc M' H := by
  obtain ⟨r1, r2, r3, r4, r5, r6, r7⟩ := R
  exact ⟨by rw [h1]; exact r1, by rw [h2]; exact r2, by rw [h _ (by omega)]; exact r3, by rw [h _ (by omega)]; exact r4, by rw [h _ (by omega)]; exact r5, by rw [h 6 (by omega)]; exact r6, by rw [h 6 (by omega), h 7 (by omega)]; exact r7⟩
section O1
variable {N : Nat} {S : kS} {M : mS} {W : sW}
/-- what a call must come to -/
def opOk (a b c : Nat) (A : Option ((Int32 ⊕ Nat) × kS)) (B : Option (Int32 × mS)) : Prop := ∃ o S' v M' W', A = some (o, S') ∧ B = some (v, M') ∧ agr a b c o (M'.1 0) v ∧ wOk W' ∧ kRel S' W' ∧ mRel M' W'
theorem opOk_x {a b c : Nat} {A : Option ((Int32 ⊕ Nat) × kS)} {B : Option (Int32 × mS)} {k : Nat} {S' : kS} {v : Int32} {M' : mS} {W' : sW} (h1 : A = some (.inr k, S')) (h2 : B = some (v, M')) (h3 : (k = a ∧ M'.1 0 = 1) ∨ (k = b ∧ M'.1 0 = 2) ∨ (k = c ∧ M'.1 0 = 3)) (h4 : wOk W') (h5 : kRel S' W') (h6 : mRel M' W') : opOk a b c A B := ⟨.inr k, S', v, M', W', h1, h2, h3, h4, h5, h6⟩
theorem opOk_v {a b c : Nat} {A : Option ((Int32 ⊕ Nat) × kS)} {B : Option (Int32 × mS)} {S' : kS} {v : Int32} {M' : mS} {W' : sW} (h1 : A = some (.inl v, S')) (h2 : B = some (v, M')) (h3 : M'.1 0 = 0) (h4 : wOk W') (h5 : kRel S' W') (h6 : mRel M' W') : opOk a b c A B := ⟨.inl v, S', v, M', W', h1, h2, ⟨h3, rfl⟩, h4, h5, h6⟩
theorem fails_i {k : Int32} : pf_fails N k M = some ((0 : Int32), mI M 0 k) := rfl
/-- serve -/
theorem op_serve (h : wOk W) (K : kRel S W) (R : mRel M W) (x y : Int32) : opOk 1 0 0 (pX9_serve N x y S) (pf_serve N x y M) := by
  obtain ⟨x, h1, h2, rfl⟩ := zI_of x
  obtain ⟨y, h3, h4, rfl⟩ := zI_of y
  simp only [pX9_serve, pf_serve, pf_serve_21, sv_i, nm_i, svk_i]
  rw [r_isMaster h1 h2, bs_i, il_B]
  by_cases q : 0 ≤ x ∧ x < 4
  · obtain ⟨m, rfl⟩ : ∃ m : Nat, x = m := ⟨x.toNat, by omega⟩
    have hm : m < 4 := by omega
    rw [if_pos (by rw [decide_eq_true (show 0 ≤ (m : Int) by omega), decide_eq_true (show (m : Int) ≤ 3 by omega)]; rfl), g_master hm, bx_l, gn_l hm, g_user h3 h4]
    have e5 : pf_in N (zI y) 0 5 = some (zB (decide (0 ≤ y) && decide (y ≤ 5))) := r_in (a := 0) (b := 5) h3 h4 (by omega) (by omega) (by omega) (by omega)
    rw [e5, bs_i, il_B]
    by_cases q2 : 0 ≤ y ∧ y < 6
    · obtain ⟨u, rfl⟩ : ∃ u : Nat, y = u := ⟨y.toNat, by omega⟩
      rw [if_pos q2, bx_l, if_pos (by rw [decide_eq_true (show 0 ≤ (u : Int) by omega), decide_eq_true (show (u : Int) ≤ 5 by omega)]; rfl), K.2.2.2.2.2.2.1 m hm]
      simp only [gd_n hm (show (4 : Nat) < 2147483648 by omega), zI_cn (show m < 2147483648 by omega)]
      rw [mI_2, R.2.2.2.2.2.2.1 m hm]
      obtain ⟨o1, o2, o3, o4, o5, o6, o7, o8⟩ := h
      refine opOk_v (W' := wMk (wH W) (wD W) (wP W) (wK W) (wC W) (wN W) (wO W) (wT W) (wX W) (upf (wU W) m u) (wE W) (wF W)) rfl rfl ?_ ⟨o1, o2, o3, o4, o5, fun j hj => ?_, o7, o8⟩ ?_ ?_
      · rw [mA_1, mI_1, upd_s]
      · show upf (wU W) m u j < 6
        by_cases g : j = m
        · rw [g, upf_s]; omega
        · rw [upf_o _ _ g]; exact o6 j hj
      · have u : ∀ k, k ≠ 17 + 4 * m → kI (sI S (17 + 4 * m) (zI (u : Nat))) k = kI S k := fun k hk => upd_o _ _ hk
        obtain ⟨k1, ⟨k2, k3⟩, ⟨k4, k5, k6⟩, k7, ⟨k8, k9⟩, k10, k11, k12, k13, k14, k15, k16, ⟨k17, k18⟩⟩ := K
        refine ⟨fr_hR k1 (fun q hq => u q (by omega)) (fun c _ => rfl), ⟨by rw [u _ (by omega)]; exact k2, k3⟩, ⟨by rw [u _ (by omega)]; exact k4, by rw [u _ (by omega)]; exact k5, k6⟩, k7, ⟨lgR_fr (u _ (by omega)) rfl k8, k9⟩, fun j hj => tdR_fr (u _ (by omega)) rfl (k10 j hj), fun j hj => ?_, fun j hj => by rw [u _ (by omega)]; exact k12 j hj, k13, by rw [u _ (by omega)]; exact k14, fun j hj => tR_other (fun q a b => u q (by omega)) (fun _ _ _ => rfl) (fun _ _ _ => rfl) rfl rfl (k15 j hj), k16, ⟨by rw [u _ (by omega)]; exact k17, k18⟩⟩
        show _ = zI (upf (wU W) m _ j : Nat)
        by_cases g : j = m
        · rw [g, upf_s, kI_sI, upd_s]
        · rw [upf_o _ _ g, kI_sI, upd_o _ _ (by omega)]; exact k11 j hj
      · have R0 := mRel_0 (v := (0 : Int32)) R
        obtain ⟨r1, r2, ⟨r4, r5, r6, r7⟩, ⟨r8, r9, r10⟩, r11, r12, r13, r14, r15, r16, ⟨r17, r18⟩, r19⟩ := R0
        have u2 : ∀ c, c ≠ 18 → (mA (mI M 0 0) 18 m (zI (u : Nat))).2 c = (mI M 0 0).2 c := fun c hc => mA_o _ _ _ hc
        refine ⟨rSc_e (M := mI M 0 0) rfl rfl (fun d hd => u2 d (by omega)) r1, ⟨r2.1, by rw [u2 _ (by omega), u2 _ (by omega)]; exact r2.2⟩, ⟨r4, r5, by rw [u2 _ (by omega), u2 _ (by omega), u2 _ (by omega)]; exact r6, by rw [u2 _ (by omega)]; exact r7⟩, ⟨r8, r9, fun k hk => ⟨rCh_e (fun d a b => u2 d (by omega)) (r10 k hk).1, (r10 k hk).2⟩⟩, by rw [u2 _ (by omega)]; exact r11, ?_, fun j hj => ?_, by rw [u2 _ (by omega)]; exact r14, r15, rWh_e (M := mI M 0 0) rfl rfl (fun d a b => u2 d (by omega)) r16, ⟨r17, by rw [u2 _ (by omega)]; exact r18⟩, by rw [u2 33 (by omega)]; exact r19⟩
        · unfold rVw at *; rw [u2 _ (by omega)]; exact r12
        · rw [mA_s]
          show _ = zI (upf (wU W) m _ j : Nat)
          by_cases g : j = m
          · rw [g, upf_s, upd_s]
          · rw [upf_o _ _ g, upd_o _ _ (by omega)]; exact r13 j hj
    · rw [if_neg q2, bx_r, if_neg (by rw [Bool.and_eq_true, decide_eq_true_eq, decide_eq_true_eq]; omega), fails_i, bd_i]
      exact opOk_x rfl rfl (Or.inl ⟨rfl, by rw [mI_1, upd_s]⟩) h K (mRel_0 (mRel_0 R))
  · rw [if_neg (by rw [Bool.and_eq_true, decide_eq_true_eq, decide_eq_true_eq]; omega), g_masterNo h1 h2 q, bx_r, fails_i, bd_i]
    exact opOk_x rfl rfl (Or.inl ⟨rfl, by rw [mI_1, upd_s]⟩) h K (mRel_0 (mRel_0 R))
end O1
