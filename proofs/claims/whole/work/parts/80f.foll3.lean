-- LEVEL 2, THE CALL FOLLOW: THE REFERENCE
def fM (M : mS) (W : sW) (met : Nat → Nat → Bool) (st F : List Nat) : Prop := mRel M (wFd W F) ∧ M.1 0 = 0 ∧ M.1 54 = zI (st.length : Nat) ∧ (∀ s (h : s < st.length), M.2 55 (st.length - 1 - s) = zI (st[s] : Nat)) ∧ ∀ m e, m < 4 → e < 48 → M.2 56 (48 * m + e) = zB (met m e)
section FC
variable {N : Nat} {M : mS} {W : sW} {u sc : Nat} {met : Nat → Nat → Bool} {st F : List Nat}
theorem fM_lays (hN : 20000 ≤ N) (h : wOk W) (hF : F.length ≤ 192) (hF2 : ∀ s ∈ F, s < 400) (R : fM M W met st F) {m : Nat} (hm : m < 4) : ∃ M', pf_lays N (zI (m : Nat)) M = some ((0 : Int32), M') ∧ rLd M' (wTr W m) ∧ fM M' W met st F := by
  obtain ⟨r1, r2, r3, r4, r5⟩ := R
  obtain ⟨M', e1, L, -, R', f⟩ := w_lays (N := N) hN (wFd_ok h hF hF2) r1 hm
  exact ⟨M', e1, L, R', by rw [f.1 0 (by omega) (by omega)]; exact r2, by rw [f.1 54 (by omega) (by omega)]; exact r3, by rw [f.2 55 (by omega)]; exact r4, by rw [f.2 56 (by omega)]; exact r5⟩
theorem r_arrives_15 (hN : 20000 ≤ N) (h : wOk W) (hF : F.length ≤ 192) (hF2 : ∀ s ∈ F, s < 400) : ∀ (fuel n m e : Nat) (met : Nat → Nat → Bool) (M : mS), unM met < n → n ≤ fuel → m < 4 → e < 100 → fM M W met st F → rLd M (wTr W m) → ∃ M', pf_arrives_15 N (pf_arrives_59 N) fuel (zI (m : Nat)) (zI (e : Nat)) M = some (zI (arS (arr W n met m e).2), M') ∧ fM M' W (arr W n met m e).1 st F ∧ ∀ a b, (arr W n met m e).2 = some (a, b) → rLd M' (wTr W a) := by
  intro fuel
  induction fuel with
  | zero => exact fun n m e met M hk hn hm he R L => absurd (Nat.lt_of_lt_of_le hk hn) (Nat.not_lt_zero _)
  | succ fuel ih =>
    intro n m e met M hk hn hm he R L
    simp only [pf_arrives_15, pf_arrives_90, pf_arrives_112, sv_i]
    cases n with
    | zero => omega
    | succ n =>
      have l100 : ∀ z : Int, -2147483648 ≤ z → z < 2147483648 → ((zI z < (100 : Int32)) ↔ z < 100) := fun z h1 h2 => by rw [zL_100, zI_lt h1 h2 (by omega) (by omega)]
      have lm1 : ∀ z : Int, -2147483648 ≤ z → z < 2147483648 → ((zI z = (-1 : Int32)) ↔ z = -1) := fun z h1 h2 => by rw [zL_m1, zI_eq h1 h2 (by omega) (by omega)]
      rw [r_isLive L.1 (by omega) (by omega), bd_i, il_B]
      unfold arr
      by_cases q1 : tLv (wTr W m) (e : Nat) = true
      · have he48 : e < 48 := by have := tLv_lt q1; omega
        have hmet := R.2.2.2.2 m e hm he48
        have ei : ((48 : Int32) * zI (m : Nat)) + zI (e : Nat) = zI ((48 * m + e : Nat) : Int) := by
          rw [zL_48, zI_mul, zI_add]
          congr 1
        have hk2 := L.2.1.2.2.2.2.1 e he48
        have b1 : vp_nar .boolean (1 : Int32) = zB true := zB_nar true
        rw [if_pos q1, ei, gd_n (show 48 * m + e < 192 by omega) (by omega), zI_cn (show 48 * m + e < 2147483648 by omega), hmet, il_B]
        by_cases q2 : met m e = true
        · rw [if_pos q2, if_neg (fun g => by rw [q2] at g; exact Bool.noConfusion g.2)]
          exact ⟨M, rfl, R, fun a b g => by cases g⟩
        · have q2f := Bool.eq_false_iff.mpr q2
          have um := unM_s hm he48 q2f
          have R' : fM (mA M 56 (48 * m + e) (zB true)) W (mt2 met m e) st F := by
            obtain ⟨r1, r2, r3, r4, r5⟩ := R
            refine ⟨mRel_x (W := wFd W F) r1 (fun _ _ _ => rfl) (fun c hc _ => mA_o _ _ _ (by omega)), r2, r3, by rw [mA_o _ _ _ (by omega)]; exact r4, fun a b ha hb => ?_⟩
            rw [mA_s]
            by_cases z : a = m ∧ b = e
            · obtain ⟨rfl, rfl⟩ := z
              rw [upd_s, mt2_s]
            · rw [upd_o _ _ (by omega), mt2_o z]
              exact r5 a b ha hb
          have L' : rLd (mA M 56 (48 * m + e) (zB true)) (wTr W m) := rLd_e (M := M) rfl (fun d a b => mA_o _ _ _ (by omega)) L
          have r43 := L'.1.2.2.2.2.2.1 e he48
          rw [if_neg q2, if_pos (show tLv (wTr W m) (e : Nat) = true ∧ met m e = false from ⟨q1, q2f⟩), b1]
          simp only [gd_n (show 48 * m + e < 192 by omega) (show (192 : Nat) < 2147483648 by omega), gd_n he48 (show (48 : Nat) < 2147483648 by omega), zI_cn (show e < 2147483648 by omega)]
          rw [r43]
          by_cases q3 : tLk (wTr W m) e = -1
          · rw [if_pos ((lm1 _ (by omega) (by omega)).mpr q3), if_pos q3]
            simp only [pf_arrives_59]
            rw [zL_100, zI_mul, zI_add, show (100 : Int) * (m : Nat) + (e : Nat) = ((100 * m + e : Nat) : Int) by omega]
            refine ⟨_, rfl, R', fun a b g => ?_⟩
            have g : some (m, e) = some (a, b) := g
            cases g
            exact L'
          · rw [if_neg (fun g => q3 ((lm1 _ (by omega) (by omega)).mp g)), if_neg q3]
            by_cases q4 : tLk (wTr W m) e < 100
            · obtain ⟨l, hl⟩ : ∃ l : Nat, tLk (wTr W m) e = l := ⟨(tLk (wTr W m) e).toNat, by omega⟩
              obtain ⟨M2, c1, c2, c3⟩ := fM_lays (N := N) hN h hF hF2 R' hm
              rw [if_pos ((l100 _ (by omega) (by omega)).mpr q4), if_pos ((l100 _ (by omega) (by omega)).mpr q4), if_pos q4, c1, bd_i, hl, Int.toNat_natCast]
              exact ih n m l (mt2 met m e) M2 (by omega) (by omega) hm (by omega) c3 c2
            · obtain ⟨l, hl⟩ : ∃ l : Nat, tLk (wTr W m) e - 100 = l := ⟨(tLk (wTr W m) e - 100).toNat, by omega⟩
              have el : zI (tLk (wTr W m) e) - (100 : Int32) = zI (l : Nat) := by rw [zL_100, zI_sub, hl]
              obtain ⟨M2, c1, c2, c3⟩ := fM_lays (N := N) hN h hF hF2 R' (m := l) (by omega)
              rw [if_neg (fun g => q4 ((l100 _ (by omega) (by omega)).mp g)), if_neg (fun g => q4 ((l100 _ (by omega) (by omega)).mp g)), if_neg q4, el, c1, bd_i, hl, Int.toNat_natCast]
              exact ih n l e (mt2 met m e) M2 (by omega) (by omega) (by omega) he c3 c2
      · rw [if_neg q1, if_neg (fun g => q1 g.1)]
        exact ⟨M, rfl, R, fun a b g => by cases g⟩
theorem r_arrives (hN : 20000 ≤ N) (h : wOk W) (hF : F.length ≤ 192) (hF2 : ∀ s ∈ F, s < 400) (R : fM M W met st F) {x : Nat} (h1 : x / 100 < 4) : ∃ M', pf_arrives N (zI (x : Nat)) M = some (zI (arS (arr W 193 met (x / 100) (x % 100)).2), M') ∧ fM M' W (arr W 193 met (x / 100) (x % 100)).1 st F ∧ ∀ a b, (arr W 193 met (x / 100) (x % 100)).2 = some (a, b) → rLd M' (wTr W a) := by
  have d1 : zI (x : Nat) / (100 : Int32) = zI ((x / 100 : Nat) : Int) := by
    rw [zL_100, zI_div (by omega) (by omega) (by omega) (by omega)]
    congr 1
  have d2 : zI (x : Nat) - zI ((x / 100 : Nat) : Int) * (100 : Int32) = zI ((x % 100 : Nat) : Int) := by
    rw [zL_100, zI_mul, zI_sub]
    congr 1
    omega
  obtain ⟨M1, e1, e2, e3⟩ := fM_lays (N := N) hN h hF hF2 R h1
  have um := unM_le met
  obtain ⟨M2, c1, c2, c3⟩ := r_arrives_15 (N := N) hN h hF hF2 N 193 (x / 100) (x % 100) met M1 (by omega) (by omega) h1 (by omega) e3 e2
  simp only [pf_arrives, nm_i]
  rw [d1, d2, e1, bd_i, c1]
  exact ⟨M2, rfl, c2, c3⟩
theorem r_looks (hN : 20000 ≤ N) (h : wOk W) (hu : u < 6) (hK1 : (wK W).length = 1) (hF : F.length < 192) (hF2 : ∀ s ∈ F, s < 400) (R : fM M W met st F) {a b : Nat} (ha : a < 4) (hb : b < 48) (L : rLd M (wTr W a)) : ∃ M', pf_looks N (zI ((100 * a + b : Nat) : Int)) (zI (u : Nat)) M = some ((0 : Int32), M') ∧ fM M' W met st (nxF W u (some (a, b)) F) ∧ rLd M' (wTr W a) := by
  have hW := wFd_ok h (show F.length ≤ 192 by omega) hF2
  obtain ⟨r1, r2, r3, r4, r5⟩ := R
  obtain ⟨M2, e1, e2⟩ := r_fits (N := N) (W := wFd W F) (T := wTr W a) (by omega) hW r1 hK1 L (wTr_X h a) hb
  have e1 : pf_fits N (zI (b : Nat)) M = some (zB (wFt W (wTr W a) b), M2) := e1
  have L2 : rLd M2 (wTr W a) := rLd_e (by rw [e2.1]) (fun d a b => e2.2 d (by omega)) L
  have R2 := mRel_15 r1 e2
  have em := r_mayDo (N := N) (M := M2) (H := wH W) (by omega) R2.1 h.1 L2 (wTr_X h a) hu (what := 0) (by omega) (x := (b : Int)) (by omega) (by omega)
  have em : pf_mayDo N (zI (u : Nat)) (zI (b : Nat)) 0 M2 = _ := em
  have f0 : fM M2 W met st F := ⟨R2, by rw [e2.1]; exact r2, by rw [e2.1]; exact r3, by rw [e2.2 55 (by omega)]; exact r4, by rw [e2.2 56 (by omega)]; exact r5⟩
  simp only [pf_looks, sv_i]
  rw [spot_1 (by omega) (by omega), spot_2, e1, bd_i, il_B]
  show ∃ M', _ = some ((0 : Int32), M') ∧ fM M' W met st (if lok W u a b = true then F ++ [100 * a + b] else F) ∧ _
  unfold lok
  by_cases q1 : wFt W (wTr W a) b = true
  · rw [if_pos q1, q1, Bool.true_and, em, bd_i, il_B]
    by_cases q2 : tMay (wH W) (wTr W a) u (b : Nat) 0 = true
    · have fo := R2.2.2.2.2.2.2.2.2.2.2.1
      have f1 : M2.1 52 = zI (F.length : Nat) := fo.1
      have f2 : ∀ j (hj : j < F.length), M2.2 53 j = zI (F[j] : Nat) := fo.2
      rw [if_pos q2, if_pos q2, f1, gd_n hF (by omega), zI_cn (by omega), mA_1, f1, zL_1, zI_add, show (F.length : Int) + 1 = ((F.length + 1 : Nat) : Int) by omega]
      refine ⟨_, rfl, ⟨mRel_F (W := wFd W F) R2 (fun q a b => by rw [mI_1, upd_o _ _ (by omega), mA_1]) (fun c a b => by rw [mI_2, mA_o _ _ _ (by omega)]) ⟨by rw [mI_1, upd_s, List.length_append, List.length_singleton], fun j hj => ?_⟩, ?_, ?_, ?_, ?_⟩, rLd_e (by rw [mI_1, upd_o _ _ (by omega), mA_1]) (fun d a b => by rw [mI_2, mA_o _ _ _ (by omega)]) L2⟩
      · rw [mI_2, mA_s]
        rw [List.length_append, List.length_singleton] at hj
        by_cases z : j = F.length
        · subst z
          rw [upd_s, List.getElem_append_right (Nat.le_refl _)]
          simp
        · rw [upd_o _ _ z, List.getElem_append_left (by omega)]
          exact f2 j (by omega)
      · rw [mI_1, upd_o _ _ (by omega), mA_1]; exact f0.2.1
      · rw [mI_1, upd_o _ _ (by omega), mA_1]; exact f0.2.2.1
      · rw [mI_2, mA_o _ _ _ (by omega)]; exact f0.2.2.2.1
      · rw [mI_2, mA_o _ _ _ (by omega)]; exact f0.2.2.2.2
    · rw [if_neg q2, if_neg q2]
      exact ⟨M2, rfl, f0, L2⟩
  · rw [if_neg q1, Bool.eq_false_iff.mpr q1, Bool.false_and, if_neg (by decide)]
    exact ⟨M2, rfl, f0, L2⟩
/-- the queue above a place holds l, the least one last -/
def qR (M : mS) (a c : Nat) (l : List Nat) : Prop := M.1 54 = zI ((c + l.length : Nat) : Int) ∧ ∀ s x, l[s]? = some x → M.2 55 (c + l.length - 1 - s) = zI (spt a x : Nat)
def qF (M M' : mS) (c : Nat) : Prop := (∀ q, q ≠ 54 → M'.1 q = M.1 q) ∧ (∀ d, d ≠ 55 → M'.2 d = M.2 d) ∧ ∀ j, j < c → M'.2 55 j = M.2 55 j
theorem r_waits_40 {T : sT} (L : rLd M T) {a b c e : Nat} (ha : a < 4) (hb : b < 48) (he : e < 48) (hth : tTh T e = true) {l : List Nat} (hl : nSt l) (hlm : ∀ x ∈ l, ∃ f, f < 48 ∧ tTh T f = true ∧ x = tRk T f ∧ tSh T f ≠ tSh T e) (hc : c + l.length < 399) {k94 : Int32 → Int32 → Int32 → Int32 → mS → Option (Int32 × mS)} : ∀ (fuel k t : Nat) (M' : mS), t + k = l.length → k < fuel → t ≤ nCt l (tRk T e) → qF M M' c → (∀ s x, l[s]? = some x → s < t → M'.2 55 (c + l.length - s) = zI (spt a x : Nat)) → (∀ s x, l[s]? = some x → t ≤ s → M'.2 55 (c + l.length - 1 - s) = zI (spt a x : Nat)) → ∃ M2, pf_waits_40 N k94 fuel (zI ((100 * a + b : Nat) : Int)) (zI (c : Nat)) (zI (e : Nat)) (zI ((c + l.length - t : Nat) : Int)) M' = k94 (zI ((100 * a + b : Nat) : Int)) (zI (c : Nat)) (zI (e : Nat)) (zI ((c + l.length - nCt l (tRk T e) : Nat) : Int)) M2 ∧ qF M M2 c ∧ M2.1 = M'.1 ∧ (∀ s x, l[s]? = some x → s < nCt l (tRk T e) → M2.2 55 (c + l.length - s) = zI (spt a x : Nat)) ∧ (∀ s x, l[s]? = some x → nCt l (tRk T e) ≤ s → M2.2 55 (c + l.length - 1 - s) = zI (spt a x : Nat))
  | 0, k, t, M', hk, hn, ht, f, h1, h2 => by omega
  | fuel + 1, k, t, M', hk, hn, ht, f, h1, h2 => by
    have hnc := nCt_le l (tRk T e)
    have lt_of : ∀ {s x : Nat}, l[s]? = some x → s < l.length := fun hx => (List.getElem?_eq_some_iff.mp hx).1
    simp only [pf_waits_40, nm_i, sv_i]
    rw [il_le (by omega) (by omega) (by omega) (by omega)]
    cases k with
    | zero =>
      have : t = l.length := by omega
      subst this
      have hnt : nCt l (tRk T e) = l.length := by omega
      rw [if_pos (by omega), hnt]
      exact ⟨M', rfl, f, rfl, fun s x hx _ => h1 s x hx (lt_of hx), fun s x hx g => by have := lt_of hx; omega⟩
    | succ k =>
      have htl : t < l.length := by omega
      obtain ⟨g, g1, g2, g3, g4⟩ := hlm _ (List.getElem_mem htl)
      have L' : rLd M' T := rLd_e (f.1 47 (by omega)) (fun d a b => f.2.1 d (by omega)) L
      have hsg := tSh_rg L.2.1 g1
      have hse := tSh_rg L.2.1 he
      have rt := h2 t _ (List.getElem?_eq_getElem htl) (Nat.le_refl _)
      have em : l[t] % 48 = g := by rw [g3]; exact tRk_mod g1
      have es : spt a l[t] = 100 * a + g := by unfold spt; rw [em]
      have ek : zI ((c + l.length - t : Nat) : Int) - (1 : Int32) = zI ((c + l.length - 1 - t : Nat) : Int) := by
        rw [zL_1, zI_sub]; congr 1; omega
      have ek2 : zI ((c + l.length - t : Nat) : Int) + (-1 : Int32) = zI ((c + l.length - (t + 1) : Nat) : Int) := by
        rw [zL_m1, zI_add]; congr 1; omega
      have dv : zI ((100 * a + g : Nat) : Int) - zI ((100 * a + g : Nat) : Int) / (100 : Int32) * (100 : Int32) = zI (g : Nat) := by
        rw [spot_1 (by omega) (by omega), spot_2]
      have hlt : (l[t] : Int) < (tRk T e : Nat) ↔ t < nCt l (tRk T e) := nCt_at hl htl
      have hrk : (l[t] : Int) < (tRk T e : Nat) ↔ tSh T g < tSh T e := by
        rw [g3]
        unfold tRk
        constructor <;> intro _ <;> omega
      rw [if_neg (by omega), ek]
      simp only [gd_n (show c + l.length - 1 - t < 400 by omega) (show (400 : Nat) < 2147483648 by omega), gd_n (show c + l.length - t < 400 by omega) (show (400 : Nat) < 2147483648 by omega), zI_cn (show c + l.length - 1 - t < 2147483648 by omega), zI_cn (show c + l.length - t < 2147483648 by omega)]
      rw [rt, es, dv]
      simp only [gd_n g1 (show (48 : Nat) < 2147483648 by omega), gd_n he (show (48 : Nat) < 2147483648 by omega), zI_cn (show g < 2147483648 by omega), zI_cn (show e < 2147483648 by omega)]
      rw [L'.2.2.2 g g1 g2, L'.2.2.2 e he hth, il_le (by omega) (by omega) (by omega) (by omega)]
      by_cases q : tSh T e ≤ tSh T g
      · have hnt : nCt l (tRk T e) = t := by
          have : ¬ t < nCt l (tRk T e) := fun x => by
            have := hrk.mp (hlt.mpr x)
            omega
          omega
        rw [if_pos q, hnt]
        exact ⟨M', rfl, f, rfl, h1, h2⟩
      · rw [if_neg q, ek2]
        refine r_waits_40 L ha hb he hth hl hlm hc (k94 := k94) fuel k (t + 1) _ (by omega) (by omega) (hlt.mp (hrk.mpr (by omega))) ⟨fun q hq => by rw [mA_1]; exact f.1 q hq, fun d hd => by rw [mA_o _ _ _ hd]; exact f.2.1 d hd, fun j hj => by rw [mA_s, upd_o _ _ (by omega)]; exact f.2.2 j hj⟩ (fun s x hx hst => ?_) (fun s x hx hst => ?_)
        · rw [mA_s]
          by_cases z : s = t
          · subst z
            rw [upd_s]
            rw [List.getElem?_eq_getElem htl] at hx
            rw [← Option.some.inj hx, es]
          · rw [upd_o _ _ (by omega)]
            exact h1 s x hx (by omega)
        · have := lt_of hx
          rw [mA_s, upd_o _ _ (by omega)]
          exact h2 s x hx (by omega)
theorem r_waits_7 (hN : 20000 ≤ N) (h : wOk W) {a b c : Nat} (ha : a < 4) (hb : b < 48) (L : rLd M (wTr W a)) (hc : c < 300) : ∀ (fuel k i : Nat) (M' : mS), 1 ≤ i → i + k = 48 → k < fuel → qF M M' c → qR M' a c (kidL (wTr W a) (b : Nat) i) → ∃ M2, pf_waits_7 N fuel (zI ((100 * a + b : Nat) : Int)) (zI (c : Nat)) (zI (i : Nat)) M' = some ((0 : Int32), M2) ∧ qF M M2 c ∧ qR M2 a c (kidL (wTr W a) (b : Nat) 48)
  | 0, k, i, M', hi, hk, hn, f, q => by omega
  | fuel + 1, k, i, M', hi, hk, hn, f, q => by
    simp only [pf_waits_7, pf_waits_119, nm_i]
    rw [zL_48, il_le (by omega) (by omega) (by omega) (by omega)]
    cases k with
    | zero =>
      have : i = 48 := by omega
      subst this
      rw [if_pos (by omega)]
      exact ⟨M', rfl, f, q⟩
    | succ k =>
      have hi48 : i < 48 := by omega
      have Wt := L.2.1
      obtain ⟨l1, l2, l3⟩ := kidL_ok Wt (p := (b : Int)) i (by omega)
      have hll : (kidL (wTr W a) (b : Nat) i).length ≤ i := by rw [l3]; exact fb_ct_le _ _
      have L' : rLd M' (wTr W a) := rLd_e (f.1 47 (by omega)) (fun d a b => f.2.1 d (by omega)) L
      have ek : zI (i : Nat) + 1 = zI ((i + 1 : Nat) : Int) := by rw [zL_1, zI_add]; congr 1
      have hpl := tPl_rg Wt hi48
      have dv : zI ((100 * a + b : Nat) : Int) - zI ((100 * a + b : Nat) : Int) / (100 : Int32) * (100 : Int32) = zI (b : Nat) := by
        rw [spot_1 (by omega) (by omega), spot_2]
      have no : tCh (wTr W a) (b : Nat) i = false → ∃ M2, pf_waits_7 N fuel (zI ((100 * a + b : Nat) : Int)) (zI (c : Nat)) (zI ((i + 1 : Nat) : Int)) M' = some ((0 : Int32), M2) ∧ qF M M2 c ∧ qR M2 a c (kidL (wTr W a) (b : Nat) 48) := fun g => by
        refine r_waits_7 hN h ha hb L hc fuel k (i + 1) M' (by omega) (by omega) (by omega) f ?_
        have : kidL (wTr W a) (b : Nat) (i + 1) = kidL (wTr W a) (b : Nat) i := by
          show (if (decide (1 ≤ i) && tCh (wTr W a) (b : Nat) i) = true then _ else _) = _
          rw [g, Bool.and_false, if_neg (by decide)]
        rw [this]
        exact q
      rw [if_neg (by omega), r_isLive L'.1 (by omega) (by omega), bd_i, il_B, ek, dv]
      by_cases q1 : tLv (wTr W a) (i : Nat) = true
      · have hth := tLv_th hi48 q1
        rw [if_pos q1, gd_n hi48 (by omega), zI_cn (by omega), L'.2.2.1 i hi48, il_eq (by omega) (by omega) (by omega) (by omega)]
        by_cases q2 : tPl (wTr W a) i = (b : Int)
        · have hch : tCh (wTr W a) (b : Nat) i = true := by unfold tCh; rw [q1, decide_eq_true q2]; rfl
          have hlm : ∀ x ∈ kidL (wTr W a) (b : Nat) i, ∃ f, f < 48 ∧ tTh (wTr W a) f = true ∧ x = tRk (wTr W a) f ∧ tSh (wTr W a) f ≠ tSh (wTr W a) i := fun x hx => by
            obtain ⟨g, g1, g2, g3, g4⟩ := (l2 x).mp hx
            refine ⟨g, by omega, ?_, g4, fun z => ?_⟩
            · unfold tCh at g3
              rw [Bool.and_eq_true] at g3
              exact tLv_th (by omega) g3.1
            · have := tSh_inj Wt (wTr_un h a) g1 (by omega) hi hi48 g3 hch z
              omega
          have hk1 : kidL (wTr W a) (b : Nat) (i + 1) = nIns (kidL (wTr W a) (b : Nat) i) (tRk (wTr W a) i) := by
            show (if (decide (1 ≤ i) && tCh (wTr W a) (b : Nat) i) = true then _ else _) = _
            rw [hch, decide_eq_true hi]
            exact if_pos rfl
          have ih := r_waits_7 hN h ha hb L hc fuel k (i + 1)
          rw [hk1] at ih
          generalize kidL (wTr W a) (b : Nat) i = l at *
          have hnc := nCt_le l (tRk (wTr W a) i)
          obtain ⟨M2, c1, c2, c3, c4, c5⟩ := r_waits_40 (N := N) (c := c) (k94 := pf_waits_94 N (pf_waits_7 N fuel)) L ha hb hi48 hth l1 hlm (by omega) N l.length 0 M' (by omega) (by omega) (by omega) f (fun s x _ g => by omega) (fun s x hx _ => q.2 s x hx)
          rw [Nat.sub_zero] at c1
          have ev : (zI ((100 * a + b : Nat) : Int) - (zI ((100 * a + b : Nat) : Int) - zI ((100 * a + b : Nat) : Int) / (100 : Int32) * (100 : Int32))) + zI (i : Nat) = zI (spt a (tRk (wTr W a) i) : Nat) := by
            rw [dv, zI_sub, zI_add]
            congr 1
            unfold spt
            rw [tRk_mod hi48]
            omega
          have nl : (nIns l (tRk (wTr W a) i)).length = l.length + 1 := by rw [(nIns_perm l (tRk (wTr W a) i)).length_eq, List.length_cons]
          have e54 : M2.1 54 = zI ((c + l.length : Nat) : Int) := by rw [c3]; exact q.1
          rw [if_pos q2, q.1, c1]
          simp only [pf_waits_94, pf_waits_119, nm_i, sv_i]
          rw [gd_n (show c + l.length - nCt l (tRk (wTr W a) i) < 400 by omega) (by omega), zI_cn (by omega), ev, mA_1, e54, ek, zL_1, zI_add]
          refine ih _ (by omega) (by omega) (by omega) ⟨fun q hq => by rw [mI_1, upd_o _ _ hq, mA_1]; exact c2.1 q hq, fun d hd => by rw [mI_2, mA_o _ _ _ hd]; exact c2.2.1 d hd, fun j hj => by rw [mI_2, mA_s, upd_o _ _ (by omega)]; exact c2.2.2 j hj⟩ ⟨by rw [mI_1, upd_s, nl]; congr 1, fun s x hx => ?_⟩
          rw [mI_2, mA_s, nl]
          have hs := (List.getElem?_eq_some_iff.mp hx).1
          rw [nl] at hs
          rw [nIns_get] at hx
          by_cases z1 : s < nCt l (tRk (wTr W a) i)
          · rw [if_pos z1] at hx
            rw [upd_o _ _ (by omega), show c + (l.length + 1) - 1 - s = c + l.length - s by omega]
            exact c4 s x hx z1
          · rw [if_neg z1] at hx
            by_cases z2 : s = nCt l (tRk (wTr W a) i)
            · rw [if_pos z2] at hx
              rw [← Option.some.inj hx, show c + (l.length + 1) - 1 - s = c + l.length - nCt l (tRk (wTr W a) i) by omega, upd_s]
            · rw [if_neg z2] at hx
              rw [upd_o _ _ (by omega), show c + (l.length + 1) - 1 - s = c + l.length - 1 - (s - 1) by omega]
              exact c5 (s - 1) x hx (by omega)
        · rw [if_neg q2]
          exact no (by unfold tCh; rw [decide_eq_false q2, Bool.and_false])
      · rw [if_neg q1]
        exact no (by unfold tCh; rw [Bool.eq_false_iff.mpr q1, Bool.false_and])
theorem r_waits (hN : 20000 ≤ N) (h : wOk W) (R : fM M W met st F) {a b : Nat} (ha : a < 4) (hb : b < 48) (L : rLd M (wTr W a)) (hst : st.length < 300) : ∃ M', pf_waits N (zI ((100 * a + b : Nat) : Int)) M = some ((0 : Int32), M') ∧ fM M' W met (kds W a b ++ st) F := by
  obtain ⟨r1, r2, r3, r4, r5⟩ := R
  obtain ⟨M2, c1, c2, c3⟩ := r_waits_7 (N := N) (c := st.length) hN h ha hb L hst N 47 1 M (by omega) (by omega) (by omega) ⟨fun _ _ => rfl, fun _ _ => rfl, fun _ _ => rfl⟩ ⟨r3, fun s x hx => by
    have : kidL (wTr W a) (b : Nat) 1 = [] := rfl
    rw [this] at hx
    cases hx⟩
  have c1 : pf_waits_7 N N (zI ((100 * a + b : Nat) : Int)) (zI (st.length : Nat)) 1 M = _ := c1
  have lk : (kds W a b).length = (kidL (wTr W a) (b : Nat) 48).length := by unfold kds; rw [List.length_map]
  simp only [pf_waits, nm_i]
  rw [r3, c1]
  refine ⟨M2, rfl, mRel_x (W := wFd W F) r1 (fun q _ _ => c2.1 q (by omega)) (fun d _ _ => c2.2.1 d (by omega)), by rw [c2.1 0 (by omega)]; exact r2, ?_, fun s hs => ?_, fun m e hm he => by rw [c2.2.1 56 (by omega)]; exact r5 m e hm he⟩
  · rw [c3.1, List.length_append, lk]
    congr 1
    omega
  · rw [List.length_append] at hs ⊢
    by_cases z : s < (kds W a b).length
    · have e0 : (kds W a b ++ st)[s]'(by rw [List.length_append]; exact hs) = (kds W a b)[s] := List.getElem_append_left z
      have e2 : (kds W a b)[s]? = some (spt a ((kidL (wTr W a) (b : Nat) 48)[s]'(by omega))) := by
        unfold kds
        rw [List.getElem?_map, List.getElem?_eq_getElem (show s < (kidL (wTr W a) (b : Nat) 48).length by omega)]
        rfl
      have e1 : (kds W a b)[s] = spt a ((kidL (wTr W a) (b : Nat) 48)[s]'(by omega)) := Option.some.inj ((List.getElem?_eq_getElem z).symm.trans e2)
      have := c3.2 s _ (List.getElem?_eq_getElem (show s < (kidL (wTr W a) (b : Nat) 48).length by omega))
      rw [e0, e1, lk, show (kidL (wTr W a) (b : Nat) 48).length + st.length - 1 - s = st.length + (kidL (wTr W a) (b : Nat) 48).length - 1 - s by omega]
      exact this
    · have e0 : (kds W a b ++ st)[s]'(by rw [List.length_append]; exact hs) = st[s - (kds W a b).length]'(by omega) := List.getElem_append_right (by omega)
      have := r4 (s - (kds W a b).length) (by omega)
      rw [e0, show (kds W a b).length + st.length - 1 - s = st.length - 1 - (s - (kds W a b).length) by omega, c2.2.2 _ (by omega)]
      exact this
/-- the loop, behind the base -/
theorem r_follow_70 (hN : 20000 ≤ N) (h : wOk W) {m : Nat} (hm : m < 4) (hsc : sc < 3) (hK1 : (wK W).length = 1) : ∀ (n fuel : Nat) (met : Nat → Nat → Bool) (st F : List Nat) (M : mS), st.length + phi W met ≤ n → n < fuel → fJ W met st F → fM M W met st F → ∃ M', pf_follow_70 N (pf_follow_163 N) fuel (zI (m : Nat)) (zI (sc : Nat)) 0 M = some (zI ((lpF W (wU W m) sc n met st F).length : Nat), M') ∧ mRel M' (wFd W (lpF W (wU W m) sc n met st F)) ∧ M'.1 0 = 0
  | n, 0, met, st, F, M, hp, hn, J, R => by omega
  | n, fuel + 1, met, st, F, M, hp, hn, J, R => by
    have hJ := J.1
    have hu := h.2.2.2.2.2.1 m hm
    have i0 : (zI ((st.length : Nat) : Int) ≤ (0 : Int32)) ↔ st.length ≤ 0 := by
      rw [zL_0, zI_le (by omega) (by omega) (by omega) (by omega)]
      omega
    simp only [pf_follow_70, sv_i]
    rw [R.2.2.1]
    cases st with
    | nil =>
      have e : lpF W (wU W m) sc n met [] F = F := by cases n <;> rfl
      rw [if_pos (i0.mpr (Nat.le_refl 0)), e]
      simp only [pf_follow_163]
      rw [R.1.2.2.2.2.2.2.2.2.2.2.1.1]
      exact ⟨M, rfl, R.1, R.2.1⟩
    | cons x st =>
      rw [List.length_cons] at hJ hp
      cases n with
      | zero => omega
      | succ n =>
        obtain ⟨hx1, hx2⟩ := J.2.1 x List.mem_cons_self
        obtain ⟨J2, J3⟩ := fJ_step h (u := wU W m) (sc := sc) J
        rw [List.length_cons] at J3
        have l1 : ((x :: st).length : Int) = (st.length : Int) + 1 := by rw [List.length_cons]; omega
        have esub : zI ((x :: st).length : Nat) - (1 : Int32) = zI (st.length : Nat) := by
          rw [zL_1, zI_sub, l1]
          congr 1
          omega
        rw [if_neg (fun g => by have := i0.mp g; rw [List.length_cons] at this; omega), esub]
        have e9 : (mI M 54 (zI (st.length : Nat))).1 54 = zI (st.length : Nat) := by rw [mI_1, upd_s]
        have r16 : (mI M 54 (zI (st.length : Nat))).2 55 st.length = zI (x : Nat) := by
          have := R.2.2.2.1 0 (by rw [List.length_cons]; omega)
          have ee : (x :: st).length - 1 - 0 = st.length := by rw [List.length_cons]; omega
          rw [ee] at this
          exact this
        have R1 : fM (mI M 54 (zI (st.length : Nat))) W met st F := by
          obtain ⟨r1, r2, r3, r4, r5⟩ := R
          refine ⟨mRel_x (W := wFd W F) r1 (fun q _ _ => by rw [mI_1, upd_o _ _ (by omega)]) (fun _ _ _ => rfl), by rw [mI_1, upd_o _ _ (by omega)]; exact r2, e9, fun s hs => ?_, r5⟩
          have := r4 (s + 1) (by rw [List.length_cons]; omega)
          have ee : (x :: st).length - 1 - (s + 1) = st.length - 1 - s := by rw [List.length_cons]; omega
          rw [ee] at this
          exact this
        obtain ⟨M2, a1, a2, a3⟩ := r_arrives (N := N) hN h (show F.length ≤ 192 by omega) J.2.2 R1 (x := x) hx1
        have aok := (arr_ok h 193 met (x / 100) (x % 100) hx1 (by omega)).2
        rw [e9, gd_n (show st.length < 400 by omega) (by omega), zI_cn (by omega), r16, a1, bd_i]
        show ∃ M', _ = some (zI ((lpF W (wU W m) sc n (arr W 193 met (x / 100) (x % 100)).1 (nxS W sc (arr W 193 met (x / 100) (x % 100)).2 st) (nxF W (wU W m) (arr W 193 met (x / 100) (x % 100)).2 F)).length : Nat), M') ∧ mRel M' (wFd W (lpF W (wU W m) sc n (arr W 193 met (x / 100) (x % 100)).1 (nxS W sc (arr W 193 met (x / 100) (x % 100)).2 st) (nxF W (wU W m) (arr W 193 met (x / 100) (x % 100)).2 F))) ∧ M'.1 0 = 0
        have ih := r_follow_70 hN h hm hsc hK1 n fuel (arr W 193 met (x / 100) (x % 100)).1 (nxS W sc (arr W 193 met (x / 100) (x % 100)).2 st) (nxF W (wU W m) (arr W 193 met (x / 100) (x % 100)).2 F)
        generalize arr W 193 met (x / 100) (x % 100) = r at *
        obtain ⟨met', o⟩ := r
        have ih := fun M Q => ih M (by omega) (by omega) J2 Q
        have s2 : (zI (sc : Nat) = (2 : Int32)) ↔ sc = 2 := by rw [zL_2, zI_eq (by omega) (by omega) (by omega) (by omega)]; omega
        have s1 : (zI (sc : Nat) = (1 : Int32)) ↔ sc = 1 := by rw [zL_1, zI_eq (by omega) (by omega) (by omega) (by omega)]; omega
        cases o with
        | none =>
          dsimp only
          rw [if_pos (show zI (arS none) = (-1 : Int32) from rfl)]
          simp only [pf_follow_130, pf_follow_157]
          rw [if_pos (show zI (arS none) = (-1 : Int32) from rfl)]
          exact ih M2 a2
        | some ab =>
          obtain ⟨a, b⟩ := ab
          obtain ⟨b1, b2, b3, b4, b5⟩ := aok a b rfl
          have nm1 : ¬ zI (arS (some (a, b))) = (-1 : Int32) := by
            show ¬ zI ((100 * a + b : Nat) : Int) = (-1 : Int32)
            rw [zL_m1, zI_eq (by omega) (by omega) (by omega) (by omega)]
            omega
          obtain ⟨M3, c1, c2, c3⟩ := r_looks (N := N) hN h hu hK1 (show F.length < 192 by omega) J.2.2 a2 b1 b2 (a3 a b rfl)
          have c1 : pf_looks N (zI (arS (some (a, b)))) (zI (wU W m : Nat)) M2 = some ((0 : Int32), M3) := c1
          have look : pf_follow_118 N (pf_follow_70 N (pf_follow_163 N) fuel) (zI (m : Nat)) (zI (sc : Nat)) 0 (zI (arS (some (a, b)))) M2 = pf_follow_130 N (pf_follow_70 N (pf_follow_163 N) fuel) (zI (m : Nat)) (zI (sc : Nat)) 0 (zI (arS (some (a, b)))) M3 := by
            simp only [pf_follow_118]
            rw [gd_n hm (by omega), zI_cn (by omega), a2.1.2.2.2.2.2.2.1 m hm]
            show bd (pf_looks N (zI (arS (some (a, b)))) (zI (wU W m : Nat)) M2) _ = _
            rw [c1, bd_i]
          have rest : ∃ M', pf_follow_130 N (pf_follow_70 N (pf_follow_163 N) fuel) (zI (m : Nat)) (zI (sc : Nat)) 0 (zI (arS (some (a, b)))) M3 = some (zI ((lpF W (wU W m) sc n met' (nxS W sc (some (a, b)) st) (nxF W (wU W m) (some (a, b)) F)).length : Nat), M') ∧ mRel M' (wFd W (lpF W (wU W m) sc n met' (nxS W sc (some (a, b)) st) (nxF W (wU W m) (some (a, b)) F))) ∧ M'.1 0 = 0 := by
            simp only [pf_follow_130, pf_follow_151, pf_follow_157]
            rw [if_neg nm1]
            by_cases z : sc = 2
            · have hns : nxS W sc (some (a, b)) st = kds W a b ++ st := if_pos z
              obtain ⟨M4, d1, d2⟩ := r_waits (N := N) hN h c2 b1 b2 c3 (show st.length < 300 by omega)
              have d1 : pf_waits N (zI (arS (some (a, b)))) M3 = some ((0 : Int32), M4) := d1
              rw [if_pos (s2.mpr z), d1, bd_i]
              exact ih M4 (by show fM M4 W met' (nxS W sc (some (a, b)) st) _; rw [hns]; exact d2)
            · have hns : nxS W sc (some (a, b)) st = st := if_neg z
              have go := ih M3 (by show fM M3 W met' (nxS W sc (some (a, b)) st) _; rw [hns]; exact c2)
              rw [if_neg (fun g => z (s2.mp g))]
              by_cases z1 : sc = 1
              · rw [if_pos (s1.mpr z1), if_pos trivial]
                exact go
              · rw [if_neg (fun g => z1 (s1.mp g))]
                exact go
          dsimp only
          rw [if_neg nm1]
          by_cases z1 : sc = 1
          · rw [if_pos (s1.mpr z1), if_pos trivial, look]
            exact rest
          · rw [if_neg (fun g => z1 (s1.mp g)), look]
            exact rest
end FC
