-- LEVEL 2, THE CALLS LIVE AND MARKS
theorem fb_ct_ext {p : Nat → Bool} {a : Nat} : ∀ {b : Nat}, a ≤ b → (∀ k, a ≤ k → k < b → p k = false) → fb_ct p b = fb_ct p a
  | 0, h, _ => by rw [Nat.le_zero.mp h]
  | b + 1, h, g => by
    by_cases q : a = b + 1
    · rw [q]
    · rw [fb_ct_succ, g b (by omega) (by omega), fb_ct_ext (show a ≤ b by omega) (fun k h1 h2 => g k h1 (by omega))]
      rfl
theorem dd_del {H : sH} {cs : Nat → sCh} {y : Nat} : ∀ (l : List Nat) (T : sT), (∀ k ∈ l, cK (cs k) ≤ 8) → (tDd (rpl H cs T l) y = true ↔ tDd T y = true ∨ ∃ k ∈ l, cK (cs k) = 8 ∧ cE (cs k) = y)
  | [], T, _ => ⟨fun h => Or.inl h, fun h => by
    rcases h with h | ⟨k, h, -⟩
    · exact h
    · exact absurd h List.not_mem_nil⟩
  | k :: l, T, h => by
    have ih := dd_del (H := H) (cs := cs) (y := y) l (tTake H T (cs k)) (fun q hq => h q (List.mem_cons_of_mem _ hq))
    have hk := h k List.mem_cons_self
    have e : tDd (tTake H T (cs k)) y = true ↔ tDd T y = true ∨ (cK (cs k) = 8 ∧ cE (cs k) = y) := by
      unfold tTake
      by_cases k0 : cK (cs k) = 0
      · rw [if_pos k0]; exact ⟨fun g => Or.inl g, fun g => by rcases g with g | g; exact g; omega⟩
      rw [if_neg k0]
      by_cases k1 : cK (cs k) = 1
      · rw [if_pos k1]; exact ⟨fun g => Or.inl g, fun g => by rcases g with g | g; exact g; omega⟩
      rw [if_neg k1]
      by_cases k2 : cK (cs k) = 2
      · rw [if_pos k2]; exact ⟨fun g => Or.inl g, fun g => by rcases g with g | g; exact g; omega⟩
      rw [if_neg k2]
      by_cases k3 : cK (cs k) = 3
      · rw [if_pos k3]; exact ⟨fun g => Or.inl g, fun g => by rcases g with g | g; exact g; omega⟩
      rw [if_neg k3]
      by_cases k4 : cK (cs k) = 4
      · rw [if_pos k4]; exact ⟨fun g => Or.inl g, fun g => by rcases g with g | g; exact g; omega⟩
      rw [if_neg k4]
      by_cases k5 : cK (cs k) = 5
      · rw [if_pos k5]; exact ⟨fun g => Or.inl g, fun g => by rcases g with g | g; exact g; omega⟩
      rw [if_neg k5]
      by_cases k6 : cK (cs k) = 6
      · rw [if_pos k6]; exact ⟨fun g => Or.inl g, fun g => by rcases g with g | g; exact g; omega⟩
      rw [if_neg k6]
      by_cases k7 : cK (cs k) = 7
      · rw [if_pos k7]; exact ⟨fun g => Or.inl g, fun g => by rcases g with g | g; exact g; omega⟩
      rw [if_neg k7]
      show upf (tDd T) (cE (cs k)) true y = true ↔ _
      by_cases q : y = cE (cs k)
      · rw [q, upf_s]; exact ⟨fun _ => Or.inr ⟨by omega, rfl⟩, fun _ => rfl⟩
      · rw [upf_o _ _ q]; exact ⟨fun g => Or.inl g, fun g => by rcases g with g | g; exact g; exact absurd g.2.symm q⟩
    show tDd (rpl H cs (tTake H T (cs k)) l) y = true ↔ _
    rw [ih, e]
    constructor
    · rintro ((g | g) | ⟨q, g1, g2⟩)
      · exact Or.inl g
      · exact Or.inr ⟨k, List.mem_cons_self, g⟩
      · exact Or.inr ⟨q, List.mem_cons_of_mem _ g1, g2⟩
    · rintro (g | ⟨q, g1, g2⟩)
      · exact Or.inl (Or.inl g)
      · rcases List.mem_cons.mp g1 with rfl | g1
        · exact Or.inl (Or.inr g2)
        · exact Or.inr ⟨q, g1, g2⟩
/-- a master, by what m knows of it, knows some deletion of an entry that m knows -/
def kDp (W : sW) (m i e k : Nat) : Bool := decide (cK (wC W k) = 8) && (decide (cE (wC W k) = e) && (gotB (wT W m) m (wC W k) && gotB (wT W m) i (wC W k)))
def kDl (W : sW) (m i e : Nat) : Bool := anyF (kDp W m i e) 0 (wN W)
/-- it keeps a mark -/
def mkd (W : sW) (m e : Nat) : Bool := !wX W m e && kDl W m m e
section OL
variable {N : Nat} {S : kS} {M : mS} {W : sW} {T : sT}
theorem kDl_iff {m i e : Nat} : kDl W m i e = true ↔ ∃ k, k < wN W ∧ cK (wC W k) = 8 ∧ cE (wC W k) = e ∧ gotB (wT W m) m (wC W k) = true ∧ gotB (wT W m) i (wC W k) = true := by
  unfold kDl
  rw [anyF_iff]
  constructor
  · rintro ⟨k, -, h2, h3⟩
    unfold kDp at h3
    rw [Bool.and_eq_true, Bool.and_eq_true, Bool.and_eq_true, decide_eq_true_eq, decide_eq_true_eq] at h3
    exact ⟨k, by omega, h3.1, h3.2.1, h3.2.2.1, h3.2.2.2⟩
  · rintro ⟨k, h1, h2, h3, h4, h5⟩
    exact ⟨k, by omega, by omega, by unfold kDp; rw [decide_eq_true h2, decide_eq_true h3, h4, h5]; rfl⟩
theorem wDd (h : wOk W) {m e : Nat} : tDd (wTr W m) e = kDl W m m e := by
  obtain ⟨-, -, g3, ⟨ar, g4⟩, -⟩ := h.2.2.2.1
  have d := dd_del (H := wH W) (cs := wC W) (y := e) (knl (wT W m) m (wC W) (wO W)) tNew (fun k hk => (g4.2 k (knl_sub.subset hk)).1.1)
  have d : tDd (wTr W m) e = true ↔ _ := d
  rw [Bool.eq_iff_iff, d, kDl_iff]
  constructor
  · rintro (g | ⟨k, h1, h2, h3⟩)
    · have g : false = true := g
      exact Bool.noConfusion g
    · have hm := List.mem_filter.mp h1
      exact ⟨k, (g3 k).mp hm.1, h2, h3, hm.2, hm.2⟩
  · rintro ⟨k, h1, h2, h3, h4, -⟩
    exact Or.inr ⟨k, List.mem_filter.mpr ⟨(g3 k).mpr h1, h4⟩, h2, h3⟩
theorem kDl_lt (h : wOk W) {m i e : Nat} (he : wE W ≤ e) : kDl W m i e = false := by
  rw [Bool.eq_false_iff]
  intro g
  obtain ⟨k, h1, -, h3, -⟩ := kDl_iff.mp g
  have := (h.2.2.2.1.2.2.2.2.2.1 k h1).1
  omega
theorem mkd_lt (h : wOk W) {m e : Nat} (he : wE W ≤ e) : mkd W m e = false := by
  unfold mkd
  rw [kDl_lt h he, Bool.and_false]
/-- the class -/
theorem q_marks (h : wOk W) (K : kRel S W) {m : Nat} (hm : m < 4) : ∃ w, pX4_marked N m S = some (w, S) ∧ ∀ e, e < 64 → lb w e = (decide (e < 48) && mkd W m e) := by
  obtain ⟨w, e1, e2⟩ := q_marked (N := N) (m := m) (K.2.2.2.2.2.2.2.2.2.2.1 m hm) (dr := wX W m) (fun e he => K.2.2.2.2.2.2.2.2.1 m e hm he)
  refine ⟨w, e1, fun e he => ?_⟩
  rw [e2 e he, wDd h]
  unfold mkd
  rw [Bool.and_comm (kDl W m m e)]
theorem ct_marks (h : wOk W) {m : Nat} {w : Int64} (hw : ∀ e, e < 64 → lb w e = (decide (e < 48) && mkd W m e)) : fb_ct (lb w) 64 = fb_ct (mkd W m) (wE W) := by
  have hE := h.2.2.2.2.2.2.1
  rw [fb_ct_cong (q := fun e => decide (e < 48) && mkd W m e) (fun k hk => hw k hk), fb_ct_ext (a := wE W) (by omega) (fun k h1 h2 => by show (_ && _) = _; rw [mkd_lt h h1, Bool.and_false])]
  exact fb_ct_cong (fun k hk => by show (_ && _) = _; rw [decide_eq_true (show k < 48 by omega), Bool.true_and])
/-- the reference -/
theorem r_knowsDeleted_6 (C : rCs M (wC W) (wN W)) (V : rVw M (wT W)) {m i e : Nat} (hm : m < 4) (hi : i < 4) (he : e < 1000) : ∀ (n q k : Nat) (b : Bool), k + q = wN W → q < n → pf_knowsDeleted_6 N n (zI (m : Nat)) (zI (i : Nat)) (zI (e : Nat)) (zB b) (zI (k : Nat)) M = some (zB (b || anyF (kDp W m i e) k q), M)
  | 0, q, k, b, hk, hn => by omega
  | n + 1, q, k, b, hk, hn => by
    have hn250 := C.2.1
    simp only [pf_knowsDeleted_6, pf_knowsDeleted_89, nm_i]
    rw [C.1, il_le (by omega) (by omega) (by omega) (by omega)]
    cases q with
    | zero =>
      rw [if_pos (by omega), zr_B]
      show _ = some (zB (b || false), M)
      rw [Bool.or_false]
    | succ q =>
      have hkn : k < wN W := by omega
      obtain ⟨c1, c2⟩ := C.2.2 k hkn
      have ih := fun b => r_knowsDeleted_6 C V hm hi he n q (k + 1) b (by omega) (by omega)
      have ek : zI (k : Nat) + 1 = zI ((k + 1 : Nat) : Int) := by rw [zL_1, zI_add]; congr 1
      have ih0 := ih false
      have ih1 := ih true
      have ih0 : pf_knowsDeleted_6 N n (zI (m : Nat)) (zI (i : Nat)) (zI (e : Nat)) 0 (zI ((k + 1 : Nat) : Int)) M = _ := ih0
      have ih1 : pf_knowsDeleted_6 N n (zI (m : Nat)) (zI (i : Nat)) (zI (e : Nat)) 1 (zI ((k + 1 : Nat) : Int)) M = _ := ih1
      rw [Bool.false_or] at ih0
      rw [Bool.true_or] at ih1
      have hK8 := c2.1
      have hE48 := c2.2.1
      have hM4 := c2.2.2.1
      have hN250 := c2.2.2.2.1
      rw [if_neg (by omega), il_B, anyF_s, ek, ih0, ih1]
      cases b with
      | true => rw [if_pos rfl]; rfl
      | false =>
        rw [if_neg (by decide), Bool.false_or, gd_n (by omega) (by omega), zI_cn (by omega), c1.1, zL_8, il_eq (by omega) (by omega) (by omega) (by omega)]
        by_cases k8 : cK (wC W k) = 8
        · rw [if_pos (by omega), gd_n (by omega) (by omega), c1.2.1, il_eq (by omega) (by omega) (by omega) (by omega)]
          by_cases ke : cE (wC W k) = e
          · rw [if_pos (by omega), r_isKnown V hm c1 c2 (by omega), bd_i, il_B]
            by_cases kg : gotB (wT W m) m (wC W k) = true
            · have hv := V m i (cM (wC W k)) hm hi hM4
              rw [if_pos kg, gd_n (by omega) (by omega), gd_n (by omega) (by omega), c1.2.2.2.1, c1.2.2.2.2.1, zL_16, zL_4, zI_mul, zI_mul, zI_add, zI_add, show (16 : Int) * (m : Nat) + 4 * (i : Nat) + (cM (wC W k) : Nat) = ((16 * m + 4 * i + cM (wC W k) : Nat) : Int) by omega, gd_n (by omega) (by omega), zI_cn (by omega), hv.1, il_le (by omega) (by omega) (by omega) (by omega)]
              by_cases kt : cN (wC W k) < wT W m i (cM (wC W k))
              · have hp : kDp W m i e k = true := by
                  unfold kDp
                  rw [decide_eq_true k8, decide_eq_true ke, kg]
                  unfold gotB
                  rw [decide_eq_true kt]; rfl
                rw [if_neg (by omega), hp, Bool.true_or]
                exact ih1
              · have hp : kDp W m i e k = false := by
                  unfold kDp
                  rw [decide_eq_true k8, decide_eq_true ke, kg]
                  unfold gotB
                  rw [decide_eq_false kt]; rfl
                rw [if_pos (by omega), hp, Bool.false_or]
                exact ih0
            · have hp : kDp W m i e k = false := by
                unfold kDp
                rw [Bool.eq_false_iff.mpr kg, Bool.false_and, Bool.and_false, Bool.and_false]
              rw [if_neg kg, hp, Bool.false_or]
              exact ih0
          · have hp : kDp W m i e k = false := by
              unfold kDp
              rw [decide_eq_false ke, Bool.false_and, Bool.and_false]
            rw [if_neg (by omega), hp, Bool.false_or]
        · have hp : kDp W m i e k = false := by
            unfold kDp
            rw [decide_eq_false k8, Bool.false_and]
          rw [if_neg (by omega), hp, Bool.false_or]
theorem r_knowsDeleted (hN : 300 ≤ N) (C : rCs M (wC W) (wN W)) (V : rVw M (wT W)) {m i e : Nat} (hm : m < 4) (hi : i < 4) (he : e < 1000) : pf_knowsDeleted N (zI (m : Nat)) (zI (i : Nat)) (zI (e : Nat)) M = some (zB (kDl W m i e), M) := by
  have hn250 := C.2.1
  have := r_knowsDeleted_6 (N := N) C V hm hi he N (wN W) 0 false (by omega) (by omega)
  rw [Bool.false_or] at this
  exact this
theorem r_isMarked (hN : 300 ≤ N) (C : rCs M (wC W) (wN W)) (V : rVw M (wT W)) {m e : Nat} (hm : m < 4) (he : e < 48) (hx : M.2 20 (48 * m + e) = zB (wX W m e)) : pf_isMarked N (zI (m : Nat)) (zI (e : Nat)) M = some (zB (mkd W m e), M) := by
  simp only [pf_isMarked]
  rw [zL_48, zI_mul, zI_add, show (48 : Int) * (m : Nat) + (e : Nat) = ((48 * m + e : Nat) : Int) by omega, gd_n (by omega) (by omega), zI_cn (by omega), hx, il_B, r_knowsDeleted hN C V hm hm (by omega), bd_i, il_B]
  unfold mkd
  cases wX W m e with
  | true => rw [if_pos rfl]; rfl
  | false =>
    rw [if_neg (by decide)]
    cases kDl W m m e with
    | true => rw [if_pos rfl]; rfl
    | false => rw [if_neg (by decide)]; rfl
theorem r_marksOf_4 (hN : 300 ≤ N) (h : wOk W) (R : mRel M W) {m : Nat} (hm : m < 4) : ∀ (n k i : Nat), i + k = wE W → k < n → pf_marksOf_4 N n (zI (m : Nat)) (zI (fb_ct (mkd W m) i : Nat)) (zI (i : Nat)) M = some (zI (fb_ct (mkd W m) (wE W) : Nat), M)
  | 0, k, i, hk, hn => by omega
  | n + 1, k, i, hk, hn => by
    have hE := h.2.2.2.2.2.2.1
    simp only [pf_marksOf_4, pf_marksOf_27, nm_i]
    rw [R.2.2.2.2.2.2.2.2.1, il_le (by omega) (by omega) (by omega) (by omega)]
    cases k with
    | zero =>
      rw [if_pos (by omega), show i = wE W by omega]
    | succ k =>
      have ih := r_marksOf_4 hN h R hm n k (i + 1) (by omega) (by omega)
      rw [fb_ct_succ] at ih
      rw [if_neg (by omega), r_isMarked hN R.2.2.2.1 R.2.2.2.2.2.1 hm (show i < 48 by omega) (R.2.2.2.2.2.2.2.1 m i hm (by omega)), bd_i, il_B, zL_0, zL_1, zI_add, zI_add, zI_add, show (i : Int) + 1 = ((i + 1 : Nat) : Int) by omega]
      cases hk : mkd W m i with
      | true =>
        rw [hk, if_pos rfl] at ih
        rw [if_pos rfl]
        exact ih
      | false =>
        rw [hk, if_neg (by decide)] at ih
        rw [if_neg (by decide), show (fb_ct (mkd W m) i : Int) + 0 = ((fb_ct (mkd W m) i + 0 : Nat) : Int) by omega]
        exact ih
theorem r_marksOf (hN : 300 ≤ N) (h : wOk W) (R : mRel M W) {m : Nat} (hm : m < 4) : pf_marksOf N (zI (m : Nat)) M = some (zI (fb_ct (mkd W m) (wE W) : Nat), M) := by
  have hE := h.2.2.2.2.2.2.1
  exact r_marksOf_4 hN h R hm N (wE W) 0 (by omega) (by omega)
theorem op_marks (hN : 20000 ≤ N) (h : wOk W) (K : kRel S W) (R : mRel M W) (x : Int32) : opOk 1 0 0 (pX9_marks N x S) (pf_marks N x M) := by
  obtain ⟨x, h1, h2, rfl⟩ := zI_of x
  simp only [pX9_marks, pf_marks, sv_i]
  rw [r_isMaster h1 h2, bs_i, il_B]
  by_cases q : 0 ≤ x ∧ x < 4
  · obtain ⟨m, rfl⟩ : ∃ m : Nat, x = m := ⟨x.toNat, by omega⟩
    have hm : m < 4 := by omega
    obtain ⟨w, e1, e2⟩ := q_marks (N := N) h K hm
    rw [if_pos (in_yes (by omega)), g_master hm, bx_l, gn_l hm, e1, bk_i, q_bitCount, bk_i, ct_marks h e2, r_marksOf (by omega) h (mRel_0 (v := (0 : Int32)) R) hm, bd_i]
    exact opOk_v rfl rfl thr_k h K (mRel_0 R)
  · rw [if_neg (in_no (by omega)), g_masterNo h1 h2 q, bx_r, fails_i, bd_i]
    exact opOk_x rfl rfl (Or.inl ⟨rfl, thr_k⟩) h K (mRel_0 (mRel_0 R))
theorem r_live_27 (R : rT M T) : ∀ (n k i : Nat), i + k = 48 → k < n → pf_live_27 N n (zI (fb_ct (fun e => tLv T (e : Nat)) i : Nat)) (zI (i : Nat)) M = some (zI (fb_ct (fun e => tLv T (e : Nat)) 48 : Nat), M)
  | 0, k, i, hk, hn => by omega
  | n + 1, k, i, hk, hn => by
    simp only [pf_live_27, pf_live_47, nm_i]
    rw [zL_48, il_le (by omega) (by omega) (by omega) (by omega)]
    cases k with
    | zero =>
      rw [if_pos (by omega), show i = 48 by omega]
    | succ k =>
      have ih := r_live_27 R n k (i + 1) (by omega) (by omega)
      rw [fb_ct_succ] at ih
      rw [if_neg (by omega), r_isLive R (by omega) (by omega), bd_i, il_B, zL_0, zL_1, zI_add, zI_add, zI_add, show (i : Int) + 1 = ((i + 1 : Nat) : Int) by omega]
      cases hk : tLv T (i : Nat) with
      | true =>
        rw [hk, if_pos rfl] at ih
        rw [if_pos rfl]
        exact ih
      | false =>
        rw [hk, if_neg (by decide)] at ih
        rw [if_neg (by decide), show (fb_ct (fun e => tLv T (e : Nat)) i : Int) + 0 = ((fb_ct (fun e => tLv T (e : Nat)) i + 0 : Nat) : Int) by omega]
        exact ih
theorem op_live (hN : 20000 ≤ N) (h : wOk W) (K : kRel S W) (R : mRel M W) (x : Int32) : opOk 1 0 0 (pX9_live N x S) (pf_live N x M) := by
  obtain ⟨x, h1, h2, rfl⟩ := zI_of x
  simp only [pX9_live, pf_live, sv_i]
  rw [r_isMaster h1 h2, bs_i, il_B]
  by_cases q : 0 ≤ x ∧ x < 4
  · obtain ⟨m, rfl⟩ : ∃ m : Nat, x = m := ⟨x.toNat, by omega⟩
    have hm : m < 4 := by omega
    have Q := kRel_t h K hm
    obtain ⟨M', e1, L, -, R', f⟩ := w_lays (N := N) hN h (mRel_0 (v := (0 : Int32)) R) hm
    have er := r_live_27 (N := N) L.1 N 48 0 (by omega) (by omega)
    have er : pf_live_27 N N 0 0 M' = _ := er
    have ec : fb_ct (lb (kL S (8 + 2 * m) &&& (kL S (9 + 2 * m) ^^^ (-1 : Int64)))) 64 = fb_ct (fun e => tLv (wTr W m) (e : Nat)) 48 := by
      rw [fb_ct_cong (q := fun e => tLv (wTr W m) (e : Nat)) (fun k hk => lv_bit Q hk)]
      exact fb_ct_ext (by omega) (fun k h1 h2 => tLv_out (Or.inr (by omega)))
    rw [if_pos (in_yes (by omega)), g_master hm, bx_l, gn_l hm, q_living, bk_i, q_bitCount, bk_i, ec, e1, bd_i, er]
    exact opOk_v rfl rfl (thr_0 f) h K R'
  · rw [if_neg (in_no (by omega)), g_masterNo h1 h2 q, bx_r, fails_i, bd_i]
    exact opOk_x rfl rfl (Or.inl ⟨rfl, thr_k⟩) h K (mRel_0 (mRel_0 R))
end OL
