-- LEVEL 2, THE CALL FOLLOW: THE CLASS
/-- the class shows what was met, what waits, what was found -/
def fK (S : kS) (W : sW) (u : Nat) (met : Nat → Nat → Bool) (st F : List Nat) : Prop := kRel S (wFd W F) ∧ kI S 10 = zI (u : Nat) ∧ kI S 9 = zI (st.length : Nat) ∧ (∀ s (h : s < st.length), kA S 16 (st.length - 1 - s) = zI (st[s] : Nat)) ∧ ∀ m e, m < 4 → e < 64 → lb (kJ S 15 m) e = (decide (e < 48) && met m e)
section FB
variable {N : Nat} {S : kS} {W : sW} {u sc : Nat} {met : Nat → Nat → Bool} {st F : List Nat}
theorem fK_tOk (h : wOk W) (K : fK S W u met st F) (hF : F.length ≤ 192) (hF2 : ∀ s ∈ F, s < 400) {m : Nat} (hm : m < 4) : tOk S m (wTr W m) := kRel_t (wFd_ok h hF hF2) K.1 hm
/-- only what was met changes -/
theorem fK_15 {S' : kS} {met' : Nat → Nat → Bool} (K : fK S W u met st F) (f : frJ 15 S S') (hm : ∀ m e, m < 4 → e < 64 → lb (kJ S' 15 m) e = (decide (e < 48) && met' m e)) : fK S' W u met' st F := by
  obtain ⟨k1, k2, k3, k4, k5⟩ := K
  have fo := k1.2.2.2.2.2.2.2.2.2.2.2.2
  exact ⟨kRel_F (W := wFd W F) k1 (fun q _ => by rw [f.2.2.2.1]) (fun c _ _ => by rw [f.2.1]) (fun c hc => f.1 c (by omega)) f.2.2.1 f.2.2.2.2 ⟨by rw [f.2.2.2.1]; exact fo.1, by rw [f.2.1]; exact fo.2⟩, by rw [f.2.2.2.1]; exact k2, by rw [f.2.2.2.1]; exact k3, by rw [f.2.1]; exact k4, hm⟩
theorem q_arriveFrom_4 (h : wOk W) (hF : F.length ≤ 192) (hF2 : ∀ s ∈ F, s < 400) : ∀ (fuel k hop m e : Nat) (met : Nat → Nat → Bool) (S : kS), hop + k = 193 → k < fuel → m < 4 → e < 100 → fK S W u met st F → ∃ S', pX3_arriveFrom_4 N fuel (zI ((100 * m + e : Nat) : Int)) (zI (hop : Nat)) S = some (zI (arS (arr W k met m e).2), S') ∧ fK S' W u (arr W k met m e).1 st F
  | 0, k, hop, m, e, met, S, hk, hn, hm, he, K => by omega
  | fuel + 1, k, hop, m, e, met, S, hk, hn, hm, he, K => by
    have Q := fK_tOk h K hF hF2 hm
    simp only [pX3_arriveFrom_4, pX3_arriveFrom_129, nm_i, svk_i]
    rw [zL_192, il_lt (by omega) (by omega) (by omega) (by omega)]
    cases k with
    | zero =>
      rw [if_pos (by omega)]
      exact ⟨S, rfl, K⟩
    | succ k =>
      have ek : zI (hop : Nat) + 1 = zI ((hop + 1 : Nat) : Int) := by rw [zL_1, zI_add]; congr 1
      have d1 : zI ((100 * m + e : Nat) : Int) / zI 100 = zI (m : Nat) := by
        rw [zI_div (by omega) (by omega) (by omega) (by omega)]
        congr 1
        omega
      have d2 : zI ((100 * m + e : Nat) : Int) - zI (m : Nat) * zI 100 = zI (e : Nat) := by
        rw [zI_mul, zI_sub]
        congr 1
        omega
      have l100 : ∀ z : Int, -2147483648 ≤ z → z < 2147483648 → ((zI z < zI 100) ↔ z < 100) := fun z h1 h2 => by rw [zI_lt h1 h2 (by omega) (by omega)]
      have lm1 : ∀ z : Int, -2147483648 ≤ z → z < 2147483648 → ((zI z = (-1 : Int32)) ↔ z = -1) := fun z h1 h2 => by rw [zL_m1, zI_eq h1 h2 (by omega) (by omega)]
      rw [if_neg (by omega), show (100 : Int32) = zI 100 from rfl, d1, d2, gm_n hm, q_isLive Q (by omega) (by omega), bk_i, il_B, ek]
      unfold arr
      by_cases q1 : tLv (wTr W m) (e : Nat) = true
      · have he48 : e < 48 := by have := tLv_lt q1; omega
        have hmet := K.2.2.2.2 m e hm (by omega)
        rw [decide_eq_true he48, Bool.true_and] at hmet
        rw [if_pos q1, gd_n hm (by omega), gd_n hm (by omega), gd_n hm (by omega), zI_cn (by omega), il_bit (by omega), hmet]
        by_cases q2 : met m e = true
        · rw [if_pos q2, if_neg (fun g => by rw [q2] at g; exact Bool.noConfusion g.2)]
          exact ⟨S, rfl, K⟩
        · have q2f := Bool.eq_false_iff.mpr q2
          have K' : fK (sJ S 15 m ((kJ S 15 m) ||| ((1 : Int64) <<< ((zI (e : Nat)).toInt64 &&& 63)))) W u (mt2 met m e) st F := by
            refine fK_15 K frJ_sJ (fun a b ha hb => ?_)
            rw [kJ_sJ_s]
            by_cases z : a = m
            · subst z
              rw [updL_s, lb_or, K.2.2.2.2 a b ha hb, lb_shl1 (by omega) hb]
              by_cases z2 : b = e
              · subst z2
                rw [mt2_s, decide_eq_true rfl, Bool.or_true, decide_eq_true he48]; rfl
              · rw [mt2_o (fun g => z2 g.2), decide_eq_false z2, Bool.or_false]
            · rw [updL_o _ _ z, mt2_o (fun g => z g.1)]
              exact K.2.2.2.2 a b ha hb
          have Q' := fK_tOk h K' hF hF2 hm
          have hk := Q.2.2.2.2.2.1 e he48
          rw [if_neg q2, if_pos ⟨q1, q2f⟩, gm_n hm, gd_n he48 (by omega), zI_cn (by omega), Q'.1.2.2.1 e he48]
          by_cases q3 : tLk (wTr W m) e = -1
          · rw [if_pos ((lm1 _ (by omega) (by omega)).mpr q3), if_pos q3]
            exact ⟨_, rfl, K'⟩
          · rw [if_neg (fun g => q3 ((lm1 _ (by omega) (by omega)).mp g)), if_neg q3]
            by_cases q4 : tLk (wTr W m) e < 100
            · obtain ⟨l, hl⟩ : ∃ l : Nat, tLk (wTr W m) e = l := ⟨(tLk (wTr W m) e).toNat, by omega⟩
              rw [if_pos ((l100 _ (by omega) (by omega)).mpr q4), if_pos q4, hl, Int.toNat_natCast, zI_mul, zI_add, show (m : Int) * 100 + (l : Nat) = ((100 * m + l : Nat) : Int) by omega]
              exact q_arriveFrom_4 h hF hF2 fuel k (hop + 1) m l (mt2 met m e) _ (by omega) (by omega) hm (by omega) K'
            · obtain ⟨l, hl⟩ : ∃ l : Nat, tLk (wTr W m) e - 100 = l := ⟨(tLk (wTr W m) e - 100).toNat, by omega⟩
              rw [if_neg (fun g => q4 ((l100 _ (by omega) (by omega)).mp g)), if_neg q4, zI_sub, hl, Int.toNat_natCast, zI_mul, zI_add, show (l : Int) * 100 + (e : Nat) = ((100 * l + e : Nat) : Int) by omega]
              exact q_arriveFrom_4 h hF hF2 fuel k (hop + 1) l e (mt2 met m e) _ (by omega) (by omega) (by omega) he K'
      · rw [if_neg q1, if_neg (fun g => q1 g.1)]
        exact ⟨S, rfl, K⟩
theorem q_arriveFrom (hN : 20000 ≤ N) (h : wOk W) (hF : F.length ≤ 192) (hF2 : ∀ s ∈ F, s < 400) (K : fK S W u met st F) {x : Nat} (h1 : x / 100 < 4) : ∃ S', pX3_arriveFrom N (zI (x : Nat)) S = some (zI (arS (arr W 193 met (x / 100) (x % 100)).2), S') ∧ fK S' W u (arr W 193 met (x / 100) (x % 100)).1 st F := by
  obtain ⟨S', e1, e2⟩ := q_arriveFrom_4 (N := N) h hF hF2 N 193 0 (x / 100) (x % 100) met S (by omega) (by omega) h1 (by omega) K
  rw [show 100 * (x / 100) + x % 100 = x by omega] at e1
  have e1 : pX3_arriveFrom_4 N N (zI (x : Nat)) 0 S = _ := e1
  exact ⟨S', by simp only [pX3_arriveFrom]; exact e1, e2⟩
theorem spot_1 {a b : Nat} (hb : b < 100) (ha : a < 1000) : zI ((100 * a + b : Nat) : Int) / (100 : Int32) = zI (a : Nat) := by
  rw [zL_100, zI_div (by omega) (by omega) (by omega) (by omega)]
  congr 1
  omega
theorem spot_2 {a b : Nat} : zI ((100 * a + b : Nat) : Int) - zI (a : Nat) * (100 : Int32) = zI (b : Nat) := by
  rw [zL_100, zI_mul, zI_sub]
  congr 1
  omega
theorem q_lookAt (hN : 20000 ≤ N) (h : wOk W) (hu : u < 6) (hK1 : (wK W).length = 1) (hF : F.length < 192) (hF2 : ∀ s ∈ F, s < 400) (K : fK S W u met st F) {a b : Nat} (ha : a < 4) (hb : b < 48) : ∃ S', pX3_lookAt N (zI ((100 * a + b : Nat) : Int)) S = some ((), S') ∧ fK S' W u met st (nxF W u (some (a, b)) F) := by
  have Q := fK_tOk h K (by omega) hF2 ha
  have hW := wFd_ok h (by omega) hF2
  have eg := q_grants (N := N) Q (H := wH W) K.1.1 (by omega) hu (what := 0) (by omega) (x := (b : Int)) (by omega) (by omega)
  have eg : pX8_grants N a (zI (u : Nat)) (zI (b : Nat)) 0 S = _ := eg
  have ea := q_applies (N := N) (W := wFd W F) (T := wTr W a) (S := S) (by omega) hW Q K.1.1 K.1.2.2.1 hK1 hb
  have ea : pX2_applies N a (zI (b : Nat)) S = some (zB (wFt W (wTr W a) b), S) := ea
  simp only [pX3_lookAt, nm_i]
  rw [spot_1 (by omega) (by omega), spot_2, gm_n ha, ea, bk_i, il_B]
  show ∃ S', _ = some ((), S') ∧ fK S' W u met st (if lok W u a b = true then F ++ [100 * a + b] else F)
  unfold lok
  by_cases q1 : wFt W (wTr W a) b = true
  · rw [if_pos q1, q1, Bool.true_and, K.2.1, eg, bk_i, il_B]
    by_cases q2 : tMay (wH W) (wTr W a) u (b : Nat) 0 = true
    · obtain ⟨S', c1, c2, c3, c4, c5⟩ := q_keep (N := N) (s := 100 * a + b) K.1 hF
      rw [if_pos q2, if_pos q2, c1, bk_i]
      obtain ⟨k1, k2, k3, k4, k5⟩ := K
      exact ⟨S', rfl, c2, by rw [c3 10 (by omega)]; exact k2, by rw [c3 9 (by omega)]; exact k3, by rw [c4 16 (by omega)]; exact k4, by rw [c5]; exact k5⟩
    · rw [if_neg q2, if_neg q2]
      exact ⟨S, rfl, K⟩
  · rw [if_neg q1, Bool.eq_false_iff.mpr q1, Bool.false_and, if_neg (by decide)]
    exact ⟨S, rfl, K⟩
/-- children come to wait -/
theorem q_await_27 {t : Nat} {l : List Nat} {a b : Nat} (ha : a < 4) (hb : b < 48) (hl : l.length ≤ 48) (hl2 : ∀ x ∈ l, x < 1000000) (hst : st.length + l.length ≤ 190) : ∀ (n i : Nat) (S : kS), i ≤ l.length → i < n → nR S t 2 l → fK S W u met ((l.drop i).map (spt a) ++ st) F → ∃ S', pX3_awaitChildrenOf_27 N n (zI ((100 * a + b : Nat) : Int)) t (zI ((i : Nat) - 1)) S = some ((), S') ∧ fK S' W u met (l.map (spt a) ++ st) F
  | 0, i, S, hi, hn, R, K => by omega
  | n + 1, i, S, hi, hn, R, K => by
    simp only [pX3_awaitChildrenOf_27, pX3_awaitChildrenOf_78, nm_i, svk_i]
    rw [zL_0, il_lt (by omega) (by omega) (by omega) (by omega)]
    cases i with
    | zero =>
      rw [if_pos (by omega)]
      exact ⟨S, rfl, K⟩
    | succ i =>
      have hil : i < l.length := by omega
      obtain ⟨k1, k2, k3, k4, k5⟩ := K
      have hlen : ((l.drop (i + 1)).map (spt a) ++ st).length = l.length - (i + 1) + st.length := by rw [List.length_append, List.length_map, List.length_drop]
      have hx := hl2 _ (List.getElem_mem hil)
      have ei : zI (((i + 1 : Nat) : Int) - 1) = zI (i : Nat) := by congr 1; omega
      have dv : zI (l[i] : Nat) - zI (l[i] : Nat) / (48 : Int32) * (48 : Int32) = zI ((l[i] % 48 : Nat) : Int) := by
        rw [zL_48, zI_div (by omega) (by omega) (by omega) (by omega), zI_mul, zI_sub]
        congr 1
        omega
      rw [if_neg (by omega), k3, hlen, zL_192, il_le (by omega) (by omega) (by omega) (by omega), if_neg (by omega), ei, q_at R hil, bk_i, gd_n (show l.length - (i + 1) + st.length < 192 by omega) (by omega), zI_cn (by omega), spot_1 (by omega) (by omega), dv, zL_100, zI_mul, zI_add, show (a : Int) * 100 + ((l[i] % 48 : Nat) : Int) = (spt a l[i] : Nat) by unfold spt; omega]
      have e9 : kI (sA S 16 (l.length - (i + 1) + st.length) (zI (spt a l[i] : Nat))) 9 = zI ((l.length - (i + 1) + st.length : Nat) : Int) := by rw [← hlen]; exact k3
      rw [e9, zL_m1, zI_add, zL_1, zI_add, show (i : Int) + -1 = (i : Nat) - 1 by omega]
      have hd : l.drop i = l[i] :: l.drop (i + 1) := List.drop_eq_getElem_cons hil
      have hlen2 : ((l.drop i).map (spt a) ++ st).length = l.length - i + st.length := by rw [List.length_append, List.length_map, List.length_drop]
      refine q_await_27 ha hb hl hl2 hst n i _ (by omega) (by omega) ⟨?_, ?_, R.2.2⟩ ⟨?_, ?_, ?_, fun s hs => ?_, k5⟩
      · rw [kI_sI, upd_o _ _ (by omega)]; exact R.1
      · intro j hj
        rw [kA_sI, kA_sA_o _ _ _ (by omega)]
        exact R.2.1 j hj
      · have fo := k1.2.2.2.2.2.2.2.2.2.2.2.2
        exact kRel_F (W := wFd W F) k1 (fun q hq => by rw [kI_sI, upd_o _ _ (by omega)]; rfl) (fun c _ hc => by rw [kA_sI, kA_sA_o _ _ _ hc]) (fun _ _ => rfl) rfl rfl ⟨by rw [kI_sI, upd_o _ _ (by omega)]; exact fo.1, by rw [kA_sI, kA_sA_o _ _ _ (by omega)]; exact fo.2⟩
      · rw [kI_sI, upd_o _ _ (by omega)]; exact k2
      · rw [kI_sI, upd_s, hlen2]; congr 1; omega
      · rw [kA_sI, kA_sA_s, hlen2]
        have hs2 : s < l.length - i + st.length := by rw [hlen2] at hs; exact hs
        cases s with
        | zero =>
          rw [show l.length - i + st.length - 1 - 0 = l.length - (i + 1) + st.length by omega, upd_s]
          congr 2
          simp only [hd]
          rfl
        | succ s =>
          have old := k4 s (by rw [hlen]; omega)
          have eo : ((l.drop (i + 1)).map (spt a) ++ st).length - 1 - s = l.length - (i + 1) + st.length - 1 - s := by rw [hlen]
          rw [eo] at old
          rw [upd_o _ _ (by omega), show l.length - i + st.length - 1 - (s + 1) = l.length - (i + 1) + st.length - 1 - s by omega, old]
          congr 2
          simp only [hd]
          rfl
theorem chL_one {T : sT} {p : Int} {l l' : List Nat} (h : chL T p l) (h' : chL T p l') : l = l' := nSt_ext h.1 h'.1 (fun x => (h.2.2 x).trans (h'.2.2 x).symm)
theorem q_await (hN : 20000 ≤ N) (h : wOk W) (hF : F.length ≤ 192) (hF2 : ∀ s ∈ F, s < 400) (K : fK S W u met st F) {a b : Nat} (ha : a < 4) (hb : b < 48) (hst : st.length + (kds W a b).length ≤ 190) : ∃ S', pX3_awaitChildrenOf N (zI ((100 * a + b : Nat) : Int)) S = some ((), S') ∧ fK S' W u met (kds W a b ++ st) F := by
  have Q := fK_tOk h K hF hF2 ha
  obtain ⟨S1, l, e1, R, e3, f⟩ := q_rankedAt (N := N) Q (by omega) (place := (b : Int)) (by omega) (by omega)
  have C : chL (wTr W a) (b : Nat) l := ⟨R.2.2.1, Nat.le_trans R.2.2.2.2 (by decide), e3⟩
  have hl := chL_one C (kds_ok h a b).1
  have hkl : (kds W a b).length = l.length := by unfold kds; rw [List.length_map, hl]
  have hlen := C.2.1
  obtain ⟨k1, k2, k3, k4, k5⟩ := K
  have K1 : kRel S1 (wFd W F) := kRel_2 ha k1 f
  have i1 : ∀ q, q < 40 → kI S1 q = kI S q := fun q hq => f.2.2.2.1 q (by omega)
  have KK : fK S1 W u met ((l.drop l.length).map (spt a) ++ st) F := by
    rw [List.drop_length]
    exact ⟨K1, by rw [i1 10 (by omega)]; exact k2, by rw [i1 9 (by omega)]; exact k3, by rw [f.1 16 (by omega)]; exact k4, by rw [f.2.1]; exact k5⟩
  obtain ⟨S2, e4, e5⟩ := q_await_27 (N := N) (t := a) (l := l) (a := a) (b := b) ha hb hlen R.2.2.2.1 (by omega) N l.length S1 (Nat.le_refl _) (by omega) R KK
  simp only [pX3_awaitChildrenOf, nm_i]
  rw [spot_1 (by omega) (by omega), spot_2, gm_n ha, e1, bk_i, R.1, zL_1, zI_sub, e4]
  refine ⟨S2, rfl, ?_⟩
  have : kds W a b = l.map (spt a) := by unfold kds; rw [hl]
  rw [this]
  exact e5
/-- the loop -/
theorem q_byLinks_79 (hN : 20000 ≤ N) (h : wOk W) (hu : u < 6) (hsc : sc < 3) (hK1 : (wK W).length = 1) : ∀ (fuel n i : Nat) (met : Nat → Nat → Bool) (st F : List Nat) (S : kS), i + n = 192 → n < fuel → fJ W met st F → fK S W u met st F → ∃ S', pX3_byLinks_79 N (pX3_byLinks_148 N) fuel (zI (sc : Nat)) (zI (i : Nat)) S = some (zI ((lpF W u sc n met st F).length : Nat), S') ∧ kRel S' (wFd W (lpF W u sc n met st F))
  | 0, n, i, met, st, F, S, hi, hn, J, K => by omega
  | fuel + 1, n, i, met, st, F, S, hi, hn, J, K => by
    have hJ := J.1
    simp only [pX3_byLinks_79, pX3_byLinks_142, nm_i, svk_i]
    rw [zL_192, il_le (by omega) (by omega) (by omega) (by omega), K.2.2.1, zL_0, il_le (by omega) (by omega) (by omega) (by omega)]
    have fin : ∃ S', pX3_byLinks_148 N S = some (zI (F.length : Nat), S') ∧ kRel S' (wFd W F) := by
      simp only [pX3_byLinks_148]
      rw [K.1.2.2.2.2.2.2.2.2.2.2.2.2.1]
      exact ⟨S, rfl, K.1⟩
    cases n with
    | zero =>
      rw [if_pos (by omega)]
      exact fin
    | succ n =>
      rw [if_neg (by omega)]
      cases st with
      | nil =>
        rw [if_pos (show ((([] : List Nat).length : Nat) : Int) ≤ 0 by decide)]
        exact fin
      | cons x st =>
        obtain ⟨hx1, hx2⟩ := J.2.1 x List.mem_cons_self
        obtain ⟨J2, -⟩ := fJ_step h (u := u) (sc := sc) J
        have hJc := hJ
        rw [List.length_cons] at hJ
        have l1 : ((x :: st).length : Int) = (st.length : Int) + 1 := by rw [List.length_cons]; omega
        have esub : zI ((x :: st).length : Nat) - (1 : Int32) = zI (st.length : Nat) := by
          rw [zL_1, zI_sub, l1]
          congr 1
          omega
        rw [if_neg (by omega), esub]
        have e9 : kI (sI S 9 (zI (st.length : Nat))) 9 = zI (st.length : Nat) := by rw [kI_sI, upd_s]
        have r16 : kA (sI S 9 (zI (st.length : Nat))) 16 st.length = zI (x : Nat) := by
          have := K.2.2.2.1 0 (by rw [List.length_cons]; omega)
          have ee : (x :: st).length - 1 - 0 = st.length := by rw [List.length_cons]; omega
          rw [ee] at this
          exact this
        have K1 : fK (sI S 9 (zI (st.length : Nat))) W u met st F := by
          obtain ⟨k1, k2, k3, k4, k5⟩ := K
          have fo := k1.2.2.2.2.2.2.2.2.2.2.2.2
          refine ⟨kRel_F (W := wFd W F) k1 (fun q hq => by rw [kI_sI, upd_o _ _ (by omega)]) (fun _ _ _ => rfl) (fun _ _ => rfl) rfl rfl ⟨by rw [kI_sI, upd_o _ _ (by omega)]; exact fo.1, fo.2⟩, by rw [kI_sI, upd_o _ _ (by omega)]; exact k2, e9, fun s hs => ?_, k5⟩
          have := k4 (s + 1) (by rw [List.length_cons]; omega)
          have ee : (x :: st).length - 1 - (s + 1) = st.length - 1 - s := by rw [List.length_cons]; omega
          rw [ee] at this
          exact this
        rw [e9, gd_n (show st.length < 192 by omega) (by omega), zI_cn (by omega), r16]
        obtain ⟨S2, a1, a2⟩ := q_arriveFrom (N := N) hN h (by omega) J.2.2 K1 (x := x) hx1
        have aok := (arr_ok h 193 met (x / 100) (x % 100) hx1 (by omega)).2
        have ek : zI (i : Nat) + 1 = zI ((i + 1 : Nat) : Int) := by rw [zL_1, zI_add]; congr 1
        rw [a1, bk_i, ek]
        show ∃ S', _ = some (zI ((lpF W u sc n (arr W 193 met (x / 100) (x % 100)).1 (nxS W sc (arr W 193 met (x / 100) (x % 100)).2 st) (nxF W u (arr W 193 met (x / 100) (x % 100)).2 F)).length : Nat), S') ∧ kRel S' (wFd W (lpF W u sc n (arr W 193 met (x / 100) (x % 100)).1 (nxS W sc (arr W 193 met (x / 100) (x % 100)).2 st) (nxF W u (arr W 193 met (x / 100) (x % 100)).2 F)))
        have ih := q_byLinks_79 hN h hu hsc hK1 fuel n (i + 1) (arr W 193 met (x / 100) (x % 100)).1 (nxS W sc (arr W 193 met (x / 100) (x % 100)).2 st) (nxF W u (arr W 193 met (x / 100) (x % 100)).2 F)
        generalize arr W 193 met (x / 100) (x % 100) = r at *
        obtain ⟨met', o⟩ := r
        cases o with
        | none =>
          dsimp only
          rw [if_pos (show zI (arS none) = (-1 : Int32) from rfl)]
          exact ih S2 (by omega) (by omega) J2 a2
        | some ab =>
          obtain ⟨a, b⟩ := ab
          obtain ⟨b1, b2, b3, b4, b5⟩ := aok a b rfl
          have nm1 : ¬ zI (arS (some (a, b))) = (-1 : Int32) := by
            show ¬ zI ((100 * a + b : Nat) : Int) = (-1 : Int32)
            rw [zL_m1, zI_eq (by omega) (by omega) (by omega) (by omega)]
            omega
          obtain ⟨S3, c1, c2⟩ := q_lookAt (N := N) hN h hu hK1 (show F.length < 192 by omega) J.2.2 a2 b1 b2
          have c1 : pX3_lookAt N (zI (arS (some (a, b)))) S2 = some ((), S3) := c1
          have s2 : (zI (sc : Nat) = zI 2) ↔ sc = 2 := by rw [zI_eq (by omega) (by omega) (by omega) (by omega)]; omega
          dsimp only
          rw [if_neg nm1, c1, bk_i, show (2 : Int32) = zI 2 from rfl]
          by_cases z : sc = 2
          · have hns : nxS W sc (some (a, b)) st = kds W a b ++ st := if_pos z
            have J2l := J2.1
            have J2l : (nxF W u (some (a, b)) F).length + (nxS W sc (some (a, b)) st).length + phi W met' ≤ 189 := J2l
            rw [hns, List.length_append] at J2l
            obtain ⟨S4, d1, d2⟩ := q_await (N := N) hN h (show (nxF W u (some (a, b)) F).length ≤ 192 by omega) J2.2.2 c2 b1 b2 (by omega)
            have d1 : pX3_awaitChildrenOf N (zI (arS (some (a, b)))) S3 = some ((), S4) := d1
            rw [if_pos (s2.mpr z), d1, bk_i]
            exact ih S4 (by omega) (by omega) J2 (by show fK S4 W u met' (nxS W sc (some (a, b)) st) _; rw [hns]; exact d2)
          · have hns : nxS W sc (some (a, b)) st = st := if_neg z
            rw [if_neg (fun g => z (s2.mp g))]
            exact ih S3 (by omega) (by omega) J2 (by show fK S3 W u met' (nxS W sc (some (a, b)) st) _; rw [hns]; exact c2)
end FB
