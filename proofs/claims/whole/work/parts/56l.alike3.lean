-- LEVEL 2, THE CALL ARE ALIKE, ALL OF IT
theorem zB_eq (a b : Bool) : (zB a = zB b) = (a = b) := by cases a <;> cases b <;> simp [zB]
section OS
variable {N : Nat} {S : kS} {M : mS} {W : sW} {T U : sT}
theorem r_isAlike_156 (P : rKp M U) (WU : tW U) (R : rT M T) (WT : tW T) {e : Nat} (he : e < 48) {k204 : Int32 → Int32 → mS → Option (Int32 × mS)} : ∀ (n q j : Nat) (b : Bool), j + q = 330 → q < n → ∃ b', pf_isAlike_156 N k204 n (zB b) (zI (e : Nat)) (zI ((330 * e + j : Nat) : Int)) M = k204 (zB b') (zI (e : Nat)) M ∧ (b' = true ↔ b = true ∧ ∀ k, j ≤ k → k < 330 → tSy U e k = tSy T e k)
  | 0, q, j, b, hq, hn => by omega
  | n + 1, q, j, b, hq, hn => by
    simp only [pf_isAlike_156, pf_isAlike_197, nm_i]
    rw [zL_330, zI_mul, zI_add, il_le (by omega) (by omega) (by omega) (by omega)]
    cases q with
    | zero =>
      rw [if_pos (by omega)]
      exact ⟨b, rfl, fun h => ⟨h, fun k h1 h2 => by omega⟩, fun h => h.1⟩
    | succ q =>
      have ek : zI ((330 * e + j : Nat) : Int) + 1 = zI ((330 * e + (j + 1) : Nat) : Int) := by rw [zL_1, zI_add]; congr 1
      obtain ⟨b0, e0, f0⟩ := r_isAlike_156 P WU R WT he (k204 := k204) n q (j + 1) false (by omega) (by omega)
      obtain ⟨b1, e1, f1⟩ := r_isAlike_156 P WU R WT he (k204 := k204) n q (j + 1) true (by omega) (by omega)
      have e0 : pf_isAlike_156 N k204 n 0 (zI (e : Nat)) (zI ((330 * e + (j + 1) : Nat) : Int)) M = _ := e0
      have e1 : pf_isAlike_156 N k204 n 1 (zI (e : Nat)) (zI ((330 * e + (j + 1) : Nat) : Int)) M = _ := e1
      have h0 : b0 = false := by
        rw [Bool.eq_false_iff]
        intro g
        exact Bool.noConfusion (f0.mp g).1
      have s1 := WU.2.2.2.2.2.2.2.1 e j
      have s2 := WT.2.2.2.2.2.2.2.1 e j
      rw [if_neg (by omega), il_B, ek, e0, e1]
      cases b with
      | false =>
        rw [if_neg (by decide)]
        exact ⟨b0, rfl, fun g => by rw [h0] at g; exact Bool.noConfusion g, fun g => Bool.noConfusion g.1⟩
      | true =>
        rw [if_pos rfl, gd_n (show 330 * e + j < 15840 by omega) (by omega), gd_n (show 330 * e + j < 15840 by omega) (by omega), zI_cn (by omega), R.2.2.2.2.2.2.2 e j he (by omega), P.2.2.2 e j he (by omega), il_eq (by omega) (by omega) (by omega) (by omega)]
        by_cases g : tSy U e j = tSy T e j
        · rw [if_pos (by omega)]
          refine ⟨b1, rfl, f1.trans ⟨fun h => ⟨rfl, fun k h1 h2 => ?_⟩, fun h => ⟨rfl, fun k h1 h2 => h.2 k (by omega) h2⟩⟩⟩
          by_cases ge : k = j
          · rw [ge]; exact g
          · exact h.2 k (by omega) h2
        · rw [if_neg (by omega)]
          exact ⟨b0, rfl, fun a => by rw [h0] at a; exact Bool.noConfusion a, fun a => absurd (a.2 j (Nat.le_refl _) (by omega)) g⟩
theorem r_isAlike_19 (hN : 1000 ≤ N) (P : rKp M U) (WU : tW U) (nU : (tVs U).Nodup) (hlen : (tVs U).length ≤ 900) (L : rLd M T) (nT : (tVs T).Nodup) : ∀ (n k i : Nat) (b : Bool), i + k = 48 → k < n → ∃ b', pf_isAlike_19 N n (zB b) (zI (i : Nat)) M = some (zB b', M) ∧ (b' = true ↔ b = true ∧ ∀ e : Nat, i ≤ e → e < 48 → tLv U e = tLv T e ∧ (tLv U e = true → tAs U T e))
  | 0, k, i, b, hk, hn => by omega
  | n + 1, k, i, b, hk, hn => by
    simp only [pf_isAlike_19]
    rw [zL_48, il_le (by omega) (by omega) (by omega) (by omega)]
    cases k with
    | zero =>
      rw [if_pos (by omega), zr_B]
      exact ⟨b, rfl, fun h => ⟨h, fun e h1 h2 => by omega⟩, fun h => h.1⟩
    | succ k =>
      have hi : i < 48 := by omega
      have ek : zI (i : Nat) + 1 = zI ((i + 1 : Nat) : Int) := by rw [zL_1, zI_add]; congr 1
      obtain ⟨b0, e0, f0⟩ := r_isAlike_19 hN P WU nU hlen L nT n k (i + 1) false (by omega) (by omega)
      obtain ⟨b1, e1, f1⟩ := r_isAlike_19 hN P WU nU hlen L nT n k (i + 1) true (by omega) (by omega)
      have e0 : pf_isAlike_19 N n 0 (zI ((i + 1 : Nat) : Int)) M = _ := e0
      have e1 : pf_isAlike_19 N n 1 (zI ((i + 1 : Nat) : Int)) M = _ := e1
      have h0 : b0 = false := by
        rw [Bool.eq_false_iff]
        intro g
        exact Bool.noConfusion (f0.mp g).1
      obtain ⟨p1, p2, p3, p4, p5⟩ := P.1 i hi
      -- no
      have no : ∀ {A : Option (Int32 × mS)}, A = some (zB b0, M) → ¬ (∀ e : Nat, i ≤ e → e < 48 → tLv U e = tLv T e ∧ (tLv U e = true → tAs U T e)) → ∃ b', A = some (zB b', M) ∧ (b' = true ↔ ∀ e : Nat, i ≤ e → e < 48 → tLv U e = tLv T e ∧ (tLv U e = true → tAs U T e)) := fun hA g => ⟨b0, hA, fun a => by rw [h0] at a; exact Bool.noConfusion a, fun a => absurd a g⟩
      -- yes
      have yes : ∀ {A : Option (Int32 × mS)}, A = some (zB b1, M) → (tLv U i = tLv T i ∧ (tLv U i = true → tAs U T i)) → ∃ b', A = some (zB b', M) ∧ (b' = true ↔ ∀ e : Nat, i ≤ e → e < 48 → tLv U e = tLv T e ∧ (tLv U e = true → tAs U T e)) := fun hA g => ⟨b1, hA, f1.trans ⟨fun h e h1 h2 => by
        by_cases ge : e = i
        · rw [ge]; exact g
        · exact h.2 e (by omega) h2, fun h => ⟨rfl, fun e h1 h2 => h e (by omega) h2⟩⟩⟩
      have red : ∀ {A : Option (Int32 × mS)}, (∃ b', A = some (zB b', M) ∧ (b' = true ↔ ∀ e : Nat, i ≤ e → e < 48 → tLv U e = tLv T e ∧ (tLv U e = true → tAs U T e))) → ∃ b', A = some (zB b', M) ∧ (b' = true ↔ true = true ∧ ∀ e : Nat, i ≤ e → e < 48 → tLv U e = tLv T e ∧ (tLv U e = true → tAs U T e)) := fun ⟨b', g1, g2⟩ => ⟨b', g1, g2.trans ⟨fun g => ⟨rfl, g⟩, fun g => g.2⟩⟩
      -- the last step of a comparison
      have at0 : pf_isAlike_51 N (pf_isAlike_19 N n) 0 (zI (i : Nat)) M = some (zB b0, M) := by
        simp only [pf_isAlike_51, pf_isAlike_204, nm_i]
        rw [if_pos trivial, ek]
        exact e0
      have at147 : ∀ b2 : Bool, ∃ b3, pf_isAlike_147 N (pf_isAlike_19 N n) (zB b2) (zI (i : Nat)) M = some (zB (if b3 then b1 else b0), M) ∧ (b3 = true ↔ b2 = true ∧ ∀ k, k < 330 → tSy U i k = tSy T i k) := fun b2 => by
        obtain ⟨b3, g1, g2⟩ := r_isAlike_156 (N := N) P WU L.1 L.2.1 hi (k204 := pf_isAlike_204 N (pf_isAlike_19 N n)) N 330 0 b2 (by omega) (by omega)
        refine ⟨b3, ?_, g2.trans ⟨fun h => ⟨h.1, fun k hk => h.2 k (Nat.zero_le _) hk⟩, fun h => ⟨h.1, fun k _ hk => h.2 k hk⟩⟩⟩
        simp only [pf_isAlike_147, nm_i]
        rw [zL_330, zI_mul, show (330 : Int) * (i : Nat) = ((330 * i + 0 : Nat) : Int) by omega, g1]
        simp only [pf_isAlike_204, nm_i]
        rw [ek]
        cases b3 with
        | false => exact e0
        | true => exact e1
      have n147 : pf_isAlike_147 N (pf_isAlike_19 N n) 0 (zI (i : Nat)) M = some (zB b0, M) := by
        obtain ⟨b3, g1, g2⟩ := at147 false
        have : b3 = false := by
          rw [Bool.eq_false_iff]
          intro g
          exact Bool.noConfusion (g2.mp g).1
        rw [this] at g1
        exact g1
      rw [if_neg (by omega), il_B]
      cases b with
      | false =>
        rw [if_neg (by decide)]
        exact ⟨b0, at0, fun a => by rw [h0] at a; exact Bool.noConfusion a, fun a => Bool.noConfusion a.1⟩
      | true =>
        refine red ?_
        rw [if_pos rfl, r_isLive L.1 (by omega) (by omega), bd_i, gd_n hi (by omega), zI_cn (by omega), p1]
        by_cases q : tLv T (i : Nat) = tLv U (i : Nat)
        · rw [if_pos (by rw [q])]
          simp only [pf_isAlike_51, pf_isAlike_204, nm_i]
          rw [if_neg (by decide), r_isLive L.1 (by omega) (by omega), bd_i, il_B]
          by_cases ql : tLv T (i : Nat) = true
          · have hU : tLv U (i : Nat) = true := by rw [← q]; exact ql
            have tT := tLv_th hi ql
            have tU := tLv_th hi hU
            have kT := L.2.1.2.2.2.1 i hi
            have kU := WU.2.2.2.1 i hi
            have pT := tPl_rg L.2.1 hi
            have pU := tPl_rg WU hi
            have sT := tSh_rg L.2.1 hi
            have sU := tSh_rg WU hi
            have lT := L.2.1.2.2.2.2.1 i hi
            have lU := WU.2.2.2.2.1 i hi
            rw [if_pos ql]
            simp only [gd_n hi (show (48 : Nat) < 2147483648 by omega), zI_cn (show i < 2147483648 by omega)]
            rw [p2, p3, p4 tU, p5, L.1.2.2.1 i hi, L.2.2.1 i hi, L.2.2.2 i hi tT, L.1.2.2.2.2.2.1 i hi, il_eq (by omega) (by omega) (by omega) (by omega), il_eq (by omega) (by omega) (by omega) (by omega), il_eq (by omega) (by omega) (by omega) (by omega), il_eq (by omega) (by omega) (by omega) (by omega)]
            by_cases c1 : tKl T i = tKl U i
            · rw [if_pos c1]
              by_cases c2 : tPl T (i : Nat) = tPl U (i : Nat)
              · rw [if_pos c2]
                by_cases c3 : tSh T i = tSh U i
                · rw [if_pos c3]
                  by_cases c4 : tLk T i = tLk U i
                  · obtain ⟨hs, d1, d2⟩ := r_hasSame (N := N) hN P WU nU hlen L.1.2.2.2.2.2.2.1 L.2.1 nT hi
                    rw [if_pos c4, d1, bd_i, il_B]
                    cases hs with
                    | false =>
                      rw [if_neg (by decide)]
                      exact no n147 (fun g => Bool.noConfusion (d2.mpr ((g i (Nat.le_refl _) hi).2 hU).2.2.2.2.2))
                    | true =>
                      obtain ⟨b3, g1, g2⟩ := at147 true
                      have g1 : pf_isAlike_147 N (pf_isAlike_19 N n) 1 (zI (i : Nat)) M = _ := g1
                      rw [if_pos rfl, g1]
                      by_cases q3 : b3 = true
                      · rw [q3, if_pos rfl]
                        exact yes rfl ⟨q.symm, fun _ => ⟨c2.symm, c3.symm, c1.symm, c4.symm, (g2.mp q3).2, d2.mp rfl⟩⟩
                      · rw [if_neg q3]
                        exact no rfl (fun g => q3 (g2.mpr ⟨rfl, ((g i (Nat.le_refl _) hi).2 hU).2.2.2.2.1⟩))
                  · rw [if_neg c4]
                    exact no n147 (fun g => c4 ((g i (Nat.le_refl _) hi).2 hU).2.2.2.1.symm)
                · rw [if_neg c3]
                  exact no n147 (fun g => c3 ((g i (Nat.le_refl _) hi).2 hU).2.1.symm)
              · rw [if_neg c2]
                exact no n147 (fun g => c2 ((g i (Nat.le_refl _) hi).2 hU).1.symm)
            · rw [if_neg c1]
              exact no n147 (fun g => c1 ((g i (Nat.le_refl _) hi).2 hU).2.2.1.symm)
          · rw [if_neg ql, ek]
            exact yes e1 ⟨q.symm, fun g => absurd (q.trans g) ql⟩
        · rw [if_neg (by rw [zB_eq]; exact q)]
          exact no at0 (fun g => q (g i (Nat.le_refl _) hi).1.symm)
theorem tVs_nd (h : wOk W) (K : kRel S W) {m : Nat} (hm : m < 4) : (tVs (wTr W m)).Nodup := vRs_nodup (tR_vRs (kRel_t h K hm).1)
theorem op_areAlike (hN : 20000 ≤ N) (h : wOk W) (K : kRel S W) (R : mRel M W) (x y : Int32) : opOk 1 0 0 (pX9_areAlike N x y S) (pf_areAlike N x y M) := by
  obtain ⟨x, h1, h2, rfl⟩ := zI_of x
  obtain ⟨y, h3, h4, rfl⟩ := zI_of y
  have bad : ∀ {A : Option ((Int32 ⊕ Nat) × kS)}, A = some (.inr 1, S) → opOk 1 0 0 A (pf_areAlike_20 N 1 (zI x) (zI y) M) := fun hA => by
    simp only [pf_areAlike_20, sv_i]
    rw [show (mI M 0 1).1 0 = 1 from thr_k, if_neg (by decide)]
    exact opOk_x hA rfl (Or.inl ⟨rfl, thr_k⟩) h K (mRel_0 R)
  simp only [pX9_areAlike, pf_areAlike]
  rw [r_isMaster h1 h2, bs_i, il_B, r_isMaster h3 h4, bs_i, il_B]
  by_cases q : 0 ≤ x ∧ x < 4
  · obtain ⟨m, rfl⟩ : ∃ m : Nat, x = m := ⟨x.toNat, by omega⟩
    have hm : m < 4 := by omega
    rw [if_pos (in_yes (by omega)), g_master hm, bx_l, gn_l hm]
    by_cases q2 : 0 ≤ y ∧ y < 4
    · obtain ⟨o, rfl⟩ : ∃ o : Nat, y = o := ⟨y.toNat, by omega⟩
      have ho : o < 4 := by omega
      have Q := kRel_t h K hm
      have Q2 := kRel_t h K ho
      have R0 := mRel_0 (v := (0 : Int32)) R
      obtain ⟨M1, a1, L1, -, R1, f1⟩ := w_lays (N := N) hN h R0 hm
      obtain ⟨M2, a2, P2, f2⟩ := r_keeps (N := N) hN L1
      have R2 := mRel_K R1 f2
      obtain ⟨M3, a3, L3, -, R3, f3⟩ := w_lays (N := N) hN h R2 ho
      have P3 := rKp_l f3 P2
      have WU := (wTr_ok h m).1
      have hlen : (tVs (wTr W m)).length ≤ 900 := L1.1.2.2.2.2.2.2.1.2.1
      obtain ⟨b, a4, a5⟩ := r_isAlike_19 (N := N) (by omega) P3 WU (tVs_nd h K hm) hlen L3 (tVs_nd h K ho) N 48 0 true (by omega) (by omega)
      have a4 : pf_isAlike_19 N N 1 0 M3 = _ := a4
      have t0 : M3.1 0 = 0 := by rw [f3.1 0 (by omega) (by omega), f2.1 0 (by omega)]; exact thr_0 f1
      have ref : pf_areAlike_20 N 0 (zI (m : Nat)) (zI (o : Nat)) M = some (zB b, M3) := by
        simp only [pf_areAlike_20, pf_isAlike, sv_i]
        rw [show (mI M 0 0).1 0 = 0 from thr_k, if_pos rfl, a1, bd_i, a2, bd_i, a3, bd_i, a4, bd_i, il_B]
        cases b <;> rfl
      rw [if_pos (in_yes (by omega)), g_master ho, bx_l, gn_l ho, q_living, bk_i, q_living, bk_i, ref]
      by_cases q3 : ∀ e : Nat, e < 48 → tLv (wTr W m) e = tLv (wTr W o) e
      · obtain ⟨b', c1, c2⟩ := q_areAlike_37 (N := N) (by omega) Q Q2 q3 N 48 0 (by omega) (by omega)
        have c1 : pX9_areAlike_37 N N m o 0 S = _ := c1
        have : b' = b := by
          rw [Bool.eq_iff_iff, c2, a5]
          exact ⟨fun g => ⟨rfl, fun e g1 g2 => ⟨q3 e g2, g e g1 g2⟩⟩, fun g e g1 g2 g3 => (g.2 e g1 g2).2 g3⟩
        rw [if_pos (by rw [lg_cmp_0]; exact (lv_word Q Q2).mpr q3), c1, this]
        exact opOk_v rfl rfl t0 h K R3
      · have : b = false := by
          rw [Bool.eq_false_iff]
          intro g
          exact q3 (fun e he => ((a5.mp g).2 e (Nat.zero_le _) he).1)
        rw [if_neg (by rw [lg_cmp_0]; exact fun g => q3 ((lv_word Q Q2).mp g)), this]
        exact opOk_v rfl rfl t0 h K R3
    · rw [if_neg (in_no (by omega)), g_masterNo h3 h4 q2, bx_r]
      exact bad rfl
  · rw [if_neg (in_no (by omega)), g_masterNo h1 h2 q, bx_r]
    exact bad rfl
end OS
