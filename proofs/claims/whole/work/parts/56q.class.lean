-- LEVEL 2, THE CALL OBJECT CLASS
section HY
variable {N : Nat} {S S' : kS} {M M' : mS} {W : sW} {H' : sH}
/-- a set of attributes that there are -/
def isS (x : Int32) (n : Nat) : Bool := !anyF (fun i => decide (n ≤ i) && ib x i) 0 32
theorem isS_iff {x : Int32} {n : Nat} : isS x n = true ↔ ∀ i, n ≤ i → i < 32 → ib x i = false := by
  unfold isS
  rw [Bool.not_eq_true', Bool.eq_false_iff]
  constructor
  · intro h i h1 h2
    rw [Bool.eq_false_iff]
    intro g
    exact h (anyF_iff.mpr ⟨i, Nat.zero_le _, by omega, by rw [g, decide_eq_true h1]; rfl⟩)
  · intro h g
    obtain ⟨i, -, i2, i3⟩ := anyF_iff.mp g
    rw [Bool.and_eq_true, decide_eq_true_eq] at i3
    rw [h i i3.1 (by omega)] at i3
    exact Bool.noConfusion i3.2
theorem ib_ushr {n : Nat} (hn : n < 32) (x : Int32) {i : Nat} (hi : i < 32) : ib ((x.toUInt32 >>> ((zI (n : Int)).toUInt32 &&& Int32.toUInt32 31)).toInt32) i = (decide (n + i < 32) && ib x (n + i)) := by
  unfold ib
  show (x.toBitVec >>> (((zI (n : Int)).toUInt32 &&& Int32.toUInt32 31).toBitVec % 32).toNat).getLsbD i = _
  rw [iw_su n hn, BitVec.getLsbD_ushiftRight]
  by_cases g : n + i < 32
  · rw [decide_eq_true g, Bool.true_and]
  · rw [decide_eq_false g, Bool.false_and]
    exact BitVec.getLsbD_of_ge _ _ (by omega)
theorem su_0 {n : Nat} (hn : n < 32) (x : Int32) : ((x.toUInt32 >>> ((zI (n : Int)).toUInt32 &&& Int32.toUInt32 31)).toInt32 = 0) ↔ isS x n = true := by
  rw [isS_iff]
  constructor
  · intro h i h1 h2
    have this : ib ((x.toUInt32 >>> ((zI (n : Int)).toUInt32 &&& Int32.toUInt32 31)).toInt32) (i - n) = ib 0 (i - n) := congrArg (fun y => ib y (i - n)) h
    rw [ib_ushr hn x (by omega), ib_0, show n + (i - n) = i by omega, decide_eq_true h2, Bool.true_and] at this
    exact this
  · intro h
    refine ib_ext (fun i hi => ?_)
    rw [ib_ushr hn x hi, ib_0]
    by_cases g : n + i < 32
    · rw [h (n + i) (by omega) g, Bool.and_false]
    · rw [decide_eq_false g, Bool.false_and]
theorem ss_0 {n : Nat} (hn : n < 32) (x : Int32) : (x >>> (zI (n : Int) &&& 31) = 0) ↔ isS x n = true := by
  rw [isS_iff]
  constructor
  · intro h i h1 h2
    have this : ib (x >>> (zI (n : Int) &&& 31)) (i - n) = ib 0 (i - n) := congrArg (fun y => ib y (i - n)) h
    rw [ib_sshr hn x (by omega), ib_0, show n + (i - n) = i by omega, if_pos h2] at this
    exact this
  · intro h
    refine ib_ext (fun i hi => ?_)
    rw [ib_sshr hn x hi, ib_0]
    by_cases g : n + i < 32
    · rw [if_pos g, h (n + i) (by omega) g]
    · rw [if_neg g, h 31 (by omega) (by omega)]
theorem op_objectClass (h : wOk W) (K : kRel S W) (R : mRel M W) (x y z : Int32) : opOk 1 3 0 (pX9_objectClass N x y z S) (pf_objectClass N x y z M) := by
  obtain ⟨x, h1, h2, rfl⟩ := zI_of x
  have h10 := h.1.1
  have h8 := h.1.2.1
  have R0 := mRel_0 (v := (0 : Int32)) R
  have bad : ∀ {A : Option ((Int32 ⊕ Nat) × kS)}, A = some (.inr 1, S) → opOk 1 3 0 A (pf_objectClass_37 N (mI M 0 0)) := fun hA => by
    simp only [pf_objectClass_37]
    rw [fails_i, bd_i]
    exact opOk_x hA rfl (Or.inl ⟨rfl, thr_k⟩) h K (mRel_0 R0)
  have m4 : (mI M 0 0).1 4 = zI (hC (wH W) : Nat) := R0.1.2.1
  have m1 : (mI M 0 0).1 1 = zI (hA (wH W) : Nat) := R0.1.1
  have ei : pf_in N (zI x) (-1) ((mI M 0 0).1 4 - 1) = some (zB (decide (-1 ≤ x) && decide (x ≤ (hC (wH W) : Nat) - 1))) := by
    have e : (mI M 0 0).1 4 - 1 = zI ((hC (wH W) : Nat) - 1) := by rw [m4, zL_1, zI_sub]
    rw [e]
    exact r_in (N := N) (a := -1) (b := (hC (wH W) : Nat) - 1) h1 h2 (by omega) (by omega) (by omega) (by omega)
  simp only [pf_objectClass, sv_i]
  rw [ei, bs_i, il_B, m1, m4]
  have is1 : ∀ w : Int32, pX7_isSetOfAttributes N w S = some (zB (isS w (hA (wH W))), S) := fun w => by
    simp only [pX7_isSetOfAttributes]
    rw [K.1.1]
    by_cases g : isS w (hA (wH W)) = true
    · rw [if_pos ((su_0 (by omega) w).mpr g), g]; rfl
    · rw [if_neg (fun k => g ((su_0 (by omega) w).mp k)), Bool.eq_false_iff.mpr g]; rfl
  have hx : (hIs (wH W) x = true) ↔ (0 ≤ x ∧ x < (hC (wH W) : Int)) := by
    unfold hIs
    rw [Bool.and_eq_true, decide_eq_true_eq, decide_eq_true_eq]
  have cls : pX9_objectClass N (zI x) y z S = if -1 ≤ x ∧ x < (hC (wH W) : Int) then pX9_objectClass_10 N (zI x) y z S else some (.inr 1, S) := by
    simp only [pX9_objectClass]
    rw [zL_m1, il_eq h1 h2 (by omega) (by omega)]
    by_cases g : x = -1
    · rw [if_pos g, if_pos (by omega)]
    · rw [if_neg g, g_class K.1 h.1 h1 h2]
      by_cases g2 : hIs (wH W) x = true
      · have := hx.mp g2
        rw [if_pos g2, bx_l, if_pos (by omega)]
      · rw [if_neg g2, bx_r, if_neg (fun k => g2 (hx.mpr (by omega)))]
  rw [cls]
  by_cases q : -1 ≤ x ∧ x < (hC (wH W) : Int)
  · rw [if_pos q, if_pos (in_yes (by omega))]
    simp only [pX9_objectClass_10, pX9_objectClass_32]
    rw [is1, bk_i, il_B]
    by_cases q1 : isS y (hA (wH W)) = true
    · rw [if_pos q1, if_pos ((ss_0 (by omega) y).mpr q1), is1, bk_i, il_B]
      by_cases q2 : isS z (hA (wH W)) = true
      · rw [if_pos q2, if_pos ((ss_0 (by omega) z).mpr q2), K.1.2.1, zL_8, il_lt (by omega) (by omega) (by omega) (by omega), il_eq (by omega) (by omega) (by omega) (by omega)]
        by_cases q3 : hC (wH W) < 8
        · rw [if_pos (by omega), if_neg (by omega)]
          generalize hH : ((hA (wH W), hSg (wH W), hTn (wH W), hC (wH W) + 1, upf (hPr (wH W)) (hC (wH W)) x, upf (hRq (wH W)) (hC (wH W)) (y ||| hReq (wH W) x), upf (hAl (wH W)) (hC (wH W)) ((y ||| z) ||| hAll (wH W) x)) : sH) = H'
          have z1 : hA H' = hA (wH W) := by rw [← hH]; rfl
          have z2 : hSg H' = hSg (wH W) := by rw [← hH]; rfl
          have z3 : hTn H' = hTn (wH W) := by rw [← hH]; rfl
          have z4 : hC H' = hC (wH W) + 1 := by rw [← hH]; rfl
          have z5 : hPr H' = upf (hPr (wH W)) (hC (wH W)) x := by rw [← hH]; rfl
          have z6 : hRq H' = upf (hRq (wH W)) (hC (wH W)) (y ||| hReq (wH W) x) := by rw [← hH]; rfl
          have z7 : hAl H' = upf (hAl (wH W)) (hC (wH W)) ((y ||| z) ||| hAll (wH W) x) := by rw [← hH]; rfl
          have E : hExt (wH W) H' := ⟨by omega, by omega, fun a ha => ⟨by rw [z2], by rw [z3]⟩⟩
          have hw : hW H' := by
            obtain ⟨w1, w2, w3, w4⟩ := h.1
            refine ⟨by omega, by omega, fun k hk => ?_, fun a ha => ?_⟩
            · rw [z5]
              by_cases g : k = hC (wH W)
              · rw [g, upf_s]; omega
              · rw [upf_o _ _ g]; exact w3 k (by omega)
            · rw [z2, z3]
              exact w4 a (by omega)
          have hq0 := h.2.2.2.2.2.2.2.2
          have hq : hQ H' := fun k hk a ha h32 => by
            rw [z6]
            by_cases g : k = hC (wH W)
            · rw [g, upf_s, ib_or, isS_iff.mp q1 a (by omega) h32, Bool.false_or]
              unfold hReq
              by_cases g2 : hIs (wH W) x = true
              · rw [if_pos g2]
                have := hx.mp g2
                exact hq0 x.toNat (by omega) a (by omega) h32
              · rw [if_neg g2, ib_0]
            · rw [upf_o _ _ g]
              exact hq0 k (by omega) a (by omega) h32
          -- classes that were there
          have old : ∀ k : Int, k < (hC (wH W) : Int) → hReq H' k = hReq (wH W) k ∧ hAll H' k = hAll (wH W) k := fun k hk => by
            have hi : hIs H' k = hIs (wH W) k := by
              unfold hIs
              rw [z4]
              by_cases g : k < (hC (wH W) : Int)
              · rw [decide_eq_true g, decide_eq_true (show k < ((hC (wH W) + 1 : Nat) : Int) by omega)]
              · omega
            unfold hReq hAll
            rw [hi, z6, z7]
            by_cases g : hIs (wH W) k = true
            · have g2 : 0 ≤ k ∧ k < (hC (wH W) : Int) := by
                unfold hIs at g
                rw [Bool.and_eq_true, decide_eq_true_eq, decide_eq_true_eq] at g
                exact g
              rw [if_pos g, if_pos g, if_pos g, if_pos g, upf_o _ _ (by omega), upf_o _ _ (by omega)]
              exact ⟨rfl, rfl⟩
            · rw [if_neg g, if_neg g, if_neg g, if_neg g]
              exact ⟨rfl, rfl⟩
          have cls2 : ∃ S', pX7_newClass N (zI x) y z S = some (zI (hC (wH W) : Nat), S') ∧ hR S' H' ∧ (∀ q, q = 0 ∨ 5 ≤ q → kI S' q = kI S q) ∧ (∀ c, 5 ≤ c → kA S' c = kA S c) ∧ kJ S' = kJ S ∧ kL S' = kL S ∧ S'.2.2.2.2 = S.2.2.2.2 := by
            obtain ⟨k1, k2, k3, k4, k5, k6, k7⟩ := id K.1
            simp only [pX7_newClass, svk_i]
            rw [k2, zL_8, il_lt (by omega) (by omega) (by omega) (by omega), if_pos (by omega), gd_n q3 (by omega), zI_cn (by omega)]
            -- the parent's row is written first
            have h1' : hR (sA S 2 (hC (wH W)) (zI x)) (wH W) := ⟨k1, k2, k3, k4, fun k hk => by rw [kA_sA_s, upd_o _ _ (by omega)]; exact k5 k hk, fun k hk => by rw [kA_sA_o _ _ _ (by omega)]; exact k6 k hk, fun k hk => by rw [kA_sA_o _ _ _ (by omega)]; exact k7 k hk⟩
            rw [q_requiredBy h1' h.1 h1 h2, bk_i, show kI (sA S 2 (hC (wH W)) (zI x)) 2 = zI (hC (wH W) : Nat) from k2, gd_n q3 (by omega), zI_cn (by omega)]
            have h2' : hR (sA (sA S 2 (hC (wH W)) (zI x)) 3 (hC (wH W)) (y ||| hReq (wH W) x)) (wH W) := ⟨k1, k2, k3, k4, fun k hk => by rw [kA_sA_o _ _ _ (by omega), kA_sA_s, upd_o _ _ (by omega)]; exact k5 k hk, fun k hk => by rw [kA_sA_s, upd_o _ _ (by omega), kA_sA_o _ _ _ (by omega)]; exact k6 k hk, fun k hk => by rw [kA_sA_o _ _ _ (by omega), kA_sA_o _ _ _ (by omega)]; exact k7 k hk⟩
            rw [q_allowedBy h2' h.1 h1 h2, bk_i, show kI (sA (sA S 2 (hC (wH W)) (zI x)) 3 (hC (wH W)) (y ||| hReq (wH W) x)) 2 = zI (hC (wH W) : Nat) from k2, gd_n q3 (by omega), zI_cn (by omega)]
            generalize hS3 : sA (sA (sA S 2 (hC (wH W)) (zI x)) 3 (hC (wH W)) (y ||| hReq (wH W) x)) 4 (hC (wH W)) ((y ||| z) ||| hAll (wH W) x) = S3
            have i3 : kI S3 = kI S := by rw [← hS3]; rfl
            have a2 : kA S3 2 = upd (kA S 2) (hC (wH W)) (zI x) := by rw [← hS3, kA_sA_o _ _ _ (by omega), kA_sA_o _ _ _ (by omega), kA_sA_s]
            have a3 : kA S3 3 = upd (kA S 3) (hC (wH W)) (y ||| hReq (wH W) x) := by rw [← hS3, kA_sA_o _ _ _ (by omega), kA_sA_s, kA_sA_o _ _ _ (by omega)]
            have a4 : kA S3 4 = upd (kA S 4) (hC (wH W)) ((y ||| z) ||| hAll (wH W) x) := by rw [← hS3, kA_sA_s, kA_sA_o _ _ _ (by omega), kA_sA_o _ _ _ (by omega)]
            have ao : ∀ c, 5 ≤ c → kA S3 c = kA S c := fun c hc => by rw [← hS3, kA_sA_o _ _ _ (by omega), kA_sA_o _ _ _ (by omega), kA_sA_o _ _ _ (by omega)]
            have j3 : kJ S3 = kJ S := by rw [← hS3]; rfl
            have l3 : kL S3 = kL S := by rw [← hS3]; rfl
            have d3 : S3.2.2.2.2 = S.2.2.2.2 := by rw [← hS3]; rfl
            rw [i3, k2]
            refine ⟨_, rfl, ⟨?_, ?_, fun a ha => ?_, fun a ha => ?_, fun k hk => ?_, fun k hk => ?_, fun k hk => ?_⟩, fun q hq => ?_, fun c hc => ?_, j3, l3, d3⟩
            · rw [kI_sI, upd_o _ _ (by omega), i3, z1]; exact k1
            · rw [kI_sI, upd_s, zL_1, zI_add, z4]; congr 1
            · rw [kI_sI, upd_o _ _ (by omega), i3, z2]; exact k3 a ha
            · rw [kI_sI, upd_o _ _ (by omega), i3, z3]; exact k4 a ha
            · rw [kA_sI, a2, z5]
              by_cases g : k = hC (wH W)
              · rw [g, upd_s, upf_s]
              · rw [upd_o _ _ g, upf_o _ _ g]; exact k5 k (by omega)
            · rw [kA_sI, a3, z6]
              by_cases g : k = hC (wH W)
              · rw [g, upd_s, upf_s]
              · rw [upd_o _ _ g, upf_o _ _ g]; exact k6 k (by omega)
            · rw [kA_sI, a4, z7]
              by_cases g : k = hC (wH W)
              · rw [g, upd_s, upf_s]
              · rw [upd_o _ _ g, upf_o _ _ g]; exact k7 k (by omega)
            · rw [kI_sI, upd_o _ _ (by omega), i3]
            · rw [kA_sI]; exact ao c hc
          obtain ⟨S', e1, e2, e3, e4, e5, e6, e7⟩ := cls2
          rw [e1, bk_i]
          rw [gd_n q3 (by omega), zI_cn (by omega)]
          have n1 : (mA (mI M 0 0) 5 (hC (wH W)) (zI x)).1 4 = zI (hC (wH W) : Nat) := m4
          rw [n1, gd_n q3 (by omega), zI_cn (by omega)]
          have n2 : (mA (mA (mI M 0 0) 5 (hC (wH W)) (zI x)) 6 (hC (wH W)) y).1 4 = zI (hC (wH W) : Nat) := m4
          rw [n2, gd_n q3 (by omega), zI_cn (by omega)]
          have n3 : (mA (mA (mA (mI M 0 0) 5 (hC (wH W)) (zI x)) 6 (hC (wH W)) y) 7 (hC (wH W)) z).1 4 = zI (hC (wH W) : Nat) := m4
          have m3 : ∀ Q : mS, ∀ v, (mI Q 4 v).1 4 = v := fun Q v => by rw [mI_1, upd_s]
          rw [n3, m3, zL_1, zI_add, zI_sub, show (hC (wH W) : Int) + 1 - 1 = (hC (wH W) : Nat) by omega]
          refine opOk_v rfl rfl ?_ (w_ext h E hw hq) (k_ext h K E e2 e3 e4 e5 e6 e7) (m_ext h R0 E ?_ (fun q q0 q1 q4 => ?_) (fun c hc => ?_))
          · rw [mI_1, upd_o _ _ (by omega)]
            exact thr_k (M := M)
          · obtain ⟨s1, s2, s3, s4, s5, s6, s7⟩ := R0.1
            have u2 : ∀ c, c ≠ 5 → c ≠ 6 → c ≠ 7 → (mI (mA (mA (mA (mI M 0 0) 5 (hC (wH W)) (zI x)) 6 (hC (wH W)) y) 7 (hC (wH W)) z) 4 (zI ((hC (wH W) : Int) + 1))).2 c = M.2 c := fun c c5 c6 c7 => by rw [mI_2, mA_o _ _ _ c7, mA_o _ _ _ c6, mA_o _ _ _ c5, mI_2]
            have u5 : (mI (mA (mA (mA (mI M 0 0) 5 (hC (wH W)) (zI x)) 6 (hC (wH W)) y) 7 (hC (wH W)) z) 4 (zI ((hC (wH W) : Int) + 1))).2 5 = upd (M.2 5) (hC (wH W)) (zI x) := by rw [mI_2, mA_o _ _ _ (by omega), mA_o _ _ _ (by omega), mA_s, mI_2]
            have u6 : (mI (mA (mA (mA (mI M 0 0) 5 (hC (wH W)) (zI x)) 6 (hC (wH W)) y) 7 (hC (wH W)) z) 4 (zI ((hC (wH W) : Int) + 1))).2 6 = upd (M.2 6) (hC (wH W)) y := by rw [mI_2, mA_o _ _ _ (by omega), mA_s, mA_o _ _ _ (by omega), mI_2]
            have u7 : (mI (mA (mA (mA (mI M 0 0) 5 (hC (wH W)) (zI x)) 6 (hC (wH W)) y) 7 (hC (wH W)) z) 4 (zI ((hC (wH W) : Int) + 1))).2 7 = upd (M.2 7) (hC (wH W)) z := by rw [mI_2, mA_s, mA_o _ _ _ (by omega), mA_o _ _ _ (by omega), mI_2]
            refine ⟨?_, ?_, fun a ha => ?_, fun a ha => ?_, fun k hk => ?_, fun k hk => ?_, fun k hk => ?_⟩
            · rw [mI_1, upd_o _ _ (by omega), z1]; exact s1
            · rw [m3, z4]; congr 1
            · rw [u2 2 (by omega) (by omega) (by omega), z2]; exact s3 a ha
            · rw [u2 3 (by omega) (by omega) (by omega), z3]; exact s4 a ha
            · rw [u5, z5]
              by_cases g : k = hC (wH W)
              · rw [g, upd_s, upf_s]
              · rw [upd_o _ _ g, upf_o _ _ g]; exact s5 k (by omega)
            · rw [u6, z6, z5]
              by_cases g : k = hC (wH W)
              · rw [g, upd_s, upf_s, upf_s, (old x (by omega)).1]
              · have w3 := h.1.2.2.1 k (by omega)
                rw [upd_o _ _ g, upf_o _ _ g, upf_o _ _ g, (old _ (by omega)).1]; exact s6 k (by omega)
            · rw [u6, u7, z7, z5]
              by_cases g : k = hC (wH W)
              · rw [g, upd_s, upd_s, upf_s, upf_s, (old x (by omega)).2]
              · have w3 := h.1.2.2.1 k (by omega)
                rw [upd_o _ _ g, upd_o _ _ g, upf_o _ _ g, upf_o _ _ g, (old _ (by omega)).2]; exact s7 k (by omega)
          · rw [mI_1, upd_o _ _ q4]; rfl
          · rw [mI_2, mA_o _ _ _ (by omega), mA_o _ _ _ (by omega), mA_o _ _ _ (by omega)]
        · rw [if_neg (by omega), if_pos (by omega), fails_i, bd_i]
          exact opOk_x rfl rfl (Or.inr (Or.inl ⟨rfl, thr_k⟩)) h K (mRel_0 R0)
      · rw [if_neg q2, if_neg (fun k => q2 ((ss_0 (by omega) z).mp k))]
        exact bad rfl
    · rw [if_neg q1, if_neg (fun k => q1 ((ss_0 (by omega) y).mp k))]
      exact bad rfl
  · rw [if_neg q, if_neg (in_no (by omega))]
    exact bad rfl
end HY
