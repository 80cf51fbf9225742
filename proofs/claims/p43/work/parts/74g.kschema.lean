-- LEVEL 2, THE CLASS'S CALLS ALONE: ATTRIBUTE, OBJECT CLASS, ADD, EXCHANGE
section KG2
variable {N : Nat} {S : kS} {W : sW} {m : Nat}
/-- the schema with an attribute more, with a class more -/
def hAt (H : sH) (b1 b2 : Bool) : sH := (hA H + 1, upf (hSg H) (hA H) b1, upf (hTn H) (hA H) b2, hC H, hPr H, hRq H, hAl H)
def hCl (H : sH) (x : Int) (y z : Int32) : sH := (hA H, hSg H, hTn H, hC H + 1, upf (hPr H) (hC H) x, upf (hRq H) (hC H) (y ||| hReq H x), upf (hAl H) (hC H) ((y ||| z) ||| hAll H x))
theorem k_attribute (h : wOk W) (K : kRel S W) {b1 b2 : Bool} (q : hA (wH W) < 10) : kOk (pX9_attribute N (zB b1) (zB b2) S) (hA (wH W) : Nat) (wSc W (hAt (wH W) b1 b2)) := by
  have h10 := h.1.1
  simp only [pX9_attribute]
  rw [K.1.1, zL_10, il_lt (by omega) (by omega) (by omega) (by omega), if_pos (by omega)]
  have hbit : ∀ (b : Bool) (a : Nat), a < 32 → ib (if b then ((1 : Int32) <<< (zI (hA (wH W) : Nat) &&& 31)) else 0) a = (b && decide (a = hA (wH W))) := fun b a ha => by
    cases b with
    | false =>
      rw [if_neg (by decide), ib_0]; rfl
    | true =>
      rw [if_pos rfl, ib_shl1 (by omega) ha]; rfl
  show kOk _ _ (wSc W (hA (wH W) + 1, upf (hSg (wH W)) (hA (wH W)) b1, upf (hTn (wH W)) (hA (wH W)) b2, hC (wH W), hPr (wH W), hRq (wH W), hAl (wH W)))
  generalize hH : ((hA (wH W) + 1, upf (hSg (wH W)) (hA (wH W)) b1, upf (hTn (wH W)) (hA (wH W)) b2, hC (wH W), hPr (wH W), hRq (wH W), hAl (wH W)) : sH) = H'
  have z1 : hA H' = hA (wH W) + 1 := by rw [← hH]; rfl
  have z2 : hSg H' = upf (hSg (wH W)) (hA (wH W)) b1 := by rw [← hH]; rfl
  have z3 : hTn H' = upf (hTn (wH W)) (hA (wH W)) b2 := by rw [← hH]; rfl
  have z4 : hC H' = hC (wH W) := by rw [← hH]; rfl
  have z5 : hPr H' = hPr (wH W) := by rw [← hH]; rfl
  have z6 : hRq H' = hRq (wH W) := by rw [← hH]; rfl
  have z7 : hAl H' = hAl (wH W) := by rw [← hH]; rfl
  have E : hExt (wH W) H' := ⟨by omega, by omega, fun a ha => ⟨by rw [z2, upf_o _ _ (by omega)], by rw [z3, upf_o _ _ (by omega)]⟩⟩
  have hw : hW H' := by
    obtain ⟨w1, w2, w3, w4⟩ := h.1
    refine ⟨by omega, by omega, fun k hk => by rw [z5]; exact w3 k (by omega), fun a ha => ?_⟩
    rw [z2, z3, upf_o _ _ (by omega), upf_o _ _ (by omega)]
    exact w4 a (by omega)
  have hq : hQ H' := fun k hk a ha h32 => by
    rw [z6]
    exact h.2.2.2.2.2.2.2.2 k (by omega) a (by omega) h32
  have hIs' : ∀ k, hIs H' k = hIs (wH W) k := fun k => by unfold hIs; rw [z4]
  have hReq' : ∀ k, hReq H' k = hReq (wH W) k := fun k => by unfold hReq; rw [hIs', z6]
  have hAll' : ∀ k, hAll H' k = hAll (wH W) k := fun k => by unfold hAll; rw [hIs', z7]
  have cls : ∃ S', pX7_newAttribute N (zB b1) (zB b2) S = some (kI S 1, S') ∧ hR S' H' ∧ (∀ q, q = 0 ∨ 5 ≤ q → kI S' q = kI S q) ∧ kA S' = kA S ∧ kJ S' = kJ S ∧ kL S' = kL S ∧ S'.2.2.2.2 = S.2.2.2.2 := by
    have e39 : ∀ (t0 t1 : Int32) (S1 : kS), pX7_newAttribute_39 N t0 t1 S1 = some (kI (sI S1 4 (t1 ||| t0)) 1, sI (sI S1 4 (t1 ||| t0)) 1 (kI (sI S1 4 (t1 ||| t0)) 1 + 1)) := fun t0 t1 S1 => rfl
    have e : pX7_newAttribute N (zB b1) (zB b2) S = some (kI S 1, sI (sI (sI S 3 (kI S 3 ||| (if b1 then ((1 : Int32) <<< (kI S 1 &&& 31)) else 0))) 4 (kI S 4 ||| (if b2 then ((1 : Int32) <<< (kI S 1 &&& 31)) else 0))) 1 (kI S 1 + 1)) := by
      simp only [pX7_newAttribute, pX7_newAttribute_21, nm_i, svk_i]
      cases b1 <;> cases b2 <;> rfl
    refine ⟨_, e, ⟨?_, ?_, fun a ha => ?_, fun a ha => ?_, fun k hk => ?_, fun k hk => ?_, fun k hk => ?_⟩, fun q hq => ?_, rfl, rfl, rfl, rfl⟩
    · rw [kI_sI, upd_s, K.1.1, zL_1, zI_add, z1]; congr 1
    · rw [kI_sI, upd_o _ _ (by omega), kI_sI, upd_o _ _ (by omega), kI_sI, upd_o _ _ (by omega), z4]; exact K.1.2.1
    · rw [kI_sI, upd_o _ _ (by omega), kI_sI, upd_o _ _ (by omega), kI_sI, upd_s, ib_or, K.1.1, hbit b1 a ha, K.1.2.2.1 a ha, z2]
      by_cases g : a = hA (wH W)
      · rw [g, upf_s, (h.1.2.2.2 _ (Nat.le_refl _)).1, decide_eq_true rfl, Bool.and_true, Bool.false_or]
      · rw [upf_o _ _ g, decide_eq_false g, Bool.and_false, Bool.or_false]
    · rw [kI_sI, upd_o _ _ (by omega), kI_sI, upd_s, ib_or, K.1.1, hbit b2 a ha, K.1.2.2.2.1 a ha, z3]
      by_cases g : a = hA (wH W)
      · rw [g, upf_s, (h.1.2.2.2 _ (Nat.le_refl _)).2, decide_eq_true rfl, Bool.and_true, Bool.false_or]
      · rw [upf_o _ _ g, decide_eq_false g, Bool.and_false, Bool.or_false]
    · rw [z5]; exact K.1.2.2.2.2.1 k (by omega)
    · rw [z6]; exact K.1.2.2.2.2.2.1 k (by omega)
    · rw [z7]; exact K.1.2.2.2.2.2.2 k (by omega)
    · rw [kI_sI, upd_o _ _ (by omega), kI_sI, upd_o _ _ (by omega), kI_sI, upd_o _ _ (by omega)]
  obtain ⟨S', e1, e2, e3, e4, e5, e6, e7⟩ := cls
  rw [e1, bk_i, K.1.1]
  exact ⟨S', rfl, w_ext h E hw hq, k_ext h K E e2 e3 (fun c _ => by rw [e4]) e5 e6 e7⟩
theorem k_objectClass (h : wOk W) (K : kRel S W) {x : Int} {y z : Int32} (q : -1 ≤ x ∧ x < (hC (wH W) : Int)) (q1 : isS y (hA (wH W)) = true) (q2 : isS z (hA (wH W)) = true) (q3 : hC (wH W) < 8) : kOk (pX9_objectClass N (zI x) y z S) (hC (wH W) : Nat) (wSc W (hCl (wH W) x y z)) := by
  have h10 := h.1.1
  have h8 := h.1.2.1
  have h1 : -2147483648 ≤ x := by omega
  have h2 : x < 2147483648 := by omega
  have is1 : ∀ w : Int32, pX7_isSetOfAttributes N w S = some (zB (isS w (hA (wH W))), S) := fun w => by
    simp only [pX7_isSetOfAttributes]
    rw [K.1.1]
    by_cases g : isS w (hA (wH W)) = true
    · rw [if_pos ((su_0 (by omega) w).mpr g), g]; rfl
    · rw [if_neg (fun k => g ((su_0 (by omega) w).mp k)), Bool.eq_false_iff.mpr g]; rfl
  have hx : (hIs (wH W) x = true) ↔ (0 ≤ x ∧ x < (hC (wH W) : Int)) := by
    unfold hIs
    rw [Bool.and_eq_true, decide_eq_true_eq, decide_eq_true_eq]
  have cls : pX9_objectClass N (zI x) y z S = pX9_objectClass_10 N (zI x) y z S := by
    simp only [pX9_objectClass]
    rw [zL_m1, il_eq h1 h2 (by omega) (by omega)]
    by_cases g : x = -1
    · rw [if_pos g]
    · rw [if_neg g, g_class K.1 h.1 h1 h2, if_pos (hx.mpr (by omega)), bx_l]
  rw [cls]
  simp only [pX9_objectClass_10, pX9_objectClass_32]
  rw [is1, bk_i, il_B, if_pos q1, is1, bk_i, il_B, if_pos q2, K.1.2.1, zL_8, il_lt (by omega) (by omega) (by omega) (by omega), if_pos (by omega)]
  show kOk _ _ (wSc W (hA (wH W), hSg (wH W), hTn (wH W), hC (wH W) + 1, upf (hPr (wH W)) (hC (wH W)) x, upf (hRq (wH W)) (hC (wH W)) (y ||| hReq (wH W) x), upf (hAl (wH W)) (hC (wH W)) ((y ||| z) ||| hAll (wH W) x)))
  generalize hH : ((hA (wH W), hSg (wH W), hTn (wH W), hC (wH W) + 1, upf (hPr (wH W)) (hC (wH W)) x, upf (hRq (wH W)) (hC (wH W)) (y ||| hReq (wH W) x), upf (hAl (wH W)) (hC (wH W)) ((y ||| z) ||| hAll (wH W) x)) : sH) = H'
  have z1 : hA H' = hA (wH W) := by rw [← hH]; rfl
  have z2 : hSg H' = hSg (wH W) := by rw [← hH]; rfl
  have z3 : hTn H' = hTn (wH W) := by rw [← hH]; rfl
  have z4 : hC H' = hC (wH W) + 1 := by rw [← hH]; rfl
  have z5 : hPr H' = upf (hPr (wH W)) (hC (wH W)) x := by rw [← hH]; rfl
  have z6 : hRq H' = upf (hRq (wH W)) (hC (wH W)) (y ||| hReq (wH W) x) := by rw [← hH]; rfl
  have z7 : hAl H' = upf (hAl (wH W)) (hC (wH W)) ((y ||| z) ||| hAll (wH W) x) := by rw [← hH]; rfl
  have E : hExt (wH W) H' := ⟨by omega, by omega, fun a ha => ⟨by rw [z2], by rw [z3]⟩⟩
  have hw : hW H' := by
    obtain ⟨w1, w2, w3, w4⟩ := h.1
    refine ⟨by omega, by omega, fun k hk => ?_, fun a ha => ?_⟩
    · rw [z5]
      by_cases g : k = hC (wH W)
      · rw [g, upf_s]; omega
      · rw [upf_o _ _ g]; exact w3 k (by omega)
    · rw [z2, z3]
      exact w4 a (by omega)
  have hq0 := h.2.2.2.2.2.2.2.2
  have hq : hQ H' := fun k hk a ha h32 => by
    rw [z6]
    by_cases g : k = hC (wH W)
    · rw [g, upf_s, ib_or, isS_iff.mp q1 a (by omega) h32, Bool.false_or]
      unfold hReq
      by_cases g2 : hIs (wH W) x = true
      · rw [if_pos g2]
        have := hx.mp g2
        exact hq0 x.toNat (by omega) a (by omega) h32
      · rw [if_neg g2, ib_0]
    · rw [upf_o _ _ g]
      exact hq0 k (by omega) a (by omega) h32
  -- classes that were there
  have old : ∀ k : Int, k < (hC (wH W) : Int) → hReq H' k = hReq (wH W) k ∧ hAll H' k = hAll (wH W) k := fun k hk => by
    have hi : hIs H' k = hIs (wH W) k := by
      unfold hIs
      rw [z4]
      by_cases g : k < (hC (wH W) : Int)
      · rw [decide_eq_true g, decide_eq_true (show k < ((hC (wH W) + 1 : Nat) : Int) by omega)]
      · omega
    unfold hReq hAll
    rw [hi, z6, z7]
    by_cases g : hIs (wH W) k = true
    · have g2 : 0 ≤ k ∧ k < (hC (wH W) : Int) := by
        unfold hIs at g
        rw [Bool.and_eq_true, decide_eq_true_eq, decide_eq_true_eq] at g
        exact g
      rw [if_pos g, if_pos g, if_pos g, if_pos g, upf_o _ _ (by omega), upf_o _ _ (by omega)]
      exact ⟨rfl, rfl⟩
    · rw [if_neg g, if_neg g, if_neg g, if_neg g]
      exact ⟨rfl, rfl⟩
  have cls2 : ∃ S', pX7_newClass N (zI x) y z S = some (zI (hC (wH W) : Nat), S') ∧ hR S' H' ∧ (∀ q, q = 0 ∨ 5 ≤ q → kI S' q = kI S q) ∧ (∀ c, 5 ≤ c → kA S' c = kA S c) ∧ kJ S' = kJ S ∧ kL S' = kL S ∧ S'.2.2.2.2 = S.2.2.2.2 := by
    obtain ⟨k1, k2, k3, k4, k5, k6, k7⟩ := id K.1
    simp only [pX7_newClass, svk_i]
    rw [k2, zL_8, il_lt (by omega) (by omega) (by omega) (by omega), if_pos (by omega), gd_n q3 (by omega), zI_cn (by omega)]
    -- the parent's row is written first
    have h1' : hR (sA S 2 (hC (wH W)) (zI x)) (wH W) := ⟨k1, k2, k3, k4, fun k hk => by rw [kA_sA_s, upd_o _ _ (by omega)]; exact k5 k hk, fun k hk => by rw [kA_sA_o _ _ _ (by omega)]; exact k6 k hk, fun k hk => by rw [kA_sA_o _ _ _ (by omega)]; exact k7 k hk⟩
    rw [q_requiredBy h1' h.1 h1 h2, bk_i, show kI (sA S 2 (hC (wH W)) (zI x)) 2 = zI (hC (wH W) : Nat) from k2, gd_n q3 (by omega), zI_cn (by omega)]
    have h2' : hR (sA (sA S 2 (hC (wH W)) (zI x)) 3 (hC (wH W)) (y ||| hReq (wH W) x)) (wH W) := ⟨k1, k2, k3, k4, fun k hk => by rw [kA_sA_o _ _ _ (by omega), kA_sA_s, upd_o _ _ (by omega)]; exact k5 k hk, fun k hk => by rw [kA_sA_s, upd_o _ _ (by omega), kA_sA_o _ _ _ (by omega)]; exact k6 k hk, fun k hk => by rw [kA_sA_o _ _ _ (by omega), kA_sA_o _ _ _ (by omega)]; exact k7 k hk⟩
    rw [q_allowedBy h2' h.1 h1 h2, bk_i, show kI (sA (sA S 2 (hC (wH W)) (zI x)) 3 (hC (wH W)) (y ||| hReq (wH W) x)) 2 = zI (hC (wH W) : Nat) from k2, gd_n q3 (by omega), zI_cn (by omega)]
    generalize hS3 : sA (sA (sA S 2 (hC (wH W)) (zI x)) 3 (hC (wH W)) (y ||| hReq (wH W) x)) 4 (hC (wH W)) ((y ||| z) ||| hAll (wH W) x) = S3
    have i3 : kI S3 = kI S := by rw [← hS3]; rfl
    have a2 : kA S3 2 = upd (kA S 2) (hC (wH W)) (zI x) := by rw [← hS3, kA_sA_o _ _ _ (by omega), kA_sA_o _ _ _ (by omega), kA_sA_s]
    have a3 : kA S3 3 = upd (kA S 3) (hC (wH W)) (y ||| hReq (wH W) x) := by rw [← hS3, kA_sA_o _ _ _ (by omega), kA_sA_s, kA_sA_o _ _ _ (by omega)]
    have a4 : kA S3 4 = upd (kA S 4) (hC (wH W)) ((y ||| z) ||| hAll (wH W) x) := by rw [← hS3, kA_sA_s, kA_sA_o _ _ _ (by omega), kA_sA_o _ _ _ (by omega)]
    have ao : ∀ c, 5 ≤ c → kA S3 c = kA S c := fun c hc => by rw [← hS3, kA_sA_o _ _ _ (by omega), kA_sA_o _ _ _ (by omega), kA_sA_o _ _ _ (by omega)]
    have j3 : kJ S3 = kJ S := by rw [← hS3]; rfl
    have l3 : kL S3 = kL S := by rw [← hS3]; rfl
    have d3 : S3.2.2.2.2 = S.2.2.2.2 := by rw [← hS3]; rfl
    rw [i3, k2]
    refine ⟨_, rfl, ⟨?_, ?_, fun a ha => ?_, fun a ha => ?_, fun k hk => ?_, fun k hk => ?_, fun k hk => ?_⟩, fun q hq => ?_, fun c hc => ?_, j3, l3, d3⟩
    · rw [kI_sI, upd_o _ _ (by omega), i3, z1]; exact k1
    · rw [kI_sI, upd_s, zL_1, zI_add, z4]; congr 1
    · rw [kI_sI, upd_o _ _ (by omega), i3, z2]; exact k3 a ha
    · rw [kI_sI, upd_o _ _ (by omega), i3, z3]; exact k4 a ha
    · rw [kA_sI, a2, z5]
      by_cases g : k = hC (wH W)
      · rw [g, upd_s, upf_s]
      · rw [upd_o _ _ g, upf_o _ _ g]; exact k5 k (by omega)
    · rw [kA_sI, a3, z6]
      by_cases g : k = hC (wH W)
      · rw [g, upd_s, upf_s]
      · rw [upd_o _ _ g, upf_o _ _ g]; exact k6 k (by omega)
    · rw [kA_sI, a4, z7]
      by_cases g : k = hC (wH W)
      · rw [g, upd_s, upf_s]
      · rw [upd_o _ _ g, upf_o _ _ g]; exact k7 k (by omega)
    · rw [kI_sI, upd_o _ _ (by omega), i3]
    · rw [kA_sI]; exact ao c hc
  obtain ⟨S', e1, e2, e3, e4, e5, e6, e7⟩ := cls2
  rw [e1, bk_i]
  exact ⟨S', rfl, w_ext h E hw hq, k_ext h K E e2 e3 e4 e5 e6 e7⟩
end KG2
