-- LEVEL 2, FILTERS: WHAT THEY SAY; THE REFERENCE
def vAs (H : sH) (e a v : Nat) (x : Nat × Nat × Nat) : Bool := decide (x.1 = e) && (decide (x.2.1 = a) && decide (hKey H a v ≤ hKey H a x.2.2))
def tGe (H : sH) (T : sT) (e a v : Nat) : Bool := decide (0 < (tVs T).countP (vAs H e a v))
def pVal (H : sH) (T : sT) (e : Nat) (p : Nat × Int × Int) (f : Nat → Bool) : Bool :=
  if p.1 = 0 then decide (0 < tMt H T e p.2.1.toNat p.2.2.toNat) else if p.1 = 1 then tGe H T e p.2.1.toNat p.2.2.toNat else if p.1 = 2 then decide (0 < tCnt T e p.2.1.toNat) else if p.1 = 3 then hUp H 8 (tKl T e) p.2.1
  else if p.1 = 4 then f p.2.1.toNat && f p.2.2.toNat else if p.1 = 5 then f p.2.1.toNat || f p.2.2.toNat else !f p.2.1.toNat
def pG (P : List (Nat × Int × Int)) (i : Nat) : Nat × Int × Int := P.getD i (0, 0, 0)
theorem pG_at {P : List (Nat × Int × Int)} {i : Nat} (h : i < P.length) : pG P i = P[i] := by
  unfold pG
  rw [List.getD_eq_getElem?_getD, List.getElem?_eq_getElem h]
  rfl
/-- the truth of the parts below k, one after the other -/
def pTs (H : sH) (T : sT) (e : Nat) (P : List (Nat × Int × Int)) : Nat → Nat → Bool
  | 0 => fun _ => false
  | k + 1 => upf (pTs H T e P k) k (pVal H T e (pG P k) (pTs H T e P k))
theorem pTs_st {H : sH} {T : sT} {e : Nat} {P : List (Nat × Int × Int)} {k i : Nat} (hi : i < k) : ∀ d, pTs H T e P (k + d) i = pTs H T e P k i
  | 0 => rfl
  | d + 1 => by
    show upf (pTs H T e P (k + d)) (k + d) _ i = _
    rw [upf_o _ _ (by omega)]
    exact pTs_st hi d
section UA
variable {N : Nat} {S : kS} {M : mS} {W : sW} {T : sT} {H : sH}
theorem r_isAsMuch_6 (R : rT M T) (hK : ∀ a, a < 10 → M.2 3 a = zB (hTn H a)) {e a v : Nat} (he : e < 48) (ha : a < 10) (hv : v < 1000) (W : tW T) : ∀ (n k i : Nat) (b : Bool), i + k = (tVs T).length → k < n → pf_isAsMuch_6 N n (zI (e : Nat)) (zI (a : Nat)) (zI (v : Nat)) (zB b) (zI (i : Nat)) M = some (zB (b || decide (0 < ((tVs T).drop i).countP (vAs H e a v))), M)
  | 0, k, i, b, hk, hn => by omega
  | n + 1, k, i, b, hk, hn => by
    obtain ⟨v1, v2, v3⟩ := R.2.2.2.2.2.2.1
    simp only [pf_isAsMuch_6, pf_isAsMuch_68, nm_i]
    rw [v1, il_le (by omega) (by omega) (by omega) (by omega)]
    cases k with
    | zero =>
      rw [if_pos (by omega), List.drop_eq_nil_of_le (by omega), zr_B]
      show _ = some (zB (b || false), M)
      rw [Bool.or_false]
    | succ k =>
      have hi : i < (tVs T).length := by omega
      obtain ⟨x1, x2, x3⟩ := v3 i _ (List.getElem?_eq_getElem hi)
      obtain ⟨o1, o2, o3⟩ := tW_v W _ (List.getElem_mem hi)
      have k1 := hKey_lt (H := H) (a := a) o3
      have k2 := hKey_lt (H := H) (a := a) hv
      rw [if_neg (by omega), il_B, List.drop_eq_getElem_cons hi, List.countP_cons, show zI (i : Nat) + 1 = zI ((i + 1 : Nat) : Int) by rw [zL_1, zI_add]; congr 1]
      cases b with
      | true =>
        rw [if_pos rfl]
        have := r_isAsMuch_6 R hK he ha hv W n k (i + 1) true (by omega) (by omega)
        rw [Bool.true_or] at this ⊢
        exact this
      | false =>
        have ih1 := r_isAsMuch_6 R hK he ha hv W n k (i + 1) true (by omega) (by omega)
        have ih0 := r_isAsMuch_6 R hK he ha hv W n k (i + 1) false (by omega) (by omega)
        have ih1 : pf_isAsMuch_6 N n (zI (e : Nat)) (zI (a : Nat)) (zI (v : Nat)) 1 (zI ((i + 1 : Nat) : Int)) M = _ := ih1
        have ih0 : pf_isAsMuch_6 N n (zI (e : Nat)) (zI (a : Nat)) (zI (v : Nat)) 0 (zI ((i + 1 : Nat) : Int)) M = _ := ih0
        rw [if_neg (by decide)]
        simp only [gd_n (show i < 900 by omega) (show (900 : Nat) < 2147483648 by omega), zI_cn (show i < 2147483648 by omega)]
        rw [x1, il_eq (by omega) (by omega) (by omega) (by omega), x2, il_eq (by omega) (by omega) (by omega) (by omega)]
        by_cases q1 : (tVs T)[i].1 = e
        · rw [if_pos (show ((tVs T)[i].1 : Int) = (e : Int) by omega)]
          by_cases q2 : (tVs T)[i].2.1 = a
          · rw [if_pos (show ((tVs T)[i].2.1 : Int) = (a : Int) by omega), x3, r_key hK ha o3, bd_i, r_key hK ha hv, bd_i, il_lt (by omega) (by omega) (by omega) (by omega)]
            by_cases q3 : hKey H a v ≤ hKey H a (tVs T)[i].2.2
            · rw [if_neg (show ¬ (hKey H a (tVs T)[i].2.2 : Int) < (hKey H a v : Int) by omega), ih1, if_pos (show vAs H e a v (tVs T)[i] = true by unfold vAs; simp [q1, q2, q3])]
              simp
            · rw [if_pos (show (hKey H a (tVs T)[i].2.2 : Int) < (hKey H a v : Int) by omega), ih0, if_neg (show ¬ vAs H e a v (tVs T)[i] = true by unfold vAs; simp [q3])]
              simp
          · rw [if_neg (show ¬ ((tVs T)[i].2.1 : Int) = (a : Int) by omega), ih0, if_neg (show ¬ vAs H e a v (tVs T)[i] = true by unfold vAs; simp [q2])]
            simp
        · rw [if_neg (show ¬ ((tVs T)[i].1 : Int) = (e : Int) by omega), ih0, if_neg (show ¬ vAs H e a v (tVs T)[i] = true by unfold vAs; simp [q1])]
          simp
theorem r_isAsMuch (hN : 901 ≤ N) (R : rT M T) (W : tW T) (hK : ∀ a, a < 10 → M.2 3 a = zB (hTn H a)) {e a v : Nat} (he : e < 48) (ha : a < 10) (hv : v < 1000) : pf_isAsMuch N (zI (e : Nat)) (zI (a : Nat)) (zI (v : Nat)) M = some (zB (tGe H T e a v), M) := by
  have := r_isAsMuch_6 (N := N) R hK he ha hv W N (tVs T).length 0 false (by omega) (by have := R.2.2.2.2.2.2.1.2.1; omega)
  rw [List.drop_zero, Bool.false_or] at this
  exact this
theorem r_isClassOf_7 (Sc : rSc M H) (hw : hW H) {o : Int} (h3 : 0 ≤ o) (h4 : o < 8) : ∀ (n k : Nat) (x : Int), -1 ≤ x → x < (hC H : Int) → x < k → x + 1 < n → pf_isClassOf_7 N (pf_isClassOf_27 N) n (zI o) (zI x) M = some (zB (hUp H k x o), M)
  | 0, k, x, h1, h2, hk, hn => by omega
  | n + 1, k, x, h1, h2, hk, hn => by
    have h8 := hw.2.1
    have z1 : (zI x = (-1 : Int32)) ↔ x = -1 := by rw [zL_m1, zI_eq (by omega) (by omega) (by omega) (by omega)]
    have zo : (zI x = zI o) ↔ x = o := by rw [zI_eq (by omega) (by omega) (by omega) (by omega)]
    simp only [pf_isClassOf_7, nm_i]
    by_cases q : x = -1
    · rw [if_pos (z1.mpr q)]
      simp only [pf_isClassOf_27]
      rw [if_neg (fun g => by have := zo.mp g; omega)]
      cases k with
      | zero => rfl
      | succ k =>
        unfold hUp
        have : hIs H x = false := by
          unfold hIs
          rw [decide_eq_false (show ¬ 0 ≤ x by omega)]; rfl
        rw [this]; rfl
    · rw [if_neg (fun g => q (z1.mp g))]
      cases k with
      | zero => omega
      | succ k =>
        unfold hUp
        have hi : hIs H x = true := by
          unfold hIs
          rw [decide_eq_true (show 0 ≤ x by omega), decide_eq_true h2]; rfl
        rw [hi, if_pos rfl]
        by_cases q2 : x = o
        · rw [if_pos (zo.mpr q2), if_pos q2]
          simp only [pf_isClassOf_27]
          rw [if_pos (zo.mpr q2)]; rfl
        · have hp := hw.2.2.1 x.toNat (by omega)
          rw [if_neg (fun g => q2 (zo.mp g)), if_neg q2, gd_z (by omega) (by omega) (by omega), zI_clamp (by omega) (by omega), Sc.2.2.2.2.1 _ (by omega)]
          exact r_isClassOf_7 Sc hw h3 h4 n k (hPr H x.toNat) hp.1 (by omega) (by omega) (by omega)
theorem r_isClassOf (hN : 20 ≤ N) (Sc : rSc M H) (hw : hW H) (R : rT M T) (Wt : tW T) (X : tX H T) {e : Nat} (he : e < 48) {o : Int} (h3 : 0 ≤ o) (h4 : o < 8) : pf_isClassOf N (zI (e : Nat)) (zI o) M = some (zB (hUp H 8 (tKl T e) o), M) := by
  have k1 := Wt.2.2.2.1 e he
  simp only [pf_isClassOf, nm_i]
  rw [gd_n he (by omega), zI_cn (by omega), R.2.2.1 e he]
  exact r_isClassOf_7 Sc hw h3 h4 N 8 (tKl T e) k1.1 (X.1 e he) (by omega) (by omega)
theorem pTs_s {e : Nat} {P : List (Nat × Int × Int)} {k : Nat} (hk : k < P.length) : pTs H T e P (k + 1) = upf (pTs H T e P k) k (pVal H T e P[k] (pTs H T e P k)) := by
  show upf (pTs H T e P k) k (pVal H T e (pG P k) (pTs H T e P k)) = _
  rw [pG_at hk]
theorem r_fits_2 (hN : 901 ≤ N) (Sc : rSc M H) (hw : hW H) (L : rLd M T) (X : tX H T) {P : List (Nat × Int × Int)} {K : List Nat} (F : frF M P K) (hP : P.length ≤ 15) (hp : ∀ i (h : i < P.length), pOk H i P[i]) {e : Nat} (he : e < 48) {k219 : mS → Option (Int32 × mS)} : ∀ (n k i : Nat) (M' : mS), i + k = P.length → k < n → rf1 15 M M' → (∀ j, j < i → M'.2 15 j = zB (pTs H T e P i j)) → ∃ M2, pf_fits_2 N k219 n (zI (e : Nat)) (zI (i : Nat)) M' = k219 M2 ∧ rf1 15 M M2 ∧ ∀ j, j < P.length → M2.2 15 j = zB (pTs H T e P P.length j)
  | 0, k, i, M', hk, hn, f, h => by omega
  | n + 1, k, i, M', hk, hn, f, h => by
    have h10 := hw.1
    have h8 := hw.2.1
    simp only [pf_fits_2, nm_i]
    rw [f.1, F.1, il_le (by omega) (by omega) (by omega) (by omega)]
    cases k with
    | zero =>
      have : i = P.length := by omega
      subst this
      rw [if_pos (by omega)]
      exact ⟨M', rfl, f, h⟩
    | succ k =>
      have hi : i < P.length := by omega
      obtain ⟨p1, p2, p3, p4⟩ := hp i hi
      obtain ⟨x1, x2, x3⟩ := F.2.2.1 i hi
      have L' : rLd M' T := rLd_e (by rw [f.1]) (fun d a b => f.2 d (by omega)) L
      have Sc' : rSc M' H := rSc_e (by rw [f.1]) (by rw [f.1]) (fun d hd => f.2 d (by omega)) Sc
      have ek : zI (i : Nat) + 1 = zI ((i + 1 : Nat) : Int) := by rw [zL_1, zI_add]; congr 1
      have hs := pTs_s (H := H) (T := T) (e := e) hi
      -- what is behind the value
      have fin : ∀ b : Bool, b = pVal H T e P[i] (pTs H T e P i) → ∃ M2, pf_fits_213 N (pf_fits_2 N k219 n) (zI (e : Nat)) (zI (i : Nat)) (mA M' 15 i (zB b)) = k219 M2 ∧ rf1 15 M M2 ∧ ∀ j, j < P.length → M2.2 15 j = zB (pTs H T e P P.length j) := fun b hb => by
        simp only [pf_fits_213, nm_i]
        rw [ek]
        refine r_fits_2 hN Sc hw L X F hP hp he (k219 := k219) n k (i + 1) _ (by omega) (by omega) (f.trans rf1_mA) (fun j hj => ?_)
        rw [mA_s, hs]
        by_cases z : j = i
        · rw [z, upd_s, upf_s, hb]
        · rw [upd_o _ _ z, upf_o _ _ z]; exact h j (by omega)
      have fin2 : ∀ b : Bool, b = pVal H T e P[i] (pTs H T e P i) → ∃ M2, pf_fits_212 N (pf_fits_2 N k219 n) (zB b) (zI (i : Nat)) (zI (e : Nat)) (zI (i : Nat)) M' = k219 M2 ∧ rf1 15 M M2 ∧ ∀ j, j < P.length → M2.2 15 j = zB (pTs H T e P P.length j) := fun b hb => by
        simp only [pf_fits_212, sv_i]
        rw [gd_n (show i < 15 by omega) (by omega), zI_cn (by omega), zB_nar]
        exact fin b hb
      have fin4 : ∀ b : Bool, b = pVal H T e P[i] (pTs H T e P i) → ∃ M2, pf_fits_114 N (pf_fits_2 N k219 n) (zB b) (zI (i : Nat)) (zI (e : Nat)) (zI (i : Nat)) M' = k219 M2 ∧ rf1 15 M M2 ∧ ∀ j, j < P.length → M2.2 15 j = zB (pTs H T e P P.length j) := fun b hb => by
        simp only [pf_fits_114, sv_i]
        rw [gd_n (show i < 15 by omega) (by omega), zI_cn (by omega), zB_nar]
        exact fin b hb
      have fin20 := fin2 false
      have fin21 := fin2 true
      have fin40 := fin4 false
      have fin41 := fin4 true
      rw [if_neg (by omega)]
      simp only [gd_n (show i < 15 by omega) (show (15 : Nat) < 2147483648 by omega), zI_cn (show i < 2147483648 by omega)]
      rw [f.2 12 (by omega), f.2 13 (by omega), f.2 14 (by omega), x1, x2, x3, zL_4, il_le (by omega) (by omega) (by omega) (by omega)]
      unfold pVal at fin20 fin21 fin40 fin41 fin4
      by_cases q4 : 4 ≤ P[i].1
      · obtain ⟨a1, a2, a3, a4⟩ := p4 q4
        obtain ⟨a, ha⟩ : ∃ a : Nat, P[i].2.1 = a := ⟨P[i].2.1.toNat, by omega⟩
        obtain ⟨b, hb⟩ : ∃ b : Nat, P[i].2.2 = b := ⟨P[i].2.2.toNat, by omega⟩
        rw [ha, hb] at fin20 fin21
        rw [Int.toNat_natCast, Int.toNat_natCast, if_neg (by omega), if_neg (by omega), if_neg (by omega), if_neg (by omega)] at fin20 fin21
        rw [ha, hb]
        have ra := h a (by omega)
        have ga : ∀ {β : Type} (A : Option β), gd (zI (a : Nat)) 15 A = A := fun A => gd_n (show a < 15 by omega) (by omega)
        rw [if_pos (show (4 : Int) ≤ (P[i].1 : Nat) by omega), zL_6, il_eq (by omega) (by omega) (by omega) (by omega), il_eq (by omega) (by omega) (by omega) (by omega)]
        by_cases q6 : P[i].1 = 6
        · rw [if_neg (by omega), if_neg (by omega)] at fin20 fin21
          rw [if_pos (by omega), ga, zI_cn (show a < 2147483648 by omega), ra, il_B]
          cases hta : pTs H T e P i a with
          | true => rw [hta] at fin20; rw [if_pos rfl]; exact fin20 rfl
          | false => rw [hta] at fin21; rw [if_neg (by decide)]; exact fin21 rfl
        · have rb := h b (by have := a4 (by omega); omega)
          have hb15 : b < 15 := by have := a4 (by omega); omega
          have gb : ∀ {β : Type} (A : Option β), gd (zI (b : Nat)) 15 A = A := fun A => gd_n hb15 (by omega)
          rw [if_neg (by omega)]
          by_cases q44 : P[i].1 = 4
          · rw [if_pos q44] at fin20 fin21
            rw [if_pos (by omega), ga, zI_cn (show a < 2147483648 by omega), ra, il_B]
            cases hta : pTs H T e P i a with
            | false => rw [hta] at fin20; rw [if_neg (by decide)]; exact fin20 rfl
            | true =>
              rw [hta] at fin20 fin21
              rw [if_pos rfl, gb, zI_cn (show b < 2147483648 by omega), rb, il_B]
              cases htb : pTs H T e P i b with
              | false => rw [htb] at fin20; rw [if_neg (by decide)]; exact fin20 rfl
              | true => rw [htb] at fin21; rw [if_pos rfl]; exact fin21 rfl
          · rw [if_neg q44, if_pos (show P[i].1 = 5 by omega)] at fin20 fin21
            rw [if_neg (by omega), ga, zI_cn (show a < 2147483648 by omega), ra, il_B]
            cases hta : pTs H T e P i a with
            | true => rw [hta] at fin21; rw [if_pos rfl]; exact fin21 rfl
            | false =>
              rw [hta] at fin20 fin21
              rw [if_neg (by decide), gb, zI_cn (show b < 2147483648 by omega), rb, il_B]
              cases htb : pTs H T e P i b with
              | false => rw [htb] at fin20; rw [if_neg (by decide)]; exact fin20 rfl
              | true => rw [htb] at fin21; rw [if_pos rfl]; exact fin21 rfl
      · have t0 : (zI (P[i].1 : Nat) = (0 : Int32)) ↔ P[i].1 = 0 := by rw [zL_0, zI_eq (by omega) (by omega) (by omega) (by omega)]; omega
        have t1 : (zI (P[i].1 : Nat) = (1 : Int32)) ↔ P[i].1 = 1 := by rw [zL_1, zI_eq (by omega) (by omega) (by omega) (by omega)]; omega
        have t2 : (zI (P[i].1 : Nat) = (2 : Int32)) ↔ P[i].1 = 2 := by rw [zL_2, zI_eq (by omega) (by omega) (by omega) (by omega)]; omega
        rw [if_neg (show ¬ (4 : Int) ≤ (P[i].1 : Nat) by omega)]
        by_cases q3 : P[i].1 = 3
        · obtain ⟨b1, b2⟩ := p3 q3
          rw [if_neg (fun g => by have := t0.mp g; omega), if_neg (fun g => by have := t1.mp g; omega), if_neg (fun g => by have := t2.mp g; omega), r_isClassOf (by omega) Sc' hw L'.1 L'.2.1 X he b1 (by omega), bd_i]
          exact fin4 _ (by rw [if_neg (by omega), if_neg (by omega), if_neg (by omega), if_pos q3])
        · obtain ⟨b1, b2, b3, b4⟩ := p2 (by omega)
          obtain ⟨a, ha⟩ : ∃ a : Nat, P[i].2.1 = a := ⟨P[i].2.1.toNat, by omega⟩
          obtain ⟨b, hb⟩ : ∃ b : Nat, P[i].2.2 = b := ⟨P[i].2.2.toNat, by omega⟩
          rw [ha, hb] at fin4 fin40 fin41
          rw [Int.toNat_natCast, Int.toNat_natCast] at fin4 fin40 fin41
          rw [ha, hb]
          by_cases q0 : P[i].1 = 0
          · rw [if_pos (t0.mpr q0), r_hasMatch hN L'.1 L'.2.1 Sc'.2.2.2.1 he (by omega) (by omega), bd_i]
            exact fin4 _ (by rw [if_pos q0])
          · rw [if_neg (fun g => q0 (t0.mp g))]
            by_cases q1 : P[i].1 = 1
            · rw [if_pos (t1.mpr q1), r_isAsMuch hN L'.1 L'.2.1 Sc'.2.2.2.1 he (by omega) (by omega), bd_i]
              exact fin4 _ (by rw [if_neg q0, if_pos q1])
            · have q2 : P[i].1 = 2 := by omega
              have cl : tCnt T e a ≤ 900 := Nat.le_trans tCnt_le L.1.2.2.2.2.2.2.1.2.1
              rw [if_neg q0, if_neg q1, if_pos q2] at fin40 fin41
              rw [if_neg (fun g => q1 (t1.mp g)), if_pos (t2.mpr q2), r_countOf hN L'.1 L'.2.1 he (by omega), bd_i, zL_0, il_le (by omega) (by omega) (by omega) (by omega)]
              by_cases qc : 0 < tCnt T e a
              · rw [decide_eq_true qc] at fin41
                rw [if_neg (by omega)]; exact fin41 rfl
              · rw [decide_eq_false qc] at fin40
                rw [if_pos (by omega)]; exact fin40 rfl
/-- the one filter at an entry -/
def wFt (W : sW) (T : sT) (e : Nat) : Bool := pTs (wH W) T e (wP W) (wP W).length ((wK W).getD 0 0)
theorem r_fits (hN : 901 ≤ N) (h : wOk W) (R : mRel M W) (hK1 : (wK W).length = 1) (L : rLd M T) (X : tX (wH W) T) {e : Nat} (he : e < 48) : ∃ M2, pf_fits N (zI (e : Nat)) M = some (zB (wFt W T e), M2) ∧ rf1 15 M M2 := by
  obtain ⟨f1, f2, f3, f4, -⟩ := h.2.2.1
  obtain ⟨M2, e1, e2, e3⟩ := r_fits_2 (N := N) hN R.1 h.1 L X R.2.2.1 f1 f4 he (k219 := pf_fits_219 N) N (wP W).length 0 M (by omega) (by omega) rf1.rf (fun j hj => by omega)
  have e1 : pf_fits_2 N (pf_fits_219 N) N (zI (e : Nat)) 0 M = _ := e1
  have h0 : 0 < (wK W).length := by omega
  have hk := f3 _ (List.getElem_mem h0)
  have k17 : M2.2 17 0 = zI ((wK W)[0] : Nat) := by rw [e2.2 17 (by omega)]; exact R.2.2.1.2.2.2 0 h0
  have c0 : (0 : Int32).toNatClampNeg = 0 := rfl
  have g0 : ∀ {β : Type} (A : Option β), gd (0 : Int32) 8 A = A := fun A => gd_n (j := 0) (by omega) (by omega)
  simp only [pf_fits]
  rw [e1]
  simp only [pf_fits_219]
  rw [g0, c0, k17, gd_n (show (wK W)[0] < 15 by omega) (by omega), zI_cn (by omega), e3 _ hk, zr_B]
  refine ⟨M2, ?_, e2⟩
  unfold wFt
  rw [List.getD_eq_getElem?_getD, List.getElem?_eq_getElem h0]
  rfl
end UA
