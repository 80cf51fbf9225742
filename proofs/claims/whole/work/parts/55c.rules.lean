-- LEVEL 2, WHAT RULES DECIDE, BY THE REFERENCE
/-- the kind of a subject -/
def sKd (s : Nat) : Nat := if s < 6 then 0 else if s < 54 then 1 else 2
/-- what is known behind the subjects below i -/
def stD (p q : Nat → Bool) (i : Nat) : Nat × Bool := if anyF p 0 (min i 6) then (0, anyF (fun s => p s && q s) 0 (min i 6)) else if anyF p 6 (min i 54 - 6) then (1, anyF (fun s => p s && q s) 6 (min i 54 - 6)) else if anyF p 54 (i - 54) then (2, anyF (fun s => p s && q s) 54 (i - 54)) else (3, false)
theorem anyF_and {p q : Nat → Bool} {i n : Nat} (h : anyF p i n = false) : anyF (fun s => p s && q s) i n = false := by
  rw [Bool.eq_false_iff] at h ⊢
  intro g
  obtain ⟨j, h1, h2, h3⟩ := anyF_iff.mp g
  rw [Bool.and_eq_true] at h3
  exact h (anyF_iff.mpr ⟨j, h1, h2, h3.1⟩)
theorem stD_s {p q : Nat → Bool} {i : Nat} (hi : i < 55) : stD p q (i + 1) = if p i then (if (stD p q i).1 < sKd i then stD p q i else if (stD p q i).1 = sKd i then (sKd i, (stD p q i).2 || q i) else (sKd i, q i)) else stD p q i := by
  unfold stD sKd
  by_cases h1 : i < 6
  · rw [show min (i + 1) 6 = i + 1 by omega, show min i 6 = i by omega, show min (i + 1) 54 - 6 = 0 by omega, show min i 54 - 6 = 0 by omega, show i + 1 - 54 = 0 by omega, show i - 54 = 0 by omega, anyF_e p 0 i, anyF_e (fun s => p s && q s) 0 i, Nat.zero_add, if_pos h1]
    have z1 : ∀ (f : Nat → Bool) j, anyF f j 0 = false := fun _ _ => rfl
    rw [z1, z1]
    have h := anyF_and (p := p) (q := q) (i := 0) (n := i)
    cases e1 : anyF p 0 i with
    | true => cases p i <;> cases anyF (fun s => p s && q s) 0 i <;> cases q i <;> rfl
    | false => rw [h e1]; cases p i <;> cases q i <;> rfl
  · by_cases h2 : i < 54
    · rw [show min (i + 1) 6 = 6 by omega, show min i 6 = 6 by omega, show min (i + 1) 54 - 6 = (i - 6) + 1 by omega, show min i 54 - 6 = i - 6 by omega, show i + 1 - 54 = 0 by omega, show i - 54 = 0 by omega, anyF_e p 6 (i - 6), anyF_e (fun s => p s && q s) 6 (i - 6), show 6 + (i - 6) = i by omega, if_neg h1, if_pos h2]
      have z1 : ∀ (f : Nat → Bool) j, anyF f j 0 = false := fun _ _ => rfl
      rw [z1]
      have h := anyF_and (p := p) (q := q) (i := 6) (n := i - 6)
      cases anyF p 0 6 with
      | true => cases p i <;> rfl
      | false =>
        cases e1 : anyF p 6 (i - 6) with
        | true => cases p i <;> cases anyF (fun s => p s && q s) 6 (i - 6) <;> cases q i <;> rfl
        | false => rw [h e1]; cases p i <;> cases q i <;> rfl
    · have : i = 54 := by omega
      subst this
      rw [show min (54 + 1) 6 = 6 by omega, show min 54 6 = 6 by omega, show min (54 + 1) 54 - 6 = 48 by omega, show min 54 54 - 6 = 48 by omega, show 54 + 1 - 54 = 0 + 1 by omega, show 54 - 54 = 0 by omega, anyF_e p 54 0, anyF_e (fun s => p s && q s) 54 0, Nat.add_zero, if_neg h1, if_neg h2]
      have z1 : ∀ (f : Nat → Bool) j, anyF f j 0 = false := fun _ _ => rfl
      rw [z1, z1]
      cases anyF p 0 6 with
      | true => cases p 54 <;> rfl
      | false =>
        cases anyF p 6 48 with
        | true => cases p 54 <;> rfl
        | false => cases p 54 <;> cases q 54 <;> rfl
theorem stD_le {p q : Nat → Bool} {i : Nat} : (stD p q i).1 ≤ 3 := by
  unfold stD
  split
  · exact Nat.zero_le _
  · split
    · exact Nat.le_of_ble_eq_true rfl
    · split
      · exact Nat.le_of_ble_eq_true rfl
      · exact Nat.le_refl _
section RR
variable {N : Nat} {M : mS} {T : sT} {H : sH} {who e up what : Nat}
theorem stD_55 : (if (stD (tAct H T who e up what) (tDen T e up what) 55).1 = 3 then 0 else if (stD (tAct H T who e up what) (tDen T e up what) 55).2 = false then 1 else 2) = tDec H T who e up what := by
  unfold stD tDec tDec1
  rw [show min 55 6 = 6 by omega, show min 55 54 - 6 = 48 by omega, show 55 - 54 = 1 by omega]
  have h0 := anyF_and (p := tAct H T who e up what) (q := tDen T e up what) (i := 0) (n := 6)
  have h1 := anyF_and (p := tAct H T who e up what) (q := tDen T e up what) (i := 6) (n := 48)
  have h2 := anyF_and (p := tAct H T who e up what) (q := tDen T e up what) (i := 54) (n := 1)
  cases e0 : anyF (tAct H T who e up what) 0 6 with
  | true => cases anyF (fun s => tAct H T who e up what s && tDen T e up what s) 0 6 <;> rfl
  | false =>
    rw [h0 e0]
    cases e1 : anyF (tAct H T who e up what) 6 48 with
    | true => cases anyF (fun s => tAct H T who e up what s && tDen T e up what s) 6 48 <;> rfl
    | false =>
      rw [h1 e1]
      cases e2 : anyF (tAct H T who e up what) 54 1 with
      | true => cases anyF (fun s => tAct H T who e up what s && tDen T e up what s) 54 1 <;> rfl
      | false => rw [h2 e2]; rfl
theorem r_applies (hN : 901 ≤ N) (S : rSc M H) (hw : hW H) (R : rT M T) (W : tW T) (X : tX H T) (hwho : who < 6) {s : Nat} (hs : s < 55) : pf_applies N (zI (who : Nat)) (zI (s : Nat)) M = some (zB (tApp H T who s), M) := by
  simp only [pf_applies, pf_applies_12]
  have e54 : (zI (s : Nat) = (54 : Int32)) ↔ s = 54 := by rw [zL_54, zI_eq (by omega) (by omega) (by omega) (by omega)]; omega
  have ew : (zI (s : Nat) = zI (who : Nat)) ↔ s = who := by rw [zI_eq (by omega) (by omega) (by omega) (by omega)]; omega
  rw [zL_6, il_lt (by omega) (by omega) (by omega) (by omega)]
  unfold tApp
  by_cases h1 : s < 6
  · rw [if_pos (show (s : Int) < 6 by omega), if_pos h1]
    by_cases q : s = who
    · rw [if_pos (ew.mpr q), decide_eq_true q]; rfl
    · rw [if_neg (fun h => q (ew.mp h)), if_neg (fun h => by have := e54.mp h; omega), decide_eq_false q]; rfl
  · rw [if_neg (show ¬ (s : Int) < 6 by omega), if_neg h1]
    by_cases h2 : s = 54
    · rw [if_pos (e54.mpr h2), if_neg (fun h => by have := ew.mp h; omega), if_pos (e54.mpr h2), if_pos h2]; rfl
    · rw [if_neg (fun h => h2 (e54.mp h)), if_neg h2, zI_sub, show (s : Int) - 6 = ((s - 6 : Nat) : Int) by omega, r_isLive R (by omega) (by omega), bd_i, il_B]
      cases hlv : tLv T ((s - 6 : Nat) : Int) with
      | false => rw [if_neg (by decide)]; rfl
      | true =>
        have h10 := hw.1
        have hm := r_hasMatch (N := N) (H := H) hN R W S.2.2.2.1 (e := s - 6) (a := 0) (v := who) (by omega) (by omega) (by omega)
        have hm : pf_hasMatch N (zI ((s - 6 : Nat) : Int)) 0 (zI (who : Nat)) M = _ := hm
        rw [if_pos rfl, S.1, hm, bd_i, il_B, zL_0, il_le (by omega) (by omega) (by omega) (by omega), Bool.true_and]
        by_cases q : hA H = 0
        · have h0 : tMt H T (s - 6) 0 who = 0 := by
            unfold tMt
            rw [List.countP_eq_zero]
            intro x hx
            have := X.2 x hx
            omega
          rw [if_pos (by omega), h0]; rfl
        · rw [if_neg (by omega)]
          cases decide (0 < tMt H T (s - 6) 0 who) <;> rfl
/-- the next of what is known -/
def stN (d : Nat × Bool) (κ : Nat) (act den : Bool) : Nat × Bool := if act then (if d.1 < κ then d else if d.1 = κ then (κ, d.2 || den) else (κ, den)) else d
abbrev kDt : Type := Int32 → Int32 → Int32 → Int32 → Int32 → Int32 → Int32 → mS → Option (Int32 × mS)
theorem r_decides_129 {k9 : kDt} {x1 x2 x3 x4 x7 : Int32} {κ ne fa : Nat} (h1 : ne ≤ 2) (h2 : fa ≤ 2) : pf_decides_129 N k9 x1 x2 x3 x4 x7 (zI (κ : Nat)) (zI (ne : Nat)) (zI (fa : Nat)) M = k9 x1 x2 x3 x4 (zI (κ : Nat)) (zB (decide (ne = 2) || decide (fa = 2))) (x7 + 1) M := by
  simp only [pf_decides_129, pf_decides_146, pf_decides_152, nm_i]
  rw [zL_2, il_eq (by omega) (by omega) (by omega) (by omega), il_eq (by omega) (by omega) (by omega) (by omega)]
  by_cases q1 : ne = 2
  · rw [if_pos (show (ne : Int) = 2 by omega), decide_eq_true q1, Bool.true_or]; rfl
  · rw [if_neg (show ¬ (ne : Int) = 2 by omega), decide_eq_false q1, Bool.false_or]
    by_cases q2 : fa = 2
    · rw [if_pos (show (fa : Int) = 2 by omega), decide_eq_true q2]; rfl
    · rw [if_neg (show ¬ (fa : Int) = 2 by omega), decide_eq_false q2]; rfl
theorem r_decides_100 (hN : 901 ≤ N) (S : rSc M H) (hw : hW H) (R : rT M T) (W : tW T) (X : tX H T) (hwho : who < 6) {k9 : kDt} {x2 x3 x4 : Int32} {κ ne fa i : Nat} (h1 : ne ≤ 2) (h2 : fa ≤ 2) (hκ : κ < 3) (hi : i < 55) {d : Nat × Bool} (hd : d.1 ≤ 3) : pf_decides_100 N k9 (zI (who : Nat)) x2 x3 x4 (zI (d.1 : Nat)) (zB d.2) (zI (i : Nat)) (zI (κ : Nat)) (zI (ne : Nat)) (zI (fa : Nat)) M = k9 (zI (who : Nat)) x2 x3 x4 (zI ((stN d κ (tApp H T who i) (decide (ne = 2) || decide (fa = 2))).1 : Nat)) (zB (stN d κ (tApp H T who i) (decide (ne = 2) || decide (fa = 2))).2) (zI (i : Nat) + 1) M := by
  simp only [pf_decides_100]
  rw [r_applies hN S hw R W X hwho hi, bd_i, il_B]
  unfold stN
  cases tApp H T who i with
  | false =>
    rw [if_neg (by decide), if_neg (by decide)]
    simp only [pf_decides_152, nm_i]
  | true =>
    rw [if_pos rfl, if_pos rfl, il_lt (by omega) (by omega) (by omega) (by omega)]
    by_cases q1 : d.1 < κ
    · rw [if_pos (show (d.1 : Int) < (κ : Int) by omega), if_pos q1]
      simp only [pf_decides_152, nm_i]
    · rw [if_neg (show ¬ (d.1 : Int) < (κ : Int) by omega), if_neg q1, il_eq (by omega) (by omega) (by omega) (by omega)]
      by_cases q2 : d.1 = κ
      · rw [if_pos (show (κ : Int) = (d.1 : Int) by omega), if_pos q2, il_B]
        cases hb : d.2 with
        | false =>
          rw [if_neg (by decide), r_decides_129 h1 h2, Bool.false_or]
        | true =>
          rw [if_pos rfl, Bool.true_or]
          simp only [pf_decides_146, pf_decides_152, nm_i]
          rfl
      · rw [if_neg (show ¬ (κ : Int) = (d.1 : Int) by omega), if_neg q2, r_decides_129 h1 h2]
theorem r_decides_39 (hN : 901 ≤ N) (S : rSc M H) (hw : hW H) (R : rT M T) (W : tW T) (X : tX H T) (hwho : who < 6) (he : e < 48) (hwhat : what < 2) (hup : up < 1000) {k9 : kDt} {κ i : Nat} (hκ : κ < 3) (hi : i < 55) {d : Nat × Bool} (hd : d.1 ≤ 3) : pf_decides_39 N k9 (zI (κ : Nat)) (zI (who : Nat)) (zI (e : Nat)) (zI (up : Nat)) (zI (what : Nat)) (zI (d.1 : Nat)) (zB d.2) (zI (i : Nat)) M = k9 (zI (who : Nat)) (zI (e : Nat)) (zI (up : Nat)) (zI (what : Nat)) (zI ((stN d κ (tAct H T who e up what i) (tDen T e up what i)).1 : Nat)) (zB (stN d κ (tAct H T who e up what i) (tDen T e up what i)).2) (zI (i : Nat) + 1) M := by
  have hfa := W.2.2.2.2.2.2.2.1 e (6 * i + what + 4)
  have hne : tNear T e i up what ≤ 2 := by
    unfold tNear
    split
    · omega
    · exact W.2.2.2.2.2.2.2.1 _ _
  have key : pf_decides_77 N k9 (zI (tNear T e i up what : Nat)) (zI (who : Nat)) (zI (e : Nat)) (zI (up : Nat)) (zI (what : Nat)) (zI (d.1 : Nat)) (zB d.2) (zI (i : Nat)) (zI (κ : Nat)) (zI ((330 * e + 6 * i + what : Nat) : Int)) M = k9 (zI (who : Nat)) (zI (e : Nat)) (zI (up : Nat)) (zI (what : Nat)) (zI ((stN d κ (tAct H T who e up what i) (tDen T e up what i)).1 : Nat)) (zB (stN d κ (tAct H T who e up what i) (tDen T e up what i)).2) (zI (i : Nat) + 1) M := by
    simp only [pf_decides_77, nm_i]
    rw [zL_4, zI_add, show ((330 * e + 6 * i + what : Nat) : Int) + 4 = ((330 * e + (6 * i + what + 4) : Nat) : Int) by omega, gd_n (by omega) (by omega), zI_cn (by omega), R.2.2.2.2.2.2.2 e (6 * i + what + 4) he (by omega), zL_0, il_lt (by omega) (by omega) (by omega) (by omega), il_le (by omega) (by omega) (by omega) (by omega), r_decides_100 hN S hw R W X hwho hne hfa hκ hi hd]
    by_cases q1 : 0 < tNear T e i up what
    · rw [if_pos (show (0 : Int) < (tNear T e i up what : Int) by omega)]
      have : tAct H T who e up what i = tApp H T who i := by unfold tAct; rw [decide_eq_true q1, Bool.true_or, Bool.true_and]
      rw [this]
      rfl
    · rw [if_neg (show ¬ (0 : Int) < (tNear T e i up what : Int) by omega)]
      by_cases q2 : 0 < tSy T e (6 * i + what + 4)
      · rw [if_neg (show ¬ (tSy T e (6 * i + what + 4) : Int) ≤ 0 by omega)]
        have : tAct H T who e up what i = tApp H T who i := by unfold tAct; rw [decide_eq_true q2, Bool.or_true, Bool.true_and]
        rw [this]
        rfl
      · rw [if_pos (show (tSy T e (6 * i + what + 4) : Int) ≤ 0 by omega)]
        have : tAct H T who e up what i = false := by unfold tAct; rw [decide_eq_false q1, decide_eq_false q2]; rfl
        rw [this]
        simp only [pf_decides_152, nm_i]
        rfl
  simp only [pf_decides_39, nm_i]
  rw [zL_330, zL_6, zL_1, zL_2]
  simp only [zI_mul, zI_add]
  rw [show (330 : Int) * (e : Int) + 6 * (i : Int) + (what : Int) = ((330 * e + 6 * i + what : Nat) : Int) by omega, il_le (by omega) (by omega) (by omega) (by omega)]
  by_cases q : up ≤ 1
  · have hn : tNear T e i up what = tSy T e (6 * i + what + 2 * up) := by unfold tNear; rw [if_neg (by omega)]
    rw [if_pos (show (up : Int) ≤ 1 by omega), show ((330 * e + 6 * i + what : Nat) : Int) + 2 * (up : Int) = ((330 * e + (6 * i + what + 2 * up) : Nat) : Int) by omega, gd_n (by omega) (by omega), zI_cn (by omega), R.2.2.2.2.2.2.2 e (6 * i + what + 2 * up) he (by omega), ← hn]
    have key := key
    rw [zL_1, zI_add] at key
    exact key
  · have hn : tNear T e i up what = 0 := by unfold tNear; rw [if_pos (by omega)]
    rw [if_neg (show ¬ (up : Int) ≤ 1 by omega)]
    rw [hn] at key
    have key := key
    rw [zL_1, zI_add] at key
    exact key
theorem r_decides_9 (hN : 901 ≤ N) (S : rSc M H) (hw : hW H) (R : rT M T) (W : tW T) (X : tX H T) (hwho : who < 6) (he : e < 48) (hwhat : what < 2) (hup : up < 1000) {k158 : Int32 → Int32 → mS → Option (Int32 × mS)} : ∀ (n k i : Nat) (d : Nat × Bool), i + k = 55 → k < n → d = stD (tAct H T who e up what) (tDen T e up what) i → pf_decides_9 N k158 n (zI (who : Nat)) (zI (e : Nat)) (zI (up : Nat)) (zI (what : Nat)) (zI (d.1 : Nat)) (zB d.2) (zI (i : Nat)) M = k158 (zI ((stD (tAct H T who e up what) (tDen T e up what) 55).1 : Nat)) (zB (stD (tAct H T who e up what) (tDen T e up what) 55).2) M
  | 0, k, i, d, hk, hn, hd => by omega
  | n + 1, k, i, d, hk, hn, hd => by
    have hd3 : d.1 ≤ 3 := by rw [hd]; exact stD_le
    simp only [pf_decides_9]
    rw [zL_54, il_lt (by omega) (by omega) (by omega) (by omega)]
    cases k with
    | zero =>
      have : i = 55 := by omega
      subst this
      rw [if_pos (by omega), hd]
    | succ k =>
      have hi : i < 55 := by omega
      rw [if_neg (by omega), zL_6, il_le (by omega) (by omega) (by omega) (by omega), il_le (by omega) (by omega) (by omega) (by omega)]
      have hst := stD_s (p := tAct H T who e up what) (q := tDen T e up what) hi
      rw [← hd] at hst
      have fin : ∀ κ : Nat, κ = sKd i → pf_decides_39 N (pf_decides_9 N k158 n) (zI (κ : Nat)) (zI (who : Nat)) (zI (e : Nat)) (zI (up : Nat)) (zI (what : Nat)) (zI (d.1 : Nat)) (zB d.2) (zI (i : Nat)) M = k158 (zI ((stD (tAct H T who e up what) (tDen T e up what) 55).1 : Nat)) (zB (stD (tAct H T who e up what) (tDen T e up what) 55).2) M := fun κ hκ => by
        have hκ3 : κ < 3 := by rw [hκ]; unfold sKd; split; omega; split <;> omega
        rw [r_decides_39 hN S hw R W X hwho he hwhat hup hκ3 hi hd3, show zI (i : Nat) + 1 = zI ((i + 1 : Nat) : Int) by rw [zL_1, zI_add]; congr 1]
        refine r_decides_9 hN S hw R W X hwho he hwhat hup (k158 := k158) n k (i + 1) _ (by omega) (by omega) ?_
        rw [hst, hκ]
        rfl
      by_cases q1 : 6 ≤ i
      · rw [if_pos (show (6 : Int) ≤ (i : Int) by omega)]
        by_cases q2 : 54 ≤ i
        · rw [if_pos (show (54 : Int) ≤ (i : Int) by omega)]
          exact fin 2 (by unfold sKd; rw [if_neg (by omega), if_neg (by omega)])
        · rw [if_neg (show ¬ (54 : Int) ≤ (i : Int) by omega)]
          exact fin 1 (by unfold sKd; rw [if_neg (by omega), if_pos (by omega)])
      · rw [if_neg (show ¬ (6 : Int) ≤ (i : Int) by omega)]
        exact fin 0 (by unfold sKd; rw [if_pos (by omega)])
theorem r_decides (hN : 901 ≤ N) (S : rSc M H) (hw : hW H) (R : rT M T) (W : tW T) (X : tX H T) (hwho : who < 6) (he : e < 48) (hwhat : what < 2) (hup : up < 1000) : pf_decides N (zI (who : Nat)) (zI (e : Nat)) (zI (up : Nat)) (zI (what : Nat)) M = some (zI (tDec H T who e up what : Nat), M) := by
  have h := r_decides_9 (N := N) hN S hw R W X hwho he hwhat hup (k158 := pf_decides_158 N) N 55 0 (3, false) (by omega) (by omega) (by rfl)
  have h : pf_decides N (zI (who : Nat)) (zI (e : Nat)) (zI (up : Nat)) (zI (what : Nat)) M = _ := h
  have hs := stD_55 (H := H) (T := T) (who := who) (e := e) (up := up) (what := what)
  have hle := stD_le (p := tAct H T who e up what) (q := tDen T e up what) (i := 55)
  rw [h]
  simp only [pf_decides_158]
  rw [zL_3, il_eq (by omega) (by omega) (by omega) (by omega), il_B]
  rw [← hs]
  by_cases q : (stD (tAct H T who e up what) (tDen T e up what) 55).1 = 3
  · rw [if_pos (show ((stD (tAct H T who e up what) (tDen T e up what) 55).1 : Int) = 3 by omega), if_pos q]; rfl
  · rw [if_neg (show ¬ ((stD (tAct H T who e up what) (tDen T e up what) 55).1 : Int) = 3 by omega), if_neg q]
    cases (stD (tAct H T who e up what) (tDen T e up what) 55).2 <;> rfl
theorem r_mayDo_9 (hN : 901 ≤ N) (S : rSc M H) (hw : hW H) (L : rLd M T) (X : tX H T) (hwho : 0 < who) (hwho2 : who < 6) (hwhat : what < 2) {k50 : Int32 → Int32 → Int32 → mS → Option (Int32 × mS)} : ∀ (k n up : Nat) (x : Int), up + k < 1000 → -2 ≤ x → x < 48 → climb (fun x => tPl T x) k x < 0 → k + 1 < n → pf_mayDo_9 N k50 n (zI (who : Nat)) (zI (what : Nat)) 0 (zI (up : Nat)) (zI x) M = k50 (zI (who : Nat)) (zI (what : Nat)) (zI (tTold H T who what k up x : Nat)) M
  | k, 0, up, x, _, _, _, _, hn => by omega
  | k, n + 1, up, x, hup, h1, h2, hc, hn => by
    obtain ⟨R, W, P, Q⟩ := id L
    simp only [pf_mayDo_9, nm_i]
    rw [if_pos trivial, zL_0, il_lt (by omega) (by omega) (by omega) (by omega), il_le (by omega) (by omega) (by omega) (by omega)]
    by_cases q : x < 0
    · rw [if_pos q]
      have : tTold H T who what k up x = 0 := by
        cases k with
        | zero => rfl
        | succ k => exact if_pos q
      rw [this]; rfl
    · cases k with
      | zero => have hc : x < 0 := hc; omega
      | succ k =>
        obtain ⟨z, rfl⟩ : ∃ z : Nat, x = z := ⟨x.toNat, by omega⟩
        have hz : z < 48 := by omega
        have hp := tPl_rg W hz
        have hd := tDec_le (H := H) (T := T) (who := who) (e := z) (up := up) (what := what)
        rw [if_neg q, if_neg (show ¬ (who : Int) ≤ 0 by omega), r_decides hN S hw R W X hwho2 hz hwhat (by omega), bd_i, gd_n hz (by omega), zI_cn (by omega), P z hz, zL_1, zI_add, show (up : Int) + 1 = ((up + 1 : Nat) : Int) by omega]
        have et : tTold H T who what (k + 1) up (z : Int) = if tDec H T who z up what ≠ 0 then tDec H T who z up what else tTold H T who what k (up + 1) (tPl T z) := if_neg q
        rw [climb_s (by omega), Int.toNat_natCast] at hc
        by_cases g : tDec H T who z up what = 0
        · rw [et, if_neg (show ¬ (tDec H T who z up what ≠ 0) by omega), g]
          exact r_mayDo_9 hN S hw L X hwho hwho2 hwhat k n (up + 1) _ (by omega) hp.1 hp.2 hc (by omega)
        · rw [et, if_pos (show tDec H T who z up what ≠ 0 from g)]
          obtain ⟨n', rfl⟩ : ∃ n', n = n' + 1 := ⟨n - 1, by omega⟩
          simp only [pf_mayDo_9]
          rw [if_neg (show ¬ zI (tDec H T who z up what : Nat) = 0 by rw [zL_0, zI_eq (by omega) (by omega) (by omega) (by omega)]; omega)]
          split <;> rfl
theorem r_mayDo (hN : 901 ≤ N) (S : rSc M H) (hw : hW H) (L : rLd M T) (X : tX H T) (hwho : who < 6) (hwhat : what < 2) {x : Int} (h1 : -2 ≤ x) (h2 : x < 48) : pf_mayDo N (zI (who : Nat)) (zI x) (zI (what : Nat)) M = some (zB (tMay H T who x what), M) := by
  have hd := tTold_le (H := H) (T := T) (who := who) (what := what) 48 0 x
  have k50 : ∀ c : Nat, c ≤ 2 → pf_mayDo_50 N (zI (who : Nat)) (zI (what : Nat)) (zI (c : Nat)) M = some (zB (decide (who = 0) || (if c = 0 then decide (what = 0) else decide (c = 1))), M) := fun c hc => by
    simp only [pf_mayDo_50]
    rw [zL_0, zL_1, il_eq (by omega) (by omega) (by omega) (by omega), il_eq (by omega) (by omega) (by omega) (by omega), il_eq (by omega) (by omega) (by omega) (by omega), il_eq (by omega) (by omega) (by omega) (by omega)]
    by_cases q1 : who = 0
    · rw [if_pos (show (who : Int) = 0 by omega), decide_eq_true q1, Bool.true_or]; rfl
    · rw [if_neg (show ¬ (who : Int) = 0 by omega), decide_eq_false q1, Bool.false_or]
      by_cases q2 : c = 0
      · rw [if_pos (show (c : Int) = 0 by omega), if_pos q2]
        by_cases q3 : what = 0
        · rw [if_pos (show (what : Int) = 0 by omega), decide_eq_true q3]; rfl
        · rw [if_neg (show ¬ (what : Int) = 0 by omega), decide_eq_false q3]; rfl
      · rw [if_neg (show ¬ (c : Int) = 0 by omega), if_neg q2]
        by_cases q3 : c = 1
        · rw [if_pos (show (c : Int) = 1 by omega), decide_eq_true q3]; rfl
        · rw [if_neg (show ¬ (c : Int) = 1 by omega), decide_eq_false q3]; rfl
  unfold tMay
  by_cases q : who = 0
  · simp only [pf_mayDo]
    obtain ⟨N', rfl⟩ : ∃ N', N = N' + 1 := ⟨N - 1, by omega⟩
    have z := k50 0 (by omega)
    subst q
    have z : pf_mayDo_50 (N' + 1) (zI ((0 : Nat) : Int)) (zI (what : Nat)) 0 M = some (zB true, M) := z
    simp only [pf_mayDo_9]
    rw [if_pos trivial, if_pos (show zI ((0 : Nat) : Int) ≤ (0 : Int32) from by decide), z, ite_self]
    rfl
  · have e := r_mayDo_9 (N := N) hN S hw L X (by omega) hwho hwhat (k50 := pf_mayDo_50 N) 48 N 0 x (by omega) h1 h2 ((tPl_end L.2.1.1).at h2) (by omega)
    have e : pf_mayDo N (zI (who : Nat)) (zI x) (zI (what : Nat)) M = _ := e
    rw [e, k50 _ hd]
end RR
