-- LEVEL 2, THE CALL ARE ALIKE
theorem nd_le {α : Type} [DecidableEq α] : ∀ {A B : List α}, A.Nodup → (∀ x ∈ A, x ∈ B) → A.length ≤ B.length ∧ (B.length ≤ A.length → ∀ x ∈ B, x ∈ A)
  | [], B, _, _ => ⟨Nat.zero_le _, fun h x hx => by
    have : B.length = 0 := Nat.le_zero.mp h
    rw [List.length_eq_zero_iff.mp this] at hx
    exact hx⟩
  | a :: A, B, hn, hs => by
    have hn2 := List.nodup_cons.mp hn
    have ha := hs a List.mem_cons_self
    have hl := List.length_erase_of_mem ha
    have hp := List.length_pos_of_mem ha
    obtain ⟨i1, i2⟩ := nd_le (A := A) (B := B.erase a) hn2.2 (fun x hx => (List.mem_erase_of_ne (fun e => hn2.1 (by rw [← e]; exact hx))).mpr (hs x (List.mem_cons_of_mem _ hx)))
    rw [List.length_cons]
    refine ⟨by omega, fun h x hx => ?_⟩
    by_cases e : x = a
    · rw [e]; exact List.mem_cons_self
    · exact List.mem_cons_of_mem _ (i2 (by omega) x ((List.mem_erase_of_ne e).mpr hx))
theorem nd_same {α : Type} [DecidableEq α] {A B : List α} {P : α → Bool} (hA : A.Nodup) (hB : B.Nodup) : ((∀ x ∈ A, P x = true → x ∈ B) ∧ A.countP P = B.countP P) ↔ ∀ x, P x = true → (x ∈ A ↔ x ∈ B) := by
  have fA : (A.filter P).Nodup := List.Nodup.sublist List.filter_sublist hA
  have fB : (B.filter P).Nodup := List.Nodup.sublist List.filter_sublist hB
  rw [List.countP_eq_length_filter, List.countP_eq_length_filter]
  constructor
  · rintro ⟨h1, h2⟩ x hx
    have s := (nd_le (A := A.filter P) (B := B.filter P) fA (fun y hy => List.mem_filter.mpr ⟨h1 y (List.mem_filter.mp hy).1 (List.mem_filter.mp hy).2, (List.mem_filter.mp hy).2⟩)).2 (by omega)
    exact ⟨fun h => h1 x h hx, fun h => (List.mem_filter.mp (s x (List.mem_filter.mpr ⟨h, hx⟩))).1⟩
  · intro h
    refine ⟨fun x hx hp => (h x hp).mp hx, ?_⟩
    have a := (nd_le (A := A.filter P) (B := B.filter P) fA (fun y hy => List.mem_filter.mpr ⟨(h y (List.mem_filter.mp hy).2).mp (List.mem_filter.mp hy).1, (List.mem_filter.mp hy).2⟩)).1
    have b := (nd_le (A := B.filter P) (B := A.filter P) fB (fun y hy => List.mem_filter.mpr ⟨(h y (List.mem_filter.mp hy).2).mpr (List.mem_filter.mp hy).1, (List.mem_filter.mp hy).2⟩)).1
    omega
section OR
variable {N : Nat} {S : kS} {M : mS} {W : sW} {T U : sT}
theorem r_hasSame_37 (P : rKp M U) (WU : tW U) (hlen : (tVs U).length ≤ 900) {e k : Nat} {x : Nat × Nat × Nat} (hx : rAt M k x) (hk : k < 900) (hv : vOk x) (he : e < 48) {x2 x3 : Int32} {k109 : Int32 → Int32 → Int32 → Int32 → Int32 → mS → Option (Int32 × mS)} : ∀ (n q i : Nat) (b : Bool), i + q = (tVs U).length → q < n → (b = false → x.1 = e) → pf_hasSame_37 N k109 n (zI (e : Nat)) x2 x3 (zI (k : Nat)) (zB b) (zI (i : Nat)) M = k109 (zI (e : Nat)) x2 x3 (zI (k : Nat)) (zB (b || decide (x ∈ (tVs U).drop i))) M
  | 0, q, i, b, hq, hn, hb => by omega
  | n + 1, q, i, b, hq, hn, hb => by
    simp only [pf_hasSame_37, pf_hasSame_101, nm_i]
    rw [P.2.1, il_le (by omega) (by omega) (by omega) (by omega)]
    cases q with
    | zero =>
      rw [if_pos (by omega), List.drop_eq_nil_of_le (by omega), decide_eq_false List.not_mem_nil, Bool.or_false]
    | succ q =>
      have hi : i < (tVs U).length := by omega
      rw [if_neg (by omega), il_B]
      cases b with
      | true => rw [if_pos rfl]; rfl
      | false =>
        have ek : zI (i : Nat) + 1 = zI ((i + 1 : Nat) : Int) := by rw [zL_1, zI_add]; congr 1
        have hxe := hb rfl
        have hi9 : i < 900 := by omega
        obtain ⟨y1, y2, y3⟩ := P.2.2.1 i (tVs U)[i] (List.getElem?_eq_getElem hi)
        have hy := tW_v WU (tVs U)[i] (List.getElem_mem hi)
        have ih0 : pf_hasSame_37 N k109 n (zI (e : Nat)) x2 x3 (zI (k : Nat)) 0 (zI ((i + 1 : Nat) : Int)) M = _ := r_hasSame_37 P WU hlen hx hk hv he (x2 := x2) (x3 := x3) (k109 := k109) n q (i + 1) false (by omega) (by omega) hb
        have ih1 : pf_hasSame_37 N k109 n (zI (e : Nat)) x2 x3 (zI (k : Nat)) 1 (zI ((i + 1 : Nat) : Int)) M = _ := r_hasSame_37 P WU hlen hx hk hv he (x2 := x2) (x3 := x3) (k109 := k109) n q (i + 1) true (by omega) (by omega) (fun g => Bool.noConfusion g)
        have no : ¬ x = (tVs U)[i] → decide (x ∈ (tVs U).drop i) = decide (x ∈ (tVs U).drop (i + 1)) := fun g => by
          rw [List.drop_eq_getElem_cons hi]
          exact decide_eq_decide.mpr ⟨fun h => by
            rcases List.mem_cons.mp h with h | h
            · exact absurd h g
            · exact h, fun h => List.mem_cons_of_mem _ h⟩
        obtain ⟨v1, v2, v3⟩ := hv
        obtain ⟨u1, u2, u3⟩ := hy
        rw [if_neg (by decide), ek, ih0, ih1, Bool.false_or, Bool.false_or, Bool.true_or]
        simp only [gd_n hi9 (show (900 : Nat) < 2147483648 by omega), gd_n hk (show (900 : Nat) < 2147483648 by omega), zI_cn (show i < 2147483648 by omega), zI_cn (show k < 2147483648 by omega)]
        rw [y1, y2, y3, hx.2.1, hx.2.2, il_eq (by omega) (by omega) (by omega) (by omega), il_eq (by omega) (by omega) (by omega) (by omega), il_eq (by omega) (by omega) (by omega) (by omega)]
        by_cases c1 : ((tVs U)[i].1 : Int) = (e : Int)
        · rw [if_pos c1]
          by_cases c2 : ((tVs U)[i].2.1 : Int) = (x.2.1 : Int)
          · rw [if_pos c2]
            by_cases c3 : ((tVs U)[i].2.2 : Int) = (x.2.2 : Int)
            · rw [if_pos c3]
              have : x = (tVs U)[i] := by
                refine Prod.ext (by omega) (Prod.ext (by omega) (by omega))
              rw [decide_eq_true (show x ∈ (tVs U).drop i by rw [List.drop_eq_getElem_cons hi, this]; exact List.mem_cons_self)]
            · rw [if_neg c3, no (fun g => c3 (by rw [g]))]
          · rw [if_neg c2, no (fun g => c2 (by rw [g]))]
        · rw [if_neg c1, no (fun g => c1 (by rw [← g]; omega))]
theorem r_hasSame_7 (hN : 1000 ≤ N) (P : rKp M U) (WU : tW U) (hlen : (tVs U).length ≤ 900) (V : rVs M (tVs T)) (WT : tW T) {e : Nat} (he : e < 48) {k149 : Int32 → Int32 → Int32 → mS → Option (Int32 × mS)} : ∀ (n q i c : Nat) (b : Bool), i + q = (tVs T).length → q < n → ∃ b', pf_hasSame_7 N k149 n (zI (e : Nat)) (zI (c : Nat)) (zB b) (zI (i : Nat)) M = k149 (zI (e : Nat)) (zI ((c + ((tVs T).drop i).countP (fun x => decide (x.1 = e)) : Nat) : Int)) (zB b') M ∧ (b' = true ↔ b = true ∧ ∀ x ∈ (tVs T).drop i, x.1 = e → x ∈ tVs U)
  | 0, q, i, c, b, hq, hn => by omega
  | n + 1, q, i, c, b, hq, hn => by
    have hT := V.2.1
    simp only [pf_hasSame_7, pf_hasSame_32]
    rw [V.1, il_le (by omega) (by omega) (by omega) (by omega)]
    cases q with
    | zero =>
      rw [if_pos (by omega), List.drop_eq_nil_of_le (by omega)]
      exact ⟨b, rfl, fun h => ⟨h, fun x hx => absurd hx List.not_mem_nil⟩, fun h => h.1⟩
    | succ q =>
      have hi : i < (tVs T).length := by omega
      have hi9 : i < 900 := by omega
      have ek : zI (i : Nat) + 1 = zI ((i + 1 : Nat) : Int) := by rw [zL_1, zI_add]; congr 1
      have hx := V.2.2 i (tVs T)[i] (List.getElem?_eq_getElem hi)
      have hv := tW_v WT (tVs T)[i] (List.getElem_mem hi)
      have v1 := hv.1
      have inn := fun b0 (hb : b0 = false → (tVs T)[i].1 = e) => r_hasSame_37 (N := N) P WU hlen hx hi9 hv he (x2 := zI (c : Nat)) (x3 := zB b) (k109 := pf_hasSame_109 N (pf_hasSame_7 N k149 n)) N (tVs U).length 0 b0 (by omega) (by omega) hb
      rw [if_neg (by omega), gd_n hi9 (by omega), zI_cn (by omega), hx.1, il_eq (by omega) (by omega) (by omega) (by omega), List.drop_eq_getElem_cons hi, List.countP_cons]
      have fin : ∀ (t : Bool), (t = true ↔ ((tVs T)[i].1 = e → (tVs T)[i] ∈ tVs U)) → ∃ b', pf_hasSame_109 N (pf_hasSame_7 N k149 n) (zI (e : Nat)) (zI (c : Nat)) (zB b) (zI (i : Nat)) (zB t) M = k149 (zI (e : Nat)) (zI ((c + (((tVs T).drop (i + 1)).countP (fun x => decide (x.1 = e)) + if (decide ((tVs T)[i].1 = e)) = true then 1 else 0) : Nat) : Int)) (zB b') M ∧ (b' = true ↔ b = true ∧ ∀ x ∈ (tVs T)[i] :: (tVs T).drop (i + 1), x.1 = e → x ∈ tVs U) := fun t ht => by
        have g123 : ∀ (b2 : Bool), b2 = (b && t) → ∃ b', pf_hasSame_123 N (pf_hasSame_7 N k149 n) (zB b2) (zI (e : Nat)) (zI (c : Nat)) (zI (i : Nat)) M = k149 (zI (e : Nat)) (zI ((c + (((tVs T).drop (i + 1)).countP (fun x => decide (x.1 = e)) + if (decide ((tVs T)[i].1 = e)) = true then 1 else 0) : Nat) : Int)) (zB b') M ∧ (b' = true ↔ b = true ∧ ∀ x ∈ (tVs T)[i] :: (tVs T).drop (i + 1), x.1 = e → x ∈ tVs U) := fun b2 hb2 => by
          have ih := fun c => r_hasSame_7 hN P WU hlen V WT he (k149 := k149) n q (i + 1) c b2 (by omega) (by omega)
          have lst : ∀ b', (b' = true ↔ b2 = true ∧ ∀ x ∈ (tVs T).drop (i + 1), x.1 = e → x ∈ tVs U) → (b' = true ↔ b = true ∧ ∀ x ∈ (tVs T)[i] :: (tVs T).drop (i + 1), x.1 = e → x ∈ tVs U) := fun b' hb' => by
            rw [hb', hb2, Bool.and_eq_true, ht]
            exact ⟨fun h => ⟨h.1.1, fun x hx => by
              rcases List.mem_cons.mp hx with rfl | hx
              · exact h.1.2
              · exact h.2 x hx⟩, fun h => ⟨⟨h.1, h.2 _ List.mem_cons_self⟩, fun x hx => h.2 x (List.mem_cons_of_mem _ hx)⟩⟩
          simp only [pf_hasSame_123, pf_hasSame_141, nm_i]
          rw [gd_n hi9 (by omega), zI_cn (by omega), hx.1, il_eq (by omega) (by omega) (by omega) (by omega), ek]
          by_cases q1 : (tVs T)[i].1 = e
          · obtain ⟨b', e1, e2⟩ := ih (c + 1)
            rw [if_pos (by omega), if_pos (decide_eq_true q1), zL_1, zI_add, show (c : Int) + 1 = ((c + 1 : Nat) : Int) by omega, e1]
            refine ⟨b', ?_, lst b' e2⟩
            congr 2
            omega
          · obtain ⟨b', e1, e2⟩ := ih c
            rw [if_neg (by omega), if_neg (show ¬ decide ((tVs T)[i].1 = e) = true by rw [decide_eq_true_eq]; exact q1), zL_0, zI_add, show (c : Int) + 0 = (c : Int) by omega, e1]
            exact ⟨b', rfl, lst b' e2⟩
        simp only [pf_hasSame_109]
        rw [il_B, il_B]
        cases b with
        | false => rw [if_neg (by decide)]; exact g123 false rfl
        | true =>
          rw [if_pos rfl]
          cases t with
          | false => rw [if_neg (by decide)]; exact g123 false rfl
          | true => rw [if_pos rfl]; exact g123 true rfl
      by_cases q1 : (tVs T)[i].1 = e
      · have i0 : pf_hasSame_37 N (pf_hasSame_109 N (pf_hasSame_7 N k149 n)) N (zI (e : Nat)) (zI (c : Nat)) (zB b) (zI (i : Nat)) 0 0 M = _ := inn false (fun _ => q1)
        rw [if_pos (by omega), i0, Bool.false_or, List.drop_zero]
        exact fin _ ⟨fun h _ => of_decide_eq_true h, fun h => decide_eq_true (h q1)⟩
      · have i1 : pf_hasSame_37 N (pf_hasSame_109 N (pf_hasSame_7 N k149 n)) N (zI (e : Nat)) (zI (c : Nat)) (zB b) (zI (i : Nat)) 1 0 M = _ := inn true (fun g => Bool.noConfusion g)
        rw [if_neg (by omega), i1, Bool.true_or]
        exact fin true ⟨fun _ g => absurd g q1, fun _ => rfl⟩
theorem r_hasSame_152 (P : rKp M U) (WU : tW U) (hlen : (tVs U).length ≤ 900) {e : Nat} (he : e < 48) {x3 : Int32} {k186 : Int32 → Int32 → mS → Option (Int32 × mS)} : ∀ (n q i : Nat) (c : Int), i + q = (tVs U).length → q < n → pf_hasSame_152 N k186 n (zI (e : Nat)) (zI c) x3 (zI (i : Nat)) M = k186 (zI (c - ((tVs U).drop i).countP (fun x => decide (x.1 = e)))) x3 M
  | 0, q, i, c, hq, hn => by omega
  | n + 1, q, i, c, hq, hn => by
    simp only [pf_hasSame_152, pf_hasSame_178, nm_i]
    rw [P.2.1, il_le (by omega) (by omega) (by omega) (by omega)]
    cases q with
    | zero =>
      rw [if_pos (by omega), List.drop_eq_nil_of_le (by omega), List.countP_nil]
      congr 2
      omega
    | succ q =>
      have hi : i < (tVs U).length := by omega
      have hi9 : i < 900 := by omega
      have ek : zI (i : Nat) + 1 = zI ((i + 1 : Nat) : Int) := by rw [zL_1, zI_add]; congr 1
      have ih := fun c => r_hasSame_152 P WU hlen he (x3 := x3) (k186 := k186) n q (i + 1) c (by omega) (by omega)
      obtain ⟨y1, -, -⟩ := P.2.2.1 i (tVs U)[i] (List.getElem?_eq_getElem hi)
      have hy := (tW_v WU (tVs U)[i] (List.getElem_mem hi)).1
      rw [if_neg (by omega), gd_n hi9 (by omega), zI_cn (by omega), y1, il_eq (by omega) (by omega) (by omega) (by omega), ek, zL_1, zL_0, zI_sub, zI_sub, ih, ih, List.drop_eq_getElem_cons hi, List.countP_cons]
      by_cases q1 : (tVs U)[i].1 = e
      · rw [if_pos (by omega), if_pos (decide_eq_true q1)]
        congr 2
        omega
      · rw [if_neg (by omega), if_neg (show ¬ decide ((tVs U)[i].1 = e) = true by rw [decide_eq_true_eq]; exact q1)]
        congr 2
        omega
theorem r_hasSame (hN : 1000 ≤ N) (P : rKp M U) (WU : tW U) (nU : (tVs U).Nodup) (hlen : (tVs U).length ≤ 900) (V : rVs M (tVs T)) (WT : tW T) (nT : (tVs T).Nodup) {e : Nat} (he : e < 48) : ∃ b, pf_hasSame N (zI (e : Nat)) M = some (zB b, M) ∧ (b = true ↔ vSame U T e) := by
  obtain ⟨b, e1, e2⟩ := r_hasSame_7 (N := N) hN P WU hlen V WT he (k149 := pf_hasSame_149 N) N (tVs T).length 0 0 true (by have := V.2.1; omega) (by have := V.2.1; omega)
  have e1 : pf_hasSame_7 N (pf_hasSame_149 N) N (zI (e : Nat)) 0 1 0 M = _ := e1
  have e3 := r_hasSame_152 (N := N) P WU hlen he (x3 := zB b) (k186 := pf_hasSame_186 N) N (tVs U).length 0 (((0 + ((tVs T).drop 0).countP (fun x => decide (x.1 = e)) : Nat) : Int)) (by omega) (by omega)
  have e3 : pf_hasSame_152 N (pf_hasSame_186 N) N (zI (e : Nat)) (zI (((0 + ((tVs T).drop 0).countP (fun x => decide (x.1 = e)) : Nat) : Int))) (zB b) 0 M = _ := e3
  have cT : (tVs T).countP (fun x => decide (x.1 = e)) ≤ 900 := Nat.le_trans List.countP_le_length V.2.1
  have cU : (tVs U).countP (fun x => decide (x.1 = e)) ≤ 900 := Nat.le_trans List.countP_le_length hlen
  have sm := nd_same (P := fun x : Nat × Nat × Nat => decide (x.1 = e)) nT nU
  have vs : (∀ x : Nat × Nat × Nat, decide (x.1 = e) = true → (x ∈ tVs T ↔ x ∈ tVs U)) ↔ vSame U T e := by
    constructor
    · intro h a v
      exact (h (e, a, v) (decide_eq_true rfl)).symm
    · intro h x hx
      have : x = (e, x.2.1, x.2.2) := Prod.ext (of_decide_eq_true hx) rfl
      rw [this]
      exact (h x.2.1 x.2.2).symm
  have e2' : b = true ↔ ∀ x ∈ tVs T, decide (x.1 = e) = true → x ∈ tVs U := by
    rw [e2]
    rw [List.drop_zero]
    exact ⟨fun h x hx hd => h.2 x hx (of_decide_eq_true hd), fun h => ⟨rfl, fun x hx hd => h x hx (decide_eq_true hd)⟩⟩
  simp only [pf_hasSame]
  rw [e1]
  simp only [pf_hasSame_149]
  rw [e3, List.drop_zero, List.drop_zero]
  simp only [pf_hasSame_186]
  rw [il_B, zL_0, il_eq (by omega) (by omega) (by omega) (by omega)]
  by_cases q1 : b = true
  · rw [if_pos q1]
    by_cases q2 : (tVs T).countP (fun x => decide (x.1 = e)) = (tVs U).countP (fun x => decide (x.1 = e))
    · rw [if_pos (by omega)]
      exact ⟨true, rfl, fun _ => vs.mp (sm.mp ⟨e2'.mp q1, q2⟩), fun _ => rfl⟩
    · rw [if_neg (by omega)]
      exact ⟨false, rfl, fun g => Bool.noConfusion g, fun g => absurd (sm.mpr (vs.mpr g)).2 q2⟩
  · rw [if_neg q1]
    exact ⟨false, rfl, fun g => Bool.noConfusion g, fun g => absurd (e2'.mpr (sm.mpr (vs.mpr g)).1) q1⟩
end OR
