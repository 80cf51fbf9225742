-- LEVEL 2, THE REFERENCE: VALUES COME AND GO
theorem mI_1 (S : mS) (k : Nat) (v : Int32) : (mI S k v).1 = upd S.1 k v := rfl
theorem mI_2 (S : mS) (k : Nat) (v : Int32) : (mI S k v).2 = S.2 := rfl
theorem mA_1 (S : mS) (k j : Nat) (v : Int32) : (mA S k j v).1 = S.1 := rfl
theorem mA_s (S : mS) (k j : Nat) (v : Int32) : (mA S k j v).2 k = upd (S.2 k) j v := if_pos rfl
theorem mA_o (S : mS) {k q : Nat} (j : Nat) (v : Int32) (h : q ≠ k) : (mA S k j v).2 q = S.2 q := if_neg h
/-- the schema of the reference -/
def rSc (M : mS) (H : sH) : Prop := M.1 1 = zI (hA H : Nat) ∧ M.1 4 = zI (hC H : Nat) ∧ (∀ a, a < 10 → M.2 2 a = zB (hSg H a)) ∧ (∀ a, a < 10 → M.2 3 a = zB (hTn H a)) ∧ (∀ k, k < hC H → M.2 5 k = zI (hPr H k)) ∧ (∀ k, k < hC H → hRq H k = M.2 6 k ||| hReq H (hPr H k)) ∧ (∀ k, k < hC H → hAl H k = (M.2 6 k ||| M.2 7 k) ||| hAll H (hPr H k))
def rAt (M : mS) (j : Nat) (x : Nat × Nat × Nat) : Prop := M.2 48 j = zI (x.1 : Nat) ∧ M.2 49 j = zI (x.2.1 : Nat) ∧ M.2 50 j = zI (x.2.2 : Nat)
def rVs (M : mS) (l : List (Nat × Nat × Nat)) : Prop := M.1 47 = zI (l.length : Nat) ∧ l.length ≤ 900 ∧ ∀ j x, l[j]? = some x → rAt M j x
def rfV (M M' : mS) : Prop := (∀ q, q ≠ 47 → M'.1 q = M.1 q) ∧ ∀ c, (c < 48 ∨ 50 < c) → M'.2 c = M.2 c
theorem rfV.rf {M : mS} : rfV M M := ⟨fun _ _ => rfl, fun _ _ => rfl⟩
theorem rfV.trans {M M' M2 : mS} (h : rfV M M') (h2 : rfV M' M2) : rfV M M2 := ⟨fun q a => (h2.1 q a).trans (h.1 q a), fun q a => (h2.2 q a).trans (h.2 q a)⟩
section RV
variable {N : Nat} {M : mS} {H : sH}
theorem r_in {x a b : Int} (h1 : -2147483648 ≤ x) (h2 : x < 2147483648) (h3 : -2147483648 ≤ a) (h4 : a < 2147483648) (h5 : -2147483648 ≤ b) (h6 : b < 2147483648) : pf_in N (zI x) (zI a) (zI b) = some (zB (decide (a ≤ x) && decide (x ≤ b))) := by
  simp only [pf_in]
  rw [il_lt h1 h2 h3 h4, il_lt h5 h6 h1 h2]
  by_cases q : x < a
  · rw [if_pos q, decide_eq_false (show ¬ a ≤ x by omega)]; rfl
  · rw [if_neg q, decide_eq_true (show a ≤ x by omega)]
    by_cases q2 : b < x
    · rw [if_pos q2, decide_eq_false (show ¬ x ≤ b by omega)]; rfl
    · rw [if_neg q2, decide_eq_true (show x ≤ b by omega)]; rfl
theorem r_key (h : ∀ a, a < 10 → M.2 3 a = zB (hTn H a)) {a v : Nat} (ha : a < 10) (hv : v < 1000) : pf_key N (zI (a : Nat)) (zI (v : Nat)) M = some (zI (hKey H a v : Nat), M) := by
  simp only [pf_key]
  rw [gd_n ha (by omega), zI_cn (by omega), h a ha, il_B, zL_10, zI_div (by omega) (by omega) (by omega) (by omega)]
  unfold hKey
  cases hTn H a <;> rfl
theorem hKey_lt {a v : Nat} (hv : v < 1000) : hKey H a v < 1000 := by unfold hKey; split <;> omega
/-- the list without what goes -/
theorem filt_snoc {α : Type} {p : α → Bool} {l : List α} {i : Nat} {x : α} (h : l[i]? = some x) : (l.take (i + 1)).filter p = (l.take i).filter p ++ (if p x then [x] else []) := by
  obtain ⟨h1, h2⟩ := List.getElem?_eq_some_iff.mp h
  rw [List.take_succ_eq_append_getElem h1, List.filter_append, h2]
  congr 1
  rw [List.filter_cons]
  split <;> rfl
theorem r_drops_6 (hK : ∀ a, a < 10 → M.2 3 a = zB (hTn H a)) {vs : List (Nat × Nat × Nat)} (hv : ∀ x ∈ vs, vOk x) (hlen : vs.length ≤ 900) {e a v : Nat} {all : Bool} (he : e < 48) (ha : a < 10) (hvv : v < 1000) {k133 : Int32 → mS → Option (Int32 × mS)} : ∀ (n k i : Nat) (S : mS), i + k = vs.length → k < n → rfV M S → S.1 47 = zI (vs.length : Nat) → (∀ j x, i ≤ j → vs[j]? = some x → rAt S j x) → (∀ j x, ((vs.take i).filter (fun x => !vGoes H e a all v x))[j]? = some x → rAt S j x) → ∃ S', pf_drops_6 N k133 n (zI (e : Nat)) (zI (a : Nat)) (zB all) (zI (v : Nat)) (zI (((vs.take i).filter (fun x => !vGoes H e a all v x)).length : Nat)) (zI (i : Nat)) S = k133 (zI ((vDrop H vs e a all v).length : Nat)) S' ∧ rfV M S' ∧ (∀ j x, (vDrop H vs e a all v)[j]? = some x → rAt S' j x)
  | 0, k, i, S, hk, hn, _, _, _, _ => by omega
  | n + 1, k, i, S, hk, hn, hf, hS, h1, h2 => by
    simp only [pf_drops_6, pf_drops_68, pf_drops_124, nm_i, sv_i]
    rw [hS, il_le (by omega) (by omega) (by omega) (by omega)]
    cases k with
    | zero =>
      rw [if_pos (by omega)]
      have : vs.take i = vs := List.take_of_length_le (by omega)
      rw [this] at h2 ⊢
      exact ⟨S, rfl, hf, h2⟩
    | succ k =>
      have hi : i < vs.length := by omega
      have hx : vs[i]? = some vs[i] := List.getElem?_eq_getElem hi
      obtain ⟨x1, x2, x3⟩ := h1 i _ (Nat.le_refl _) hx
      obtain ⟨o1, o2, o3⟩ := hv _ (List.getElem_mem hi)
      have hwle : ((vs.take i).filter (fun x => !vGoes H e a all v x)).length ≤ i := by
        have := List.length_filter_le (fun x => !vGoes H e a all v x) (vs.take i)
        rw [List.length_take] at this
        omega
      have hsn := filt_snoc (p := fun x => !vGoes H e a all v x) hx
      generalize hw : ((vs.take i).filter (fun x => !vGoes H e a all v x)).length = w at hwle ⊢
      have hi9 : i < 900 := by omega
      have hw9 : w < 900 := by omega
      have hK2 : ∀ a, a < 10 → S.2 3 a = zB (hTn H a) := fun a ha => by rw [hf.2 3 (by omega)]; exact hK a ha
      rw [if_neg (by omega)]
      -- the state after the copy
      generalize hS3 : mA (mA (mA S 48 w (zI (vs[i].1 : Nat))) 49 w (zI (vs[i].2.1 : Nat))) 50 w (zI (vs[i].2.2 : Nat)) = S3
      have cp : ∀ (t0 : Int32), (gd (zI (i : Nat)) 900 <| gd (zI (w : Nat)) 900 <| gd (zI (i : Nat)) 900 <| gd (zI (w : Nat)) 900 <| gd (zI (i : Nat)) 900 <| gd (zI (w : Nat)) 900 <| (some t0)) = some t0 := fun t0 => by
        rw [gd_n hi9 (by omega), gd_n hw9 (by omega), gd_n hi9 (by omega), gd_n hw9 (by omega), gd_n hi9 (by omega), gd_n hw9 (by omega)]
      have e1 : ((mA S 48 w (S.2 48 i)).2 49 i) = zI (vs[i].2.1 : Nat) := by rw [mA_o _ _ _ (by omega)]; exact x2
      have e2 : ((mA (mA S 48 w (S.2 48 i)) 49 w (zI (vs[i].2.1 : Nat))).2 50 i) = zI (vs[i].2.2 : Nat) := by rw [mA_o _ _ _ (by omega), mA_o _ _ _ (by omega)]; exact x3
      have f3 : rfV M S3 := by
        rw [← hS3]
        refine ⟨hf.1, fun c hc => ?_⟩
        rw [mA_o _ _ _ (by omega), mA_o _ _ _ (by omega), mA_o _ _ _ (by omega)]
        exact hf.2 c hc
      have s3 : S3.1 47 = zI (vs.length : Nat) := by rw [← hS3]; exact hS
      have a3 : ∀ j x, rAt S j x → j ≠ w → rAt S3 j x := fun j x h hj => by
        rw [← hS3]
        unfold rAt
        rw [mA_o _ _ _ (by omega), mA_o _ _ _ (by omega), mA_s, upd_o _ _ hj, mA_o _ _ _ (by omega), mA_s, upd_o _ _ hj, mA_o _ _ _ (by omega), mA_s, upd_o _ _ hj, mA_o _ _ _ (by omega)]
        exact h
      have b3 : rAt S3 w vs[i] := by
        rw [← hS3]
        unfold rAt
        rw [mA_o _ _ _ (by omega), mA_o _ _ _ (by omega), mA_s, upd_s, mA_o _ _ _ (by omega), mA_s, upd_s, mA_s, upd_s]
        exact ⟨rfl, rfl, rfl⟩
      have h1' : ∀ j x, i + 1 ≤ j → vs[j]? = some x → rAt S3 j x := fun j x hj hx => a3 j x (h1 j x (by omega) hx) (by omega)
      have go : vGoes H e a all v vs[i] = true → ∃ S', pf_drops_6 N k133 n (zI (e : Nat)) (zI (a : Nat)) (zB all) (zI (v : Nat)) (zI (w : Nat)) (zI ((i + 1 : Nat) : Int)) S3 = k133 (zI ((vDrop H vs e a all v).length : Nat)) S' ∧ rfV M S' ∧ (∀ j x, (vDrop H vs e a all v)[j]? = some x → rAt S' j x) := fun hg => by
        rw [hg, Bool.not_true, if_neg (by decide), List.append_nil] at hsn
        have := r_drops_6 hK hv hlen he ha hvv (k133 := k133) (all := all) n k (i + 1) S3 (by omega) (by omega) f3 s3 h1' (fun j x hx => by
          rw [hsn] at hx
          have hj := (List.getElem?_eq_some_iff.mp hx).1
          exact a3 j x (h2 j x hx) (by omega))
        rw [hsn, hw] at this
        exact this
      have st : vGoes H e a all v vs[i] = false → ∃ S', pf_drops_6 N k133 n (zI (e : Nat)) (zI (a : Nat)) (zB all) (zI (v : Nat)) (zI ((w + 1 : Nat) : Int)) (zI ((i + 1 : Nat) : Int)) S3 = k133 (zI ((vDrop H vs e a all v).length : Nat)) S' ∧ rfV M S' ∧ (∀ j x, (vDrop H vs e a all v)[j]? = some x → rAt S' j x) := fun hg => by
        rw [hg, Bool.not_false, if_pos rfl] at hsn
        have := r_drops_6 hK hv hlen he ha hvv (k133 := k133) (all := all) n k (i + 1) S3 (by omega) (by omega) f3 s3 h1' (fun j x hx => by
          rw [hsn] at hx
          by_cases q : j = w
          · subst q
            rw [List.getElem?_append_right (by omega), hw, Nat.sub_self] at hx
            rw [← Option.some.inj hx]
            exact b3
          · have hj := (List.getElem?_eq_some_iff.mp hx).1
            rw [List.length_append, List.length_singleton, hw] at hj
            rw [List.getElem?_append_left (by omega)] at hx
            exact a3 j x (h2 j x hx) q)
        rw [hsn, List.length_append, List.length_singleton, hw] at this
        exact this
      have k1 := hKey_lt (H := H) (a := a) o3
      have k2 := hKey_lt (H := H) (a := a) hvv
      have o1' : vs[i].1 < 48 := o1
      have o2' : vs[i].2.1 < 10 := o2
      simp only [gd_n hi9 (show (900 : Nat) < 2147483648 by omega), gd_n hw9 (show (900 : Nat) < 2147483648 by omega), zI_cn (show i < 2147483648 by omega), zI_cn (show w < 2147483648 by omega)]
      have c1 : S.2 48 i = zI (vs[i].1 : Nat) := x1
      have eS : mA (mA (mA S 48 w (S.2 48 i)) 49 w ((mA S 48 w (S.2 48 i)).2 49 i)) 50 w ((mA (mA S 48 w (S.2 48 i)) 49 w ((mA S 48 w (S.2 48 i)).2 49 i)).2 50 i) = S3 := by
        rw [e1, e2, c1]; exact hS3
      rw [eS, zL_1, zI_add, zL_0]
      simp only [zI_add]
      rw [show (w : Int) + 0 = (w : Int) by omega, show (w : Int) + 1 = ((w + 1 : Nat) : Int) by omega, show (i : Int) + 1 = ((i + 1 : Nat) : Int) by omega]
      rw [x1, il_eq (by omega) (by omega) (by omega) (by omega)]
      by_cases q1 : vs[i].1 = e
      · rw [if_pos (show (vs[i].1 : Int) = (e : Int) by omega), x2, il_eq (by omega) (by omega) (by omega) (by omega)]
        by_cases q2 : vs[i].2.1 = a
        · rw [if_pos (show (vs[i].2.1 : Int) = (a : Int) by omega), ← zL_0, il_B]
          cases all with
          | false =>
            rw [if_neg (by decide), x3, r_key hK2 ha o3, bd_i, r_key hK2 ha hvv, bd_i, eS, il_eq (by omega) (by omega) (by omega) (by omega)]
            by_cases q3 : hKey H a vs[i].2.2 = hKey H a v
            · rw [if_pos (show (hKey H a vs[i].2.2 : Int) = (hKey H a v : Int) by omega), if_neg (by decide)]
              exact go (by unfold vGoes; simp [q1, q2, q3])
            · rw [if_neg (show ¬ (hKey H a vs[i].2.2 : Int) = (hKey H a v : Int) by omega), if_pos trivial]
              exact st (by unfold vGoes; simp [q3])
          | true =>
            rw [if_pos rfl, if_neg (by decide)]
            exact go (by unfold vGoes; simp [q1, q2])
        · rw [if_neg (show ¬ (vs[i].2.1 : Int) = (a : Int) by omega), if_pos trivial]
          exact st (by unfold vGoes; simp [q2])
      · rw [if_neg (show ¬ (vs[i].1 : Int) = (e : Int) by omega), if_pos trivial]
        exact st (by unfold vGoes; simp [q1])
theorem r_drops (hN : 901 ≤ N) (hK : ∀ a, a < 10 → M.2 3 a = zB (hTn H a)) {vs : List (Nat × Nat × Nat)} (R : rVs M vs) (hv : ∀ x ∈ vs, vOk x) {e a v : Nat} {all : Bool} (he : e < 48) (ha : a < 10) (hvv : v < 1000) : ∃ M', pf_drops N (zI (e : Nat)) (zI (a : Nat)) (zB all) (zI (v : Nat)) M = some ((0 : Int32), M') ∧ rVs M' (vDrop H vs e a all v) ∧ rfV M M' := by
  obtain ⟨r1, r2, r3⟩ := R
  obtain ⟨S', e1, f1, h1⟩ := r_drops_6 (M := M) (H := H) (N := N) (k133 := pf_drops_133 N) hK hv r2 he ha hvv (all := all) N vs.length 0 M (by omega) (by omega) rfV.rf r1 (fun j x _ h => r3 j x h) (fun j x h => by
    rw [List.take_zero] at h
    exact absurd h (by simp))
  refine ⟨mI S' 47 (zI ((vDrop H vs e a all v).length : Nat)), ?_, ⟨?_, ?_, fun j x h => h1 j x h⟩, ⟨fun q hq => ?_, f1.2⟩⟩
  · exact e1
  · rw [mI_1, upd_s]
  · exact Nat.le_trans vDrop_len r2
  · rw [mI_1, upd_o _ _ hq]; exact f1.1 q hq
theorem r_comes {vs : List (Nat × Nat × Nat)} (R : rVs M vs) (hl : vs.length < 900) {e a v : Nat} : ∃ M', pf_comes N (zI (e : Nat)) (zI (a : Nat)) (zI (v : Nat)) M = some ((0 : Int32), M') ∧ rVs M' (vs ++ [(e, a, v)]) ∧ rfV M M' := by
  obtain ⟨r1, r2, r3⟩ := R
  simp only [pf_comes, sv_i]
  rw [mA_1, mA_1, mA_1, r1]
  simp only [gd_n hl (show (900 : Nat) < 2147483648 by omega), zI_cn (show vs.length < 2147483648 by omega)]
  refine ⟨_, rfl, ⟨?_, ?_, fun j x h => ?_⟩, ⟨fun q hq => ?_, fun c hc => ?_⟩⟩
  · rw [mI_1, upd_s, mA_1, mA_1, mA_1, r1, zL_1, zI_add, List.length_append, List.length_singleton]; rfl
  · rw [List.length_append, List.length_singleton]; omega
  · unfold rAt
    rw [mI_2, mA_o _ _ _ (by omega), mA_o _ _ _ (by omega), mA_s, mA_o _ _ _ (by omega), mA_s, mA_s, mA_o _ _ _ (by omega), mA_o _ _ _ (by omega), mA_o _ _ _ (by omega)]
    by_cases q : j < vs.length
    · rw [List.getElem?_append_left q] at h
      rw [upd_o _ _ (by omega), upd_o _ _ (by omega), upd_o _ _ (by omega)]
      exact r3 j x h
    · have hj := (List.getElem?_eq_some_iff.mp h).1
      rw [List.length_append, List.length_singleton] at hj
      have : j = vs.length := by omega
      subst this
      rw [List.getElem?_append_right (Nat.le_refl _), Nat.sub_self] at h
      rw [← Option.some.inj h, upd_s, upd_s, upd_s]
      exact ⟨rfl, rfl, rfl⟩
  · rw [mI_1, upd_o _ _ hq]; rfl
  · rw [mI_2, mA_o _ _ _ (by omega), mA_o _ _ _ (by omega), mA_o _ _ _ (by omega)]
theorem r_takesValue (hN : 901 ≤ N) (hS : ∀ a, a < 10 → M.2 2 a = zB (hSg H a)) (hK : ∀ a, a < 10 → M.2 3 a = zB (hTn H a)) {vs : List (Nat × Nat × Nat)} (R : rVs M vs) (hv : ∀ x ∈ vs, vOk x) (hl : vs.length < 900) {e a v : Nat} (he : e < 48) (ha : a < 10) (hvv : v < 1000) : ∃ M', pf_takesValue N (zI (e : Nat)) (zI (a : Nat)) (zI (v : Nat)) M = some ((0 : Int32), M') ∧ rVs M' (vTake H vs e a v) ∧ rfV M M' := by
  simp only [pf_takesValue]
  rw [gd_n ha (by omega), zI_cn (by omega), hS a ha]
  obtain ⟨M1, e1, R1, f1⟩ := r_drops (N := N) (H := H) hN hK R hv he ha hvv (all := hSg H a)
  obtain ⟨M2, e2, R2, f2⟩ := r_comes (N := N) R1 (Nat.lt_of_le_of_lt vDrop_len hl) (e := e) (a := a) (v := v)
  rw [e1, bd_i, e2, bd_i]
  exact ⟨M2, rfl, R2, f1.trans f2⟩
end RV
