-- LEVEL 2, WHAT CALLS NEED; THE FIRST CALLS
/-- the class's answer and the reference's: alike, the kinds of exceptions by their places -/
def agr (a b c : Nat) (o : Int32 ⊕ Nat) (t v : Int32) : Prop := match o with
  | .inl u => t = 0 ∧ u = v
  | .inr k => (k = a ∧ t = 1) ∨ (k = b ∧ t = 2) ∨ (k = c ∧ t = 3)
section GU
variable {N : Nat} {S : kS} {W : sW}
theorem g_master {m : Nat} (hm : m < 4) : pX9_masterAt N (zI (m : Nat)) S = some (.inl m, S) := by
  simp only [pX9_masterAt]
  rw [zL_0, zL_4, il_lt (by omega) (by omega) (by omega) (by omega), if_neg (by omega), il_lt (by omega) (by omega) (by omega) (by omega), if_pos (by omega), gm_n hm]
theorem g_masterNo {x : Int} (h1 : -2147483648 ≤ x) (h2 : x < 2147483648) (h : ¬ (0 ≤ x ∧ x < 4)) : pX9_masterAt N (zI x) S = some (.inr 1, S) := by
  simp only [pX9_masterAt, pX9_masterAt_9]
  rw [zL_0, zL_4, il_lt h1 h2 (by omega) (by omega), il_lt h1 h2 (by omega) (by omega)]
  by_cases q : x < 0
  · rw [if_pos q]
  · rw [if_neg q, if_neg (by omega)]
theorem g_user {x : Int} (h1 : -2147483648 ≤ x) (h2 : x < 2147483648) : pX9_needUser N (zI x) S = if 0 ≤ x ∧ x < 6 then some (.inl (), S) else some (.inr 1, S) := by
  simp only [pX9_needUser, pX9_needUser_10]
  rw [zL_0, zL_6, il_lt h1 h2 (by omega) (by omega), il_lt h1 h2 (by omega) (by omega)]
  by_cases q : x < 0
  · rw [if_pos q, if_neg (by omega)]
  · rw [if_neg q]
    by_cases q2 : x < 6
    · rw [if_pos q2, if_pos (by omega)]
    · rw [if_neg q2, if_neg (by omega)]
theorem g_entry {t : Nat} {T : sT} (R : tOk S t T) {x : Int} (h1 : -2147483648 ≤ x) (h2 : x < 2147483648) : pX9_needEntry N t (zI x) S = if tLv T x = true then some (.inl (), S) else some (.inr 1, S) := by
  simp only [pX9_needEntry]
  rw [q_isLive R h1 h2, bk_i, il_B]
theorem g_changeable {t : Nat} {T : sT} (R : tOk S t T) {x : Int} (h1 : -2147483648 ≤ x) (h2 : x < 2147483648) : pX9_needChangeable N t (zI x) S = if x ≠ 0 ∧ tLv T x = true then some (.inl (), S) else some (.inr 1, S) := by
  simp only [pX9_needChangeable]
  rw [zL_0, il_eq h1 h2 (by omega) (by omega), g_entry R h1 h2]
  by_cases q : x = 0
  · rw [if_pos q, if_neg (fun h => h.1 q)]
  · rw [if_neg q]
    by_cases q2 : tLv T x = true
    · rw [if_pos q2, if_pos ⟨q, q2⟩, bx_l]
    · rw [if_neg q2, if_neg (fun h => q2 h.2), bx_r]
theorem g_attribute {H : sH} (hH : hR S H) (hw : hW H) {x : Int} (h1 : -2147483648 ≤ x) (h2 : x < 2147483648) : pX9_needAttribute N (zI x) S = if 0 ≤ x ∧ x < (hA H : Int) then some (.inl (), S) else some (.inr 1, S) := by
  have := hw.1
  simp only [pX9_needAttribute, pX9_needAttribute_15]
  rw [zL_0, il_lt h1 h2 (by omega) (by omega), hH.1, il_lt h1 h2 (by omega) (by omega)]
  by_cases q : x < 0
  · rw [if_pos q, if_neg (by omega)]
  · rw [if_neg q]
    by_cases q2 : x < (hA H : Int)
    · rw [if_pos q2, if_pos (by omega)]
    · rw [if_neg q2, if_neg (by omega)]
theorem g_class {H : sH} (hH : hR S H) (hw : hW H) {x : Int} (h1 : -2147483648 ≤ x) (h2 : x < 2147483648) : pX9_needClass N (zI x) S = if hIs H x = true then some (.inl (), S) else some (.inr 1, S) := by
  simp only [pX9_needClass]
  rw [q_isClass hH hw h1 h2, bk_i, il_B]
theorem g_scope {x : Int} (h1 : -2147483648 ≤ x) (h2 : x < 2147483648) : pX9_needScope N (zI x) S = if 0 ≤ x ∧ x < 3 then some (.inl (), S) else some (.inr 1, S) := by
  simp only [pX9_needScope, pX9_needScope_9]
  rw [zL_0, zL_3, il_lt h1 h2 (by omega) (by omega), il_lt h1 h2 (by omega) (by omega)]
  by_cases q : x < 0
  · rw [if_pos q, if_neg (by omega)]
  · rw [if_neg q]
    by_cases q2 : x < 3
    · rw [if_pos q2, if_pos (by omega)]
    · rw [if_neg q2, if_neg (by omega)]
theorem g_right {x : Int} (h1 : -2147483648 ≤ x) (h2 : x < 2147483648) : pX9_needRight N (zI x) S = if 0 ≤ x ∧ x < 2 then some (.inl (), S) else some (.inr 1, S) := by
  simp only [pX9_needRight, pX9_needRight_9]
  rw [zL_0, zL_2, il_lt h1 h2 (by omega) (by omega), il_lt h1 h2 (by omega) (by omega)]
  by_cases q : x < 0
  · rw [if_pos q, if_neg (by omega)]
  · rw [if_neg q]
    by_cases q2 : x < 2
    · rw [if_pos q2, if_pos (by omega)]
    · rw [if_neg q2, if_neg (by omega)]
theorem g_index {x : Int} (h1 : -2147483648 ≤ x) (h2 : x < 2147483648) : pX9_needIndex N (zI x) S = if 0 ≤ x then some (.inl (), S) else some (.inr 1, S) := by
  simp only [pX9_needIndex]
  rw [zL_0, il_le (by omega) (by omega) h1 h2]
theorem g_value {x : Int} (h1 : -2147483648 ≤ x) (h2 : x < 2147483648) : pX9_needValue N (zI x) S = if 0 ≤ x ∧ x < 1000 then some (.inl (), S) else some (.inr 2, S) := by
  simp only [pX9_needValue, pX9_needValue_11]
  rw [zL_0, zL_1000, il_lt h1 h2 (by omega) (by omega), il_lt h1 h2 (by omega) (by omega)]
  by_cases q : x < 0
  · rw [if_pos q, if_neg (by omega)]
  · rw [if_neg q]
    by_cases q2 : x < 1000
    · rw [if_pos q2, if_pos (by omega)]
    · rw [if_neg q2, if_neg (by omega)]
theorem g_name {x : Int} (h1 : -2147483648 ≤ x) (h2 : x < 2147483648) : pX9_needName N (zI x) S = if 0 ≤ x ∧ x < 100 then some (.inl (), S) else some (.inr 2, S) := by
  simp only [pX9_needName, pX9_needName_10]
  rw [zL_0, zL_100, il_lt h1 h2 (by omega) (by omega), il_lt h1 h2 (by omega) (by omega)]
  by_cases q : x < 0
  · rw [if_pos q, if_neg (by omega)]
  · rw [if_neg q]
    by_cases q2 : x < 100
    · rw [if_pos q2, if_pos (by omega)]
    · rw [if_neg q2, if_neg (by omega)]
theorem g_room {o : List Nat} (L : lgR S o) (hl : o.length ≤ 250) : pX9_needRoom N S = if o.length < 250 then some (.inl (), S) else some (.inr 3, S) := by
  simp only [pX9_needRoom]
  rw [q_logSize L, bk_i, zL_250, il_lt (by omega) (by omega) (by omega) (by omega)]
  by_cases q : o.length < 250
  · rw [if_pos (by omega), if_pos q]
  · rw [if_neg (by omega), if_neg q]
theorem g_need {b : Bool} : pX9_need N (zB b) S = if b = true then some (.inl (), S) else some (.inr 3, S) := by
  simp only [pX9_need]
  rw [il_B]
theorem g_write (hN : 900 ≤ N) (h : wOk W) (R : kRel S W) {m : Nat} (hm : m < 4) {x : Int} (h1 : -2 ≤ x) (h2 : x < 48) : pX9_needWrite N m (zI x) S = if tMay (wH W) (wTr W m) (wU W m) x 1 = true then some (.inl (), S) else some (.inr 3, S) := by
  have hu := h.2.2.2.2.2.1 m hm
  simp only [pX9_needWrite]
  have e := q_grants (N := N) (kRel_t h R hm) R.1 hN hu (what := 1) (by omega) h1 h2
  have e : pX8_grants N m (zI (wU W m : Nat)) (zI x) 1 S = _ := e
  rw [R.2.2.2.2.2.2.1 m hm, e, bk_i, il_B]
theorem g_free (hN : 48 ≤ N) {t : Nat} {T : sT} (R : tOk S t T) {place name but : Int} (h1 : -3 ≤ place) (h2 : place < 1000) (h3 : -1 ≤ name) (h4 : name < 1000) (h5 : -1 ≤ but) (h6 : but < 1000) : pX9_needFreeName N t (zI place) (zI name) (zI but) S = if tShd T place name but = true then some (.inr 3, S) else some (.inl (), S) := by
  simp only [pX9_needFreeName]
  rw [q_isShown R hN h1 h2 h3 h4 h5 h6, bk_i, il_B]
end GU
