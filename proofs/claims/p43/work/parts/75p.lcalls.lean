-- LEVEL 2, THE LAW: WHAT CALLS TELL; THE STATE BEHIND A CHANGE
def kAns (A : Option ((Int32 ⊕ Nat) × kS)) (r : Int) (W : sW) : Prop := ∃ S', (A = some (.inl (zI r), S') ∨ (A = some (.inr 1, S') ∧ r = -9) ∨ (A = some (.inr 3, S') ∧ r = -7)) ∧ wOk W ∧ kRel S' W
theorem ans_ok {A : Option ((Int32 ⊕ Nat) × kS)} {v : Int} {W : sW} (h : kOk A v W) : kAns A v W := by
  obtain ⟨S', a, b, c⟩ := h
  exact ⟨S', Or.inl a, b, c⟩
theorem ans_1 {A : Option ((Int32 ⊕ Nat) × kS)} {W : sW} (h : kNo A 1 W) : kAns A (-9) W := by
  obtain ⟨S', a, b, c⟩ := h
  exact ⟨S', Or.inr (Or.inl ⟨a, rfl⟩), b, c⟩
theorem ans_3 {A : Option ((Int32 ⊕ Nat) × kS)} {W : sW} (h : kNo A 3 W) : kAns A (-7) W := by
  obtain ⟨S', a, b, c⟩ := h
  exact ⟨S', Or.inr (Or.inr ⟨a, rfl⟩), b, c⟩
section LC
variable {N : Nat} {S : kS} {L : lS}
def lAns (o : Option (Int32 × kS × lS)) (r : Int) (L : lS) (W : sW) : Prop := ∃ S', o = some (zI r, S', L) ∧ wOk W ∧ kRel S' W
theorem lre_i {α : Type} {MC MS C D : Nat} {v : α} {S : kS} {L : lS} (h : C ≤ MC ∧ D ≤ MS) : lre MC MS C D v S L = some (v, S, L) := if_pos h
theorem lbt_ans {A : Option ((Int32 ⊕ Nat) × kS)} {r : Int} {W : sW} {mc ms MC MS : Nat} (h : kAns A r W) (h1 : mc ≤ MC ∧ ms ≤ MS) : lAns (lbt mc ms MC MS 0 0 A (fun v S C D => lre MC MS C D v S L) (fun j S => lEx L j S)) r L W := by
  obtain ⟨S', q, w, k⟩ := h
  refine ⟨S', ?_, w, k⟩
  unfold lbt
  rw [if_pos (by omega)]
  rcases q with q | ⟨q, e⟩ | ⟨q, e⟩
  · rw [q]
    exact lre_i (by omega)
  · rw [q, e]; rfl
  · rw [q, e]; rfl
theorem lc_0 {a b c d : Int32} {r : Int} {W : sW} (h : kAns (pX9_add N a b c d S) r W) : lAns (pL_calls N (0 : Int32) a b c d S L) r L W := by
  unfold pL_calls
  rw [if_pos (show (0 : Int32) = 0 from rfl)]
  exact lbt_ans h (by omega)
theorem lc_1 {a b c d : Int32} {r : Int} {W : sW} (h : kAns (pX9_addValue N a b c d S) r W) : lAns (pL_calls N (1 : Int32) a b c d S L) r L W := by
  unfold pL_calls
  rw [if_neg (show ¬ (1 : Int32) = 0 by decide), if_pos (show (1 : Int32) = 1 from rfl)]
  exact lbt_ans h (by omega)
theorem lc_2 {a b c d : Int32} {r : Int} {W : sW} (h : kAns (pX9_removeValue N a b c d S) r W) : lAns (pL_calls N (2 : Int32) a b c d S L) r L W := by
  unfold pL_calls
  rw [if_neg (show ¬ (2 : Int32) = 0 by decide), if_neg (show ¬ (2 : Int32) = 1 by decide), if_pos (show (2 : Int32) = 2 from rfl)]
  exact lbt_ans h (by omega)
theorem lc_3 {a b c d : Int32} {r : Int} {W : sW} (h : kAns (pX9_replace N a b c d S) r W) : lAns (pL_calls N (3 : Int32) a b c d S L) r L W := by
  unfold pL_calls
  rw [if_neg (show ¬ (3 : Int32) = 0 by decide), if_neg (show ¬ (3 : Int32) = 1 by decide), if_neg (show ¬ (3 : Int32) = 2 by decide), if_pos (show (3 : Int32) = 3 from rfl)]
  exact lbt_ans h (by omega)
theorem lc_4 {a b c d : Int32} {r : Int} {W : sW} (h : kAns (pX9_rename N a b c S) r W) : lAns (pL_calls N (4 : Int32) a b c d S L) r L W := by
  unfold pL_calls
  rw [if_neg (show ¬ (4 : Int32) = 0 by decide), if_neg (show ¬ (4 : Int32) = 1 by decide), if_neg (show ¬ (4 : Int32) = 2 by decide), if_neg (show ¬ (4 : Int32) = 3 by decide), if_pos (show (4 : Int32) = 4 from rfl)]
  exact lbt_ans h (by omega)
theorem lc_5 {a b c d : Int32} {r : Int} {W : sW} (h : kAns (pX9_link N a b c S) r W) : lAns (pL_calls N (5 : Int32) a b c d S L) r L W := by
  unfold pL_calls
  rw [if_neg (show ¬ (5 : Int32) = 0 by decide), if_neg (show ¬ (5 : Int32) = 1 by decide), if_neg (show ¬ (5 : Int32) = 2 by decide), if_neg (show ¬ (5 : Int32) = 3 by decide), if_neg (show ¬ (5 : Int32) = 4 by decide), if_pos (show (5 : Int32) = 5 from rfl)]
  exact lbt_ans h (by omega)
theorem lc_7 {a b c d : Int32} {r : Int} {W : sW} (h : kAns (pX9_move N a b c S) r W) : lAns (pL_calls N (7 : Int32) a b c d S L) r L W := by
  unfold pL_calls
  rw [if_neg (show ¬ (7 : Int32) = 0 by decide), if_neg (show ¬ (7 : Int32) = 1 by decide), if_neg (show ¬ (7 : Int32) = 2 by decide), if_neg (show ¬ (7 : Int32) = 3 by decide), if_neg (show ¬ (7 : Int32) = 4 by decide), if_neg (show ¬ (7 : Int32) = 5 by decide), if_pos (show (7 : Int32) = 7 from rfl)]
  exact lbt_ans h (by omega)
theorem lc_8 {a b c d : Int32} {r : Int} {W : sW} (h : kAns (pX9_delete N a b S) r W) : lAns (pL_calls N (8 : Int32) a b c d S L) r L W := by
  unfold pL_calls
  rw [if_neg (show ¬ (8 : Int32) = 0 by decide), if_neg (show ¬ (8 : Int32) = 1 by decide), if_neg (show ¬ (8 : Int32) = 2 by decide), if_neg (show ¬ (8 : Int32) = 3 by decide), if_neg (show ¬ (8 : Int32) = 4 by decide), if_neg (show ¬ (8 : Int32) = 5 by decide), if_neg (show ¬ (8 : Int32) = 7 by decide), if_pos (show (8 : Int32) = 8 from rfl)]
  exact lbt_ans h (by omega)
theorem lc_9 {a b c d : Int32} {r : Int} {W : sW} (h : kAns (pX9_parentOf N a b S) r W) : lAns (pL_calls N (9 : Int32) a b c d S L) r L W := by
  unfold pL_calls
  rw [if_neg (show ¬ (9 : Int32) = 0 by decide), if_neg (show ¬ (9 : Int32) = 1 by decide), if_neg (show ¬ (9 : Int32) = 2 by decide), if_neg (show ¬ (9 : Int32) = 3 by decide), if_neg (show ¬ (9 : Int32) = 4 by decide), if_neg (show ¬ (9 : Int32) = 5 by decide), if_neg (show ¬ (9 : Int32) = 7 by decide), if_neg (show ¬ (9 : Int32) = 8 by decide), if_pos (show (9 : Int32) = 9 from rfl)]
  exact lbt_ans h (by omega)
theorem lc_10 {a b c d : Int32} {r : Int} {W : sW} (h : kAns (pX9_search N a b c S) r W) : lAns (pL_calls N (10 : Int32) a b c d S L) r L W := by
  unfold pL_calls
  rw [if_neg (show ¬ (10 : Int32) = 0 by decide), if_neg (show ¬ (10 : Int32) = 1 by decide), if_neg (show ¬ (10 : Int32) = 2 by decide), if_neg (show ¬ (10 : Int32) = 3 by decide), if_neg (show ¬ (10 : Int32) = 4 by decide), if_neg (show ¬ (10 : Int32) = 5 by decide), if_neg (show ¬ (10 : Int32) = 7 by decide), if_neg (show ¬ (10 : Int32) = 8 by decide), if_neg (show ¬ (10 : Int32) = 9 by decide), if_pos (show (10 : Int32) = 10 from rfl)]
  exact lbt_ans h (by omega)
theorem lc_11 {a b c d : Int32} {r : Int} {W : sW} (h : kAns (pX9_follow N a b c S) r W) : lAns (pL_calls N (11 : Int32) a b c d S L) r L W := by
  unfold pL_calls
  rw [if_neg (show ¬ (11 : Int32) = 0 by decide), if_neg (show ¬ (11 : Int32) = 1 by decide), if_neg (show ¬ (11 : Int32) = 2 by decide), if_neg (show ¬ (11 : Int32) = 3 by decide), if_neg (show ¬ (11 : Int32) = 4 by decide), if_neg (show ¬ (11 : Int32) = 5 by decide), if_neg (show ¬ (11 : Int32) = 7 by decide), if_neg (show ¬ (11 : Int32) = 8 by decide), if_neg (show ¬ (11 : Int32) = 9 by decide), if_neg (show ¬ (11 : Int32) = 10 by decide), if_pos (show (11 : Int32) = 11 from rfl)]
  exact lbt_ans h (by omega)
theorem lc_12 {a b c d : Int32} {r : Int} {W : sW} (h : kAns (pX9_searchByWalk N a b c S) r W) : lAns (pL_calls N (12 : Int32) a b c d S L) r L W := by
  unfold pL_calls
  rw [if_neg (show ¬ (12 : Int32) = 0 by decide), if_neg (show ¬ (12 : Int32) = 1 by decide), if_neg (show ¬ (12 : Int32) = 2 by decide), if_neg (show ¬ (12 : Int32) = 3 by decide), if_neg (show ¬ (12 : Int32) = 4 by decide), if_neg (show ¬ (12 : Int32) = 5 by decide), if_neg (show ¬ (12 : Int32) = 7 by decide), if_neg (show ¬ (12 : Int32) = 8 by decide), if_neg (show ¬ (12 : Int32) = 9 by decide), if_neg (show ¬ (12 : Int32) = 10 by decide), if_neg (show ¬ (12 : Int32) = 11 by decide), if_pos (show (12 : Int32) = 12 from rfl)]
  exact lbt_ans h (by omega)
theorem lc_13 {a b c d : Int32} {r : Int} {W : sW} (h : kAns (pX9_found N a S) r W) : lAns (pL_calls N (13 : Int32) a b c d S L) r L W := by
  unfold pL_calls
  rw [if_neg (show ¬ (13 : Int32) = 0 by decide), if_neg (show ¬ (13 : Int32) = 1 by decide), if_neg (show ¬ (13 : Int32) = 2 by decide), if_neg (show ¬ (13 : Int32) = 3 by decide), if_neg (show ¬ (13 : Int32) = 4 by decide), if_neg (show ¬ (13 : Int32) = 5 by decide), if_neg (show ¬ (13 : Int32) = 7 by decide), if_neg (show ¬ (13 : Int32) = 8 by decide), if_neg (show ¬ (13 : Int32) = 9 by decide), if_neg (show ¬ (13 : Int32) = 10 by decide), if_neg (show ¬ (13 : Int32) = 11 by decide), if_neg (show ¬ (13 : Int32) = 12 by decide)]
  exact lbt_ans h (by omega)
theorem lc_rules {a b c d e f : Int32} {r : Int} {W : sW} (h : kAns (pX9_rule N a b c d e f S) r W) : lAns (pL_rules N a b c d e f S L) r L W := by
  unfold pL_rules
  exact lbt_ans h (by omega)
theorem lc_v {kk : Nat} {a b c d : Int32} {r : Int} {W : sW} (hk : 1 ≤ kk ∧ kk ≤ 3) (h1 : kk = 1 → kAns (pX9_addValue N a b c d S) r W) (h2 : kk = 2 → kAns (pX9_removeValue N a b c d S) r W) (h3 : kk = 3 → kAns (pX9_replace N a b c d S) r W) : lAns (pL_calls N (zI (kk : Nat)) a b c d S L) r L W := by
  rcases (show kk = 1 ∨ kk = 2 ∨ kk = 3 by omega) with rfl | rfl | rfl
  · exact lc_1 (h1 rfl)
  · exact lc_2 (h2 rfl)
  · exact lc_3 (h3 rfl)
theorem zlB_1 {MC MS C D : Nat} (h : C ≤ MC ∧ D ≤ MS) : zlB MC MS C D (1 : Int32) S L = some (zB true, S, L) := by
  unfold zlB
  rw [if_pos (show vp_nar .boolean (1 : Int32) = 1 by decide), lre_i h]
  rfl
theorem lbb_i {α β : Type} {mc ms MC MS C D : Nat} {v : α} {S : kS} {L : lS} {k : α → kS → lS → Nat → Nat → Option β} (h : C + mc ≤ MC ∧ D + ms ≤ MS) : lbb mc ms MC MS C D (some (v, S, L)) k = k v S L (C + mc) (D + ms) := if_pos h
theorem lbx_i {α β : Type} {mc ms MC MS C D : Nat} {v : α} {S : kS} {k : α → kS → Nat → Nat → Option β} (h : C + mc ≤ MC ∧ D + ms ≤ MS) : lbx mc ms MC MS C D (some (.inl v, S)) k = k v S (C + mc) (D + ms) := if_pos h
theorem lbm_i {β : Type} {v : Int32} {S : kS} {k : Int32 → kS → Option β} : lbm (some (v, S)) k = k v S := rfl
/-- one turn's share is in order -/
def lGo (o : Option (Int32 × kS × lS)) : Prop := ∃ S' L' W', o = some (zB true, S', L') ∧ lOk W' ∧ kRel S' W' ∧ lRel L' W'
theorem lGo_tail {mc ms : Nat} {o : Option (Int32 × kS × lS)} {r : Int} {W : sW} {x : Int32} (h : lAns o r L W) (hx : x = zI r) (hO : lOk W) (hR : lRel L W) : lGo (lbb mc ms mc ms 0 0 o (fun v S L C D => if v = x then zlB mc ms C D (1 : Int32) S L else zlB mc ms C D (0 : Int32) S L)) := by
  obtain ⟨S', e, w, k⟩ := h
  refine ⟨S', L, W, ?_, hO, k, hR⟩
  rw [e, lbb_i (by omega), if_pos hx.symm, zlB_1 (by omega)]
end LC
-- the state behind a change keeps the law's room
section LO2
variable {W : sW} {m : Nat} {c : sCh}
theorem gLo_nx (h : lOk W) (hm : m < 4) (c0 : mkOk (wH W) (wC W) (wN W) (wE W) m (wO W) (wT W) c) (hlt : (cK c ≠ 0 ∧ tTh (wTr W m) (cE c) = true) ∨ cE c = wE W) : gLo (upf (wC W) (wN W) c) (ins (wO W) (plc (wC W) (wO W) (cR c)) (wN W)) := by
  have hgl := h.2.2.2.2.2.2.2
  obtain ⟨-, -, -, gc, -⟩ := id h.1
  obtain ⟨ar, g4⟩ := gc.2.2.2.1
  have hin : ∀ k ∈ wO W, upf (wC W) (wN W) c k = wC W k := fun k hk => upf_o _ _ (Nat.ne_of_lt (wO_in h.1 hk))
  have hE : ∀ k ∈ wO W, cE (wC W k) < wE W := fun k hk => (gc.2.2.2.2.2.1 k (wO_in h.1 hk)).1
  have hfresh : cE c = wE W → ∀ k ∈ wO W, cE (wC W k) ≠ cE c := fun e k hk => by have := hE k hk; omega
  obtain ⟨p1, p2⟩ := plc_lt (r := cR c) g4.1
  unfold gLo ins
  have hsplit : (wO W).take (plc (wC W) (wO W) (cR c)) ++ (wO W).drop (plc (wC W) (wO W) (cR c)) = wO W := List.take_append_drop _ _
  have hgl2 := hgl
  unfold gLo at hgl2
  rw [← hsplit, List.pairwise_append] at hgl2
  obtain ⟨a1, a2, a3⟩ := hgl2
  rw [List.pairwise_append, List.pairwise_cons]
  refine ⟨a1.imp_of_mem (fun {a b} ha hb q => ?_), ⟨fun b hb q => ?_, a2.imp_of_mem (fun {a b} ha hb q => ?_)⟩, fun a ha b hb q => ?_⟩
  · rw [hin a (List.mem_of_mem_take ha), hin b (List.mem_of_mem_take hb)]
    exact q
  · have hbO := List.mem_of_mem_drop hb
    rw [hin b hbO] at q ⊢
    rw [upf_s]
    rcases hlt with ⟨hk, ht⟩ | hf
    · intro e
      have hb1 := (wC_ok h.1 (wO_in h.1 hbO)).2.2.2.2.2.1 q
      obtain ⟨k, k1, k2, k3, -⟩ := rpl_bn (H := wH W) (cs := wC W) (e := cE c) (lkn W m) ht (by omega)
      have kO : k ∈ wO W := knl_sub.subset k1
      have hkb : k = b := gc.2.2.2.2.2.2.1 k b (wO_in h.1 kO) (wO_in h.1 hbO) k2 q (by omega)
      have hg : gotB (wT W m) m (wC W k) = true := (List.mem_filter.mp k1).2
      have := mk_rank hm gc c0 (wO_in h.1 kO) hg
      rw [hkb] at this
      exact p2 b hb this
    · exact fun e => hfresh hf b hbO e.symm
  · rw [hin a (List.mem_of_mem_drop ha), hin b (List.mem_of_mem_drop hb)]
    exact q
  · have haO := List.mem_of_mem_take ha
    rw [hin a haO]
    rcases List.mem_cons.mp hb with g | g
    · rw [g, upf_s] at q ⊢
      rcases hlt with ⟨hk, -⟩ | hf
      · exact absurd q hk
      · exact hfresh hf a haO
    · rw [hin b (List.mem_of_mem_drop g)] at q ⊢
      exact a3 a ha b g q
theorem lOk_nx (h : lOk W) (hm : m < 4) (hn : wN W < 40) (hw : wOk (wNx W m c)) (c0 : mkOk (wH W) (wC W) (wN W) (wE W) m (wO W) (wT W) c) (hl : lcOk c) (hlt : cK c ≠ 0 ∧ tTh (wTr W m) (cE c) = true) : lOk (wNx W m c) := by
  have hg := gLo_nx h hm c0 (Or.inl hlt)
  obtain ⟨-, h2, h3, h4, h5, h6, h7, h8⟩ := h
  refine ⟨hw, h2, h3, by show wN W + 1 ≤ 40; omega, h5, h6, fun k hk => ?_, hg⟩
  show lcOk (upf (wC W) (wN W) c k)
  by_cases g : k = wN W
  · rw [g, upf_s]; exact hl
  · rw [upf_o _ _ g]
    have hk : k < wN W + 1 := hk
    exact h7 k (by omega)
theorem lOk_ad (h : lOk W) (hm : m < 4) (hn : wN W < 40) (hE : wE W < 12) (hw : wOk (wAd W m c)) (c0 : mkOk (wH W) (wC W) (wN W) (wE W) m (wO W) (wT W) c) (hl : lcOk c) (hf : cE c = wE W) : lOk (wAd W m c) := by
  have hg := gLo_nx h hm c0 (Or.inr hf)
  obtain ⟨-, h2, h3, h4, h5, h6, h7, h8⟩ := h
  refine ⟨hw, h2, by show wE W + 1 ≤ 12; omega, by show wN W + 1 ≤ 40; omega, h5, ⟨Nat.zero_le _, fun x hx => absurd hx List.not_mem_nil⟩, fun k hk => ?_, hg⟩
  show lcOk (upf (wC W) (wN W) c k)
  by_cases g : k = wN W
  · rw [g, upf_s]; exact hl
  · rw [upf_o _ _ g]
    have hk : k < wN W + 1 := hk
    exact h7 k (by omega)
end LO2
