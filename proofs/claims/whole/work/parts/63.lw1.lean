-- ===== law's attribute =====
theorem fL_attribute : lFn yX9_attribute cX9_attribute 3 (some .int) 2 7 := ⟨kT_154, kT_155, kT_156, kC_460, rfl, ⟨by decide +kernel, by decide +kernel, by decide +kernel⟩, by decide⟩
set_option maxRecDepth 100000 in
set_option maxHeartbeats 4000000 in
theorem w_attribute (l : Launch) (hlt : l.stackTraces = false) (N : Nat) (x1 : Int32) (x2 : Int32) : lMet l yL_attribute cL_attribute 5 [(0, 10, 13, 13)] 7 1 6 [.int x1, .int x2] (fun S F => lPg lZi (lE1 3) (pX9_attribute N x1 x2 S) F) := by
  refine l_start (by decide +kernel) rfl (fun g o => [(0, .ref (g.2.1 0)), (1, .int x1), (2, .int x2), (3, .ref o)]) (fun _ _ => Nat.le_of_ble_eq_true rfl) (fun _ _ => rfl) ?_
  intro dC dI g sz S o F r S' F' hpf p e s m args below meth c X htb ls hl
  have hx := X.1
  have hb := X.2.1
  obtain ⟨w, hf, hk⟩ := lPg_some hpf
  refine lv_aload_n hx hb dL_attribute_0 rfl (lv_at hl 3 rfl) ?_
  refine lv_iconst (v := (0 : Int32)) hx hb dL_attribute_1 rfl ?_
  refine lv_aload_n hx hb dL_attribute_2 rfl (lv_at hl 0 rfl) ?_
  refine lv_iload_n hx hb dL_attribute_3 rfl (lv_at hl 1 rfl) ?_
  refine lv_iload_n hx hb dL_attribute_4 rfl (lv_at hl 2 rfl) ?_
  refine l_call (d := 7) (rest := [.int 0, .ref o]) (As := [.int x1, .int x2]) X fL_attribute (c_X9_attribute l hlt N x1 x2) (by decide) ⟨Nat.le_refl _, Nat.le_refl _⟩ 5 dL_attribute_5 rfl hl.1 ⟨Nat.le_refl _, Nat.le_refl _⟩ hf rfl (Nat.le_of_ble_eq_true rfl) (fun v hw cc2 cd2 ce2 H1 locs1 V => ?_) (fun k hw cc2 cd2 ce2 H1 locs1 q ce9 V hcell hv hcl => ?_)
  · rcases hk with ⟨v2, hw2, rfl, rfl⟩ | ⟨k2, hw2, -, -⟩
    · cases Sum.inl.inj (hw.symm.trans hw2)
      refine lv_i2l hx hb dL_attribute_8 rfl ?_
      exact l_tail (tgt := 17) X V 9 dL_attribute_9 dL_attribute_10 (by decide) dL_attribute_17 dL_attribute_18
    · cases hw.symm.trans hw2
  · rcases hk with ⟨v2, hw2, -, -⟩ | ⟨k2, hw2, he, rfl⟩
    · cases hw.symm.trans hw2
    · cases Sum.inr.inj (hw.symm.trans hw2)
      obtain ⟨rfl, rfl⟩ := lE1_some he
      refine l_catch (k := 3) (pre := []) (suf := []) (h := 13) (a := 0) (b := 10) X V htb (by decide) rfl (fun z hz => absurd hz List.not_mem_nil) (by decide) hcell hv hcl ?_
      refine lv_astore hx hb dL_attribute_13 hl (by decide) rfl (fun ls hl => ?_)
      refine lv_iconst (v := (1 : Int32)) hx hb dL_attribute_15 rfl ?_
      exact l_ret X V 16 dL_attribute_16
-- ===== law's objectClass =====
theorem fL_objectClass : lFn yX9_objectClass cX9_objectClass 4 (some .int) 3 15 := ⟨kT_3, kT_4, kT_5, kC_482, rfl, ⟨by decide +kernel, by decide +kernel, by decide +kernel⟩, by decide⟩
set_option maxRecDepth 100000 in
set_option maxHeartbeats 4000000 in
theorem w_objectClass (l : Launch) (hlt : l.stackTraces = false) (N : Nat) (x1 : Int32) (x2 : Int32) (x3 : Int32) : lMet l yL_objectClass cL_objectClass 6 [(0, 12, 15, 19), (0, 12, 19, 13)] 8 2 12 [.int x1, .int x2, .int x3] (fun S F => lPg lZi (lE2 1 3) (pX9_objectClass N x1 x2 x3 S) F) := by
  refine l_start (by decide +kernel) rfl (fun g o => [(0, .ref (g.2.1 0)), (1, .int x1), (2, .int x2), (3, .int x3), (4, .ref o)]) (fun _ _ => Nat.le_of_ble_eq_true rfl) (fun _ _ => rfl) ?_
  intro dC dI g sz S o F r S' F' hpf p e s m args below meth c X htb ls hl
  have hx := X.1
  have hb := X.2.1
  obtain ⟨w, hf, hk⟩ := lPg_some hpf
  refine lv_aload hx hb dL_objectClass_0 (lv_at hl 4 rfl) ?_
  refine lv_iconst (v := (0 : Int32)) hx hb dL_objectClass_2 rfl ?_
  refine lv_aload_n hx hb dL_objectClass_3 rfl (lv_at hl 0 rfl) ?_
  refine lv_iload_n hx hb dL_objectClass_4 rfl (lv_at hl 1 rfl) ?_
  refine lv_iload_n hx hb dL_objectClass_5 rfl (lv_at hl 2 rfl) ?_
  refine lv_iload_n hx hb dL_objectClass_6 rfl (lv_at hl 3 rfl) ?_
  refine l_call (d := 8) (rest := [.int 0, .ref o]) (As := [.int x1, .int x2, .int x3]) X fL_objectClass (c_X9_objectClass l hlt N x1 x2 x3) (by decide) ⟨Nat.le_refl _, Nat.le_refl _⟩ 7 dL_objectClass_7 rfl hl.1 ⟨Nat.le_refl _, Nat.le_refl _⟩ hf rfl (Nat.le_of_ble_eq_true rfl) (fun v hw cc2 cd2 ce2 H1 locs1 V => ?_) (fun k hw cc2 cd2 ce2 H1 locs1 q ce9 V hcell hv hcl => ?_)
  · rcases hk with ⟨v2, hw2, rfl, rfl⟩ | ⟨k2, hw2, -, -⟩
    · cases Sum.inl.inj (hw.symm.trans hw2)
      refine lv_i2l hx hb dL_objectClass_10 rfl ?_
      exact l_tail (tgt := 23) X V 11 dL_objectClass_11 dL_objectClass_12 (by decide) dL_objectClass_23 dL_objectClass_24
    · cases hw.symm.trans hw2
  · rcases hk with ⟨v2, hw2, -, -⟩ | ⟨k2, hw2, he, rfl⟩
    · cases hw.symm.trans hw2
    · cases Sum.inr.inj (hw.symm.trans hw2)
      rcases lE2_some he with ⟨rfl, rfl⟩ | ⟨rfl, rfl⟩
      · refine l_catch (k := 1) (pre := []) (suf := [(0, 12, 19, 13)]) (h := 15) (a := 0) (b := 12) X V htb (by decide) rfl (fun z hz => absurd hz List.not_mem_nil) (by decide) hcell hv hcl ?_
        refine lv_astore hx hb dL_objectClass_15 hl (by decide) rfl (fun ls hl => ?_)
        refine lv_iconst (v := (1 : Int32)) hx hb dL_objectClass_17 rfl ?_
        exact l_ret X V 18 dL_objectClass_18
      · refine l_catch (k := 3) (pre := [(0, 12, 15, 19)]) (suf := []) (h := 19) (a := 0) (b := 12) X V htb (by decide) rfl (fun z hz => by
            simp only [List.mem_cons, List.not_mem_nil, or_false] at hz
            subst hz
            exact ⟨1, by decide, by decide, rfl⟩) (by decide) hcell hv hcl ?_
        refine lv_astore hx hb dL_objectClass_19 hl (by decide) rfl (fun ls hl => ?_)
        refine lv_iconst (v := (2 : Int32)) hx hb dL_objectClass_21 rfl ?_
        exact l_ret X V 22 dL_objectClass_22
-- ===== law's serve =====
theorem fL_serve : lFn yX9_serve cX9_serve 5 (some .int) 2 21 := ⟨kT_170, kT_171, kT_172, kC_485, rfl, ⟨by decide +kernel, by decide +kernel, by decide +kernel⟩, by decide⟩
set_option maxRecDepth 100000 in
set_option maxHeartbeats 4000000 in
theorem w_serve (l : Launch) (hlt : l.stackTraces = false) (N : Nat) (x1 : Int32) (x2 : Int32) : lMet l yL_serve cL_serve 5 [(0, 10, 13, 19)] 8 2 12 [.int x1, .int x2] (fun S F => lPg lZi (lE1 1) (pX9_serve N x1 x2 S) F) := by
  refine l_start (by decide +kernel) rfl (fun g o => [(0, .ref (g.2.1 0)), (1, .int x1), (2, .int x2), (3, .ref o)]) (fun _ _ => Nat.le_of_ble_eq_true rfl) (fun _ _ => rfl) ?_
  intro dC dI g sz S o F r S' F' hpf p e s m args below meth c X htb ls hl
  have hx := X.1
  have hb := X.2.1
  obtain ⟨w, hf, hk⟩ := lPg_some hpf
  refine lv_aload_n hx hb dL_serve_0 rfl (lv_at hl 3 rfl) ?_
  refine lv_iconst (v := (0 : Int32)) hx hb dL_serve_1 rfl ?_
  refine lv_aload_n hx hb dL_serve_2 rfl (lv_at hl 0 rfl) ?_
  refine lv_iload_n hx hb dL_serve_3 rfl (lv_at hl 1 rfl) ?_
  refine lv_iload_n hx hb dL_serve_4 rfl (lv_at hl 2 rfl) ?_
  refine l_call (d := 8) (rest := [.int 0, .ref o]) (As := [.int x1, .int x2]) X fL_serve (c_X9_serve l hlt N x1 x2) (by decide) ⟨Nat.le_refl _, Nat.le_refl _⟩ 5 dL_serve_5 rfl hl.1 ⟨Nat.le_refl _, Nat.le_refl _⟩ hf rfl (Nat.le_of_ble_eq_true rfl) (fun v hw cc2 cd2 ce2 H1 locs1 V => ?_) (fun k hw cc2 cd2 ce2 H1 locs1 q ce9 V hcell hv hcl => ?_)
  · rcases hk with ⟨v2, hw2, rfl, rfl⟩ | ⟨k2, hw2, -, -⟩
    · cases Sum.inl.inj (hw.symm.trans hw2)
      refine lv_i2l hx hb dL_serve_8 rfl ?_
      exact l_tail (tgt := 17) X V 9 dL_serve_9 dL_serve_10 (by decide) dL_serve_17 dL_serve_18
    · cases hw.symm.trans hw2
  · rcases hk with ⟨v2, hw2, -, -⟩ | ⟨k2, hw2, he, rfl⟩
    · cases hw.symm.trans hw2
    · cases Sum.inr.inj (hw.symm.trans hw2)
      obtain ⟨rfl, rfl⟩ := lE1_some he
      refine l_catch (k := 1) (pre := []) (suf := []) (h := 13) (a := 0) (b := 10) X V htb (by decide) rfl (fun z hz => absurd hz List.not_mem_nil) (by decide) hcell hv hcl ?_
      refine lv_astore hx hb dL_serve_13 hl (by decide) rfl (fun ls hl => ?_)
      refine lv_iconst (v := (1 : Int32)) hx hb dL_serve_15 rfl ?_
      exact l_ret X V 16 dL_serve_16
-- ===== law's draft =====
theorem fL_draft : lFn yX9_draft cX9_draft 3 (some .int) 2 25 := ⟨kT_9, kT_10, kT_11, kC_505, rfl, ⟨by decide +kernel, by decide +kernel, by decide +kernel⟩, by decide⟩
set_option maxRecDepth 100000 in
set_option maxHeartbeats 4000000 in
theorem w_draft (l : Launch) (hlt : l.stackTraces = false) (N : Nat) (x1 : Int32) (x2 : Int32) : lMet l yL_draft cL_draft 5 [(0, 10, 13, 19), (0, 10, 17, 28), (0, 10, 21, 13)] 8 3 18 [.int x1, .int x2] (fun S F => lPg lZi (lE3 1 2 3) (pX9_draft N x1 x2 S) F) := by
  refine l_start (by decide +kernel) rfl (fun g o => [(0, .ref (g.2.1 0)), (1, .int x1), (2, .int x2), (3, .ref o)]) (fun _ _ => Nat.le_of_ble_eq_true rfl) (fun _ _ => rfl) ?_
  intro dC dI g sz S o F r S' F' hpf p e s m args below meth c X htb ls hl
  have hx := X.1
  have hb := X.2.1
  obtain ⟨w, hf, hk⟩ := lPg_some hpf
  refine lv_aload_n hx hb dL_draft_0 rfl (lv_at hl 3 rfl) ?_
  refine lv_iconst (v := (0 : Int32)) hx hb dL_draft_1 rfl ?_
  refine lv_aload_n hx hb dL_draft_2 rfl (lv_at hl 0 rfl) ?_
  refine lv_iload_n hx hb dL_draft_3 rfl (lv_at hl 1 rfl) ?_
  refine lv_iload_n hx hb dL_draft_4 rfl (lv_at hl 2 rfl) ?_
  refine l_call (d := 8) (rest := [.int 0, .ref o]) (As := [.int x1, .int x2]) X fL_draft (c_X9_draft l hlt N x1 x2) (by decide) ⟨Nat.le_refl _, Nat.le_refl _⟩ 5 dL_draft_5 rfl hl.1 ⟨Nat.le_refl _, Nat.le_refl _⟩ hf rfl (Nat.le_of_ble_eq_true rfl) (fun v hw cc2 cd2 ce2 H1 locs1 V => ?_) (fun k hw cc2 cd2 ce2 H1 locs1 q ce9 V hcell hv hcl => ?_)
  · rcases hk with ⟨v2, hw2, rfl, rfl⟩ | ⟨k2, hw2, -, -⟩
    · cases Sum.inl.inj (hw.symm.trans hw2)
      refine lv_i2l hx hb dL_draft_8 rfl ?_
      exact l_tail (tgt := 25) X V 9 dL_draft_9 dL_draft_10 (by decide) dL_draft_25 dL_draft_26
    · cases hw.symm.trans hw2
  · rcases hk with ⟨v2, hw2, -, -⟩ | ⟨k2, hw2, he, rfl⟩
    · cases hw.symm.trans hw2
    · cases Sum.inr.inj (hw.symm.trans hw2)
      rcases lE3_some he with ⟨rfl, rfl⟩ | ⟨rfl, rfl⟩ | ⟨rfl, rfl⟩
      · refine l_catch (k := 1) (pre := []) (suf := [(0, 10, 17, 28), (0, 10, 21, 13)]) (h := 13) (a := 0) (b := 10) X V htb (by decide) rfl (fun z hz => absurd hz List.not_mem_nil) (by decide) hcell hv hcl ?_
        refine lv_astore hx hb dL_draft_13 hl (by decide) rfl (fun ls hl => ?_)
        refine lv_iconst (v := (1 : Int32)) hx hb dL_draft_15 rfl ?_
        exact l_ret X V 16 dL_draft_16
      · refine l_catch (k := 2) (pre := [(0, 10, 13, 19)]) (suf := [(0, 10, 21, 13)]) (h := 17) (a := 0) (b := 10) X V htb (by decide) rfl (fun z hz => by
            simp only [List.mem_cons, List.not_mem_nil, or_false] at hz
            subst hz
            exact ⟨1, by decide, by decide, rfl⟩) (by decide) hcell hv hcl ?_
        refine lv_astore hx hb dL_draft_17 hl (by decide) rfl (fun ls hl => ?_)
        refine lv_iconst (v := (2 : Int32)) hx hb dL_draft_19 rfl ?_
        exact l_ret X V 20 dL_draft_20
      · refine l_catch (k := 3) (pre := [(0, 10, 13, 19), (0, 10, 17, 28)]) (suf := []) (h := 21) (a := 0) (b := 10) X V htb (by decide) rfl (fun z hz => by
            simp only [List.mem_cons, List.not_mem_nil, or_false] at hz
            rcases hz with rfl | rfl
            · exact ⟨1, by decide, by decide, rfl⟩
            · exact ⟨2, by decide, by decide, rfl⟩) (by decide) hcell hv hcl ?_
        refine lv_astore hx hb dL_draft_21 hl (by decide) rfl (fun ls hl => ?_)
        refine lv_iconst (v := (3 : Int32)) hx hb dL_draft_23 rfl ?_
        exact l_ret X V 24 dL_draft_24
-- ===== law's add =====
theorem fL_add : lFn yX9_add cX9_add 7 (some .int) 4 30 := ⟨kT_13, kT_14, kT_15, kC_619, rfl, ⟨by decide +kernel, by decide +kernel, by decide +kernel⟩, by decide⟩
set_option maxRecDepth 100000 in
set_option maxHeartbeats 4000000 in
theorem w_add (l : Launch) (hlt : l.stackTraces = false) (N : Nat) (x1 : Int32) (x2 : Int32) (x3 : Int32) (x4 : Int32) : lMet l yL_add cL_add 7 [(0, 14, 17, 19), (0, 14, 21, 28), (0, 14, 25, 13)] 8 11 435 [.int x1, .int x2, .int x3, .int x4] (fun S F => lPg lZi (lE3 1 2 3) (pX9_add N x1 x2 x3 x4 S) F) := by
  refine l_start (by decide +kernel) rfl (fun g o => [(0, .ref (g.2.1 0)), (1, .int x1), (2, .int x2), (3, .int x3), (4, .int x4), (5, .ref o)]) (fun _ _ => Nat.le_of_ble_eq_true rfl) (fun _ _ => rfl) ?_
  intro dC dI g sz S o F r S' F' hpf p e s m args below meth c X htb ls hl
  have hx := X.1
  have hb := X.2.1
  obtain ⟨w, hf, hk⟩ := lPg_some hpf
  refine lv_aload hx hb dL_add_0 (lv_at hl 5 rfl) ?_
  refine lv_iconst (v := (0 : Int32)) hx hb dL_add_2 rfl ?_
  refine lv_aload_n hx hb dL_add_3 rfl (lv_at hl 0 rfl) ?_
  refine lv_iload_n hx hb dL_add_4 rfl (lv_at hl 1 rfl) ?_
  refine lv_iload_n hx hb dL_add_5 rfl (lv_at hl 2 rfl) ?_
  refine lv_iload_n hx hb dL_add_6 rfl (lv_at hl 3 rfl) ?_
  refine lv_iload hx hb dL_add_7 (lv_at hl 4 rfl) ?_
  refine l_call (d := 8) (rest := [.int 0, .ref o]) (As := [.int x1, .int x2, .int x3, .int x4]) X fL_add (c_X9_add l hlt N x1 x2 x3 x4) (by decide) ⟨Nat.le_refl _, Nat.le_refl _⟩ 9 dL_add_9 rfl hl.1 ⟨Nat.le_refl _, Nat.le_refl _⟩ hf rfl (Nat.le_of_ble_eq_true rfl) (fun v hw cc2 cd2 ce2 H1 locs1 V => ?_) (fun k hw cc2 cd2 ce2 H1 locs1 q ce9 V hcell hv hcl => ?_)
  · rcases hk with ⟨v2, hw2, rfl, rfl⟩ | ⟨k2, hw2, -, -⟩
    · cases Sum.inl.inj (hw.symm.trans hw2)
      refine lv_i2l hx hb dL_add_12 rfl ?_
      exact l_tail (tgt := 29) X V 13 dL_add_13 dL_add_14 (by decide) dL_add_29 dL_add_30
    · cases hw.symm.trans hw2
  · rcases hk with ⟨v2, hw2, -, -⟩ | ⟨k2, hw2, he, rfl⟩
    · cases hw.symm.trans hw2
    · cases Sum.inr.inj (hw.symm.trans hw2)
      rcases lE3_some he with ⟨rfl, rfl⟩ | ⟨rfl, rfl⟩ | ⟨rfl, rfl⟩
      · refine l_catch (k := 1) (pre := []) (suf := [(0, 14, 21, 28), (0, 14, 25, 13)]) (h := 17) (a := 0) (b := 14) X V htb (by decide) rfl (fun z hz => absurd hz List.not_mem_nil) (by decide) hcell hv hcl ?_
        refine lv_astore hx hb dL_add_17 hl (by decide) rfl (fun ls hl => ?_)
        refine lv_iconst (v := (1 : Int32)) hx hb dL_add_19 rfl ?_
        exact l_ret X V 20 dL_add_20
      · refine l_catch (k := 2) (pre := [(0, 14, 17, 19)]) (suf := [(0, 14, 25, 13)]) (h := 21) (a := 0) (b := 14) X V htb (by decide) rfl (fun z hz => by
            simp only [List.mem_cons, List.not_mem_nil, or_false] at hz
            subst hz
            exact ⟨1, by decide, by decide, rfl⟩) (by decide) hcell hv hcl ?_
        refine lv_astore hx hb dL_add_21 hl (by decide) rfl (fun ls hl => ?_)
        refine lv_iconst (v := (2 : Int32)) hx hb dL_add_23 rfl ?_
        exact l_ret X V 24 dL_add_24
      · refine l_catch (k := 3) (pre := [(0, 14, 17, 19), (0, 14, 21, 28)]) (suf := []) (h := 25) (a := 0) (b := 14) X V htb (by decide) rfl (fun z hz => by
            simp only [List.mem_cons, List.not_mem_nil, or_false] at hz
            rcases hz with rfl | rfl
            · exact ⟨1, by decide, by decide, rfl⟩
            · exact ⟨2, by decide, by decide, rfl⟩) (by decide) hcell hv hcl ?_
        refine lv_astore hx hb dL_add_25 hl (by decide) rfl (fun ls hl => ?_)
        refine lv_iconst (v := (3 : Int32)) hx hb dL_add_27 rfl ?_
        exact l_ret X V 28 dL_add_28
-- ===== law's addValue =====
theorem fL_addValue : lFn yX9_addValue cX9_addValue 7 (some .int) 4 34 := ⟨kT_17, kT_18, kT_19, kC_630, rfl, ⟨by decide +kernel, by decide +kernel, by decide +kernel⟩, by decide⟩
set_option maxRecDepth 100000 in
set_option maxHeartbeats 4000000 in
theorem w_addValue (l : Launch) (hlt : l.stackTraces = false) (N : Nat) (x1 : Int32) (x2 : Int32) (x3 : Int32) (x4 : Int32) : lMet l yL_addValue cL_addValue 7 [(0, 14, 17, 19), (0, 14, 21, 28), (0, 14, 25, 13)] 9 11 429 [.int x1, .int x2, .int x3, .int x4] (fun S F => lPg lZi (lE3 1 2 3) (pX9_addValue N x1 x2 x3 x4 S) F) := by
  refine l_start (by decide +kernel) rfl (fun g o => [(0, .ref (g.2.1 0)), (1, .int x1), (2, .int x2), (3, .int x3), (4, .int x4), (5, .ref o)]) (fun _ _ => Nat.le_of_ble_eq_true rfl) (fun _ _ => rfl) ?_
  intro dC dI g sz S o F r S' F' hpf p e s m args below meth c X htb ls hl
  have hx := X.1
  have hb := X.2.1
  obtain ⟨w, hf, hk⟩ := lPg_some hpf
  refine lv_aload hx hb dL_addValue_0 (lv_at hl 5 rfl) ?_
  refine lv_iconst (v := (0 : Int32)) hx hb dL_addValue_2 rfl ?_
  refine lv_aload_n hx hb dL_addValue_3 rfl (lv_at hl 0 rfl) ?_
  refine lv_iload_n hx hb dL_addValue_4 rfl (lv_at hl 1 rfl) ?_
  refine lv_iload_n hx hb dL_addValue_5 rfl (lv_at hl 2 rfl) ?_
  refine lv_iload_n hx hb dL_addValue_6 rfl (lv_at hl 3 rfl) ?_
  refine lv_iload hx hb dL_addValue_7 (lv_at hl 4 rfl) ?_
  refine l_call (d := 9) (rest := [.int 0, .ref o]) (As := [.int x1, .int x2, .int x3, .int x4]) X fL_addValue (c_X9_addValue l hlt N x1 x2 x3 x4) (by decide) ⟨Nat.le_refl _, Nat.le_refl _⟩ 9 dL_addValue_9 rfl hl.1 ⟨Nat.le_refl _, Nat.le_refl _⟩ hf rfl (Nat.le_of_ble_eq_true rfl) (fun v hw cc2 cd2 ce2 H1 locs1 V => ?_) (fun k hw cc2 cd2 ce2 H1 locs1 q ce9 V hcell hv hcl => ?_)
  · rcases hk with ⟨v2, hw2, rfl, rfl⟩ | ⟨k2, hw2, -, -⟩
    · cases Sum.inl.inj (hw.symm.trans hw2)
      refine lv_i2l hx hb dL_addValue_12 rfl ?_
      exact l_tail (tgt := 29) X V 13 dL_addValue_13 dL_addValue_14 (by decide) dL_addValue_29 dL_addValue_30
    · cases hw.symm.trans hw2
  · rcases hk with ⟨v2, hw2, -, -⟩ | ⟨k2, hw2, he, rfl⟩
    · cases hw.symm.trans hw2
    · cases Sum.inr.inj (hw.symm.trans hw2)
      rcases lE3_some he with ⟨rfl, rfl⟩ | ⟨rfl, rfl⟩ | ⟨rfl, rfl⟩
      · refine l_catch (k := 1) (pre := []) (suf := [(0, 14, 21, 28), (0, 14, 25, 13)]) (h := 17) (a := 0) (b := 14) X V htb (by decide) rfl (fun z hz => absurd hz List.not_mem_nil) (by decide) hcell hv hcl ?_
        refine lv_astore hx hb dL_addValue_17 hl (by decide) rfl (fun ls hl => ?_)
        refine lv_iconst (v := (1 : Int32)) hx hb dL_addValue_19 rfl ?_
        exact l_ret X V 20 dL_addValue_20
      · refine l_catch (k := 2) (pre := [(0, 14, 17, 19)]) (suf := [(0, 14, 25, 13)]) (h := 21) (a := 0) (b := 14) X V htb (by decide) rfl (fun z hz => by
            simp only [List.mem_cons, List.not_mem_nil, or_false] at hz
            subst hz
            exact ⟨1, by decide, by decide, rfl⟩) (by decide) hcell hv hcl ?_
        refine lv_astore hx hb dL_addValue_21 hl (by decide) rfl (fun ls hl => ?_)
        refine lv_iconst (v := (2 : Int32)) hx hb dL_addValue_23 rfl ?_
        exact l_ret X V 24 dL_addValue_24
      · refine l_catch (k := 3) (pre := [(0, 14, 17, 19), (0, 14, 21, 28)]) (suf := []) (h := 25) (a := 0) (b := 14) X V htb (by decide) rfl (fun z hz => by
            simp only [List.mem_cons, List.not_mem_nil, or_false] at hz
            rcases hz with rfl | rfl
            · exact ⟨1, by decide, by decide, rfl⟩
            · exact ⟨2, by decide, by decide, rfl⟩) (by decide) hcell hv hcl ?_
        refine lv_astore hx hb dL_addValue_25 hl (by decide) rfl (fun ls hl => ?_)
        refine lv_iconst (v := (3 : Int32)) hx hb dL_addValue_27 rfl ?_
        exact l_ret X V 28 dL_addValue_28
-- ===== law's removeValue =====
theorem fL_removeValue : lFn yX9_removeValue cX9_removeValue 8 (some .int) 4 37 := ⟨kT_21, kT_22, kT_23, kC_634, rfl, ⟨by decide +kernel, by decide +kernel, by decide +kernel⟩, by decide⟩
set_option maxRecDepth 100000 in
set_option maxHeartbeats 4000000 in
theorem w_removeValue (l : Launch) (hlt : l.stackTraces = false) (N : Nat) (x1 : Int32) (x2 : Int32) (x3 : Int32) (x4 : Int32) : lMet l yL_removeValue cL_removeValue 7 [(0, 14, 17, 19), (0, 14, 21, 28), (0, 14, 25, 13)] 9 10 423 [.int x1, .int x2, .int x3, .int x4] (fun S F => lPg lZi (lE3 1 2 3) (pX9_removeValue N x1 x2 x3 x4 S) F) := by
  refine l_start (by decide +kernel) rfl (fun g o => [(0, .ref (g.2.1 0)), (1, .int x1), (2, .int x2), (3, .int x3), (4, .int x4), (5, .ref o)]) (fun _ _ => Nat.le_of_ble_eq_true rfl) (fun _ _ => rfl) ?_
  intro dC dI g sz S o F r S' F' hpf p e s m args below meth c X htb ls hl
  have hx := X.1
  have hb := X.2.1
  obtain ⟨w, hf, hk⟩ := lPg_some hpf
  refine lv_aload hx hb dL_removeValue_0 (lv_at hl 5 rfl) ?_
  refine lv_iconst (v := (0 : Int32)) hx hb dL_removeValue_2 rfl ?_
  refine lv_aload_n hx hb dL_removeValue_3 rfl (lv_at hl 0 rfl) ?_
  refine lv_iload_n hx hb dL_removeValue_4 rfl (lv_at hl 1 rfl) ?_
  refine lv_iload_n hx hb dL_removeValue_5 rfl (lv_at hl 2 rfl) ?_
  refine lv_iload_n hx hb dL_removeValue_6 rfl (lv_at hl 3 rfl) ?_
  refine lv_iload hx hb dL_removeValue_7 (lv_at hl 4 rfl) ?_
  refine l_call (d := 9) (rest := [.int 0, .ref o]) (As := [.int x1, .int x2, .int x3, .int x4]) X fL_removeValue (c_X9_removeValue l hlt N x1 x2 x3 x4) (by decide) ⟨Nat.le_refl _, Nat.le_refl _⟩ 9 dL_removeValue_9 rfl hl.1 ⟨Nat.le_refl _, Nat.le_refl _⟩ hf rfl (Nat.le_of_ble_eq_true rfl) (fun v hw cc2 cd2 ce2 H1 locs1 V => ?_) (fun k hw cc2 cd2 ce2 H1 locs1 q ce9 V hcell hv hcl => ?_)
  · rcases hk with ⟨v2, hw2, rfl, rfl⟩ | ⟨k2, hw2, -, -⟩
    · cases Sum.inl.inj (hw.symm.trans hw2)
      refine lv_i2l hx hb dL_removeValue_12 rfl ?_
      exact l_tail (tgt := 29) X V 13 dL_removeValue_13 dL_removeValue_14 (by decide) dL_removeValue_29 dL_removeValue_30
    · cases hw.symm.trans hw2
  · rcases hk with ⟨v2, hw2, -, -⟩ | ⟨k2, hw2, he, rfl⟩
    · cases hw.symm.trans hw2
    · cases Sum.inr.inj (hw.symm.trans hw2)
      rcases lE3_some he with ⟨rfl, rfl⟩ | ⟨rfl, rfl⟩ | ⟨rfl, rfl⟩
      · refine l_catch (k := 1) (pre := []) (suf := [(0, 14, 21, 28), (0, 14, 25, 13)]) (h := 17) (a := 0) (b := 14) X V htb (by decide) rfl (fun z hz => absurd hz List.not_mem_nil) (by decide) hcell hv hcl ?_
        refine lv_astore hx hb dL_removeValue_17 hl (by decide) rfl (fun ls hl => ?_)
        refine lv_iconst (v := (1 : Int32)) hx hb dL_removeValue_19 rfl ?_
        exact l_ret X V 20 dL_removeValue_20
      · refine l_catch (k := 2) (pre := [(0, 14, 17, 19)]) (suf := [(0, 14, 25, 13)]) (h := 21) (a := 0) (b := 14) X V htb (by decide) rfl (fun z hz => by
            simp only [List.mem_cons, List.not_mem_nil, or_false] at hz
            subst hz
            exact ⟨1, by decide, by decide, rfl⟩) (by decide) hcell hv hcl ?_
        refine lv_astore hx hb dL_removeValue_21 hl (by decide) rfl (fun ls hl => ?_)
        refine lv_iconst (v := (2 : Int32)) hx hb dL_removeValue_23 rfl ?_
        exact l_ret X V 24 dL_removeValue_24
      · refine l_catch (k := 3) (pre := [(0, 14, 17, 19), (0, 14, 21, 28)]) (suf := []) (h := 25) (a := 0) (b := 14) X V htb (by decide) rfl (fun z hz => by
            simp only [List.mem_cons, List.not_mem_nil, or_false] at hz
            rcases hz with rfl | rfl
            · exact ⟨1, by decide, by decide, rfl⟩
            · exact ⟨2, by decide, by decide, rfl⟩) (by decide) hcell hv hcl ?_
        refine lv_astore hx hb dL_removeValue_25 hl (by decide) rfl (fun ls hl => ?_)
        refine lv_iconst (v := (3 : Int32)) hx hb dL_removeValue_27 rfl ?_
        exact l_ret X V 28 dL_removeValue_28
-- ===== law's replace =====
theorem fL_replace : lFn yX9_replace cX9_replace 7 (some .int) 4 40 := ⟨kT_25, kT_26, kT_27, kC_635, rfl, ⟨by decide +kernel, by decide +kernel, by decide +kernel⟩, by decide⟩
set_option maxRecDepth 100000 in
set_option maxHeartbeats 4000000 in
theorem w_replace (l : Launch) (hlt : l.stackTraces = false) (N : Nat) (x1 : Int32) (x2 : Int32) (x3 : Int32) (x4 : Int32) : lMet l yL_replace cL_replace 7 [(0, 14, 17, 19), (0, 14, 21, 28), (0, 14, 25, 13)] 9 9 417 [.int x1, .int x2, .int x3, .int x4] (fun S F => lPg lZi (lE3 1 2 3) (pX9_replace N x1 x2 x3 x4 S) F) := by
  refine l_start (by decide +kernel) rfl (fun g o => [(0, .ref (g.2.1 0)), (1, .int x1), (2, .int x2), (3, .int x3), (4, .int x4), (5, .ref o)]) (fun _ _ => Nat.le_of_ble_eq_true rfl) (fun _ _ => rfl) ?_
  intro dC dI g sz S o F r S' F' hpf p e s m args below meth c X htb ls hl
  have hx := X.1
  have hb := X.2.1
  obtain ⟨w, hf, hk⟩ := lPg_some hpf
  refine lv_aload hx hb dL_replace_0 (lv_at hl 5 rfl) ?_
  refine lv_iconst (v := (0 : Int32)) hx hb dL_replace_2 rfl ?_
  refine lv_aload_n hx hb dL_replace_3 rfl (lv_at hl 0 rfl) ?_
  refine lv_iload_n hx hb dL_replace_4 rfl (lv_at hl 1 rfl) ?_
  refine lv_iload_n hx hb dL_replace_5 rfl (lv_at hl 2 rfl) ?_
  refine lv_iload_n hx hb dL_replace_6 rfl (lv_at hl 3 rfl) ?_
  refine lv_iload hx hb dL_replace_7 (lv_at hl 4 rfl) ?_
  refine l_call (d := 9) (rest := [.int 0, .ref o]) (As := [.int x1, .int x2, .int x3, .int x4]) X fL_replace (c_X9_replace l hlt N x1 x2 x3 x4) (by decide) ⟨Nat.le_refl _, Nat.le_refl _⟩ 9 dL_replace_9 rfl hl.1 ⟨Nat.le_refl _, Nat.le_refl _⟩ hf rfl (Nat.le_of_ble_eq_true rfl) (fun v hw cc2 cd2 ce2 H1 locs1 V => ?_) (fun k hw cc2 cd2 ce2 H1 locs1 q ce9 V hcell hv hcl => ?_)
  · rcases hk with ⟨v2, hw2, rfl, rfl⟩ | ⟨k2, hw2, -, -⟩
    · cases Sum.inl.inj (hw.symm.trans hw2)
      refine lv_i2l hx hb dL_replace_12 rfl ?_
      exact l_tail (tgt := 29) X V 13 dL_replace_13 dL_replace_14 (by decide) dL_replace_29 dL_replace_30
    · cases hw.symm.trans hw2
  · rcases hk with ⟨v2, hw2, -, -⟩ | ⟨k2, hw2, he, rfl⟩
    · cases hw.symm.trans hw2
    · cases Sum.inr.inj (hw.symm.trans hw2)
      rcases lE3_some he with ⟨rfl, rfl⟩ | ⟨rfl, rfl⟩ | ⟨rfl, rfl⟩
      · refine l_catch (k := 1) (pre := []) (suf := [(0, 14, 21, 28), (0, 14, 25, 13)]) (h := 17) (a := 0) (b := 14) X V htb (by decide) rfl (fun z hz => absurd hz List.not_mem_nil) (by decide) hcell hv hcl ?_
        refine lv_astore hx hb dL_replace_17 hl (by decide) rfl (fun ls hl => ?_)
        refine lv_iconst (v := (1 : Int32)) hx hb dL_replace_19 rfl ?_
        exact l_ret X V 20 dL_replace_20
      · refine l_catch (k := 2) (pre := [(0, 14, 17, 19)]) (suf := [(0, 14, 25, 13)]) (h := 21) (a := 0) (b := 14) X V htb (by decide) rfl (fun z hz => by
            simp only [List.mem_cons, List.not_mem_nil, or_false] at hz
            subst hz
            exact ⟨1, by decide, by decide, rfl⟩) (by decide) hcell hv hcl ?_
        refine lv_astore hx hb dL_replace_21 hl (by decide) rfl (fun ls hl => ?_)
        refine lv_iconst (v := (2 : Int32)) hx hb dL_replace_23 rfl ?_
        exact l_ret X V 24 dL_replace_24
      · refine l_catch (k := 3) (pre := [(0, 14, 17, 19), (0, 14, 21, 28)]) (suf := []) (h := 25) (a := 0) (b := 14) X V htb (by decide) rfl (fun z hz => by
            simp only [List.mem_cons, List.not_mem_nil, or_false] at hz
            rcases hz with rfl | rfl
            · exact ⟨1, by decide, by decide, rfl⟩
            · exact ⟨2, by decide, by decide, rfl⟩) (by decide) hcell hv hcl ?_
        refine lv_astore hx hb dL_replace_25 hl (by decide) rfl (fun ls hl => ?_)
        refine lv_iconst (v := (3 : Int32)) hx hb dL_replace_27 rfl ?_
        exact l_ret X V 28 dL_replace_28
-- ===== law's rename =====
theorem fL_rename : lFn yX9_rename cX9_rename 6 (some .int) 3 43 := ⟨kT_29, kT_30, kT_31, kC_638, rfl, ⟨by decide +kernel, by decide +kernel, by decide +kernel⟩, by decide⟩
set_option maxRecDepth 100000 in
set_option maxHeartbeats 4000000 in
theorem w_rename (l : Launch) (hlt : l.stackTraces = false) (N : Nat) (x1 : Int32) (x2 : Int32) (x3 : Int32) : lMet l yL_rename cL_rename 6 [(0, 12, 15, 19), (0, 12, 19, 28), (0, 12, 23, 13)] 9 8 411 [.int x1, .int x2, .int x3] (fun S F => lPg lZi (lE3 1 2 3) (pX9_rename N x1 x2 x3 S) F) := by
  refine l_start (by decide +kernel) rfl (fun g o => [(0, .ref (g.2.1 0)), (1, .int x1), (2, .int x2), (3, .int x3), (4, .ref o)]) (fun _ _ => Nat.le_of_ble_eq_true rfl) (fun _ _ => rfl) ?_
  intro dC dI g sz S o F r S' F' hpf p e s m args below meth c X htb ls hl
  have hx := X.1
  have hb := X.2.1
  obtain ⟨w, hf, hk⟩ := lPg_some hpf
  refine lv_aload hx hb dL_rename_0 (lv_at hl 4 rfl) ?_
  refine lv_iconst (v := (0 : Int32)) hx hb dL_rename_2 rfl ?_
  refine lv_aload_n hx hb dL_rename_3 rfl (lv_at hl 0 rfl) ?_
  refine lv_iload_n hx hb dL_rename_4 rfl (lv_at hl 1 rfl) ?_
  refine lv_iload_n hx hb dL_rename_5 rfl (lv_at hl 2 rfl) ?_
  refine lv_iload_n hx hb dL_rename_6 rfl (lv_at hl 3 rfl) ?_
  refine l_call (d := 9) (rest := [.int 0, .ref o]) (As := [.int x1, .int x2, .int x3]) X fL_rename (c_X9_rename l hlt N x1 x2 x3) (by decide) ⟨Nat.le_refl _, Nat.le_refl _⟩ 7 dL_rename_7 rfl hl.1 ⟨Nat.le_refl _, Nat.le_refl _⟩ hf rfl (Nat.le_of_ble_eq_true rfl) (fun v hw cc2 cd2 ce2 H1 locs1 V => ?_) (fun k hw cc2 cd2 ce2 H1 locs1 q ce9 V hcell hv hcl => ?_)
  · rcases hk with ⟨v2, hw2, rfl, rfl⟩ | ⟨k2, hw2, -, -⟩
    · cases Sum.inl.inj (hw.symm.trans hw2)
      refine lv_i2l hx hb dL_rename_10 rfl ?_
      exact l_tail (tgt := 27) X V 11 dL_rename_11 dL_rename_12 (by decide) dL_rename_27 dL_rename_28
    · cases hw.symm.trans hw2
  · rcases hk with ⟨v2, hw2, -, -⟩ | ⟨k2, hw2, he, rfl⟩
    · cases hw.symm.trans hw2
    · cases Sum.inr.inj (hw.symm.trans hw2)
      rcases lE3_some he with ⟨rfl, rfl⟩ | ⟨rfl, rfl⟩ | ⟨rfl, rfl⟩
      · refine l_catch (k := 1) (pre := []) (suf := [(0, 12, 19, 28), (0, 12, 23, 13)]) (h := 15) (a := 0) (b := 12) X V htb (by decide) rfl (fun z hz => absurd hz List.not_mem_nil) (by decide) hcell hv hcl ?_
        refine lv_astore hx hb dL_rename_15 hl (by decide) rfl (fun ls hl => ?_)
        refine lv_iconst (v := (1 : Int32)) hx hb dL_rename_17 rfl ?_
        exact l_ret X V 18 dL_rename_18
      · refine l_catch (k := 2) (pre := [(0, 12, 15, 19)]) (suf := [(0, 12, 23, 13)]) (h := 19) (a := 0) (b := 12) X V htb (by decide) rfl (fun z hz => by
            simp only [List.mem_cons, List.not_mem_nil, or_false] at hz
            subst hz
            exact ⟨1, by decide, by decide, rfl⟩) (by decide) hcell hv hcl ?_
        refine lv_astore hx hb dL_rename_19 hl (by decide) rfl (fun ls hl => ?_)
        refine lv_iconst (v := (2 : Int32)) hx hb dL_rename_21 rfl ?_
        exact l_ret X V 22 dL_rename_22
      · refine l_catch (k := 3) (pre := [(0, 12, 15, 19), (0, 12, 19, 28)]) (suf := []) (h := 23) (a := 0) (b := 12) X V htb (by decide) rfl (fun z hz => by
            simp only [List.mem_cons, List.not_mem_nil, or_false] at hz
            rcases hz with rfl | rfl
            · exact ⟨1, by decide, by decide, rfl⟩
            · exact ⟨2, by decide, by decide, rfl⟩) (by decide) hcell hv hcl ?_
        refine lv_astore hx hb dL_rename_23 hl (by decide) rfl (fun ls hl => ?_)
        refine lv_iconst (v := (3 : Int32)) hx hb dL_rename_25 rfl ?_
        exact l_ret X V 26 dL_rename_26
-- ===== law's move =====
theorem fL_move : lFn yX9_move cX9_move 6 (some .int) 3 46 := ⟨kT_33, kT_34, kT_35, kC_641, rfl, ⟨by decide +kernel, by decide +kernel, by decide +kernel⟩, by decide⟩
set_option maxRecDepth 100000 in
set_option maxHeartbeats 4000000 in
theorem w_move (l : Launch) (hlt : l.stackTraces = false) (N : Nat) (x1 : Int32) (x2 : Int32) (x3 : Int32) : lMet l yL_move cL_move 6 [(0, 12, 15, 19), (0, 12, 19, 13)] 9 10 423 [.int x1, .int x2, .int x3] (fun S F => lPg lZi (lE2 1 3) (pX9_move N x1 x2 x3 S) F) := by
  refine l_start (by decide +kernel) rfl (fun g o => [(0, .ref (g.2.1 0)), (1, .int x1), (2, .int x2), (3, .int x3), (4, .ref o)]) (fun _ _ => Nat.le_of_ble_eq_true rfl) (fun _ _ => rfl) ?_
  intro dC dI g sz S o F r S' F' hpf p e s m args below meth c X htb ls hl
  have hx := X.1
  have hb := X.2.1
  obtain ⟨w, hf, hk⟩ := lPg_some hpf
  refine lv_aload hx hb dL_move_0 (lv_at hl 4 rfl) ?_
  refine lv_iconst (v := (0 : Int32)) hx hb dL_move_2 rfl ?_
  refine lv_aload_n hx hb dL_move_3 rfl (lv_at hl 0 rfl) ?_
  refine lv_iload_n hx hb dL_move_4 rfl (lv_at hl 1 rfl) ?_
  refine lv_iload_n hx hb dL_move_5 rfl (lv_at hl 2 rfl) ?_
  refine lv_iload_n hx hb dL_move_6 rfl (lv_at hl 3 rfl) ?_
  refine l_call (d := 9) (rest := [.int 0, .ref o]) (As := [.int x1, .int x2, .int x3]) X fL_move (c_X9_move l hlt N x1 x2 x3) (by decide) ⟨Nat.le_refl _, Nat.le_refl _⟩ 7 dL_move_7 rfl hl.1 ⟨Nat.le_refl _, Nat.le_refl _⟩ hf rfl (Nat.le_of_ble_eq_true rfl) (fun v hw cc2 cd2 ce2 H1 locs1 V => ?_) (fun k hw cc2 cd2 ce2 H1 locs1 q ce9 V hcell hv hcl => ?_)
  · rcases hk with ⟨v2, hw2, rfl, rfl⟩ | ⟨k2, hw2, -, -⟩
    · cases Sum.inl.inj (hw.symm.trans hw2)
      refine lv_i2l hx hb dL_move_10 rfl ?_
      exact l_tail (tgt := 23) X V 11 dL_move_11 dL_move_12 (by decide) dL_move_23 dL_move_24
    · cases hw.symm.trans hw2
  · rcases hk with ⟨v2, hw2, -, -⟩ | ⟨k2, hw2, he, rfl⟩
    · cases hw.symm.trans hw2
    · cases Sum.inr.inj (hw.symm.trans hw2)
      rcases lE2_some he with ⟨rfl, rfl⟩ | ⟨rfl, rfl⟩
      · refine l_catch (k := 1) (pre := []) (suf := [(0, 12, 19, 13)]) (h := 15) (a := 0) (b := 12) X V htb (by decide) rfl (fun z hz => absurd hz List.not_mem_nil) (by decide) hcell hv hcl ?_
        refine lv_astore hx hb dL_move_15 hl (by decide) rfl (fun ls hl => ?_)
        refine lv_iconst (v := (1 : Int32)) hx hb dL_move_17 rfl ?_
        exact l_ret X V 18 dL_move_18
      · refine l_catch (k := 3) (pre := [(0, 12, 15, 19)]) (suf := []) (h := 19) (a := 0) (b := 12) X V htb (by decide) rfl (fun z hz => by
            simp only [List.mem_cons, List.not_mem_nil, or_false] at hz
            subst hz
            exact ⟨1, by decide, by decide, rfl⟩) (by decide) hcell hv hcl ?_
        refine lv_astore hx hb dL_move_19 hl (by decide) rfl (fun ls hl => ?_)
        refine lv_iconst (v := (2 : Int32)) hx hb dL_move_21 rfl ?_
        exact l_ret X V 22 dL_move_22
-- ===== law's delete =====
theorem fL_delete : lFn yX9_delete cX9_delete 4 (some .int) 2 49 := ⟨kT_37, kT_38, kT_39, kC_652, rfl, ⟨by decide +kernel, by decide +kernel, by decide +kernel⟩, by decide⟩
set_option maxRecDepth 100000 in
set_option maxHeartbeats 4000000 in
theorem w_delete (l : Launch) (hlt : l.stackTraces = false) (N : Nat) (x1 : Int32) (x2 : Int32) : lMet l yL_delete cL_delete 5 [(0, 10, 13, 19), (0, 10, 17, 13)] 9 7 405 [.int x1, .int x2] (fun S F => lPg lZi (lE2 1 3) (pX9_delete N x1 x2 S) F) := by
  refine l_start (by decide +kernel) rfl (fun g o => [(0, .ref (g.2.1 0)), (1, .int x1), (2, .int x2), (3, .ref o)]) (fun _ _ => Nat.le_of_ble_eq_true rfl) (fun _ _ => rfl) ?_
  intro dC dI g sz S o F r S' F' hpf p e s m args below meth c X htb ls hl
  have hx := X.1
  have hb := X.2.1
  obtain ⟨w, hf, hk⟩ := lPg_some hpf
  refine lv_aload_n hx hb dL_delete_0 rfl (lv_at hl 3 rfl) ?_
  refine lv_iconst (v := (0 : Int32)) hx hb dL_delete_1 rfl ?_
  refine lv_aload_n hx hb dL_delete_2 rfl (lv_at hl 0 rfl) ?_
  refine lv_iload_n hx hb dL_delete_3 rfl (lv_at hl 1 rfl) ?_
  refine lv_iload_n hx hb dL_delete_4 rfl (lv_at hl 2 rfl) ?_
  refine l_call (d := 9) (rest := [.int 0, .ref o]) (As := [.int x1, .int x2]) X fL_delete (c_X9_delete l hlt N x1 x2) (by decide) ⟨Nat.le_refl _, Nat.le_refl _⟩ 5 dL_delete_5 rfl hl.1 ⟨Nat.le_refl _, Nat.le_refl _⟩ hf rfl (Nat.le_of_ble_eq_true rfl) (fun v hw cc2 cd2 ce2 H1 locs1 V => ?_) (fun k hw cc2 cd2 ce2 H1 locs1 q ce9 V hcell hv hcl => ?_)
  · rcases hk with ⟨v2, hw2, rfl, rfl⟩ | ⟨k2, hw2, -, -⟩
    · cases Sum.inl.inj (hw.symm.trans hw2)
      refine lv_i2l hx hb dL_delete_8 rfl ?_
      exact l_tail (tgt := 21) X V 9 dL_delete_9 dL_delete_10 (by decide) dL_delete_21 dL_delete_22
    · cases hw.symm.trans hw2
  · rcases hk with ⟨v2, hw2, -, -⟩ | ⟨k2, hw2, he, rfl⟩
    · cases hw.symm.trans hw2
    · cases Sum.inr.inj (hw.symm.trans hw2)
      rcases lE2_some he with ⟨rfl, rfl⟩ | ⟨rfl, rfl⟩
      · refine l_catch (k := 1) (pre := []) (suf := [(0, 10, 17, 13)]) (h := 13) (a := 0) (b := 10) X V htb (by decide) rfl (fun z hz => absurd hz List.not_mem_nil) (by decide) hcell hv hcl ?_
        refine lv_astore hx hb dL_delete_13 hl (by decide) rfl (fun ls hl => ?_)
        refine lv_iconst (v := (1 : Int32)) hx hb dL_delete_15 rfl ?_
        exact l_ret X V 16 dL_delete_16
      · refine l_catch (k := 3) (pre := [(0, 10, 13, 19)]) (suf := []) (h := 17) (a := 0) (b := 10) X V htb (by decide) rfl (fun z hz => by
            simp only [List.mem_cons, List.not_mem_nil, or_false] at hz
            subst hz
            exact ⟨1, by decide, by decide, rfl⟩) (by decide) hcell hv hcl ?_
        refine lv_astore hx hb dL_delete_17 hl (by decide) rfl (fun ls hl => ?_)
        refine lv_iconst (v := (2 : Int32)) hx hb dL_delete_19 rfl ?_
        exact l_ret X V 20 dL_delete_20
-- ===== law's link =====
theorem fL_link : lFn yX9_link cX9_link 6 (some .int) 3 52 := ⟨kT_41, kT_42, kT_43, kC_654, rfl, ⟨by decide +kernel, by decide +kernel, by decide +kernel⟩, by decide⟩
set_option maxRecDepth 100000 in
set_option maxHeartbeats 4000000 in
theorem w_link (l : Launch) (hlt : l.stackTraces = false) (N : Nat) (x1 : Int32) (x2 : Int32) (x3 : Int32) : lMet l yL_link cL_link 6 [(0, 12, 15, 19), (0, 12, 19, 13)] 9 8 411 [.int x1, .int x2, .int x3] (fun S F => lPg lZi (lE2 1 3) (pX9_link N x1 x2 x3 S) F) := by
  refine l_start (by decide +kernel) rfl (fun g o => [(0, .ref (g.2.1 0)), (1, .int x1), (2, .int x2), (3, .int x3), (4, .ref o)]) (fun _ _ => Nat.le_of_ble_eq_true rfl) (fun _ _ => rfl) ?_
  intro dC dI g sz S o F r S' F' hpf p e s m args below meth c X htb ls hl
  have hx := X.1
  have hb := X.2.1
  obtain ⟨w, hf, hk⟩ := lPg_some hpf
  refine lv_aload hx hb dL_link_0 (lv_at hl 4 rfl) ?_
  refine lv_iconst (v := (0 : Int32)) hx hb dL_link_2 rfl ?_
  refine lv_aload_n hx hb dL_link_3 rfl (lv_at hl 0 rfl) ?_
  refine lv_iload_n hx hb dL_link_4 rfl (lv_at hl 1 rfl) ?_
  refine lv_iload_n hx hb dL_link_5 rfl (lv_at hl 2 rfl) ?_
  refine lv_iload_n hx hb dL_link_6 rfl (lv_at hl 3 rfl) ?_
  refine l_call (d := 9) (rest := [.int 0, .ref o]) (As := [.int x1, .int x2, .int x3]) X fL_link (c_X9_link l hlt N x1 x2 x3) (by decide) ⟨Nat.le_refl _, Nat.le_refl _⟩ 7 dL_link_7 rfl hl.1 ⟨Nat.le_refl _, Nat.le_refl _⟩ hf rfl (Nat.le_of_ble_eq_true rfl) (fun v hw cc2 cd2 ce2 H1 locs1 V => ?_) (fun k hw cc2 cd2 ce2 H1 locs1 q ce9 V hcell hv hcl => ?_)
  · rcases hk with ⟨v2, hw2, rfl, rfl⟩ | ⟨k2, hw2, -, -⟩
    · cases Sum.inl.inj (hw.symm.trans hw2)
      refine lv_i2l hx hb dL_link_10 rfl ?_
      exact l_tail (tgt := 23) X V 11 dL_link_11 dL_link_12 (by decide) dL_link_23 dL_link_24
    · cases hw.symm.trans hw2
  · rcases hk with ⟨v2, hw2, -, -⟩ | ⟨k2, hw2, he, rfl⟩
    · cases hw.symm.trans hw2
    · cases Sum.inr.inj (hw.symm.trans hw2)
      rcases lE2_some he with ⟨rfl, rfl⟩ | ⟨rfl, rfl⟩
      · refine l_catch (k := 1) (pre := []) (suf := [(0, 12, 19, 13)]) (h := 15) (a := 0) (b := 12) X V htb (by decide) rfl (fun z hz => absurd hz List.not_mem_nil) (by decide) hcell hv hcl ?_
        refine lv_astore hx hb dL_link_15 hl (by decide) rfl (fun ls hl => ?_)
        refine lv_iconst (v := (1 : Int32)) hx hb dL_link_17 rfl ?_
        exact l_ret X V 18 dL_link_18
      · refine l_catch (k := 3) (pre := [(0, 12, 15, 19)]) (suf := []) (h := 19) (a := 0) (b := 12) X V htb (by decide) rfl (fun z hz => by
            simp only [List.mem_cons, List.not_mem_nil, or_false] at hz
            subst hz
            exact ⟨1, by decide, by decide, rfl⟩) (by decide) hcell hv hcl ?_
        refine lv_astore hx hb dL_link_19 hl (by decide) rfl (fun ls hl => ?_)
        refine lv_iconst (v := (2 : Int32)) hx hb dL_link_21 rfl ?_
        exact l_ret X V 22 dL_link_22
-- ===== law's rule =====
theorem fL_rule : lFn yX9_rule cX9_rule 10 (some .int) 6 55 := ⟨kT_45, kT_46, kT_47, kC_666, rfl, ⟨by decide +kernel, by decide +kernel, by decide +kernel⟩, by decide⟩
set_option maxRecDepth 100000 in
set_option maxHeartbeats 4000000 in
theorem w_rule (l : Launch) (hlt : l.stackTraces = false) (N : Nat) (x1 : Int32) (x2 : Int32) (x3 : Int32) (x4 : Int32) (x5 : Int32) (x6 : Int32) : lMet l yL_rule cL_rule 9 [(0, 18, 21, 19), (0, 18, 25, 28), (0, 18, 29, 13)] 8 9 417 [.int x1, .int x2, .int x3, .int x4, .int x5, .int x6] (fun S F => lPg lZi (lE3 1 2 3) (pX9_rule N x1 x2 x3 x4 x5 x6 S) F) := by
  refine l_start (by decide +kernel) rfl (fun g o => [(0, .ref (g.2.1 0)), (1, .int x1), (2, .int x2), (3, .int x3), (4, .int x4), (5, .int x5), (6, .int x6), (7, .ref o)]) (fun _ _ => Nat.le_of_ble_eq_true rfl) (fun _ _ => rfl) ?_
  intro dC dI g sz S o F r S' F' hpf p e s m args below meth c X htb ls hl
  have hx := X.1
  have hb := X.2.1
  obtain ⟨w, hf, hk⟩ := lPg_some hpf
  refine lv_aload hx hb dL_rule_0 (lv_at hl 7 rfl) ?_
  refine lv_iconst (v := (0 : Int32)) hx hb dL_rule_2 rfl ?_
  refine lv_aload_n hx hb dL_rule_3 rfl (lv_at hl 0 rfl) ?_
  refine lv_iload_n hx hb dL_rule_4 rfl (lv_at hl 1 rfl) ?_
  refine lv_iload_n hx hb dL_rule_5 rfl (lv_at hl 2 rfl) ?_
  refine lv_iload_n hx hb dL_rule_6 rfl (lv_at hl 3 rfl) ?_
  refine lv_iload hx hb dL_rule_7 (lv_at hl 4 rfl) ?_
  refine lv_iload hx hb dL_rule_9 (lv_at hl 5 rfl) ?_
  refine lv_iload hx hb dL_rule_11 (lv_at hl 6 rfl) ?_
  refine l_call (d := 8) (rest := [.int 0, .ref o]) (As := [.int x1, .int x2, .int x3, .int x4, .int x5, .int x6]) X fL_rule (c_X9_rule l hlt N x1 x2 x3 x4 x5 x6) (by decide) ⟨Nat.le_refl _, Nat.le_refl _⟩ 13 dL_rule_13 rfl hl.1 ⟨Nat.le_refl _, Nat.le_refl _⟩ hf rfl (Nat.le_of_ble_eq_true rfl) (fun v hw cc2 cd2 ce2 H1 locs1 V => ?_) (fun k hw cc2 cd2 ce2 H1 locs1 q ce9 V hcell hv hcl => ?_)
  · rcases hk with ⟨v2, hw2, rfl, rfl⟩ | ⟨k2, hw2, -, -⟩
    · cases Sum.inl.inj (hw.symm.trans hw2)
      refine lv_i2l hx hb dL_rule_16 rfl ?_
      exact l_tail (tgt := 33) X V 17 dL_rule_17 dL_rule_18 (by decide) dL_rule_33 dL_rule_34
    · cases hw.symm.trans hw2
  · rcases hk with ⟨v2, hw2, -, -⟩ | ⟨k2, hw2, he, rfl⟩
    · cases hw.symm.trans hw2
    · cases Sum.inr.inj (hw.symm.trans hw2)
      rcases lE3_some he with ⟨rfl, rfl⟩ | ⟨rfl, rfl⟩ | ⟨rfl, rfl⟩
      · refine l_catch (k := 1) (pre := []) (suf := [(0, 18, 25, 28), (0, 18, 29, 13)]) (h := 21) (a := 0) (b := 18) X V htb (by decide) rfl (fun z hz => absurd hz List.not_mem_nil) (by decide) hcell hv hcl ?_
        refine lv_astore hx hb dL_rule_21 hl (by decide) rfl (fun ls hl => ?_)
        refine lv_iconst (v := (1 : Int32)) hx hb dL_rule_23 rfl ?_
        exact l_ret X V 24 dL_rule_24
      · refine l_catch (k := 2) (pre := [(0, 18, 21, 19)]) (suf := [(0, 18, 29, 13)]) (h := 25) (a := 0) (b := 18) X V htb (by decide) rfl (fun z hz => by
            simp only [List.mem_cons, List.not_mem_nil, or_false] at hz
            subst hz
            exact ⟨1, by decide, by decide, rfl⟩) (by decide) hcell hv hcl ?_
        refine lv_astore hx hb dL_rule_25 hl (by decide) rfl (fun ls hl => ?_)
        refine lv_iconst (v := (2 : Int32)) hx hb dL_rule_27 rfl ?_
        exact l_ret X V 28 dL_rule_28
      · refine l_catch (k := 3) (pre := [(0, 18, 21, 19), (0, 18, 25, 28)]) (suf := []) (h := 29) (a := 0) (b := 18) X V htb (by decide) rfl (fun z hz => by
            simp only [List.mem_cons, List.not_mem_nil, or_false] at hz
            rcases hz with rfl | rfl
            · exact ⟨1, by decide, by decide, rfl⟩
            · exact ⟨2, by decide, by decide, rfl⟩) (by decide) hcell hv hcl ?_
        refine lv_astore hx hb dL_rule_29 hl (by decide) rfl (fun ls hl => ?_)
        refine lv_iconst (v := (3 : Int32)) hx hb dL_rule_31 rfl ?_
        exact l_ret X V 32 dL_rule_32
-- ===== law's exchange =====
theorem fL_exchange : lFn yX9_exchange cX9_exchange 9 (some .int) 3 59 := ⟨kT_49, kT_50, kT_51, kC_679, rfl, ⟨by decide +kernel, by decide +kernel, by decide +kernel⟩, by decide⟩
set_option maxRecDepth 100000 in
set_option maxHeartbeats 4000000 in
theorem w_exchange (l : Launch) (hlt : l.stackTraces = false) (N : Nat) (x1 : Int32) (x2 : Int32) (x3 : Int32) : lMet l yL_exchange cL_exchange 6 [(0, 12, 15, 19), (0, 12, 19, 28)] 8 3 18 [.int x1, .int x2, .int x3] (fun S F => lPg lZi (lE2 1 2) (pX9_exchange N x1 x2 x3 S) F) := by
  refine l_start (by decide +kernel) rfl (fun g o => [(0, .ref (g.2.1 0)), (1, .int x1), (2, .int x2), (3, .int x3), (4, .ref o)]) (fun _ _ => Nat.le_of_ble_eq_true rfl) (fun _ _ => rfl) ?_
  intro dC dI g sz S o F r S' F' hpf p e s m args below meth c X htb ls hl
  have hx := X.1
  have hb := X.2.1
  obtain ⟨w, hf, hk⟩ := lPg_some hpf
  refine lv_aload hx hb dL_exchange_0 (lv_at hl 4 rfl) ?_
  refine lv_iconst (v := (0 : Int32)) hx hb dL_exchange_2 rfl ?_
  refine lv_aload_n hx hb dL_exchange_3 rfl (lv_at hl 0 rfl) ?_
  refine lv_iload_n hx hb dL_exchange_4 rfl (lv_at hl 1 rfl) ?_
  refine lv_iload_n hx hb dL_exchange_5 rfl (lv_at hl 2 rfl) ?_
  refine lv_iload_n hx hb dL_exchange_6 rfl (lv_at hl 3 rfl) ?_
  refine l_call (d := 8) (rest := [.int 0, .ref o]) (As := [.int x1, .int x2, .int x3]) X fL_exchange (c_X9_exchange l hlt N x1 x2 x3) (by decide) ⟨Nat.le_refl _, Nat.le_refl _⟩ 7 dL_exchange_7 rfl hl.1 ⟨Nat.le_refl _, Nat.le_refl _⟩ hf rfl (Nat.le_of_ble_eq_true rfl) (fun v hw cc2 cd2 ce2 H1 locs1 V => ?_) (fun k hw cc2 cd2 ce2 H1 locs1 q ce9 V hcell hv hcl => ?_)
  · rcases hk with ⟨v2, hw2, rfl, rfl⟩ | ⟨k2, hw2, -, -⟩
    · cases Sum.inl.inj (hw.symm.trans hw2)
      refine lv_i2l hx hb dL_exchange_10 rfl ?_
      exact l_tail (tgt := 23) X V 11 dL_exchange_11 dL_exchange_12 (by decide) dL_exchange_23 dL_exchange_24
    · cases hw.symm.trans hw2
  · rcases hk with ⟨v2, hw2, -, -⟩ | ⟨k2, hw2, he, rfl⟩
    · cases hw.symm.trans hw2
    · cases Sum.inr.inj (hw.symm.trans hw2)
      rcases lE2_some he with ⟨rfl, rfl⟩ | ⟨rfl, rfl⟩
      · refine l_catch (k := 1) (pre := []) (suf := [(0, 12, 19, 28)]) (h := 15) (a := 0) (b := 12) X V htb (by decide) rfl (fun z hz => absurd hz List.not_mem_nil) (by decide) hcell hv hcl ?_
        refine lv_astore hx hb dL_exchange_15 hl (by decide) rfl (fun ls hl => ?_)
        refine lv_iconst (v := (1 : Int32)) hx hb dL_exchange_17 rfl ?_
        exact l_ret X V 18 dL_exchange_18
      · refine l_catch (k := 2) (pre := [(0, 12, 15, 19)]) (suf := []) (h := 19) (a := 0) (b := 12) X V htb (by decide) rfl (fun z hz => by
            simp only [List.mem_cons, List.not_mem_nil, or_false] at hz
            subst hz
            exact ⟨1, by decide, by decide, rfl⟩) (by decide) hcell hv hcl ?_
        refine lv_astore hx hb dL_exchange_19 hl (by decide) rfl (fun ls hl => ?_)
        refine lv_iconst (v := (2 : Int32)) hx hb dL_exchange_21 rfl ?_
        exact l_ret X V 22 dL_exchange_22
-- ===== law's sweep =====
theorem fL_sweep : lFn yX9_sweep cX9_sweep 6 (some .int) 1 62 := ⟨kT_53, kT_54, kT_55, kC_687, rfl, ⟨by decide +kernel, by decide +kernel, by decide +kernel⟩, by decide⟩
set_option maxRecDepth 100000 in
set_option maxHeartbeats 4000000 in
theorem w_sweep (l : Launch) (hlt : l.stackTraces = false) (N : Nat) (x1 : Int32) : lMet l yL_sweep cL_sweep 4 [(0, 9, 12, 19)] 8 1 6 [.int x1] (fun S F => lPg lZi (lE1 1) (pX9_sweep N x1 S) F) := by
  refine l_start (by decide +kernel) rfl (fun g o => [(0, .ref (g.2.1 0)), (1, .int x1), (2, .ref o)]) (fun _ _ => Nat.le_of_ble_eq_true rfl) (fun _ _ => rfl) ?_
  intro dC dI g sz S o F r S' F' hpf p e s m args below meth c X htb ls hl
  have hx := X.1
  have hb := X.2.1
  obtain ⟨w, hf, hk⟩ := lPg_some hpf
  refine lv_aload_n hx hb dL_sweep_0 rfl (lv_at hl 2 rfl) ?_
  refine lv_iconst (v := (0 : Int32)) hx hb dL_sweep_1 rfl ?_
  refine lv_aload_n hx hb dL_sweep_2 rfl (lv_at hl 0 rfl) ?_
  refine lv_iload_n hx hb dL_sweep_3 rfl (lv_at hl 1 rfl) ?_
  refine l_call (d := 8) (rest := [.int 0, .ref o]) (As := [.int x1]) X fL_sweep (c_X9_sweep l hlt N x1) (by decide) ⟨Nat.le_refl _, Nat.le_refl _⟩ 4 dL_sweep_4 rfl hl.1 ⟨Nat.le_refl _, Nat.le_refl _⟩ hf rfl (Nat.le_of_ble_eq_true rfl) (fun v hw cc2 cd2 ce2 H1 locs1 V => ?_) (fun k hw cc2 cd2 ce2 H1 locs1 q ce9 V hcell hv hcl => ?_)
  · rcases hk with ⟨v2, hw2, rfl, rfl⟩ | ⟨k2, hw2, -, -⟩
    · cases Sum.inl.inj (hw.symm.trans hw2)
      refine lv_i2l hx hb dL_sweep_7 rfl ?_
      exact l_tail (tgt := 15) X V 8 dL_sweep_8 dL_sweep_9 (by decide) dL_sweep_15 dL_sweep_16
    · cases hw.symm.trans hw2
  · rcases hk with ⟨v2, hw2, -, -⟩ | ⟨k2, hw2, he, rfl⟩
    · cases hw.symm.trans hw2
    · cases Sum.inr.inj (hw.symm.trans hw2)
      obtain ⟨rfl, rfl⟩ := lE1_some he
      refine l_catch (k := 1) (pre := []) (suf := []) (h := 12) (a := 0) (b := 9) X V htb (by decide) rfl (fun z hz => absurd hz List.not_mem_nil) (by decide) hcell hv hcl ?_
      refine lv_astore_n hx hb dL_sweep_12 rfl hl (by decide) rfl (fun ls hl => ?_)
      refine lv_iconst (v := (1 : Int32)) hx hb dL_sweep_13 rfl ?_
      exact l_ret X V 14 dL_sweep_14
-- ===== law's equal =====
theorem fL_equal : lFn yX9_equal cX9_equal 3 (some .int) 2 66 := ⟨kT_57, kT_58, kT_59, kC_699, rfl, ⟨by decide +kernel, by decide +kernel, by decide +kernel⟩, by decide⟩
set_option maxRecDepth 100000 in
set_option maxHeartbeats 4000000 in
theorem w_equal (l : Launch) (hlt : l.stackTraces = false) (N : Nat) (x1 : Int32) (x2 : Int32) : lMet l yL_equal cL_equal 5 [(0, 10, 13, 19), (0, 10, 17, 28), (0, 10, 21, 13)] 8 3 18 [.int x1, .int x2] (fun S F => lPg lZi (lE3 1 2 3) (pX9_equal N x1 x2 S) F) := by
  refine l_start (by decide +kernel) rfl (fun g o => [(0, .ref (g.2.1 0)), (1, .int x1), (2, .int x2), (3, .ref o)]) (fun _ _ => Nat.le_of_ble_eq_true rfl) (fun _ _ => rfl) ?_
  intro dC dI g sz S o F r S' F' hpf p e s m args below meth c X htb ls hl
  have hx := X.1
  have hb := X.2.1
  obtain ⟨w, hf, hk⟩ := lPg_some hpf
  refine lv_aload_n hx hb dL_equal_0 rfl (lv_at hl 3 rfl) ?_
  refine lv_iconst (v := (0 : Int32)) hx hb dL_equal_1 rfl ?_
  refine lv_aload_n hx hb dL_equal_2 rfl (lv_at hl 0 rfl) ?_
  refine lv_iload_n hx hb dL_equal_3 rfl (lv_at hl 1 rfl) ?_
  refine lv_iload_n hx hb dL_equal_4 rfl (lv_at hl 2 rfl) ?_
  refine l_call (d := 8) (rest := [.int 0, .ref o]) (As := [.int x1, .int x2]) X fL_equal (c_X9_equal l hlt N x1 x2) (by decide) ⟨Nat.le_refl _, Nat.le_refl _⟩ 5 dL_equal_5 rfl hl.1 ⟨Nat.le_refl _, Nat.le_refl _⟩ hf rfl (Nat.le_of_ble_eq_true rfl) (fun v hw cc2 cd2 ce2 H1 locs1 V => ?_) (fun k hw cc2 cd2 ce2 H1 locs1 q ce9 V hcell hv hcl => ?_)
  · rcases hk with ⟨v2, hw2, rfl, rfl⟩ | ⟨k2, hw2, -, -⟩
    · cases Sum.inl.inj (hw.symm.trans hw2)
      refine lv_i2l hx hb dL_equal_8 rfl ?_
      exact l_tail (tgt := 25) X V 9 dL_equal_9 dL_equal_10 (by decide) dL_equal_25 dL_equal_26
    · cases hw.symm.trans hw2
  · rcases hk with ⟨v2, hw2, -, -⟩ | ⟨k2, hw2, he, rfl⟩
    · cases hw.symm.trans hw2
    · cases Sum.inr.inj (hw.symm.trans hw2)
      rcases lE3_some he with ⟨rfl, rfl⟩ | ⟨rfl, rfl⟩ | ⟨rfl, rfl⟩
      · refine l_catch (k := 1) (pre := []) (suf := [(0, 10, 17, 28), (0, 10, 21, 13)]) (h := 13) (a := 0) (b := 10) X V htb (by decide) rfl (fun z hz => absurd hz List.not_mem_nil) (by decide) hcell hv hcl ?_
        refine lv_astore hx hb dL_equal_13 hl (by decide) rfl (fun ls hl => ?_)
        refine lv_iconst (v := (1 : Int32)) hx hb dL_equal_15 rfl ?_
        exact l_ret X V 16 dL_equal_16
      · refine l_catch (k := 2) (pre := [(0, 10, 13, 19)]) (suf := [(0, 10, 21, 13)]) (h := 17) (a := 0) (b := 10) X V htb (by decide) rfl (fun z hz => by
            simp only [List.mem_cons, List.not_mem_nil, or_false] at hz
            subst hz
            exact ⟨1, by decide, by decide, rfl⟩) (by decide) hcell hv hcl ?_
        refine lv_astore hx hb dL_equal_17 hl (by decide) rfl (fun ls hl => ?_)
        refine lv_iconst (v := (2 : Int32)) hx hb dL_equal_19 rfl ?_
        exact l_ret X V 20 dL_equal_20
      · refine l_catch (k := 3) (pre := [(0, 10, 13, 19), (0, 10, 17, 28)]) (suf := []) (h := 21) (a := 0) (b := 10) X V htb (by decide) rfl (fun z hz => by
            simp only [List.mem_cons, List.not_mem_nil, or_false] at hz
            rcases hz with rfl | rfl
            · exact ⟨1, by decide, by decide, rfl⟩
            · exact ⟨2, by decide, by decide, rfl⟩) (by decide) hcell hv hcl ?_
        refine lv_astore hx hb dL_equal_21 hl (by decide) rfl (fun ls hl => ?_)
        refine lv_iconst (v := (3 : Int32)) hx hb dL_equal_23 rfl ?_
        exact l_ret X V 24 dL_equal_24
-- ===== law's atLeast =====
theorem fL_atLeast : lFn yX9_atLeast cX9_atLeast 3 (some .int) 2 69 := ⟨kT_61, kT_62, kT_63, kC_700, rfl, ⟨by decide +kernel, by decide +kernel, by decide +kernel⟩, by decide⟩
set_option maxRecDepth 100000 in
set_option maxHeartbeats 4000000 in
theorem w_atLeast (l : Launch) (hlt : l.stackTraces = false) (N : Nat) (x1 : Int32) (x2 : Int32) : lMet l yL_atLeast cL_atLeast 5 [(0, 10, 13, 19), (0, 10, 17, 28), (0, 10, 21, 13)] 8 3 18 [.int x1, .int x2] (fun S F => lPg lZi (lE3 1 2 3) (pX9_atLeast N x1 x2 S) F) := by
  refine l_start (by decide +kernel) rfl (fun g o => [(0, .ref (g.2.1 0)), (1, .int x1), (2, .int x2), (3, .ref o)]) (fun _ _ => Nat.le_of_ble_eq_true rfl) (fun _ _ => rfl) ?_
  intro dC dI g sz S o F r S' F' hpf p e s m args below meth c X htb ls hl
  have hx := X.1
  have hb := X.2.1
  obtain ⟨w, hf, hk⟩ := lPg_some hpf
  refine lv_aload_n hx hb dL_atLeast_0 rfl (lv_at hl 3 rfl) ?_
  refine lv_iconst (v := (0 : Int32)) hx hb dL_atLeast_1 rfl ?_
  refine lv_aload_n hx hb dL_atLeast_2 rfl (lv_at hl 0 rfl) ?_
  refine lv_iload_n hx hb dL_atLeast_3 rfl (lv_at hl 1 rfl) ?_
  refine lv_iload_n hx hb dL_atLeast_4 rfl (lv_at hl 2 rfl) ?_
  refine l_call (d := 8) (rest := [.int 0, .ref o]) (As := [.int x1, .int x2]) X fL_atLeast (c_X9_atLeast l hlt N x1 x2) (by decide) ⟨Nat.le_refl _, Nat.le_refl _⟩ 5 dL_atLeast_5 rfl hl.1 ⟨Nat.le_refl _, Nat.le_refl _⟩ hf rfl (Nat.le_of_ble_eq_true rfl) (fun v hw cc2 cd2 ce2 H1 locs1 V => ?_) (fun k hw cc2 cd2 ce2 H1 locs1 q ce9 V hcell hv hcl => ?_)
  · rcases hk with ⟨v2, hw2, rfl, rfl⟩ | ⟨k2, hw2, -, -⟩
    · cases Sum.inl.inj (hw.symm.trans hw2)
      refine lv_i2l hx hb dL_atLeast_8 rfl ?_
      exact l_tail (tgt := 25) X V 9 dL_atLeast_9 dL_atLeast_10 (by decide) dL_atLeast_25 dL_atLeast_26
    · cases hw.symm.trans hw2
  · rcases hk with ⟨v2, hw2, -, -⟩ | ⟨k2, hw2, he, rfl⟩
    · cases hw.symm.trans hw2
    · cases Sum.inr.inj (hw.symm.trans hw2)
      rcases lE3_some he with ⟨rfl, rfl⟩ | ⟨rfl, rfl⟩ | ⟨rfl, rfl⟩
      · refine l_catch (k := 1) (pre := []) (suf := [(0, 10, 17, 28), (0, 10, 21, 13)]) (h := 13) (a := 0) (b := 10) X V htb (by decide) rfl (fun z hz => absurd hz List.not_mem_nil) (by decide) hcell hv hcl ?_
        refine lv_astore hx hb dL_atLeast_13 hl (by decide) rfl (fun ls hl => ?_)
        refine lv_iconst (v := (1 : Int32)) hx hb dL_atLeast_15 rfl ?_
        exact l_ret X V 16 dL_atLeast_16
      · refine l_catch (k := 2) (pre := [(0, 10, 13, 19)]) (suf := [(0, 10, 21, 13)]) (h := 17) (a := 0) (b := 10) X V htb (by decide) rfl (fun z hz => by
            simp only [List.mem_cons, List.not_mem_nil, or_false] at hz
            subst hz
            exact ⟨1, by decide, by decide, rfl⟩) (by decide) hcell hv hcl ?_
        refine lv_astore hx hb dL_atLeast_17 hl (by decide) rfl (fun ls hl => ?_)
        refine lv_iconst (v := (2 : Int32)) hx hb dL_atLeast_19 rfl ?_
        exact l_ret X V 20 dL_atLeast_20
      · refine l_catch (k := 3) (pre := [(0, 10, 13, 19), (0, 10, 17, 28)]) (suf := []) (h := 21) (a := 0) (b := 10) X V htb (by decide) rfl (fun z hz => by
            simp only [List.mem_cons, List.not_mem_nil, or_false] at hz
            rcases hz with rfl | rfl
            · exact ⟨1, by decide, by decide, rfl⟩
            · exact ⟨2, by decide, by decide, rfl⟩) (by decide) hcell hv hcl ?_
        refine lv_astore hx hb dL_atLeast_21 hl (by decide) rfl (fun ls hl => ?_)
        refine lv_iconst (v := (3 : Int32)) hx hb dL_atLeast_23 rfl ?_
        exact l_ret X V 24 dL_atLeast_24
-- ===== law's has =====
theorem fL_has : lFn yX9_has cX9_has 2 (some .int) 1 72 := ⟨kT_65, kT_66, kT_67, kC_701, rfl, ⟨by decide +kernel, by decide +kernel, by decide +kernel⟩, by decide⟩
set_option maxRecDepth 100000 in
set_option maxHeartbeats 4000000 in
theorem w_has (l : Launch) (hlt : l.stackTraces = false) (N : Nat) (x1 : Int32) : lMet l yL_has cL_has 4 [(0, 9, 12, 19), (0, 9, 15, 13)] 8 2 12 [.int x1] (fun S F => lPg lZi (lE2 1 3) (pX9_has N x1 S) F) := by
  refine l_start (by decide +kernel) rfl (fun g o => [(0, .ref (g.2.1 0)), (1, .int x1), (2, .ref o)]) (fun _ _ => Nat.le_of_ble_eq_true rfl) (fun _ _ => rfl) ?_
  intro dC dI g sz S o F r S' F' hpf p e s m args below meth c X htb ls hl
  have hx := X.1
  have hb := X.2.1
  obtain ⟨w, hf, hk⟩ := lPg_some hpf
  refine lv_aload_n hx hb dL_has_0 rfl (lv_at hl 2 rfl) ?_
  refine lv_iconst (v := (0 : Int32)) hx hb dL_has_1 rfl ?_
  refine lv_aload_n hx hb dL_has_2 rfl (lv_at hl 0 rfl) ?_
  refine lv_iload_n hx hb dL_has_3 rfl (lv_at hl 1 rfl) ?_
  refine l_call (d := 8) (rest := [.int 0, .ref o]) (As := [.int x1]) X fL_has (c_X9_has l hlt N x1) (by decide) ⟨Nat.le_refl _, Nat.le_refl _⟩ 4 dL_has_4 rfl hl.1 ⟨Nat.le_refl _, Nat.le_refl _⟩ hf rfl (Nat.le_of_ble_eq_true rfl) (fun v hw cc2 cd2 ce2 H1 locs1 V => ?_) (fun k hw cc2 cd2 ce2 H1 locs1 q ce9 V hcell hv hcl => ?_)
  · rcases hk with ⟨v2, hw2, rfl, rfl⟩ | ⟨k2, hw2, -, -⟩
    · cases Sum.inl.inj (hw.symm.trans hw2)
      refine lv_i2l hx hb dL_has_7 rfl ?_
      exact l_tail (tgt := 18) X V 8 dL_has_8 dL_has_9 (by decide) dL_has_18 dL_has_19
    · cases hw.symm.trans hw2
  · rcases hk with ⟨v2, hw2, -, -⟩ | ⟨k2, hw2, he, rfl⟩
    · cases hw.symm.trans hw2
    · cases Sum.inr.inj (hw.symm.trans hw2)
      rcases lE2_some he with ⟨rfl, rfl⟩ | ⟨rfl, rfl⟩
      · refine l_catch (k := 1) (pre := []) (suf := [(0, 9, 15, 13)]) (h := 12) (a := 0) (b := 9) X V htb (by decide) rfl (fun z hz => absurd hz List.not_mem_nil) (by decide) hcell hv hcl ?_
        refine lv_astore_n hx hb dL_has_12 rfl hl (by decide) rfl (fun ls hl => ?_)
        refine lv_iconst (v := (1 : Int32)) hx hb dL_has_13 rfl ?_
        exact l_ret X V 14 dL_has_14
      · refine l_catch (k := 3) (pre := [(0, 9, 12, 19)]) (suf := []) (h := 15) (a := 0) (b := 9) X V htb (by decide) rfl (fun z hz => by
            simp only [List.mem_cons, List.not_mem_nil, or_false] at hz
            subst hz
            exact ⟨1, by decide, by decide, rfl⟩) (by decide) hcell hv hcl ?_
        refine lv_astore_n hx hb dL_has_15 rfl hl (by decide) rfl (fun ls hl => ?_)
        refine lv_iconst (v := (2 : Int32)) hx hb dL_has_16 rfl ?_
        exact l_ret X V 17 dL_has_17
-- ===== law's ofClass =====
theorem fL_ofClass : lFn yX9_ofClass cX9_ofClass 2 (some .int) 1 75 := ⟨kT_69, kT_70, kT_71, kC_705, rfl, ⟨by decide +kernel, by decide +kernel, by decide +kernel⟩, by decide⟩
set_option maxRecDepth 100000 in
set_option maxHeartbeats 4000000 in
theorem w_ofClass (l : Launch) (hlt : l.stackTraces = false) (N : Nat) (x1 : Int32) : lMet l yL_ofClass cL_ofClass 4 [(0, 9, 12, 19), (0, 9, 15, 13)] 8 2 12 [.int x1] (fun S F => lPg lZi (lE2 1 3) (pX9_ofClass N x1 S) F) := by
  refine l_start (by decide +kernel) rfl (fun g o => [(0, .ref (g.2.1 0)), (1, .int x1), (2, .ref o)]) (fun _ _ => Nat.le_of_ble_eq_true rfl) (fun _ _ => rfl) ?_
  intro dC dI g sz S o F r S' F' hpf p e s m args below meth c X htb ls hl
  have hx := X.1
  have hb := X.2.1
  obtain ⟨w, hf, hk⟩ := lPg_some hpf
  refine lv_aload_n hx hb dL_ofClass_0 rfl (lv_at hl 2 rfl) ?_
  refine lv_iconst (v := (0 : Int32)) hx hb dL_ofClass_1 rfl ?_
  refine lv_aload_n hx hb dL_ofClass_2 rfl (lv_at hl 0 rfl) ?_
  refine lv_iload_n hx hb dL_ofClass_3 rfl (lv_at hl 1 rfl) ?_
  refine l_call (d := 8) (rest := [.int 0, .ref o]) (As := [.int x1]) X fL_ofClass (c_X9_ofClass l hlt N x1) (by decide) ⟨Nat.le_refl _, Nat.le_refl _⟩ 4 dL_ofClass_4 rfl hl.1 ⟨Nat.le_refl _, Nat.le_refl _⟩ hf rfl (Nat.le_of_ble_eq_true rfl) (fun v hw cc2 cd2 ce2 H1 locs1 V => ?_) (fun k hw cc2 cd2 ce2 H1 locs1 q ce9 V hcell hv hcl => ?_)
  · rcases hk with ⟨v2, hw2, rfl, rfl⟩ | ⟨k2, hw2, -, -⟩
    · cases Sum.inl.inj (hw.symm.trans hw2)
      refine lv_i2l hx hb dL_ofClass_7 rfl ?_
      exact l_tail (tgt := 18) X V 8 dL_ofClass_8 dL_ofClass_9 (by decide) dL_ofClass_18 dL_ofClass_19
    · cases hw.symm.trans hw2
  · rcases hk with ⟨v2, hw2, -, -⟩ | ⟨k2, hw2, he, rfl⟩
    · cases hw.symm.trans hw2
    · cases Sum.inr.inj (hw.symm.trans hw2)
      rcases lE2_some he with ⟨rfl, rfl⟩ | ⟨rfl, rfl⟩
      · refine l_catch (k := 1) (pre := []) (suf := [(0, 9, 15, 13)]) (h := 12) (a := 0) (b := 9) X V htb (by decide) rfl (fun z hz => absurd hz List.not_mem_nil) (by decide) hcell hv hcl ?_
        refine lv_astore_n hx hb dL_ofClass_12 rfl hl (by decide) rfl (fun ls hl => ?_)
        refine lv_iconst (v := (1 : Int32)) hx hb dL_ofClass_13 rfl ?_
        exact l_ret X V 14 dL_ofClass_14
      · refine l_catch (k := 3) (pre := [(0, 9, 12, 19)]) (suf := []) (h := 15) (a := 0) (b := 9) X V htb (by decide) rfl (fun z hz => by
            simp only [List.mem_cons, List.not_mem_nil, or_false] at hz
            subst hz
            exact ⟨1, by decide, by decide, rfl⟩) (by decide) hcell hv hcl ?_
        refine lv_astore_n hx hb dL_ofClass_15 rfl hl (by decide) rfl (fun ls hl => ?_)
        refine lv_iconst (v := (2 : Int32)) hx hb dL_ofClass_16 rfl ?_
        exact l_ret X V 17 dL_ofClass_17
