-- ===== law's combine =====
theorem fL_combine : lFn yX9_combine cX9_combine 2 (some .int) 1 78 := ⟨kT_73, kT_74, kT_75, kC_706, rfl, ⟨by decide +kernel, by decide +kernel, by decide +kernel⟩, by decide⟩
set_option maxRecDepth 100000 in
set_option maxHeartbeats 4000000 in
theorem w_combine (l : Launch) (hlt : l.stackTraces = false) (N : Nat) (x1 : Int32) : lMet l yL_combine cL_combine 4 [(0, 9, 12, 13)] 7 1 6 [.int x1] (fun S F => lPg lZi (lE1 3) (pX9_combine N x1 S) F) := by
  refine l_start (by decide +kernel) rfl (fun g o => [(0, .ref (g.2.1 0)), (1, .int x1), (2, .ref o)]) (fun _ _ => Nat.le_of_ble_eq_true rfl) (fun _ _ => rfl) ?_
  intro dC dI g sz S o F r S' F' hpf p e s m args below meth c X htb ls hl
  have hx := X.1
  have hb := X.2.1
  obtain ⟨w, hf, hk⟩ := lPg_some hpf
  refine lv_aload_n hx hb dL_combine_0 rfl (lv_at hl 2 rfl) ?_
  refine lv_iconst (v := (0 : Int32)) hx hb dL_combine_1 rfl ?_
  refine lv_aload_n hx hb dL_combine_2 rfl (lv_at hl 0 rfl) ?_
  refine lv_iload_n hx hb dL_combine_3 rfl (lv_at hl 1 rfl) ?_
  refine l_call (d := 7) (rest := [.int 0, .ref o]) (As := [.int x1]) X fL_combine (c_X9_combine l hlt N x1) (by decide) ⟨Nat.le_refl _, Nat.le_refl _⟩ 4 dL_combine_4 rfl hl.1 ⟨Nat.le_refl _, Nat.le_refl _⟩ hf rfl (Nat.le_of_ble_eq_true rfl) (fun v hw cc2 cd2 ce2 H1 locs1 V => ?_) (fun k hw cc2 cd2 ce2 H1 locs1 q ce9 V hcell hv hcl => ?_)
  · rcases hk with ⟨v2, hw2, rfl, rfl⟩ | ⟨k2, hw2, -, -⟩
    · cases Sum.inl.inj (hw.symm.trans hw2)
      refine lv_i2l hx hb dL_combine_7 rfl ?_
      exact l_tail (tgt := 15) X V 8 dL_combine_8 dL_combine_9 (by decide) dL_combine_15 dL_combine_16
    · cases hw.symm.trans hw2
  · rcases hk with ⟨v2, hw2, -, -⟩ | ⟨k2, hw2, he, rfl⟩
    · cases hw.symm.trans hw2
    · cases Sum.inr.inj (hw.symm.trans hw2)
      obtain ⟨rfl, rfl⟩ := lE1_some he
      refine l_catch (k := 3) (pre := []) (suf := []) (h := 12) (a := 0) (b := 9) X V htb (by decide) rfl (fun z hz => absurd hz List.not_mem_nil) (by decide) hcell hv hcl ?_
      refine lv_astore_n hx hb dL_combine_12 rfl hl (by decide) rfl (fun ls hl => ?_)
      refine lv_iconst (v := (1 : Int32)) hx hb dL_combine_13 rfl ?_
      exact l_ret X V 14 dL_combine_14
-- ===== law's not =====
theorem fL_not : lFn yX9_not cX9_not 1 (some .int) 0 82 := ⟨kT_77, kT_78, kT_79, kC_710, rfl, ⟨by decide +kernel, by decide +kernel, by decide +kernel⟩, by decide⟩
set_option maxRecDepth 100000 in
set_option maxHeartbeats 4000000 in
theorem w_not (l : Launch) (hlt : l.stackTraces = false) (N : Nat) : lMet l yL_not cL_not 3 [(0, 8, 11, 13)] 7 1 6 [] (fun S F => lPg lZi (lE1 3) (pX9_not N S) F) := by
  refine l_start (by decide +kernel) rfl (fun g o => [(0, .ref (g.2.1 0)), (1, .ref o)]) (fun _ _ => Nat.le_of_ble_eq_true rfl) (fun _ _ => rfl) ?_
  intro dC dI g sz S o F r S' F' hpf p e s m args below meth c X htb ls hl
  have hx := X.1
  have hb := X.2.1
  obtain ⟨w, hf, hk⟩ := lPg_some hpf
  refine lv_aload_n hx hb dL_not_0 rfl (lv_at hl 1 rfl) ?_
  refine lv_iconst (v := (0 : Int32)) hx hb dL_not_1 rfl ?_
  refine lv_aload_n hx hb dL_not_2 rfl (lv_at hl 0 rfl) ?_
  refine l_call (d := 7) (rest := [.int 0, .ref o]) (As := []) X fL_not (c_X9_not l hlt N) (by decide) ⟨Nat.le_refl _, Nat.le_refl _⟩ 3 dL_not_3 rfl hl.1 ⟨Nat.le_refl _, Nat.le_refl _⟩ hf rfl (Nat.le_of_ble_eq_true rfl) (fun v hw cc2 cd2 ce2 H1 locs1 V => ?_) (fun k hw cc2 cd2 ce2 H1 locs1 q ce9 V hcell hv hcl => ?_)
  · rcases hk with ⟨v2, hw2, rfl, rfl⟩ | ⟨k2, hw2, -, -⟩
    · cases Sum.inl.inj (hw.symm.trans hw2)
      refine lv_i2l hx hb dL_not_6 rfl ?_
      exact l_tail (tgt := 14) X V 7 dL_not_7 dL_not_8 (by decide) dL_not_14 dL_not_15
    · cases hw.symm.trans hw2
  · rcases hk with ⟨v2, hw2, -, -⟩ | ⟨k2, hw2, he, rfl⟩
    · cases hw.symm.trans hw2
    · cases Sum.inr.inj (hw.symm.trans hw2)
      obtain ⟨rfl, rfl⟩ := lE1_some he
      refine l_catch (k := 3) (pre := []) (suf := []) (h := 11) (a := 0) (b := 8) X V htb (by decide) rfl (fun z hz => absurd hz List.not_mem_nil) (by decide) hcell hv hcl ?_
      refine lv_astore_n hx hb dL_not_11 rfl hl (by decide) rfl (fun ls hl => ?_)
      refine lv_iconst (v := (1 : Int32)) hx hb dL_not_12 rfl ?_
      exact l_ret X V 13 dL_not_13
-- ===== law's search =====
theorem fL_search : lFn yX9_search cX9_search 4 (some .int) 3 86 := ⟨kT_81, kT_82, kT_83, kC_725, rfl, ⟨by decide +kernel, by decide +kernel, by decide +kernel⟩, by decide⟩
set_option maxRecDepth 100000 in
set_option maxHeartbeats 4000000 in
theorem w_search (l : Launch) (hlt : l.stackTraces = false) (N : Nat) (x1 : Int32) (x2 : Int32) (x3 : Int32) : lMet l yL_search cL_search 6 [(0, 12, 15, 19), (0, 12, 19, 13)] 9 4 24 [.int x1, .int x2, .int x3] (fun S F => lPg lZi (lE2 1 3) (pX9_search N x1 x2 x3 S) F) := by
  refine l_start (by decide +kernel) rfl (fun g o => [(0, .ref (g.2.1 0)), (1, .int x1), (2, .int x2), (3, .int x3), (4, .ref o)]) (fun _ _ => Nat.le_of_ble_eq_true rfl) (fun _ _ => rfl) ?_
  intro dC dI g sz S o F r S' F' hpf p e s m args below meth c X htb ls hl
  have hx := X.1
  have hb := X.2.1
  obtain ⟨w, hf, hk⟩ := lPg_some hpf
  refine lv_aload hx hb dL_search_0 (lv_at hl 4 rfl) ?_
  refine lv_iconst (v := (0 : Int32)) hx hb dL_search_2 rfl ?_
  refine lv_aload_n hx hb dL_search_3 rfl (lv_at hl 0 rfl) ?_
  refine lv_iload_n hx hb dL_search_4 rfl (lv_at hl 1 rfl) ?_
  refine lv_iload_n hx hb dL_search_5 rfl (lv_at hl 2 rfl) ?_
  refine lv_iload_n hx hb dL_search_6 rfl (lv_at hl 3 rfl) ?_
  refine l_call (d := 9) (rest := [.int 0, .ref o]) (As := [.int x1, .int x2, .int x3]) X fL_search (c_X9_search l hlt N x1 x2 x3) (by decide) ⟨Nat.le_refl _, Nat.le_refl _⟩ 7 dL_search_7 rfl hl.1 ⟨Nat.le_refl _, Nat.le_refl _⟩ hf rfl (Nat.le_of_ble_eq_true rfl) (fun v hw cc2 cd2 ce2 H1 locs1 V => ?_) (fun k hw cc2 cd2 ce2 H1 locs1 q ce9 V hcell hv hcl => ?_)
  · rcases hk with ⟨v2, hw2, rfl, rfl⟩ | ⟨k2, hw2, -, -⟩
    · cases Sum.inl.inj (hw.symm.trans hw2)
      refine lv_i2l hx hb dL_search_10 rfl ?_
      exact l_tail (tgt := 23) X V 11 dL_search_11 dL_search_12 (by decide) dL_search_23 dL_search_24
    · cases hw.symm.trans hw2
  · rcases hk with ⟨v2, hw2, -, -⟩ | ⟨k2, hw2, he, rfl⟩
    · cases hw.symm.trans hw2
    · cases Sum.inr.inj (hw.symm.trans hw2)
      rcases lE2_some he with ⟨rfl, rfl⟩ | ⟨rfl, rfl⟩
      · refine l_catch (k := 1) (pre := []) (suf := [(0, 12, 19, 13)]) (h := 15) (a := 0) (b := 12) X V htb (by decide) rfl (fun z hz => absurd hz List.not_mem_nil) (by decide) hcell hv hcl ?_
        refine lv_astore hx hb dL_search_15 hl (by decide) rfl (fun ls hl => ?_)
        refine lv_iconst (v := (1 : Int32)) hx hb dL_search_17 rfl ?_
        exact l_ret X V 18 dL_search_18
      · refine l_catch (k := 3) (pre := [(0, 12, 15, 19)]) (suf := []) (h := 19) (a := 0) (b := 12) X V htb (by decide) rfl (fun z hz => by
            simp only [List.mem_cons, List.not_mem_nil, or_false] at hz
            subst hz
            exact ⟨1, by decide, by decide, rfl⟩) (by decide) hcell hv hcl ?_
        refine lv_astore hx hb dL_search_19 hl (by decide) rfl (fun ls hl => ?_)
        refine lv_iconst (v := (2 : Int32)) hx hb dL_search_21 rfl ?_
        exact l_ret X V 22 dL_search_22
-- ===== law's searchByWalk =====
theorem fL_searchByWalk : lFn yX9_searchByWalk cX9_searchByWalk 4 (some .int) 3 89 := ⟨kT_85, kT_86, kT_87, kC_729, rfl, ⟨by decide +kernel, by decide +kernel, by decide +kernel⟩, by decide⟩
set_option maxRecDepth 100000 in
set_option maxHeartbeats 4000000 in
theorem w_searchByWalk (l : Launch) (hlt : l.stackTraces = false) (N : Nat) (x1 : Int32) (x2 : Int32) (x3 : Int32) : lMet l yL_searchByWalk cL_searchByWalk 6 [(0, 12, 15, 19), (0, 12, 19, 13)] 9 4 24 [.int x1, .int x2, .int x3] (fun S F => lPg lZi (lE2 1 3) (pX9_searchByWalk N x1 x2 x3 S) F) := by
  refine l_start (by decide +kernel) rfl (fun g o => [(0, .ref (g.2.1 0)), (1, .int x1), (2, .int x2), (3, .int x3), (4, .ref o)]) (fun _ _ => Nat.le_of_ble_eq_true rfl) (fun _ _ => rfl) ?_
  intro dC dI g sz S o F r S' F' hpf p e s m args below meth c X htb ls hl
  have hx := X.1
  have hb := X.2.1
  obtain ⟨w, hf, hk⟩ := lPg_some hpf
  refine lv_aload hx hb dL_searchByWalk_0 (lv_at hl 4 rfl) ?_
  refine lv_iconst (v := (0 : Int32)) hx hb dL_searchByWalk_2 rfl ?_
  refine lv_aload_n hx hb dL_searchByWalk_3 rfl (lv_at hl 0 rfl) ?_
  refine lv_iload_n hx hb dL_searchByWalk_4 rfl (lv_at hl 1 rfl) ?_
  refine lv_iload_n hx hb dL_searchByWalk_5 rfl (lv_at hl 2 rfl) ?_
  refine lv_iload_n hx hb dL_searchByWalk_6 rfl (lv_at hl 3 rfl) ?_
  refine l_call (d := 9) (rest := [.int 0, .ref o]) (As := [.int x1, .int x2, .int x3]) X fL_searchByWalk (c_X9_searchByWalk l hlt N x1 x2 x3) (by decide) ⟨Nat.le_refl _, Nat.le_refl _⟩ 7 dL_searchByWalk_7 rfl hl.1 ⟨Nat.le_refl _, Nat.le_refl _⟩ hf rfl (Nat.le_of_ble_eq_true rfl) (fun v hw cc2 cd2 ce2 H1 locs1 V => ?_) (fun k hw cc2 cd2 ce2 H1 locs1 q ce9 V hcell hv hcl => ?_)
  · rcases hk with ⟨v2, hw2, rfl, rfl⟩ | ⟨k2, hw2, -, -⟩
    · cases Sum.inl.inj (hw.symm.trans hw2)
      refine lv_i2l hx hb dL_searchByWalk_10 rfl ?_
      exact l_tail (tgt := 23) X V 11 dL_searchByWalk_11 dL_searchByWalk_12 (by decide) dL_searchByWalk_23 dL_searchByWalk_24
    · cases hw.symm.trans hw2
  · rcases hk with ⟨v2, hw2, -, -⟩ | ⟨k2, hw2, he, rfl⟩
    · cases hw.symm.trans hw2
    · cases Sum.inr.inj (hw.symm.trans hw2)
      rcases lE2_some he with ⟨rfl, rfl⟩ | ⟨rfl, rfl⟩
      · refine l_catch (k := 1) (pre := []) (suf := [(0, 12, 19, 13)]) (h := 15) (a := 0) (b := 12) X V htb (by decide) rfl (fun z hz => absurd hz List.not_mem_nil) (by decide) hcell hv hcl ?_
        refine lv_astore hx hb dL_searchByWalk_15 hl (by decide) rfl (fun ls hl => ?_)
        refine lv_iconst (v := (1 : Int32)) hx hb dL_searchByWalk_17 rfl ?_
        exact l_ret X V 18 dL_searchByWalk_18
      · refine l_catch (k := 3) (pre := [(0, 12, 15, 19)]) (suf := []) (h := 19) (a := 0) (b := 12) X V htb (by decide) rfl (fun z hz => by
            simp only [List.mem_cons, List.not_mem_nil, or_false] at hz
            subst hz
            exact ⟨1, by decide, by decide, rfl⟩) (by decide) hcell hv hcl ?_
        refine lv_astore hx hb dL_searchByWalk_19 hl (by decide) rfl (fun ls hl => ?_)
        refine lv_iconst (v := (2 : Int32)) hx hb dL_searchByWalk_21 rfl ?_
        exact l_ret X V 22 dL_searchByWalk_22
-- ===== law's follow =====
theorem fL_follow : lFn yX9_follow cX9_follow 4 (some .int) 3 92 := ⟨kT_89, kT_90, kT_91, kC_733, rfl, ⟨by decide +kernel, by decide +kernel, by decide +kernel⟩, by decide⟩
set_option maxRecDepth 100000 in
set_option maxHeartbeats 4000000 in
theorem w_follow (l : Launch) (hlt : l.stackTraces = false) (N : Nat) (x1 : Int32) (x2 : Int32) (x3 : Int32) : lMet l yL_follow cL_follow 6 [(0, 12, 15, 19), (0, 12, 19, 13)] 9 4 24 [.int x1, .int x2, .int x3] (fun S F => lPg lZi (lE2 1 3) (pX9_follow N x1 x2 x3 S) F) := by
  refine l_start (by decide +kernel) rfl (fun g o => [(0, .ref (g.2.1 0)), (1, .int x1), (2, .int x2), (3, .int x3), (4, .ref o)]) (fun _ _ => Nat.le_of_ble_eq_true rfl) (fun _ _ => rfl) ?_
  intro dC dI g sz S o F r S' F' hpf p e s m args below meth c X htb ls hl
  have hx := X.1
  have hb := X.2.1
  obtain ⟨w, hf, hk⟩ := lPg_some hpf
  refine lv_aload hx hb dL_follow_0 (lv_at hl 4 rfl) ?_
  refine lv_iconst (v := (0 : Int32)) hx hb dL_follow_2 rfl ?_
  refine lv_aload_n hx hb dL_follow_3 rfl (lv_at hl 0 rfl) ?_
  refine lv_iload_n hx hb dL_follow_4 rfl (lv_at hl 1 rfl) ?_
  refine lv_iload_n hx hb dL_follow_5 rfl (lv_at hl 2 rfl) ?_
  refine lv_iload_n hx hb dL_follow_6 rfl (lv_at hl 3 rfl) ?_
  refine l_call (d := 9) (rest := [.int 0, .ref o]) (As := [.int x1, .int x2, .int x3]) X fL_follow (c_X9_follow l hlt N x1 x2 x3) (by decide) ⟨Nat.le_refl _, Nat.le_refl _⟩ 7 dL_follow_7 rfl hl.1 ⟨Nat.le_refl _, Nat.le_refl _⟩ hf rfl (Nat.le_of_ble_eq_true rfl) (fun v hw cc2 cd2 ce2 H1 locs1 V => ?_) (fun k hw cc2 cd2 ce2 H1 locs1 q ce9 V hcell hv hcl => ?_)
  · rcases hk with ⟨v2, hw2, rfl, rfl⟩ | ⟨k2, hw2, -, -⟩
    · cases Sum.inl.inj (hw.symm.trans hw2)
      refine lv_i2l hx hb dL_follow_10 rfl ?_
      exact l_tail (tgt := 23) X V 11 dL_follow_11 dL_follow_12 (by decide) dL_follow_23 dL_follow_24
    · cases hw.symm.trans hw2
  · rcases hk with ⟨v2, hw2, -, -⟩ | ⟨k2, hw2, he, rfl⟩
    · cases hw.symm.trans hw2
    · cases Sum.inr.inj (hw.symm.trans hw2)
      rcases lE2_some he with ⟨rfl, rfl⟩ | ⟨rfl, rfl⟩
      · refine l_catch (k := 1) (pre := []) (suf := [(0, 12, 19, 13)]) (h := 15) (a := 0) (b := 12) X V htb (by decide) rfl (fun z hz => absurd hz List.not_mem_nil) (by decide) hcell hv hcl ?_
        refine lv_astore hx hb dL_follow_15 hl (by decide) rfl (fun ls hl => ?_)
        refine lv_iconst (v := (1 : Int32)) hx hb dL_follow_17 rfl ?_
        exact l_ret X V 18 dL_follow_18
      · refine l_catch (k := 3) (pre := [(0, 12, 15, 19)]) (suf := []) (h := 19) (a := 0) (b := 12) X V htb (by decide) rfl (fun z hz => by
            simp only [List.mem_cons, List.not_mem_nil, or_false] at hz
            subst hz
            exact ⟨1, by decide, by decide, rfl⟩) (by decide) hcell hv hcl ?_
        refine lv_astore hx hb dL_follow_19 hl (by decide) rfl (fun ls hl => ?_)
        refine lv_iconst (v := (2 : Int32)) hx hb dL_follow_21 rfl ?_
        exact l_ret X V 22 dL_follow_22
-- ===== law's found =====
theorem fL_found : lFn yX9_found cX9_found 2 (some .int) 1 95 := ⟨kT_295, kT_296, kT_297, kC_734, rfl, ⟨by decide +kernel, by decide +kernel, by decide +kernel⟩, by decide⟩
set_option maxRecDepth 100000 in
set_option maxHeartbeats 4000000 in
theorem w_found (l : Launch) (hlt : l.stackTraces = false) (N : Nat) (x1 : Int32) : lMet l yL_found cL_found 4 [(0, 9, 12, 19)] 7 1 6 [.int x1] (fun S F => lPg lZi (lE1 1) (pX9_found N x1 S) F) := by
  refine l_start (by decide +kernel) rfl (fun g o => [(0, .ref (g.2.1 0)), (1, .int x1), (2, .ref o)]) (fun _ _ => Nat.le_of_ble_eq_true rfl) (fun _ _ => rfl) ?_
  intro dC dI g sz S o F r S' F' hpf p e s m args below meth c X htb ls hl
  have hx := X.1
  have hb := X.2.1
  obtain ⟨w, hf, hk⟩ := lPg_some hpf
  refine lv_aload_n hx hb dL_found_0 rfl (lv_at hl 2 rfl) ?_
  refine lv_iconst (v := (0 : Int32)) hx hb dL_found_1 rfl ?_
  refine lv_aload_n hx hb dL_found_2 rfl (lv_at hl 0 rfl) ?_
  refine lv_iload_n hx hb dL_found_3 rfl (lv_at hl 1 rfl) ?_
  refine l_call (d := 7) (rest := [.int 0, .ref o]) (As := [.int x1]) X fL_found (c_X9_found l hlt N x1) (by decide) ⟨Nat.le_refl _, Nat.le_refl _⟩ 4 dL_found_4 rfl hl.1 ⟨Nat.le_refl _, Nat.le_refl _⟩ hf rfl (Nat.le_of_ble_eq_true rfl) (fun v hw cc2 cd2 ce2 H1 locs1 V => ?_) (fun k hw cc2 cd2 ce2 H1 locs1 q ce9 V hcell hv hcl => ?_)
  · rcases hk with ⟨v2, hw2, rfl, rfl⟩ | ⟨k2, hw2, -, -⟩
    · cases Sum.inl.inj (hw.symm.trans hw2)
      refine lv_i2l hx hb dL_found_7 rfl ?_
      exact l_tail (tgt := 15) X V 8 dL_found_8 dL_found_9 (by decide) dL_found_15 dL_found_16
    · cases hw.symm.trans hw2
  · rcases hk with ⟨v2, hw2, -, -⟩ | ⟨k2, hw2, he, rfl⟩
    · cases hw.symm.trans hw2
    · cases Sum.inr.inj (hw.symm.trans hw2)
      obtain ⟨rfl, rfl⟩ := lE1_some he
      refine l_catch (k := 1) (pre := []) (suf := []) (h := 12) (a := 0) (b := 9) X V htb (by decide) rfl (fun z hz => absurd hz List.not_mem_nil) (by decide) hcell hv hcl ?_
      refine lv_astore_n hx hb dL_found_12 rfl hl (by decide) rfl (fun ls hl => ?_)
      refine lv_iconst (v := (1 : Int32)) hx hb dL_found_13 rfl ?_
      exact l_ret X V 14 dL_found_14
-- ===== law's live =====
theorem fL_live : lFn yX9_live cX9_live 2 (some .int) 1 98 := ⟨kT_94, kT_95, kT_96, kC_737, rfl, ⟨by decide +kernel, by decide +kernel, by decide +kernel⟩, by decide⟩
set_option maxRecDepth 100000 in
set_option maxHeartbeats 4000000 in
theorem w_live (l : Launch) (hlt : l.stackTraces = false) (N : Nat) (x1 : Int32) : lMet l yL_live cL_live 4 [(0, 9, 12, 19)] 8 1 6 [.int x1] (fun S F => lPg lZi (lE1 1) (pX9_live N x1 S) F) := by
  refine l_start (by decide +kernel) rfl (fun g o => [(0, .ref (g.2.1 0)), (1, .int x1), (2, .ref o)]) (fun _ _ => Nat.le_of_ble_eq_true rfl) (fun _ _ => rfl) ?_
  intro dC dI g sz S o F r S' F' hpf p e s m args below meth c X htb ls hl
  have hx := X.1
  have hb := X.2.1
  obtain ⟨w, hf, hk⟩ := lPg_some hpf
  refine lv_aload_n hx hb dL_live_0 rfl (lv_at hl 2 rfl) ?_
  refine lv_iconst (v := (0 : Int32)) hx hb dL_live_1 rfl ?_
  refine lv_aload_n hx hb dL_live_2 rfl (lv_at hl 0 rfl) ?_
  refine lv_iload_n hx hb dL_live_3 rfl (lv_at hl 1 rfl) ?_
  refine l_call (d := 8) (rest := [.int 0, .ref o]) (As := [.int x1]) X fL_live (c_X9_live l hlt N x1) (by decide) ⟨Nat.le_refl _, Nat.le_refl _⟩ 4 dL_live_4 rfl hl.1 ⟨Nat.le_refl _, Nat.le_refl _⟩ hf rfl (Nat.le_of_ble_eq_true rfl) (fun v hw cc2 cd2 ce2 H1 locs1 V => ?_) (fun k hw cc2 cd2 ce2 H1 locs1 q ce9 V hcell hv hcl => ?_)
  · rcases hk with ⟨v2, hw2, rfl, rfl⟩ | ⟨k2, hw2, -, -⟩
    · cases Sum.inl.inj (hw.symm.trans hw2)
      refine lv_i2l hx hb dL_live_7 rfl ?_
      exact l_tail (tgt := 15) X V 8 dL_live_8 dL_live_9 (by decide) dL_live_15 dL_live_16
    · cases hw.symm.trans hw2
  · rcases hk with ⟨v2, hw2, -, -⟩ | ⟨k2, hw2, he, rfl⟩
    · cases hw.symm.trans hw2
    · cases Sum.inr.inj (hw.symm.trans hw2)
      obtain ⟨rfl, rfl⟩ := lE1_some he
      refine l_catch (k := 1) (pre := []) (suf := []) (h := 12) (a := 0) (b := 9) X V htb (by decide) rfl (fun z hz => absurd hz List.not_mem_nil) (by decide) hcell hv hcl ?_
      refine lv_astore_n hx hb dL_live_12 rfl hl (by decide) rfl (fun ls hl => ?_)
      refine lv_iconst (v := (1 : Int32)) hx hb dL_live_13 rfl ?_
      exact l_ret X V 14 dL_live_14
-- ===== law's parentOf =====
theorem fL_parentOf : lFn yX9_parentOf cX9_parentOf 4 (some .int) 2 101 := ⟨kT_98, kT_99, kT_100, kC_739, rfl, ⟨by decide +kernel, by decide +kernel, by decide +kernel⟩, by decide⟩
set_option maxRecDepth 100000 in
set_option maxHeartbeats 4000000 in
theorem w_parentOf (l : Launch) (hlt : l.stackTraces = false) (N : Nat) (x1 : Int32) (x2 : Int32) : lMet l yL_parentOf cL_parentOf 5 [(0, 10, 13, 19)] 8 2 12 [.int x1, .int x2] (fun S F => lPg lZi (lE1 1) (pX9_parentOf N x1 x2 S) F) := by
  refine l_start (by decide +kernel) rfl (fun g o => [(0, .ref (g.2.1 0)), (1, .int x1), (2, .int x2), (3, .ref o)]) (fun _ _ => Nat.le_of_ble_eq_true rfl) (fun _ _ => rfl) ?_
  intro dC dI g sz S o F r S' F' hpf p e s m args below meth c X htb ls hl
  have hx := X.1
  have hb := X.2.1
  obtain ⟨w, hf, hk⟩ := lPg_some hpf
  refine lv_aload_n hx hb dL_parentOf_0 rfl (lv_at hl 3 rfl) ?_
  refine lv_iconst (v := (0 : Int32)) hx hb dL_parentOf_1 rfl ?_
  refine lv_aload_n hx hb dL_parentOf_2 rfl (lv_at hl 0 rfl) ?_
  refine lv_iload_n hx hb dL_parentOf_3 rfl (lv_at hl 1 rfl) ?_
  refine lv_iload_n hx hb dL_parentOf_4 rfl (lv_at hl 2 rfl) ?_
  refine l_call (d := 8) (rest := [.int 0, .ref o]) (As := [.int x1, .int x2]) X fL_parentOf (c_X9_parentOf l hlt N x1 x2) (by decide) ⟨Nat.le_refl _, Nat.le_refl _⟩ 5 dL_parentOf_5 rfl hl.1 ⟨Nat.le_refl _, Nat.le_refl _⟩ hf rfl (Nat.le_of_ble_eq_true rfl) (fun v hw cc2 cd2 ce2 H1 locs1 V => ?_) (fun k hw cc2 cd2 ce2 H1 locs1 q ce9 V hcell hv hcl => ?_)
  · rcases hk with ⟨v2, hw2, rfl, rfl⟩ | ⟨k2, hw2, -, -⟩
    · cases Sum.inl.inj (hw.symm.trans hw2)
      refine lv_i2l hx hb dL_parentOf_8 rfl ?_
      exact l_tail (tgt := 17) X V 9 dL_parentOf_9 dL_parentOf_10 (by decide) dL_parentOf_17 dL_parentOf_18
    · cases hw.symm.trans hw2
  · rcases hk with ⟨v2, hw2, -, -⟩ | ⟨k2, hw2, he, rfl⟩
    · cases hw.symm.trans hw2
    · cases Sum.inr.inj (hw.symm.trans hw2)
      obtain ⟨rfl, rfl⟩ := lE1_some he
      refine l_catch (k := 1) (pre := []) (suf := []) (h := 13) (a := 0) (b := 10) X V htb (by decide) rfl (fun z hz => absurd hz List.not_mem_nil) (by decide) hcell hv hcl ?_
      refine lv_astore hx hb dL_parentOf_13 hl (by decide) rfl (fun ls hl => ?_)
      refine lv_iconst (v := (1 : Int32)) hx hb dL_parentOf_15 rfl ?_
      exact l_ret X V 16 dL_parentOf_16
-- ===== law's parentAnew =====
theorem fL_parentAnew : lFn yX9_parentAnew cX9_parentAnew 4 (some .int) 2 104 := ⟨kT_102, kT_103, kT_104, kC_740, rfl, ⟨by decide +kernel, by decide +kernel, by decide +kernel⟩, by decide⟩
set_option maxRecDepth 100000 in
set_option maxHeartbeats 4000000 in
theorem w_parentAnew (l : Launch) (hlt : l.stackTraces = false) (N : Nat) (x1 : Int32) (x2 : Int32) : lMet l yL_parentAnew cL_parentAnew 5 [(0, 10, 13, 19)] 8 2 12 [.int x1, .int x2] (fun S F => lPg lZi (lE1 1) (pX9_parentAnew N x1 x2 S) F) := by
  refine l_start (by decide +kernel) rfl (fun g o => [(0, .ref (g.2.1 0)), (1, .int x1), (2, .int x2), (3, .ref o)]) (fun _ _ => Nat.le_of_ble_eq_true rfl) (fun _ _ => rfl) ?_
  intro dC dI g sz S o F r S' F' hpf p e s m args below meth c X htb ls hl
  have hx := X.1
  have hb := X.2.1
  obtain ⟨w, hf, hk⟩ := lPg_some hpf
  refine lv_aload_n hx hb dL_parentAnew_0 rfl (lv_at hl 3 rfl) ?_
  refine lv_iconst (v := (0 : Int32)) hx hb dL_parentAnew_1 rfl ?_
  refine lv_aload_n hx hb dL_parentAnew_2 rfl (lv_at hl 0 rfl) ?_
  refine lv_iload_n hx hb dL_parentAnew_3 rfl (lv_at hl 1 rfl) ?_
  refine lv_iload_n hx hb dL_parentAnew_4 rfl (lv_at hl 2 rfl) ?_
  refine l_call (d := 8) (rest := [.int 0, .ref o]) (As := [.int x1, .int x2]) X fL_parentAnew (c_X9_parentAnew l hlt N x1 x2) (by decide) ⟨Nat.le_refl _, Nat.le_refl _⟩ 5 dL_parentAnew_5 rfl hl.1 ⟨Nat.le_refl _, Nat.le_refl _⟩ hf rfl (Nat.le_of_ble_eq_true rfl) (fun v hw cc2 cd2 ce2 H1 locs1 V => ?_) (fun k hw cc2 cd2 ce2 H1 locs1 q ce9 V hcell hv hcl => ?_)
  · rcases hk with ⟨v2, hw2, rfl, rfl⟩ | ⟨k2, hw2, -, -⟩
    · cases Sum.inl.inj (hw.symm.trans hw2)
      refine lv_i2l hx hb dL_parentAnew_8 rfl ?_
      exact l_tail (tgt := 17) X V 9 dL_parentAnew_9 dL_parentAnew_10 (by decide) dL_parentAnew_17 dL_parentAnew_18
    · cases hw.symm.trans hw2
  · rcases hk with ⟨v2, hw2, -, -⟩ | ⟨k2, hw2, he, rfl⟩
    · cases hw.symm.trans hw2
    · cases Sum.inr.inj (hw.symm.trans hw2)
      obtain ⟨rfl, rfl⟩ := lE1_some he
      refine l_catch (k := 1) (pre := []) (suf := []) (h := 13) (a := 0) (b := 10) X V htb (by decide) rfl (fun z hz => absurd hz List.not_mem_nil) (by decide) hcell hv hcl ?_
      refine lv_astore hx hb dL_parentAnew_13 hl (by decide) rfl (fun ls hl => ?_)
      refine lv_iconst (v := (1 : Int32)) hx hb dL_parentAnew_15 rfl ?_
      exact l_ret X V 16 dL_parentAnew_16
-- ===== law's nameOf =====
theorem fL_nameOf : lFn yX9_nameOf cX9_nameOf 4 (some .int) 2 107 := ⟨kT_106, kT_107, kT_108, kC_741, rfl, ⟨by decide +kernel, by decide +kernel, by decide +kernel⟩, by decide⟩
set_option maxRecDepth 100000 in
set_option maxHeartbeats 4000000 in
theorem w_nameOf (l : Launch) (hlt : l.stackTraces = false) (N : Nat) (x1 : Int32) (x2 : Int32) : lMet l yL_nameOf cL_nameOf 5 [(0, 10, 13, 19)] 8 2 12 [.int x1, .int x2] (fun S F => lPg lZi (lE1 1) (pX9_nameOf N x1 x2 S) F) := by
  refine l_start (by decide +kernel) rfl (fun g o => [(0, .ref (g.2.1 0)), (1, .int x1), (2, .int x2), (3, .ref o)]) (fun _ _ => Nat.le_of_ble_eq_true rfl) (fun _ _ => rfl) ?_
  intro dC dI g sz S o F r S' F' hpf p e s m args below meth c X htb ls hl
  have hx := X.1
  have hb := X.2.1
  obtain ⟨w, hf, hk⟩ := lPg_some hpf
  refine lv_aload_n hx hb dL_nameOf_0 rfl (lv_at hl 3 rfl) ?_
  refine lv_iconst (v := (0 : Int32)) hx hb dL_nameOf_1 rfl ?_
  refine lv_aload_n hx hb dL_nameOf_2 rfl (lv_at hl 0 rfl) ?_
  refine lv_iload_n hx hb dL_nameOf_3 rfl (lv_at hl 1 rfl) ?_
  refine lv_iload_n hx hb dL_nameOf_4 rfl (lv_at hl 2 rfl) ?_
  refine l_call (d := 8) (rest := [.int 0, .ref o]) (As := [.int x1, .int x2]) X fL_nameOf (c_X9_nameOf l hlt N x1 x2) (by decide) ⟨Nat.le_refl _, Nat.le_refl _⟩ 5 dL_nameOf_5 rfl hl.1 ⟨Nat.le_refl _, Nat.le_refl _⟩ hf rfl (Nat.le_of_ble_eq_true rfl) (fun v hw cc2 cd2 ce2 H1 locs1 V => ?_) (fun k hw cc2 cd2 ce2 H1 locs1 q ce9 V hcell hv hcl => ?_)
  · rcases hk with ⟨v2, hw2, rfl, rfl⟩ | ⟨k2, hw2, -, -⟩
    · cases Sum.inl.inj (hw.symm.trans hw2)
      refine lv_i2l hx hb dL_nameOf_8 rfl ?_
      exact l_tail (tgt := 17) X V 9 dL_nameOf_9 dL_nameOf_10 (by decide) dL_nameOf_17 dL_nameOf_18
    · cases hw.symm.trans hw2
  · rcases hk with ⟨v2, hw2, -, -⟩ | ⟨k2, hw2, he, rfl⟩
    · cases hw.symm.trans hw2
    · cases Sum.inr.inj (hw.symm.trans hw2)
      obtain ⟨rfl, rfl⟩ := lE1_some he
      refine l_catch (k := 1) (pre := []) (suf := []) (h := 13) (a := 0) (b := 10) X V htb (by decide) rfl (fun z hz => absurd hz List.not_mem_nil) (by decide) hcell hv hcl ?_
      refine lv_astore hx hb dL_nameOf_13 hl (by decide) rfl (fun ls hl => ?_)
      refine lv_iconst (v := (1 : Int32)) hx hb dL_nameOf_15 rfl ?_
      exact l_ret X V 16 dL_nameOf_16
-- ===== law's valueAt =====
theorem fL_valueAt : lFn yX9_valueAt cX9_valueAt 6 (some .int) 4 110 := ⟨kT_110, kT_111, kT_112, kC_748, rfl, ⟨by decide +kernel, by decide +kernel, by decide +kernel⟩, by decide⟩
set_option maxRecDepth 100000 in
set_option maxHeartbeats 4000000 in
theorem w_valueAt (l : Launch) (hlt : l.stackTraces = false) (N : Nat) (x1 : Int32) (x2 : Int32) (x3 : Int32) (x4 : Int32) : lMet l yL_valueAt cL_valueAt 7 [(0, 14, 17, 19)] 8 4 24 [.int x1, .int x2, .int x3, .int x4] (fun S F => lPg lZi (lE1 1) (pX9_valueAt N x1 x2 x3 x4 S) F) := by
  refine l_start (by decide +kernel) rfl (fun g o => [(0, .ref (g.2.1 0)), (1, .int x1), (2, .int x2), (3, .int x3), (4, .int x4), (5, .ref o)]) (fun _ _ => Nat.le_of_ble_eq_true rfl) (fun _ _ => rfl) ?_
  intro dC dI g sz S o F r S' F' hpf p e s m args below meth c X htb ls hl
  have hx := X.1
  have hb := X.2.1
  obtain ⟨w, hf, hk⟩ := lPg_some hpf
  refine lv_aload hx hb dL_valueAt_0 (lv_at hl 5 rfl) ?_
  refine lv_iconst (v := (0 : Int32)) hx hb dL_valueAt_2 rfl ?_
  refine lv_aload_n hx hb dL_valueAt_3 rfl (lv_at hl 0 rfl) ?_
  refine lv_iload_n hx hb dL_valueAt_4 rfl (lv_at hl 1 rfl) ?_
  refine lv_iload_n hx hb dL_valueAt_5 rfl (lv_at hl 2 rfl) ?_
  refine lv_iload_n hx hb dL_valueAt_6 rfl (lv_at hl 3 rfl) ?_
  refine lv_iload hx hb dL_valueAt_7 (lv_at hl 4 rfl) ?_
  refine l_call (d := 8) (rest := [.int 0, .ref o]) (As := [.int x1, .int x2, .int x3, .int x4]) X fL_valueAt (c_X9_valueAt l hlt N x1 x2 x3 x4) (by decide) ⟨Nat.le_refl _, Nat.le_refl _⟩ 9 dL_valueAt_9 rfl hl.1 ⟨Nat.le_refl _, Nat.le_refl _⟩ hf rfl (Nat.le_of_ble_eq_true rfl) (fun v hw cc2 cd2 ce2 H1 locs1 V => ?_) (fun k hw cc2 cd2 ce2 H1 locs1 q ce9 V hcell hv hcl => ?_)
  · rcases hk with ⟨v2, hw2, rfl, rfl⟩ | ⟨k2, hw2, -, -⟩
    · cases Sum.inl.inj (hw.symm.trans hw2)
      refine lv_i2l hx hb dL_valueAt_12 rfl ?_
      exact l_tail (tgt := 21) X V 13 dL_valueAt_13 dL_valueAt_14 (by decide) dL_valueAt_21 dL_valueAt_22
    · cases hw.symm.trans hw2
  · rcases hk with ⟨v2, hw2, -, -⟩ | ⟨k2, hw2, he, rfl⟩
    · cases hw.symm.trans hw2
    · cases Sum.inr.inj (hw.symm.trans hw2)
      obtain ⟨rfl, rfl⟩ := lE1_some he
      refine l_catch (k := 1) (pre := []) (suf := []) (h := 17) (a := 0) (b := 14) X V htb (by decide) rfl (fun z hz => absurd hz List.not_mem_nil) (by decide) hcell hv hcl ?_
      refine lv_astore hx hb dL_valueAt_17 hl (by decide) rfl (fun ls hl => ?_)
      refine lv_iconst (v := (1 : Int32)) hx hb dL_valueAt_19 rfl ?_
      exact l_ret X V 20 dL_valueAt_20
-- ===== law's valuesAnew =====
theorem fL_valuesAnew : lFn yX9_valuesAnew cX9_valuesAnew 5 (some .int) 3 113 := ⟨kT_114, kT_115, kT_116, kC_749, rfl, ⟨by decide +kernel, by decide +kernel, by decide +kernel⟩, by decide⟩
set_option maxRecDepth 100000 in
set_option maxHeartbeats 4000000 in
theorem w_valuesAnew (l : Launch) (hlt : l.stackTraces = false) (N : Nat) (x1 : Int32) (x2 : Int32) (x3 : Int32) : lMet l yL_valuesAnew cL_valuesAnew 6 [(0, 12, 15, 19)] 8 3 18 [.int x1, .int x2, .int x3] (fun S F => lPg lZi (lE1 1) (pX9_valuesAnew N x1 x2 x3 S) F) := by
  refine l_start (by decide +kernel) rfl (fun g o => [(0, .ref (g.2.1 0)), (1, .int x1), (2, .int x2), (3, .int x3), (4, .ref o)]) (fun _ _ => Nat.le_of_ble_eq_true rfl) (fun _ _ => rfl) ?_
  intro dC dI g sz S o F r S' F' hpf p e s m args below meth c X htb ls hl
  have hx := X.1
  have hb := X.2.1
  obtain ⟨w, hf, hk⟩ := lPg_some hpf
  refine lv_aload hx hb dL_valuesAnew_0 (lv_at hl 4 rfl) ?_
  refine lv_iconst (v := (0 : Int32)) hx hb dL_valuesAnew_2 rfl ?_
  refine lv_aload_n hx hb dL_valuesAnew_3 rfl (lv_at hl 0 rfl) ?_
  refine lv_iload_n hx hb dL_valuesAnew_4 rfl (lv_at hl 1 rfl) ?_
  refine lv_iload_n hx hb dL_valuesAnew_5 rfl (lv_at hl 2 rfl) ?_
  refine lv_iload_n hx hb dL_valuesAnew_6 rfl (lv_at hl 3 rfl) ?_
  refine l_call (d := 8) (rest := [.int 0, .ref o]) (As := [.int x1, .int x2, .int x3]) X fL_valuesAnew (c_X9_valuesAnew l hlt N x1 x2 x3) (by decide) ⟨Nat.le_refl _, Nat.le_refl _⟩ 7 dL_valuesAnew_7 rfl hl.1 ⟨Nat.le_refl _, Nat.le_refl _⟩ hf rfl (Nat.le_of_ble_eq_true rfl) (fun v hw cc2 cd2 ce2 H1 locs1 V => ?_) (fun k hw cc2 cd2 ce2 H1 locs1 q ce9 V hcell hv hcl => ?_)
  · rcases hk with ⟨v2, hw2, rfl, rfl⟩ | ⟨k2, hw2, -, -⟩
    · cases Sum.inl.inj (hw.symm.trans hw2)
      refine lv_i2l hx hb dL_valuesAnew_10 rfl ?_
      exact l_tail (tgt := 19) X V 11 dL_valuesAnew_11 dL_valuesAnew_12 (by decide) dL_valuesAnew_19 dL_valuesAnew_20
    · cases hw.symm.trans hw2
  · rcases hk with ⟨v2, hw2, -, -⟩ | ⟨k2, hw2, he, rfl⟩
    · cases hw.symm.trans hw2
    · cases Sum.inr.inj (hw.symm.trans hw2)
      obtain ⟨rfl, rfl⟩ := lE1_some he
      refine l_catch (k := 1) (pre := []) (suf := []) (h := 15) (a := 0) (b := 12) X V htb (by decide) rfl (fun z hz => absurd hz List.not_mem_nil) (by decide) hcell hv hcl ?_
      refine lv_astore hx hb dL_valuesAnew_15 hl (by decide) rfl (fun ls hl => ?_)
      refine lv_iconst (v := (1 : Int32)) hx hb dL_valuesAnew_17 rfl ?_
      exact l_ret X V 18 dL_valuesAnew_18
-- ===== law's linkOf =====
theorem fL_linkOf : lFn yX9_linkOf cX9_linkOf 4 (some .int) 2 116 := ⟨kT_118, kT_119, kT_120, kC_750, rfl, ⟨by decide +kernel, by decide +kernel, by decide +kernel⟩, by decide⟩
set_option maxRecDepth 100000 in
set_option maxHeartbeats 4000000 in
theorem w_linkOf (l : Launch) (hlt : l.stackTraces = false) (N : Nat) (x1 : Int32) (x2 : Int32) : lMet l yL_linkOf cL_linkOf 5 [(0, 10, 13, 19)] 8 2 12 [.int x1, .int x2] (fun S F => lPg lZi (lE1 1) (pX9_linkOf N x1 x2 S) F) := by
  refine l_start (by decide +kernel) rfl (fun g o => [(0, .ref (g.2.1 0)), (1, .int x1), (2, .int x2), (3, .ref o)]) (fun _ _ => Nat.le_of_ble_eq_true rfl) (fun _ _ => rfl) ?_
  intro dC dI g sz S o F r S' F' hpf p e s m args below meth c X htb ls hl
  have hx := X.1
  have hb := X.2.1
  obtain ⟨w, hf, hk⟩ := lPg_some hpf
  refine lv_aload_n hx hb dL_linkOf_0 rfl (lv_at hl 3 rfl) ?_
  refine lv_iconst (v := (0 : Int32)) hx hb dL_linkOf_1 rfl ?_
  refine lv_aload_n hx hb dL_linkOf_2 rfl (lv_at hl 0 rfl) ?_
  refine lv_iload_n hx hb dL_linkOf_3 rfl (lv_at hl 1 rfl) ?_
  refine lv_iload_n hx hb dL_linkOf_4 rfl (lv_at hl 2 rfl) ?_
  refine l_call (d := 8) (rest := [.int 0, .ref o]) (As := [.int x1, .int x2]) X fL_linkOf (c_X9_linkOf l hlt N x1 x2) (by decide) ⟨Nat.le_refl _, Nat.le_refl _⟩ 5 dL_linkOf_5 rfl hl.1 ⟨Nat.le_refl _, Nat.le_refl _⟩ hf rfl (Nat.le_of_ble_eq_true rfl) (fun v hw cc2 cd2 ce2 H1 locs1 V => ?_) (fun k hw cc2 cd2 ce2 H1 locs1 q ce9 V hcell hv hcl => ?_)
  · rcases hk with ⟨v2, hw2, rfl, rfl⟩ | ⟨k2, hw2, -, -⟩
    · cases Sum.inl.inj (hw.symm.trans hw2)
      refine lv_i2l hx hb dL_linkOf_8 rfl ?_
      exact l_tail (tgt := 17) X V 9 dL_linkOf_9 dL_linkOf_10 (by decide) dL_linkOf_17 dL_linkOf_18
    · cases hw.symm.trans hw2
  · rcases hk with ⟨v2, hw2, -, -⟩ | ⟨k2, hw2, he, rfl⟩
    · cases hw.symm.trans hw2
    · cases Sum.inr.inj (hw.symm.trans hw2)
      obtain ⟨rfl, rfl⟩ := lE1_some he
      refine l_catch (k := 1) (pre := []) (suf := []) (h := 13) (a := 0) (b := 10) X V htb (by decide) rfl (fun z hz => absurd hz List.not_mem_nil) (by decide) hcell hv hcl ?_
      refine lv_astore hx hb dL_linkOf_13 hl (by decide) rfl (fun ls hl => ?_)
      refine lv_iconst (v := (1 : Int32)) hx hb dL_linkOf_15 rfl ?_
      exact l_ret X V 16 dL_linkOf_16
-- ===== law's may =====
theorem fL_may : lFn yX9_may cX9_may 6 (some .boolean) 4 119 := ⟨kT_122, kT_123, kT_124, kC_751, rfl, ⟨by decide +kernel, by decide +kernel, by decide +kernel⟩, by decide⟩
set_option maxRecDepth 100000 in
set_option maxHeartbeats 4000000 in
theorem w_may (l : Launch) (hlt : l.stackTraces = false) (N : Nat) (x1 : Int32) (x2 : Int32) (x3 : Int32) (x4 : Int32) : lMet l yL_may cL_may 7 [(0, 21, 24, 19)] 8 4 24 [.int x1, .int x2, .int x3, .int x4] (fun S F => lPg lZb (lE1 1) (pX9_may N x1 x2 x3 x4 S) F) := by
  refine l_start (by decide +kernel) rfl (fun g o => [(0, .ref (g.2.1 0)), (1, .int x1), (2, .int x2), (3, .int x3), (4, .int x4), (5, .ref o)]) (fun _ _ => Nat.le_of_ble_eq_true rfl) (fun _ _ => rfl) ?_
  intro dC dI g sz S o F r S' F' hpf p e s m args below meth c X htb ls hl
  have hx := X.1
  have hb := X.2.1
  obtain ⟨w, hf, hk⟩ := lPg_some hpf
  refine lv_aload hx hb dL_may_0 (lv_at hl 5 rfl) ?_
  refine lv_iconst (v := (0 : Int32)) hx hb dL_may_2 rfl ?_
  refine lv_aload_n hx hb dL_may_3 rfl (lv_at hl 0 rfl) ?_
  refine lv_iload_n hx hb dL_may_4 rfl (lv_at hl 1 rfl) ?_
  refine lv_iload_n hx hb dL_may_5 rfl (lv_at hl 2 rfl) ?_
  refine lv_iload_n hx hb dL_may_6 rfl (lv_at hl 3 rfl) ?_
  refine lv_iload hx hb dL_may_7 (lv_at hl 4 rfl) ?_
  refine l_call (d := 8) (rest := [.int 0, .ref o]) (As := [.int x1, .int x2, .int x3, .int x4]) X fL_may (c_X9_may l hlt N x1 x2 x3 x4) (by decide) ⟨Nat.le_refl _, Nat.le_refl _⟩ 9 dL_may_9 rfl hl.1 ⟨Nat.le_refl _, Nat.le_refl _⟩ hf rfl (Nat.le_of_ble_eq_true rfl) (fun v hw cc2 cd2 ce2 H1 locs1 V => ?_) (fun k hw cc2 cd2 ce2 H1 locs1 q ce9 V hcell hv hcl => ?_)
  · rcases hk with ⟨v2, hw2, rfl, rfl⟩ | ⟨k2, hw2, -, -⟩
    · cases Sum.inl.inj (hw.symm.trans hw2)
      refine lv_if_eq (tgt := 19) hx hb dL_may_12 (by decide) (fun hz => ?_) (fun hz => ?_)
      · have hz2 : lZb v = 0 := by unfold lZb; rw [if_pos hz]
        rw [hz2]
        refine lv_lconst (v := (0 : Int64)) hx hb dL_may_19 rfl ?_
        exact l_tail (tgt := 28) X V 20 dL_may_20 dL_may_21 (by decide) dL_may_28 dL_may_29
      · have hz2 : lZb v = 1 := by unfold lZb; rw [if_neg hz]
        rw [hz2]
        refine lv_lconst (v := (1 : Int64)) hx hb dL_may_15 rfl ?_
        refine lv_goto (tgt := 20) hx hb dL_may_16 (by decide) ?_
        exact l_tail (tgt := 28) X V 20 dL_may_20 dL_may_21 (by decide) dL_may_28 dL_may_29
    · cases hw.symm.trans hw2
  · rcases hk with ⟨v2, hw2, -, -⟩ | ⟨k2, hw2, he, rfl⟩
    · cases hw.symm.trans hw2
    · cases Sum.inr.inj (hw.symm.trans hw2)
      obtain ⟨rfl, rfl⟩ := lE1_some he
      refine l_catch (k := 1) (pre := []) (suf := []) (h := 24) (a := 0) (b := 21) X V htb (by decide) rfl (fun z hz => absurd hz List.not_mem_nil) (by decide) hcell hv hcl ?_
      refine lv_astore hx hb dL_may_24 hl (by decide) rfl (fun ls hl => ?_)
      refine lv_iconst (v := (1 : Int32)) hx hb dL_may_26 rfl ?_
      exact l_ret X V 27 dL_may_27
-- ===== law's childAt =====
theorem fL_childAt : lFn yX9_childAt cX9_childAt 6 (some .int) 3 123 := ⟨kT_126, kT_127, kT_128, kC_755, rfl, ⟨by decide +kernel, by decide +kernel, by decide +kernel⟩, by decide⟩
set_option maxRecDepth 100000 in
set_option maxHeartbeats 4000000 in
theorem w_childAt (l : Launch) (hlt : l.stackTraces = false) (N : Nat) (x1 : Int32) (x2 : Int32) (x3 : Int32) : lMet l yL_childAt cL_childAt 6 [(0, 12, 15, 19)] 8 3 18 [.int x1, .int x2, .int x3] (fun S F => lPg lZi (lE1 1) (pX9_childAt N x1 x2 x3 S) F) := by
  refine l_start (by decide +kernel) rfl (fun g o => [(0, .ref (g.2.1 0)), (1, .int x1), (2, .int x2), (3, .int x3), (4, .ref o)]) (fun _ _ => Nat.le_of_ble_eq_true rfl) (fun _ _ => rfl) ?_
  intro dC dI g sz S o F r S' F' hpf p e s m args below meth c X htb ls hl
  have hx := X.1
  have hb := X.2.1
  obtain ⟨w, hf, hk⟩ := lPg_some hpf
  refine lv_aload hx hb dL_childAt_0 (lv_at hl 4 rfl) ?_
  refine lv_iconst (v := (0 : Int32)) hx hb dL_childAt_2 rfl ?_
  refine lv_aload_n hx hb dL_childAt_3 rfl (lv_at hl 0 rfl) ?_
  refine lv_iload_n hx hb dL_childAt_4 rfl (lv_at hl 1 rfl) ?_
  refine lv_iload_n hx hb dL_childAt_5 rfl (lv_at hl 2 rfl) ?_
  refine lv_iload_n hx hb dL_childAt_6 rfl (lv_at hl 3 rfl) ?_
  refine l_call (d := 8) (rest := [.int 0, .ref o]) (As := [.int x1, .int x2, .int x3]) X fL_childAt (c_X9_childAt l hlt N x1 x2 x3) (by decide) ⟨Nat.le_refl _, Nat.le_refl _⟩ 7 dL_childAt_7 rfl hl.1 ⟨Nat.le_refl _, Nat.le_refl _⟩ hf rfl (Nat.le_of_ble_eq_true rfl) (fun v hw cc2 cd2 ce2 H1 locs1 V => ?_) (fun k hw cc2 cd2 ce2 H1 locs1 q ce9 V hcell hv hcl => ?_)
  · rcases hk with ⟨v2, hw2, rfl, rfl⟩ | ⟨k2, hw2, -, -⟩
    · cases Sum.inl.inj (hw.symm.trans hw2)
      refine lv_i2l hx hb dL_childAt_10 rfl ?_
      exact l_tail (tgt := 19) X V 11 dL_childAt_11 dL_childAt_12 (by decide) dL_childAt_19 dL_childAt_20
    · cases hw.symm.trans hw2
  · rcases hk with ⟨v2, hw2, -, -⟩ | ⟨k2, hw2, he, rfl⟩
    · cases hw.symm.trans hw2
    · cases Sum.inr.inj (hw.symm.trans hw2)
      obtain ⟨rfl, rfl⟩ := lE1_some he
      refine l_catch (k := 1) (pre := []) (suf := []) (h := 15) (a := 0) (b := 12) X V htb (by decide) rfl (fun z hz => absurd hz List.not_mem_nil) (by decide) hcell hv hcl ?_
      refine lv_astore hx hb dL_childAt_15 hl (by decide) rfl (fun ls hl => ?_)
      refine lv_iconst (v := (1 : Int32)) hx hb dL_childAt_17 rfl ?_
      exact l_ret X V 18 dL_childAt_18
-- ===== law's conflicts =====
theorem fL_conflicts : lFn yX9_conflicts cX9_conflicts 6 (some .int) 2 126 := ⟨kT_130, kT_131, kT_132, kC_762, rfl, ⟨by decide +kernel, by decide +kernel, by decide +kernel⟩, by decide⟩
set_option maxRecDepth 100000 in
set_option maxHeartbeats 4000000 in
theorem w_conflicts (l : Launch) (hlt : l.stackTraces = false) (N : Nat) (x1 : Int32) (x2 : Int32) : lMet l yL_conflicts cL_conflicts 5 [(0, 10, 13, 19)] 8 2 12 [.int x1, .int x2] (fun S F => lPg lZi (lE1 1) (pX9_conflicts N x1 x2 S) F) := by
  refine l_start (by decide +kernel) rfl (fun g o => [(0, .ref (g.2.1 0)), (1, .int x1), (2, .int x2), (3, .ref o)]) (fun _ _ => Nat.le_of_ble_eq_true rfl) (fun _ _ => rfl) ?_
  intro dC dI g sz S o F r S' F' hpf p e s m args below meth c X htb ls hl
  have hx := X.1
  have hb := X.2.1
  obtain ⟨w, hf, hk⟩ := lPg_some hpf
  refine lv_aload_n hx hb dL_conflicts_0 rfl (lv_at hl 3 rfl) ?_
  refine lv_iconst (v := (0 : Int32)) hx hb dL_conflicts_1 rfl ?_
  refine lv_aload_n hx hb dL_conflicts_2 rfl (lv_at hl 0 rfl) ?_
  refine lv_iload_n hx hb dL_conflicts_3 rfl (lv_at hl 1 rfl) ?_
  refine lv_iload_n hx hb dL_conflicts_4 rfl (lv_at hl 2 rfl) ?_
  refine l_call (d := 8) (rest := [.int 0, .ref o]) (As := [.int x1, .int x2]) X fL_conflicts (c_X9_conflicts l hlt N x1 x2) (by decide) ⟨Nat.le_refl _, Nat.le_refl _⟩ 5 dL_conflicts_5 rfl hl.1 ⟨Nat.le_refl _, Nat.le_refl _⟩ hf rfl (Nat.le_of_ble_eq_true rfl) (fun v hw cc2 cd2 ce2 H1 locs1 V => ?_) (fun k hw cc2 cd2 ce2 H1 locs1 q ce9 V hcell hv hcl => ?_)
  · rcases hk with ⟨v2, hw2, rfl, rfl⟩ | ⟨k2, hw2, -, -⟩
    · cases Sum.inl.inj (hw.symm.trans hw2)
      refine lv_i2l hx hb dL_conflicts_8 rfl ?_
      exact l_tail (tgt := 17) X V 9 dL_conflicts_9 dL_conflicts_10 (by decide) dL_conflicts_17 dL_conflicts_18
    · cases hw.symm.trans hw2
  · rcases hk with ⟨v2, hw2, -, -⟩ | ⟨k2, hw2, he, rfl⟩
    · cases hw.symm.trans hw2
    · cases Sum.inr.inj (hw.symm.trans hw2)
      obtain ⟨rfl, rfl⟩ := lE1_some he
      refine l_catch (k := 1) (pre := []) (suf := []) (h := 13) (a := 0) (b := 10) X V htb (by decide) rfl (fun z hz => absurd hz List.not_mem_nil) (by decide) hcell hv hcl ?_
      refine lv_astore hx hb dL_conflicts_13 hl (by decide) rfl (fun ls hl => ?_)
      refine lv_iconst (v := (1 : Int32)) hx hb dL_conflicts_15 rfl ?_
      exact l_ret X V 16 dL_conflicts_16
-- ===== law's knows =====
theorem fL_knows : lFn yX9_knows cX9_knows 4 (some .int) 2 129 := ⟨kT_353, kT_354, kT_355, kC_763, rfl, ⟨by decide +kernel, by decide +kernel, by decide +kernel⟩, by decide⟩
set_option maxRecDepth 100000 in
set_option maxHeartbeats 4000000 in
theorem w_knows (l : Launch) (hlt : l.stackTraces = false) (N : Nat) (x1 : Int32) (x2 : Int32) : lMet l yL_knows cL_knows 5 [(0, 10, 13, 19)] 8 2 12 [.int x1, .int x2] (fun S F => lPg lZi (lE1 1) (pX9_knows N x1 x2 S) F) := by
  refine l_start (by decide +kernel) rfl (fun g o => [(0, .ref (g.2.1 0)), (1, .int x1), (2, .int x2), (3, .ref o)]) (fun _ _ => Nat.le_of_ble_eq_true rfl) (fun _ _ => rfl) ?_
  intro dC dI g sz S o F r S' F' hpf p e s m args below meth c X htb ls hl
  have hx := X.1
  have hb := X.2.1
  obtain ⟨w, hf, hk⟩ := lPg_some hpf
  refine lv_aload_n hx hb dL_knows_0 rfl (lv_at hl 3 rfl) ?_
  refine lv_iconst (v := (0 : Int32)) hx hb dL_knows_1 rfl ?_
  refine lv_aload_n hx hb dL_knows_2 rfl (lv_at hl 0 rfl) ?_
  refine lv_iload_n hx hb dL_knows_3 rfl (lv_at hl 1 rfl) ?_
  refine lv_iload_n hx hb dL_knows_4 rfl (lv_at hl 2 rfl) ?_
  refine l_call (d := 8) (rest := [.int 0, .ref o]) (As := [.int x1, .int x2]) X fL_knows (c_X9_knows l hlt N x1 x2) (by decide) ⟨Nat.le_refl _, Nat.le_refl _⟩ 5 dL_knows_5 rfl hl.1 ⟨Nat.le_refl _, Nat.le_refl _⟩ hf rfl (Nat.le_of_ble_eq_true rfl) (fun v hw cc2 cd2 ce2 H1 locs1 V => ?_) (fun k hw cc2 cd2 ce2 H1 locs1 q ce9 V hcell hv hcl => ?_)
  · rcases hk with ⟨v2, hw2, rfl, rfl⟩ | ⟨k2, hw2, -, -⟩
    · cases Sum.inl.inj (hw.symm.trans hw2)
      refine lv_i2l hx hb dL_knows_8 rfl ?_
      exact l_tail (tgt := 17) X V 9 dL_knows_9 dL_knows_10 (by decide) dL_knows_17 dL_knows_18
    · cases hw.symm.trans hw2
  · rcases hk with ⟨v2, hw2, -, -⟩ | ⟨k2, hw2, he, rfl⟩
    · cases hw.symm.trans hw2
    · cases Sum.inr.inj (hw.symm.trans hw2)
      obtain ⟨rfl, rfl⟩ := lE1_some he
      refine l_catch (k := 1) (pre := []) (suf := []) (h := 13) (a := 0) (b := 10) X V htb (by decide) rfl (fun z hz => absurd hz List.not_mem_nil) (by decide) hcell hv hcl ?_
      refine lv_astore hx hb dL_knows_13 hl (by decide) rfl (fun ls hl => ?_)
      refine lv_iconst (v := (1 : Int32)) hx hb dL_knows_15 rfl ?_
      exact l_ret X V 16 dL_knows_16
-- ===== law's marks =====
theorem fL_marks : lFn yX9_marks cX9_marks 2 (some .int) 1 132 := ⟨kT_135, kT_136, kT_137, kC_766, rfl, ⟨by decide +kernel, by decide +kernel, by decide +kernel⟩, by decide⟩
set_option maxRecDepth 100000 in
set_option maxHeartbeats 4000000 in
theorem w_marks (l : Launch) (hlt : l.stackTraces = false) (N : Nat) (x1 : Int32) : lMet l yL_marks cL_marks 4 [(0, 9, 12, 19)] 8 1 6 [.int x1] (fun S F => lPg lZi (lE1 1) (pX9_marks N x1 S) F) := by
  refine l_start (by decide +kernel) rfl (fun g o => [(0, .ref (g.2.1 0)), (1, .int x1), (2, .ref o)]) (fun _ _ => Nat.le_of_ble_eq_true rfl) (fun _ _ => rfl) ?_
  intro dC dI g sz S o F r S' F' hpf p e s m args below meth c X htb ls hl
  have hx := X.1
  have hb := X.2.1
  obtain ⟨w, hf, hk⟩ := lPg_some hpf
  refine lv_aload_n hx hb dL_marks_0 rfl (lv_at hl 2 rfl) ?_
  refine lv_iconst (v := (0 : Int32)) hx hb dL_marks_1 rfl ?_
  refine lv_aload_n hx hb dL_marks_2 rfl (lv_at hl 0 rfl) ?_
  refine lv_iload_n hx hb dL_marks_3 rfl (lv_at hl 1 rfl) ?_
  refine l_call (d := 8) (rest := [.int 0, .ref o]) (As := [.int x1]) X fL_marks (c_X9_marks l hlt N x1) (by decide) ⟨Nat.le_refl _, Nat.le_refl _⟩ 4 dL_marks_4 rfl hl.1 ⟨Nat.le_refl _, Nat.le_refl _⟩ hf rfl (Nat.le_of_ble_eq_true rfl) (fun v hw cc2 cd2 ce2 H1 locs1 V => ?_) (fun k hw cc2 cd2 ce2 H1 locs1 q ce9 V hcell hv hcl => ?_)
  · rcases hk with ⟨v2, hw2, rfl, rfl⟩ | ⟨k2, hw2, -, -⟩
    · cases Sum.inl.inj (hw.symm.trans hw2)
      refine lv_i2l hx hb dL_marks_7 rfl ?_
      exact l_tail (tgt := 15) X V 8 dL_marks_8 dL_marks_9 (by decide) dL_marks_15 dL_marks_16
    · cases hw.symm.trans hw2
  · rcases hk with ⟨v2, hw2, -, -⟩ | ⟨k2, hw2, he, rfl⟩
    · cases hw.symm.trans hw2
    · cases Sum.inr.inj (hw.symm.trans hw2)
      obtain ⟨rfl, rfl⟩ := lE1_some he
      refine l_catch (k := 1) (pre := []) (suf := []) (h := 12) (a := 0) (b := 9) X V htb (by decide) rfl (fun z hz => absurd hz List.not_mem_nil) (by decide) hcell hv hcl ?_
      refine lv_astore_n hx hb dL_marks_12 rfl hl (by decide) rfl (fun ls hl => ?_)
      refine lv_iconst (v := (1 : Int32)) hx hb dL_marks_13 rfl ?_
      exact l_ret X V 14 dL_marks_14
-- ===== law's areAlike =====
theorem fL_areAlike : lFn yX9_areAlike cX9_areAlike 6 (some .boolean) 2 135 := ⟨kT_139, kT_140, kT_141, kC_770, rfl, ⟨by decide +kernel, by decide +kernel, by decide +kernel⟩, by decide⟩
set_option maxRecDepth 100000 in
set_option maxHeartbeats 4000000 in
theorem w_areAlike (l : Launch) (hlt : l.stackTraces = false) (N : Nat) (x1 : Int32) (x2 : Int32) : lMet l yL_areAlike cL_areAlike 5 [(0, 17, 20, 19)] 8 2 12 [.int x1, .int x2] (fun S F => lPg lZb (lE1 1) (pX9_areAlike N x1 x2 S) F) := by
  refine l_start (by decide +kernel) rfl (fun g o => [(0, .ref (g.2.1 0)), (1, .int x1), (2, .int x2), (3, .ref o)]) (fun _ _ => Nat.le_of_ble_eq_true rfl) (fun _ _ => rfl) ?_
  intro dC dI g sz S o F r S' F' hpf p e s m args below meth c X htb ls hl
  have hx := X.1
  have hb := X.2.1
  obtain ⟨w, hf, hk⟩ := lPg_some hpf
  refine lv_aload_n hx hb dL_areAlike_0 rfl (lv_at hl 3 rfl) ?_
  refine lv_iconst (v := (0 : Int32)) hx hb dL_areAlike_1 rfl ?_
  refine lv_aload_n hx hb dL_areAlike_2 rfl (lv_at hl 0 rfl) ?_
  refine lv_iload_n hx hb dL_areAlike_3 rfl (lv_at hl 1 rfl) ?_
  refine lv_iload_n hx hb dL_areAlike_4 rfl (lv_at hl 2 rfl) ?_
  refine l_call (d := 8) (rest := [.int 0, .ref o]) (As := [.int x1, .int x2]) X fL_areAlike (c_X9_areAlike l hlt N x1 x2) (by decide) ⟨Nat.le_refl _, Nat.le_refl _⟩ 5 dL_areAlike_5 rfl hl.1 ⟨Nat.le_refl _, Nat.le_refl _⟩ hf rfl (Nat.le_of_ble_eq_true rfl) (fun v hw cc2 cd2 ce2 H1 locs1 V => ?_) (fun k hw cc2 cd2 ce2 H1 locs1 q ce9 V hcell hv hcl => ?_)
  · rcases hk with ⟨v2, hw2, rfl, rfl⟩ | ⟨k2, hw2, -, -⟩
    · cases Sum.inl.inj (hw.symm.trans hw2)
      refine lv_if_eq (tgt := 15) hx hb dL_areAlike_8 (by decide) (fun hz => ?_) (fun hz => ?_)
      · have hz2 : lZb v = 0 := by unfold lZb; rw [if_pos hz]
        rw [hz2]
        refine lv_lconst (v := (0 : Int64)) hx hb dL_areAlike_15 rfl ?_
        exact l_tail (tgt := 24) X V 16 dL_areAlike_16 dL_areAlike_17 (by decide) dL_areAlike_24 dL_areAlike_25
      · have hz2 : lZb v = 1 := by unfold lZb; rw [if_neg hz]
        rw [hz2]
        refine lv_lconst (v := (1 : Int64)) hx hb dL_areAlike_11 rfl ?_
        refine lv_goto (tgt := 16) hx hb dL_areAlike_12 (by decide) ?_
        exact l_tail (tgt := 24) X V 16 dL_areAlike_16 dL_areAlike_17 (by decide) dL_areAlike_24 dL_areAlike_25
    · cases hw.symm.trans hw2
  · rcases hk with ⟨v2, hw2, -, -⟩ | ⟨k2, hw2, he, rfl⟩
    · cases hw.symm.trans hw2
    · cases Sum.inr.inj (hw.symm.trans hw2)
      obtain ⟨rfl, rfl⟩ := lE1_some he
      refine l_catch (k := 1) (pre := []) (suf := []) (h := 20) (a := 0) (b := 17) X V htb (by decide) rfl (fun z hz => absurd hz List.not_mem_nil) (by decide) hcell hv hcl ?_
      refine lv_astore hx hb dL_areAlike_20 hl (by decide) rfl (fun ls hl => ?_)
      refine lv_iconst (v := (1 : Int32)) hx hb dL_areAlike_22 rfl ?_
      exact l_ret X V 23 dL_areAlike_23
