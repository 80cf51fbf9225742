theorem fX_add : lFn yX9_add cX9_add 7 (some .int) 4 10 := ⟨kT_7, kT_8, kT_9, kC_610, rfl, ⟨by decide +kernel, by decide +kernel, by decide +kernel⟩⟩
theorem fX_addValue : lFn yX9_addValue cX9_addValue 7 (some .int) 4 16 := ⟨kT_10, kT_11, kT_12, kC_621, rfl, ⟨by decide +kernel, by decide +kernel, by decide +kernel⟩⟩
theorem fX_removeValue : lFn yX9_removeValue cX9_removeValue 8 (some .int) 4 19 := ⟨kT_13, kT_14, kT_15, kC_625, rfl, ⟨by decide +kernel, by decide +kernel, by decide +kernel⟩⟩
theorem fX_replace : lFn yX9_replace cX9_replace 7 (some .int) 4 22 := ⟨kT_16, kT_17, kT_18, kC_626, rfl, ⟨by decide +kernel, by decide +kernel, by decide +kernel⟩⟩
theorem fX_rename : lFn yX9_rename cX9_rename 6 (some .int) 3 25 := ⟨kT_19, kT_20, kT_21, kC_629, rfl, ⟨by decide +kernel, by decide +kernel, by decide +kernel⟩⟩
theorem fX_link : lFn yX9_link cX9_link 6 (some .int) 3 29 := ⟨kT_22, kT_23, kT_24, kC_645, rfl, ⟨by decide +kernel, by decide +kernel, by decide +kernel⟩⟩
theorem fX_move : lFn yX9_move cX9_move 6 (some .int) 3 32 := ⟨kT_25, kT_26, kT_27, kC_632, rfl, ⟨by decide +kernel, by decide +kernel, by decide +kernel⟩⟩
theorem fX_delete : lFn yX9_delete cX9_delete 4 (some .int) 2 35 := ⟨kT_28, kT_29, kT_30, kC_643, rfl, ⟨by decide +kernel, by decide +kernel, by decide +kernel⟩⟩
theorem fX_parentOf : lFn yX9_parentOf cX9_parentOf 4 (some .int) 2 39 := ⟨kT_31, kT_32, kT_33, kC_730, rfl, ⟨by decide +kernel, by decide +kernel, by decide +kernel⟩⟩
theorem fX_search : lFn yX9_search cX9_search 4 (some .int) 3 42 := ⟨kT_34, kT_35, kT_36, kC_716, rfl, ⟨by decide +kernel, by decide +kernel, by decide +kernel⟩⟩
theorem fX_follow : lFn yX9_follow cX9_follow 4 (some .int) 3 45 := ⟨kT_37, kT_38, kT_39, kC_724, rfl, ⟨by decide +kernel, by decide +kernel, by decide +kernel⟩⟩
theorem fX_searchByWalk : lFn yX9_searchByWalk cX9_searchByWalk 4 (some .int) 3 48 := ⟨kT_40, kT_41, kT_42, kC_720, rfl, ⟨by decide +kernel, by decide +kernel, by decide +kernel⟩⟩
theorem fX_found : lFn yX9_found cX9_found 2 (some .int) 1 51 := ⟨kT_43, kT_44, kT_45, kC_725, rfl, ⟨by decide +kernel, by decide +kernel, by decide +kernel⟩⟩
theorem fX_rule : lFn yX9_rule cX9_rule 10 (some .int) 6 59 := ⟨kT_47, kT_48, kT_49, kC_657, rfl, ⟨by decide +kernel, by decide +kernel, by decide +kernel⟩⟩
theorem fX_exchange : lFn yX9_exchange cX9_exchange 9 (some .int) 3 160 := ⟨kT_131, kT_132, kT_133, kC_670, rfl, ⟨by decide +kernel, by decide +kernel, by decide +kernel⟩⟩
theorem fX_sweep : lFn yX9_sweep cX9_sweep 6 (some .int) 1 163 := ⟨kT_135, kT_136, kT_137, kC_678, rfl, ⟨by decide +kernel, by decide +kernel, by decide +kernel⟩⟩
theorem fX_wipe : lFn yX9_wipe cX9_wipe 2 (some .int) 0 166 := ⟨kT_140, kT_141, kT_142, kC_705, rfl, ⟨by decide +kernel, by decide +kernel, by decide +kernel⟩⟩
theorem fX_equal : lFn yX9_equal cX9_equal 3 (some .int) 2 170 := ⟨kT_143, kT_144, kT_145, kC_690, rfl, ⟨by decide +kernel, by decide +kernel, by decide +kernel⟩⟩
theorem fX_atLeast : lFn yX9_atLeast cX9_atLeast 3 (some .int) 2 173 := ⟨kT_146, kT_147, kT_148, kC_691, rfl, ⟨by decide +kernel, by decide +kernel, by decide +kernel⟩⟩
theorem fX_ofClass : lFn yX9_ofClass cX9_ofClass 2 (some .int) 1 176 := ⟨kT_149, kT_150, kT_151, kC_696, rfl, ⟨by decide +kernel, by decide +kernel, by decide +kernel⟩⟩
theorem fX_has : lFn yX9_has cX9_has 2 (some .int) 1 179 := ⟨kT_152, kT_153, kT_154, kC_692, rfl, ⟨by decide +kernel, by decide +kernel, by decide +kernel⟩⟩
theorem fX_not : lFn yX9_not cX9_not 1 (some .int) 0 182 := ⟨kT_155, kT_156, kT_157, kC_701, rfl, ⟨by decide +kernel, by decide +kernel, by decide +kernel⟩⟩
theorem fX_combine : lFn yX9_combine cX9_combine 2 (some .int) 1 185 := ⟨kT_158, kT_159, kT_160, kC_697, rfl, ⟨by decide +kernel, by decide +kernel, by decide +kernel⟩⟩
theorem fX_parentAnew : lFn yX9_parentAnew cX9_parentAnew 4 (some .int) 2 205 := ⟨kT_173, kT_174, kT_175, kC_731, rfl, ⟨by decide +kernel, by decide +kernel, by decide +kernel⟩⟩
theorem fX_nameOf : lFn yX9_nameOf cX9_nameOf 4 (some .int) 2 208 := ⟨kT_176, kT_177, kT_178, kC_732, rfl, ⟨by decide +kernel, by decide +kernel, by decide +kernel⟩⟩
theorem fX_linkOf : lFn yX9_linkOf cX9_linkOf 4 (some .int) 2 211 := ⟨kT_179, kT_180, kT_181, kC_741, rfl, ⟨by decide +kernel, by decide +kernel, by decide +kernel⟩⟩
theorem fX_valueAt : lFn yX9_valueAt cX9_valueAt 6 (some .int) 4 214 := ⟨kT_182, kT_183, kT_184, kC_739, rfl, ⟨by decide +kernel, by decide +kernel, by decide +kernel⟩⟩
theorem fX_valuesAnew : lFn yX9_valuesAnew cX9_valuesAnew 5 (some .int) 3 217 := ⟨kT_185, kT_186, kT_187, kC_740, rfl, ⟨by decide +kernel, by decide +kernel, by decide +kernel⟩⟩
theorem fX_may : lFn yX9_may cX9_may 6 (some .boolean) 4 220 := ⟨kT_188, kT_189, kT_190, kC_742, rfl, ⟨by decide +kernel, by decide +kernel, by decide +kernel⟩⟩
theorem fX_live : lFn yX9_live cX9_live 2 (some .int) 1 223 := ⟨kT_192, kT_193, kT_194, kC_728, rfl, ⟨by decide +kernel, by decide +kernel, by decide +kernel⟩⟩
theorem fX_conflicts : lFn yX9_conflicts cX9_conflicts 6 (some .int) 2 226 := ⟨kT_195, kT_196, kT_197, kC_753, rfl, ⟨by decide +kernel, by decide +kernel, by decide +kernel⟩⟩
theorem fX_marks : lFn yX9_marks cX9_marks 2 (some .int) 1 229 := ⟨kT_198, kT_199, kT_200, kC_757, rfl, ⟨by decide +kernel, by decide +kernel, by decide +kernel⟩⟩
theorem fX_knows : lFn yX9_knows cX9_knows 4 (some .int) 2 231 := ⟨kT_201, kT_202, kT_203, kC_754, rfl, ⟨by decide +kernel, by decide +kernel, by decide +kernel⟩⟩
theorem fX_childAt : lFn yX9_childAt cX9_childAt 6 (some .int) 3 234 := ⟨kT_204, kT_205, kT_206, kC_746, rfl, ⟨by decide +kernel, by decide +kernel, by decide +kernel⟩⟩
theorem fX_attribute : lFn yX9_attribute cX9_attribute 3 (some .int) 2 242 := ⟨kT_214, kT_215, kT_216, kC_451, rfl, ⟨by decide +kernel, by decide +kernel, by decide +kernel⟩⟩
theorem fX_objectClass : lFn yX9_objectClass cX9_objectClass 4 (some .int) 3 246 := ⟨kT_217, kT_218, kT_219, kC_473, rfl, ⟨by decide +kernel, by decide +kernel, by decide +kernel⟩⟩
theorem fX_draft : lFn yX9_draft cX9_draft 3 (some .int) 2 253 := ⟨kT_222, kT_223, kT_224, kC_496, rfl, ⟨by decide +kernel, by decide +kernel, by decide +kernel⟩⟩
theorem fX_undraft : lFn yX9_undraft cX9_undraft 2 (some .int) 0 256 := ⟨kT_225, kT_226, kT_227, kC_497, rfl, ⟨by decide +kernel, by decide +kernel, by decide +kernel⟩⟩
theorem fX_serve : lFn yX9_serve cX9_serve 5 (some .int) 2 282 := ⟨kT_242, kT_243, kT_244, kC_476, rfl, ⟨by decide +kernel, by decide +kernel, by decide +kernel⟩⟩
-- ===== the law's calls =====
noncomputable def pL_calls (N : Nat) (x1 : Int32) (x2 : Int32) (x3 : Int32) (x4 : Int32) (x5 : Int32) (S : kS) (L : lS) : Option (Int32 × kS × lS) :=
    if x1 = (0 : Int32) then (
      lbt 11 435 11 435 0 0 (pX9_add N x2 x3 x4 x5 S) (fun v161 S162 C163 D164 =>
          lre 11 435 C163 D164 v161 S162 L)
      (fun j9 S9 => lEx L j9 S9))
    else (
      if x1 = (1 : Int32) then (
        lbt 11 429 11 435 0 0 (pX9_addValue N x2 x3 x4 x5 S) (fun v156 S157 C158 D159 =>
            lre 11 435 C158 D159 v156 S157 L)
        (fun j9 S9 => lEx L j9 S9))
      else (
        if x1 = (2 : Int32) then (
          lbt 10 423 11 435 0 0 (pX9_removeValue N x2 x3 x4 x5 S) (fun v151 S152 C153 D154 =>
              lre 11 435 C153 D154 v151 S152 L)
          (fun j9 S9 => lEx L j9 S9))
        else (
          if x1 = (3 : Int32) then (
            lbt 9 417 11 435 0 0 (pX9_replace N x2 x3 x4 x5 S) (fun v146 S147 C148 D149 =>
                lre 11 435 C148 D149 v146 S147 L)
            (fun j9 S9 => lEx L j9 S9))
          else (
            if x1 = (4 : Int32) then (
              lbt 8 411 11 435 0 0 (pX9_rename N x2 x3 x4 S) (fun v141 S142 C143 D144 =>
                  lre 11 435 C143 D144 v141 S142 L)
              (fun j9 S9 => lEx L j9 S9))
            else (
              if x1 = (5 : Int32) then (
                lbt 8 411 11 435 0 0 (pX9_link N x2 x3 x4 S) (fun v136 S137 C138 D139 =>
                    lre 11 435 C138 D139 v136 S137 L)
                (fun j9 S9 => lEx L j9 S9))
              else (
                if x1 = (7 : Int32) then (
                  lbt 10 423 11 435 0 0 (pX9_move N x2 x3 x4 S) (fun v131 S132 C133 D134 =>
                      lre 11 435 C133 D134 v131 S132 L)
                  (fun j9 S9 => lEx L j9 S9))
                else (
                  if x1 = (8 : Int32) then (
                    lbt 7 405 11 435 0 0 (pX9_delete N x2 x3 S) (fun v126 S127 C128 D129 =>
                        lre 11 435 C128 D129 v126 S127 L)
                    (fun j9 S9 => lEx L j9 S9))
                  else (
                    if x1 = (9 : Int32) then (
                      lbt 2 12 11 435 0 0 (pX9_parentOf N x2 x3 S) (fun v121 S122 C123 D124 =>
                          lre 11 435 C123 D124 v121 S122 L)
                      (fun j9 S9 => lEx L j9 S9))
                    else (
                      if x1 = (10 : Int32) then (
                        lbt 4 24 11 435 0 0 (pX9_search N x2 x3 x4 S) (fun v116 S117 C118 D119 =>
                            lre 11 435 C118 D119 v116 S117 L)
                        (fun j9 S9 => lEx L j9 S9))
                      else (
                        if x1 = (11 : Int32) then (
                          lbt 4 24 11 435 0 0 (pX9_follow N x2 x3 x4 S) (fun v111 S112 C113 D114 =>
                              lre 11 435 C113 D114 v111 S112 L)
                          (fun j9 S9 => lEx L j9 S9))
                        else (
                          if x1 = (12 : Int32) then (
                            lbt 4 24 11 435 0 0 (pX9_searchByWalk N x2 x3 x4 S) (fun v106 S107 C108 D109 =>
                                lre 11 435 C108 D109 v106 S107 L)
                            (fun j9 S9 => lEx L j9 S9))
                          else (
                            lbt 1 6 11 435 0 0 (pX9_found N x2 S) (fun v101 S102 C103 D104 =>
                                lre 11 435 C103 D104 v101 S102 L)
                            (fun j9 S9 => lEx L j9 S9)))))))))))))
theorem fL_calls : lFnS yL_calls (.codeWith yL_calls cL_calls 7 (some .int) [(0, 206, 207, 55), (0, 206, 212, 57)]) 6 138 := ⟨kT_110, kT_111, kT_46, rfl, by decide +kernel⟩
set_option maxRecDepth 100000 in
set_option maxHeartbeats 4000000 in
theorem c_L_calls (l : Launch) (hlt : l.stackTraces = false) (N : Nat) (x1 : Int32) (x2 : Int32) (x3 : Int32) (x4 : Int32) (x5 : Int32) : lMet l yL_calls (.codeWith yL_calls cL_calls 7 (some .int) [(0, 206, 207, 55), (0, 206, 212, 57)]) 9 347 11 435 (fun ca a => [.ref (ca 0), .int x1, .int x2, .int x3, .int x4, .int x5]) qI (pL_calls N x1 x2 x3 x4 x5) := by
  refine l_startW hlt (by decide +kernel) rfl (fun ca a => [(0, .ref (ca 0)), (1, .int x1), (2, .int x2), (3, .int x3), (4, .int x4), (5, .int x5)]) (fun _ _ => Nat.le_of_ble_eq_true rfl) (fun _ _ => rfl) ?_
  intro dC dI g a sz Si Li r Sf Lf hpf p e s m args below meth c X hr htb H locs I ls hl
  have hx := X.1
  have hb := X.2.1
  have hCD : (0 : Nat) ≤ 11 ∧ (0 : Nat) ≤ 435 := ⟨Nat.zero_le _, Nat.zero_le _⟩
  unfold pL_calls at hpf
  refine lv_iload_n hx hb dL_calls_0 rfl (lv_at hl 1 rfl) ?_
  refine b_if_ne hx hb 17 1 dL_calls_1 (by decide) hpf (fun hpf => ?_) (fun hpf => ?_)
  · refine lv_iload_n hx hb dL_calls_17 rfl (lv_at hl 1 rfl) ?_
    refine lv_iconst (v := (1 : Int32)) hx hb dL_calls_18 (by decide) ?_
    refine b_icmp_ne hx hb 35 19 dL_calls_19 (by decide) hpf (fun hpf => ?_) (fun hpf => ?_)
    · refine lv_iload_n hx hb dL_calls_35 rfl (lv_at hl 1 rfl) ?_
      refine lv_iconst (v := (2 : Int32)) hx hb dL_calls_36 (by decide) ?_
      refine b_icmp_ne hx hb 53 37 dL_calls_37 (by decide) hpf (fun hpf => ?_) (fun hpf => ?_)
      · refine lv_iload_n hx hb dL_calls_53 rfl (lv_at hl 1 rfl) ?_
        refine lv_iconst (v := (3 : Int32)) hx hb dL_calls_54 (by decide) ?_
        refine b_icmp_ne hx hb 71 55 dL_calls_55 (by decide) hpf (fun hpf => ?_) (fun hpf => ?_)
        · refine lv_iload_n hx hb dL_calls_71 rfl (lv_at hl 1 rfl) ?_
          refine lv_iconst (v := (4 : Int32)) hx hb dL_calls_72 (by decide) ?_
          refine b_icmp_ne hx hb 87 73 dL_calls_73 (by decide) hpf (fun hpf => ?_) (fun hpf => ?_)
          · refine lv_iload_n hx hb dL_calls_87 rfl (lv_at hl 1 rfl) ?_
            refine lv_iconst (v := (5 : Int32)) hx hb dL_calls_88 (by decide) ?_
            refine b_icmp_ne hx hb 103 89 dL_calls_89 (by decide) hpf (fun hpf => ?_) (fun hpf => ?_)
            · refine lv_iload_n hx hb dL_calls_103 rfl (lv_at hl 1 rfl) ?_
              refine lv_bipush (v := (7 : Int32)) hx hb dL_calls_104 (by decide) ?_
              refine b_icmp_ne hx hb 120 106 dL_calls_106 (by decide) hpf (fun hpf => ?_) (fun hpf => ?_)
              · refine lv_iload_n hx hb dL_calls_120 rfl (lv_at hl 1 rfl) ?_
                refine lv_bipush (v := (8 : Int32)) hx hb dL_calls_121 (by decide) ?_
                refine b_icmp_ne hx hb 135 123 dL_calls_123 (by decide) hpf (fun hpf => ?_) (fun hpf => ?_)
                · refine lv_iload_n hx hb dL_calls_135 rfl (lv_at hl 1 rfl) ?_
                  refine lv_bipush (v := (9 : Int32)) hx hb dL_calls_136 (by decide) ?_
                  refine b_icmp_ne hx hb 150 138 dL_calls_138 (by decide) hpf (fun hpf => ?_) (fun hpf => ?_)
                  · refine lv_iload_n hx hb dL_calls_150 rfl (lv_at hl 1 rfl) ?_
                    refine lv_bipush (v := (10 : Int32)) hx hb dL_calls_151 (by decide) ?_
                    refine b_icmp_ne hx hb 167 153 dL_calls_153 (by decide) hpf (fun hpf => ?_) (fun hpf => ?_)
                    · refine lv_iload_n hx hb dL_calls_167 rfl (lv_at hl 1 rfl) ?_
                      refine lv_bipush (v := (11 : Int32)) hx hb dL_calls_168 (by decide) ?_
                      refine b_icmp_ne hx hb 184 170 dL_calls_170 (by decide) hpf (fun hpf => ?_) (fun hpf => ?_)
                      · refine lv_iload_n hx hb dL_calls_184 rfl (lv_at hl 1 rfl) ?_
                        refine lv_bipush (v := (12 : Int32)) hx hb dL_calls_185 (by decide) ?_
                        refine b_icmp_ne hx hb 201 187 dL_calls_187 (by decide) hpf (fun hpf => ?_) (fun hpf => ?_)
                        · refine lv_aload_n hx hb dL_calls_201 rfl (lv_at hl 0 rfl) ?_
                          refine lv_iload_n hx hb dL_calls_202 rfl (lv_at hl 2 rfl) ?_
                          obtain ⟨⟨hc1, hc2⟩, w9, S9, hf9, hk9⟩ := lbt_some hpf
                          refine l_callX (rest := []) (As := [.int x2]) X I fX_found (c_X9_found l hlt N x2) ⟨Nat.le_of_ble_eq_true rfl, Nat.le_of_ble_eq_true rfl⟩ 203 dL_calls_203 rfl hl.1 ⟨Nat.le_trans hc1 (Nat.le_refl _), Nat.le_trans hc2 (Nat.le_refl _)⟩ hf9 rfl (Nat.le_of_ble_eq_true rfl) (fun v101 hw H locs I => ?_) (fun k9 hw H locs q ce9 I hcell hv hcl => ?_)
                          · rcases hk9 with ⟨v2, hw2, hpf⟩ | ⟨k2, hw2, -⟩
                            · cases Sum.inl.inj (hw.symm.trans hw2)
                              exact l_retiB X I hr 206 dL_calls_206 hpf
                            · cases hw.symm.trans hw2
                          · rcases hk9 with ⟨v2, hw2, -⟩ | ⟨k2, hw2, he⟩
                            · cases hw.symm.trans hw2
                            · cases Sum.inr.inj (hw.symm.trans hw2)
                              rcases lEx_some he with ⟨rfl, hr9⟩ | ⟨rfl, hr9⟩
                              · cases hr9
                                refine l_catch (k := 1) (pre := []) (suf := [(0, 206, 212, 57)]) (h := 207) (a1 := 0) (b1 := 206) X htb (by decide) rfl (fun z hz => absurd hz List.not_mem_nil) (by decide) hcell hv hcl ?_
                                refine lv_astore hx hb dL_calls_207 hl (by decide) rfl (fun ls hl => ?_)
                                refine lv_bipush (v := (-9 : Int32)) hx hb dL_calls_209 (by decide) ?_
                                exact l_retiB X I hr 211 dL_calls_211 (by unfold lre; rw [if_pos ⟨hc1, hc2⟩])
                              · cases hr9
                                refine l_catch (k := 3) (pre := [(0, 206, 207, 55)]) (suf := []) (h := 212) (a1 := 0) (b1 := 206) X htb (by decide) rfl (fun z hz => by
        simp only [List.mem_cons, List.not_mem_nil, or_false] at hz
        subst hz
        exact ⟨1, by decide, by decide, rfl⟩) (by decide) hcell hv hcl ?_
                                refine lv_astore hx hb dL_calls_212 hl (by decide) rfl (fun ls hl => ?_)
                                refine lv_bipush (v := (-7 : Int32)) hx hb dL_calls_214 (by decide) ?_
                                exact l_retiB X I hr 216 dL_calls_216 (by unfold lre; rw [if_pos ⟨hc1, hc2⟩])
                        refine lv_aload_n hx hb dL_calls_190 rfl (lv_at hl 0 rfl) ?_
                        refine lv_iload_n hx hb dL_calls_191 rfl (lv_at hl 2 rfl) ?_
                        refine lv_iload_n hx hb dL_calls_192 rfl (lv_at hl 3 rfl) ?_
                        refine lv_iload hx hb dL_calls_193 (lv_at hl 4 rfl) ?_
                        obtain ⟨⟨hc1, hc2⟩, w9, S9, hf9, hk9⟩ := lbt_some hpf
                        refine l_callX (rest := []) (As := [.int x2, .int x3, .int x4]) X I fX_searchByWalk (c_X9_searchByWalk l hlt N x2 x3 x4) ⟨Nat.le_of_ble_eq_true rfl, Nat.le_of_ble_eq_true rfl⟩ 195 dL_calls_195 rfl hl.1 ⟨Nat.le_trans hc1 (Nat.le_refl _), Nat.le_trans hc2 (Nat.le_refl _)⟩ hf9 rfl (Nat.le_of_ble_eq_true rfl) (fun v106 hw H locs I => ?_) (fun k9 hw H locs q ce9 I hcell hv hcl => ?_)
                        · rcases hk9 with ⟨v2, hw2, hpf⟩ | ⟨k2, hw2, -⟩
                          · cases Sum.inl.inj (hw.symm.trans hw2)
                            refine lv_goto (tgt := 206) hx hb dL_calls_198 (by decide) ?_
                            exact l_retiB X I hr 206 dL_calls_206 hpf
                          · cases hw.symm.trans hw2
                        · rcases hk9 with ⟨v2, hw2, -⟩ | ⟨k2, hw2, he⟩
                          · cases hw.symm.trans hw2
                          · cases Sum.inr.inj (hw.symm.trans hw2)
                            rcases lEx_some he with ⟨rfl, hr9⟩ | ⟨rfl, hr9⟩
                            · cases hr9
                              refine l_catch (k := 1) (pre := []) (suf := [(0, 206, 212, 57)]) (h := 207) (a1 := 0) (b1 := 206) X htb (by decide) rfl (fun z hz => absurd hz List.not_mem_nil) (by decide) hcell hv hcl ?_
                              refine lv_astore hx hb dL_calls_207 hl (by decide) rfl (fun ls hl => ?_)
                              refine lv_bipush (v := (-9 : Int32)) hx hb dL_calls_209 (by decide) ?_
                              exact l_retiB X I hr 211 dL_calls_211 (by unfold lre; rw [if_pos ⟨hc1, hc2⟩])
                            · cases hr9
                              refine l_catch (k := 3) (pre := [(0, 206, 207, 55)]) (suf := []) (h := 212) (a1 := 0) (b1 := 206) X htb (by decide) rfl (fun z hz => by
        simp only [List.mem_cons, List.not_mem_nil, or_false] at hz
        subst hz
        exact ⟨1, by decide, by decide, rfl⟩) (by decide) hcell hv hcl ?_
                              refine lv_astore hx hb dL_calls_212 hl (by decide) rfl (fun ls hl => ?_)
                              refine lv_bipush (v := (-7 : Int32)) hx hb dL_calls_214 (by decide) ?_
                              exact l_retiB X I hr 216 dL_calls_216 (by unfold lre; rw [if_pos ⟨hc1, hc2⟩])
                      refine lv_aload_n hx hb dL_calls_173 rfl (lv_at hl 0 rfl) ?_
                      refine lv_iload_n hx hb dL_calls_174 rfl (lv_at hl 2 rfl) ?_
                      refine lv_iload_n hx hb dL_calls_175 rfl (lv_at hl 3 rfl) ?_
                      refine lv_iload hx hb dL_calls_176 (lv_at hl 4 rfl) ?_
                      obtain ⟨⟨hc1, hc2⟩, w9, S9, hf9, hk9⟩ := lbt_some hpf
                      refine l_callX (rest := []) (As := [.int x2, .int x3, .int x4]) X I fX_follow (c_X9_follow l hlt N x2 x3 x4) ⟨Nat.le_of_ble_eq_true rfl, Nat.le_of_ble_eq_true rfl⟩ 178 dL_calls_178 rfl hl.1 ⟨Nat.le_trans hc1 (Nat.le_refl _), Nat.le_trans hc2 (Nat.le_refl _)⟩ hf9 rfl (Nat.le_of_ble_eq_true rfl) (fun v111 hw H locs I => ?_) (fun k9 hw H locs q ce9 I hcell hv hcl => ?_)
                      · rcases hk9 with ⟨v2, hw2, hpf⟩ | ⟨k2, hw2, -⟩
                        · cases Sum.inl.inj (hw.symm.trans hw2)
                          refine lv_goto (tgt := 206) hx hb dL_calls_181 (by decide) ?_
                          exact l_retiB X I hr 206 dL_calls_206 hpf
                        · cases hw.symm.trans hw2
                      · rcases hk9 with ⟨v2, hw2, -⟩ | ⟨k2, hw2, he⟩
                        · cases hw.symm.trans hw2
                        · cases Sum.inr.inj (hw.symm.trans hw2)
                          rcases lEx_some he with ⟨rfl, hr9⟩ | ⟨rfl, hr9⟩
                          · cases hr9
                            refine l_catch (k := 1) (pre := []) (suf := [(0, 206, 212, 57)]) (h := 207) (a1 := 0) (b1 := 206) X htb (by decide) rfl (fun z hz => absurd hz List.not_mem_nil) (by decide) hcell hv hcl ?_
                            refine lv_astore hx hb dL_calls_207 hl (by decide) rfl (fun ls hl => ?_)
                            refine lv_bipush (v := (-9 : Int32)) hx hb dL_calls_209 (by decide) ?_
                            exact l_retiB X I hr 211 dL_calls_211 (by unfold lre; rw [if_pos ⟨hc1, hc2⟩])
                          · cases hr9
                            refine l_catch (k := 3) (pre := [(0, 206, 207, 55)]) (suf := []) (h := 212) (a1 := 0) (b1 := 206) X htb (by decide) rfl (fun z hz => by
        simp only [List.mem_cons, List.not_mem_nil, or_false] at hz
        subst hz
        exact ⟨1, by decide, by decide, rfl⟩) (by decide) hcell hv hcl ?_
                            refine lv_astore hx hb dL_calls_212 hl (by decide) rfl (fun ls hl => ?_)
                            refine lv_bipush (v := (-7 : Int32)) hx hb dL_calls_214 (by decide) ?_
                            exact l_retiB X I hr 216 dL_calls_216 (by unfold lre; rw [if_pos ⟨hc1, hc2⟩])
                    refine lv_aload_n hx hb dL_calls_156 rfl (lv_at hl 0 rfl) ?_
                    refine lv_iload_n hx hb dL_calls_157 rfl (lv_at hl 2 rfl) ?_
                    refine lv_iload_n hx hb dL_calls_158 rfl (lv_at hl 3 rfl) ?_
                    refine lv_iload hx hb dL_calls_159 (lv_at hl 4 rfl) ?_
                    obtain ⟨⟨hc1, hc2⟩, w9, S9, hf9, hk9⟩ := lbt_some hpf
                    refine l_callX (rest := []) (As := [.int x2, .int x3, .int x4]) X I fX_search (c_X9_search l hlt N x2 x3 x4) ⟨Nat.le_of_ble_eq_true rfl, Nat.le_of_ble_eq_true rfl⟩ 161 dL_calls_161 rfl hl.1 ⟨Nat.le_trans hc1 (Nat.le_refl _), Nat.le_trans hc2 (Nat.le_refl _)⟩ hf9 rfl (Nat.le_of_ble_eq_true rfl) (fun v116 hw H locs I => ?_) (fun k9 hw H locs q ce9 I hcell hv hcl => ?_)
                    · rcases hk9 with ⟨v2, hw2, hpf⟩ | ⟨k2, hw2, -⟩
                      · cases Sum.inl.inj (hw.symm.trans hw2)
                        refine lv_goto (tgt := 206) hx hb dL_calls_164 (by decide) ?_
                        exact l_retiB X I hr 206 dL_calls_206 hpf
                      · cases hw.symm.trans hw2
                    · rcases hk9 with ⟨v2, hw2, -⟩ | ⟨k2, hw2, he⟩
                      · cases hw.symm.trans hw2
                      · cases Sum.inr.inj (hw.symm.trans hw2)
                        rcases lEx_some he with ⟨rfl, hr9⟩ | ⟨rfl, hr9⟩
                        · cases hr9
                          refine l_catch (k := 1) (pre := []) (suf := [(0, 206, 212, 57)]) (h := 207) (a1 := 0) (b1 := 206) X htb (by decide) rfl (fun z hz => absurd hz List.not_mem_nil) (by decide) hcell hv hcl ?_
                          refine lv_astore hx hb dL_calls_207 hl (by decide) rfl (fun ls hl => ?_)
                          refine lv_bipush (v := (-9 : Int32)) hx hb dL_calls_209 (by decide) ?_
                          exact l_retiB X I hr 211 dL_calls_211 (by unfold lre; rw [if_pos ⟨hc1, hc2⟩])
                        · cases hr9
                          refine l_catch (k := 3) (pre := [(0, 206, 207, 55)]) (suf := []) (h := 212) (a1 := 0) (b1 := 206) X htb (by decide) rfl (fun z hz => by
        simp only [List.mem_cons, List.not_mem_nil, or_false] at hz
        subst hz
        exact ⟨1, by decide, by decide, rfl⟩) (by decide) hcell hv hcl ?_
                          refine lv_astore hx hb dL_calls_212 hl (by decide) rfl (fun ls hl => ?_)
                          refine lv_bipush (v := (-7 : Int32)) hx hb dL_calls_214 (by decide) ?_
                          exact l_retiB X I hr 216 dL_calls_216 (by unfold lre; rw [if_pos ⟨hc1, hc2⟩])
                  refine lv_aload_n hx hb dL_calls_141 rfl (lv_at hl 0 rfl) ?_
                  refine lv_iload_n hx hb dL_calls_142 rfl (lv_at hl 2 rfl) ?_
                  refine lv_iload_n hx hb dL_calls_143 rfl (lv_at hl 3 rfl) ?_
                  obtain ⟨⟨hc1, hc2⟩, w9, S9, hf9, hk9⟩ := lbt_some hpf
                  refine l_callX (rest := []) (As := [.int x2, .int x3]) X I fX_parentOf (c_X9_parentOf l hlt N x2 x3) ⟨Nat.le_of_ble_eq_true rfl, Nat.le_of_ble_eq_true rfl⟩ 144 dL_calls_144 rfl hl.1 ⟨Nat.le_trans hc1 (Nat.le_refl _), Nat.le_trans hc2 (Nat.le_refl _)⟩ hf9 rfl (Nat.le_of_ble_eq_true rfl) (fun v121 hw H locs I => ?_) (fun k9 hw H locs q ce9 I hcell hv hcl => ?_)
                  · rcases hk9 with ⟨v2, hw2, hpf⟩ | ⟨k2, hw2, -⟩
                    · cases Sum.inl.inj (hw.symm.trans hw2)
                      refine lv_goto (tgt := 206) hx hb dL_calls_147 (by decide) ?_
                      exact l_retiB X I hr 206 dL_calls_206 hpf
                    · cases hw.symm.trans hw2
                  · rcases hk9 with ⟨v2, hw2, -⟩ | ⟨k2, hw2, he⟩
                    · cases hw.symm.trans hw2
                    · cases Sum.inr.inj (hw.symm.trans hw2)
                      rcases lEx_some he with ⟨rfl, hr9⟩ | ⟨rfl, hr9⟩
                      · cases hr9
                        refine l_catch (k := 1) (pre := []) (suf := [(0, 206, 212, 57)]) (h := 207) (a1 := 0) (b1 := 206) X htb (by decide) rfl (fun z hz => absurd hz List.not_mem_nil) (by decide) hcell hv hcl ?_
                        refine lv_astore hx hb dL_calls_207 hl (by decide) rfl (fun ls hl => ?_)
                        refine lv_bipush (v := (-9 : Int32)) hx hb dL_calls_209 (by decide) ?_
                        exact l_retiB X I hr 211 dL_calls_211 (by unfold lre; rw [if_pos ⟨hc1, hc2⟩])
                      · cases hr9
                        refine l_catch (k := 3) (pre := [(0, 206, 207, 55)]) (suf := []) (h := 212) (a1 := 0) (b1 := 206) X htb (by decide) rfl (fun z hz => by
        simp only [List.mem_cons, List.not_mem_nil, or_false] at hz
        subst hz
        exact ⟨1, by decide, by decide, rfl⟩) (by decide) hcell hv hcl ?_
                        refine lv_astore hx hb dL_calls_212 hl (by decide) rfl (fun ls hl => ?_)
                        refine lv_bipush (v := (-7 : Int32)) hx hb dL_calls_214 (by decide) ?_
                        exact l_retiB X I hr 216 dL_calls_216 (by unfold lre; rw [if_pos ⟨hc1, hc2⟩])
                refine lv_aload_n hx hb dL_calls_126 rfl (lv_at hl 0 rfl) ?_
                refine lv_iload_n hx hb dL_calls_127 rfl (lv_at hl 2 rfl) ?_
                refine lv_iload_n hx hb dL_calls_128 rfl (lv_at hl 3 rfl) ?_
                obtain ⟨⟨hc1, hc2⟩, w9, S9, hf9, hk9⟩ := lbt_some hpf
                refine l_callX (rest := []) (As := [.int x2, .int x3]) X I fX_delete (c_X9_delete l hlt N x2 x3) ⟨Nat.le_of_ble_eq_true rfl, Nat.le_of_ble_eq_true rfl⟩ 129 dL_calls_129 rfl hl.1 ⟨Nat.le_trans hc1 (Nat.le_refl _), Nat.le_trans hc2 (Nat.le_refl _)⟩ hf9 rfl (Nat.le_of_ble_eq_true rfl) (fun v126 hw H locs I => ?_) (fun k9 hw H locs q ce9 I hcell hv hcl => ?_)
                · rcases hk9 with ⟨v2, hw2, hpf⟩ | ⟨k2, hw2, -⟩
                  · cases Sum.inl.inj (hw.symm.trans hw2)
                    refine lv_goto (tgt := 206) hx hb dL_calls_132 (by decide) ?_
                    exact l_retiB X I hr 206 dL_calls_206 hpf
                  · cases hw.symm.trans hw2
                · rcases hk9 with ⟨v2, hw2, -⟩ | ⟨k2, hw2, he⟩
                  · cases hw.symm.trans hw2
                  · cases Sum.inr.inj (hw.symm.trans hw2)
                    rcases lEx_some he with ⟨rfl, hr9⟩ | ⟨rfl, hr9⟩
                    · cases hr9
                      refine l_catch (k := 1) (pre := []) (suf := [(0, 206, 212, 57)]) (h := 207) (a1 := 0) (b1 := 206) X htb (by decide) rfl (fun z hz => absurd hz List.not_mem_nil) (by decide) hcell hv hcl ?_
                      refine lv_astore hx hb dL_calls_207 hl (by decide) rfl (fun ls hl => ?_)
                      refine lv_bipush (v := (-9 : Int32)) hx hb dL_calls_209 (by decide) ?_
                      exact l_retiB X I hr 211 dL_calls_211 (by unfold lre; rw [if_pos ⟨hc1, hc2⟩])
                    · cases hr9
                      refine l_catch (k := 3) (pre := [(0, 206, 207, 55)]) (suf := []) (h := 212) (a1 := 0) (b1 := 206) X htb (by decide) rfl (fun z hz => by
        simp only [List.mem_cons, List.not_mem_nil, or_false] at hz
        subst hz
        exact ⟨1, by decide, by decide, rfl⟩) (by decide) hcell hv hcl ?_
                      refine lv_astore hx hb dL_calls_212 hl (by decide) rfl (fun ls hl => ?_)
                      refine lv_bipush (v := (-7 : Int32)) hx hb dL_calls_214 (by decide) ?_
                      exact l_retiB X I hr 216 dL_calls_216 (by unfold lre; rw [if_pos ⟨hc1, hc2⟩])
              refine lv_aload_n hx hb dL_calls_109 rfl (lv_at hl 0 rfl) ?_
              refine lv_iload_n hx hb dL_calls_110 rfl (lv_at hl 2 rfl) ?_
              refine lv_iload_n hx hb dL_calls_111 rfl (lv_at hl 3 rfl) ?_
              refine lv_iload hx hb dL_calls_112 (lv_at hl 4 rfl) ?_
              obtain ⟨⟨hc1, hc2⟩, w9, S9, hf9, hk9⟩ := lbt_some hpf
              refine l_callX (rest := []) (As := [.int x2, .int x3, .int x4]) X I fX_move (c_X9_move l hlt N x2 x3 x4) ⟨Nat.le_of_ble_eq_true rfl, Nat.le_of_ble_eq_true rfl⟩ 114 dL_calls_114 rfl hl.1 ⟨Nat.le_trans hc1 (Nat.le_refl _), Nat.le_trans hc2 (Nat.le_refl _)⟩ hf9 rfl (Nat.le_of_ble_eq_true rfl) (fun v131 hw H locs I => ?_) (fun k9 hw H locs q ce9 I hcell hv hcl => ?_)
              · rcases hk9 with ⟨v2, hw2, hpf⟩ | ⟨k2, hw2, -⟩
                · cases Sum.inl.inj (hw.symm.trans hw2)
                  refine lv_goto (tgt := 206) hx hb dL_calls_117 (by decide) ?_
                  exact l_retiB X I hr 206 dL_calls_206 hpf
                · cases hw.symm.trans hw2
              · rcases hk9 with ⟨v2, hw2, -⟩ | ⟨k2, hw2, he⟩
                · cases hw.symm.trans hw2
                · cases Sum.inr.inj (hw.symm.trans hw2)
                  rcases lEx_some he with ⟨rfl, hr9⟩ | ⟨rfl, hr9⟩
                  · cases hr9
                    refine l_catch (k := 1) (pre := []) (suf := [(0, 206, 212, 57)]) (h := 207) (a1 := 0) (b1 := 206) X htb (by decide) rfl (fun z hz => absurd hz List.not_mem_nil) (by decide) hcell hv hcl ?_
                    refine lv_astore hx hb dL_calls_207 hl (by decide) rfl (fun ls hl => ?_)
                    refine lv_bipush (v := (-9 : Int32)) hx hb dL_calls_209 (by decide) ?_
                    exact l_retiB X I hr 211 dL_calls_211 (by unfold lre; rw [if_pos ⟨hc1, hc2⟩])
                  · cases hr9
                    refine l_catch (k := 3) (pre := [(0, 206, 207, 55)]) (suf := []) (h := 212) (a1 := 0) (b1 := 206) X htb (by decide) rfl (fun z hz => by
        simp only [List.mem_cons, List.not_mem_nil, or_false] at hz
        subst hz
        exact ⟨1, by decide, by decide, rfl⟩) (by decide) hcell hv hcl ?_
                    refine lv_astore hx hb dL_calls_212 hl (by decide) rfl (fun ls hl => ?_)
                    refine lv_bipush (v := (-7 : Int32)) hx hb dL_calls_214 (by decide) ?_
                    exact l_retiB X I hr 216 dL_calls_216 (by unfold lre; rw [if_pos ⟨hc1, hc2⟩])
            refine lv_aload_n hx hb dL_calls_92 rfl (lv_at hl 0 rfl) ?_
            refine lv_iload_n hx hb dL_calls_93 rfl (lv_at hl 2 rfl) ?_
            refine lv_iload_n hx hb dL_calls_94 rfl (lv_at hl 3 rfl) ?_
            refine lv_iload hx hb dL_calls_95 (lv_at hl 4 rfl) ?_
            obtain ⟨⟨hc1, hc2⟩, w9, S9, hf9, hk9⟩ := lbt_some hpf
            refine l_callX (rest := []) (As := [.int x2, .int x3, .int x4]) X I fX_link (c_X9_link l hlt N x2 x3 x4) ⟨Nat.le_of_ble_eq_true rfl, Nat.le_of_ble_eq_true rfl⟩ 97 dL_calls_97 rfl hl.1 ⟨Nat.le_trans hc1 (Nat.le_refl _), Nat.le_trans hc2 (Nat.le_refl _)⟩ hf9 rfl (Nat.le_of_ble_eq_true rfl) (fun v136 hw H locs I => ?_) (fun k9 hw H locs q ce9 I hcell hv hcl => ?_)
            · rcases hk9 with ⟨v2, hw2, hpf⟩ | ⟨k2, hw2, -⟩
              · cases Sum.inl.inj (hw.symm.trans hw2)
                refine lv_goto (tgt := 206) hx hb dL_calls_100 (by decide) ?_
                exact l_retiB X I hr 206 dL_calls_206 hpf
              · cases hw.symm.trans hw2
            · rcases hk9 with ⟨v2, hw2, -⟩ | ⟨k2, hw2, he⟩
              · cases hw.symm.trans hw2
              · cases Sum.inr.inj (hw.symm.trans hw2)
                rcases lEx_some he with ⟨rfl, hr9⟩ | ⟨rfl, hr9⟩
                · cases hr9
                  refine l_catch (k := 1) (pre := []) (suf := [(0, 206, 212, 57)]) (h := 207) (a1 := 0) (b1 := 206) X htb (by decide) rfl (fun z hz => absurd hz List.not_mem_nil) (by decide) hcell hv hcl ?_
                  refine lv_astore hx hb dL_calls_207 hl (by decide) rfl (fun ls hl => ?_)
                  refine lv_bipush (v := (-9 : Int32)) hx hb dL_calls_209 (by decide) ?_
                  exact l_retiB X I hr 211 dL_calls_211 (by unfold lre; rw [if_pos ⟨hc1, hc2⟩])
                · cases hr9
                  refine l_catch (k := 3) (pre := [(0, 206, 207, 55)]) (suf := []) (h := 212) (a1 := 0) (b1 := 206) X htb (by decide) rfl (fun z hz => by
        simp only [List.mem_cons, List.not_mem_nil, or_false] at hz
        subst hz
        exact ⟨1, by decide, by decide, rfl⟩) (by decide) hcell hv hcl ?_
                  refine lv_astore hx hb dL_calls_212 hl (by decide) rfl (fun ls hl => ?_)
                  refine lv_bipush (v := (-7 : Int32)) hx hb dL_calls_214 (by decide) ?_
                  exact l_retiB X I hr 216 dL_calls_216 (by unfold lre; rw [if_pos ⟨hc1, hc2⟩])
          refine lv_aload_n hx hb dL_calls_76 rfl (lv_at hl 0 rfl) ?_
          refine lv_iload_n hx hb dL_calls_77 rfl (lv_at hl 2 rfl) ?_
          refine lv_iload_n hx hb dL_calls_78 rfl (lv_at hl 3 rfl) ?_
          refine lv_iload hx hb dL_calls_79 (lv_at hl 4 rfl) ?_
          obtain ⟨⟨hc1, hc2⟩, w9, S9, hf9, hk9⟩ := lbt_some hpf
          refine l_callX (rest := []) (As := [.int x2, .int x3, .int x4]) X I fX_rename (c_X9_rename l hlt N x2 x3 x4) ⟨Nat.le_of_ble_eq_true rfl, Nat.le_of_ble_eq_true rfl⟩ 81 dL_calls_81 rfl hl.1 ⟨Nat.le_trans hc1 (Nat.le_refl _), Nat.le_trans hc2 (Nat.le_refl _)⟩ hf9 rfl (Nat.le_of_ble_eq_true rfl) (fun v141 hw H locs I => ?_) (fun k9 hw H locs q ce9 I hcell hv hcl => ?_)
          · rcases hk9 with ⟨v2, hw2, hpf⟩ | ⟨k2, hw2, -⟩
            · cases Sum.inl.inj (hw.symm.trans hw2)
              refine lv_goto (tgt := 206) hx hb dL_calls_84 (by decide) ?_
              exact l_retiB X I hr 206 dL_calls_206 hpf
            · cases hw.symm.trans hw2
          · rcases hk9 with ⟨v2, hw2, -⟩ | ⟨k2, hw2, he⟩
            · cases hw.symm.trans hw2
            · cases Sum.inr.inj (hw.symm.trans hw2)
              rcases lEx_some he with ⟨rfl, hr9⟩ | ⟨rfl, hr9⟩
              · cases hr9
                refine l_catch (k := 1) (pre := []) (suf := [(0, 206, 212, 57)]) (h := 207) (a1 := 0) (b1 := 206) X htb (by decide) rfl (fun z hz => absurd hz List.not_mem_nil) (by decide) hcell hv hcl ?_
                refine lv_astore hx hb dL_calls_207 hl (by decide) rfl (fun ls hl => ?_)
                refine lv_bipush (v := (-9 : Int32)) hx hb dL_calls_209 (by decide) ?_
                exact l_retiB X I hr 211 dL_calls_211 (by unfold lre; rw [if_pos ⟨hc1, hc2⟩])
              · cases hr9
                refine l_catch (k := 3) (pre := [(0, 206, 207, 55)]) (suf := []) (h := 212) (a1 := 0) (b1 := 206) X htb (by decide) rfl (fun z hz => by
        simp only [List.mem_cons, List.not_mem_nil, or_false] at hz
        subst hz
        exact ⟨1, by decide, by decide, rfl⟩) (by decide) hcell hv hcl ?_
                refine lv_astore hx hb dL_calls_212 hl (by decide) rfl (fun ls hl => ?_)
                refine lv_bipush (v := (-7 : Int32)) hx hb dL_calls_214 (by decide) ?_
                exact l_retiB X I hr 216 dL_calls_216 (by unfold lre; rw [if_pos ⟨hc1, hc2⟩])
        refine lv_aload_n hx hb dL_calls_58 rfl (lv_at hl 0 rfl) ?_
        refine lv_iload_n hx hb dL_calls_59 rfl (lv_at hl 2 rfl) ?_
        refine lv_iload_n hx hb dL_calls_60 rfl (lv_at hl 3 rfl) ?_
        refine lv_iload hx hb dL_calls_61 (lv_at hl 4 rfl) ?_
        refine lv_iload hx hb dL_calls_63 (lv_at hl 5 rfl) ?_
        obtain ⟨⟨hc1, hc2⟩, w9, S9, hf9, hk9⟩ := lbt_some hpf
        refine l_callX (rest := []) (As := [.int x2, .int x3, .int x4, .int x5]) X I fX_replace (c_X9_replace l hlt N x2 x3 x4 x5) ⟨Nat.le_of_ble_eq_true rfl, Nat.le_of_ble_eq_true rfl⟩ 65 dL_calls_65 rfl hl.1 ⟨Nat.le_trans hc1 (Nat.le_refl _), Nat.le_trans hc2 (Nat.le_refl _)⟩ hf9 rfl (Nat.le_of_ble_eq_true rfl) (fun v146 hw H locs I => ?_) (fun k9 hw H locs q ce9 I hcell hv hcl => ?_)
        · rcases hk9 with ⟨v2, hw2, hpf⟩ | ⟨k2, hw2, -⟩
          · cases Sum.inl.inj (hw.symm.trans hw2)
            refine lv_goto (tgt := 206) hx hb dL_calls_68 (by decide) ?_
            exact l_retiB X I hr 206 dL_calls_206 hpf
          · cases hw.symm.trans hw2
        · rcases hk9 with ⟨v2, hw2, -⟩ | ⟨k2, hw2, he⟩
          · cases hw.symm.trans hw2
          · cases Sum.inr.inj (hw.symm.trans hw2)
            rcases lEx_some he with ⟨rfl, hr9⟩ | ⟨rfl, hr9⟩
            · cases hr9
              refine l_catch (k := 1) (pre := []) (suf := [(0, 206, 212, 57)]) (h := 207) (a1 := 0) (b1 := 206) X htb (by decide) rfl (fun z hz => absurd hz List.not_mem_nil) (by decide) hcell hv hcl ?_
              refine lv_astore hx hb dL_calls_207 hl (by decide) rfl (fun ls hl => ?_)
              refine lv_bipush (v := (-9 : Int32)) hx hb dL_calls_209 (by decide) ?_
              exact l_retiB X I hr 211 dL_calls_211 (by unfold lre; rw [if_pos ⟨hc1, hc2⟩])
            · cases hr9
              refine l_catch (k := 3) (pre := [(0, 206, 207, 55)]) (suf := []) (h := 212) (a1 := 0) (b1 := 206) X htb (by decide) rfl (fun z hz => by
        simp only [List.mem_cons, List.not_mem_nil, or_false] at hz
        subst hz
        exact ⟨1, by decide, by decide, rfl⟩) (by decide) hcell hv hcl ?_
              refine lv_astore hx hb dL_calls_212 hl (by decide) rfl (fun ls hl => ?_)
              refine lv_bipush (v := (-7 : Int32)) hx hb dL_calls_214 (by decide) ?_
              exact l_retiB X I hr 216 dL_calls_216 (by unfold lre; rw [if_pos ⟨hc1, hc2⟩])
      refine lv_aload_n hx hb dL_calls_40 rfl (lv_at hl 0 rfl) ?_
      refine lv_iload_n hx hb dL_calls_41 rfl (lv_at hl 2 rfl) ?_
      refine lv_iload_n hx hb dL_calls_42 rfl (lv_at hl 3 rfl) ?_
      refine lv_iload hx hb dL_calls_43 (lv_at hl 4 rfl) ?_
      refine lv_iload hx hb dL_calls_45 (lv_at hl 5 rfl) ?_
      obtain ⟨⟨hc1, hc2⟩, w9, S9, hf9, hk9⟩ := lbt_some hpf
      refine l_callX (rest := []) (As := [.int x2, .int x3, .int x4, .int x5]) X I fX_removeValue (c_X9_removeValue l hlt N x2 x3 x4 x5) ⟨Nat.le_of_ble_eq_true rfl, Nat.le_of_ble_eq_true rfl⟩ 47 dL_calls_47 rfl hl.1 ⟨Nat.le_trans hc1 (Nat.le_refl _), Nat.le_trans hc2 (Nat.le_refl _)⟩ hf9 rfl (Nat.le_of_ble_eq_true rfl) (fun v151 hw H locs I => ?_) (fun k9 hw H locs q ce9 I hcell hv hcl => ?_)
      · rcases hk9 with ⟨v2, hw2, hpf⟩ | ⟨k2, hw2, -⟩
        · cases Sum.inl.inj (hw.symm.trans hw2)
          refine lv_goto (tgt := 206) hx hb dL_calls_50 (by decide) ?_
          exact l_retiB X I hr 206 dL_calls_206 hpf
        · cases hw.symm.trans hw2
      · rcases hk9 with ⟨v2, hw2, -⟩ | ⟨k2, hw2, he⟩
        · cases hw.symm.trans hw2
        · cases Sum.inr.inj (hw.symm.trans hw2)
          rcases lEx_some he with ⟨rfl, hr9⟩ | ⟨rfl, hr9⟩
          · cases hr9
            refine l_catch (k := 1) (pre := []) (suf := [(0, 206, 212, 57)]) (h := 207) (a1 := 0) (b1 := 206) X htb (by decide) rfl (fun z hz => absurd hz List.not_mem_nil) (by decide) hcell hv hcl ?_
            refine lv_astore hx hb dL_calls_207 hl (by decide) rfl (fun ls hl => ?_)
            refine lv_bipush (v := (-9 : Int32)) hx hb dL_calls_209 (by decide) ?_
            exact l_retiB X I hr 211 dL_calls_211 (by unfold lre; rw [if_pos ⟨hc1, hc2⟩])
          · cases hr9
            refine l_catch (k := 3) (pre := [(0, 206, 207, 55)]) (suf := []) (h := 212) (a1 := 0) (b1 := 206) X htb (by decide) rfl (fun z hz => by
        simp only [List.mem_cons, List.not_mem_nil, or_false] at hz
        subst hz
        exact ⟨1, by decide, by decide, rfl⟩) (by decide) hcell hv hcl ?_
            refine lv_astore hx hb dL_calls_212 hl (by decide) rfl (fun ls hl => ?_)
            refine lv_bipush (v := (-7 : Int32)) hx hb dL_calls_214 (by decide) ?_
            exact l_retiB X I hr 216 dL_calls_216 (by unfold lre; rw [if_pos ⟨hc1, hc2⟩])
    refine lv_aload_n hx hb dL_calls_22 rfl (lv_at hl 0 rfl) ?_
    refine lv_iload_n hx hb dL_calls_23 rfl (lv_at hl 2 rfl) ?_
    refine lv_iload_n hx hb dL_calls_24 rfl (lv_at hl 3 rfl) ?_
    refine lv_iload hx hb dL_calls_25 (lv_at hl 4 rfl) ?_
    refine lv_iload hx hb dL_calls_27 (lv_at hl 5 rfl) ?_
    obtain ⟨⟨hc1, hc2⟩, w9, S9, hf9, hk9⟩ := lbt_some hpf
    refine l_callX (rest := []) (As := [.int x2, .int x3, .int x4, .int x5]) X I fX_addValue (c_X9_addValue l hlt N x2 x3 x4 x5) ⟨Nat.le_of_ble_eq_true rfl, Nat.le_of_ble_eq_true rfl⟩ 29 dL_calls_29 rfl hl.1 ⟨Nat.le_trans hc1 (Nat.le_refl _), Nat.le_trans hc2 (Nat.le_refl _)⟩ hf9 rfl (Nat.le_of_ble_eq_true rfl) (fun v156 hw H locs I => ?_) (fun k9 hw H locs q ce9 I hcell hv hcl => ?_)
    · rcases hk9 with ⟨v2, hw2, hpf⟩ | ⟨k2, hw2, -⟩
      · cases Sum.inl.inj (hw.symm.trans hw2)
        refine lv_goto (tgt := 206) hx hb dL_calls_32 (by decide) ?_
        exact l_retiB X I hr 206 dL_calls_206 hpf
      · cases hw.symm.trans hw2
    · rcases hk9 with ⟨v2, hw2, -⟩ | ⟨k2, hw2, he⟩
      · cases hw.symm.trans hw2
      · cases Sum.inr.inj (hw.symm.trans hw2)
        rcases lEx_some he with ⟨rfl, hr9⟩ | ⟨rfl, hr9⟩
        · cases hr9
          refine l_catch (k := 1) (pre := []) (suf := [(0, 206, 212, 57)]) (h := 207) (a1 := 0) (b1 := 206) X htb (by decide) rfl (fun z hz => absurd hz List.not_mem_nil) (by decide) hcell hv hcl ?_
          refine lv_astore hx hb dL_calls_207 hl (by decide) rfl (fun ls hl => ?_)
          refine lv_bipush (v := (-9 : Int32)) hx hb dL_calls_209 (by decide) ?_
          exact l_retiB X I hr 211 dL_calls_211 (by unfold lre; rw [if_pos ⟨hc1, hc2⟩])
        · cases hr9
          refine l_catch (k := 3) (pre := [(0, 206, 207, 55)]) (suf := []) (h := 212) (a1 := 0) (b1 := 206) X htb (by decide) rfl (fun z hz => by
        simp only [List.mem_cons, List.not_mem_nil, or_false] at hz
        subst hz
        exact ⟨1, by decide, by decide, rfl⟩) (by decide) hcell hv hcl ?_
          refine lv_astore hx hb dL_calls_212 hl (by decide) rfl (fun ls hl => ?_)
          refine lv_bipush (v := (-7 : Int32)) hx hb dL_calls_214 (by decide) ?_
          exact l_retiB X I hr 216 dL_calls_216 (by unfold lre; rw [if_pos ⟨hc1, hc2⟩])
  refine lv_aload_n hx hb dL_calls_4 rfl (lv_at hl 0 rfl) ?_
  refine lv_iload_n hx hb dL_calls_5 rfl (lv_at hl 2 rfl) ?_
  refine lv_iload_n hx hb dL_calls_6 rfl (lv_at hl 3 rfl) ?_
  refine lv_iload hx hb dL_calls_7 (lv_at hl 4 rfl) ?_
  refine lv_iload hx hb dL_calls_9 (lv_at hl 5 rfl) ?_
  obtain ⟨⟨hc1, hc2⟩, w9, S9, hf9, hk9⟩ := lbt_some hpf
  refine l_callX (rest := []) (As := [.int x2, .int x3, .int x4, .int x5]) X I fX_add (c_X9_add l hlt N x2 x3 x4 x5) ⟨Nat.le_of_ble_eq_true rfl, Nat.le_of_ble_eq_true rfl⟩ 11 dL_calls_11 rfl hl.1 ⟨Nat.le_trans hc1 (Nat.le_refl _), Nat.le_trans hc2 (Nat.le_refl _)⟩ hf9 rfl (Nat.le_of_ble_eq_true rfl) (fun v161 hw H locs I => ?_) (fun k9 hw H locs q ce9 I hcell hv hcl => ?_)
  · rcases hk9 with ⟨v2, hw2, hpf⟩ | ⟨k2, hw2, -⟩
    · cases Sum.inl.inj (hw.symm.trans hw2)
      refine lv_goto (tgt := 206) hx hb dL_calls_14 (by decide) ?_
      exact l_retiB X I hr 206 dL_calls_206 hpf
    · cases hw.symm.trans hw2
  · rcases hk9 with ⟨v2, hw2, -⟩ | ⟨k2, hw2, he⟩
    · cases hw.symm.trans hw2
    · cases Sum.inr.inj (hw.symm.trans hw2)
      rcases lEx_some he with ⟨rfl, hr9⟩ | ⟨rfl, hr9⟩
      · cases hr9
        refine l_catch (k := 1) (pre := []) (suf := [(0, 206, 212, 57)]) (h := 207) (a1 := 0) (b1 := 206) X htb (by decide) rfl (fun z hz => absurd hz List.not_mem_nil) (by decide) hcell hv hcl ?_
        refine lv_astore hx hb dL_calls_207 hl (by decide) rfl (fun ls hl => ?_)
        refine lv_bipush (v := (-9 : Int32)) hx hb dL_calls_209 (by decide) ?_
        exact l_retiB X I hr 211 dL_calls_211 (by unfold lre; rw [if_pos ⟨hc1, hc2⟩])
      · cases hr9
        refine l_catch (k := 3) (pre := [(0, 206, 207, 55)]) (suf := []) (h := 212) (a1 := 0) (b1 := 206) X htb (by decide) rfl (fun z hz => by
        simp only [List.mem_cons, List.not_mem_nil, or_false] at hz
        subst hz
        exact ⟨1, by decide, by decide, rfl⟩) (by decide) hcell hv hcl ?_
        refine lv_astore hx hb dL_calls_212 hl (by decide) rfl (fun ls hl => ?_)
        refine lv_bipush (v := (-7 : Int32)) hx hb dL_calls_214 (by decide) ?_
        exact l_retiB X I hr 216 dL_calls_216 (by unfold lre; rw [if_pos ⟨hc1, hc2⟩])
-- ===== the law's rules =====
noncomputable def pL_rules (N : Nat) (x1 : Int32) (x2 : Int32) (x3 : Int32) (x4 : Int32) (x5 : Int32) (x6 : Int32) (S : kS) (L : lS) : Option (Int32 × kS × lS) :=
    lbt 9 417 9 417 0 0 (pX9_rule N x1 x2 x3 x4 x5 x6 S) (fun v101 S102 C103 D104 =>
        lre 9 417 C103 D104 v101 S102 L)
    (fun j9 S9 => lEx L j9 S9)
theorem fL_rules : lFnS yL_rules (.codeWith yL_rules cL_rules 8 (some .int) [(0, 13, 14, 55), (0, 13, 19, 57)]) 7 156 := ⟨kT_128, kT_129, kT_50, rfl, by decide +kernel⟩
set_option maxRecDepth 100000 in
set_option maxHeartbeats 4000000 in
theorem c_L_rules (l : Launch) (hlt : l.stackTraces = false) (N : Nat) (x1 : Int32) (x2 : Int32) (x3 : Int32) (x4 : Int32) (x5 : Int32) (x6 : Int32) : lMet l yL_rules (.codeWith yL_rules cL_rules 8 (some .int) [(0, 13, 14, 55), (0, 13, 19, 57)]) 8 309 9 417 (fun ca a => [.ref (ca 0), .int x1, .int x2, .int x3, .int x4, .int x5, .int x6]) qI (pL_rules N x1 x2 x3 x4 x5 x6) := by
  refine l_startW hlt (by decide +kernel) rfl (fun ca a => [(0, .ref (ca 0)), (1, .int x1), (2, .int x2), (3, .int x3), (4, .int x4), (5, .int x5), (6, .int x6)]) (fun _ _ => Nat.le_of_ble_eq_true rfl) (fun _ _ => rfl) ?_
  intro dC dI g a sz Si Li r Sf Lf hpf p e s m args below meth c X hr htb H locs I ls hl
  have hx := X.1
  have hb := X.2.1
  have hCD : (0 : Nat) ≤ 9 ∧ (0 : Nat) ≤ 417 := ⟨Nat.zero_le _, Nat.zero_le _⟩
  unfold pL_rules at hpf
  refine lv_aload_n hx hb dL_rules_0 rfl (lv_at hl 0 rfl) ?_
  refine lv_iload_n hx hb dL_rules_1 rfl (lv_at hl 1 rfl) ?_
  refine lv_iload_n hx hb dL_rules_2 rfl (lv_at hl 2 rfl) ?_
  refine lv_iload_n hx hb dL_rules_3 rfl (lv_at hl 3 rfl) ?_
  refine lv_iload hx hb dL_rules_4 (lv_at hl 4 rfl) ?_
  refine lv_iload hx hb dL_rules_6 (lv_at hl 5 rfl) ?_
  refine lv_iload hx hb dL_rules_8 (lv_at hl 6 rfl) ?_
  obtain ⟨⟨hc1, hc2⟩, w9, S9, hf9, hk9⟩ := lbt_some hpf
  refine l_callX (rest := []) (As := [.int x1, .int x2, .int x3, .int x4, .int x5, .int x6]) X I fX_rule (c_X9_rule l hlt N x1 x2 x3 x4 x5 x6) ⟨Nat.le_of_ble_eq_true rfl, Nat.le_of_ble_eq_true rfl⟩ 10 dL_rules_10 rfl hl.1 ⟨Nat.le_trans hc1 (Nat.le_refl _), Nat.le_trans hc2 (Nat.le_refl _)⟩ hf9 rfl (Nat.le_of_ble_eq_true rfl) (fun v101 hw H locs I => ?_) (fun k9 hw H locs q ce9 I hcell hv hcl => ?_)
  · rcases hk9 with ⟨v2, hw2, hpf⟩ | ⟨k2, hw2, -⟩
    · cases Sum.inl.inj (hw.symm.trans hw2)
      exact l_retiB X I hr 13 dL_rules_13 hpf
    · cases hw.symm.trans hw2
  · rcases hk9 with ⟨v2, hw2, -⟩ | ⟨k2, hw2, he⟩
    · cases hw.symm.trans hw2
    · cases Sum.inr.inj (hw.symm.trans hw2)
      rcases lEx_some he with ⟨rfl, hr9⟩ | ⟨rfl, hr9⟩
      · cases hr9
        refine l_catch (k := 1) (pre := []) (suf := [(0, 13, 19, 57)]) (h := 14) (a1 := 0) (b1 := 13) X htb (by decide) rfl (fun z hz => absurd hz List.not_mem_nil) (by decide) hcell hv hcl ?_
        refine lv_astore hx hb dL_rules_14 hl (by decide) rfl (fun ls hl => ?_)
        refine lv_bipush (v := (-9 : Int32)) hx hb dL_rules_16 (by decide) ?_
        exact l_retiB X I hr 18 dL_rules_18 (by unfold lre; rw [if_pos ⟨hc1, hc2⟩])
      · cases hr9
        refine l_catch (k := 3) (pre := [(0, 13, 14, 55)]) (suf := []) (h := 19) (a1 := 0) (b1 := 13) X htb (by decide) rfl (fun z hz => by
        simp only [List.mem_cons, List.not_mem_nil, or_false] at hz
        subst hz
        exact ⟨1, by decide, by decide, rfl⟩) (by decide) hcell hv hcl ?_
        refine lv_astore hx hb dL_rules_19 hl (by decide) rfl (fun ls hl => ?_)
        refine lv_bipush (v := (-7 : Int32)) hx hb dL_rules_21 (by decide) ?_
        exact l_retiB X I hr 23 dL_rules_23 (by unfold lre; rw [if_pos ⟨hc1, hc2⟩])
-- ===== the law's adds =====
noncomputable def pL_adds_267 (N : Nat) (x1 : Int32) (x14 : Int32) (x15 : Int32) (x16 : Int32) (x17 : Int32) (S : kS) (L : lS) (C : Nat) (D : Nat) : Option (Int32 × kS × lS) :=
    lbb 11 435 11 435 C D (pL_calls N (0 : Int32) x1 x14 x15 x16 S L) fun v101 S102 L103 C104 D105 =>
    if v101 = x17 then (
      zlB 11 435 C104 D105 (1 : Int32) S102 L103)
    else (
      zlB 11 435 C104 D105 (0 : Int32) S102 L103)
noncomputable def pL_adds_220 (N : Nat) (x1 : Int32) (x14 : Int32) (x15 : Int32) (x16 : Int32) (x17 : Int32) (w19 : Int64) (S : kS) (L : lS) (C : Nat) (D : Nat) : Option (Int32 × kS × lS) :=
    gd (0 : Int32) 20 <|
    lba (pL_makes N x1 (0 : Int32) (aI L 0 (0 : Int32).toNatClampNeg) (((100 : Int32) * x15) + x16) x14 w19 L) fun v101 L102 =>
    gd (0 : Int32) 20 <|
    gd (0 : Int32) 20 <| slv (uI L102 0 (0 : Int32).toNatClampNeg ((aI L102 0 (0 : Int32).toNatClampNeg) + (1 : Int32))) fun L103 =>
    gd (8 : Int32) 20 <| slv (uI L103 0 (8 : Int32).toNatClampNeg (0 : Int32)) fun L104 =>
    pL_adds_267 N x1 x14 x15 x16 x17 S L104 C D
noncomputable def pL_adds_186 (N : Nat) (k_220 : Int32 → Int32 → Int32 → Int32 → Int32 → Int64 → kS → lS → Nat → Nat → Option (Int32 × kS × lS)) : Nat → Int32 → Int32 → Int32 → Int32 → Int32 → Int64 → Int32 → kS → lS → Nat → Nat → Option (Int32 × kS × lS)
  | 0 => fun _ _ _ _ _ _ _ _ _ _ _ => none
  | n_186 + 1 => fun x1 x14 x15 x16 x17 w19 x21 S L C D =>
    gd (8 : Int32) 20 <|
    if (aI L 0 (8 : Int32).toNatClampNeg) ≤ x21 then (
      k_220 x1 x14 x15 x16 x17 w19 S L C D)
    else (
      gd ((9 : Int32) + x21) 20 <|
      nml (w19 ||| (((aI L 0 ((9 : Int32) + x21).toNatClampNeg).toInt64) <<< (((10 : Int32) * x21).toInt64 &&& 63))) fun y101 =>
      nm (x21 + (1 : Int32)) fun y102 =>
      pL_adds_186 N k_220 n_186 x1 x14 x15 x16 x17 y101 y102 S L C D)
noncomputable def pL_adds_166 (N : Nat) (t0 : Int32) (x1 : Int32) (x14 : Int32) (x15 : Int32) (x16 : Int32) (x18 : Int32) (S : kS) (L : lS) (C : Nat) (D : Nat) : Option (Int32 × kS × lS) :=
    if x18 = (0 : Int32) then (
      pL_adds_267 N x1 x14 x15 x16 t0 S L C D)
    else (
      gd (8 : Int32) 20 <|
      nml (((aI L 0 (8 : Int32).toNatClampNeg).toInt64) <<< ((50 : Int32).toInt64 &&& 63)) fun y101 =>
      pL_adds_186 N (pL_adds_220 N) N x1 x14 x15 x16 t0 y101 (0 : Int32) S L C D)
noncomputable def pL_adds_145 (N : Nat) (t0 : Int32) (x1 : Int32) (x14 : Int32) (x15 : Int32) (x16 : Int32) (x17 : Int32) (S : kS) (L : lS) (C : Nat) (D : Nat) : Option (Int32 × kS × lS) :=
    if x17 = (-9 : Int32) then (
      pL_adds_166 N x17 x1 x14 x15 x16 t0 S L C D)
    else (
      if t0 = (0 : Int32) then (
        pL_adds_166 N (-7 : Int32) x1 x14 x15 x16 t0 S L C D)
      else (
        pL_adds_166 N x17 x1 x14 x15 x16 t0 S L C D))
noncomputable def pL_adds_65 (N : Nat) (t0 : Int32) (x1 : Int32) (x14 : Int32) (x15 : Int32) (x16 : Int32) (S : kS) (L : lS) (C : Nat) (D : Nat) : Option (Int32 × kS × lS) :=
    if t0 ≤ (0 : Int32) then (
      pL_adds_145 N (0 : Int32) x1 x14 x15 x16 t0 S L C D)
    else (
      gd ((4 : Int32) + x1) 20 <|
      lba (pL_may N x1 (aI L 0 ((4 : Int32) + x1).toNatClampNeg) x14 (1 : Int32) L) fun v101 L102 =>
      if v101 = (0 : Int32) then (
        pL_adds_145 N (0 : Int32) x1 x14 x15 x16 t0 S L102 C D)
      else (
        lba (pL_named N x1 x14 (-1 : Int32) x16 L102) fun v103 L104 =>
        if v103 = (0 : Int32) then (
          lba (pL_drafted N x15 L104) fun v105 L106 =>
          if v105 = (0 : Int32) then (
            pL_adds_145 N (0 : Int32) x1 x14 x15 x16 t0 S L106 C D)
          else (
            pL_adds_145 N (1 : Int32) x1 x14 x15 x16 t0 S L106 C D))
        else (
          pL_adds_145 N (0 : Int32) x1 x14 x15 x16 t0 S L104 C D)))
noncomputable def pL_adds_41 (N : Nat) (t0 : Int32) (t1 : Int32) (x1 : Int32) (x14 : Int32) (x15 : Int32) (S : kS) (L : lS) (C : Nat) (D : Nat) : Option (Int32 × kS × lS) :=
    lba (pL_low N t1 t0 L) fun v101 L102 =>
    gd ((3 : Int32) * x14) 36 <|
    if (aI L102 9 ((3 : Int32) * x14).toNatClampNeg) = (1 : Int32) then (
      gd (0 : Int32) 20 <|
      pL_adds_65 N (aI L102 0 (0 : Int32).toNatClampNeg) x1 x14 x15 v101 S L102 C D)
    else (
      pL_adds_65 N (-9 : Int32) x1 x14 x15 v101 S L102 C D)
noncomputable def pL_adds (N : Nat) (x1 : Int32) (x2 : Int32) (S : kS) (L : lS) : Option (Int32 × kS × lS) :=
    gd (0 : Int32) 20 <|
    lba (pL_low N x2 (aI L 0 (0 : Int32).toNatClampNeg) L) fun v101 L102 =>
    gd (3 : Int32) 20 <|
    lba (pL_low N (x2 >>> ((4 : Int32) &&& 31)) (aI L102 0 (3 : Int32).toNatClampNeg) L102) fun v103 L104 =>
    lba (pL_low N (x2 >>> ((12 : Int32) &&& 31)) (2 : Int32) L104) fun v105 L106 =>
    if v105 = (0 : Int32) then (
      pL_adds_41 N (100 : Int32) (x2 >>> ((6 : Int32) &&& 31)) x1 v101 v103 S L106 0 0)
    else (
      pL_adds_41 N (3 : Int32) (x2 >>> ((6 : Int32) &&& 31)) x1 v101 v103 S L106 0 0)
theorem fL_adds : lFnS yL_adds (.code yL_adds cL_adds 22 (some .boolean)) 14 249 := ⟨kT_220, kT_221, kT_112, rfl, by decide +kernel⟩
set_option maxRecDepth 100000 in
set_option maxHeartbeats 4000000 in
theorem c_L_adds (l : Launch) (hlt : l.stackTraces = false) (N : Nat) (x1 : Int32) (x2 : Int32) : lMet l yL_adds (.code yL_adds cL_adds 22 (some .boolean)) 10 373 11 435 (fun ca a => [.ref (ca 0), .int x1, .int x2, .ref (a 0), .ref (a 1), .ref (a 2), .ref (a 3), .ref (a 4), .ref (a 5), .ref (a 6), .ref (a 7), .ref (a 8), .ref (a 9), .ref (a 10)]) qI (pL_adds N x1 x2) := by
  refine l_start hlt (by decide +kernel) rfl (fun ca a => [(0, .ref (ca 0)), (1, .int x1), (2, .int x2), (3, .ref (a 0)), (4, .ref (a 1)), (5, .ref (a 2)), (6, .ref (a 3)), (7, .ref (a 4)), (8, .ref (a 5)), (9, .ref (a 6)), (10, .ref (a 7)), (11, .ref (a 8)), (12, .ref (a 9)), (13, .ref (a 10))]) (fun _ _ => Nat.le_of_ble_eq_true rfl) (fun _ _ => rfl) ?_
  intro dC dI g a sz Si Li r Sf Lf hpf p e s m args below meth c X hr H locs I ls hl
  have hx := X.1
  have hb := X.2.1
  have hCD : (0 : Nat) ≤ 11 ∧ (0 : Nat) ≤ 435 := ⟨Nat.zero_le _, Nat.zero_le _⟩
  unfold pL_adds at hpf
  have hC_267 : ∀ (x1 : Int32) (x14 : Int32) (x15 : Int32) (x16 : Int32) (x17 : Int32) (S : kS) (L : lS) (C D : Nat) (hCD : C ≤ 11 ∧ D ≤ 435) (H : Heap) (locs : List Loc), lV dC dI g a (lFr g a Si Li sz) s Si S L H locs → ∀ ls : Array Slot, lv_has ls 22 [(0, .ref (g.2.1 0)), (1, .int x1), (14, .int x14), (15, .int x15), (16, .int x16), (17, .int x17)] → pL_adds_267 N x1 x14 x15 x16 x17 S L C D = some (r, Sf, Lf) → W p l e (lRm 10 373 11 435) s m args below meth c H locs C D (MQ below (lQ dC dI g a sz Si Li (qI r) Sf Lf) args s 11 435 (lFr g a Si Li sz)) (F0 m 267 ls []) := by
    intro x1 x14 x15 x16 x17 S L C D hCD H locs I ls hl hpf
    unfold pL_adds_267 at hpf
    refine lv_aload_n hx hb dL_adds_267 rfl (lv_at hl 0 rfl) ?_
    refine lv_iconst (v := (0 : Int32)) hx hb dL_adds_268 (by decide) ?_
    refine lv_iload_n hx hb dL_adds_269 rfl (lv_at hl 1 rfl) ?_
    refine lv_iload hx hb dL_adds_270 (lv_at hl 2 rfl) ?_
    refine lv_iload hx hb dL_adds_272 (lv_at hl 3 rfl) ?_
    refine lv_iload hx hb dL_adds_274 (lv_at hl 4 rfl) ?_
    refine l_cBW (rest := []) (As := [.ref (g.2.1 0), .int (0 : Int32), .int x1, .int x14, .int x15, .int x16]) X I fL_calls (c_L_calls l hlt N (0 : Int32) x1 x14 x15 x16) rfl ⟨Nat.le_of_ble_eq_true rfl, Nat.le_of_ble_eq_true rfl⟩ 276 dL_adds_276 rfl hl.1 rfl (Nat.le_of_ble_eq_true rfl) ⟨Nat.le_refl _, Nat.le_refl _⟩ hpf (fun v101 S102 L103 C104 D105 hCD H locs I hpf => ?_)
    refine lv_iload hx hb dL_adds_279 (lv_at hl 5 rfl) ?_
    refine b_icmp_ne hx hb 288 281 dL_adds_281 (by decide) hpf (fun hpf => ?_) (fun hpf => ?_)
    · refine lv_iconst (v := (0 : Int32)) hx hb dL_adds_288 (by decide) ?_
      exact l_retzB X I hr 289 dL_adds_289 hpf
    refine lv_iconst (v := (1 : Int32)) hx hb dL_adds_284 (by decide) ?_
    refine lv_goto (tgt := 289) hx hb dL_adds_285 (by decide) ?_
    exact l_retzB X I hr 289 dL_adds_289 hpf
  have hC_220 : ∀ (x1 : Int32) (x14 : Int32) (x15 : Int32) (x16 : Int32) (x17 : Int32) (w19 : Int64) (S : kS) (L : lS) (C D : Nat) (hCD : C ≤ 11 ∧ D ≤ 435) (H : Heap) (locs : List Loc), lV dC dI g a (lFr g a Si Li sz) s Si S L H locs → ∀ ls : Array Slot, lv_has ls 22 [(0, .ref (g.2.1 0)), (1, .int x1), (3, .ref (a 0)), (5, .ref (a 2)), (6, .ref (a 3)), (7, .ref (a 4)), (8, .ref (a 5)), (9, .ref (a 6)), (10, .ref (a 7)), (11, .ref (a 8)), (14, .int x14), (15, .int x15), (16, .int x16), (17, .int x17), (19, .long w19)] → pL_adds_220 N x1 x14 x15 x16 x17 w19 S L C D = some (r, Sf, Lf) → W p l e (lRm 10 373 11 435) s m args below meth c H locs C D (MQ below (lQ dC dI g a sz Si Li (qI r) Sf Lf) args s 11 435 (lFr g a Si Li sz)) (F0 m 220 ls []) := by
    intro x1 x14 x15 x16 x17 w19 S L C D hCD H locs I ls hl hpf
    unfold pL_adds_220 at hpf
    refine lv_iload_n hx hb dL_adds_220 rfl (lv_at hl 1 rfl) ?_
    refine lv_iconst (v := (0 : Int32)) hx hb dL_adds_221 (by decide) ?_
    refine lv_aload_n hx hb dL_adds_222 rfl (lv_at hl 2 rfl) ?_
    refine lv_iconst (v := (0 : Int32)) hx hb dL_adds_223 (by decide) ?_
    refine l_iald X I lR_0 224 dL_adds_224 hpf (fun hpf => ?_)
    refine lv_bipush (v := (100 : Int32)) hx hb dL_adds_225 (by decide) ?_
    refine lv_iload hx hb dL_adds_227 (lv_at hl 11 rfl) ?_
    refine lv_imul hx hb dL_adds_229 ?_
    refine lv_iload hx hb dL_adds_230 (lv_at hl 12 rfl) ?_
    refine lv_iadd hx hb dL_adds_232 ?_
    refine lv_iload hx hb dL_adds_233 (lv_at hl 10 rfl) ?_
    refine lv_lload hx hb dL_adds_235 (lv_at hl 14 rfl) ?_
    refine lv_aload_n hx hb dL_adds_237 rfl (lv_at hl 2 rfl) ?_
    refine lv_aload hx hb dL_adds_238 (lv_at hl 3 rfl) ?_
    refine lv_aload hx hb dL_adds_240 (lv_at hl 4 rfl) ?_
    refine lv_aload hx hb dL_adds_242 (lv_at hl 5 rfl) ?_
    refine lv_aload hx hb dL_adds_244 (lv_at hl 6 rfl) ?_
    refine lv_aload hx hb dL_adds_246 (lv_at hl 7 rfl) ?_
    refine lv_aload hx hb dL_adds_248 (lv_at hl 8 rfl) ?_
    refine lv_aload hx hb dL_adds_250 (lv_at hl 9 rfl) ?_
    refine l_cAU (rest := []) (As := [.int x1, .int (0 : Int32), .int (aI L 0 (0 : Int32).toNatClampNeg), .int (((100 : Int32) * x15) + x16), .int x14, .long w19, .ref (a 0), .ref (a 2), .ref (a 3), .ref (a 4), .ref (a 5), .ref (a 6), .ref (a 7), .ref (a 8)]) X I fL_makes (c_L_makes l hlt N x1 (0 : Int32) (aI L 0 (0 : Int32).toNatClampNeg) (((100 : Int32) * x15) + x16) x14 w19) rfl ⟨Nat.le_of_ble_eq_true rfl, Nat.le_of_ble_eq_true rfl⟩ 252 dL_adds_252 rfl hl.1 rfl (Nat.le_of_ble_eq_true rfl) hCD hpf (fun v101 L102 H locs I hpf => ?_)
    refine lv_aload_n hx hb dL_adds_255 rfl (lv_at hl 2 rfl) ?_
    refine lv_iconst (v := (0 : Int32)) hx hb dL_adds_256 (by decide) ?_
    refine lv_dup2_11 hx hb dL_adds_257 rfl rfl ?_
    refine l_iald X I lR_0 258 dL_adds_258 hpf (fun hpf => ?_)
    refine lv_iconst (v := (1 : Int32)) hx hb dL_adds_259 (by decide) ?_
    refine lv_iadd hx hb dL_adds_260 ?_
    refine l_iast X I lR_0 261 dL_adds_261 hpf (fun L103 H locs I hpf => ?_)
    refine lv_aload_n hx hb dL_adds_262 rfl (lv_at hl 2 rfl) ?_
    refine lv_bipush (v := (8 : Int32)) hx hb dL_adds_263 (by decide) ?_
    refine lv_iconst (v := (0 : Int32)) hx hb dL_adds_265 (by decide) ?_
    refine l_iast X I lR_0 266 dL_adds_266 hpf (fun L104 H locs I hpf => ?_)
    exact hC_267 x1 x14 x15 x16 x17 S L104 C D hCD H locs I ls (lv_sub hl [0, 1, 10, 11, 12, 13] rfl) hpf
  have hC_186 : ∀ (n_186 : Nat), ∀ (x1 : Int32) (x14 : Int32) (x15 : Int32) (x16 : Int32) (x17 : Int32) (w19 : Int64) (x21 : Int32) (S : kS) (L : lS) (C D : Nat) (hCD : C ≤ 11 ∧ D ≤ 435) (H : Heap) (locs : List Loc), lV dC dI g a (lFr g a Si Li sz) s Si S L H locs → ∀ ls : Array Slot, lv_has ls 22 [(0, .ref (g.2.1 0)), (1, .int x1), (3, .ref (a 0)), (5, .ref (a 2)), (6, .ref (a 3)), (7, .ref (a 4)), (8, .ref (a 5)), (9, .ref (a 6)), (10, .ref (a 7)), (11, .ref (a 8)), (14, .int x14), (15, .int x15), (16, .int x16), (17, .int x17), (19, .long w19), (21, .int x21)] → pL_adds_186 N (pL_adds_220 N) n_186 x1 x14 x15 x16 x17 w19 x21 S L C D = some (r, Sf, Lf) → W p l e (lRm 10 373 11 435) s m args below meth c H locs C D (MQ below (lQ dC dI g a sz Si Li (qI r) Sf Lf) args s 11 435 (lFr g a Si Li sz)) (F0 m 186 ls []) := by
    intro n_186
    induction n_186 with
    | zero =>
      intro x1 x14 x15 x16 x17 w19 x21 S L C D hCD H locs I ls hl hpf
      rw [pL_adds_186] at hpf
      cases hpf
    | succ n_186 ih_186 =>
      intro x1 x14 x15 x16 x17 w19 x21 S L C D hCD H locs I ls hl hpf
      rw [pL_adds_186] at hpf
      refine lv_iload hx hb dL_adds_186 (lv_at hl 15 rfl) ?_
      refine lv_aload_n hx hb dL_adds_188 rfl (lv_at hl 2 rfl) ?_
      refine lv_bipush (v := (8 : Int32)) hx hb dL_adds_189 (by decide) ?_
      refine l_iald X I lR_0 191 dL_adds_191 hpf (fun hpf => ?_)
      refine b_icmp_ge hx hb 220 192 dL_adds_192 (by decide) hpf (fun hpf => ?_) (fun hpf => ?_)
      · exact hC_220 x1 x14 x15 x16 x17 w19 S L C D hCD H locs I ls (lv_sub hl [0, 1, 2, 3, 4, 5, 6, 7, 8, 9, 10, 11, 12, 13, 14] rfl) hpf
      refine lv_lload hx hb dL_adds_195 (lv_at hl 14 rfl) ?_
      refine lv_aload_n hx hb dL_adds_197 rfl (lv_at hl 2 rfl) ?_
      refine lv_bipush (v := (9 : Int32)) hx hb dL_adds_198 (by decide) ?_
      refine lv_iload hx hb dL_adds_200 (lv_at hl 15 rfl) ?_
      refine lv_iadd hx hb dL_adds_202 ?_
      refine l_iald X I lR_0 203 dL_adds_203 hpf (fun hpf => ?_)
      refine lv_i2l hx hb dL_adds_204 rfl ?_
      refine lv_bipush (v := (10 : Int32)) hx hb dL_adds_205 (by decide) ?_
      refine lv_iload hx hb dL_adds_207 (lv_at hl 15 rfl) ?_
      refine lv_imul hx hb dL_adds_209 ?_
      refine lv_lshl hx hb dL_adds_210 rfl ?_
      refine lv_lor hx hb dL_adds_211 ?_
      refine k_lsto hx hb (fun y101 => [(19, .long y101), (0, .ref (g.2.1 0)), (1, .int x1), (3, .ref (a 0)), (5, .ref (a 2)), (6, .ref (a 3)), (7, .ref (a 4)), (8, .ref (a 5)), (9, .ref (a 6)), (10, .ref (a 7)), (11, .ref (a 8)), (14, .int x14), (15, .int x15), (16, .int x16), (17, .int x17), (21, .int x21)]) 212 dL_adds_212 hl (by decide) (fun _ => rfl) hpf (fun y101 ls hl hpf => ?_)
      refine m_iinc (w := (1 : Int32)) hx hb (fun y102 => [(21, .int y102), (19, .long y101), (0, .ref (g.2.1 0)), (1, .int x1), (3, .ref (a 0)), (5, .ref (a 2)), (6, .ref (a 3)), (7, .ref (a 4)), (8, .ref (a 5)), (9, .ref (a 6)), (10, .ref (a 7)), (11, .ref (a 8)), (14, .int x14), (15, .int x15), (16, .int x16), (17, .int x17)]) 214 dL_adds_214 hl (k := 15) rfl (by decide) (by decide) (fun _ => rfl) hpf (fun y102 ls hl hpf => ?_)
      refine lv_goto (tgt := 186) hx hb dL_adds_217 (by decide) ?_
      exact ih_186 x1 x14 x15 x16 x17 y101 y102 S L C D hCD H locs I ls (lv_sub hl [2, 3, 4, 5, 6, 7, 8, 9, 10, 11, 12, 13, 14, 15, 1, 0] rfl) hpf
  have hC_166 : ∀ (t0 : Int32) (x1 : Int32) (x14 : Int32) (x15 : Int32) (x16 : Int32) (x18 : Int32) (S : kS) (L : lS) (C D : Nat) (hCD : C ≤ 11 ∧ D ≤ 435) (H : Heap) (locs : List Loc), lV dC dI g a (lFr g a Si Li sz) s Si S L H locs → ∀ ls : Array Slot, lv_has ls 22 [(0, .ref (g.2.1 0)), (1, .int x1), (3, .ref (a 0)), (5, .ref (a 2)), (6, .ref (a 3)), (7, .ref (a 4)), (8, .ref (a 5)), (9, .ref (a 6)), (10, .ref (a 7)), (11, .ref (a 8)), (14, .int x14), (15, .int x15), (16, .int x16), (18, .int x18)] → pL_adds_166 N t0 x1 x14 x15 x16 x18 S L C D = some (r, Sf, Lf) → W p l e (lRm 10 373 11 435) s m args below meth c H locs C D (MQ below (lQ dC dI g a sz Si Li (qI r) Sf Lf) args s 11 435 (lFr g a Si Li sz)) (F0 m 166 ls [.int t0]) := by
    intro t0 x1 x14 x15 x16 x18 S L C D hCD H locs I ls hl hpf
    unfold pL_adds_166 at hpf
    refine lv_istore (lv' := [(17, .int t0), (0, .ref (g.2.1 0)), (1, .int x1), (3, .ref (a 0)), (5, .ref (a 2)), (6, .ref (a 3)), (7, .ref (a 4)), (8, .ref (a 5)), (9, .ref (a 6)), (10, .ref (a 7)), (11, .ref (a 8)), (14, .int x14), (15, .int x15), (16, .int x16), (18, .int x18)]) hx hb dL_adds_166 hl (by decide) rfl (fun ls hl => ?_)
    refine lv_iload hx hb dL_adds_168 (lv_at hl 14 rfl) ?_
    refine b_if_eq hx hb 267 170 dL_adds_170 (by decide) hpf (fun hpf => ?_) (fun hpf => ?_)
    · exact hC_267 x1 x14 x15 x16 t0 S L C D hCD H locs I ls (lv_sub hl [1, 2, 11, 12, 13, 0] rfl) hpf
    refine lv_aload_n hx hb dL_adds_173 rfl (lv_at hl 3 rfl) ?_
    refine lv_bipush (v := (8 : Int32)) hx hb dL_adds_174 (by decide) ?_
    refine l_iald X I lR_0 176 dL_adds_176 hpf (fun hpf => ?_)
    refine lv_i2l hx hb dL_adds_177 rfl ?_
    refine lv_bipush (v := (50 : Int32)) hx hb dL_adds_178 (by decide) ?_
    refine lv_lshl hx hb dL_adds_180 rfl ?_
    refine k_lsto hx hb (fun y101 => [(19, .long y101), (17, .int t0), (0, .ref (g.2.1 0)), (1, .int x1), (3, .ref (a 0)), (5, .ref (a 2)), (6, .ref (a 3)), (7, .ref (a 4)), (8, .ref (a 5)), (9, .ref (a 6)), (10, .ref (a 7)), (11, .ref (a 8)), (14, .int x14), (15, .int x15), (16, .int x16), (18, .int x18)]) 181 dL_adds_181 hl (by decide) (fun _ => rfl) hpf (fun y101 ls hl hpf => ?_)
    refine lv_iconst (v := (0 : Int32)) hx hb dL_adds_183 (by decide) ?_
    refine lv_istore (lv' := [(21, .int (0 : Int32)), (19, .long y101), (17, .int t0), (0, .ref (g.2.1 0)), (1, .int x1), (3, .ref (a 0)), (5, .ref (a 2)), (6, .ref (a 3)), (7, .ref (a 4)), (8, .ref (a 5)), (9, .ref (a 6)), (10, .ref (a 7)), (11, .ref (a 8)), (14, .int x14), (15, .int x15), (16, .int x16), (18, .int x18)]) hx hb dL_adds_184 hl (by decide) rfl (fun ls hl => ?_)
    exact hC_186 N x1 x14 x15 x16 t0 y101 (0 : Int32) S L C D hCD H locs I ls (lv_sub hl [3, 4, 5, 6, 7, 8, 9, 10, 11, 12, 13, 14, 15, 2, 1, 0] rfl) hpf
  have hC_145 : ∀ (t0 : Int32) (x1 : Int32) (x14 : Int32) (x15 : Int32) (x16 : Int32) (x17 : Int32) (S : kS) (L : lS) (C D : Nat) (hCD : C ≤ 11 ∧ D ≤ 435) (H : Heap) (locs : List Loc), lV dC dI g a (lFr g a Si Li sz) s Si S L H locs → ∀ ls : Array Slot, lv_has ls 22 [(0, .ref (g.2.1 0)), (1, .int x1), (3, .ref (a 0)), (5, .ref (a 2)), (6, .ref (a 3)), (7, .ref (a 4)), (8, .ref (a 5)), (9, .ref (a 6)), (10, .ref (a 7)), (11, .ref (a 8)), (14, .int x14), (15, .int x15), (16, .int x16), (17, .int x17)] → pL_adds_145 N t0 x1 x14 x15 x16 x17 S L C D = some (r, Sf, Lf) → W p l e (lRm 10 373 11 435) s m args below meth c H locs C D (MQ below (lQ dC dI g a sz Si Li (qI r) Sf Lf) args s 11 435 (lFr g a Si Li sz)) (F0 m 145 ls [.int t0]) := by
    intro t0 x1 x14 x15 x16 x17 S L C D hCD H locs I ls hl hpf
    unfold pL_adds_145 at hpf
    refine lv_istore (lv' := [(18, .int t0), (0, .ref (g.2.1 0)), (1, .int x1), (3, .ref (a 0)), (5, .ref (a 2)), (6, .ref (a 3)), (7, .ref (a 4)), (8, .ref (a 5)), (9, .ref (a 6)), (10, .ref (a 7)), (11, .ref (a 8)), (14, .int x14), (15, .int x15), (16, .int x16), (17, .int x17)]) hx hb dL_adds_145 hl (by decide) rfl (fun ls hl => ?_)
    refine lv_iload hx hb dL_adds_147 (lv_at hl 14 rfl) ?_
    refine lv_bipush (v := (-9 : Int32)) hx hb dL_adds_149 (by decide) ?_
    refine b_icmp_eq hx hb 159 151 dL_adds_151 (by decide) hpf (fun hpf => ?_) (fun hpf => ?_)
    · refine lv_iload hx hb dL_adds_159 (lv_at hl 14 rfl) ?_
      refine lv_goto (tgt := 166) hx hb dL_adds_161 (by decide) ?_
      exact hC_166 x17 x1 x14 x15 x16 t0 S L C D hCD H locs I ls (lv_sub hl [1, 2, 3, 4, 5, 6, 7, 8, 9, 10, 11, 12, 13, 0] rfl) hpf
    refine lv_iload hx hb dL_adds_154 (lv_at hl 0 rfl) ?_
    refine b_if_eq hx hb 164 156 dL_adds_156 (by decide) hpf (fun hpf => ?_) (fun hpf => ?_)
    · refine lv_bipush (v := (-7 : Int32)) hx hb dL_adds_164 (by decide) ?_
      exact hC_166 (-7 : Int32) x1 x14 x15 x16 t0 S L C D hCD H locs I ls (lv_sub hl [1, 2, 3, 4, 5, 6, 7, 8, 9, 10, 11, 12, 13, 0] rfl) hpf
    refine lv_iload hx hb dL_adds_159 (lv_at hl 14 rfl) ?_
    refine lv_goto (tgt := 166) hx hb dL_adds_161 (by decide) ?_
    exact hC_166 x17 x1 x14 x15 x16 t0 S L C D hCD H locs I ls (lv_sub hl [1, 2, 3, 4, 5, 6, 7, 8, 9, 10, 11, 12, 13, 0] rfl) hpf
  have hC_65 : ∀ (t0 : Int32) (x1 : Int32) (x14 : Int32) (x15 : Int32) (x16 : Int32) (S : kS) (L : lS) (C D : Nat) (hCD : C ≤ 11 ∧ D ≤ 435) (H : Heap) (locs : List Loc), lV dC dI g a (lFr g a Si Li sz) s Si S L H locs → ∀ ls : Array Slot, lv_has ls 22 [(0, .ref (g.2.1 0)), (1, .int x1), (3, .ref (a 0)), (4, .ref (a 1)), (5, .ref (a 2)), (6, .ref (a 3)), (7, .ref (a 4)), (8, .ref (a 5)), (9, .ref (a 6)), (10, .ref (a 7)), (11, .ref (a 8)), (12, .ref (a 9)), (13, .ref (a 10)), (14, .int x14), (15, .int x15), (16, .int x16)] → pL_adds_65 N t0 x1 x14 x15 x16 S L C D = some (r, Sf, Lf) → W p l e (lRm 10 373 11 435) s m args below meth c H locs C D (MQ below (lQ dC dI g a sz Si Li (qI r) Sf Lf) args s 11 435 (lFr g a Si Li sz)) (F0 m 65 ls [.int t0]) := by
    intro t0 x1 x14 x15 x16 S L C D hCD H locs I ls hl hpf
    unfold pL_adds_65 at hpf
    refine lv_istore (lv' := [(17, .int t0), (0, .ref (g.2.1 0)), (1, .int x1), (3, .ref (a 0)), (4, .ref (a 1)), (5, .ref (a 2)), (6, .ref (a 3)), (7, .ref (a 4)), (8, .ref (a 5)), (9, .ref (a 6)), (10, .ref (a 7)), (11, .ref (a 8)), (12, .ref (a 9)), (13, .ref (a 10)), (14, .int x14), (15, .int x15), (16, .int x16)]) hx hb dL_adds_65 hl (by decide) rfl (fun ls hl => ?_)
    refine lv_iload hx hb dL_adds_67 (lv_at hl 0 rfl) ?_
    refine b_if_le hx hb 144 69 dL_adds_69 (by decide) hpf (fun hpf => ?_) (fun hpf => ?_)
    · refine lv_iconst (v := (0 : Int32)) hx hb dL_adds_144 (by decide) ?_
      exact hC_145 (0 : Int32) x1 x14 x15 x16 t0 S L C D hCD H locs I ls (lv_sub hl [1, 2, 3, 5, 6, 7, 8, 9, 10, 11, 14, 15, 16, 0] rfl) hpf
    refine lv_iload_n hx hb dL_adds_72 rfl (lv_at hl 2 rfl) ?_
    refine lv_aload_n hx hb dL_adds_73 rfl (lv_at hl 3 rfl) ?_
    refine lv_iconst (v := (4 : Int32)) hx hb dL_adds_74 (by decide) ?_
    refine lv_iload_n hx hb dL_adds_75 rfl (lv_at hl 2 rfl) ?_
    refine lv_iadd hx hb dL_adds_76 ?_
    refine l_iald X I lR_0 77 dL_adds_77 hpf (fun hpf => ?_)
    refine lv_iload hx hb dL_adds_78 (lv_at hl 14 rfl) ?_
    refine lv_iconst (v := (1 : Int32)) hx hb dL_adds_80 (by decide) ?_
    refine lv_aload_n hx hb dL_adds_81 rfl (lv_at hl 3 rfl) ?_
    refine lv_aload hx hb dL_adds_82 (lv_at hl 5 rfl) ?_
    refine lv_aload hx hb dL_adds_84 (lv_at hl 6 rfl) ?_
    refine lv_aload hx hb dL_adds_86 (lv_at hl 7 rfl) ?_
    refine lv_aload hx hb dL_adds_88 (lv_at hl 8 rfl) ?_
    refine lv_aload hx hb dL_adds_90 (lv_at hl 9 rfl) ?_
    refine lv_aload hx hb dL_adds_92 (lv_at hl 11 rfl) ?_
    refine lv_aload hx hb dL_adds_94 (lv_at hl 12 rfl) ?_
    refine lv_aload hx hb dL_adds_96 (lv_at hl 13 rfl) ?_
    refine l_cAI (rest := []) (As := [.int x1, .int (aI L 0 ((4 : Int32) + x1).toNatClampNeg), .int x14, .int (1 : Int32), .ref (a 0), .ref (a 2), .ref (a 3), .ref (a 4), .ref (a 5), .ref (a 6), .ref (a 8), .ref (a 9), .ref (a 10)]) X I fL_may (c_L_may l hlt N x1 (aI L 0 ((4 : Int32) + x1).toNatClampNeg) x14 (1 : Int32)) rfl ⟨Nat.le_of_ble_eq_true rfl, Nat.le_of_ble_eq_true rfl⟩ 98 dL_adds_98 rfl hl.1 rfl (Nat.le_of_ble_eq_true rfl) hCD hpf (fun v101 L102 H locs I hpf => ?_)
    refine b_if_eq hx hb 144 101 dL_adds_101 (by decide) hpf (fun hpf => ?_) (fun hpf => ?_)
    · refine lv_iconst (v := (0 : Int32)) hx hb dL_adds_144 (by decide) ?_
      exact hC_145 (0 : Int32) x1 x14 x15 x16 t0 S L102 C D hCD H locs I ls (lv_sub hl [1, 2, 3, 5, 6, 7, 8, 9, 10, 11, 14, 15, 16, 0] rfl) hpf
    refine lv_iload_n hx hb dL_adds_104 rfl (lv_at hl 2 rfl) ?_
    refine lv_iload hx hb dL_adds_105 (lv_at hl 14 rfl) ?_
    refine lv_iconst (v := (-1 : Int32)) hx hb dL_adds_107 (by decide) ?_
    refine lv_iload hx hb dL_adds_108 (lv_at hl 16 rfl) ?_
    refine lv_aload_n hx hb dL_adds_110 rfl (lv_at hl 3 rfl) ?_
    refine lv_aload hx hb dL_adds_111 (lv_at hl 5 rfl) ?_
    refine lv_aload hx hb dL_adds_113 (lv_at hl 6 rfl) ?_
    refine lv_aload hx hb dL_adds_115 (lv_at hl 7 rfl) ?_
    refine lv_aload hx hb dL_adds_117 (lv_at hl 8 rfl) ?_
    refine lv_aload hx hb dL_adds_119 (lv_at hl 11 rfl) ?_
    refine lv_aload hx hb dL_adds_121 (lv_at hl 12 rfl) ?_
    refine l_cAI (rest := []) (As := [.int x1, .int x14, .int (-1 : Int32), .int x16, .ref (a 0), .ref (a 2), .ref (a 3), .ref (a 4), .ref (a 5), .ref (a 8), .ref (a 9)]) X I fL_named (c_L_named l hlt N x1 x14 (-1 : Int32) x16) rfl ⟨Nat.le_of_ble_eq_true rfl, Nat.le_of_ble_eq_true rfl⟩ 123 dL_adds_123 rfl hl.1 rfl (Nat.le_of_ble_eq_true rfl) hCD hpf (fun v103 L104 H locs I hpf => ?_)
    refine b_if_ne hx hb 144 126 dL_adds_126 (by decide) hpf (fun hpf => ?_) (fun hpf => ?_)
    · refine lv_iconst (v := (0 : Int32)) hx hb dL_adds_144 (by decide) ?_
      exact hC_145 (0 : Int32) x1 x14 x15 x16 t0 S L104 C D hCD H locs I ls (lv_sub hl [1, 2, 3, 5, 6, 7, 8, 9, 10, 11, 14, 15, 16, 0] rfl) hpf
    refine lv_iload hx hb dL_adds_129 (lv_at hl 15 rfl) ?_
    refine lv_aload_n hx hb dL_adds_131 rfl (lv_at hl 3 rfl) ?_
    refine lv_aload hx hb dL_adds_132 (lv_at hl 4 rfl) ?_
    refine l_cAI (rest := []) (As := [.int x15, .ref (a 0), .ref (a 1)]) X I fL_drafted (c_L_drafted l hlt N x15) rfl ⟨Nat.le_of_ble_eq_true rfl, Nat.le_of_ble_eq_true rfl⟩ 134 dL_adds_134 rfl hl.1 rfl (Nat.le_of_ble_eq_true rfl) hCD hpf (fun v105 L106 H locs I hpf => ?_)
    refine b_if_eq hx hb 144 137 dL_adds_137 (by decide) hpf (fun hpf => ?_) (fun hpf => ?_)
    · refine lv_iconst (v := (0 : Int32)) hx hb dL_adds_144 (by decide) ?_
      exact hC_145 (0 : Int32) x1 x14 x15 x16 t0 S L106 C D hCD H locs I ls (lv_sub hl [1, 2, 3, 5, 6, 7, 8, 9, 10, 11, 14, 15, 16, 0] rfl) hpf
    refine lv_iconst (v := (1 : Int32)) hx hb dL_adds_140 (by decide) ?_
    refine lv_goto (tgt := 145) hx hb dL_adds_141 (by decide) ?_
    exact hC_145 (1 : Int32) x1 x14 x15 x16 t0 S L106 C D hCD H locs I ls (lv_sub hl [1, 2, 3, 5, 6, 7, 8, 9, 10, 11, 14, 15, 16, 0] rfl) hpf
  have hC_41 : ∀ (t0 : Int32) (t1 : Int32) (x1 : Int32) (x14 : Int32) (x15 : Int32) (S : kS) (L : lS) (C D : Nat) (hCD : C ≤ 11 ∧ D ≤ 435) (H : Heap) (locs : List Loc), lV dC dI g a (lFr g a Si Li sz) s Si S L H locs → ∀ ls : Array Slot, lv_has ls 22 [(0, .ref (g.2.1 0)), (1, .int x1), (3, .ref (a 0)), (4, .ref (a 1)), (5, .ref (a 2)), (6, .ref (a 3)), (7, .ref (a 4)), (8, .ref (a 5)), (9, .ref (a 6)), (10, .ref (a 7)), (11, .ref (a 8)), (12, .ref (a 9)), (13, .ref (a 10)), (14, .int x14), (15, .int x15)] → pL_adds_41 N t0 t1 x1 x14 x15 S L C D = some (r, Sf, Lf) → W p l e (lRm 10 373 11 435) s m args below meth c H locs C D (MQ below (lQ dC dI g a sz Si Li (qI r) Sf Lf) args s 11 435 (lFr g a Si Li sz)) (F0 m 41 ls [.int t0, .int t1]) := by
    intro t0 t1 x1 x14 x15 S L C D hCD H locs I ls hl hpf
    unfold pL_adds_41 at hpf
    refine l_cAI (rest := []) (As := [.int t1, .int t0]) X I fL_low (c_L_low l hlt N t1 t0) rfl ⟨Nat.le_of_ble_eq_true rfl, Nat.le_of_ble_eq_true rfl⟩ 41 dL_adds_41 rfl hl.1 rfl (Nat.le_of_ble_eq_true rfl) hCD hpf (fun v101 L102 H locs I hpf => ?_)
    refine lv_istore (lv' := [(16, .int v101), (0, .ref (g.2.1 0)), (1, .int x1), (3, .ref (a 0)), (4, .ref (a 1)), (5, .ref (a 2)), (6, .ref (a 3)), (7, .ref (a 4)), (8, .ref (a 5)), (9, .ref (a 6)), (10, .ref (a 7)), (11, .ref (a 8)), (12, .ref (a 9)), (13, .ref (a 10)), (14, .int x14), (15, .int x15)]) hx hb dL_adds_44 hl (by decide) rfl (fun ls hl => ?_)
    refine lv_aload hx hb dL_adds_46 (lv_at hl 12 rfl) ?_
    refine lv_iconst (v := (3 : Int32)) hx hb dL_adds_48 (by decide) ?_
    refine lv_iload hx hb dL_adds_49 (lv_at hl 14 rfl) ?_
    refine lv_imul hx hb dL_adds_51 ?_
    refine l_iald X I lR_9 52 dL_adds_52 hpf (fun hpf => ?_)
    refine lv_iconst (v := (1 : Int32)) hx hb dL_adds_53 (by decide) ?_
    refine b_icmp_eq hx hb 62 54 dL_adds_54 (by decide) hpf (fun hpf => ?_) (fun hpf => ?_)
    · refine lv_aload_n hx hb dL_adds_62 rfl (lv_at hl 3 rfl) ?_
      refine lv_iconst (v := (0 : Int32)) hx hb dL_adds_63 (by decide) ?_
      refine l_iald X I lR_0 64 dL_adds_64 hpf (fun hpf => ?_)
      exact hC_65 (aI L102 0 (0 : Int32).toNatClampNeg) x1 x14 x15 v101 S L102 C D hCD H locs I ls (lv_sub hl [1, 2, 3, 4, 5, 6, 7, 8, 9, 10, 11, 12, 13, 14, 15, 0] rfl) hpf
    refine lv_bipush (v := (-9 : Int32)) hx hb dL_adds_57 (by decide) ?_
    refine lv_goto (tgt := 65) hx hb dL_adds_59 (by decide) ?_
    exact hC_65 (-9 : Int32) x1 x14 x15 v101 S L102 C D hCD H locs I ls (lv_sub hl [1, 2, 3, 4, 5, 6, 7, 8, 9, 10, 11, 12, 13, 14, 15, 0] rfl) hpf
  refine lv_iload_n hx hb dL_adds_0 rfl (lv_at hl 2 rfl) ?_
  refine lv_aload_n hx hb dL_adds_1 rfl (lv_at hl 3 rfl) ?_
  refine lv_iconst (v := (0 : Int32)) hx hb dL_adds_2 (by decide) ?_
  refine l_iald X I lR_0 3 dL_adds_3 hpf (fun hpf => ?_)
  refine l_cAI (rest := []) (As := [.int x2, .int (aI Li 0 (0 : Int32).toNatClampNeg)]) X I fL_low (c_L_low l hlt N x2 (aI Li 0 (0 : Int32).toNatClampNeg)) rfl ⟨Nat.le_of_ble_eq_true rfl, Nat.le_of_ble_eq_true rfl⟩ 4 dL_adds_4 rfl hl.1 rfl (Nat.le_of_ble_eq_true rfl) hCD hpf (fun v101 L102 H locs I hpf => ?_)
  refine lv_istore (lv' := [(14, .int v101), (0, .ref (g.2.1 0)), (1, .int x1), (2, .int x2), (3, .ref (a 0)), (4, .ref (a 1)), (5, .ref (a 2)), (6, .ref (a 3)), (7, .ref (a 4)), (8, .ref (a 5)), (9, .ref (a 6)), (10, .ref (a 7)), (11, .ref (a 8)), (12, .ref (a 9)), (13, .ref (a 10))]) hx hb dL_adds_7 hl (by decide) rfl (fun ls hl => ?_)
  refine lv_iload_n hx hb dL_adds_9 rfl (lv_at hl 3 rfl) ?_
  refine lv_iconst (v := (4 : Int32)) hx hb dL_adds_10 (by decide) ?_
  refine lv_ishr hx hb dL_adds_11 ?_
  refine lv_aload_n hx hb dL_adds_12 rfl (lv_at hl 4 rfl) ?_
  refine lv_iconst (v := (3 : Int32)) hx hb dL_adds_13 (by decide) ?_
  refine l_iald X I lR_0 14 dL_adds_14 hpf (fun hpf => ?_)
  refine l_cAI (rest := []) (As := [.int (x2 >>> ((4 : Int32) &&& 31)), .int (aI L102 0 (3 : Int32).toNatClampNeg)]) X I fL_low (c_L_low l hlt N (x2 >>> ((4 : Int32) &&& 31)) (aI L102 0 (3 : Int32).toNatClampNeg)) rfl ⟨Nat.le_of_ble_eq_true rfl, Nat.le_of_ble_eq_true rfl⟩ 15 dL_adds_15 rfl hl.1 rfl (Nat.le_of_ble_eq_true rfl) hCD hpf (fun v103 L104 H locs I hpf => ?_)
  refine lv_istore (lv' := [(15, .int v103), (14, .int v101), (0, .ref (g.2.1 0)), (1, .int x1), (2, .int x2), (3, .ref (a 0)), (4, .ref (a 1)), (5, .ref (a 2)), (6, .ref (a 3)), (7, .ref (a 4)), (8, .ref (a 5)), (9, .ref (a 6)), (10, .ref (a 7)), (11, .ref (a 8)), (12, .ref (a 9)), (13, .ref (a 10))]) hx hb dL_adds_18 hl (by decide) rfl (fun ls hl => ?_)
  refine lv_iload_n hx hb dL_adds_20 rfl (lv_at hl 4 rfl) ?_
  refine lv_bipush (v := (6 : Int32)) hx hb dL_adds_21 (by decide) ?_
  refine lv_ishr hx hb dL_adds_23 ?_
  refine lv_iload_n hx hb dL_adds_24 rfl (lv_at hl 4 rfl) ?_
  refine lv_bipush (v := (12 : Int32)) hx hb dL_adds_25 (by decide) ?_
  refine lv_ishr hx hb dL_adds_27 ?_
  refine lv_iconst (v := (2 : Int32)) hx hb dL_adds_28 (by decide) ?_
  refine l_cAI (rest := [.int (x2 >>> ((6 : Int32) &&& 31))]) (As := [.int (x2 >>> ((12 : Int32) &&& 31)), .int (2 : Int32)]) X I fL_low (c_L_low l hlt N (x2 >>> ((12 : Int32) &&& 31)) (2 : Int32)) rfl ⟨Nat.le_of_ble_eq_true rfl, Nat.le_of_ble_eq_true rfl⟩ 29 dL_adds_29 rfl hl.1 rfl (Nat.le_of_ble_eq_true rfl) hCD hpf (fun v105 L106 H locs I hpf => ?_)
  refine b_if_ne hx hb 40 32 dL_adds_32 (by decide) hpf (fun hpf => ?_) (fun hpf => ?_)
  · refine lv_iconst (v := (3 : Int32)) hx hb dL_adds_40 (by decide) ?_
    exact hC_41 (3 : Int32) (x2 >>> ((6 : Int32) &&& 31)) x1 v101 v103 Si L106 0 0 hCD H locs I ls (lv_sub hl [2, 3, 5, 6, 7, 8, 9, 10, 11, 12, 13, 14, 15, 1, 0] rfl) hpf
  refine lv_bipush (v := (100 : Int32)) hx hb dL_adds_35 (by decide) ?_
  refine lv_goto (tgt := 41) hx hb dL_adds_37 (by decide) ?_
  exact hC_41 (100 : Int32) (x2 >>> ((6 : Int32) &&& 31)) x1 v101 v103 Si L106 0 0 hCD H locs I ls (lv_sub hl [2, 3, 5, 6, 7, 8, 9, 10, 11, 12, 13, 14, 15, 1, 0] rfl) hpf
-- ===== the law's renames =====
noncomputable def pL_renames_159 (N : Nat) (x1 : Int32) (x13 : Int32) (x14 : Int32) (x15 : Int32) (S : kS) (L : lS) (C : Nat) (D : Nat) : Option (Int32 × kS × lS) :=
    lbb 11 435 11 435 C D (pL_calls N (4 : Int32) x1 x13 x14 (0 : Int32) S L) fun v101 S102 L103 C104 D105 =>
    if v101 = x15 then (
      zlB 11 435 C104 D105 (1 : Int32) S102 L103)
    else (
      zlB 11 435 C104 D105 (0 : Int32) S102 L103)
noncomputable def pL_renames_126 (N : Nat) (t0 : Int32) (x1 : Int32) (x13 : Int32) (x14 : Int32) (S : kS) (L : lS) (C : Nat) (D : Nat) : Option (Int32 × kS × lS) :=
    if t0 < (0 : Int32) then (
      pL_renames_159 N x1 x13 x14 t0 S L C D)
    else (
      lba (pL_makes N x1 (4 : Int32) x13 x14 (0 : Int32) (0 : Int64) L) fun v101 L102 =>
      pL_renames_159 N x1 x13 x14 t0 S L102 C D)
noncomputable def pL_renames (N : Nat) (x1 : Int32) (x2 : Int32) (S : kS) (L : lS) : Option (Int32 × kS × lS) :=
    gd (0 : Int32) 20 <|
    lba (pL_low N x2 (aI L 0 (0 : Int32).toNatClampNeg) L) fun v101 L102 =>
    lba (pL_low N (x2 >>> ((4 : Int32) &&& 31)) (4 : Int32) L102) fun v103 L104 =>
    if v101 = (0 : Int32) then (
      pL_renames_126 N (-9 : Int32) x1 v101 v103 S L104 0 0)
    else (
      gd ((3 : Int32) * v101) 36 <|
      if (aI L104 9 ((3 : Int32) * v101).toNatClampNeg) = (1 : Int32) then (
        gd ((4 : Int32) + x1) 20 <|
        lba (pL_may N x1 (aI L104 0 ((4 : Int32) + x1).toNatClampNeg) v101 (1 : Int32) L104) fun v105 L106 =>
        if v105 = (0 : Int32) then (
          pL_renames_126 N (-7 : Int32) x1 v101 v103 S L106 0 0)
        else (
          lba (pL_place N v101 L106) fun v107 L108 =>
          lba (pL_named N x1 v107 v101 v103 L108) fun v109 L110 =>
          if v109 = (0 : Int32) then (
            lba (pL_shown N x1 v101 L110) fun v111 L112 =>
            pL_renames_126 N v111 x1 v101 v103 S L112 0 0)
          else (
            pL_renames_126 N (-7 : Int32) x1 v101 v103 S L110 0 0)))
      else (
        pL_renames_126 N (-9 : Int32) x1 v101 v103 S L104 0 0))
theorem fL_renames : lFnS yL_renames (.code yL_renames cL_renames 16 (some .boolean)) 13 263 := ⟨kT_230, kT_231, kT_116, rfl, by decide +kernel⟩
set_option maxRecDepth 100000 in
set_option maxHeartbeats 4000000 in
theorem c_L_renames (l : Launch) (hlt : l.stackTraces = false) (N : Nat) (x1 : Int32) (x2 : Int32) : lMet l yL_renames (.code yL_renames cL_renames 16 (some .boolean)) 10 373 11 435 (fun ca a => [.ref (ca 0), .int x1, .int x2, .ref (a 0), .ref (a 2), .ref (a 3), .ref (a 4), .ref (a 5), .ref (a 6), .ref (a 7), .ref (a 8), .ref (a 9), .ref (a 10)]) qI (pL_renames N x1 x2) := by
  refine l_start hlt (by decide +kernel) rfl (fun ca a => [(0, .ref (ca 0)), (1, .int x1), (2, .int x2), (3, .ref (a 0)), (4, .ref (a 2)), (5, .ref (a 3)), (6, .ref (a 4)), (7, .ref (a 5)), (8, .ref (a 6)), (9, .ref (a 7)), (10, .ref (a 8)), (11, .ref (a 9)), (12, .ref (a 10))]) (fun _ _ => Nat.le_of_ble_eq_true rfl) (fun _ _ => rfl) ?_
  intro dC dI g a sz Si Li r Sf Lf hpf p e s m args below meth c X hr H locs I ls hl
  have hx := X.1
  have hb := X.2.1
  have hCD : (0 : Nat) ≤ 11 ∧ (0 : Nat) ≤ 435 := ⟨Nat.zero_le _, Nat.zero_le _⟩
  unfold pL_renames at hpf
  have hC_159 : ∀ (x1 : Int32) (x13 : Int32) (x14 : Int32) (x15 : Int32) (S : kS) (L : lS) (C D : Nat) (hCD : C ≤ 11 ∧ D ≤ 435) (H : Heap) (locs : List Loc), lV dC dI g a (lFr g a Si Li sz) s Si S L H locs → ∀ ls : Array Slot, lv_has ls 16 [(0, .ref (g.2.1 0)), (1, .int x1), (13, .int x13), (14, .int x14), (15, .int x15)] → pL_renames_159 N x1 x13 x14 x15 S L C D = some (r, Sf, Lf) → W p l e (lRm 10 373 11 435) s m args below meth c H locs C D (MQ below (lQ dC dI g a sz Si Li (qI r) Sf Lf) args s 11 435 (lFr g a Si Li sz)) (F0 m 159 ls []) := by
    intro x1 x13 x14 x15 S L C D hCD H locs I ls hl hpf
    unfold pL_renames_159 at hpf
    refine lv_aload_n hx hb dL_renames_159 rfl (lv_at hl 0 rfl) ?_
    refine lv_iconst (v := (4 : Int32)) hx hb dL_renames_160 (by decide) ?_
    refine lv_iload_n hx hb dL_renames_161 rfl (lv_at hl 1 rfl) ?_
    refine lv_iload hx hb dL_renames_162 (lv_at hl 2 rfl) ?_
    refine lv_iload hx hb dL_renames_164 (lv_at hl 3 rfl) ?_
    refine lv_iconst (v := (0 : Int32)) hx hb dL_renames_166 (by decide) ?_
    refine l_cBW (rest := []) (As := [.ref (g.2.1 0), .int (4 : Int32), .int x1, .int x13, .int x14, .int (0 : Int32)]) X I fL_calls (c_L_calls l hlt N (4 : Int32) x1 x13 x14 (0 : Int32)) rfl ⟨Nat.le_of_ble_eq_true rfl, Nat.le_of_ble_eq_true rfl⟩ 167 dL_renames_167 rfl hl.1 rfl (Nat.le_of_ble_eq_true rfl) ⟨Nat.le_refl _, Nat.le_refl _⟩ hpf (fun v101 S102 L103 C104 D105 hCD H locs I hpf => ?_)
    refine lv_iload hx hb dL_renames_170 (lv_at hl 4 rfl) ?_
    refine b_icmp_ne hx hb 179 172 dL_renames_172 (by decide) hpf (fun hpf => ?_) (fun hpf => ?_)
    · refine lv_iconst (v := (0 : Int32)) hx hb dL_renames_179 (by decide) ?_
      exact l_retzB X I hr 180 dL_renames_180 hpf
    refine lv_iconst (v := (1 : Int32)) hx hb dL_renames_175 (by decide) ?_
    refine lv_goto (tgt := 180) hx hb dL_renames_176 (by decide) ?_
    exact l_retzB X I hr 180 dL_renames_180 hpf
  have hC_126 : ∀ (t0 : Int32) (x1 : Int32) (x13 : Int32) (x14 : Int32) (S : kS) (L : lS) (C D : Nat) (hCD : C ≤ 11 ∧ D ≤ 435) (H : Heap) (locs : List Loc), lV dC dI g a (lFr g a Si Li sz) s Si S L H locs → ∀ ls : Array Slot, lv_has ls 16 [(0, .ref (g.2.1 0)), (1, .int x1), (3, .ref (a 0)), (4, .ref (a 2)), (5, .ref (a 3)), (6, .ref (a 4)), (7, .ref (a 5)), (8, .ref (a 6)), (9, .ref (a 7)), (10, .ref (a 8)), (13, .int x13), (14, .int x14)] → pL_renames_126 N t0 x1 x13 x14 S L C D = some (r, Sf, Lf) → W p l e (lRm 10 373 11 435) s m args below meth c H locs C D (MQ below (lQ dC dI g a sz Si Li (qI r) Sf Lf) args s 11 435 (lFr g a Si Li sz)) (F0 m 126 ls [.int t0]) := by
    intro t0 x1 x13 x14 S L C D hCD H locs I ls hl hpf
    unfold pL_renames_126 at hpf
    refine lv_istore (lv' := [(15, .int t0), (0, .ref (g.2.1 0)), (1, .int x1), (3, .ref (a 0)), (4, .ref (a 2)), (5, .ref (a 3)), (6, .ref (a 4)), (7, .ref (a 5)), (8, .ref (a 6)), (9, .ref (a 7)), (10, .ref (a 8)), (13, .int x13), (14, .int x14)]) hx hb dL_renames_126 hl (by decide) rfl (fun ls hl => ?_)
    refine lv_iload hx hb dL_renames_128 (lv_at hl 0 rfl) ?_
    refine b_if_lt hx hb 159 130 dL_renames_130 (by decide) hpf (fun hpf => ?_) (fun hpf => ?_)
    · exact hC_159 x1 x13 x14 t0 S L C D hCD H locs I ls (lv_sub hl [1, 2, 11, 12, 0] rfl) hpf
    refine lv_iload_n hx hb dL_renames_133 rfl (lv_at hl 2 rfl) ?_
    refine lv_iconst (v := (4 : Int32)) hx hb dL_renames_134 (by decide) ?_
    refine lv_iload hx hb dL_renames_135 (lv_at hl 11 rfl) ?_
    refine lv_iload hx hb dL_renames_137 (lv_at hl 12 rfl) ?_
    refine lv_iconst (v := (0 : Int32)) hx hb dL_renames_139 (by decide) ?_
    refine lv_lconst (v := (0 : Int64)) hx hb dL_renames_140 (by decide) ?_
    refine lv_aload_n hx hb dL_renames_141 rfl (lv_at hl 3 rfl) ?_
    refine lv_aload hx hb dL_renames_142 (lv_at hl 4 rfl) ?_
    refine lv_aload hx hb dL_renames_144 (lv_at hl 5 rfl) ?_
    refine lv_aload hx hb dL_renames_146 (lv_at hl 6 rfl) ?_
    refine lv_aload hx hb dL_renames_148 (lv_at hl 7 rfl) ?_
    refine lv_aload hx hb dL_renames_150 (lv_at hl 8 rfl) ?_
    refine lv_aload hx hb dL_renames_152 (lv_at hl 9 rfl) ?_
    refine lv_aload hx hb dL_renames_154 (lv_at hl 10 rfl) ?_
    refine l_cAU (rest := []) (As := [.int x1, .int (4 : Int32), .int x13, .int x14, .int (0 : Int32), .long (0 : Int64), .ref (a 0), .ref (a 2), .ref (a 3), .ref (a 4), .ref (a 5), .ref (a 6), .ref (a 7), .ref (a 8)]) X I fL_makes (c_L_makes l hlt N x1 (4 : Int32) x13 x14 (0 : Int32) (0 : Int64)) rfl ⟨Nat.le_of_ble_eq_true rfl, Nat.le_of_ble_eq_true rfl⟩ 156 dL_renames_156 rfl hl.1 rfl (Nat.le_of_ble_eq_true rfl) hCD hpf (fun v101 L102 H locs I hpf => ?_)
    exact hC_159 x1 x13 x14 t0 S L102 C D hCD H locs I ls (lv_sub hl [1, 2, 11, 12, 0] rfl) hpf
  refine lv_iload_n hx hb dL_renames_0 rfl (lv_at hl 2 rfl) ?_
  refine lv_aload_n hx hb dL_renames_1 rfl (lv_at hl 3 rfl) ?_
  refine lv_iconst (v := (0 : Int32)) hx hb dL_renames_2 (by decide) ?_
  refine l_iald X I lR_0 3 dL_renames_3 hpf (fun hpf => ?_)
  refine l_cAI (rest := []) (As := [.int x2, .int (aI Li 0 (0 : Int32).toNatClampNeg)]) X I fL_low (c_L_low l hlt N x2 (aI Li 0 (0 : Int32).toNatClampNeg)) rfl ⟨Nat.le_of_ble_eq_true rfl, Nat.le_of_ble_eq_true rfl⟩ 4 dL_renames_4 rfl hl.1 rfl (Nat.le_of_ble_eq_true rfl) hCD hpf (fun v101 L102 H locs I hpf => ?_)
  refine lv_istore (lv' := [(13, .int v101), (0, .ref (g.2.1 0)), (1, .int x1), (2, .int x2), (3, .ref (a 0)), (4, .ref (a 2)), (5, .ref (a 3)), (6, .ref (a 4)), (7, .ref (a 5)), (8, .ref (a 6)), (9, .ref (a 7)), (10, .ref (a 8)), (11, .ref (a 9)), (12, .ref (a 10))]) hx hb dL_renames_7 hl (by decide) rfl (fun ls hl => ?_)
  refine lv_iload_n hx hb dL_renames_9 rfl (lv_at hl 3 rfl) ?_
  refine lv_iconst (v := (4 : Int32)) hx hb dL_renames_10 (by decide) ?_
  refine lv_ishr hx hb dL_renames_11 ?_
  refine lv_iconst (v := (4 : Int32)) hx hb dL_renames_12 (by decide) ?_
  refine l_cAI (rest := []) (As := [.int (x2 >>> ((4 : Int32) &&& 31)), .int (4 : Int32)]) X I fL_low (c_L_low l hlt N (x2 >>> ((4 : Int32) &&& 31)) (4 : Int32)) rfl ⟨Nat.le_of_ble_eq_true rfl, Nat.le_of_ble_eq_true rfl⟩ 13 dL_renames_13 rfl hl.1 rfl (Nat.le_of_ble_eq_true rfl) hCD hpf (fun v103 L104 H locs I hpf => ?_)
  refine lv_istore (lv' := [(14, .int v103), (13, .int v101), (0, .ref (g.2.1 0)), (1, .int x1), (2, .int x2), (3, .ref (a 0)), (4, .ref (a 2)), (5, .ref (a 3)), (6, .ref (a 4)), (7, .ref (a 5)), (8, .ref (a 6)), (9, .ref (a 7)), (10, .ref (a 8)), (11, .ref (a 9)), (12, .ref (a 10))]) hx hb dL_renames_16 hl (by decide) rfl (fun ls hl => ?_)
  refine lv_iload hx hb dL_renames_18 (lv_at hl 1 rfl) ?_
  refine b_if_eq hx hb 34 20 dL_renames_20 (by decide) hpf (fun hpf => ?_) (fun hpf => ?_)
  · refine lv_bipush (v := (-9 : Int32)) hx hb dL_renames_34 (by decide) ?_
    refine lv_goto (tgt := 126) hx hb dL_renames_36 (by decide) ?_
    exact hC_126 (-9 : Int32) x1 v101 v103 Si L104 0 0 hCD H locs I ls (lv_sub hl [2, 3, 5, 6, 7, 8, 9, 10, 11, 12, 1, 0] rfl) hpf
  refine lv_aload hx hb dL_renames_23 (lv_at hl 13 rfl) ?_
  refine lv_iconst (v := (3 : Int32)) hx hb dL_renames_25 (by decide) ?_
  refine lv_iload hx hb dL_renames_26 (lv_at hl 1 rfl) ?_
  refine lv_imul hx hb dL_renames_28 ?_
  refine l_iald X I lR_9 29 dL_renames_29 hpf (fun hpf => ?_)
  refine lv_iconst (v := (1 : Int32)) hx hb dL_renames_30 (by decide) ?_
  refine b_icmp_eq hx hb 39 31 dL_renames_31 (by decide) hpf (fun hpf => ?_) (fun hpf => ?_)
  · refine lv_iload_n hx hb dL_renames_39 rfl (lv_at hl 3 rfl) ?_
    refine lv_aload_n hx hb dL_renames_40 rfl (lv_at hl 5 rfl) ?_
    refine lv_iconst (v := (4 : Int32)) hx hb dL_renames_41 (by decide) ?_
    refine lv_iload_n hx hb dL_renames_42 rfl (lv_at hl 3 rfl) ?_
    refine lv_iadd hx hb dL_renames_43 ?_
    refine l_iald X I lR_0 44 dL_renames_44 hpf (fun hpf => ?_)
    refine lv_iload hx hb dL_renames_45 (lv_at hl 1 rfl) ?_
    refine lv_iconst (v := (1 : Int32)) hx hb dL_renames_47 (by decide) ?_
    refine lv_aload_n hx hb dL_renames_48 rfl (lv_at hl 5 rfl) ?_
    refine lv_aload hx hb dL_renames_49 (lv_at hl 6 rfl) ?_
    refine lv_aload hx hb dL_renames_51 (lv_at hl 7 rfl) ?_
    refine lv_aload hx hb dL_renames_53 (lv_at hl 8 rfl) ?_
    refine lv_aload hx hb dL_renames_55 (lv_at hl 9 rfl) ?_
    refine lv_aload hx hb dL_renames_57 (lv_at hl 10 rfl) ?_
    refine lv_aload hx hb dL_renames_59 (lv_at hl 12 rfl) ?_
    refine lv_aload hx hb dL_renames_61 (lv_at hl 13 rfl) ?_
    refine lv_aload hx hb dL_renames_63 (lv_at hl 14 rfl) ?_
    refine l_cAI (rest := []) (As := [.int x1, .int (aI L104 0 ((4 : Int32) + x1).toNatClampNeg), .int v101, .int (1 : Int32), .ref (a 0), .ref (a 2), .ref (a 3), .ref (a 4), .ref (a 5), .ref (a 6), .ref (a 8), .ref (a 9), .ref (a 10)]) X I fL_may (c_L_may l hlt N x1 (aI L104 0 ((4 : Int32) + x1).toNatClampNeg) v101 (1 : Int32)) rfl ⟨Nat.le_of_ble_eq_true rfl, Nat.le_of_ble_eq_true rfl⟩ 65 dL_renames_65 rfl hl.1 rfl (Nat.le_of_ble_eq_true rfl) hCD hpf (fun v105 L106 H locs I hpf => ?_)
    refine b_if_eq hx hb 102 68 dL_renames_68 (by decide) hpf (fun hpf => ?_) (fun hpf => ?_)
    · refine lv_bipush (v := (-7 : Int32)) hx hb dL_renames_102 (by decide) ?_
      refine lv_goto (tgt := 126) hx hb dL_renames_104 (by decide) ?_
      exact hC_126 (-7 : Int32) x1 v101 v103 Si L106 0 0 hCD H locs I ls (lv_sub hl [2, 3, 5, 6, 7, 8, 9, 10, 11, 12, 1, 0] rfl) hpf
    refine lv_iload_n hx hb dL_renames_71 rfl (lv_at hl 3 rfl) ?_
    refine lv_iload hx hb dL_renames_72 (lv_at hl 1 rfl) ?_
    refine lv_aload hx hb dL_renames_74 (lv_at hl 13 rfl) ?_
    refine l_cAI (rest := [.int x1]) (As := [.int v101, .ref (a 9)]) X I fL_place (c_L_place l hlt N v101) rfl ⟨Nat.le_of_ble_eq_true rfl, Nat.le_of_ble_eq_true rfl⟩ 76 dL_renames_76 rfl hl.1 rfl (Nat.le_of_ble_eq_true rfl) hCD hpf (fun v107 L108 H locs I hpf => ?_)
    refine lv_iload hx hb dL_renames_79 (lv_at hl 1 rfl) ?_
    refine lv_iload hx hb dL_renames_81 (lv_at hl 0 rfl) ?_
    refine lv_aload_n hx hb dL_renames_83 rfl (lv_at hl 5 rfl) ?_
    refine lv_aload hx hb dL_renames_84 (lv_at hl 6 rfl) ?_
    refine lv_aload hx hb dL_renames_86 (lv_at hl 7 rfl) ?_
    refine lv_aload hx hb dL_renames_88 (lv_at hl 8 rfl) ?_
    refine lv_aload hx hb dL_renames_90 (lv_at hl 9 rfl) ?_
    refine lv_aload hx hb dL_renames_92 (lv_at hl 12 rfl) ?_
    refine lv_aload hx hb dL_renames_94 (lv_at hl 13 rfl) ?_
    refine l_cAI (rest := []) (As := [.int x1, .int v107, .int v101, .int v103, .ref (a 0), .ref (a 2), .ref (a 3), .ref (a 4), .ref (a 5), .ref (a 8), .ref (a 9)]) X I fL_named (c_L_named l hlt N x1 v107 v101 v103) rfl ⟨Nat.le_of_ble_eq_true rfl, Nat.le_of_ble_eq_true rfl⟩ 96 dL_renames_96 rfl hl.1 rfl (Nat.le_of_ble_eq_true rfl) hCD hpf (fun v109 L110 H locs I hpf => ?_)
    refine b_if_eq hx hb 107 99 dL_renames_99 (by decide) hpf (fun hpf => ?_) (fun hpf => ?_)
    · refine lv_iload_n hx hb dL_renames_107 rfl (lv_at hl 3 rfl) ?_
      refine lv_iload hx hb dL_renames_108 (lv_at hl 1 rfl) ?_
      refine lv_aload_n hx hb dL_renames_110 rfl (lv_at hl 5 rfl) ?_
      refine lv_aload hx hb dL_renames_111 (lv_at hl 6 rfl) ?_
      refine lv_aload hx hb dL_renames_113 (lv_at hl 7 rfl) ?_
      refine lv_aload hx hb dL_renames_115 (lv_at hl 8 rfl) ?_
      refine lv_aload hx hb dL_renames_117 (lv_at hl 9 rfl) ?_
      refine lv_aload hx hb dL_renames_119 (lv_at hl 12 rfl) ?_
      refine lv_aload hx hb dL_renames_121 (lv_at hl 13 rfl) ?_
      refine l_cAI (rest := []) (As := [.int x1, .int v101, .ref (a 0), .ref (a 2), .ref (a 3), .ref (a 4), .ref (a 5), .ref (a 8), .ref (a 9)]) X I fL_shown (c_L_shown l hlt N x1 v101) rfl ⟨Nat.le_of_ble_eq_true rfl, Nat.le_of_ble_eq_true rfl⟩ 123 dL_renames_123 rfl hl.1 rfl (Nat.le_of_ble_eq_true rfl) hCD hpf (fun v111 L112 H locs I hpf => ?_)
      exact hC_126 v111 x1 v101 v103 Si L112 0 0 hCD H locs I ls (lv_sub hl [2, 3, 5, 6, 7, 8, 9, 10, 11, 12, 1, 0] rfl) hpf
    refine lv_bipush (v := (-7 : Int32)) hx hb dL_renames_102 (by decide) ?_
    refine lv_goto (tgt := 126) hx hb dL_renames_104 (by decide) ?_
    exact hC_126 (-7 : Int32) x1 v101 v103 Si L110 0 0 hCD H locs I ls (lv_sub hl [2, 3, 5, 6, 7, 8, 9, 10, 11, 12, 1, 0] rfl) hpf
  refine lv_bipush (v := (-9 : Int32)) hx hb dL_renames_34 (by decide) ?_
  refine lv_goto (tgt := 126) hx hb dL_renames_36 (by decide) ?_
  exact hC_126 (-9 : Int32) x1 v101 v103 Si L104 0 0 hCD H locs I ls (lv_sub hl [2, 3, 5, 6, 7, 8, 9, 10, 11, 12, 1, 0] rfl) hpf
