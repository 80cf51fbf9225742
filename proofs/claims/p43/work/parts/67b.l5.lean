-- ===== the law's links =====
noncomputable def pL_links_230 (N : Nat) (x1 : Int32) (x13 : Int32) (x15 : Int32) (x17 : Int32) (S : kS) (L : lS) (C : Nat) (D : Nat) : Option (Int32 × kS × lS) :=
    lbb 11 435 11 435 C D (pL_calls N (5 : Int32) x1 x13 x15 (0 : Int32) S L) fun v101 S102 L103 C104 D105 =>
    if v101 = x17 then (
      zlB 11 435 C104 D105 (1 : Int32) S102 L103)
    else (
      zlB 11 435 C104 D105 (0 : Int32) S102 L103)
noncomputable def pL_links_197 (N : Nat) (t0 : Int32) (x1 : Int32) (x13 : Int32) (x15 : Int32) (x17 : Int32) (S : kS) (L : lS) (C : Nat) (D : Nat) : Option (Int32 × kS × lS) :=
    if t0 = (0 : Int32) then (
      pL_links_230 N x1 x13 x15 x17 S L C D)
    else (
      lba (pL_makes N x1 (5 : Int32) x13 x15 (0 : Int32) (0 : Int64) L) fun v101 L102 =>
      pL_links_230 N x1 x13 x15 x17 S L102 C D)
noncomputable def pL_links_176 (N : Nat) (t0 : Int32) (x1 : Int32) (x13 : Int32) (x15 : Int32) (S : kS) (L : lS) (C : Nat) (D : Nat) : Option (Int32 × kS × lS) :=
    if t0 = (-9 : Int32) then (
      pL_links_197 N (0 : Int32) x1 x13 x15 t0 S L C D)
    else (
      if t0 = (-7 : Int32) then (
        pL_links_197 N (0 : Int32) x1 x13 x15 t0 S L C D)
      else (
        pL_links_197 N (1 : Int32) x1 x13 x15 t0 S L C D))
noncomputable def pL_links_103 (N : Nat) (t0 : Int32) (x1 : Int32) (x13 : Int32) (x15 : Int32) (S : kS) (L : lS) (C : Nat) (D : Nat) : Option (Int32 × kS × lS) :=
    if t0 = (0 : Int32) then (
      pL_links_176 N (-9 : Int32) x1 x13 x15 S L C D)
    else (
      if x15 = x13 then (
        pL_links_176 N (-7 : Int32) x1 x13 x15 S L C D)
      else (
        gd ((4 : Int32) + x1) 20 <|
        lba (pL_may N x1 (aI L 0 ((4 : Int32) + x1).toNatClampNeg) x13 (1 : Int32) L) fun v101 L102 =>
        if v101 = (0 : Int32) then (
          pL_links_176 N (-7 : Int32) x1 x13 x15 S L102 C D)
        else (
          lba (pL_link N x1 x13 L102) fun v103 L104 =>
          pL_links_176 N v103 x1 x13 x15 S L104 C D)))
noncomputable def pL_links_57 (N : Nat) (t0 : Int32) (x1 : Int32) (x13 : Int32) (S : kS) (L : lS) (C : Nat) (D : Nat) : Option (Int32 × kS × lS) :=
    if x13 ≤ (0 : Int32) then (
      pL_links_103 N (0 : Int32) x1 x13 t0 S L C D)
    else (
      gd ((3 : Int32) * x13) 36 <|
      if (aI L 9 ((3 : Int32) * x13).toNatClampNeg) = (1 : Int32) then (
        if t0 < (0 : Int32) then (
          pL_links_103 N (1 : Int32) x1 x13 t0 S L C D)
        else (
          if (99 : Int32) < t0 then (
            pL_links_103 N (1 : Int32) x1 x13 t0 S L C D)
          else (
            gd ((3 : Int32) * t0) 36 <|
            if (aI L 9 ((3 : Int32) * t0).toNatClampNeg) = (1 : Int32) then (
              pL_links_103 N (1 : Int32) x1 x13 t0 S L C D)
            else (
              pL_links_103 N (0 : Int32) x1 x13 t0 S L C D))))
      else (
        pL_links_103 N (0 : Int32) x1 x13 t0 S L C D))
noncomputable def pL_links (N : Nat) (x1 : Int32) (x2 : Int32) (S : kS) (L : lS) : Option (Int32 × kS × lS) :=
    gd (0 : Int32) 20 <|
    lba (pL_low N x2 (aI L 0 (0 : Int32).toNatClampNeg) L) fun v101 L102 =>
    lba (pL_low N (x2 >>> ((4 : Int32) &&& 31)) (4 : Int32) L102) fun v103 L104 =>
    if v103 = (0 : Int32) then (
      pL_links_57 N (-1 : Int32) x1 v101 S L104 0 0)
    else (
      if v103 = (1 : Int32) then (
        lba (pL_low N (x2 >>> ((6 : Int32) &&& 31)) (4 : Int32) L104) fun v107 L108 =>
        pL_links_57 N ((100 : Int32) + v107) x1 v101 S L108 0 0)
      else (
        gd (0 : Int32) 20 <|
        lba (pL_low N (x2 >>> ((6 : Int32) &&& 31)) (aI L104 0 (0 : Int32).toNatClampNeg) L104) fun v105 L106 =>
        pL_links_57 N v105 x1 v101 S L106 0 0))
theorem fL_links : lFnS yL_links (.code yL_links cL_links 19 (some .boolean)) 13 273 := ⟨kT_236, kT_237, kT_127, rfl, by decide +kernel⟩
set_option maxRecDepth 100000 in
set_option maxHeartbeats 4000000 in
theorem c_L_links (l : Launch) (hlt : l.stackTraces = false) (N : Nat) (x1 : Int32) (x2 : Int32) : lMet l yL_links (.code yL_links cL_links 19 (some .boolean)) 10 373 11 435 (fun ca a => [.ref (ca 0), .int x1, .int x2, .ref (a 0), .ref (a 2), .ref (a 3), .ref (a 4), .ref (a 5), .ref (a 6), .ref (a 7), .ref (a 8), .ref (a 9), .ref (a 10)]) qI (pL_links N x1 x2) := by
  refine l_start hlt (by decide +kernel) rfl (fun ca a => [(0, .ref (ca 0)), (1, .int x1), (2, .int x2), (3, .ref (a 0)), (4, .ref (a 2)), (5, .ref (a 3)), (6, .ref (a 4)), (7, .ref (a 5)), (8, .ref (a 6)), (9, .ref (a 7)), (10, .ref (a 8)), (11, .ref (a 9)), (12, .ref (a 10))]) (fun _ _ => Nat.le_of_ble_eq_true rfl) (fun _ _ => rfl) ?_
  intro dC dI g a sz Si Li r Sf Lf hpf p e s m args below meth c X hr H locs I ls hl
  have hx := X.1
  have hb := X.2.1
  have hCD : (0 : Nat) ≤ 11 ∧ (0 : Nat) ≤ 435 := ⟨Nat.zero_le _, Nat.zero_le _⟩
  unfold pL_links at hpf
  have hC_230 : ∀ (x1 : Int32) (x13 : Int32) (x15 : Int32) (x17 : Int32) (S : kS) (L : lS) (C D : Nat) (hCD : C ≤ 11 ∧ D ≤ 435) (H : Heap) (locs : List Loc), lV dC dI g a (lFr g a Si Li sz) s Si S L H locs → ∀ ls : Array Slot, lv_has ls 19 [(0, .ref (g.2.1 0)), (1, .int x1), (13, .int x13), (15, .int x15), (17, .int x17)] → pL_links_230 N x1 x13 x15 x17 S L C D = some (r, Sf, Lf) → W p l e (lRm 10 373 11 435) s m args below meth c H locs C D (MQ below (lQ dC dI g a sz Si Li (qI r) Sf Lf) args s 11 435 (lFr g a Si Li sz)) (F0 m 230 ls []) := by
    intro x1 x13 x15 x17 S L C D hCD H locs I ls hl hpf
    unfold pL_links_230 at hpf
    refine lv_aload_n hx hb dL_links_230 rfl (lv_at hl 0 rfl) ?_
    refine lv_iconst (v := (5 : Int32)) hx hb dL_links_231 (by decide) ?_
    refine lv_iload_n hx hb dL_links_232 rfl (lv_at hl 1 rfl) ?_
    refine lv_iload hx hb dL_links_233 (lv_at hl 2 rfl) ?_
    refine lv_iload hx hb dL_links_235 (lv_at hl 3 rfl) ?_
    refine lv_iconst (v := (0 : Int32)) hx hb dL_links_237 (by decide) ?_
    refine l_cBW (rest := []) (As := [.ref (g.2.1 0), .int (5 : Int32), .int x1, .int x13, .int x15, .int (0 : Int32)]) X I fL_calls (c_L_calls l hlt N (5 : Int32) x1 x13 x15 (0 : Int32)) rfl ⟨Nat.le_of_ble_eq_true rfl, Nat.le_of_ble_eq_true rfl⟩ 238 dL_links_238 rfl hl.1 rfl (Nat.le_of_ble_eq_true rfl) ⟨Nat.le_refl _, Nat.le_refl _⟩ hpf (fun v101 S102 L103 C104 D105 hCD H locs I hpf => ?_)
    refine lv_iload hx hb dL_links_241 (lv_at hl 4 rfl) ?_
    refine b_icmp_ne hx hb 250 243 dL_links_243 (by decide) hpf (fun hpf => ?_) (fun hpf => ?_)
    · refine lv_iconst (v := (0 : Int32)) hx hb dL_links_250 (by decide) ?_
      exact l_retzB X I hr 251 dL_links_251 hpf
    refine lv_iconst (v := (1 : Int32)) hx hb dL_links_246 (by decide) ?_
    refine lv_goto (tgt := 251) hx hb dL_links_247 (by decide) ?_
    exact l_retzB X I hr 251 dL_links_251 hpf
  have hC_197 : ∀ (t0 : Int32) (x1 : Int32) (x13 : Int32) (x15 : Int32) (x17 : Int32) (S : kS) (L : lS) (C D : Nat) (hCD : C ≤ 11 ∧ D ≤ 435) (H : Heap) (locs : List Loc), lV dC dI g a (lFr g a Si Li sz) s Si S L H locs → ∀ ls : Array Slot, lv_has ls 19 [(0, .ref (g.2.1 0)), (1, .int x1), (3, .ref (a 0)), (4, .ref (a 2)), (5, .ref (a 3)), (6, .ref (a 4)), (7, .ref (a 5)), (8, .ref (a 6)), (9, .ref (a 7)), (10, .ref (a 8)), (13, .int x13), (15, .int x15), (17, .int x17)] → pL_links_197 N t0 x1 x13 x15 x17 S L C D = some (r, Sf, Lf) → W p l e (lRm 10 373 11 435) s m args below meth c H locs C D (MQ below (lQ dC dI g a sz Si Li (qI r) Sf Lf) args s 11 435 (lFr g a Si Li sz)) (F0 m 197 ls [.int t0]) := by
    intro t0 x1 x13 x15 x17 S L C D hCD H locs I ls hl hpf
    unfold pL_links_197 at hpf
    refine lv_istore (lv' := [(18, .int t0), (0, .ref (g.2.1 0)), (1, .int x1), (3, .ref (a 0)), (4, .ref (a 2)), (5, .ref (a 3)), (6, .ref (a 4)), (7, .ref (a 5)), (8, .ref (a 6)), (9, .ref (a 7)), (10, .ref (a 8)), (13, .int x13), (15, .int x15), (17, .int x17)]) hx hb dL_links_197 hl (by decide) rfl (fun ls hl => ?_)
    refine lv_iload hx hb dL_links_199 (lv_at hl 0 rfl) ?_
    refine b_if_eq hx hb 230 201 dL_links_201 (by decide) hpf (fun hpf => ?_) (fun hpf => ?_)
    · exact hC_230 x1 x13 x15 x17 S L C D hCD H locs I ls (lv_sub hl [1, 2, 11, 12, 13] rfl) hpf
    refine lv_iload_n hx hb dL_links_204 rfl (lv_at hl 2 rfl) ?_
    refine lv_iconst (v := (5 : Int32)) hx hb dL_links_205 (by decide) ?_
    refine lv_iload hx hb dL_links_206 (lv_at hl 11 rfl) ?_
    refine lv_iload hx hb dL_links_208 (lv_at hl 12 rfl) ?_
    refine lv_iconst (v := (0 : Int32)) hx hb dL_links_210 (by decide) ?_
    refine lv_lconst (v := (0 : Int64)) hx hb dL_links_211 (by decide) ?_
    refine lv_aload_n hx hb dL_links_212 rfl (lv_at hl 3 rfl) ?_
    refine lv_aload hx hb dL_links_213 (lv_at hl 4 rfl) ?_
    refine lv_aload hx hb dL_links_215 (lv_at hl 5 rfl) ?_
    refine lv_aload hx hb dL_links_217 (lv_at hl 6 rfl) ?_
    refine lv_aload hx hb dL_links_219 (lv_at hl 7 rfl) ?_
    refine lv_aload hx hb dL_links_221 (lv_at hl 8 rfl) ?_
    refine lv_aload hx hb dL_links_223 (lv_at hl 9 rfl) ?_
    refine lv_aload hx hb dL_links_225 (lv_at hl 10 rfl) ?_
    refine l_cAU (rest := []) (As := [.int x1, .int (5 : Int32), .int x13, .int x15, .int (0 : Int32), .long (0 : Int64), .ref (a 0), .ref (a 2), .ref (a 3), .ref (a 4), .ref (a 5), .ref (a 6), .ref (a 7), .ref (a 8)]) X I fL_makes (c_L_makes l hlt N x1 (5 : Int32) x13 x15 (0 : Int32) (0 : Int64)) rfl ⟨Nat.le_of_ble_eq_true rfl, Nat.le_of_ble_eq_true rfl⟩ 227 dL_links_227 rfl hl.1 rfl (Nat.le_of_ble_eq_true rfl) hCD hpf (fun v101 L102 H locs I hpf => ?_)
    exact hC_230 x1 x13 x15 x17 S L102 C D hCD H locs I ls (lv_sub hl [1, 2, 11, 12, 13] rfl) hpf
  have hC_176 : ∀ (t0 : Int32) (x1 : Int32) (x13 : Int32) (x15 : Int32) (S : kS) (L : lS) (C D : Nat) (hCD : C ≤ 11 ∧ D ≤ 435) (H : Heap) (locs : List Loc), lV dC dI g a (lFr g a Si Li sz) s Si S L H locs → ∀ ls : Array Slot, lv_has ls 19 [(0, .ref (g.2.1 0)), (1, .int x1), (3, .ref (a 0)), (4, .ref (a 2)), (5, .ref (a 3)), (6, .ref (a 4)), (7, .ref (a 5)), (8, .ref (a 6)), (9, .ref (a 7)), (10, .ref (a 8)), (13, .int x13), (15, .int x15)] → pL_links_176 N t0 x1 x13 x15 S L C D = some (r, Sf, Lf) → W p l e (lRm 10 373 11 435) s m args below meth c H locs C D (MQ below (lQ dC dI g a sz Si Li (qI r) Sf Lf) args s 11 435 (lFr g a Si Li sz)) (F0 m 176 ls [.int t0]) := by
    intro t0 x1 x13 x15 S L C D hCD H locs I ls hl hpf
    unfold pL_links_176 at hpf
    refine lv_istore (lv' := [(17, .int t0), (0, .ref (g.2.1 0)), (1, .int x1), (3, .ref (a 0)), (4, .ref (a 2)), (5, .ref (a 3)), (6, .ref (a 4)), (7, .ref (a 5)), (8, .ref (a 6)), (9, .ref (a 7)), (10, .ref (a 8)), (13, .int x13), (15, .int x15)]) hx hb dL_links_176 hl (by decide) rfl (fun ls hl => ?_)
    refine lv_iload hx hb dL_links_178 (lv_at hl 0 rfl) ?_
    refine lv_bipush (v := (-9 : Int32)) hx hb dL_links_180 (by decide) ?_
    refine b_icmp_eq hx hb 196 182 dL_links_182 (by decide) hpf (fun hpf => ?_) (fun hpf => ?_)
    · refine lv_iconst (v := (0 : Int32)) hx hb dL_links_196 (by decide) ?_
      exact hC_197 (0 : Int32) x1 x13 x15 t0 S L C D hCD H locs I ls (lv_sub hl [1, 2, 3, 4, 5, 6, 7, 8, 9, 10, 11, 12, 0] rfl) hpf
    refine lv_iload hx hb dL_links_185 (lv_at hl 0 rfl) ?_
    refine lv_bipush (v := (-7 : Int32)) hx hb dL_links_187 (by decide) ?_
    refine b_icmp_eq hx hb 196 189 dL_links_189 (by decide) hpf (fun hpf => ?_) (fun hpf => ?_)
    · refine lv_iconst (v := (0 : Int32)) hx hb dL_links_196 (by decide) ?_
      exact hC_197 (0 : Int32) x1 x13 x15 t0 S L C D hCD H locs I ls (lv_sub hl [1, 2, 3, 4, 5, 6, 7, 8, 9, 10, 11, 12, 0] rfl) hpf
    refine lv_iconst (v := (1 : Int32)) hx hb dL_links_192 (by decide) ?_
    refine lv_goto (tgt := 197) hx hb dL_links_193 (by decide) ?_
    exact hC_197 (1 : Int32) x1 x13 x15 t0 S L C D hCD H locs I ls (lv_sub hl [1, 2, 3, 4, 5, 6, 7, 8, 9, 10, 11, 12, 0] rfl) hpf
  have hC_103 : ∀ (t0 : Int32) (x1 : Int32) (x13 : Int32) (x15 : Int32) (S : kS) (L : lS) (C D : Nat) (hCD : C ≤ 11 ∧ D ≤ 435) (H : Heap) (locs : List Loc), lV dC dI g a (lFr g a Si Li sz) s Si S L H locs → ∀ ls : Array Slot, lv_has ls 19 [(0, .ref (g.2.1 0)), (1, .int x1), (3, .ref (a 0)), (4, .ref (a 2)), (5, .ref (a 3)), (6, .ref (a 4)), (7, .ref (a 5)), (8, .ref (a 6)), (9, .ref (a 7)), (10, .ref (a 8)), (11, .ref (a 9)), (12, .ref (a 10)), (13, .int x13), (15, .int x15)] → pL_links_103 N t0 x1 x13 x15 S L C D = some (r, Sf, Lf) → W p l e (lRm 10 373 11 435) s m args below meth c H locs C D (MQ below (lQ dC dI g a sz Si Li (qI r) Sf Lf) args s 11 435 (lFr g a Si Li sz)) (F0 m 103 ls [.int t0]) := by
    intro t0 x1 x13 x15 S L C D hCD H locs I ls hl hpf
    unfold pL_links_103 at hpf
    refine lv_istore (lv' := [(16, .int t0), (0, .ref (g.2.1 0)), (1, .int x1), (3, .ref (a 0)), (4, .ref (a 2)), (5, .ref (a 3)), (6, .ref (a 4)), (7, .ref (a 5)), (8, .ref (a 6)), (9, .ref (a 7)), (10, .ref (a 8)), (11, .ref (a 9)), (12, .ref (a 10)), (13, .int x13), (15, .int x15)]) hx hb dL_links_103 hl (by decide) rfl (fun ls hl => ?_)
    refine lv_iload hx hb dL_links_105 (lv_at hl 0 rfl) ?_
    refine b_if_ne hx hb 115 107 dL_links_107 (by decide) hpf (fun hpf => ?_) (fun hpf => ?_)
    · refine lv_iload hx hb dL_links_115 (lv_at hl 14 rfl) ?_
      refine lv_iload hx hb dL_links_117 (lv_at hl 13 rfl) ?_
      refine b_icmp_eq hx hb 154 119 dL_links_119 (by decide) hpf (fun hpf => ?_) (fun hpf => ?_)
      · refine lv_bipush (v := (-7 : Int32)) hx hb dL_links_154 (by decide) ?_
        refine lv_goto (tgt := 176) hx hb dL_links_156 (by decide) ?_
        exact hC_176 (-7 : Int32) x1 x13 x15 S L C D hCD H locs I ls (lv_sub hl [1, 2, 3, 4, 5, 6, 7, 8, 9, 10, 13, 14] rfl) hpf
      refine lv_iload_n hx hb dL_links_122 rfl (lv_at hl 2 rfl) ?_
      refine lv_aload_n hx hb dL_links_123 rfl (lv_at hl 3 rfl) ?_
      refine lv_iconst (v := (4 : Int32)) hx hb dL_links_124 (by decide) ?_
      refine lv_iload_n hx hb dL_links_125 rfl (lv_at hl 2 rfl) ?_
      refine lv_iadd hx hb dL_links_126 ?_
      refine l_iald X I lR_0 127 dL_links_127 hpf (fun hpf => ?_)
      refine lv_iload hx hb dL_links_128 (lv_at hl 13 rfl) ?_
      refine lv_iconst (v := (1 : Int32)) hx hb dL_links_130 (by decide) ?_
      refine lv_aload_n hx hb dL_links_131 rfl (lv_at hl 3 rfl) ?_
      refine lv_aload hx hb dL_links_132 (lv_at hl 4 rfl) ?_
      refine lv_aload hx hb dL_links_134 (lv_at hl 5 rfl) ?_
      refine lv_aload hx hb dL_links_136 (lv_at hl 6 rfl) ?_
      refine lv_aload hx hb dL_links_138 (lv_at hl 7 rfl) ?_
      refine lv_aload hx hb dL_links_140 (lv_at hl 8 rfl) ?_
      refine lv_aload hx hb dL_links_142 (lv_at hl 10 rfl) ?_
      refine lv_aload hx hb dL_links_144 (lv_at hl 11 rfl) ?_
      refine lv_aload hx hb dL_links_146 (lv_at hl 12 rfl) ?_
      refine l_cAI (rest := []) (As := [.int x1, .int (aI L 0 ((4 : Int32) + x1).toNatClampNeg), .int x13, .int (1 : Int32), .ref (a 0), .ref (a 2), .ref (a 3), .ref (a 4), .ref (a 5), .ref (a 6), .ref (a 8), .ref (a 9), .ref (a 10)]) X I fL_may (c_L_may l hlt N x1 (aI L 0 ((4 : Int32) + x1).toNatClampNeg) x13 (1 : Int32)) rfl ⟨Nat.le_of_ble_eq_true rfl, Nat.le_of_ble_eq_true rfl⟩ 148 dL_links_148 rfl hl.1 rfl (Nat.le_of_ble_eq_true rfl) hCD hpf (fun v101 L102 H locs I hpf => ?_)
      refine b_if_ne hx hb 159 151 dL_links_151 (by decide) hpf (fun hpf => ?_) (fun hpf => ?_)
      · refine lv_iload_n hx hb dL_links_159 rfl (lv_at hl 2 rfl) ?_
        refine lv_iload hx hb dL_links_160 (lv_at hl 13 rfl) ?_
        refine lv_aload_n hx hb dL_links_162 rfl (lv_at hl 3 rfl) ?_
        refine lv_aload hx hb dL_links_163 (lv_at hl 4 rfl) ?_
        refine lv_aload hx hb dL_links_165 (lv_at hl 5 rfl) ?_
        refine lv_aload hx hb dL_links_167 (lv_at hl 6 rfl) ?_
        refine lv_aload hx hb dL_links_169 (lv_at hl 7 rfl) ?_
        refine lv_aload hx hb dL_links_171 (lv_at hl 10 rfl) ?_
        refine l_cAI (rest := []) (As := [.int x1, .int x13, .ref (a 0), .ref (a 2), .ref (a 3), .ref (a 4), .ref (a 5), .ref (a 8)]) X I fL_link (c_L_link l hlt N x1 x13) rfl ⟨Nat.le_of_ble_eq_true rfl, Nat.le_of_ble_eq_true rfl⟩ 173 dL_links_173 rfl hl.1 rfl (Nat.le_of_ble_eq_true rfl) hCD hpf (fun v103 L104 H locs I hpf => ?_)
        exact hC_176 v103 x1 x13 x15 S L104 C D hCD H locs I ls (lv_sub hl [1, 2, 3, 4, 5, 6, 7, 8, 9, 10, 13, 14] rfl) hpf
      refine lv_bipush (v := (-7 : Int32)) hx hb dL_links_154 (by decide) ?_
      refine lv_goto (tgt := 176) hx hb dL_links_156 (by decide) ?_
      exact hC_176 (-7 : Int32) x1 x13 x15 S L102 C D hCD H locs I ls (lv_sub hl [1, 2, 3, 4, 5, 6, 7, 8, 9, 10, 13, 14] rfl) hpf
    refine lv_bipush (v := (-9 : Int32)) hx hb dL_links_110 (by decide) ?_
    refine lv_goto (tgt := 176) hx hb dL_links_112 (by decide) ?_
    exact hC_176 (-9 : Int32) x1 x13 x15 S L C D hCD H locs I ls (lv_sub hl [1, 2, 3, 4, 5, 6, 7, 8, 9, 10, 13, 14] rfl) hpf
  have hC_57 : ∀ (t0 : Int32) (x1 : Int32) (x13 : Int32) (S : kS) (L : lS) (C D : Nat) (hCD : C ≤ 11 ∧ D ≤ 435) (H : Heap) (locs : List Loc), lV dC dI g a (lFr g a Si Li sz) s Si S L H locs → ∀ ls : Array Slot, lv_has ls 19 [(0, .ref (g.2.1 0)), (1, .int x1), (3, .ref (a 0)), (4, .ref (a 2)), (5, .ref (a 3)), (6, .ref (a 4)), (7, .ref (a 5)), (8, .ref (a 6)), (9, .ref (a 7)), (10, .ref (a 8)), (11, .ref (a 9)), (12, .ref (a 10)), (13, .int x13)] → pL_links_57 N t0 x1 x13 S L C D = some (r, Sf, Lf) → W p l e (lRm 10 373 11 435) s m args below meth c H locs C D (MQ below (lQ dC dI g a sz Si Li (qI r) Sf Lf) args s 11 435 (lFr g a Si Li sz)) (F0 m 57 ls [.int t0]) := by
    intro t0 x1 x13 S L C D hCD H locs I ls hl hpf
    unfold pL_links_57 at hpf
    refine lv_istore (lv' := [(15, .int t0), (0, .ref (g.2.1 0)), (1, .int x1), (3, .ref (a 0)), (4, .ref (a 2)), (5, .ref (a 3)), (6, .ref (a 4)), (7, .ref (a 5)), (8, .ref (a 6)), (9, .ref (a 7)), (10, .ref (a 8)), (11, .ref (a 9)), (12, .ref (a 10)), (13, .int x13)]) hx hb dL_links_57 hl (by decide) rfl (fun ls hl => ?_)
    refine lv_iload hx hb dL_links_59 (lv_at hl 13 rfl) ?_
    refine b_if_le hx hb 102 61 dL_links_61 (by decide) hpf (fun hpf => ?_) (fun hpf => ?_)
    · refine lv_iconst (v := (0 : Int32)) hx hb dL_links_102 (by decide) ?_
      exact hC_103 (0 : Int32) x1 x13 t0 S L C D hCD H locs I ls (lv_sub hl [1, 2, 3, 4, 5, 6, 7, 8, 9, 10, 11, 12, 13, 0] rfl) hpf
    refine lv_aload hx hb dL_links_64 (lv_at hl 11 rfl) ?_
    refine lv_iconst (v := (3 : Int32)) hx hb dL_links_66 (by decide) ?_
    refine lv_iload hx hb dL_links_67 (lv_at hl 13 rfl) ?_
    refine lv_imul hx hb dL_links_69 ?_
    refine l_iald X I lR_9 70 dL_links_70 hpf (fun hpf => ?_)
    refine lv_iconst (v := (1 : Int32)) hx hb dL_links_71 (by decide) ?_
    refine b_icmp_ne hx hb 102 72 dL_links_72 (by decide) hpf (fun hpf => ?_) (fun hpf => ?_)
    · refine lv_iconst (v := (0 : Int32)) hx hb dL_links_102 (by decide) ?_
      exact hC_103 (0 : Int32) x1 x13 t0 S L C D hCD H locs I ls (lv_sub hl [1, 2, 3, 4, 5, 6, 7, 8, 9, 10, 11, 12, 13, 0] rfl) hpf
    refine lv_iload hx hb dL_links_75 (lv_at hl 0 rfl) ?_
    refine b_if_lt hx hb 98 77 dL_links_77 (by decide) hpf (fun hpf => ?_) (fun hpf => ?_)
    · refine lv_iconst (v := (1 : Int32)) hx hb dL_links_98 (by decide) ?_
      refine lv_goto (tgt := 103) hx hb dL_links_99 (by decide) ?_
      exact hC_103 (1 : Int32) x1 x13 t0 S L C D hCD H locs I ls (lv_sub hl [1, 2, 3, 4, 5, 6, 7, 8, 9, 10, 11, 12, 13, 0] rfl) hpf
    refine lv_iload hx hb dL_links_80 (lv_at hl 0 rfl) ?_
    refine lv_bipush (v := (99 : Int32)) hx hb dL_links_82 (by decide) ?_
    refine b_icmp_gt hx hb 98 84 dL_links_84 (by decide) hpf (fun hpf => ?_) (fun hpf => ?_)
    · refine lv_iconst (v := (1 : Int32)) hx hb dL_links_98 (by decide) ?_
      refine lv_goto (tgt := 103) hx hb dL_links_99 (by decide) ?_
      exact hC_103 (1 : Int32) x1 x13 t0 S L C D hCD H locs I ls (lv_sub hl [1, 2, 3, 4, 5, 6, 7, 8, 9, 10, 11, 12, 13, 0] rfl) hpf
    refine lv_aload hx hb dL_links_87 (lv_at hl 11 rfl) ?_
    refine lv_iconst (v := (3 : Int32)) hx hb dL_links_89 (by decide) ?_
    refine lv_iload hx hb dL_links_90 (lv_at hl 0 rfl) ?_
    refine lv_imul hx hb dL_links_92 ?_
    refine l_iald X I lR_9 93 dL_links_93 hpf (fun hpf => ?_)
    refine lv_iconst (v := (1 : Int32)) hx hb dL_links_94 (by decide) ?_
    refine b_icmp_ne hx hb 102 95 dL_links_95 (by decide) hpf (fun hpf => ?_) (fun hpf => ?_)
    · refine lv_iconst (v := (0 : Int32)) hx hb dL_links_102 (by decide) ?_
      exact hC_103 (0 : Int32) x1 x13 t0 S L C D hCD H locs I ls (lv_sub hl [1, 2, 3, 4, 5, 6, 7, 8, 9, 10, 11, 12, 13, 0] rfl) hpf
    refine lv_iconst (v := (1 : Int32)) hx hb dL_links_98 (by decide) ?_
    refine lv_goto (tgt := 103) hx hb dL_links_99 (by decide) ?_
    exact hC_103 (1 : Int32) x1 x13 t0 S L C D hCD H locs I ls (lv_sub hl [1, 2, 3, 4, 5, 6, 7, 8, 9, 10, 11, 12, 13, 0] rfl) hpf
  refine lv_iload_n hx hb dL_links_0 rfl (lv_at hl 2 rfl) ?_
  refine lv_aload_n hx hb dL_links_1 rfl (lv_at hl 3 rfl) ?_
  refine lv_iconst (v := (0 : Int32)) hx hb dL_links_2 (by decide) ?_
  refine l_iald X I lR_0 3 dL_links_3 hpf (fun hpf => ?_)
  refine l_cAI (rest := []) (As := [.int x2, .int (aI Li 0 (0 : Int32).toNatClampNeg)]) X I fL_low (c_L_low l hlt N x2 (aI Li 0 (0 : Int32).toNatClampNeg)) rfl ⟨Nat.le_of_ble_eq_true rfl, Nat.le_of_ble_eq_true rfl⟩ 4 dL_links_4 rfl hl.1 rfl (Nat.le_of_ble_eq_true rfl) hCD hpf (fun v101 L102 H locs I hpf => ?_)
  refine lv_istore (lv' := [(13, .int v101), (0, .ref (g.2.1 0)), (1, .int x1), (2, .int x2), (3, .ref (a 0)), (4, .ref (a 2)), (5, .ref (a 3)), (6, .ref (a 4)), (7, .ref (a 5)), (8, .ref (a 6)), (9, .ref (a 7)), (10, .ref (a 8)), (11, .ref (a 9)), (12, .ref (a 10))]) hx hb dL_links_7 hl (by decide) rfl (fun ls hl => ?_)
  refine lv_iload_n hx hb dL_links_9 rfl (lv_at hl 3 rfl) ?_
  refine lv_iconst (v := (4 : Int32)) hx hb dL_links_10 (by decide) ?_
  refine lv_ishr hx hb dL_links_11 ?_
  refine lv_iconst (v := (4 : Int32)) hx hb dL_links_12 (by decide) ?_
  refine l_cAI (rest := []) (As := [.int (x2 >>> ((4 : Int32) &&& 31)), .int (4 : Int32)]) X I fL_low (c_L_low l hlt N (x2 >>> ((4 : Int32) &&& 31)) (4 : Int32)) rfl ⟨Nat.le_of_ble_eq_true rfl, Nat.le_of_ble_eq_true rfl⟩ 13 dL_links_13 rfl hl.1 rfl (Nat.le_of_ble_eq_true rfl) hCD hpf (fun v103 L104 H locs I hpf => ?_)
  refine lv_istore (lv' := [(14, .int v103), (13, .int v101), (0, .ref (g.2.1 0)), (1, .int x1), (2, .int x2), (3, .ref (a 0)), (4, .ref (a 2)), (5, .ref (a 3)), (6, .ref (a 4)), (7, .ref (a 5)), (8, .ref (a 6)), (9, .ref (a 7)), (10, .ref (a 8)), (11, .ref (a 9)), (12, .ref (a 10))]) hx hb dL_links_16 hl (by decide) rfl (fun ls hl => ?_)
  refine lv_iload hx hb dL_links_18 (lv_at hl 0 rfl) ?_
  refine b_if_ne hx hb 27 20 dL_links_20 (by decide) hpf (fun hpf => ?_) (fun hpf => ?_)
  · refine lv_iload hx hb dL_links_27 (lv_at hl 0 rfl) ?_
    refine lv_iconst (v := (1 : Int32)) hx hb dL_links_29 (by decide) ?_
    refine b_icmp_ne hx hb 47 30 dL_links_30 (by decide) hpf (fun hpf => ?_) (fun hpf => ?_)
    · refine lv_iload_n hx hb dL_links_47 rfl (lv_at hl 4 rfl) ?_
      refine lv_bipush (v := (6 : Int32)) hx hb dL_links_48 (by decide) ?_
      refine lv_ishr hx hb dL_links_50 ?_
      refine lv_aload_n hx hb dL_links_51 rfl (lv_at hl 5 rfl) ?_
      refine lv_iconst (v := (0 : Int32)) hx hb dL_links_52 (by decide) ?_
      refine l_iald X I lR_0 53 dL_links_53 hpf (fun hpf => ?_)
      refine l_cAI (rest := []) (As := [.int (x2 >>> ((6 : Int32) &&& 31)), .int (aI L104 0 (0 : Int32).toNatClampNeg)]) X I fL_low (c_L_low l hlt N (x2 >>> ((6 : Int32) &&& 31)) (aI L104 0 (0 : Int32).toNatClampNeg)) rfl ⟨Nat.le_of_ble_eq_true rfl, Nat.le_of_ble_eq_true rfl⟩ 54 dL_links_54 rfl hl.1 rfl (Nat.le_of_ble_eq_true rfl) hCD hpf (fun v105 L106 H locs I hpf => ?_)
      exact hC_57 v105 x1 v101 Si L106 0 0 hCD H locs I ls (lv_sub hl [2, 3, 5, 6, 7, 8, 9, 10, 11, 12, 13, 14, 1] rfl) hpf
    refine lv_bipush (v := (100 : Int32)) hx hb dL_links_33 (by decide) ?_
    refine lv_iload_n hx hb dL_links_35 rfl (lv_at hl 4 rfl) ?_
    refine lv_bipush (v := (6 : Int32)) hx hb dL_links_36 (by decide) ?_
    refine lv_ishr hx hb dL_links_38 ?_
    refine lv_iconst (v := (4 : Int32)) hx hb dL_links_39 (by decide) ?_
    refine l_cAI (rest := [.int (100 : Int32)]) (As := [.int (x2 >>> ((6 : Int32) &&& 31)), .int (4 : Int32)]) X I fL_low (c_L_low l hlt N (x2 >>> ((6 : Int32) &&& 31)) (4 : Int32)) rfl ⟨Nat.le_of_ble_eq_true rfl, Nat.le_of_ble_eq_true rfl⟩ 40 dL_links_40 rfl hl.1 rfl (Nat.le_of_ble_eq_true rfl) hCD hpf (fun v107 L108 H locs I hpf => ?_)
    refine lv_iadd hx hb dL_links_43 ?_
    refine lv_goto (tgt := 57) hx hb dL_links_44 (by decide) ?_
    exact hC_57 ((100 : Int32) + v107) x1 v101 Si L108 0 0 hCD H locs I ls (lv_sub hl [2, 3, 5, 6, 7, 8, 9, 10, 11, 12, 13, 14, 1] rfl) hpf
  refine lv_iconst (v := (-1 : Int32)) hx hb dL_links_23 (by decide) ?_
  refine lv_goto (tgt := 57) hx hb dL_links_24 (by decide) ?_
  exact hC_57 (-1 : Int32) x1 v101 Si L104 0 0 hCD H locs I ls (lv_sub hl [2, 3, 5, 6, 7, 8, 9, 10, 11, 12, 13, 14, 1] rfl) hpf
-- ===== the law's rule =====
noncomputable def pL_rule_273 (N : Nat) (x1 : Int32) (x13 : Int32) (x15 : Int32) (x16 : Int32) (x17 : Int32) (x18 : Int32) (x21 : Int32) (S : kS) (L : lS) (C : Nat) (D : Nat) : Option (Int32 × kS × lS) :=
    lbb 9 417 9 417 C D (pL_rules N x1 x13 x15 x16 x17 x18 S L) fun v101 S102 L103 C104 D105 =>
    if v101 = x21 then (
      zlB 9 417 C104 D105 (1 : Int32) S102 L103)
    else (
      zlB 9 417 C104 D105 (0 : Int32) S102 L103)
noncomputable def pL_rule_227 (N : Nat) (t0 : Int32) (x1 : Int32) (x13 : Int32) (x15 : Int32) (x16 : Int32) (x17 : Int32) (x18 : Int32) (x19 : Int32) (S : kS) (L : lS) (C : Nat) (D : Nat) : Option (Int32 × kS × lS) :=
    if t0 < (0 : Int32) then (
      pL_rule_273 N x1 x13 x15 x16 x17 x18 t0 S L C D)
    else (
      lba (pL_makes N x1 (6 : Int32) x13 ((((6 : Int32) * x19) + ((2 : Int32) * x16)) + x17) x18 (0 : Int64) L) fun v101 L102 =>
      pL_rule_273 N x1 x13 x15 x16 x17 x18 t0 S L102 C D)
noncomputable def pL_rule_153 (N : Nat) (t0 : Int32) (x1 : Int32) (x13 : Int32) (x15 : Int32) (x16 : Int32) (x17 : Int32) (x18 : Int32) (x19 : Int32) (S : kS) (L : lS) (C : Nat) (D : Nat) : Option (Int32 × kS × lS) :=
    if t0 = (0 : Int32) then (
      pL_rule_227 N (-9 : Int32) x1 x13 x15 x16 x17 x18 x19 S L C D)
    else (
      gd ((4 : Int32) + x1) 20 <|
      lba (pL_may N x1 (aI L 0 ((4 : Int32) + x1).toNatClampNeg) x13 (1 : Int32) L) fun v101 L102 =>
      if v101 = (0 : Int32) then (
        pL_rule_227 N (-7 : Int32) x1 x13 x15 x16 x17 x18 x19 S L102 C D)
      else (
        lba (pL_says N x1 x13 x19 x16 x17 L102) fun v103 L104 =>
        pL_rule_227 N v103 x1 x13 x15 x16 x17 x18 x19 S L104 C D))
noncomputable def pL_rule_114 (N : Nat) (t0 : Int32) (x1 : Int32) (x13 : Int32) (x15 : Int32) (x16 : Int32) (x17 : Int32) (x18 : Int32) (S : kS) (L : lS) (C : Nat) (D : Nat) : Option (Int32 × kS × lS) :=
    gd ((3 : Int32) * x13) 36 <|
    if (aI L 9 ((3 : Int32) * x13).toNatClampNeg) = (1 : Int32) then (
      if x15 < (100 : Int32) then (
        pL_rule_153 N (1 : Int32) x1 x13 x15 x16 x17 x18 t0 S L C D)
      else (
        gd ((3 : Int32) * (x15 - (100 : Int32))) 36 <|
        if (aI L 9 ((3 : Int32) * (x15 - (100 : Int32))).toNatClampNeg) = (1 : Int32) then (
          pL_rule_153 N (1 : Int32) x1 x13 x15 x16 x17 x18 t0 S L C D)
        else (
          pL_rule_153 N (0 : Int32) x1 x13 x15 x16 x17 x18 t0 S L C D)))
    else (
      pL_rule_153 N (0 : Int32) x1 x13 x15 x16 x17 x18 t0 S L C D)
noncomputable def pL_rule_55 (N : Nat) (t0 : Int32) (x1 : Int32) (x2 : Int32) (x13 : Int32) (S : kS) (L : lS) (C : Nat) (D : Nat) : Option (Int32 × kS × lS) :=
    lba (pL_low N (x2 >>> ((7 : Int32) &&& 31)) (3 : Int32) L) fun v101 L102 =>
    lba (pL_low N (x2 >>> ((9 : Int32) &&& 31)) (2 : Int32) L102) fun v103 L104 =>
    lba (pL_low N (x2 >>> ((10 : Int32) &&& 31)) (3 : Int32) L104) fun v105 L106 =>
    if (0 : Int32) ≤ t0 then (
      if t0 ≤ (99 : Int32) then (
        pL_rule_114 N t0 x1 x13 t0 v101 v103 v105 S L106 C D)
      else (
        pL_rule_114 N (t0 - (94 : Int32)) x1 x13 t0 v101 v103 v105 S L106 C D))
    else (
      pL_rule_114 N (18 : Int32) x1 x13 t0 v101 v103 v105 S L106 C D)
noncomputable def pL_rule (N : Nat) (x1 : Int32) (x2 : Int32) (S : kS) (L : lS) : Option (Int32 × kS × lS) :=
    gd (0 : Int32) 20 <|
    lba (pL_low N x2 (aI L 0 (0 : Int32).toNatClampNeg) L) fun v101 L102 =>
    lba (pL_low N (x2 >>> ((3 : Int32) &&& 31)) (4 : Int32) L102) fun v103 L104 =>
    if v103 = (0 : Int32) then (
      pL_rule_55 N (-1 : Int32) x1 x2 v101 S L104 0 0)
    else (
      if v103 = (1 : Int32) then (
        gd (0 : Int32) 20 <|
        lba (pL_low N (x2 >>> ((5 : Int32) &&& 31)) (aI L104 0 (0 : Int32).toNatClampNeg) L104) fun v107 L108 =>
        pL_rule_55 N ((100 : Int32) + v107) x1 x2 v101 S L108 0 0)
      else (
        lba (pL_low N (x2 >>> ((5 : Int32) &&& 31)) (4 : Int32) L104) fun v105 L106 =>
        pL_rule_55 N v105 x1 x2 v101 S L106 0 0))
theorem fL_rule : lFnS yL_rule (.code yL_rule cL_rule 22 (some .boolean)) 13 276 := ⟨kT_238, kT_239, kT_130, rfl, by decide +kernel⟩
set_option maxRecDepth 100000 in
set_option maxHeartbeats 4000000 in
theorem c_L_rule (l : Launch) (hlt : l.stackTraces = false) (N : Nat) (x1 : Int32) (x2 : Int32) : lMet l yL_rule (.code yL_rule cL_rule 22 (some .boolean)) 9 336 9 417 (fun ca a => [.ref (ca 0), .int x1, .int x2, .ref (a 0), .ref (a 2), .ref (a 3), .ref (a 4), .ref (a 5), .ref (a 6), .ref (a 7), .ref (a 8), .ref (a 9), .ref (a 10)]) qI (pL_rule N x1 x2) := by
  refine l_start hlt (by decide +kernel) rfl (fun ca a => [(0, .ref (ca 0)), (1, .int x1), (2, .int x2), (3, .ref (a 0)), (4, .ref (a 2)), (5, .ref (a 3)), (6, .ref (a 4)), (7, .ref (a 5)), (8, .ref (a 6)), (9, .ref (a 7)), (10, .ref (a 8)), (11, .ref (a 9)), (12, .ref (a 10))]) (fun _ _ => Nat.le_of_ble_eq_true rfl) (fun _ _ => rfl) ?_
  intro dC dI g a sz Si Li r Sf Lf hpf p e s m args below meth c X hr H locs I ls hl
  have hx := X.1
  have hb := X.2.1
  have hCD : (0 : Nat) ≤ 9 ∧ (0 : Nat) ≤ 417 := ⟨Nat.zero_le _, Nat.zero_le _⟩
  unfold pL_rule at hpf
  have hC_273 : ∀ (x1 : Int32) (x13 : Int32) (x15 : Int32) (x16 : Int32) (x17 : Int32) (x18 : Int32) (x21 : Int32) (S : kS) (L : lS) (C D : Nat) (hCD : C ≤ 9 ∧ D ≤ 417) (H : Heap) (locs : List Loc), lV dC dI g a (lFr g a Si Li sz) s Si S L H locs → ∀ ls : Array Slot, lv_has ls 22 [(0, .ref (g.2.1 0)), (1, .int x1), (13, .int x13), (15, .int x15), (16, .int x16), (17, .int x17), (18, .int x18), (21, .int x21)] → pL_rule_273 N x1 x13 x15 x16 x17 x18 x21 S L C D = some (r, Sf, Lf) → W p l e (lRm 9 336 9 417) s m args below meth c H locs C D (MQ below (lQ dC dI g a sz Si Li (qI r) Sf Lf) args s 9 417 (lFr g a Si Li sz)) (F0 m 273 ls []) := by
    intro x1 x13 x15 x16 x17 x18 x21 S L C D hCD H locs I ls hl hpf
    unfold pL_rule_273 at hpf
    refine lv_aload_n hx hb dL_rule_273 rfl (lv_at hl 0 rfl) ?_
    refine lv_iload_n hx hb dL_rule_274 rfl (lv_at hl 1 rfl) ?_
    refine lv_iload hx hb dL_rule_275 (lv_at hl 2 rfl) ?_
    refine lv_iload hx hb dL_rule_277 (lv_at hl 3 rfl) ?_
    refine lv_iload hx hb dL_rule_279 (lv_at hl 4 rfl) ?_
    refine lv_iload hx hb dL_rule_281 (lv_at hl 5 rfl) ?_
    refine lv_iload hx hb dL_rule_283 (lv_at hl 6 rfl) ?_
    refine l_cBW (rest := []) (As := [.ref (g.2.1 0), .int x1, .int x13, .int x15, .int x16, .int x17, .int x18]) X I fL_rules (c_L_rules l hlt N x1 x13 x15 x16 x17 x18) rfl ⟨Nat.le_of_ble_eq_true rfl, Nat.le_of_ble_eq_true rfl⟩ 285 dL_rule_285 rfl hl.1 rfl (Nat.le_of_ble_eq_true rfl) ⟨Nat.le_refl _, Nat.le_refl _⟩ hpf (fun v101 S102 L103 C104 D105 hCD H locs I hpf => ?_)
    refine lv_iload hx hb dL_rule_288 (lv_at hl 7 rfl) ?_
    refine b_icmp_ne hx hb 297 290 dL_rule_290 (by decide) hpf (fun hpf => ?_) (fun hpf => ?_)
    · refine lv_iconst (v := (0 : Int32)) hx hb dL_rule_297 (by decide) ?_
      exact l_retzB X I hr 298 dL_rule_298 hpf
    refine lv_iconst (v := (1 : Int32)) hx hb dL_rule_293 (by decide) ?_
    refine lv_goto (tgt := 298) hx hb dL_rule_294 (by decide) ?_
    exact l_retzB X I hr 298 dL_rule_298 hpf
  have hC_227 : ∀ (t0 : Int32) (x1 : Int32) (x13 : Int32) (x15 : Int32) (x16 : Int32) (x17 : Int32) (x18 : Int32) (x19 : Int32) (S : kS) (L : lS) (C D : Nat) (hCD : C ≤ 9 ∧ D ≤ 417) (H : Heap) (locs : List Loc), lV dC dI g a (lFr g a Si Li sz) s Si S L H locs → ∀ ls : Array Slot, lv_has ls 22 [(0, .ref (g.2.1 0)), (1, .int x1), (3, .ref (a 0)), (4, .ref (a 2)), (5, .ref (a 3)), (6, .ref (a 4)), (7, .ref (a 5)), (8, .ref (a 6)), (9, .ref (a 7)), (10, .ref (a 8)), (13, .int x13), (15, .int x15), (16, .int x16), (17, .int x17), (18, .int x18), (19, .int x19)] → pL_rule_227 N t0 x1 x13 x15 x16 x17 x18 x19 S L C D = some (r, Sf, Lf) → W p l e (lRm 9 336 9 417) s m args below meth c H locs C D (MQ below (lQ dC dI g a sz Si Li (qI r) Sf Lf) args s 9 417 (lFr g a Si Li sz)) (F0 m 227 ls [.int t0]) := by
    intro t0 x1 x13 x15 x16 x17 x18 x19 S L C D hCD H locs I ls hl hpf
    unfold pL_rule_227 at hpf
    refine lv_istore (lv' := [(21, .int t0), (0, .ref (g.2.1 0)), (1, .int x1), (3, .ref (a 0)), (4, .ref (a 2)), (5, .ref (a 3)), (6, .ref (a 4)), (7, .ref (a 5)), (8, .ref (a 6)), (9, .ref (a 7)), (10, .ref (a 8)), (13, .int x13), (15, .int x15), (16, .int x16), (17, .int x17), (18, .int x18), (19, .int x19)]) hx hb dL_rule_227 hl (by decide) rfl (fun ls hl => ?_)
    refine lv_iload hx hb dL_rule_229 (lv_at hl 0 rfl) ?_
    refine b_if_lt hx hb 273 231 dL_rule_231 (by decide) hpf (fun hpf => ?_) (fun hpf => ?_)
    · exact hC_273 x1 x13 x15 x16 x17 x18 t0 S L C D hCD H locs I ls (lv_sub hl [1, 2, 11, 12, 13, 14, 15, 0] rfl) hpf
    refine lv_iload_n hx hb dL_rule_234 rfl (lv_at hl 2 rfl) ?_
    refine lv_bipush (v := (6 : Int32)) hx hb dL_rule_235 (by decide) ?_
    refine lv_iload hx hb dL_rule_237 (lv_at hl 11 rfl) ?_
    refine lv_bipush (v := (6 : Int32)) hx hb dL_rule_239 (by decide) ?_
    refine lv_iload hx hb dL_rule_241 (lv_at hl 16 rfl) ?_
    refine lv_imul hx hb dL_rule_243 ?_
    refine lv_iconst (v := (2 : Int32)) hx hb dL_rule_244 (by decide) ?_
    refine lv_iload hx hb dL_rule_245 (lv_at hl 13 rfl) ?_
    refine lv_imul hx hb dL_rule_247 ?_
    refine lv_iadd hx hb dL_rule_248 ?_
    refine lv_iload hx hb dL_rule_249 (lv_at hl 14 rfl) ?_
    refine lv_iadd hx hb dL_rule_251 ?_
    refine lv_iload hx hb dL_rule_252 (lv_at hl 15 rfl) ?_
    refine lv_lconst (v := (0 : Int64)) hx hb dL_rule_254 (by decide) ?_
    refine lv_aload_n hx hb dL_rule_255 rfl (lv_at hl 3 rfl) ?_
    refine lv_aload hx hb dL_rule_256 (lv_at hl 4 rfl) ?_
    refine lv_aload hx hb dL_rule_258 (lv_at hl 5 rfl) ?_
    refine lv_aload hx hb dL_rule_260 (lv_at hl 6 rfl) ?_
    refine lv_aload hx hb dL_rule_262 (lv_at hl 7 rfl) ?_
    refine lv_aload hx hb dL_rule_264 (lv_at hl 8 rfl) ?_
    refine lv_aload hx hb dL_rule_266 (lv_at hl 9 rfl) ?_
    refine lv_aload hx hb dL_rule_268 (lv_at hl 10 rfl) ?_
    refine l_cAU (rest := []) (As := [.int x1, .int (6 : Int32), .int x13, .int ((((6 : Int32) * x19) + ((2 : Int32) * x16)) + x17), .int x18, .long (0 : Int64), .ref (a 0), .ref (a 2), .ref (a 3), .ref (a 4), .ref (a 5), .ref (a 6), .ref (a 7), .ref (a 8)]) X I fL_makes (c_L_makes l hlt N x1 (6 : Int32) x13 ((((6 : Int32) * x19) + ((2 : Int32) * x16)) + x17) x18 (0 : Int64)) rfl ⟨Nat.le_of_ble_eq_true rfl, Nat.le_of_ble_eq_true rfl⟩ 270 dL_rule_270 rfl hl.1 rfl (Nat.le_of_ble_eq_true rfl) hCD hpf (fun v101 L102 H locs I hpf => ?_)
    exact hC_273 x1 x13 x15 x16 x17 x18 t0 S L102 C D hCD H locs I ls (lv_sub hl [1, 2, 11, 12, 13, 14, 15, 0] rfl) hpf
  have hC_153 : ∀ (t0 : Int32) (x1 : Int32) (x13 : Int32) (x15 : Int32) (x16 : Int32) (x17 : Int32) (x18 : Int32) (x19 : Int32) (S : kS) (L : lS) (C D : Nat) (hCD : C ≤ 9 ∧ D ≤ 417) (H : Heap) (locs : List Loc), lV dC dI g a (lFr g a Si Li sz) s Si S L H locs → ∀ ls : Array Slot, lv_has ls 22 [(0, .ref (g.2.1 0)), (1, .int x1), (3, .ref (a 0)), (4, .ref (a 2)), (5, .ref (a 3)), (6, .ref (a 4)), (7, .ref (a 5)), (8, .ref (a 6)), (9, .ref (a 7)), (10, .ref (a 8)), (11, .ref (a 9)), (12, .ref (a 10)), (13, .int x13), (15, .int x15), (16, .int x16), (17, .int x17), (18, .int x18), (19, .int x19)] → pL_rule_153 N t0 x1 x13 x15 x16 x17 x18 x19 S L C D = some (r, Sf, Lf) → W p l e (lRm 9 336 9 417) s m args below meth c H locs C D (MQ below (lQ dC dI g a sz Si Li (qI r) Sf Lf) args s 9 417 (lFr g a Si Li sz)) (F0 m 153 ls [.int t0]) := by
    intro t0 x1 x13 x15 x16 x17 x18 x19 S L C D hCD H locs I ls hl hpf
    unfold pL_rule_153 at hpf
    refine lv_istore (lv' := [(20, .int t0), (0, .ref (g.2.1 0)), (1, .int x1), (3, .ref (a 0)), (4, .ref (a 2)), (5, .ref (a 3)), (6, .ref (a 4)), (7, .ref (a 5)), (8, .ref (a 6)), (9, .ref (a 7)), (10, .ref (a 8)), (11, .ref (a 9)), (12, .ref (a 10)), (13, .int x13), (15, .int x15), (16, .int x16), (17, .int x17), (18, .int x18), (19, .int x19)]) hx hb dL_rule_153 hl (by decide) rfl (fun ls hl => ?_)
    refine lv_iload hx hb dL_rule_155 (lv_at hl 0 rfl) ?_
    refine b_if_ne hx hb 165 157 dL_rule_157 (by decide) hpf (fun hpf => ?_) (fun hpf => ?_)
    · refine lv_iload_n hx hb dL_rule_165 rfl (lv_at hl 2 rfl) ?_
      refine lv_aload_n hx hb dL_rule_166 rfl (lv_at hl 3 rfl) ?_
      refine lv_iconst (v := (4 : Int32)) hx hb dL_rule_167 (by decide) ?_
      refine lv_iload_n hx hb dL_rule_168 rfl (lv_at hl 2 rfl) ?_
      refine lv_iadd hx hb dL_rule_169 ?_
      refine l_iald X I lR_0 170 dL_rule_170 hpf (fun hpf => ?_)
      refine lv_iload hx hb dL_rule_171 (lv_at hl 13 rfl) ?_
      refine lv_iconst (v := (1 : Int32)) hx hb dL_rule_173 (by decide) ?_
      refine lv_aload_n hx hb dL_rule_174 rfl (lv_at hl 3 rfl) ?_
      refine lv_aload hx hb dL_rule_175 (lv_at hl 4 rfl) ?_
      refine lv_aload hx hb dL_rule_177 (lv_at hl 5 rfl) ?_
      refine lv_aload hx hb dL_rule_179 (lv_at hl 6 rfl) ?_
      refine lv_aload hx hb dL_rule_181 (lv_at hl 7 rfl) ?_
      refine lv_aload hx hb dL_rule_183 (lv_at hl 8 rfl) ?_
      refine lv_aload hx hb dL_rule_185 (lv_at hl 10 rfl) ?_
      refine lv_aload hx hb dL_rule_187 (lv_at hl 11 rfl) ?_
      refine lv_aload hx hb dL_rule_189 (lv_at hl 12 rfl) ?_
      refine l_cAI (rest := []) (As := [.int x1, .int (aI L 0 ((4 : Int32) + x1).toNatClampNeg), .int x13, .int (1 : Int32), .ref (a 0), .ref (a 2), .ref (a 3), .ref (a 4), .ref (a 5), .ref (a 6), .ref (a 8), .ref (a 9), .ref (a 10)]) X I fL_may (c_L_may l hlt N x1 (aI L 0 ((4 : Int32) + x1).toNatClampNeg) x13 (1 : Int32)) rfl ⟨Nat.le_of_ble_eq_true rfl, Nat.le_of_ble_eq_true rfl⟩ 191 dL_rule_191 rfl hl.1 rfl (Nat.le_of_ble_eq_true rfl) hCD hpf (fun v101 L102 H locs I hpf => ?_)
      refine b_if_eq hx hb 225 194 dL_rule_194 (by decide) hpf (fun hpf => ?_) (fun hpf => ?_)
      · refine lv_bipush (v := (-7 : Int32)) hx hb dL_rule_225 (by decide) ?_
        exact hC_227 (-7 : Int32) x1 x13 x15 x16 x17 x18 x19 S L102 C D hCD H locs I ls (lv_sub hl [1, 2, 3, 4, 5, 6, 7, 8, 9, 10, 13, 14, 15, 16, 17, 18] rfl) hpf
      refine lv_iload_n hx hb dL_rule_197 rfl (lv_at hl 2 rfl) ?_
      refine lv_iload hx hb dL_rule_198 (lv_at hl 13 rfl) ?_
      refine lv_iload hx hb dL_rule_200 (lv_at hl 18 rfl) ?_
      refine lv_iload hx hb dL_rule_202 (lv_at hl 15 rfl) ?_
      refine lv_iload hx hb dL_rule_204 (lv_at hl 16 rfl) ?_
      refine lv_aload_n hx hb dL_rule_206 rfl (lv_at hl 3 rfl) ?_
      refine lv_aload hx hb dL_rule_207 (lv_at hl 4 rfl) ?_
      refine lv_aload hx hb dL_rule_209 (lv_at hl 5 rfl) ?_
      refine lv_aload hx hb dL_rule_211 (lv_at hl 6 rfl) ?_
      refine lv_aload hx hb dL_rule_213 (lv_at hl 7 rfl) ?_
      refine lv_aload hx hb dL_rule_215 (lv_at hl 8 rfl) ?_
      refine lv_aload hx hb dL_rule_217 (lv_at hl 10 rfl) ?_
      refine l_cAI (rest := []) (As := [.int x1, .int x13, .int x19, .int x16, .int x17, .ref (a 0), .ref (a 2), .ref (a 3), .ref (a 4), .ref (a 5), .ref (a 6), .ref (a 8)]) X I fL_says (c_L_says l hlt N x1 x13 x19 x16 x17) rfl ⟨Nat.le_of_ble_eq_true rfl, Nat.le_of_ble_eq_true rfl⟩ 219 dL_rule_219 rfl hl.1 rfl (Nat.le_of_ble_eq_true rfl) hCD hpf (fun v103 L104 H locs I hpf => ?_)
      refine lv_goto (tgt := 227) hx hb dL_rule_222 (by decide) ?_
      exact hC_227 v103 x1 x13 x15 x16 x17 x18 x19 S L104 C D hCD H locs I ls (lv_sub hl [1, 2, 3, 4, 5, 6, 7, 8, 9, 10, 13, 14, 15, 16, 17, 18] rfl) hpf
    refine lv_bipush (v := (-9 : Int32)) hx hb dL_rule_160 (by decide) ?_
    refine lv_goto (tgt := 227) hx hb dL_rule_162 (by decide) ?_
    exact hC_227 (-9 : Int32) x1 x13 x15 x16 x17 x18 x19 S L C D hCD H locs I ls (lv_sub hl [1, 2, 3, 4, 5, 6, 7, 8, 9, 10, 13, 14, 15, 16, 17, 18] rfl) hpf
  have hC_114 : ∀ (t0 : Int32) (x1 : Int32) (x13 : Int32) (x15 : Int32) (x16 : Int32) (x17 : Int32) (x18 : Int32) (S : kS) (L : lS) (C D : Nat) (hCD : C ≤ 9 ∧ D ≤ 417) (H : Heap) (locs : List Loc), lV dC dI g a (lFr g a Si Li sz) s Si S L H locs → ∀ ls : Array Slot, lv_has ls 22 [(0, .ref (g.2.1 0)), (1, .int x1), (3, .ref (a 0)), (4, .ref (a 2)), (5, .ref (a 3)), (6, .ref (a 4)), (7, .ref (a 5)), (8, .ref (a 6)), (9, .ref (a 7)), (10, .ref (a 8)), (11, .ref (a 9)), (12, .ref (a 10)), (13, .int x13), (15, .int x15), (16, .int x16), (17, .int x17), (18, .int x18)] → pL_rule_114 N t0 x1 x13 x15 x16 x17 x18 S L C D = some (r, Sf, Lf) → W p l e (lRm 9 336 9 417) s m args below meth c H locs C D (MQ below (lQ dC dI g a sz Si Li (qI r) Sf Lf) args s 9 417 (lFr g a Si Li sz)) (F0 m 114 ls [.int t0]) := by
    intro t0 x1 x13 x15 x16 x17 x18 S L C D hCD H locs I ls hl hpf
    unfold pL_rule_114 at hpf
    refine lv_istore (lv' := [(19, .int t0), (0, .ref (g.2.1 0)), (1, .int x1), (3, .ref (a 0)), (4, .ref (a 2)), (5, .ref (a 3)), (6, .ref (a 4)), (7, .ref (a 5)), (8, .ref (a 6)), (9, .ref (a 7)), (10, .ref (a 8)), (11, .ref (a 9)), (12, .ref (a 10)), (13, .int x13), (15, .int x15), (16, .int x16), (17, .int x17), (18, .int x18)]) hx hb dL_rule_114 hl (by decide) rfl (fun ls hl => ?_)
    refine lv_aload hx hb dL_rule_116 (lv_at hl 11 rfl) ?_
    refine lv_iconst (v := (3 : Int32)) hx hb dL_rule_118 (by decide) ?_
    refine lv_iload hx hb dL_rule_119 (lv_at hl 13 rfl) ?_
    refine lv_imul hx hb dL_rule_121 ?_
    refine l_iald X I lR_9 122 dL_rule_122 hpf (fun hpf => ?_)
    refine lv_iconst (v := (1 : Int32)) hx hb dL_rule_123 (by decide) ?_
    refine b_icmp_ne hx hb 152 124 dL_rule_124 (by decide) hpf (fun hpf => ?_) (fun hpf => ?_)
    · refine lv_iconst (v := (0 : Int32)) hx hb dL_rule_152 (by decide) ?_
      exact hC_153 (0 : Int32) x1 x13 x15 x16 x17 x18 t0 S L C D hCD H locs I ls (lv_sub hl [1, 2, 3, 4, 5, 6, 7, 8, 9, 10, 11, 12, 13, 14, 15, 16, 17, 0] rfl) hpf
    refine lv_iload hx hb dL_rule_127 (lv_at hl 14 rfl) ?_
    refine lv_bipush (v := (100 : Int32)) hx hb dL_rule_129 (by decide) ?_
    refine b_icmp_lt hx hb 148 131 dL_rule_131 (by decide) hpf (fun hpf => ?_) (fun hpf => ?_)
    · refine lv_iconst (v := (1 : Int32)) hx hb dL_rule_148 (by decide) ?_
      refine lv_goto (tgt := 153) hx hb dL_rule_149 (by decide) ?_
      exact hC_153 (1 : Int32) x1 x13 x15 x16 x17 x18 t0 S L C D hCD H locs I ls (lv_sub hl [1, 2, 3, 4, 5, 6, 7, 8, 9, 10, 11, 12, 13, 14, 15, 16, 17, 0] rfl) hpf
    refine lv_aload hx hb dL_rule_134 (lv_at hl 11 rfl) ?_
    refine lv_iconst (v := (3 : Int32)) hx hb dL_rule_136 (by decide) ?_
    refine lv_iload hx hb dL_rule_137 (lv_at hl 14 rfl) ?_
    refine lv_bipush (v := (100 : Int32)) hx hb dL_rule_139 (by decide) ?_
    refine lv_isub hx hb dL_rule_141 ?_
    refine lv_imul hx hb dL_rule_142 ?_
    refine l_iald X I lR_9 143 dL_rule_143 hpf (fun hpf => ?_)
    refine lv_iconst (v := (1 : Int32)) hx hb dL_rule_144 (by decide) ?_
    refine b_icmp_ne hx hb 152 145 dL_rule_145 (by decide) hpf (fun hpf => ?_) (fun hpf => ?_)
    · refine lv_iconst (v := (0 : Int32)) hx hb dL_rule_152 (by decide) ?_
      exact hC_153 (0 : Int32) x1 x13 x15 x16 x17 x18 t0 S L C D hCD H locs I ls (lv_sub hl [1, 2, 3, 4, 5, 6, 7, 8, 9, 10, 11, 12, 13, 14, 15, 16, 17, 0] rfl) hpf
    refine lv_iconst (v := (1 : Int32)) hx hb dL_rule_148 (by decide) ?_
    refine lv_goto (tgt := 153) hx hb dL_rule_149 (by decide) ?_
    exact hC_153 (1 : Int32) x1 x13 x15 x16 x17 x18 t0 S L C D hCD H locs I ls (lv_sub hl [1, 2, 3, 4, 5, 6, 7, 8, 9, 10, 11, 12, 13, 14, 15, 16, 17, 0] rfl) hpf
  have hC_55 : ∀ (t0 : Int32) (x1 : Int32) (x2 : Int32) (x13 : Int32) (S : kS) (L : lS) (C D : Nat) (hCD : C ≤ 9 ∧ D ≤ 417) (H : Heap) (locs : List Loc), lV dC dI g a (lFr g a Si Li sz) s Si S L H locs → ∀ ls : Array Slot, lv_has ls 22 [(0, .ref (g.2.1 0)), (1, .int x1), (2, .int x2), (3, .ref (a 0)), (4, .ref (a 2)), (5, .ref (a 3)), (6, .ref (a 4)), (7, .ref (a 5)), (8, .ref (a 6)), (9, .ref (a 7)), (10, .ref (a 8)), (11, .ref (a 9)), (12, .ref (a 10)), (13, .int x13)] → pL_rule_55 N t0 x1 x2 x13 S L C D = some (r, Sf, Lf) → W p l e (lRm 9 336 9 417) s m args below meth c H locs C D (MQ below (lQ dC dI g a sz Si Li (qI r) Sf Lf) args s 9 417 (lFr g a Si Li sz)) (F0 m 55 ls [.int t0]) := by
    intro t0 x1 x2 x13 S L C D hCD H locs I ls hl hpf
    unfold pL_rule_55 at hpf
    refine lv_istore (lv' := [(15, .int t0), (0, .ref (g.2.1 0)), (1, .int x1), (2, .int x2), (3, .ref (a 0)), (4, .ref (a 2)), (5, .ref (a 3)), (6, .ref (a 4)), (7, .ref (a 5)), (8, .ref (a 6)), (9, .ref (a 7)), (10, .ref (a 8)), (11, .ref (a 9)), (12, .ref (a 10)), (13, .int x13)]) hx hb dL_rule_55 hl (by decide) rfl (fun ls hl => ?_)
    refine lv_iload_n hx hb dL_rule_57 rfl (lv_at hl 3 rfl) ?_
    refine lv_bipush (v := (7 : Int32)) hx hb dL_rule_58 (by decide) ?_
    refine lv_ishr hx hb dL_rule_60 ?_
    refine lv_iconst (v := (3 : Int32)) hx hb dL_rule_61 (by decide) ?_
    refine l_cAI (rest := []) (As := [.int (x2 >>> ((7 : Int32) &&& 31)), .int (3 : Int32)]) X I fL_low (c_L_low l hlt N (x2 >>> ((7 : Int32) &&& 31)) (3 : Int32)) rfl ⟨Nat.le_of_ble_eq_true rfl, Nat.le_of_ble_eq_true rfl⟩ 62 dL_rule_62 rfl hl.1 rfl (Nat.le_of_ble_eq_true rfl) hCD hpf (fun v101 L102 H locs I hpf => ?_)
    refine lv_istore (lv' := [(16, .int v101), (15, .int t0), (0, .ref (g.2.1 0)), (1, .int x1), (2, .int x2), (3, .ref (a 0)), (4, .ref (a 2)), (5, .ref (a 3)), (6, .ref (a 4)), (7, .ref (a 5)), (8, .ref (a 6)), (9, .ref (a 7)), (10, .ref (a 8)), (11, .ref (a 9)), (12, .ref (a 10)), (13, .int x13)]) hx hb dL_rule_65 hl (by decide) rfl (fun ls hl => ?_)
    refine lv_iload_n hx hb dL_rule_67 rfl (lv_at hl 4 rfl) ?_
    refine lv_bipush (v := (9 : Int32)) hx hb dL_rule_68 (by decide) ?_
    refine lv_ishr hx hb dL_rule_70 ?_
    refine lv_iconst (v := (2 : Int32)) hx hb dL_rule_71 (by decide) ?_
    refine l_cAI (rest := []) (As := [.int (x2 >>> ((9 : Int32) &&& 31)), .int (2 : Int32)]) X I fL_low (c_L_low l hlt N (x2 >>> ((9 : Int32) &&& 31)) (2 : Int32)) rfl ⟨Nat.le_of_ble_eq_true rfl, Nat.le_of_ble_eq_true rfl⟩ 72 dL_rule_72 rfl hl.1 rfl (Nat.le_of_ble_eq_true rfl) hCD hpf (fun v103 L104 H locs I hpf => ?_)
    refine lv_istore (lv' := [(17, .int v103), (16, .int v101), (15, .int t0), (0, .ref (g.2.1 0)), (1, .int x1), (2, .int x2), (3, .ref (a 0)), (4, .ref (a 2)), (5, .ref (a 3)), (6, .ref (a 4)), (7, .ref (a 5)), (8, .ref (a 6)), (9, .ref (a 7)), (10, .ref (a 8)), (11, .ref (a 9)), (12, .ref (a 10)), (13, .int x13)]) hx hb dL_rule_75 hl (by decide) rfl (fun ls hl => ?_)
    refine lv_iload_n hx hb dL_rule_77 rfl (lv_at hl 5 rfl) ?_
    refine lv_bipush (v := (10 : Int32)) hx hb dL_rule_78 (by decide) ?_
    refine lv_ishr hx hb dL_rule_80 ?_
    refine lv_iconst (v := (3 : Int32)) hx hb dL_rule_81 (by decide) ?_
    refine l_cAI (rest := []) (As := [.int (x2 >>> ((10 : Int32) &&& 31)), .int (3 : Int32)]) X I fL_low (c_L_low l hlt N (x2 >>> ((10 : Int32) &&& 31)) (3 : Int32)) rfl ⟨Nat.le_of_ble_eq_true rfl, Nat.le_of_ble_eq_true rfl⟩ 82 dL_rule_82 rfl hl.1 rfl (Nat.le_of_ble_eq_true rfl) hCD hpf (fun v105 L106 H locs I hpf => ?_)
    refine lv_istore (lv' := [(18, .int v105), (17, .int v103), (16, .int v101), (15, .int t0), (0, .ref (g.2.1 0)), (1, .int x1), (2, .int x2), (3, .ref (a 0)), (4, .ref (a 2)), (5, .ref (a 3)), (6, .ref (a 4)), (7, .ref (a 5)), (8, .ref (a 6)), (9, .ref (a 7)), (10, .ref (a 8)), (11, .ref (a 9)), (12, .ref (a 10)), (13, .int x13)]) hx hb dL_rule_85 hl (by decide) rfl (fun ls hl => ?_)
    refine lv_iload hx hb dL_rule_87 (lv_at hl 3 rfl) ?_
    refine b_if_ge hx hb 97 89 dL_rule_89 (by decide) hpf (fun hpf => ?_) (fun hpf => ?_)
    · refine lv_iload hx hb dL_rule_97 (lv_at hl 3 rfl) ?_
      refine lv_bipush (v := (99 : Int32)) hx hb dL_rule_99 (by decide) ?_
      refine b_icmp_le hx hb 112 101 dL_rule_101 (by decide) hpf (fun hpf => ?_) (fun hpf => ?_)
      · refine lv_iload hx hb dL_rule_112 (lv_at hl 3 rfl) ?_
        exact hC_114 t0 x1 x13 t0 v101 v103 v105 S L106 C D hCD H locs I ls (lv_sub hl [4, 5, 7, 8, 9, 10, 11, 12, 13, 14, 15, 16, 17, 3, 2, 1, 0] rfl) hpf
      refine lv_iload hx hb dL_rule_104 (lv_at hl 3 rfl) ?_
      refine lv_bipush (v := (94 : Int32)) hx hb dL_rule_106 (by decide) ?_
      refine lv_isub hx hb dL_rule_108 ?_
      refine lv_goto (tgt := 114) hx hb dL_rule_109 (by decide) ?_
      exact hC_114 (t0 - (94 : Int32)) x1 x13 t0 v101 v103 v105 S L106 C D hCD H locs I ls (lv_sub hl [4, 5, 7, 8, 9, 10, 11, 12, 13, 14, 15, 16, 17, 3, 2, 1, 0] rfl) hpf
    refine lv_bipush (v := (18 : Int32)) hx hb dL_rule_92 (by decide) ?_
    refine lv_goto (tgt := 114) hx hb dL_rule_94 (by decide) ?_
    exact hC_114 (18 : Int32) x1 x13 t0 v101 v103 v105 S L106 C D hCD H locs I ls (lv_sub hl [4, 5, 7, 8, 9, 10, 11, 12, 13, 14, 15, 16, 17, 3, 2, 1, 0] rfl) hpf
  refine lv_iload_n hx hb dL_rule_0 rfl (lv_at hl 2 rfl) ?_
  refine lv_aload_n hx hb dL_rule_1 rfl (lv_at hl 3 rfl) ?_
  refine lv_iconst (v := (0 : Int32)) hx hb dL_rule_2 (by decide) ?_
  refine l_iald X I lR_0 3 dL_rule_3 hpf (fun hpf => ?_)
  refine l_cAI (rest := []) (As := [.int x2, .int (aI Li 0 (0 : Int32).toNatClampNeg)]) X I fL_low (c_L_low l hlt N x2 (aI Li 0 (0 : Int32).toNatClampNeg)) rfl ⟨Nat.le_of_ble_eq_true rfl, Nat.le_of_ble_eq_true rfl⟩ 4 dL_rule_4 rfl hl.1 rfl (Nat.le_of_ble_eq_true rfl) hCD hpf (fun v101 L102 H locs I hpf => ?_)
  refine lv_istore (lv' := [(13, .int v101), (0, .ref (g.2.1 0)), (1, .int x1), (2, .int x2), (3, .ref (a 0)), (4, .ref (a 2)), (5, .ref (a 3)), (6, .ref (a 4)), (7, .ref (a 5)), (8, .ref (a 6)), (9, .ref (a 7)), (10, .ref (a 8)), (11, .ref (a 9)), (12, .ref (a 10))]) hx hb dL_rule_7 hl (by decide) rfl (fun ls hl => ?_)
  refine lv_iload_n hx hb dL_rule_9 rfl (lv_at hl 3 rfl) ?_
  refine lv_iconst (v := (3 : Int32)) hx hb dL_rule_10 (by decide) ?_
  refine lv_ishr hx hb dL_rule_11 ?_
  refine lv_iconst (v := (4 : Int32)) hx hb dL_rule_12 (by decide) ?_
  refine l_cAI (rest := []) (As := [.int (x2 >>> ((3 : Int32) &&& 31)), .int (4 : Int32)]) X I fL_low (c_L_low l hlt N (x2 >>> ((3 : Int32) &&& 31)) (4 : Int32)) rfl ⟨Nat.le_of_ble_eq_true rfl, Nat.le_of_ble_eq_true rfl⟩ 13 dL_rule_13 rfl hl.1 rfl (Nat.le_of_ble_eq_true rfl) hCD hpf (fun v103 L104 H locs I hpf => ?_)
  refine lv_istore (lv' := [(14, .int v103), (13, .int v101), (0, .ref (g.2.1 0)), (1, .int x1), (2, .int x2), (3, .ref (a 0)), (4, .ref (a 2)), (5, .ref (a 3)), (6, .ref (a 4)), (7, .ref (a 5)), (8, .ref (a 6)), (9, .ref (a 7)), (10, .ref (a 8)), (11, .ref (a 9)), (12, .ref (a 10))]) hx hb dL_rule_16 hl (by decide) rfl (fun ls hl => ?_)
  refine lv_iload hx hb dL_rule_18 (lv_at hl 0 rfl) ?_
  refine b_if_ne hx hb 27 20 dL_rule_20 (by decide) hpf (fun hpf => ?_) (fun hpf => ?_)
  · refine lv_iload hx hb dL_rule_27 (lv_at hl 0 rfl) ?_
    refine lv_iconst (v := (1 : Int32)) hx hb dL_rule_29 (by decide) ?_
    refine b_icmp_ne hx hb 48 30 dL_rule_30 (by decide) hpf (fun hpf => ?_) (fun hpf => ?_)
    · refine lv_iload_n hx hb dL_rule_48 rfl (lv_at hl 4 rfl) ?_
      refine lv_iconst (v := (5 : Int32)) hx hb dL_rule_49 (by decide) ?_
      refine lv_ishr hx hb dL_rule_50 ?_
      refine lv_iconst (v := (4 : Int32)) hx hb dL_rule_51 (by decide) ?_
      refine l_cAI (rest := []) (As := [.int (x2 >>> ((5 : Int32) &&& 31)), .int (4 : Int32)]) X I fL_low (c_L_low l hlt N (x2 >>> ((5 : Int32) &&& 31)) (4 : Int32)) rfl ⟨Nat.le_of_ble_eq_true rfl, Nat.le_of_ble_eq_true rfl⟩ 52 dL_rule_52 rfl hl.1 rfl (Nat.le_of_ble_eq_true rfl) hCD hpf (fun v105 L106 H locs I hpf => ?_)
      exact hC_55 v105 x1 x2 v101 Si L106 0 0 hCD H locs I ls (lv_sub hl [2, 3, 4, 5, 6, 7, 8, 9, 10, 11, 12, 13, 14, 1] rfl) hpf
    refine lv_bipush (v := (100 : Int32)) hx hb dL_rule_33 (by decide) ?_
    refine lv_iload_n hx hb dL_rule_35 rfl (lv_at hl 4 rfl) ?_
    refine lv_iconst (v := (5 : Int32)) hx hb dL_rule_36 (by decide) ?_
    refine lv_ishr hx hb dL_rule_37 ?_
    refine lv_aload_n hx hb dL_rule_38 rfl (lv_at hl 5 rfl) ?_
    refine lv_iconst (v := (0 : Int32)) hx hb dL_rule_39 (by decide) ?_
    refine l_iald X I lR_0 40 dL_rule_40 hpf (fun hpf => ?_)
    refine l_cAI (rest := [.int (100 : Int32)]) (As := [.int (x2 >>> ((5 : Int32) &&& 31)), .int (aI L104 0 (0 : Int32).toNatClampNeg)]) X I fL_low (c_L_low l hlt N (x2 >>> ((5 : Int32) &&& 31)) (aI L104 0 (0 : Int32).toNatClampNeg)) rfl ⟨Nat.le_of_ble_eq_true rfl, Nat.le_of_ble_eq_true rfl⟩ 41 dL_rule_41 rfl hl.1 rfl (Nat.le_of_ble_eq_true rfl) hCD hpf (fun v107 L108 H locs I hpf => ?_)
    refine lv_iadd hx hb dL_rule_44 ?_
    refine lv_goto (tgt := 55) hx hb dL_rule_45 (by decide) ?_
    exact hC_55 ((100 : Int32) + v107) x1 x2 v101 Si L108 0 0 hCD H locs I ls (lv_sub hl [2, 3, 4, 5, 6, 7, 8, 9, 10, 11, 12, 13, 14, 1] rfl) hpf
  refine lv_iconst (v := (-1 : Int32)) hx hb dL_rule_23 (by decide) ?_
  refine lv_goto (tgt := 55) hx hb dL_rule_24 (by decide) ?_
  exact hC_55 (-1 : Int32) x1 x2 v101 Si L104 0 0 hCD H locs I ls (lv_sub hl [2, 3, 4, 5, 6, 7, 8, 9, 10, 11, 12, 13, 14, 1] rfl) hpf
-- ===== the law's exchanges =====
noncomputable def pL_exchanges_227 (N : Nat) (x6 : Int32) (x7 : Int32) (x8 : Int32) (x9 : Int32) (S : kS) (L : lS) (C : Nat) (D : Nat) : Option (Int32 × kS × lS) :=
    lbx 3 18 3 18 C D (pX9_exchange N x6 x7 x8 S) fun v101 S102 C103 D104 =>
    if v101 = x9 then (
      zlB 3 18 C103 D104 (1 : Int32) S102 L)
    else (
      zlB 3 18 C103 D104 (0 : Int32) S102 L)
noncomputable def pL_exchanges_198 (N : Nat) (k_131 : Int32 → Int32 → Int32 → Int32 → Int32 → kS → lS → Nat → Nat → Option (Int32 × kS × lS)) (t0 : Int32) (t1 : Int32) (x6 : Int32) (x7 : Int32) (x8 : Int32) (x9 : Int32) (x10 : Int32) (S : kS) (L : lS) (C : Nat) (D : Nat) : Option (Int32 × kS × lS) :=
    gd t1 64 <| slv (uI L 8 t1.toNatClampNeg t0) fun L101 =>
    gd (((16 : Int32) * x6) + x10) 64 <|
    gd (((16 : Int32) * x7) + x10) 64 <| slv (uI L101 8 (((16 : Int32) * x7) + x10).toNatClampNeg (aI L101 8 (((16 : Int32) * x6) + x10).toNatClampNeg)) fun L102 =>
    nm (x10 + (1 : Int32)) fun y103 =>
    k_131 x6 x7 x8 x9 y103 S L102 C D
noncomputable def pL_exchanges_131 (N : Nat) (k_227 : Int32 → Int32 → Int32 → Int32 → kS → lS → Nat → Nat → Option (Int32 × kS × lS)) : Nat → Int32 → Int32 → Int32 → Int32 → Int32 → kS → lS → Nat → Nat → Option (Int32 × kS × lS)
  | 0 => fun _ _ _ _ _ _ _ _ _ => none
  | n_131 + 1 => fun x6 x7 x8 x9 x10 S L C D =>
    if (16 : Int32) ≤ x10 then (
      k_227 x6 x7 x8 x9 S L C D)
    else (
      gd (((16 : Int32) * x6) + x10) 64 <|
      gd (((16 : Int32) * x7) + x10) 64 <|
      if (aI L 8 (((16 : Int32) * x7) + x10).toNatClampNeg) ≤ (aI L 8 (((16 : Int32) * x6) + x10).toNatClampNeg) then (
        gd (((16 : Int32) * x6) + x10) 64 <|
        pL_exchanges_198 N (pL_exchanges_131 N k_227 n_131) (aI L 8 (((16 : Int32) * x6) + x10).toNatClampNeg) (((16 : Int32) * x6) + x10) x6 x7 x8 x9 x10 S L C D)
      else (
        gd (((16 : Int32) * x7) + x10) 64 <|
        pL_exchanges_198 N (pL_exchanges_131 N k_227 n_131) (aI L 8 (((16 : Int32) * x7) + x10).toNatClampNeg) (((16 : Int32) * x6) + x10) x6 x7 x8 x9 x10 S L C D))
noncomputable def pL_exchanges_128 (N : Nat) (x6 : Int32) (x7 : Int32) (x8 : Int32) (x9 : Int32) (S : kS) (L : lS) (C : Nat) (D : Nat) : Option (Int32 × kS × lS) :=
    pL_exchanges_131 N (pL_exchanges_227 N) N x6 x7 x8 x9 (0 : Int32) S L C D
noncomputable def pL_exchanges_122 (N : Nat) (k_55 : Int32 → Int32 → Int32 → Int32 → Int32 → kS → lS → Nat → Nat → Option (Int32 × kS × lS)) (x6 : Int32) (x7 : Int32) (x8 : Int32) (x9 : Int32) (x10 : Int32) (S : kS) (L : lS) (C : Nat) (D : Nat) : Option (Int32 × kS × lS) :=
    nm (x10 + (1 : Int32)) fun y101 =>
    k_55 x6 x7 x8 x9 y101 S L C D
noncomputable def pL_exchanges_55 (N : Nat) (k_128 : Int32 → Int32 → Int32 → Int32 → kS → lS → Nat → Nat → Option (Int32 × kS × lS)) : Nat → Int32 → Int32 → Int32 → Int32 → Int32 → kS → lS → Nat → Nat → Option (Int32 × kS × lS)
  | 0 => fun _ _ _ _ _ _ _ _ _ => none
  | n_55 + 1 => fun x6 x7 x8 x9 x10 S L C D =>
    gd (1 : Int32) 20 <|
    if (aI L 0 (1 : Int32).toNatClampNeg) ≤ x10 then (
      k_128 x6 x7 x8 x9 S L C D)
    else (
      if x8 ≤ x9 then (
        k_128 x6 x7 x8 x9 S L C D)
      else (
        lba (pL_known N x6 x10 L) fun v101 L102 =>
        if v101 = (0 : Int32) then (
          pL_exchanges_122 N (pL_exchanges_55 N k_128 n_55) x6 x7 x8 x9 x10 S L102 C D)
        else (
          lba (pL_known N x7 x10 L102) fun v103 L104 =>
          if v103 = (0 : Int32) then (
            gd x10 41 <|
            gd (((20 : Int32) * x7) + ((aI L104 2 x10.toNatClampNeg) - (aI L104 2 x10.toNatClampNeg) / (4 : Int32) * (4 : Int32))) 64 <|
            gd (((20 : Int32) * x7) + ((aI L104 2 x10.toNatClampNeg) - (aI L104 2 x10.toNatClampNeg) / (4 : Int32) * (4 : Int32))) 64 <| slv (uI L104 8 (((20 : Int32) * x7) + ((aI L104 2 x10.toNatClampNeg) - (aI L104 2 x10.toNatClampNeg) / (4 : Int32) * (4 : Int32))).toNatClampNeg ((aI L104 8 (((20 : Int32) * x7) + ((aI L104 2 x10.toNatClampNeg) - (aI L104 2 x10.toNatClampNeg) / (4 : Int32) * (4 : Int32))).toNatClampNeg) + (1 : Int32))) fun L105 =>
            nm (x9 + (1 : Int32)) fun y106 =>
            pL_exchanges_122 N (pL_exchanges_55 N k_128 n_55) x6 x7 x8 y106 x10 S L105 C D)
          else (
            pL_exchanges_122 N (pL_exchanges_55 N k_128 n_55) x6 x7 x8 x9 x10 S L104 C D))))
noncomputable def pL_exchanges_44 (N : Nat) (t0 : Int32) (t1 : Int32) (x6 : Int32) (x7 : Int32) (S : kS) (L : lS) (C : Nat) (D : Nat) : Option (Int32 × kS × lS) :=
    lba (pL_low N t1 t0 L) fun v101 L102 =>
    pL_exchanges_55 N (pL_exchanges_128 N) N x6 x7 v101 (0 : Int32) (0 : Int32) S L102 C D
noncomputable def pL_exchanges (N : Nat) (x1 : Int32) (S : kS) (L : lS) : Option (Int32 × kS × lS) :=
    lba (pL_low N x1 (4 : Int32) L) fun v101 L102 =>
    lba (pL_low N (x1 >>> ((2 : Int32) &&& 31)) (3 : Int32) L102) fun v103 L104 =>
    nm (((v101 + (1 : Int32)) + v103) - ((v101 + (1 : Int32)) + v103) / (4 : Int32) * (4 : Int32)) fun y105 =>
    lba (pL_low N (x1 >>> ((9 : Int32) &&& 31)) (2 : Int32) L104) fun v106 L107 =>
    if v106 = (0 : Int32) then (
      pL_exchanges_44 N (251 : Int32) (x1 >>> ((4 : Int32) &&& 31)) v101 y105 S L107 0 0)
    else (
      pL_exchanges_44 N (4 : Int32) (x1 >>> ((4 : Int32) &&& 31)) v101 y105 S L107 0 0)
theorem fL_exchanges : lFnS yL_exchanges (.code yL_exchanges cL_exchanges 11 (some .boolean)) 6 278 := ⟨kT_240, kT_241, kT_134, rfl, by decide +kernel⟩
set_option maxRecDepth 100000 in
set_option maxHeartbeats 4000000 in
theorem c_L_exchanges (l : Launch) (hlt : l.stackTraces = false) (N : Nat) (x1 : Int32) : lMet l yL_exchanges (.code yL_exchanges cL_exchanges 11 (some .boolean)) 8 308 3 18 (fun ca a => [.ref (ca 0), .int x1, .ref (a 0), .ref (a 2), .ref (a 3), .ref (a 8)]) qI (pL_exchanges N x1) := by
  refine l_start hlt (by decide +kernel) rfl (fun ca a => [(0, .ref (ca 0)), (1, .int x1), (2, .ref (a 0)), (3, .ref (a 2)), (4, .ref (a 3)), (5, .ref (a 8))]) (fun _ _ => Nat.le_of_ble_eq_true rfl) (fun _ _ => rfl) ?_
  intro dC dI g a sz Si Li r Sf Lf hpf p e s m args below meth c X hr H locs I ls hl
  have hx := X.1
  have hb := X.2.1
  have hCD : (0 : Nat) ≤ 3 ∧ (0 : Nat) ≤ 18 := ⟨Nat.zero_le _, Nat.zero_le _⟩
  unfold pL_exchanges at hpf
  have hC_227 : ∀ (x6 : Int32) (x7 : Int32) (x8 : Int32) (x9 : Int32) (S : kS) (L : lS) (C D : Nat) (hCD : C ≤ 3 ∧ D ≤ 18) (H : Heap) (locs : List Loc), lV dC dI g a (lFr g a Si Li sz) s Si S L H locs → ∀ ls : Array Slot, lv_has ls 11 [(0, .ref (g.2.1 0)), (6, .int x6), (7, .int x7), (8, .int x8), (9, .int x9)] → pL_exchanges_227 N x6 x7 x8 x9 S L C D = some (r, Sf, Lf) → W p l e (lRm 8 308 3 18) s m args below meth c H locs C D (MQ below (lQ dC dI g a sz Si Li (qI r) Sf Lf) args s 3 18 (lFr g a Si Li sz)) (F0 m 227 ls []) := by
    intro x6 x7 x8 x9 S L C D hCD H locs I ls hl hpf
    unfold pL_exchanges_227 at hpf
    refine lv_aload_n hx hb dL_exchanges_227 rfl (lv_at hl 0 rfl) ?_
    refine lv_iload hx hb dL_exchanges_228 (lv_at hl 1 rfl) ?_
    refine lv_iload hx hb dL_exchanges_230 (lv_at hl 2 rfl) ?_
    refine lv_iload hx hb dL_exchanges_232 (lv_at hl 3 rfl) ?_
    refine l_cX (rest := []) (As := [.int x6, .int x7, .int x8]) X I fX_exchange (c_X9_exchange l hlt N x6 x7 x8) ⟨Nat.le_of_ble_eq_true rfl, Nat.le_of_ble_eq_true rfl⟩ 234 dL_exchanges_234 rfl hl.1 ⟨Nat.le_refl _, Nat.le_refl _⟩ rfl (Nat.le_of_ble_eq_true rfl) hpf (fun v101 S102 C103 D104 hCD H locs I hpf => ?_)
    refine lv_iload hx hb dL_exchanges_237 (lv_at hl 4 rfl) ?_
    refine b_icmp_ne hx hb 246 239 dL_exchanges_239 (by decide) hpf (fun hpf => ?_) (fun hpf => ?_)
    · refine lv_iconst (v := (0 : Int32)) hx hb dL_exchanges_246 (by decide) ?_
      exact l_retzB X I hr 247 dL_exchanges_247 hpf
    refine lv_iconst (v := (1 : Int32)) hx hb dL_exchanges_242 (by decide) ?_
    refine lv_goto (tgt := 247) hx hb dL_exchanges_243 (by decide) ?_
    exact l_retzB X I hr 247 dL_exchanges_247 hpf
  have hC_131 : ∀ (n_131 : Nat), ∀ (x6 : Int32) (x7 : Int32) (x8 : Int32) (x9 : Int32) (x10 : Int32) (S : kS) (L : lS) (C D : Nat) (hCD : C ≤ 3 ∧ D ≤ 18) (H : Heap) (locs : List Loc), lV dC dI g a (lFr g a Si Li sz) s Si S L H locs → ∀ ls : Array Slot, lv_has ls 11 [(0, .ref (g.2.1 0)), (5, .ref (a 8)), (6, .int x6), (7, .int x7), (8, .int x8), (9, .int x9), (10, .int x10)] → pL_exchanges_131 N (pL_exchanges_227 N) n_131 x6 x7 x8 x9 x10 S L C D = some (r, Sf, Lf) → W p l e (lRm 8 308 3 18) s m args below meth c H locs C D (MQ below (lQ dC dI g a sz Si Li (qI r) Sf Lf) args s 3 18 (lFr g a Si Li sz)) (F0 m 131 ls []) := by
    intro n_131
    induction n_131 with
    | zero =>
      intro x6 x7 x8 x9 x10 S L C D hCD H locs I ls hl hpf
      rw [pL_exchanges_131] at hpf
      cases hpf
    | succ n_131 ih_131 =>
      have hC_198 : ∀ (t0 : Int32) (t1 : Int32) (x6 : Int32) (x7 : Int32) (x8 : Int32) (x9 : Int32) (x10 : Int32) (S : kS) (L : lS) (C D : Nat) (hCD : C ≤ 3 ∧ D ≤ 18) (H : Heap) (locs : List Loc), lV dC dI g a (lFr g a Si Li sz) s Si S L H locs → ∀ ls : Array Slot, lv_has ls 11 [(0, .ref (g.2.1 0)), (5, .ref (a 8)), (6, .int x6), (7, .int x7), (8, .int x8), (9, .int x9), (10, .int x10)] → pL_exchanges_198 N (pL_exchanges_131 N (pL_exchanges_227 N) n_131) t0 t1 x6 x7 x8 x9 x10 S L C D = some (r, Sf, Lf) → W p l e (lRm 8 308 3 18) s m args below meth c H locs C D (MQ below (lQ dC dI g a sz Si Li (qI r) Sf Lf) args s 3 18 (lFr g a Si Li sz)) (F0 m 198 ls [.int t0, .int t1, .ref (a 8)]) := by
        intro t0 t1 x6 x7 x8 x9 x10 S L C D hCD H locs I ls hl hpf
        unfold pL_exchanges_198 at hpf
        refine l_iast X I lR_8 198 dL_exchanges_198 hpf (fun L101 H locs I hpf => ?_)
        refine lv_aload hx hb dL_exchanges_199 (lv_at hl 1 rfl) ?_
        refine lv_bipush (v := (16 : Int32)) hx hb dL_exchanges_201 (by decide) ?_
        refine lv_iload hx hb dL_exchanges_203 (lv_at hl 3 rfl) ?_
        refine lv_imul hx hb dL_exchanges_205 ?_
        refine lv_iload hx hb dL_exchanges_206 (lv_at hl 6 rfl) ?_
        refine lv_iadd hx hb dL_exchanges_208 ?_
        refine lv_aload hx hb dL_exchanges_209 (lv_at hl 1 rfl) ?_
        refine lv_bipush (v := (16 : Int32)) hx hb dL_exchanges_211 (by decide) ?_
        refine lv_iload hx hb dL_exchanges_213 (lv_at hl 2 rfl) ?_
        refine lv_imul hx hb dL_exchanges_215 ?_
        refine lv_iload hx hb dL_exchanges_216 (lv_at hl 6 rfl) ?_
        refine lv_iadd hx hb dL_exchanges_218 ?_
        refine l_iald X I lR_8 219 dL_exchanges_219 hpf (fun hpf => ?_)
        refine l_iast X I lR_8 220 dL_exchanges_220 hpf (fun L102 H locs I hpf => ?_)
        refine m_iinc (w := (1 : Int32)) hx hb (fun y103 => [(10, .int y103), (0, .ref (g.2.1 0)), (5, .ref (a 8)), (6, .int x6), (7, .int x7), (8, .int x8), (9, .int x9)]) 221 dL_exchanges_221 hl (k := 6) rfl (by decide) (by decide) (fun _ => rfl) hpf (fun y103 ls hl hpf => ?_)
        refine lv_goto (tgt := 131) hx hb dL_exchanges_224 (by decide) ?_
        exact ih_131 x6 x7 x8 x9 y103 S L102 C D hCD H locs I ls (lv_sub hl [1, 2, 3, 4, 5, 6, 0] rfl) hpf
      intro x6 x7 x8 x9 x10 S L C D hCD H locs I ls hl hpf
      rw [pL_exchanges_131] at hpf
      refine lv_iload hx hb dL_exchanges_131 (lv_at hl 6 rfl) ?_
      refine lv_bipush (v := (16 : Int32)) hx hb dL_exchanges_133 (by decide) ?_
      refine b_icmp_ge hx hb 227 135 dL_exchanges_135 (by decide) hpf (fun hpf => ?_) (fun hpf => ?_)
      · exact hC_227 x6 x7 x8 x9 S L C D hCD H locs I ls (lv_sub hl [0, 2, 3, 4, 5] rfl) hpf
      refine lv_aload hx hb dL_exchanges_138 (lv_at hl 1 rfl) ?_
      refine lv_bipush (v := (16 : Int32)) hx hb dL_exchanges_140 (by decide) ?_
      refine lv_iload hx hb dL_exchanges_142 (lv_at hl 2 rfl) ?_
      refine lv_imul hx hb dL_exchanges_144 ?_
      refine lv_iload hx hb dL_exchanges_145 (lv_at hl 6 rfl) ?_
      refine lv_iadd hx hb dL_exchanges_147 ?_
      refine lv_aload hx hb dL_exchanges_148 (lv_at hl 1 rfl) ?_
      refine lv_bipush (v := (16 : Int32)) hx hb dL_exchanges_150 (by decide) ?_
      refine lv_iload hx hb dL_exchanges_152 (lv_at hl 2 rfl) ?_
      refine lv_imul hx hb dL_exchanges_154 ?_
      refine lv_iload hx hb dL_exchanges_155 (lv_at hl 6 rfl) ?_
      refine lv_iadd hx hb dL_exchanges_157 ?_
      refine l_iald X I lR_8 158 dL_exchanges_158 hpf (fun hpf => ?_)
      refine lv_aload hx hb dL_exchanges_159 (lv_at hl 1 rfl) ?_
      refine lv_bipush (v := (16 : Int32)) hx hb dL_exchanges_161 (by decide) ?_
      refine lv_iload hx hb dL_exchanges_163 (lv_at hl 3 rfl) ?_
      refine lv_imul hx hb dL_exchanges_165 ?_
      refine lv_iload hx hb dL_exchanges_166 (lv_at hl 6 rfl) ?_
      refine lv_iadd hx hb dL_exchanges_168 ?_
      refine l_iald X I lR_8 169 dL_exchanges_169 hpf (fun hpf => ?_)
      refine b_icmp_ge hx hb 187 170 dL_exchanges_170 (by decide) hpf (fun hpf => ?_) (fun hpf => ?_)
      · refine lv_aload hx hb dL_exchanges_187 (lv_at hl 1 rfl) ?_
        refine lv_bipush (v := (16 : Int32)) hx hb dL_exchanges_189 (by decide) ?_
        refine lv_iload hx hb dL_exchanges_191 (lv_at hl 2 rfl) ?_
        refine lv_imul hx hb dL_exchanges_193 ?_
        refine lv_iload hx hb dL_exchanges_194 (lv_at hl 6 rfl) ?_
        refine lv_iadd hx hb dL_exchanges_196 ?_
        refine l_iald X I lR_8 197 dL_exchanges_197 hpf (fun hpf => ?_)
        exact hC_198 (aI L 8 (((16 : Int32) * x6) + x10).toNatClampNeg) (((16 : Int32) * x6) + x10) x6 x7 x8 x9 x10 S L C D hCD H locs I ls (lv_sub hl [0, 1, 2, 3, 4, 5, 6] rfl) hpf
      refine lv_aload hx hb dL_exchanges_173 (lv_at hl 1 rfl) ?_
      refine lv_bipush (v := (16 : Int32)) hx hb dL_exchanges_175 (by decide) ?_
      refine lv_iload hx hb dL_exchanges_177 (lv_at hl 3 rfl) ?_
      refine lv_imul hx hb dL_exchanges_179 ?_
      refine lv_iload hx hb dL_exchanges_180 (lv_at hl 6 rfl) ?_
      refine lv_iadd hx hb dL_exchanges_182 ?_
      refine l_iald X I lR_8 183 dL_exchanges_183 hpf (fun hpf => ?_)
      refine lv_goto (tgt := 198) hx hb dL_exchanges_184 (by decide) ?_
      exact hC_198 (aI L 8 (((16 : Int32) * x7) + x10).toNatClampNeg) (((16 : Int32) * x6) + x10) x6 x7 x8 x9 x10 S L C D hCD H locs I ls (lv_sub hl [0, 1, 2, 3, 4, 5, 6] rfl) hpf
  have hC_128 : ∀ (x6 : Int32) (x7 : Int32) (x8 : Int32) (x9 : Int32) (S : kS) (L : lS) (C D : Nat) (hCD : C ≤ 3 ∧ D ≤ 18) (H : Heap) (locs : List Loc), lV dC dI g a (lFr g a Si Li sz) s Si S L H locs → ∀ ls : Array Slot, lv_has ls 11 [(0, .ref (g.2.1 0)), (5, .ref (a 8)), (6, .int x6), (7, .int x7), (8, .int x8), (9, .int x9)] → pL_exchanges_128 N x6 x7 x8 x9 S L C D = some (r, Sf, Lf) → W p l e (lRm 8 308 3 18) s m args below meth c H locs C D (MQ below (lQ dC dI g a sz Si Li (qI r) Sf Lf) args s 3 18 (lFr g a Si Li sz)) (F0 m 128 ls []) := by
    intro x6 x7 x8 x9 S L C D hCD H locs I ls hl hpf
    unfold pL_exchanges_128 at hpf
    refine lv_iconst (v := (0 : Int32)) hx hb dL_exchanges_128 (by decide) ?_
    refine lv_istore (lv' := [(10, .int (0 : Int32)), (0, .ref (g.2.1 0)), (5, .ref (a 8)), (6, .int x6), (7, .int x7), (8, .int x8), (9, .int x9)]) hx hb dL_exchanges_129 hl (by decide) rfl (fun ls hl => ?_)
    exact hC_131 N x6 x7 x8 x9 (0 : Int32) S L C D hCD H locs I ls (lv_sub hl [1, 2, 3, 4, 5, 6, 0] rfl) hpf
  have hC_55 : ∀ (n_55 : Nat), ∀ (x6 : Int32) (x7 : Int32) (x8 : Int32) (x9 : Int32) (x10 : Int32) (S : kS) (L : lS) (C D : Nat) (hCD : C ≤ 3 ∧ D ≤ 18) (H : Heap) (locs : List Loc), lV dC dI g a (lFr g a Si Li sz) s Si S L H locs → ∀ ls : Array Slot, lv_has ls 11 [(0, .ref (g.2.1 0)), (2, .ref (a 0)), (3, .ref (a 2)), (4, .ref (a 3)), (5, .ref (a 8)), (6, .int x6), (7, .int x7), (8, .int x8), (9, .int x9), (10, .int x10)] → pL_exchanges_55 N (pL_exchanges_128 N) n_55 x6 x7 x8 x9 x10 S L C D = some (r, Sf, Lf) → W p l e (lRm 8 308 3 18) s m args below meth c H locs C D (MQ below (lQ dC dI g a sz Si Li (qI r) Sf Lf) args s 3 18 (lFr g a Si Li sz)) (F0 m 55 ls []) := by
    intro n_55
    induction n_55 with
    | zero =>
      intro x6 x7 x8 x9 x10 S L C D hCD H locs I ls hl hpf
      rw [pL_exchanges_55] at hpf
      cases hpf
    | succ n_55 ih_55 =>
      have hC_122 : ∀ (x6 : Int32) (x7 : Int32) (x8 : Int32) (x9 : Int32) (x10 : Int32) (S : kS) (L : lS) (C D : Nat) (hCD : C ≤ 3 ∧ D ≤ 18) (H : Heap) (locs : List Loc), lV dC dI g a (lFr g a Si Li sz) s Si S L H locs → ∀ ls : Array Slot, lv_has ls 11 [(0, .ref (g.2.1 0)), (2, .ref (a 0)), (3, .ref (a 2)), (4, .ref (a 3)), (5, .ref (a 8)), (6, .int x6), (7, .int x7), (8, .int x8), (9, .int x9), (10, .int x10)] → pL_exchanges_122 N (pL_exchanges_55 N (pL_exchanges_128 N) n_55) x6 x7 x8 x9 x10 S L C D = some (r, Sf, Lf) → W p l e (lRm 8 308 3 18) s m args below meth c H locs C D (MQ below (lQ dC dI g a sz Si Li (qI r) Sf Lf) args s 3 18 (lFr g a Si Li sz)) (F0 m 122 ls []) := by
        intro x6 x7 x8 x9 x10 S L C D hCD H locs I ls hl hpf
        unfold pL_exchanges_122 at hpf
        refine m_iinc (w := (1 : Int32)) hx hb (fun y101 => [(10, .int y101), (0, .ref (g.2.1 0)), (2, .ref (a 0)), (3, .ref (a 2)), (4, .ref (a 3)), (5, .ref (a 8)), (6, .int x6), (7, .int x7), (8, .int x8), (9, .int x9)]) 122 dL_exchanges_122 hl (k := 9) rfl (by decide) (by decide) (fun _ => rfl) hpf (fun y101 ls hl hpf => ?_)
        refine lv_goto (tgt := 55) hx hb dL_exchanges_125 (by decide) ?_
        exact ih_55 x6 x7 x8 x9 y101 S L C D hCD H locs I ls (lv_sub hl [1, 2, 3, 4, 5, 6, 7, 8, 9, 0] rfl) hpf
      intro x6 x7 x8 x9 x10 S L C D hCD H locs I ls hl hpf
      rw [pL_exchanges_55] at hpf
      refine lv_iload hx hb dL_exchanges_55 (lv_at hl 9 rfl) ?_
      refine lv_aload_n hx hb dL_exchanges_57 rfl (lv_at hl 1 rfl) ?_
      refine lv_iconst (v := (1 : Int32)) hx hb dL_exchanges_58 (by decide) ?_
      refine l_iald X I lR_0 59 dL_exchanges_59 hpf (fun hpf => ?_)
      refine b_icmp_ge hx hb 128 60 dL_exchanges_60 (by decide) hpf (fun hpf => ?_) (fun hpf => ?_)
      · exact hC_128 x6 x7 x8 x9 S L C D hCD H locs I ls (lv_sub hl [0, 4, 5, 6, 7, 8] rfl) hpf
      refine lv_iload hx hb dL_exchanges_63 (lv_at hl 8 rfl) ?_
      refine lv_iload hx hb dL_exchanges_65 (lv_at hl 7 rfl) ?_
      refine b_icmp_ge hx hb 128 67 dL_exchanges_67 (by decide) hpf (fun hpf => ?_) (fun hpf => ?_)
      · exact hC_128 x6 x7 x8 x9 S L C D hCD H locs I ls (lv_sub hl [0, 4, 5, 6, 7, 8] rfl) hpf
      refine lv_iload hx hb dL_exchanges_70 (lv_at hl 5 rfl) ?_
      refine lv_iload hx hb dL_exchanges_72 (lv_at hl 9 rfl) ?_
      refine lv_aload_n hx hb dL_exchanges_74 rfl (lv_at hl 2 rfl) ?_
      refine lv_aload hx hb dL_exchanges_75 (lv_at hl 3 rfl) ?_
      refine lv_aload hx hb dL_exchanges_77 (lv_at hl 4 rfl) ?_
      refine l_cAI (rest := []) (As := [.int x6, .int x10, .ref (a 2), .ref (a 3), .ref (a 8)]) X I fL_known (c_L_known l hlt N x6 x10) rfl ⟨Nat.le_of_ble_eq_true rfl, Nat.le_of_ble_eq_true rfl⟩ 79 dL_exchanges_79 rfl hl.1 rfl (Nat.le_of_ble_eq_true rfl) hCD hpf (fun v101 L102 H locs I hpf => ?_)
      refine b_if_eq hx hb 122 82 dL_exchanges_82 (by decide) hpf (fun hpf => ?_) (fun hpf => ?_)
      · exact hC_122 x6 x7 x8 x9 x10 S L102 C D hCD H locs I ls (lv_sub hl [0, 1, 2, 3, 4, 5, 6, 7, 8, 9] rfl) hpf
      refine lv_iload hx hb dL_exchanges_85 (lv_at hl 6 rfl) ?_
      refine lv_iload hx hb dL_exchanges_87 (lv_at hl 9 rfl) ?_
      refine lv_aload_n hx hb dL_exchanges_89 rfl (lv_at hl 2 rfl) ?_
      refine lv_aload hx hb dL_exchanges_90 (lv_at hl 3 rfl) ?_
      refine lv_aload hx hb dL_exchanges_92 (lv_at hl 4 rfl) ?_
      refine l_cAI (rest := []) (As := [.int x7, .int x10, .ref (a 2), .ref (a 3), .ref (a 8)]) X I fL_known (c_L_known l hlt N x7 x10) rfl ⟨Nat.le_of_ble_eq_true rfl, Nat.le_of_ble_eq_true rfl⟩ 94 dL_exchanges_94 rfl hl.1 rfl (Nat.le_of_ble_eq_true rfl) hCD hpf (fun v103 L104 H locs I hpf => ?_)
      refine b_if_ne hx hb 122 97 dL_exchanges_97 (by decide) hpf (fun hpf => ?_) (fun hpf => ?_)
      · exact hC_122 x6 x7 x8 x9 x10 S L104 C D hCD H locs I ls (lv_sub hl [0, 1, 2, 3, 4, 5, 6, 7, 8, 9] rfl) hpf
      refine lv_aload hx hb dL_exchanges_100 (lv_at hl 4 rfl) ?_
      refine lv_bipush (v := (20 : Int32)) hx hb dL_exchanges_102 (by decide) ?_
      refine lv_iload hx hb dL_exchanges_104 (lv_at hl 6 rfl) ?_
      refine lv_imul hx hb dL_exchanges_106 ?_
      refine lv_aload_n hx hb dL_exchanges_107 rfl (lv_at hl 2 rfl) ?_
      refine lv_iload hx hb dL_exchanges_108 (lv_at hl 9 rfl) ?_
      refine l_iald X I lR_2 110 dL_exchanges_110 hpf (fun hpf => ?_)
      refine lv_iconst (v := (4 : Int32)) hx hb dL_exchanges_111 (by decide) ?_
      refine lv_irem hx hb dL_exchanges_112 (by decide) ?_
      refine lv_iadd hx hb dL_exchanges_113 ?_
      refine lv_dup2_11 hx hb dL_exchanges_114 rfl rfl ?_
      refine l_iald X I lR_8 115 dL_exchanges_115 hpf (fun hpf => ?_)
      refine lv_iconst (v := (1 : Int32)) hx hb dL_exchanges_116 (by decide) ?_
      refine lv_iadd hx hb dL_exchanges_117 ?_
      refine l_iast X I lR_8 118 dL_exchanges_118 hpf (fun L105 H locs I hpf => ?_)
      refine m_iinc (w := (1 : Int32)) hx hb (fun y106 => [(9, .int y106), (0, .ref (g.2.1 0)), (2, .ref (a 0)), (3, .ref (a 2)), (4, .ref (a 3)), (5, .ref (a 8)), (6, .int x6), (7, .int x7), (8, .int x8), (10, .int x10)]) 119 dL_exchanges_119 hl (k := 8) rfl (by decide) (by decide) (fun _ => rfl) hpf (fun y106 ls hl hpf => ?_)
      exact hC_122 x6 x7 x8 y106 x10 S L105 C D hCD H locs I ls (lv_sub hl [1, 2, 3, 4, 5, 6, 7, 8, 0, 9] rfl) hpf
  have hC_44 : ∀ (t0 : Int32) (t1 : Int32) (x6 : Int32) (x7 : Int32) (S : kS) (L : lS) (C D : Nat) (hCD : C ≤ 3 ∧ D ≤ 18) (H : Heap) (locs : List Loc), lV dC dI g a (lFr g a Si Li sz) s Si S L H locs → ∀ ls : Array Slot, lv_has ls 11 [(0, .ref (g.2.1 0)), (2, .ref (a 0)), (3, .ref (a 2)), (4, .ref (a 3)), (5, .ref (a 8)), (6, .int x6), (7, .int x7)] → pL_exchanges_44 N t0 t1 x6 x7 S L C D = some (r, Sf, Lf) → W p l e (lRm 8 308 3 18) s m args below meth c H locs C D (MQ below (lQ dC dI g a sz Si Li (qI r) Sf Lf) args s 3 18 (lFr g a Si Li sz)) (F0 m 44 ls [.int t0, .int t1]) := by
    intro t0 t1 x6 x7 S L C D hCD H locs I ls hl hpf
    unfold pL_exchanges_44 at hpf
    refine l_cAI (rest := []) (As := [.int t1, .int t0]) X I fL_low (c_L_low l hlt N t1 t0) rfl ⟨Nat.le_of_ble_eq_true rfl, Nat.le_of_ble_eq_true rfl⟩ 44 dL_exchanges_44 rfl hl.1 rfl (Nat.le_of_ble_eq_true rfl) hCD hpf (fun v101 L102 H locs I hpf => ?_)
    refine lv_istore (lv' := [(8, .int v101), (0, .ref (g.2.1 0)), (2, .ref (a 0)), (3, .ref (a 2)), (4, .ref (a 3)), (5, .ref (a 8)), (6, .int x6), (7, .int x7)]) hx hb dL_exchanges_47 hl (by decide) rfl (fun ls hl => ?_)
    refine lv_iconst (v := (0 : Int32)) hx hb dL_exchanges_49 (by decide) ?_
    refine lv_istore (lv' := [(9, .int (0 : Int32)), (8, .int v101), (0, .ref (g.2.1 0)), (2, .ref (a 0)), (3, .ref (a 2)), (4, .ref (a 3)), (5, .ref (a 8)), (6, .int x6), (7, .int x7)]) hx hb dL_exchanges_50 hl (by decide) rfl (fun ls hl => ?_)
    refine lv_iconst (v := (0 : Int32)) hx hb dL_exchanges_52 (by decide) ?_
    refine lv_istore (lv' := [(10, .int (0 : Int32)), (9, .int (0 : Int32)), (8, .int v101), (0, .ref (g.2.1 0)), (2, .ref (a 0)), (3, .ref (a 2)), (4, .ref (a 3)), (5, .ref (a 8)), (6, .int x6), (7, .int x7)]) hx hb dL_exchanges_53 hl (by decide) rfl (fun ls hl => ?_)
    exact hC_55 N x6 x7 v101 (0 : Int32) (0 : Int32) S L102 C D hCD H locs I ls (lv_sub hl [3, 4, 5, 6, 7, 8, 9, 2, 1, 0] rfl) hpf
  refine lv_iload_n hx hb dL_exchanges_0 rfl (lv_at hl 1 rfl) ?_
  refine lv_iconst (v := (4 : Int32)) hx hb dL_exchanges_1 (by decide) ?_
  refine l_cAI (rest := []) (As := [.int x1, .int (4 : Int32)]) X I fL_low (c_L_low l hlt N x1 (4 : Int32)) rfl ⟨Nat.le_of_ble_eq_true rfl, Nat.le_of_ble_eq_true rfl⟩ 2 dL_exchanges_2 rfl hl.1 rfl (Nat.le_of_ble_eq_true rfl) hCD hpf (fun v101 L102 H locs I hpf => ?_)
  refine lv_istore (lv' := [(6, .int v101), (0, .ref (g.2.1 0)), (1, .int x1), (2, .ref (a 0)), (3, .ref (a 2)), (4, .ref (a 3)), (5, .ref (a 8))]) hx hb dL_exchanges_5 hl (by decide) rfl (fun ls hl => ?_)
  refine lv_iload hx hb dL_exchanges_7 (lv_at hl 0 rfl) ?_
  refine lv_iconst (v := (1 : Int32)) hx hb dL_exchanges_9 (by decide) ?_
  refine lv_iadd hx hb dL_exchanges_10 ?_
  refine lv_iload_n hx hb dL_exchanges_11 rfl (lv_at hl 2 rfl) ?_
  refine lv_iconst (v := (2 : Int32)) hx hb dL_exchanges_12 (by decide) ?_
  refine lv_ishr hx hb dL_exchanges_13 ?_
  refine lv_iconst (v := (3 : Int32)) hx hb dL_exchanges_14 (by decide) ?_
  refine l_cAI (rest := [.int (v101 + (1 : Int32))]) (As := [.int (x1 >>> ((2 : Int32) &&& 31)), .int (3 : Int32)]) X I fL_low (c_L_low l hlt N (x1 >>> ((2 : Int32) &&& 31)) (3 : Int32)) rfl ⟨Nat.le_of_ble_eq_true rfl, Nat.le_of_ble_eq_true rfl⟩ 15 dL_exchanges_15 rfl hl.1 rfl (Nat.le_of_ble_eq_true rfl) hCD hpf (fun v103 L104 H locs I hpf => ?_)
  refine lv_iadd hx hb dL_exchanges_18 ?_
  refine lv_iconst (v := (4 : Int32)) hx hb dL_exchanges_19 (by decide) ?_
  refine lv_irem hx hb dL_exchanges_20 (by decide) ?_
  refine m_isto hx hb (fun y105 => [(7, .int y105), (6, .int v101), (0, .ref (g.2.1 0)), (1, .int x1), (2, .ref (a 0)), (3, .ref (a 2)), (4, .ref (a 3)), (5, .ref (a 8))]) 21 dL_exchanges_21 hl (by decide) (fun _ => rfl) hpf (fun y105 ls hl hpf => ?_)
  refine lv_iload_n hx hb dL_exchanges_23 rfl (lv_at hl 3 rfl) ?_
  refine lv_iconst (v := (4 : Int32)) hx hb dL_exchanges_24 (by decide) ?_
  refine lv_ishr hx hb dL_exchanges_25 ?_
  refine lv_iload_n hx hb dL_exchanges_26 rfl (lv_at hl 3 rfl) ?_
  refine lv_bipush (v := (9 : Int32)) hx hb dL_exchanges_27 (by decide) ?_
  refine lv_ishr hx hb dL_exchanges_29 ?_
  refine lv_iconst (v := (2 : Int32)) hx hb dL_exchanges_30 (by decide) ?_
  refine l_cAI (rest := [.int (x1 >>> ((4 : Int32) &&& 31))]) (As := [.int (x1 >>> ((9 : Int32) &&& 31)), .int (2 : Int32)]) X I fL_low (c_L_low l hlt N (x1 >>> ((9 : Int32) &&& 31)) (2 : Int32)) rfl ⟨Nat.le_of_ble_eq_true rfl, Nat.le_of_ble_eq_true rfl⟩ 31 dL_exchanges_31 rfl hl.1 rfl (Nat.le_of_ble_eq_true rfl) hCD hpf (fun v106 L107 H locs I hpf => ?_)
  refine b_if_ne hx hb 43 34 dL_exchanges_34 (by decide) hpf (fun hpf => ?_) (fun hpf => ?_)
  · refine lv_iconst (v := (4 : Int32)) hx hb dL_exchanges_43 (by decide) ?_
    exact hC_44 (4 : Int32) (x1 >>> ((4 : Int32) &&& 31)) v101 y105 Si L107 0 0 hCD H locs I ls (lv_sub hl [2, 4, 5, 6, 7, 1, 0] rfl) hpf
  refine lv_sipush (v := (251 : Int32)) hx hb dL_exchanges_37 (by decide) ?_
  refine lv_goto (tgt := 44) hx hb dL_exchanges_40 (by decide) ?_
  exact hC_44 (251 : Int32) (x1 >>> ((4 : Int32) &&& 31)) v101 y105 Si L107 0 0 hCD H locs I ls (lv_sub hl [2, 4, 5, 6, 7, 1, 0] rfl) hpf
-- ===== the law's sweeps =====
noncomputable def pL_sweeps_124 (N : Nat) (x1 : Int32) (x7 : Int32) (S : kS) (L : lS) (C : Nat) (D : Nat) : Option (Int32 × kS × lS) :=
    lbx 1 6 1 6 C D (pX9_sweep N x1 S) fun v101 S102 C103 D104 =>
    if v101 = x7 then (
      zlB 1 6 C103 D104 (1 : Int32) S102 L)
    else (
      zlB 1 6 C103 D104 (0 : Int32) S102 L)
noncomputable def pL_sweeps_115 (N : Nat) (k_6 : Int32 → Int32 → Int32 → kS → lS → Nat → Nat → Option (Int32 × kS × lS)) (t0 : Int32) (t1 : Int32) (x1 : Int32) (x8 : Int32) (S : kS) (L : lS) (C : Nat) (D : Nat) : Option (Int32 × kS × lS) :=
    nm (t1 + t0) fun y101 =>
    nm (x8 + (1 : Int32)) fun y102 =>
    k_6 x1 y101 y102 S L C D
noncomputable def pL_sweeps_101 (N : Nat) (k_6 : Int32 → Int32 → Int32 → kS → lS → Nat → Nat → Option (Int32 × kS × lS)) (t0 : Int32) (t1 : Int32) (t2 : Int32) (x1 : Int32) (x7 : Int32) (x8 : Int32) (x9 : Int32) (S : kS) (L : lS) (C : Nat) (D : Nat) : Option (Int32 × kS × lS) :=
    gd t2 20 <| slv (uI L 0 t2.toNatClampNeg (t1 ||| t0)) fun L101 =>
    if x9 = (0 : Int32) then (
      pL_sweeps_115 N k_6 (0 : Int32) x7 x1 x8 S L101 C D)
    else (
      pL_sweeps_115 N k_6 (1 : Int32) x7 x1 x8 S L101 C D)
noncomputable def pL_sweeps_81 (N : Nat) (k_6 : Int32 → Int32 → Int32 → kS → lS → Nat → Nat → Option (Int32 × kS × lS)) (x1 : Int32) (x7 : Int32) (x8 : Int32) (x9 : Int32) (S : kS) (L : lS) (C : Nat) (D : Nat) : Option (Int32 × kS × lS) :=
    gd ((16 : Int32) + x1) 20 <|
    if x9 = (0 : Int32) then (
      pL_sweeps_101 N k_6 (0 : Int32) (aI L 0 ((16 : Int32) + x1).toNatClampNeg) ((16 : Int32) + x1) x1 x7 x8 x9 S L C D)
    else (
      pL_sweeps_101 N k_6 ((1 : Int32) <<< (x8 &&& 31)) (aI L 0 ((16 : Int32) + x1).toNatClampNeg) ((16 : Int32) + x1) x1 x7 x8 x9 S L C D)
noncomputable def pL_sweeps_73 (N : Nat) (k_38 : Int32 → Int32 → Int32 → Int32 → Int32 → kS → lS → Nat → Nat → Option (Int32 × kS × lS)) (t0 : Int32) (x1 : Int32) (x7 : Int32) (x8 : Int32) (x10 : Int32) (S : kS) (L : lS) (C : Nat) (D : Nat) : Option (Int32 × kS × lS) :=
    nm (x10 + (1 : Int32)) fun y101 =>
    k_38 x1 x7 x8 t0 y101 S L C D
noncomputable def pL_sweeps_38 (N : Nat) (k_81 : Int32 → Int32 → Int32 → Int32 → kS → lS → Nat → Nat → Option (Int32 × kS × lS)) : Nat → Int32 → Int32 → Int32 → Int32 → Int32 → kS → lS → Nat → Nat → Option (Int32 × kS × lS)
  | 0 => fun _ _ _ _ _ _ _ _ _ => none
  | n_38 + 1 => fun x1 x7 x8 x9 x10 S L C D =>
    if (4 : Int32) ≤ x10 then (
      k_81 x1 x7 x8 x9 S L C D)
    else (
      if x9 = (0 : Int32) then (
        pL_sweeps_73 N (pL_sweeps_38 N k_81 n_38) (0 : Int32) x1 x7 x8 x10 S L C D)
      else (
        lba (pL_gone N x1 x10 x8 L) fun v101 L102 =>
        if v101 = (0 : Int32) then (
          pL_sweeps_73 N (pL_sweeps_38 N k_81 n_38) (0 : Int32) x1 x7 x8 x10 S L102 C D)
        else (
          pL_sweeps_73 N (pL_sweeps_38 N k_81 n_38) (1 : Int32) x1 x7 x8 x10 S L102 C D)))
noncomputable def pL_sweeps_33 (N : Nat) (k_6 : Int32 → Int32 → Int32 → kS → lS → Nat → Nat → Option (Int32 × kS × lS)) (t0 : Int32) (x1 : Int32) (x7 : Int32) (x8 : Int32) (S : kS) (L : lS) (C : Nat) (D : Nat) : Option (Int32 × kS × lS) :=
    pL_sweeps_38 N (pL_sweeps_81 N k_6) N x1 x7 x8 t0 (0 : Int32) S L C D
noncomputable def pL_sweeps_6 (N : Nat) (k_124 : Int32 → Int32 → kS → lS → Nat → Nat → Option (Int32 × kS × lS)) : Nat → Int32 → Int32 → Int32 → kS → lS → Nat → Nat → Option (Int32 × kS × lS)
  | 0 => fun _ _ _ _ _ _ _ => none
  | n_6 + 1 => fun x1 x7 x8 S L C D =>
    gd (0 : Int32) 20 <|
    if (aI L 0 (0 : Int32).toNatClampNeg) ≤ x8 then (
      k_124 x1 x7 S L C D)
    else (
      gd ((16 : Int32) + x1) 20 <|
      if (((aI L 0 ((16 : Int32) + x1).toNatClampNeg) >>> (x8 &&& 31)) &&& (1 : Int32)) = (0 : Int32) then (
        pL_sweeps_33 N (pL_sweeps_6 N k_124 n_6) (1 : Int32) x1 x7 x8 S L C D)
      else (
        pL_sweeps_33 N (pL_sweeps_6 N k_124 n_6) (0 : Int32) x1 x7 x8 S L C D))
noncomputable def pL_sweeps (N : Nat) (x1 : Int32) (S : kS) (L : lS) : Option (Int32 × kS × lS) :=
    pL_sweeps_6 N (pL_sweeps_124 N) N x1 (0 : Int32) (1 : Int32) S L 0 0
theorem fL_sweeps : lFnS yL_sweeps (.code yL_sweeps cL_sweeps 11 (some .boolean)) 7 285 := ⟨kT_245, kT_246, kT_138, rfl, by decide +kernel⟩
set_option maxRecDepth 100000 in
set_option maxHeartbeats 4000000 in
theorem c_L_sweeps (l : Launch) (hlt : l.stackTraces = false) (N : Nat) (x1 : Int32) : lMet l yL_sweeps (.code yL_sweeps cL_sweeps 11 (some .boolean)) 8 305 1 6 (fun ca a => [.ref (ca 0), .int x1, .ref (a 0), .ref (a 2), .ref (a 3), .ref (a 4), .ref (a 8)]) qI (pL_sweeps N x1) := by
  refine l_start hlt (by decide +kernel) rfl (fun ca a => [(0, .ref (ca 0)), (1, .int x1), (2, .ref (a 0)), (3, .ref (a 2)), (4, .ref (a 3)), (5, .ref (a 4)), (6, .ref (a 8))]) (fun _ _ => Nat.le_of_ble_eq_true rfl) (fun _ _ => rfl) ?_
  intro dC dI g a sz Si Li r Sf Lf hpf p e s m args below meth c X hr H locs I ls hl
  have hx := X.1
  have hb := X.2.1
  have hCD : (0 : Nat) ≤ 1 ∧ (0 : Nat) ≤ 6 := ⟨Nat.zero_le _, Nat.zero_le _⟩
  unfold pL_sweeps at hpf
  have hC_124 : ∀ (x1 : Int32) (x7 : Int32) (S : kS) (L : lS) (C D : Nat) (hCD : C ≤ 1 ∧ D ≤ 6) (H : Heap) (locs : List Loc), lV dC dI g a (lFr g a Si Li sz) s Si S L H locs → ∀ ls : Array Slot, lv_has ls 11 [(0, .ref (g.2.1 0)), (1, .int x1), (7, .int x7)] → pL_sweeps_124 N x1 x7 S L C D = some (r, Sf, Lf) → W p l e (lRm 8 305 1 6) s m args below meth c H locs C D (MQ below (lQ dC dI g a sz Si Li (qI r) Sf Lf) args s 1 6 (lFr g a Si Li sz)) (F0 m 124 ls []) := by
    intro x1 x7 S L C D hCD H locs I ls hl hpf
    unfold pL_sweeps_124 at hpf
    refine lv_aload_n hx hb dL_sweeps_124 rfl (lv_at hl 0 rfl) ?_
    refine lv_iload_n hx hb dL_sweeps_125 rfl (lv_at hl 1 rfl) ?_
    refine l_cX (rest := []) (As := [.int x1]) X I fX_sweep (c_X9_sweep l hlt N x1) ⟨Nat.le_of_ble_eq_true rfl, Nat.le_of_ble_eq_true rfl⟩ 126 dL_sweeps_126 rfl hl.1 ⟨Nat.le_refl _, Nat.le_refl _⟩ rfl (Nat.le_of_ble_eq_true rfl) hpf (fun v101 S102 C103 D104 hCD H locs I hpf => ?_)
    refine lv_iload hx hb dL_sweeps_129 (lv_at hl 2 rfl) ?_
    refine b_icmp_ne hx hb 138 131 dL_sweeps_131 (by decide) hpf (fun hpf => ?_) (fun hpf => ?_)
    · refine lv_iconst (v := (0 : Int32)) hx hb dL_sweeps_138 (by decide) ?_
      exact l_retzB X I hr 139 dL_sweeps_139 hpf
    refine lv_iconst (v := (1 : Int32)) hx hb dL_sweeps_134 (by decide) ?_
    refine lv_goto (tgt := 139) hx hb dL_sweeps_135 (by decide) ?_
    exact l_retzB X I hr 139 dL_sweeps_139 hpf
  have hC_6 : ∀ (n_6 : Nat), ∀ (x1 : Int32) (x7 : Int32) (x8 : Int32) (S : kS) (L : lS) (C D : Nat) (hCD : C ≤ 1 ∧ D ≤ 6) (H : Heap) (locs : List Loc), lV dC dI g a (lFr g a Si Li sz) s Si S L H locs → ∀ ls : Array Slot, lv_has ls 11 [(0, .ref (g.2.1 0)), (1, .int x1), (2, .ref (a 0)), (3, .ref (a 2)), (4, .ref (a 3)), (5, .ref (a 4)), (6, .ref (a 8)), (7, .int x7), (8, .int x8)] → pL_sweeps_6 N (pL_sweeps_124 N) n_6 x1 x7 x8 S L C D = some (r, Sf, Lf) → W p l e (lRm 8 305 1 6) s m args below meth c H locs C D (MQ below (lQ dC dI g a sz Si Li (qI r) Sf Lf) args s 1 6 (lFr g a Si Li sz)) (F0 m 6 ls []) := by
    intro n_6
    induction n_6 with
    | zero =>
      intro x1 x7 x8 S L C D hCD H locs I ls hl hpf
      rw [pL_sweeps_6] at hpf
      cases hpf
    | succ n_6 ih_6 =>
      have hC_115 : ∀ (t0 : Int32) (t1 : Int32) (x1 : Int32) (x8 : Int32) (S : kS) (L : lS) (C D : Nat) (hCD : C ≤ 1 ∧ D ≤ 6) (H : Heap) (locs : List Loc), lV dC dI g a (lFr g a Si Li sz) s Si S L H locs → ∀ ls : Array Slot, lv_has ls 11 [(0, .ref (g.2.1 0)), (1, .int x1), (2, .ref (a 0)), (3, .ref (a 2)), (4, .ref (a 3)), (5, .ref (a 4)), (6, .ref (a 8)), (8, .int x8)] → pL_sweeps_115 N (pL_sweeps_6 N (pL_sweeps_124 N) n_6) t0 t1 x1 x8 S L C D = some (r, Sf, Lf) → W p l e (lRm 8 305 1 6) s m args below meth c H locs C D (MQ below (lQ dC dI g a sz Si Li (qI r) Sf Lf) args s 1 6 (lFr g a Si Li sz)) (F0 m 115 ls [.int t0, .int t1]) := by
        intro t0 t1 x1 x8 S L C D hCD H locs I ls hl hpf
        unfold pL_sweeps_115 at hpf
        refine lv_iadd hx hb dL_sweeps_115 ?_
        refine m_isto hx hb (fun y101 => [(7, .int y101), (0, .ref (g.2.1 0)), (1, .int x1), (2, .ref (a 0)), (3, .ref (a 2)), (4, .ref (a 3)), (5, .ref (a 4)), (6, .ref (a 8)), (8, .int x8)]) 116 dL_sweeps_116 hl (by decide) (fun _ => rfl) hpf (fun y101 ls hl hpf => ?_)
        refine m_iinc (w := (1 : Int32)) hx hb (fun y102 => [(8, .int y102), (7, .int y101), (0, .ref (g.2.1 0)), (1, .int x1), (2, .ref (a 0)), (3, .ref (a 2)), (4, .ref (a 3)), (5, .ref (a 4)), (6, .ref (a 8))]) 118 dL_sweeps_118 hl (k := 8) rfl (by decide) (by decide) (fun _ => rfl) hpf (fun y102 ls hl hpf => ?_)
        refine lv_goto (tgt := 6) hx hb dL_sweeps_121 (by decide) ?_
        exact ih_6 x1 y101 y102 S L C D hCD H locs I ls (lv_sub hl [2, 3, 4, 5, 6, 7, 8, 1, 0] rfl) hpf
      have hC_101 : ∀ (t0 : Int32) (t1 : Int32) (t2 : Int32) (x1 : Int32) (x7 : Int32) (x8 : Int32) (x9 : Int32) (S : kS) (L : lS) (C D : Nat) (hCD : C ≤ 1 ∧ D ≤ 6) (H : Heap) (locs : List Loc), lV dC dI g a (lFr g a Si Li sz) s Si S L H locs → ∀ ls : Array Slot, lv_has ls 11 [(0, .ref (g.2.1 0)), (1, .int x1), (2, .ref (a 0)), (3, .ref (a 2)), (4, .ref (a 3)), (5, .ref (a 4)), (6, .ref (a 8)), (7, .int x7), (8, .int x8), (9, .int x9)] → pL_sweeps_101 N (pL_sweeps_6 N (pL_sweeps_124 N) n_6) t0 t1 t2 x1 x7 x8 x9 S L C D = some (r, Sf, Lf) → W p l e (lRm 8 305 1 6) s m args below meth c H locs C D (MQ below (lQ dC dI g a sz Si Li (qI r) Sf Lf) args s 1 6 (lFr g a Si Li sz)) (F0 m 101 ls [.int t0, .int t1, .int t2, .ref (a 0)]) := by
        intro t0 t1 t2 x1 x7 x8 x9 S L C D hCD H locs I ls hl hpf
        unfold pL_sweeps_101 at hpf
        refine lv_ior hx hb dL_sweeps_101 ?_
        refine l_iast X I lR_0 102 dL_sweeps_102 hpf (fun L101 H locs I hpf => ?_)
        refine lv_iload hx hb dL_sweeps_103 (lv_at hl 7 rfl) ?_
        refine lv_iload hx hb dL_sweeps_105 (lv_at hl 9 rfl) ?_
        refine b_if_eq hx hb 114 107 dL_sweeps_107 (by decide) hpf (fun hpf => ?_) (fun hpf => ?_)
        · refine lv_iconst (v := (0 : Int32)) hx hb dL_sweeps_114 (by decide) ?_
          exact hC_115 (0 : Int32) x7 x1 x8 S L101 C D hCD H locs I ls (lv_sub hl [0, 1, 2, 3, 4, 5, 6, 8] rfl) hpf
        refine lv_iconst (v := (1 : Int32)) hx hb dL_sweeps_110 (by decide) ?_
        refine lv_goto (tgt := 115) hx hb dL_sweeps_111 (by decide) ?_
        exact hC_115 (1 : Int32) x7 x1 x8 S L101 C D hCD H locs I ls (lv_sub hl [0, 1, 2, 3, 4, 5, 6, 8] rfl) hpf
      have hC_81 : ∀ (x1 : Int32) (x7 : Int32) (x8 : Int32) (x9 : Int32) (S : kS) (L : lS) (C D : Nat) (hCD : C ≤ 1 ∧ D ≤ 6) (H : Heap) (locs : List Loc), lV dC dI g a (lFr g a Si Li sz) s Si S L H locs → ∀ ls : Array Slot, lv_has ls 11 [(0, .ref (g.2.1 0)), (1, .int x1), (2, .ref (a 0)), (3, .ref (a 2)), (4, .ref (a 3)), (5, .ref (a 4)), (6, .ref (a 8)), (7, .int x7), (8, .int x8), (9, .int x9)] → pL_sweeps_81 N (pL_sweeps_6 N (pL_sweeps_124 N) n_6) x1 x7 x8 x9 S L C D = some (r, Sf, Lf) → W p l e (lRm 8 305 1 6) s m args below meth c H locs C D (MQ below (lQ dC dI g a sz Si Li (qI r) Sf Lf) args s 1 6 (lFr g a Si Li sz)) (F0 m 81 ls []) := by
        intro x1 x7 x8 x9 S L C D hCD H locs I ls hl hpf
        unfold pL_sweeps_81 at hpf
        refine lv_aload_n hx hb dL_sweeps_81 rfl (lv_at hl 2 rfl) ?_
        refine lv_bipush (v := (16 : Int32)) hx hb dL_sweeps_82 (by decide) ?_
        refine lv_iload_n hx hb dL_sweeps_84 rfl (lv_at hl 1 rfl) ?_
        refine lv_iadd hx hb dL_sweeps_85 ?_
        refine lv_dup2_11 hx hb dL_sweeps_86 rfl rfl ?_
        refine l_iald X I lR_0 87 dL_sweeps_87 hpf (fun hpf => ?_)
        refine lv_iload hx hb dL_sweeps_88 (lv_at hl 9 rfl) ?_
        refine b_if_eq hx hb 100 90 dL_sweeps_90 (by decide) hpf (fun hpf => ?_) (fun hpf => ?_)
        · refine lv_iconst (v := (0 : Int32)) hx hb dL_sweeps_100 (by decide) ?_
          exact hC_101 (0 : Int32) (aI L 0 ((16 : Int32) + x1).toNatClampNeg) ((16 : Int32) + x1) x1 x7 x8 x9 S L C D hCD H locs I ls (lv_sub hl [0, 1, 2, 3, 4, 5, 6, 7, 8, 9] rfl) hpf
        refine lv_iconst (v := (1 : Int32)) hx hb dL_sweeps_93 (by decide) ?_
        refine lv_iload hx hb dL_sweeps_94 (lv_at hl 8 rfl) ?_
        refine lv_ishl hx hb dL_sweeps_96 ?_
        refine lv_goto (tgt := 101) hx hb dL_sweeps_97 (by decide) ?_
        exact hC_101 ((1 : Int32) <<< (x8 &&& 31)) (aI L 0 ((16 : Int32) + x1).toNatClampNeg) ((16 : Int32) + x1) x1 x7 x8 x9 S L C D hCD H locs I ls (lv_sub hl [0, 1, 2, 3, 4, 5, 6, 7, 8, 9] rfl) hpf
      have hC_38 : ∀ (n_38 : Nat), ∀ (x1 : Int32) (x7 : Int32) (x8 : Int32) (x9 : Int32) (x10 : Int32) (S : kS) (L : lS) (C D : Nat) (hCD : C ≤ 1 ∧ D ≤ 6) (H : Heap) (locs : List Loc), lV dC dI g a (lFr g a Si Li sz) s Si S L H locs → ∀ ls : Array Slot, lv_has ls 11 [(0, .ref (g.2.1 0)), (1, .int x1), (2, .ref (a 0)), (3, .ref (a 2)), (4, .ref (a 3)), (5, .ref (a 4)), (6, .ref (a 8)), (7, .int x7), (8, .int x8), (9, .int x9), (10, .int x10)] → pL_sweeps_38 N (pL_sweeps_81 N (pL_sweeps_6 N (pL_sweeps_124 N) n_6)) n_38 x1 x7 x8 x9 x10 S L C D = some (r, Sf, Lf) → W p l e (lRm 8 305 1 6) s m args below meth c H locs C D (MQ below (lQ dC dI g a sz Si Li (qI r) Sf Lf) args s 1 6 (lFr g a Si Li sz)) (F0 m 38 ls []) := by
        intro n_38
        induction n_38 with
        | zero =>
          intro x1 x7 x8 x9 x10 S L C D hCD H locs I ls hl hpf
          rw [pL_sweeps_38] at hpf
          cases hpf
        | succ n_38 ih_38 =>
          have hC_73 : ∀ (t0 : Int32) (x1 : Int32) (x7 : Int32) (x8 : Int32) (x10 : Int32) (S : kS) (L : lS) (C D : Nat) (hCD : C ≤ 1 ∧ D ≤ 6) (H : Heap) (locs : List Loc), lV dC dI g a (lFr g a Si Li sz) s Si S L H locs → ∀ ls : Array Slot, lv_has ls 11 [(0, .ref (g.2.1 0)), (1, .int x1), (2, .ref (a 0)), (3, .ref (a 2)), (4, .ref (a 3)), (5, .ref (a 4)), (6, .ref (a 8)), (7, .int x7), (8, .int x8), (10, .int x10)] → pL_sweeps_73 N (pL_sweeps_38 N (pL_sweeps_81 N (pL_sweeps_6 N (pL_sweeps_124 N) n_6)) n_38) t0 x1 x7 x8 x10 S L C D = some (r, Sf, Lf) → W p l e (lRm 8 305 1 6) s m args below meth c H locs C D (MQ below (lQ dC dI g a sz Si Li (qI r) Sf Lf) args s 1 6 (lFr g a Si Li sz)) (F0 m 73 ls [.int t0]) := by
            intro t0 x1 x7 x8 x10 S L C D hCD H locs I ls hl hpf
            unfold pL_sweeps_73 at hpf
            refine lv_istore (lv' := [(9, .int t0), (0, .ref (g.2.1 0)), (1, .int x1), (2, .ref (a 0)), (3, .ref (a 2)), (4, .ref (a 3)), (5, .ref (a 4)), (6, .ref (a 8)), (7, .int x7), (8, .int x8), (10, .int x10)]) hx hb dL_sweeps_73 hl (by decide) rfl (fun ls hl => ?_)
            refine m_iinc (w := (1 : Int32)) hx hb (fun y101 => [(10, .int y101), (9, .int t0), (0, .ref (g.2.1 0)), (1, .int x1), (2, .ref (a 0)), (3, .ref (a 2)), (4, .ref (a 3)), (5, .ref (a 4)), (6, .ref (a 8)), (7, .int x7), (8, .int x8)]) 75 dL_sweeps_75 hl (k := 10) rfl (by decide) (by decide) (fun _ => rfl) hpf (fun y101 ls hl hpf => ?_)
            refine lv_goto (tgt := 38) hx hb dL_sweeps_78 (by decide) ?_
            exact ih_38 x1 x7 x8 t0 y101 S L C D hCD H locs I ls (lv_sub hl [2, 3, 4, 5, 6, 7, 8, 9, 10, 1, 0] rfl) hpf
          intro x1 x7 x8 x9 x10 S L C D hCD H locs I ls hl hpf
          rw [pL_sweeps_38] at hpf
          refine lv_iload hx hb dL_sweeps_38 (lv_at hl 10 rfl) ?_
          refine lv_iconst (v := (4 : Int32)) hx hb dL_sweeps_40 (by decide) ?_
          refine b_icmp_ge hx hb 81 41 dL_sweeps_41 (by decide) hpf (fun hpf => ?_) (fun hpf => ?_)
          · exact hC_81 x1 x7 x8 x9 S L C D hCD H locs I ls (lv_sub hl [0, 1, 2, 3, 4, 5, 6, 7, 8, 9] rfl) hpf
          refine lv_iload hx hb dL_sweeps_44 (lv_at hl 9 rfl) ?_
          refine b_if_eq hx hb 72 46 dL_sweeps_46 (by decide) hpf (fun hpf => ?_) (fun hpf => ?_)
          · refine lv_iconst (v := (0 : Int32)) hx hb dL_sweeps_72 (by decide) ?_
            exact hC_73 (0 : Int32) x1 x7 x8 x10 S L C D hCD H locs I ls (lv_sub hl [0, 1, 2, 3, 4, 5, 6, 7, 8, 10] rfl) hpf
          refine lv_iload_n hx hb dL_sweeps_49 rfl (lv_at hl 1 rfl) ?_
          refine lv_iload hx hb dL_sweeps_50 (lv_at hl 10 rfl) ?_
          refine lv_iload hx hb dL_sweeps_52 (lv_at hl 8 rfl) ?_
          refine lv_aload_n hx hb dL_sweeps_54 rfl (lv_at hl 2 rfl) ?_
          refine lv_aload_n hx hb dL_sweeps_55 rfl (lv_at hl 3 rfl) ?_
          refine lv_aload hx hb dL_sweeps_56 (lv_at hl 4 rfl) ?_
          refine lv_aload hx hb dL_sweeps_58 (lv_at hl 5 rfl) ?_
          refine lv_aload hx hb dL_sweeps_60 (lv_at hl 6 rfl) ?_
          refine l_cAI (rest := []) (As := [.int x1, .int x10, .int x8, .ref (a 0), .ref (a 2), .ref (a 3), .ref (a 4), .ref (a 8)]) X I fL_gone (c_L_gone l hlt N x1 x10 x8) rfl ⟨Nat.le_of_ble_eq_true rfl, Nat.le_of_ble_eq_true rfl⟩ 62 dL_sweeps_62 rfl hl.1 rfl (Nat.le_of_ble_eq_true rfl) hCD hpf (fun v101 L102 H locs I hpf => ?_)
          refine b_if_eq hx hb 72 65 dL_sweeps_65 (by decide) hpf (fun hpf => ?_) (fun hpf => ?_)
          · refine lv_iconst (v := (0 : Int32)) hx hb dL_sweeps_72 (by decide) ?_
            exact hC_73 (0 : Int32) x1 x7 x8 x10 S L102 C D hCD H locs I ls (lv_sub hl [0, 1, 2, 3, 4, 5, 6, 7, 8, 10] rfl) hpf
          refine lv_iconst (v := (1 : Int32)) hx hb dL_sweeps_68 (by decide) ?_
          refine lv_goto (tgt := 73) hx hb dL_sweeps_69 (by decide) ?_
          exact hC_73 (1 : Int32) x1 x7 x8 x10 S L102 C D hCD H locs I ls (lv_sub hl [0, 1, 2, 3, 4, 5, 6, 7, 8, 10] rfl) hpf
      have hC_33 : ∀ (t0 : Int32) (x1 : Int32) (x7 : Int32) (x8 : Int32) (S : kS) (L : lS) (C D : Nat) (hCD : C ≤ 1 ∧ D ≤ 6) (H : Heap) (locs : List Loc), lV dC dI g a (lFr g a Si Li sz) s Si S L H locs → ∀ ls : Array Slot, lv_has ls 11 [(0, .ref (g.2.1 0)), (1, .int x1), (2, .ref (a 0)), (3, .ref (a 2)), (4, .ref (a 3)), (5, .ref (a 4)), (6, .ref (a 8)), (7, .int x7), (8, .int x8)] → pL_sweeps_33 N (pL_sweeps_6 N (pL_sweeps_124 N) n_6) t0 x1 x7 x8 S L C D = some (r, Sf, Lf) → W p l e (lRm 8 305 1 6) s m args below meth c H locs C D (MQ below (lQ dC dI g a sz Si Li (qI r) Sf Lf) args s 1 6 (lFr g a Si Li sz)) (F0 m 33 ls [.int t0]) := by
        intro t0 x1 x7 x8 S L C D hCD H locs I ls hl hpf
        unfold pL_sweeps_33 at hpf
        refine lv_istore (lv' := [(9, .int t0), (0, .ref (g.2.1 0)), (1, .int x1), (2, .ref (a 0)), (3, .ref (a 2)), (4, .ref (a 3)), (5, .ref (a 4)), (6, .ref (a 8)), (7, .int x7), (8, .int x8)]) hx hb dL_sweeps_33 hl (by decide) rfl (fun ls hl => ?_)
        refine lv_iconst (v := (0 : Int32)) hx hb dL_sweeps_35 (by decide) ?_
        refine lv_istore (lv' := [(10, .int (0 : Int32)), (9, .int t0), (0, .ref (g.2.1 0)), (1, .int x1), (2, .ref (a 0)), (3, .ref (a 2)), (4, .ref (a 3)), (5, .ref (a 4)), (6, .ref (a 8)), (7, .int x7), (8, .int x8)]) hx hb dL_sweeps_36 hl (by decide) rfl (fun ls hl => ?_)
        exact hC_38 N x1 x7 x8 t0 (0 : Int32) S L C D hCD H locs I ls (lv_sub hl [2, 3, 4, 5, 6, 7, 8, 9, 10, 1, 0] rfl) hpf
      intro x1 x7 x8 S L C D hCD H locs I ls hl hpf
      rw [pL_sweeps_6] at hpf
      refine lv_iload hx hb dL_sweeps_6 (lv_at hl 8 rfl) ?_
      refine lv_aload_n hx hb dL_sweeps_8 rfl (lv_at hl 2 rfl) ?_
      refine lv_iconst (v := (0 : Int32)) hx hb dL_sweeps_9 (by decide) ?_
      refine l_iald X I lR_0 10 dL_sweeps_10 hpf (fun hpf => ?_)
      refine b_icmp_ge hx hb 124 11 dL_sweeps_11 (by decide) hpf (fun hpf => ?_) (fun hpf => ?_)
      · exact hC_124 x1 x7 S L C D hCD H locs I ls (lv_sub hl [0, 1, 7] rfl) hpf
      refine lv_aload_n hx hb dL_sweeps_14 rfl (lv_at hl 2 rfl) ?_
      refine lv_bipush (v := (16 : Int32)) hx hb dL_sweeps_15 (by decide) ?_
      refine lv_iload_n hx hb dL_sweeps_17 rfl (lv_at hl 1 rfl) ?_
      refine lv_iadd hx hb dL_sweeps_18 ?_
      refine l_iald X I lR_0 19 dL_sweeps_19 hpf (fun hpf => ?_)
      refine lv_iload hx hb dL_sweeps_20 (lv_at hl 8 rfl) ?_
      refine lv_ishr hx hb dL_sweeps_22 ?_
      refine lv_iconst (v := (1 : Int32)) hx hb dL_sweeps_23 (by decide) ?_
      refine lv_iand hx hb dL_sweeps_24 ?_
      refine b_if_ne hx hb 32 25 dL_sweeps_25 (by decide) hpf (fun hpf => ?_) (fun hpf => ?_)
      · refine lv_iconst (v := (0 : Int32)) hx hb dL_sweeps_32 (by decide) ?_
        exact hC_33 (0 : Int32) x1 x7 x8 S L C D hCD H locs I ls (lv_sub hl [0, 1, 2, 3, 4, 5, 6, 7, 8] rfl) hpf
      refine lv_iconst (v := (1 : Int32)) hx hb dL_sweeps_28 (by decide) ?_
      refine lv_goto (tgt := 33) hx hb dL_sweeps_29 (by decide) ?_
      exact hC_33 (1 : Int32) x1 x7 x8 S L C D hCD H locs I ls (lv_sub hl [0, 1, 2, 3, 4, 5, 6, 7, 8] rfl) hpf
  refine lv_iconst (v := (0 : Int32)) hx hb dL_sweeps_0 (by decide) ?_
  refine lv_istore (lv' := [(7, .int (0 : Int32)), (0, .ref (g.2.1 0)), (1, .int x1), (2, .ref (a 0)), (3, .ref (a 2)), (4, .ref (a 3)), (5, .ref (a 4)), (6, .ref (a 8))]) hx hb dL_sweeps_1 hl (by decide) rfl (fun ls hl => ?_)
  refine lv_iconst (v := (1 : Int32)) hx hb dL_sweeps_3 (by decide) ?_
  refine lv_istore (lv' := [(8, .int (1 : Int32)), (7, .int (0 : Int32)), (0, .ref (g.2.1 0)), (1, .int x1), (2, .ref (a 0)), (3, .ref (a 2)), (4, .ref (a 3)), (5, .ref (a 4)), (6, .ref (a 8))]) hx hb dL_sweeps_4 hl (by decide) rfl (fun ls hl => ?_)
  exact hC_6 N x1 (0 : Int32) (1 : Int32) Si Li 0 0 hCD H locs I ls (lv_sub hl [2, 3, 4, 5, 6, 7, 8, 1, 0] rfl) hpf
