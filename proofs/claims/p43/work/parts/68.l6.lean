-- ===== the law's draws =====
noncomputable def pL_draws_126 (N : Nat) (t0 : Int32) (x1 : Int32) (x2 : Int32) (S : kS) (L : lS) (C : Nat) (D : Nat) : Option (Int32 × kS × lS) :=
    if t0 = (0 : Int32) then (
      zlB 12 72 C D (0 : Int32) S L)
    else (
      if x1 = (6 : Int32) then (
        lbx 2 12 12 72 C D (pX9_has N x2 S) fun v101 S102 C103 D104 =>
        if v101 = (2 : Int32) then (
          lbx 1 6 12 72 C103 D104 (pX9_not N S102) fun v105 S106 C107 D108 =>
          if v105 = (2 : Int32) then (
            lbx 1 6 12 72 C107 D108 (pX9_combine N (0 : Int32) S106) fun v109 S110 C111 D112 =>
            if v109 = (1 : Int32) then (
              zlB 12 72 C111 D112 (1 : Int32) S110 L)
            else (
              zlB 12 72 C111 D112 (0 : Int32) S110 L))
          else (
            zlB 12 72 C107 D108 (0 : Int32) S106 L))
        else (
          zlB 12 72 C103 D104 (0 : Int32) S102 L))
      else (
        zlB 12 72 C D (1 : Int32) S L))
noncomputable def pL_draws_97 (N : Nat) (x1 : Int32) (x2 : Int32) (x4 : Int32) (S : kS) (L : lS) (C : Nat) (D : Nat) : Option (Int32 × kS × lS) :=
    if x1 = (5 : Int32) then (
      lbx 2 12 12 72 C D (pX9_ofClass N x4 S) fun v101 S102 C103 D104 =>
      if v101 = (2 : Int32) then (
        lbx 1 6 12 72 C103 D104 (pX9_combine N (1 : Int32) S102) fun v105 S106 C107 D108 =>
        if v105 = (1 : Int32) then (
          pL_draws_126 N (1 : Int32) x1 x2 S106 L C107 D108)
        else (
          pL_draws_126 N (0 : Int32) x1 x2 S106 L C107 D108))
      else (
        pL_draws_126 N (0 : Int32) x1 x2 S102 L C103 D104))
    else (
      pL_draws_126 N (1 : Int32) x1 x2 S L C D)
noncomputable def pL_draws_71 (N : Nat) (t0 : Int32) (x1 : Int32) (x2 : Int32) (x4 : Int32) (x5 : Int32) (S : kS) (L : lS) (C : Nat) (D : Nat) : Option (Int32 × kS × lS) :=
    if x5 = (0 : Int32) then (
      pL_draws_126 N (0 : Int32) x1 x2 S L C D)
    else (
      if t0 = (1 : Int32) then (
        if x1 = (4 : Int32) then (
          lbx 1 6 12 72 C D (pX9_not N S) fun v101 S102 C103 D104 =>
          if v101 = (1 : Int32) then (
            pL_draws_97 N x1 x2 x4 S102 L C103 D104)
          else (
            pL_draws_126 N (0 : Int32) x1 x2 S102 L C103 D104))
        else (
          pL_draws_97 N x1 x2 x4 S L C D))
      else (
        pL_draws_126 N (0 : Int32) x1 x2 S L C D))
noncomputable def pL_draws_29 (N : Nat) (x1 : Int32) (x2 : Int32) (x3 : Int32) (x4 : Int32) (x5 : Int32) (S : kS) (L : lS) (C : Nat) (D : Nat) : Option (Int32 × kS × lS) :=
    lbx 3 18 12 72 C D (pX9_equal N x2 x3 S) fun v101 S102 C103 D104 =>
    pL_draws_71 N v101 x1 x2 x4 x5 S102 L C103 D104
noncomputable def pL_draws_12 (N : Nat) (t0 : Int32) (x1 : Int32) (x2 : Int32) (x3 : Int32) (x4 : Int32) (S : kS) (L : lS) (C : Nat) (D : Nat) : Option (Int32 × kS × lS) :=
    if x1 = (0 : Int32) then (
      pL_draws_29 N x1 x2 x3 x4 t0 S L C D)
    else (
      if x1 = (4 : Int32) then (
        pL_draws_29 N x1 x2 x3 x4 t0 S L C D)
      else (
        if x1 = (6 : Int32) then (
          pL_draws_29 N x1 x2 x3 x4 t0 S L C D)
        else (
          if x1 = (1 : Int32) then (
            lbx 3 18 12 72 C D (pX9_atLeast N x2 x3 S) fun v109 S110 C111 D112 =>
            pL_draws_71 N v109 x1 x2 x4 t0 S110 L C111 D112)
          else (
            if x1 = (3 : Int32) then (
              lbx 2 12 12 72 C D (pX9_ofClass N x4 S) fun v105 S106 C107 D108 =>
              pL_draws_71 N v105 x1 x2 x4 t0 S106 L C107 D108)
            else (
              lbx 2 12 12 72 C D (pX9_has N x2 S) fun v101 S102 C103 D104 =>
              pL_draws_71 N v101 x1 x2 x4 t0 S102 L C103 D104)))))
noncomputable def pL_draws (N : Nat) (x1 : Int32) (x2 : Int32) (x3 : Int32) (x4 : Int32) (S : kS) (L : lS) : Option (Int32 × kS × lS) :=
    lbm (pX9_wipe N S) fun v101 S102 =>
    if v101 < (0 : Int32) then (
      pL_draws_12 N (0 : Int32) x1 x2 x3 x4 S102 L 0 0)
    else (
      pL_draws_12 N (1 : Int32) x1 x2 x3 x4 S102 L 0 0)
theorem fL_draws : lFnS yL_draws (.code yL_draws cL_draws 7 (some .boolean)) 5 189 := ⟨kT_162, kT_163, kT_161, rfl, by decide +kernel⟩
set_option maxRecDepth 100000 in
set_option maxHeartbeats 4000000 in
theorem c_L_draws (l : Launch) (hlt : l.stackTraces = false) (N : Nat) (x1 : Int32) (x2 : Int32) (x3 : Int32) (x4 : Int32) : lMet l yL_draws (.code yL_draws cL_draws 7 (some .boolean)) 8 302 12 72 (fun ca a => [.ref (ca 0), .int x1, .int x2, .int x3, .int x4]) qI (pL_draws N x1 x2 x3 x4) := by
  refine l_start hlt (by decide +kernel) rfl (fun ca a => [(0, .ref (ca 0)), (1, .int x1), (2, .int x2), (3, .int x3), (4, .int x4)]) (fun _ _ => Nat.le_of_ble_eq_true rfl) (fun _ _ => rfl) ?_
  intro dC dI g a sz Si Li r Sf Lf hpf p e s m args below meth c X hr H locs I ls hl
  have hx := X.1
  have hb := X.2.1
  have hCD : (0 : Nat) ≤ 12 ∧ (0 : Nat) ≤ 72 := ⟨Nat.zero_le _, Nat.zero_le _⟩
  unfold pL_draws at hpf
  have hC_126 : ∀ (t0 : Int32) (x1 : Int32) (x2 : Int32) (S : kS) (L : lS) (C D : Nat) (hCD : C ≤ 12 ∧ D ≤ 72) (H : Heap) (locs : List Loc), lV dC dI g a (lFr g a Si Li sz) s Si S L H locs → ∀ ls : Array Slot, lv_has ls 7 [(0, .ref (g.2.1 0)), (1, .int x1), (2, .int x2)] → pL_draws_126 N t0 x1 x2 S L C D = some (r, Sf, Lf) → W p l e (lRm 8 302 12 72) s m args below meth c H locs C D (MQ below (lQ dC dI g a sz Si Li (qI r) Sf Lf) args s 12 72 (lFr g a Si Li sz)) (F0 m 126 ls [.int t0]) := by
    intro t0 x1 x2 S L C D hCD H locs I ls hl hpf
    unfold pL_draws_126 at hpf
    refine lv_istore (lv' := [(5, .int t0), (0, .ref (g.2.1 0)), (1, .int x1), (2, .int x2)]) hx hb dL_draws_126 hl (by decide) rfl (fun ls hl => ?_)
    refine lv_iload hx hb dL_draws_128 (lv_at hl 0 rfl) ?_
    refine b_if_eq hx hb 169 130 dL_draws_130 (by decide) hpf (fun hpf => ?_) (fun hpf => ?_)
    · refine lv_iconst (v := (0 : Int32)) hx hb dL_draws_169 (by decide) ?_
      exact l_retzB X I hr 170 dL_draws_170 hpf
    refine lv_iload_n hx hb dL_draws_133 rfl (lv_at hl 2 rfl) ?_
    refine lv_bipush (v := (6 : Int32)) hx hb dL_draws_134 (by decide) ?_
    refine b_icmp_ne hx hb 165 136 dL_draws_136 (by decide) hpf (fun hpf => ?_) (fun hpf => ?_)
    · refine lv_iconst (v := (1 : Int32)) hx hb dL_draws_165 (by decide) ?_
      refine lv_goto (tgt := 170) hx hb dL_draws_166 (by decide) ?_
      exact l_retzB X I hr 170 dL_draws_170 hpf
    refine lv_aload_n hx hb dL_draws_139 rfl (lv_at hl 1 rfl) ?_
    refine lv_iload_n hx hb dL_draws_140 rfl (lv_at hl 3 rfl) ?_
    refine l_cX (rest := []) (As := [.int x2]) X I fX_has (c_X9_has l hlt N x2) ⟨Nat.le_of_ble_eq_true rfl, Nat.le_of_ble_eq_true rfl⟩ 141 dL_draws_141 rfl hl.1 ⟨Nat.le_refl _, Nat.le_refl _⟩ rfl (Nat.le_of_ble_eq_true rfl) hpf (fun v101 S102 C103 D104 hCD H locs I hpf => ?_)
    refine lv_iconst (v := (2 : Int32)) hx hb dL_draws_144 (by decide) ?_
    refine b_icmp_ne hx hb 169 145 dL_draws_145 (by decide) hpf (fun hpf => ?_) (fun hpf => ?_)
    · refine lv_iconst (v := (0 : Int32)) hx hb dL_draws_169 (by decide) ?_
      exact l_retzB X I hr 170 dL_draws_170 hpf
    refine lv_aload_n hx hb dL_draws_148 rfl (lv_at hl 1 rfl) ?_
    refine l_cX (rest := []) (As := []) X I fX_not (c_X9_not l hlt N) ⟨Nat.le_of_ble_eq_true rfl, Nat.le_of_ble_eq_true rfl⟩ 149 dL_draws_149 rfl hl.1 ⟨Nat.le_refl _, Nat.le_refl _⟩ rfl (Nat.le_of_ble_eq_true rfl) hpf (fun v105 S106 C107 D108 hCD H locs I hpf => ?_)
    refine lv_iconst (v := (2 : Int32)) hx hb dL_draws_152 (by decide) ?_
    refine b_icmp_ne hx hb 169 153 dL_draws_153 (by decide) hpf (fun hpf => ?_) (fun hpf => ?_)
    · refine lv_iconst (v := (0 : Int32)) hx hb dL_draws_169 (by decide) ?_
      exact l_retzB X I hr 170 dL_draws_170 hpf
    refine lv_aload_n hx hb dL_draws_156 rfl (lv_at hl 1 rfl) ?_
    refine lv_iconst (v := (0 : Int32)) hx hb dL_draws_157 (by decide) ?_
    refine l_cX (rest := []) (As := [.int (0 : Int32)]) X I fX_combine (c_X9_combine l hlt N (0 : Int32)) ⟨Nat.le_of_ble_eq_true rfl, Nat.le_of_ble_eq_true rfl⟩ 158 dL_draws_158 rfl hl.1 ⟨Nat.le_refl _, Nat.le_refl _⟩ rfl (Nat.le_of_ble_eq_true rfl) hpf (fun v109 S110 C111 D112 hCD H locs I hpf => ?_)
    refine lv_iconst (v := (1 : Int32)) hx hb dL_draws_161 (by decide) ?_
    refine b_icmp_ne hx hb 169 162 dL_draws_162 (by decide) hpf (fun hpf => ?_) (fun hpf => ?_)
    · refine lv_iconst (v := (0 : Int32)) hx hb dL_draws_169 (by decide) ?_
      exact l_retzB X I hr 170 dL_draws_170 hpf
    refine lv_iconst (v := (1 : Int32)) hx hb dL_draws_165 (by decide) ?_
    refine lv_goto (tgt := 170) hx hb dL_draws_166 (by decide) ?_
    exact l_retzB X I hr 170 dL_draws_170 hpf
  have hC_97 : ∀ (x1 : Int32) (x2 : Int32) (x4 : Int32) (S : kS) (L : lS) (C D : Nat) (hCD : C ≤ 12 ∧ D ≤ 72) (H : Heap) (locs : List Loc), lV dC dI g a (lFr g a Si Li sz) s Si S L H locs → ∀ ls : Array Slot, lv_has ls 7 [(0, .ref (g.2.1 0)), (1, .int x1), (2, .int x2), (4, .int x4)] → pL_draws_97 N x1 x2 x4 S L C D = some (r, Sf, Lf) → W p l e (lRm 8 302 12 72) s m args below meth c H locs C D (MQ below (lQ dC dI g a sz Si Li (qI r) Sf Lf) args s 12 72 (lFr g a Si Li sz)) (F0 m 97 ls []) := by
    intro x1 x2 x4 S L C D hCD H locs I ls hl hpf
    unfold pL_draws_97 at hpf
    refine lv_iload_n hx hb dL_draws_97 rfl (lv_at hl 1 rfl) ?_
    refine lv_iconst (v := (5 : Int32)) hx hb dL_draws_98 (by decide) ?_
    refine b_icmp_ne hx hb 121 99 dL_draws_99 (by decide) hpf (fun hpf => ?_) (fun hpf => ?_)
    · refine lv_iconst (v := (1 : Int32)) hx hb dL_draws_121 (by decide) ?_
      refine lv_goto (tgt := 126) hx hb dL_draws_122 (by decide) ?_
      exact hC_126 (1 : Int32) x1 x2 S L C D hCD H locs I ls (lv_sub hl [0, 1, 2] rfl) hpf
    refine lv_aload_n hx hb dL_draws_102 rfl (lv_at hl 0 rfl) ?_
    refine lv_iload hx hb dL_draws_103 (lv_at hl 3 rfl) ?_
    refine l_cX (rest := []) (As := [.int x4]) X I fX_ofClass (c_X9_ofClass l hlt N x4) ⟨Nat.le_of_ble_eq_true rfl, Nat.le_of_ble_eq_true rfl⟩ 105 dL_draws_105 rfl hl.1 ⟨Nat.le_refl _, Nat.le_refl _⟩ rfl (Nat.le_of_ble_eq_true rfl) hpf (fun v101 S102 C103 D104 hCD H locs I hpf => ?_)
    refine lv_iconst (v := (2 : Int32)) hx hb dL_draws_108 (by decide) ?_
    refine b_icmp_ne hx hb 125 109 dL_draws_109 (by decide) hpf (fun hpf => ?_) (fun hpf => ?_)
    · refine lv_iconst (v := (0 : Int32)) hx hb dL_draws_125 (by decide) ?_
      exact hC_126 (0 : Int32) x1 x2 S102 L C103 D104 hCD H locs I ls (lv_sub hl [0, 1, 2] rfl) hpf
    refine lv_aload_n hx hb dL_draws_112 rfl (lv_at hl 0 rfl) ?_
    refine lv_iconst (v := (1 : Int32)) hx hb dL_draws_113 (by decide) ?_
    refine l_cX (rest := []) (As := [.int (1 : Int32)]) X I fX_combine (c_X9_combine l hlt N (1 : Int32)) ⟨Nat.le_of_ble_eq_true rfl, Nat.le_of_ble_eq_true rfl⟩ 114 dL_draws_114 rfl hl.1 ⟨Nat.le_refl _, Nat.le_refl _⟩ rfl (Nat.le_of_ble_eq_true rfl) hpf (fun v105 S106 C107 D108 hCD H locs I hpf => ?_)
    refine lv_iconst (v := (1 : Int32)) hx hb dL_draws_117 (by decide) ?_
    refine b_icmp_ne hx hb 125 118 dL_draws_118 (by decide) hpf (fun hpf => ?_) (fun hpf => ?_)
    · refine lv_iconst (v := (0 : Int32)) hx hb dL_draws_125 (by decide) ?_
      exact hC_126 (0 : Int32) x1 x2 S106 L C107 D108 hCD H locs I ls (lv_sub hl [0, 1, 2] rfl) hpf
    refine lv_iconst (v := (1 : Int32)) hx hb dL_draws_121 (by decide) ?_
    refine lv_goto (tgt := 126) hx hb dL_draws_122 (by decide) ?_
    exact hC_126 (1 : Int32) x1 x2 S106 L C107 D108 hCD H locs I ls (lv_sub hl [0, 1, 2] rfl) hpf
  have hC_71 : ∀ (t0 : Int32) (x1 : Int32) (x2 : Int32) (x4 : Int32) (x5 : Int32) (S : kS) (L : lS) (C D : Nat) (hCD : C ≤ 12 ∧ D ≤ 72) (H : Heap) (locs : List Loc), lV dC dI g a (lFr g a Si Li sz) s Si S L H locs → ∀ ls : Array Slot, lv_has ls 7 [(0, .ref (g.2.1 0)), (1, .int x1), (2, .int x2), (4, .int x4), (5, .int x5)] → pL_draws_71 N t0 x1 x2 x4 x5 S L C D = some (r, Sf, Lf) → W p l e (lRm 8 302 12 72) s m args below meth c H locs C D (MQ below (lQ dC dI g a sz Si Li (qI r) Sf Lf) args s 12 72 (lFr g a Si Li sz)) (F0 m 71 ls [.int t0]) := by
    intro t0 x1 x2 x4 x5 S L C D hCD H locs I ls hl hpf
    unfold pL_draws_71 at hpf
    refine lv_istore (lv' := [(6, .int t0), (0, .ref (g.2.1 0)), (1, .int x1), (2, .int x2), (4, .int x4), (5, .int x5)]) hx hb dL_draws_71 hl (by decide) rfl (fun ls hl => ?_)
    refine lv_iload hx hb dL_draws_73 (lv_at hl 5 rfl) ?_
    refine b_if_eq hx hb 125 75 dL_draws_75 (by decide) hpf (fun hpf => ?_) (fun hpf => ?_)
    · refine lv_iconst (v := (0 : Int32)) hx hb dL_draws_125 (by decide) ?_
      exact hC_126 (0 : Int32) x1 x2 S L C D hCD H locs I ls (lv_sub hl [1, 2, 3] rfl) hpf
    refine lv_iload hx hb dL_draws_78 (lv_at hl 0 rfl) ?_
    refine lv_iconst (v := (1 : Int32)) hx hb dL_draws_80 (by decide) ?_
    refine b_icmp_ne hx hb 125 81 dL_draws_81 (by decide) hpf (fun hpf => ?_) (fun hpf => ?_)
    · refine lv_iconst (v := (0 : Int32)) hx hb dL_draws_125 (by decide) ?_
      exact hC_126 (0 : Int32) x1 x2 S L C D hCD H locs I ls (lv_sub hl [1, 2, 3] rfl) hpf
    refine lv_iload_n hx hb dL_draws_84 rfl (lv_at hl 2 rfl) ?_
    refine lv_iconst (v := (4 : Int32)) hx hb dL_draws_85 (by decide) ?_
    refine b_icmp_ne hx hb 97 86 dL_draws_86 (by decide) hpf (fun hpf => ?_) (fun hpf => ?_)
    · exact hC_97 x1 x2 x4 S L C D hCD H locs I ls (lv_sub hl [1, 2, 3, 4] rfl) hpf
    refine lv_aload_n hx hb dL_draws_89 rfl (lv_at hl 1 rfl) ?_
    refine l_cX (rest := []) (As := []) X I fX_not (c_X9_not l hlt N) ⟨Nat.le_of_ble_eq_true rfl, Nat.le_of_ble_eq_true rfl⟩ 90 dL_draws_90 rfl hl.1 ⟨Nat.le_refl _, Nat.le_refl _⟩ rfl (Nat.le_of_ble_eq_true rfl) hpf (fun v101 S102 C103 D104 hCD H locs I hpf => ?_)
    refine lv_iconst (v := (1 : Int32)) hx hb dL_draws_93 (by decide) ?_
    refine b_icmp_ne hx hb 125 94 dL_draws_94 (by decide) hpf (fun hpf => ?_) (fun hpf => ?_)
    · refine lv_iconst (v := (0 : Int32)) hx hb dL_draws_125 (by decide) ?_
      exact hC_126 (0 : Int32) x1 x2 S102 L C103 D104 hCD H locs I ls (lv_sub hl [1, 2, 3] rfl) hpf
    exact hC_97 x1 x2 x4 S102 L C103 D104 hCD H locs I ls (lv_sub hl [1, 2, 3, 4] rfl) hpf
  have hC_29 : ∀ (x1 : Int32) (x2 : Int32) (x3 : Int32) (x4 : Int32) (x5 : Int32) (S : kS) (L : lS) (C D : Nat) (hCD : C ≤ 12 ∧ D ≤ 72) (H : Heap) (locs : List Loc), lV dC dI g a (lFr g a Si Li sz) s Si S L H locs → ∀ ls : Array Slot, lv_has ls 7 [(0, .ref (g.2.1 0)), (1, .int x1), (2, .int x2), (3, .int x3), (4, .int x4), (5, .int x5)] → pL_draws_29 N x1 x2 x3 x4 x5 S L C D = some (r, Sf, Lf) → W p l e (lRm 8 302 12 72) s m args below meth c H locs C D (MQ below (lQ dC dI g a sz Si Li (qI r) Sf Lf) args s 12 72 (lFr g a Si Li sz)) (F0 m 29 ls []) := by
    intro x1 x2 x3 x4 x5 S L C D hCD H locs I ls hl hpf
    unfold pL_draws_29 at hpf
    refine lv_aload_n hx hb dL_draws_29 rfl (lv_at hl 0 rfl) ?_
    refine lv_iload_n hx hb dL_draws_30 rfl (lv_at hl 2 rfl) ?_
    refine lv_iload_n hx hb dL_draws_31 rfl (lv_at hl 3 rfl) ?_
    refine l_cX (rest := []) (As := [.int x2, .int x3]) X I fX_equal (c_X9_equal l hlt N x2 x3) ⟨Nat.le_of_ble_eq_true rfl, Nat.le_of_ble_eq_true rfl⟩ 32 dL_draws_32 rfl hl.1 ⟨Nat.le_refl _, Nat.le_refl _⟩ rfl (Nat.le_of_ble_eq_true rfl) hpf (fun v101 S102 C103 D104 hCD H locs I hpf => ?_)
    refine lv_goto (tgt := 71) hx hb dL_draws_35 (by decide) ?_
    exact hC_71 v101 x1 x2 x4 x5 S102 L C103 D104 hCD H locs I ls (lv_sub hl [0, 1, 2, 4, 5] rfl) hpf
  have hC_12 : ∀ (t0 : Int32) (x1 : Int32) (x2 : Int32) (x3 : Int32) (x4 : Int32) (S : kS) (L : lS) (C D : Nat) (hCD : C ≤ 12 ∧ D ≤ 72) (H : Heap) (locs : List Loc), lV dC dI g a (lFr g a Si Li sz) s Si S L H locs → ∀ ls : Array Slot, lv_has ls 7 [(0, .ref (g.2.1 0)), (1, .int x1), (2, .int x2), (3, .int x3), (4, .int x4)] → pL_draws_12 N t0 x1 x2 x3 x4 S L C D = some (r, Sf, Lf) → W p l e (lRm 8 302 12 72) s m args below meth c H locs C D (MQ below (lQ dC dI g a sz Si Li (qI r) Sf Lf) args s 12 72 (lFr g a Si Li sz)) (F0 m 12 ls [.int t0]) := by
    intro t0 x1 x2 x3 x4 S L C D hCD H locs I ls hl hpf
    unfold pL_draws_12 at hpf
    refine lv_istore (lv' := [(5, .int t0), (0, .ref (g.2.1 0)), (1, .int x1), (2, .int x2), (3, .int x3), (4, .int x4)]) hx hb dL_draws_12 hl (by decide) rfl (fun ls hl => ?_)
    refine lv_iload_n hx hb dL_draws_14 rfl (lv_at hl 2 rfl) ?_
    refine b_if_eq hx hb 29 15 dL_draws_15 (by decide) hpf (fun hpf => ?_) (fun hpf => ?_)
    · exact hC_29 x1 x2 x3 x4 t0 S L C D hCD H locs I ls (lv_sub hl [1, 2, 3, 4, 5, 0] rfl) hpf
    refine lv_iload_n hx hb dL_draws_18 rfl (lv_at hl 2 rfl) ?_
    refine lv_iconst (v := (4 : Int32)) hx hb dL_draws_19 (by decide) ?_
    refine b_icmp_eq hx hb 29 20 dL_draws_20 (by decide) hpf (fun hpf => ?_) (fun hpf => ?_)
    · exact hC_29 x1 x2 x3 x4 t0 S L C D hCD H locs I ls (lv_sub hl [1, 2, 3, 4, 5, 0] rfl) hpf
    refine lv_iload_n hx hb dL_draws_23 rfl (lv_at hl 2 rfl) ?_
    refine lv_bipush (v := (6 : Int32)) hx hb dL_draws_24 (by decide) ?_
    refine b_icmp_ne hx hb 38 26 dL_draws_26 (by decide) hpf (fun hpf => ?_) (fun hpf => ?_)
    · refine lv_iload_n hx hb dL_draws_38 rfl (lv_at hl 2 rfl) ?_
      refine lv_iconst (v := (1 : Int32)) hx hb dL_draws_39 (by decide) ?_
      refine b_icmp_ne hx hb 52 40 dL_draws_40 (by decide) hpf (fun hpf => ?_) (fun hpf => ?_)
      · refine lv_iload_n hx hb dL_draws_52 rfl (lv_at hl 2 rfl) ?_
        refine lv_iconst (v := (3 : Int32)) hx hb dL_draws_53 (by decide) ?_
        refine b_icmp_ne hx hb 66 54 dL_draws_54 (by decide) hpf (fun hpf => ?_) (fun hpf => ?_)
        · refine lv_aload_n hx hb dL_draws_66 rfl (lv_at hl 1 rfl) ?_
          refine lv_iload_n hx hb dL_draws_67 rfl (lv_at hl 3 rfl) ?_
          refine l_cX (rest := []) (As := [.int x2]) X I fX_has (c_X9_has l hlt N x2) ⟨Nat.le_of_ble_eq_true rfl, Nat.le_of_ble_eq_true rfl⟩ 68 dL_draws_68 rfl hl.1 ⟨Nat.le_refl _, Nat.le_refl _⟩ rfl (Nat.le_of_ble_eq_true rfl) hpf (fun v101 S102 C103 D104 hCD H locs I hpf => ?_)
          exact hC_71 v101 x1 x2 x4 t0 S102 L C103 D104 hCD H locs I ls (lv_sub hl [1, 2, 3, 5, 0] rfl) hpf
        refine lv_aload_n hx hb dL_draws_57 rfl (lv_at hl 1 rfl) ?_
        refine lv_iload hx hb dL_draws_58 (lv_at hl 5 rfl) ?_
        refine l_cX (rest := []) (As := [.int x4]) X I fX_ofClass (c_X9_ofClass l hlt N x4) ⟨Nat.le_of_ble_eq_true rfl, Nat.le_of_ble_eq_true rfl⟩ 60 dL_draws_60 rfl hl.1 ⟨Nat.le_refl _, Nat.le_refl _⟩ rfl (Nat.le_of_ble_eq_true rfl) hpf (fun v105 S106 C107 D108 hCD H locs I hpf => ?_)
        refine lv_goto (tgt := 71) hx hb dL_draws_63 (by decide) ?_
        exact hC_71 v105 x1 x2 x4 t0 S106 L C107 D108 hCD H locs I ls (lv_sub hl [1, 2, 3, 5, 0] rfl) hpf
      refine lv_aload_n hx hb dL_draws_43 rfl (lv_at hl 1 rfl) ?_
      refine lv_iload_n hx hb dL_draws_44 rfl (lv_at hl 3 rfl) ?_
      refine lv_iload_n hx hb dL_draws_45 rfl (lv_at hl 4 rfl) ?_
      refine l_cX (rest := []) (As := [.int x2, .int x3]) X I fX_atLeast (c_X9_atLeast l hlt N x2 x3) ⟨Nat.le_of_ble_eq_true rfl, Nat.le_of_ble_eq_true rfl⟩ 46 dL_draws_46 rfl hl.1 ⟨Nat.le_refl _, Nat.le_refl _⟩ rfl (Nat.le_of_ble_eq_true rfl) hpf (fun v109 S110 C111 D112 hCD H locs I hpf => ?_)
      refine lv_goto (tgt := 71) hx hb dL_draws_49 (by decide) ?_
      exact hC_71 v109 x1 x2 x4 t0 S110 L C111 D112 hCD H locs I ls (lv_sub hl [1, 2, 3, 5, 0] rfl) hpf
    exact hC_29 x1 x2 x3 x4 t0 S L C D hCD H locs I ls (lv_sub hl [1, 2, 3, 4, 5, 0] rfl) hpf
  refine lv_aload_n hx hb dL_draws_0 rfl (lv_at hl 0 rfl) ?_
  refine l_cXm (rest := []) (As := []) X I fX_wipe (c_X9_wipe l N) ⟨Nat.le_of_ble_eq_true rfl, Nat.le_of_ble_eq_true rfl⟩ 1 dL_draws_1 rfl hl.1 hCD rfl (Nat.le_of_ble_eq_true rfl) hpf (fun v101 S102 H locs I hpf => ?_)
  refine b_if_lt hx hb 11 4 dL_draws_4 (by decide) hpf (fun hpf => ?_) (fun hpf => ?_)
  · refine lv_iconst (v := (0 : Int32)) hx hb dL_draws_11 (by decide) ?_
    exact hC_12 (0 : Int32) x1 x2 x3 x4 S102 Li 0 0 hCD H locs I ls (lv_sub hl [0, 1, 2, 3, 4] rfl) hpf
  refine lv_iconst (v := (1 : Int32)) hx hb dL_draws_7 (by decide) ?_
  refine lv_goto (tgt := 12) hx hb dL_draws_8 (by decide) ?_
  exact hC_12 (1 : Int32) x1 x2 x3 x4 S102 Li 0 0 hCD H locs I ls (lv_sub hl [0, 1, 2, 3, 4] rfl) hpf
-- ===== the law's searches =====
noncomputable def pL_searches_413 (N : Nat) (x19 : Int32) (x20 : Int32) (x21 : Int32) (x22 : Int32) (S : kS) (L : lS) (C : Nat) (D : Nat) : Option (Int32 × kS × lS) :=
    if x22 = (0 : Int32) then (
      zlB 180 6700 C D (0 : Int32) S L)
    else (
      if x21 = x19 then (
        if x20 = x19 then (
          lbb 11 435 180 6700 C D (pL_calls N (13 : Int32) x19 (0 : Int32) (0 : Int32) (0 : Int32) S L) fun v101 S102 L103 C104 D105 =>
          if v101 = (-9 : Int32) then (
            zlB 180 6700 C104 D105 (1 : Int32) S102 L103)
          else (
            zlB 180 6700 C104 D105 (0 : Int32) S102 L103))
        else (
          zlB 180 6700 C D (0 : Int32) S L))
      else (
        zlB 180 6700 C D (0 : Int32) S L))
noncomputable def pL_searches_407 (N : Nat) (k_198 : Int32 → Int32 → Int32 → Int32 → Int32 → Int32 → Int32 → Int32 → Int32 → Int32 → Int32 → Int32 → kS → lS → Nat → Nat → Option (Int32 × kS × lS)) (x1 : Int32) (x13 : Int32) (x14 : Int32) (x15 : Int32) (x16 : Int32) (x17 : Int32) (x18 : Int32) (x19 : Int32) (x20 : Int32) (x21 : Int32) (x22 : Int32) (x23 : Int32) (S : kS) (L : lS) (C : Nat) (D : Nat) : Option (Int32 × kS × lS) :=
    nm (x23 + (1 : Int32)) fun y101 =>
    k_198 x1 x13 x14 x15 x16 x17 x18 x19 x20 x21 x22 y101 S L C D
noncomputable def pL_searches_402 (N : Nat) (k_198 : Int32 → Int32 → Int32 → Int32 → Int32 → Int32 → Int32 → Int32 → Int32 → Int32 → Int32 → Int32 → kS → lS → Nat → Nat → Option (Int32 × kS × lS)) (t0 : Int32) (x1 : Int32) (x13 : Int32) (x14 : Int32) (x15 : Int32) (x16 : Int32) (x17 : Int32) (x18 : Int32) (x19 : Int32) (x20 : Int32) (x21 : Int32) (x23 : Int32) (S : kS) (L : lS) (C : Nat) (D : Nat) : Option (Int32 × kS × lS) :=
    nm (x19 + (1 : Int32)) fun y101 =>
    pL_searches_407 N k_198 x1 x13 x14 x15 x16 x17 x18 y101 x20 x21 t0 x23 S L C D
noncomputable def pL_searches_303 (N : Nat) (k_198 : Int32 → Int32 → Int32 → Int32 → Int32 → Int32 → Int32 → Int32 → Int32 → Int32 → Int32 → Int32 → kS → lS → Nat → Nat → Option (Int32 × kS × lS)) (t0 : Int32) (x1 : Int32) (x13 : Int32) (x14 : Int32) (x15 : Int32) (x16 : Int32) (x17 : Int32) (x18 : Int32) (x19 : Int32) (x20 : Int32) (x21 : Int32) (x22 : Int32) (x23 : Int32) (S : kS) (L : lS) (C : Nat) (D : Nat) : Option (Int32 × kS × lS) :=
    gd ((3 : Int32) * x23) 36 <|
    if (aI L 9 ((3 : Int32) * x23).toNatClampNeg) = (1 : Int32) then (
      if t0 = (0 : Int32) then (
        pL_searches_407 N k_198 x1 x13 x14 x15 x16 x17 x18 x19 x20 x21 x22 x23 S L C D)
      else (
        lba (pL_fits N x13 x14 x15 x16 x23 L) fun v101 L102 =>
        if v101 = (0 : Int32) then (
          pL_searches_407 N k_198 x1 x13 x14 x15 x16 x17 x18 x19 x20 x21 x22 x23 S L102 C D)
        else (
          gd ((4 : Int32) + x1) 20 <|
          lba (pL_may N x1 (aI L102 0 ((4 : Int32) + x1).toNatClampNeg) x23 (0 : Int32) L102) fun v103 L104 =>
          if v103 = (0 : Int32) then (
            pL_searches_407 N k_198 x1 x13 x14 x15 x16 x17 x18 x19 x20 x21 x22 x23 S L104 C D)
          else (
            lbb 11 435 180 6700 C D (pL_calls N (13 : Int32) x19 (0 : Int32) (0 : Int32) (0 : Int32) S L104) fun v105 S106 L107 C108 D109 =>
            if v105 = (((100 : Int32) * x1) + x23) then (
              pL_searches_402 N k_198 (1 : Int32) x1 x13 x14 x15 x16 x17 x18 x19 x20 x21 x23 S106 L107 C108 D109)
            else (
              pL_searches_402 N k_198 (0 : Int32) x1 x13 x14 x15 x16 x17 x18 x19 x20 x21 x23 S106 L107 C108 D109)))))
    else (
      pL_searches_407 N k_198 x1 x13 x14 x15 x16 x17 x18 x19 x20 x21 x22 x23 S L C D)
noncomputable def pL_searches_245 (N : Nat) (k_198 : Int32 → Int32 → Int32 → Int32 → Int32 → Int32 → Int32 → Int32 → Int32 → Int32 → Int32 → Int32 → kS → lS → Nat → Nat → Option (Int32 × kS × lS)) (x1 : Int32) (x13 : Int32) (x14 : Int32) (x15 : Int32) (x16 : Int32) (x17 : Int32) (x18 : Int32) (x19 : Int32) (x20 : Int32) (x21 : Int32) (x22 : Int32) (x23 : Int32) (x24 : Int32) (S : kS) (L : lS) (C : Nat) (D : Nat) : Option (Int32 × kS × lS) :=
    if x18 = (0 : Int32) then (
      if x23 = x17 then (
        pL_searches_303 N k_198 (1 : Int32) x1 x13 x14 x15 x16 x17 x18 x19 x20 x21 x22 x23 S L C D)
      else (
        pL_searches_303 N k_198 (0 : Int32) x1 x13 x14 x15 x16 x17 x18 x19 x20 x21 x22 x23 S L C D))
    else (
      if x18 = (1 : Int32) then (
        lba (pL_place N x23 L) fun v101 L102 =>
        if v101 = x17 then (
          pL_searches_303 N k_198 (1 : Int32) x1 x13 x14 x15 x16 x17 x18 x19 x20 x21 x22 x23 S L102 C D)
        else (
          pL_searches_303 N k_198 (0 : Int32) x1 x13 x14 x15 x16 x17 x18 x19 x20 x21 x22 x23 S L102 C D))
      else (
        if x24 = x17 then (
          pL_searches_303 N k_198 (1 : Int32) x1 x13 x14 x15 x16 x17 x18 x19 x20 x21 x22 x23 S L C D)
        else (
          pL_searches_303 N k_198 (0 : Int32) x1 x13 x14 x15 x16 x17 x18 x19 x20 x21 x22 x23 S L C D)))
noncomputable def pL_searches_215 (N : Nat) (k_245 : Int32 → Int32 → Int32 → Int32 → Int32 → Int32 → Int32 → Int32 → Int32 → Int32 → Int32 → Int32 → Int32 → kS → lS → Nat → Nat → Option (Int32 × kS × lS)) : Nat → Int32 → Int32 → Int32 → Int32 → Int32 → Int32 → Int32 → Int32 → Int32 → Int32 → Int32 → Int32 → Int32 → kS → lS → Nat → Nat → Option (Int32 × kS × lS)
  | 0 => fun _ _ _ _ _ _ _ _ _ _ _ _ _ _ _ _ _ => none
  | n_215 + 1 => fun x1 x13 x14 x15 x16 x17 x18 x19 x20 x21 x22 x23 x24 S L C D =>
    if x18 = (2 : Int32) then (
      if x24 < (0 : Int32) then (
        k_245 x1 x13 x14 x15 x16 x17 x18 x19 x20 x21 x22 x23 x24 S L C D)
      else (
        if x24 = x17 then (
          k_245 x1 x13 x14 x15 x16 x17 x18 x19 x20 x21 x22 x23 x24 S L C D)
        else (
          lba (pL_place N x24 L) fun v101 L102 =>
          pL_searches_215 N k_245 n_215 x1 x13 x14 x15 x16 x17 x18 x19 x20 x21 x22 x23 v101 S L102 C D)))
    else (
      k_245 x1 x13 x14 x15 x16 x17 x18 x19 x20 x21 x22 x23 x24 S L C D)
noncomputable def pL_searches_198 (N : Nat) (k_413 : Int32 → Int32 → Int32 → Int32 → kS → lS → Nat → Nat → Option (Int32 × kS × lS)) : Nat → Int32 → Int32 → Int32 → Int32 → Int32 → Int32 → Int32 → Int32 → Int32 → Int32 → Int32 → Int32 → kS → lS → Nat → Nat → Option (Int32 × kS × lS)
  | 0 => fun _ _ _ _ _ _ _ _ _ _ _ _ _ _ _ _ => none
  | n_198 + 1 => fun x1 x13 x14 x15 x16 x17 x18 x19 x20 x21 x22 x23 S L C D =>
    gd (0 : Int32) 20 <|
    if (aI L 0 (0 : Int32).toNatClampNeg) ≤ x23 then (
      k_413 x19 x20 x21 x22 S L C D)
    else (
      if x22 = (0 : Int32) then (
        k_413 x19 x20 x21 x22 S L C D)
      else (
        pL_searches_215 N (pL_searches_245 N (pL_searches_198 N k_413 n_198)) N x1 x13 x14 x15 x16 x17 x18 x19 x20 x21 x22 x23 x23 S L C D))
noncomputable def pL_searches_81 (N : Nat) (t0 : Int32) (x1 : Int32) (x2 : Int32) (x13 : Int32) (x14 : Int32) (x15 : Int32) (x16 : Int32) (S : kS) (L : lS) (C : Nat) (D : Nat) : Option (Int32 × kS × lS) :=
    lba (pL_low N (x2 >>> ((13 : Int32) &&& 31)) (3 : Int32) L) fun v101 L102 =>
    lbb 12 72 180 6700 C D (pL_draws N x13 x14 x15 x16 S L102) fun v103 S104 L105 C106 D107 =>
    if v103 = (0 : Int32) then (
      zlB 180 6700 C106 D107 (0 : Int32) S104 L105)
    else (
      gd ((3 : Int32) * t0) 36 <|
      if (aI L105 9 ((3 : Int32) * t0).toNatClampNeg) = (1 : Int32) then (
        lbb 11 435 180 6700 C106 D107 (pL_calls N (12 : Int32) x1 t0 v101 (0 : Int32) S104 L105) fun v108 S109 L110 C111 D112 =>
        lbb 11 435 180 6700 C111 D112 (pL_calls N (10 : Int32) x1 t0 v101 (0 : Int32) S109 L110) fun v113 S114 L115 C116 D117 =>
        pL_searches_198 N (pL_searches_413 N) N x1 x13 x14 x15 x16 t0 v101 (0 : Int32) v108 v113 (1 : Int32) (0 : Int32) S114 L115 C116 D117)
      else (
        lbb 11 435 180 6700 C106 D107 (pL_calls N (10 : Int32) x1 t0 v101 (0 : Int32) S104 L105) fun v118 S119 L120 C121 D122 =>
        if v118 = (-9 : Int32) then (
          lbb 11 435 180 6700 C121 D122 (pL_calls N (12 : Int32) x1 t0 v101 (0 : Int32) S119 L120) fun v123 S124 L125 C126 D127 =>
          if v123 = (-9 : Int32) then (
            zlB 180 6700 C126 D127 (1 : Int32) S124 L125)
          else (
            zlB 180 6700 C126 D127 (0 : Int32) S124 L125))
        else (
          zlB 180 6700 C121 D122 (0 : Int32) S119 L120)))
noncomputable def pL_searches_39 (N : Nat) (t0 : Int32) (t1 : Int32) (x1 : Int32) (x2 : Int32) (x13 : Int32) (x14 : Int32) (S : kS) (L : lS) (C : Nat) (D : Nat) : Option (Int32 × kS × lS) :=
    lba (pL_low N t1 t0 L) fun v101 L102 =>
    gd (3 : Int32) 20 <|
    lba (pL_low N (x2 >>> ((7 : Int32) &&& 31)) (aI L102 0 (3 : Int32).toNatClampNeg) L102) fun v103 L104 =>
    lba (pL_low N (x2 >>> ((9 : Int32) &&& 31)) (3 : Int32) L104) fun v105 L106 =>
    if v105 ≤ (0 : Int32) then (
      gd (0 : Int32) 20 <|
      lba (pL_low N (x2 >>> ((11 : Int32) &&& 31)) (aI L106 0 (0 : Int32).toNatClampNeg) L106) fun v107 L108 =>
      pL_searches_81 N v107 x1 x2 x13 x14 v101 v103 S L108 C D)
    else (
      pL_searches_81 N (0 : Int32) x1 x2 x13 x14 v101 v103 S L106 C D)
noncomputable def pL_searches (N : Nat) (x1 : Int32) (x2 : Int32) (S : kS) (L : lS) : Option (Int32 × kS × lS) :=
    lba (pL_low N x2 (7 : Int32) L) fun v101 L102 =>
    gd (2 : Int32) 20 <|
    lba (pL_low N (x2 >>> ((3 : Int32) &&& 31)) (aI L102 0 (2 : Int32).toNatClampNeg) L102) fun v103 L104 =>
    lba (pL_low N (x2 >>> ((10 : Int32) &&& 31)) (2 : Int32) L104) fun v105 L106 =>
    if v105 = (0 : Int32) then (
      pL_searches_39 N (60 : Int32) (x2 >>> ((5 : Int32) &&& 31)) x1 x2 v101 v103 S L106 0 0)
    else (
      pL_searches_39 N (5 : Int32) (x2 >>> ((5 : Int32) &&& 31)) x1 x2 v101 v103 S L106 0 0)
theorem fL_searches : lFnS yL_searches (.code yL_searches cL_searches 26 (some .boolean)) 13 293 := ⟨kT_249, kT_250, kT_166, rfl, by decide +kernel⟩
set_option maxRecDepth 100000 in
set_option maxHeartbeats 4000000 in
theorem c_L_searches (l : Launch) (hlt : l.stackTraces = false) (N : Nat) (x1 : Int32) (x2 : Int32) : lMet l yL_searches (.code yL_searches cL_searches 26 (some .boolean)) 10 373 180 6700 (fun ca a => [.ref (ca 0), .int x1, .int x2, .ref (a 0), .ref (a 1), .ref (a 2), .ref (a 3), .ref (a 4), .ref (a 5), .ref (a 6), .ref (a 8), .ref (a 9), .ref (a 10)]) qI (pL_searches N x1 x2) := by
  refine l_start hlt (by decide +kernel) rfl (fun ca a => [(0, .ref (ca 0)), (1, .int x1), (2, .int x2), (3, .ref (a 0)), (4, .ref (a 1)), (5, .ref (a 2)), (6, .ref (a 3)), (7, .ref (a 4)), (8, .ref (a 5)), (9, .ref (a 6)), (10, .ref (a 8)), (11, .ref (a 9)), (12, .ref (a 10))]) (fun _ _ => Nat.le_of_ble_eq_true rfl) (fun _ _ => rfl) ?_
  intro dC dI g a sz Si Li r Sf Lf hpf p e s m args below meth c X hr H locs I ls hl
  have hx := X.1
  have hb := X.2.1
  have hCD : (0 : Nat) ≤ 180 ∧ (0 : Nat) ≤ 6700 := ⟨Nat.zero_le _, Nat.zero_le _⟩
  unfold pL_searches at hpf
  have hC_413 : ∀ (x19 : Int32) (x20 : Int32) (x21 : Int32) (x22 : Int32) (S : kS) (L : lS) (C D : Nat) (hCD : C ≤ 180 ∧ D ≤ 6700) (H : Heap) (locs : List Loc), lV dC dI g a (lFr g a Si Li sz) s Si S L H locs → ∀ ls : Array Slot, lv_has ls 26 [(0, .ref (g.2.1 0)), (19, .int x19), (20, .int x20), (21, .int x21), (22, .int x22)] → pL_searches_413 N x19 x20 x21 x22 S L C D = some (r, Sf, Lf) → W p l e (lRm 10 373 180 6700) s m args below meth c H locs C D (MQ below (lQ dC dI g a sz Si Li (qI r) Sf Lf) args s 180 6700 (lFr g a Si Li sz)) (F0 m 413 ls []) := by
    intro x19 x20 x21 x22 S L C D hCD H locs I ls hl hpf
    unfold pL_searches_413 at hpf
    refine lv_iload hx hb dL_searches_413 (lv_at hl 4 rfl) ?_
    refine b_if_eq hx hb 452 415 dL_searches_415 (by decide) hpf (fun hpf => ?_) (fun hpf => ?_)
    · refine lv_iconst (v := (0 : Int32)) hx hb dL_searches_452 (by decide) ?_
      exact l_retzB X I hr 453 dL_searches_453 hpf
    refine lv_iload hx hb dL_searches_418 (lv_at hl 3 rfl) ?_
    refine lv_iload hx hb dL_searches_420 (lv_at hl 1 rfl) ?_
    refine b_icmp_ne hx hb 452 422 dL_searches_422 (by decide) hpf (fun hpf => ?_) (fun hpf => ?_)
    · refine lv_iconst (v := (0 : Int32)) hx hb dL_searches_452 (by decide) ?_
      exact l_retzB X I hr 453 dL_searches_453 hpf
    refine lv_iload hx hb dL_searches_425 (lv_at hl 2 rfl) ?_
    refine lv_iload hx hb dL_searches_427 (lv_at hl 1 rfl) ?_
    refine b_icmp_ne hx hb 452 429 dL_searches_429 (by decide) hpf (fun hpf => ?_) (fun hpf => ?_)
    · refine lv_iconst (v := (0 : Int32)) hx hb dL_searches_452 (by decide) ?_
      exact l_retzB X I hr 453 dL_searches_453 hpf
    refine lv_aload_n hx hb dL_searches_432 rfl (lv_at hl 0 rfl) ?_
    refine lv_bipush (v := (13 : Int32)) hx hb dL_searches_433 (by decide) ?_
    refine lv_iload hx hb dL_searches_435 (lv_at hl 1 rfl) ?_
    refine lv_iconst (v := (0 : Int32)) hx hb dL_searches_437 (by decide) ?_
    refine lv_iconst (v := (0 : Int32)) hx hb dL_searches_438 (by decide) ?_
    refine lv_iconst (v := (0 : Int32)) hx hb dL_searches_439 (by decide) ?_
    refine l_cBW (rest := []) (As := [.ref (g.2.1 0), .int (13 : Int32), .int x19, .int (0 : Int32), .int (0 : Int32), .int (0 : Int32)]) X I fL_calls (c_L_calls l hlt N (13 : Int32) x19 (0 : Int32) (0 : Int32) (0 : Int32)) rfl ⟨Nat.le_of_ble_eq_true rfl, Nat.le_of_ble_eq_true rfl⟩ 440 dL_searches_440 rfl hl.1 rfl (Nat.le_of_ble_eq_true rfl) ⟨Nat.le_refl _, Nat.le_refl _⟩ hpf (fun v101 S102 L103 C104 D105 hCD H locs I hpf => ?_)
    refine lv_bipush (v := (-9 : Int32)) hx hb dL_searches_443 (by decide) ?_
    refine b_icmp_ne hx hb 452 445 dL_searches_445 (by decide) hpf (fun hpf => ?_) (fun hpf => ?_)
    · refine lv_iconst (v := (0 : Int32)) hx hb dL_searches_452 (by decide) ?_
      exact l_retzB X I hr 453 dL_searches_453 hpf
    refine lv_iconst (v := (1 : Int32)) hx hb dL_searches_448 (by decide) ?_
    refine lv_goto (tgt := 453) hx hb dL_searches_449 (by decide) ?_
    exact l_retzB X I hr 453 dL_searches_453 hpf
  have hC_198 : ∀ (n_198 : Nat), ∀ (x1 : Int32) (x13 : Int32) (x14 : Int32) (x15 : Int32) (x16 : Int32) (x17 : Int32) (x18 : Int32) (x19 : Int32) (x20 : Int32) (x21 : Int32) (x22 : Int32) (x23 : Int32) (S : kS) (L : lS) (C D : Nat) (hCD : C ≤ 180 ∧ D ≤ 6700) (H : Heap) (locs : List Loc), lV dC dI g a (lFr g a Si Li sz) s Si S L H locs → ∀ ls : Array Slot, lv_has ls 26 [(0, .ref (g.2.1 0)), (1, .int x1), (3, .ref (a 0)), (4, .ref (a 1)), (5, .ref (a 2)), (6, .ref (a 3)), (7, .ref (a 4)), (8, .ref (a 5)), (9, .ref (a 6)), (10, .ref (a 8)), (11, .ref (a 9)), (12, .ref (a 10)), (13, .int x13), (14, .int x14), (15, .int x15), (16, .int x16), (17, .int x17), (18, .int x18), (19, .int x19), (20, .int x20), (21, .int x21), (22, .int x22), (23, .int x23)] → pL_searches_198 N (pL_searches_413 N) n_198 x1 x13 x14 x15 x16 x17 x18 x19 x20 x21 x22 x23 S L C D = some (r, Sf, Lf) → W p l e (lRm 10 373 180 6700) s m args below meth c H locs C D (MQ below (lQ dC dI g a sz Si Li (qI r) Sf Lf) args s 180 6700 (lFr g a Si Li sz)) (F0 m 198 ls []) := by
    intro n_198
    induction n_198 with
    | zero =>
      intro x1 x13 x14 x15 x16 x17 x18 x19 x20 x21 x22 x23 S L C D hCD H locs I ls hl hpf
      rw [pL_searches_198] at hpf
      cases hpf
    | succ n_198 ih_198 =>
      have hC_407 : ∀ (x1 : Int32) (x13 : Int32) (x14 : Int32) (x15 : Int32) (x16 : Int32) (x17 : Int32) (x18 : Int32) (x19 : Int32) (x20 : Int32) (x21 : Int32) (x22 : Int32) (x23 : Int32) (S : kS) (L : lS) (C D : Nat) (hCD : C ≤ 180 ∧ D ≤ 6700) (H : Heap) (locs : List Loc), lV dC dI g a (lFr g a Si Li sz) s Si S L H locs → ∀ ls : Array Slot, lv_has ls 26 [(0, .ref (g.2.1 0)), (1, .int x1), (3, .ref (a 0)), (4, .ref (a 1)), (5, .ref (a 2)), (6, .ref (a 3)), (7, .ref (a 4)), (8, .ref (a 5)), (9, .ref (a 6)), (10, .ref (a 8)), (11, .ref (a 9)), (12, .ref (a 10)), (13, .int x13), (14, .int x14), (15, .int x15), (16, .int x16), (17, .int x17), (18, .int x18), (19, .int x19), (20, .int x20), (21, .int x21), (22, .int x22), (23, .int x23)] → pL_searches_407 N (pL_searches_198 N (pL_searches_413 N) n_198) x1 x13 x14 x15 x16 x17 x18 x19 x20 x21 x22 x23 S L C D = some (r, Sf, Lf) → W p l e (lRm 10 373 180 6700) s m args below meth c H locs C D (MQ below (lQ dC dI g a sz Si Li (qI r) Sf Lf) args s 180 6700 (lFr g a Si Li sz)) (F0 m 407 ls []) := by
        intro x1 x13 x14 x15 x16 x17 x18 x19 x20 x21 x22 x23 S L C D hCD H locs I ls hl hpf
        unfold pL_searches_407 at hpf
        refine m_iinc (w := (1 : Int32)) hx hb (fun y101 => [(23, .int y101), (0, .ref (g.2.1 0)), (1, .int x1), (3, .ref (a 0)), (4, .ref (a 1)), (5, .ref (a 2)), (6, .ref (a 3)), (7, .ref (a 4)), (8, .ref (a 5)), (9, .ref (a 6)), (10, .ref (a 8)), (11, .ref (a 9)), (12, .ref (a 10)), (13, .int x13), (14, .int x14), (15, .int x15), (16, .int x16), (17, .int x17), (18, .int x18), (19, .int x19), (20, .int x20), (21, .int x21), (22, .int x22)]) 407 dL_searches_407 hl (k := 22) rfl (by decide) (by decide) (fun _ => rfl) hpf (fun y101 ls hl hpf => ?_)
        refine lv_goto (tgt := 198) hx hb dL_searches_410 (by decide) ?_
        exact ih_198 x1 x13 x14 x15 x16 x17 x18 x19 x20 x21 x22 y101 S L C D hCD H locs I ls (lv_sub hl [1, 2, 3, 4, 5, 6, 7, 8, 9, 10, 11, 12, 13, 14, 15, 16, 17, 18, 19, 20, 21, 22, 0] rfl) hpf
      have hC_402 : ∀ (t0 : Int32) (x1 : Int32) (x13 : Int32) (x14 : Int32) (x15 : Int32) (x16 : Int32) (x17 : Int32) (x18 : Int32) (x19 : Int32) (x20 : Int32) (x21 : Int32) (x23 : Int32) (S : kS) (L : lS) (C D : Nat) (hCD : C ≤ 180 ∧ D ≤ 6700) (H : Heap) (locs : List Loc), lV dC dI g a (lFr g a Si Li sz) s Si S L H locs → ∀ ls : Array Slot, lv_has ls 26 [(0, .ref (g.2.1 0)), (1, .int x1), (3, .ref (a 0)), (4, .ref (a 1)), (5, .ref (a 2)), (6, .ref (a 3)), (7, .ref (a 4)), (8, .ref (a 5)), (9, .ref (a 6)), (10, .ref (a 8)), (11, .ref (a 9)), (12, .ref (a 10)), (13, .int x13), (14, .int x14), (15, .int x15), (16, .int x16), (17, .int x17), (18, .int x18), (19, .int x19), (20, .int x20), (21, .int x21), (23, .int x23)] → pL_searches_402 N (pL_searches_198 N (pL_searches_413 N) n_198) t0 x1 x13 x14 x15 x16 x17 x18 x19 x20 x21 x23 S L C D = some (r, Sf, Lf) → W p l e (lRm 10 373 180 6700) s m args below meth c H locs C D (MQ below (lQ dC dI g a sz Si Li (qI r) Sf Lf) args s 180 6700 (lFr g a Si Li sz)) (F0 m 402 ls [.int t0]) := by
        intro t0 x1 x13 x14 x15 x16 x17 x18 x19 x20 x21 x23 S L C D hCD H locs I ls hl hpf
        unfold pL_searches_402 at hpf
        refine lv_istore (lv' := [(22, .int t0), (0, .ref (g.2.1 0)), (1, .int x1), (3, .ref (a 0)), (4, .ref (a 1)), (5, .ref (a 2)), (6, .ref (a 3)), (7, .ref (a 4)), (8, .ref (a 5)), (9, .ref (a 6)), (10, .ref (a 8)), (11, .ref (a 9)), (12, .ref (a 10)), (13, .int x13), (14, .int x14), (15, .int x15), (16, .int x16), (17, .int x17), (18, .int x18), (19, .int x19), (20, .int x20), (21, .int x21), (23, .int x23)]) hx hb dL_searches_402 hl (by decide) rfl (fun ls hl => ?_)
        refine m_iinc (w := (1 : Int32)) hx hb (fun y101 => [(19, .int y101), (22, .int t0), (0, .ref (g.2.1 0)), (1, .int x1), (3, .ref (a 0)), (4, .ref (a 1)), (5, .ref (a 2)), (6, .ref (a 3)), (7, .ref (a 4)), (8, .ref (a 5)), (9, .ref (a 6)), (10, .ref (a 8)), (11, .ref (a 9)), (12, .ref (a 10)), (13, .int x13), (14, .int x14), (15, .int x15), (16, .int x16), (17, .int x17), (18, .int x18), (20, .int x20), (21, .int x21), (23, .int x23)]) 404 dL_searches_404 hl (k := 19) rfl (by decide) (by decide) (fun _ => rfl) hpf (fun y101 ls hl hpf => ?_)
        exact hC_407 x1 x13 x14 x15 x16 x17 x18 y101 x20 x21 t0 x23 S L C D hCD H locs I ls (lv_sub hl [2, 3, 4, 5, 6, 7, 8, 9, 10, 11, 12, 13, 14, 15, 16, 17, 18, 19, 0, 20, 21, 1, 22] rfl) hpf
      have hC_303 : ∀ (t0 : Int32) (x1 : Int32) (x13 : Int32) (x14 : Int32) (x15 : Int32) (x16 : Int32) (x17 : Int32) (x18 : Int32) (x19 : Int32) (x20 : Int32) (x21 : Int32) (x22 : Int32) (x23 : Int32) (S : kS) (L : lS) (C D : Nat) (hCD : C ≤ 180 ∧ D ≤ 6700) (H : Heap) (locs : List Loc), lV dC dI g a (lFr g a Si Li sz) s Si S L H locs → ∀ ls : Array Slot, lv_has ls 26 [(0, .ref (g.2.1 0)), (1, .int x1), (3, .ref (a 0)), (4, .ref (a 1)), (5, .ref (a 2)), (6, .ref (a 3)), (7, .ref (a 4)), (8, .ref (a 5)), (9, .ref (a 6)), (10, .ref (a 8)), (11, .ref (a 9)), (12, .ref (a 10)), (13, .int x13), (14, .int x14), (15, .int x15), (16, .int x16), (17, .int x17), (18, .int x18), (19, .int x19), (20, .int x20), (21, .int x21), (22, .int x22), (23, .int x23)] → pL_searches_303 N (pL_searches_198 N (pL_searches_413 N) n_198) t0 x1 x13 x14 x15 x16 x17 x18 x19 x20 x21 x22 x23 S L C D = some (r, Sf, Lf) → W p l e (lRm 10 373 180 6700) s m args below meth c H locs C D (MQ below (lQ dC dI g a sz Si Li (qI r) Sf Lf) args s 180 6700 (lFr g a Si Li sz)) (F0 m 303 ls [.int t0]) := by
        intro t0 x1 x13 x14 x15 x16 x17 x18 x19 x20 x21 x22 x23 S L C D hCD H locs I ls hl hpf
        unfold pL_searches_303 at hpf
        refine lv_istore (lv' := [(25, .int t0), (0, .ref (g.2.1 0)), (1, .int x1), (3, .ref (a 0)), (4, .ref (a 1)), (5, .ref (a 2)), (6, .ref (a 3)), (7, .ref (a 4)), (8, .ref (a 5)), (9, .ref (a 6)), (10, .ref (a 8)), (11, .ref (a 9)), (12, .ref (a 10)), (13, .int x13), (14, .int x14), (15, .int x15), (16, .int x16), (17, .int x17), (18, .int x18), (19, .int x19), (20, .int x20), (21, .int x21), (22, .int x22), (23, .int x23)]) hx hb dL_searches_303 hl (by decide) rfl (fun ls hl => ?_)
        refine lv_aload hx hb dL_searches_305 (lv_at hl 11 rfl) ?_
        refine lv_iconst (v := (3 : Int32)) hx hb dL_searches_307 (by decide) ?_
        refine lv_iload hx hb dL_searches_308 (lv_at hl 23 rfl) ?_
        refine lv_imul hx hb dL_searches_310 ?_
        refine l_iald X I lR_9 311 dL_searches_311 hpf (fun hpf => ?_)
        refine lv_iconst (v := (1 : Int32)) hx hb dL_searches_312 (by decide) ?_
        refine b_icmp_ne hx hb 407 313 dL_searches_313 (by decide) hpf (fun hpf => ?_) (fun hpf => ?_)
        · exact hC_407 x1 x13 x14 x15 x16 x17 x18 x19 x20 x21 x22 x23 S L C D hCD H locs I ls (lv_sub hl [1, 2, 3, 4, 5, 6, 7, 8, 9, 10, 11, 12, 13, 14, 15, 16, 17, 18, 19, 20, 21, 22, 23] rfl) hpf
        refine lv_iload hx hb dL_searches_316 (lv_at hl 0 rfl) ?_
        refine b_if_eq hx hb 407 318 dL_searches_318 (by decide) hpf (fun hpf => ?_) (fun hpf => ?_)
        · exact hC_407 x1 x13 x14 x15 x16 x17 x18 x19 x20 x21 x22 x23 S L C D hCD H locs I ls (lv_sub hl [1, 2, 3, 4, 5, 6, 7, 8, 9, 10, 11, 12, 13, 14, 15, 16, 17, 18, 19, 20, 21, 22, 23] rfl) hpf
        refine lv_iload hx hb dL_searches_321 (lv_at hl 13 rfl) ?_
        refine lv_iload hx hb dL_searches_323 (lv_at hl 14 rfl) ?_
        refine lv_iload hx hb dL_searches_325 (lv_at hl 15 rfl) ?_
        refine lv_iload hx hb dL_searches_327 (lv_at hl 16 rfl) ?_
        refine lv_iload hx hb dL_searches_329 (lv_at hl 23 rfl) ?_
        refine lv_aload_n hx hb dL_searches_331 rfl (lv_at hl 3 rfl) ?_
        refine lv_aload hx hb dL_searches_332 (lv_at hl 4 rfl) ?_
        refine lv_aload hx hb dL_searches_334 (lv_at hl 11 rfl) ?_
        refine lv_aload hx hb dL_searches_336 (lv_at hl 12 rfl) ?_
        refine l_cAI (rest := []) (As := [.int x13, .int x14, .int x15, .int x16, .int x23, .ref (a 0), .ref (a 1), .ref (a 9), .ref (a 10)]) X I fL_fits (c_L_fits l hlt N x13 x14 x15 x16 x23) rfl ⟨Nat.le_of_ble_eq_true rfl, Nat.le_of_ble_eq_true rfl⟩ 338 dL_searches_338 rfl hl.1 rfl (Nat.le_of_ble_eq_true rfl) hCD hpf (fun v101 L102 H locs I hpf => ?_)
        refine b_if_eq hx hb 407 341 dL_searches_341 (by decide) hpf (fun hpf => ?_) (fun hpf => ?_)
        · exact hC_407 x1 x13 x14 x15 x16 x17 x18 x19 x20 x21 x22 x23 S L102 C D hCD H locs I ls (lv_sub hl [1, 2, 3, 4, 5, 6, 7, 8, 9, 10, 11, 12, 13, 14, 15, 16, 17, 18, 19, 20, 21, 22, 23] rfl) hpf
        refine lv_iload_n hx hb dL_searches_344 rfl (lv_at hl 2 rfl) ?_
        refine lv_aload_n hx hb dL_searches_345 rfl (lv_at hl 3 rfl) ?_
        refine lv_iconst (v := (4 : Int32)) hx hb dL_searches_346 (by decide) ?_
        refine lv_iload_n hx hb dL_searches_347 rfl (lv_at hl 2 rfl) ?_
        refine lv_iadd hx hb dL_searches_348 ?_
        refine l_iald X I lR_0 349 dL_searches_349 hpf (fun hpf => ?_)
        refine lv_iload hx hb dL_searches_350 (lv_at hl 23 rfl) ?_
        refine lv_iconst (v := (0 : Int32)) hx hb dL_searches_352 (by decide) ?_
        refine lv_aload_n hx hb dL_searches_353 rfl (lv_at hl 3 rfl) ?_
        refine lv_aload hx hb dL_searches_354 (lv_at hl 5 rfl) ?_
        refine lv_aload hx hb dL_searches_356 (lv_at hl 6 rfl) ?_
        refine lv_aload hx hb dL_searches_358 (lv_at hl 7 rfl) ?_
        refine lv_aload hx hb dL_searches_360 (lv_at hl 8 rfl) ?_
        refine lv_aload hx hb dL_searches_362 (lv_at hl 9 rfl) ?_
        refine lv_aload hx hb dL_searches_364 (lv_at hl 10 rfl) ?_
        refine lv_aload hx hb dL_searches_366 (lv_at hl 11 rfl) ?_
        refine lv_aload hx hb dL_searches_368 (lv_at hl 12 rfl) ?_
        refine l_cAI (rest := []) (As := [.int x1, .int (aI L102 0 ((4 : Int32) + x1).toNatClampNeg), .int x23, .int (0 : Int32), .ref (a 0), .ref (a 2), .ref (a 3), .ref (a 4), .ref (a 5), .ref (a 6), .ref (a 8), .ref (a 9), .ref (a 10)]) X I fL_may (c_L_may l hlt N x1 (aI L102 0 ((4 : Int32) + x1).toNatClampNeg) x23 (0 : Int32)) rfl ⟨Nat.le_of_ble_eq_true rfl, Nat.le_of_ble_eq_true rfl⟩ 370 dL_searches_370 rfl hl.1 rfl (Nat.le_of_ble_eq_true rfl) hCD hpf (fun v103 L104 H locs I hpf => ?_)
        refine b_if_eq hx hb 407 373 dL_searches_373 (by decide) hpf (fun hpf => ?_) (fun hpf => ?_)
        · exact hC_407 x1 x13 x14 x15 x16 x17 x18 x19 x20 x21 x22 x23 S L104 C D hCD H locs I ls (lv_sub hl [1, 2, 3, 4, 5, 6, 7, 8, 9, 10, 11, 12, 13, 14, 15, 16, 17, 18, 19, 20, 21, 22, 23] rfl) hpf
        refine lv_aload_n hx hb dL_searches_376 rfl (lv_at hl 1 rfl) ?_
        refine lv_bipush (v := (13 : Int32)) hx hb dL_searches_377 (by decide) ?_
        refine lv_iload hx hb dL_searches_379 (lv_at hl 19 rfl) ?_
        refine lv_iconst (v := (0 : Int32)) hx hb dL_searches_381 (by decide) ?_
        refine lv_iconst (v := (0 : Int32)) hx hb dL_searches_382 (by decide) ?_
        refine lv_iconst (v := (0 : Int32)) hx hb dL_searches_383 (by decide) ?_
        refine l_cBW (rest := []) (As := [.ref (g.2.1 0), .int (13 : Int32), .int x19, .int (0 : Int32), .int (0 : Int32), .int (0 : Int32)]) X I fL_calls (c_L_calls l hlt N (13 : Int32) x19 (0 : Int32) (0 : Int32) (0 : Int32)) rfl ⟨Nat.le_of_ble_eq_true rfl, Nat.le_of_ble_eq_true rfl⟩ 384 dL_searches_384 rfl hl.1 rfl (Nat.le_of_ble_eq_true rfl) ⟨Nat.le_refl _, Nat.le_refl _⟩ hpf (fun v105 S106 L107 C108 D109 hCD H locs I hpf => ?_)
        refine lv_bipush (v := (100 : Int32)) hx hb dL_searches_387 (by decide) ?_
        refine lv_iload_n hx hb dL_searches_389 rfl (lv_at hl 2 rfl) ?_
        refine lv_imul hx hb dL_searches_390 ?_
        refine lv_iload hx hb dL_searches_391 (lv_at hl 23 rfl) ?_
        refine lv_iadd hx hb dL_searches_393 ?_
        refine b_icmp_ne hx hb 401 394 dL_searches_394 (by decide) hpf (fun hpf => ?_) (fun hpf => ?_)
        · refine lv_iconst (v := (0 : Int32)) hx hb dL_searches_401 (by decide) ?_
          exact hC_402 (0 : Int32) x1 x13 x14 x15 x16 x17 x18 x19 x20 x21 x23 S106 L107 C108 D109 hCD H locs I ls (lv_sub hl [1, 2, 3, 4, 5, 6, 7, 8, 9, 10, 11, 12, 13, 14, 15, 16, 17, 18, 19, 20, 21, 23] rfl) hpf
        refine lv_iconst (v := (1 : Int32)) hx hb dL_searches_397 (by decide) ?_
        refine lv_goto (tgt := 402) hx hb dL_searches_398 (by decide) ?_
        exact hC_402 (1 : Int32) x1 x13 x14 x15 x16 x17 x18 x19 x20 x21 x23 S106 L107 C108 D109 hCD H locs I ls (lv_sub hl [1, 2, 3, 4, 5, 6, 7, 8, 9, 10, 11, 12, 13, 14, 15, 16, 17, 18, 19, 20, 21, 23] rfl) hpf
      have hC_245 : ∀ (x1 : Int32) (x13 : Int32) (x14 : Int32) (x15 : Int32) (x16 : Int32) (x17 : Int32) (x18 : Int32) (x19 : Int32) (x20 : Int32) (x21 : Int32) (x22 : Int32) (x23 : Int32) (x24 : Int32) (S : kS) (L : lS) (C D : Nat) (hCD : C ≤ 180 ∧ D ≤ 6700) (H : Heap) (locs : List Loc), lV dC dI g a (lFr g a Si Li sz) s Si S L H locs → ∀ ls : Array Slot, lv_has ls 26 [(0, .ref (g.2.1 0)), (1, .int x1), (3, .ref (a 0)), (4, .ref (a 1)), (5, .ref (a 2)), (6, .ref (a 3)), (7, .ref (a 4)), (8, .ref (a 5)), (9, .ref (a 6)), (10, .ref (a 8)), (11, .ref (a 9)), (12, .ref (a 10)), (13, .int x13), (14, .int x14), (15, .int x15), (16, .int x16), (17, .int x17), (18, .int x18), (19, .int x19), (20, .int x20), (21, .int x21), (22, .int x22), (23, .int x23), (24, .int x24)] → pL_searches_245 N (pL_searches_198 N (pL_searches_413 N) n_198) x1 x13 x14 x15 x16 x17 x18 x19 x20 x21 x22 x23 x24 S L C D = some (r, Sf, Lf) → W p l e (lRm 10 373 180 6700) s m args below meth c H locs C D (MQ below (lQ dC dI g a sz Si Li (qI r) Sf Lf) args s 180 6700 (lFr g a Si Li sz)) (F0 m 245 ls []) := by
        intro x1 x13 x14 x15 x16 x17 x18 x19 x20 x21 x22 x23 x24 S L C D hCD H locs I ls hl hpf
        unfold pL_searches_245 at hpf
        refine lv_iload hx hb dL_searches_245 (lv_at hl 17 rfl) ?_
        refine b_if_ne hx hb 265 247 dL_searches_247 (by decide) hpf (fun hpf => ?_) (fun hpf => ?_)
        · refine lv_iload hx hb dL_searches_265 (lv_at hl 17 rfl) ?_
          refine lv_iconst (v := (1 : Int32)) hx hb dL_searches_267 (by decide) ?_
          refine b_icmp_ne hx hb 291 268 dL_searches_268 (by decide) hpf (fun hpf => ?_) (fun hpf => ?_)
          · refine lv_iload hx hb dL_searches_291 (lv_at hl 23 rfl) ?_
            refine lv_iload hx hb dL_searches_293 (lv_at hl 16 rfl) ?_
            refine b_icmp_ne hx hb 302 295 dL_searches_295 (by decide) hpf (fun hpf => ?_) (fun hpf => ?_)
            · refine lv_iconst (v := (0 : Int32)) hx hb dL_searches_302 (by decide) ?_
              exact hC_303 (0 : Int32) x1 x13 x14 x15 x16 x17 x18 x19 x20 x21 x22 x23 S L C D hCD H locs I ls (lv_sub hl [0, 1, 2, 3, 4, 5, 6, 7, 8, 9, 10, 11, 12, 13, 14, 15, 16, 17, 18, 19, 20, 21, 22] rfl) hpf
            refine lv_iconst (v := (1 : Int32)) hx hb dL_searches_298 (by decide) ?_
            refine lv_goto (tgt := 303) hx hb dL_searches_299 (by decide) ?_
            exact hC_303 (1 : Int32) x1 x13 x14 x15 x16 x17 x18 x19 x20 x21 x22 x23 S L C D hCD H locs I ls (lv_sub hl [0, 1, 2, 3, 4, 5, 6, 7, 8, 9, 10, 11, 12, 13, 14, 15, 16, 17, 18, 19, 20, 21, 22] rfl) hpf
          refine lv_iload hx hb dL_searches_271 (lv_at hl 22 rfl) ?_
          refine lv_aload hx hb dL_searches_273 (lv_at hl 10 rfl) ?_
          refine l_cAI (rest := []) (As := [.int x23, .ref (a 9)]) X I fL_place (c_L_place l hlt N x23) rfl ⟨Nat.le_of_ble_eq_true rfl, Nat.le_of_ble_eq_true rfl⟩ 275 dL_searches_275 rfl hl.1 rfl (Nat.le_of_ble_eq_true rfl) hCD hpf (fun v101 L102 H locs I hpf => ?_)
          refine lv_iload hx hb dL_searches_278 (lv_at hl 16 rfl) ?_
          refine b_icmp_ne hx hb 287 280 dL_searches_280 (by decide) hpf (fun hpf => ?_) (fun hpf => ?_)
          · refine lv_iconst (v := (0 : Int32)) hx hb dL_searches_287 (by decide) ?_
            refine lv_goto (tgt := 303) hx hb dL_searches_288 (by decide) ?_
            exact hC_303 (0 : Int32) x1 x13 x14 x15 x16 x17 x18 x19 x20 x21 x22 x23 S L102 C D hCD H locs I ls (lv_sub hl [0, 1, 2, 3, 4, 5, 6, 7, 8, 9, 10, 11, 12, 13, 14, 15, 16, 17, 18, 19, 20, 21, 22] rfl) hpf
          refine lv_iconst (v := (1 : Int32)) hx hb dL_searches_283 (by decide) ?_
          refine lv_goto (tgt := 303) hx hb dL_searches_284 (by decide) ?_
          exact hC_303 (1 : Int32) x1 x13 x14 x15 x16 x17 x18 x19 x20 x21 x22 x23 S L102 C D hCD H locs I ls (lv_sub hl [0, 1, 2, 3, 4, 5, 6, 7, 8, 9, 10, 11, 12, 13, 14, 15, 16, 17, 18, 19, 20, 21, 22] rfl) hpf
        refine lv_iload hx hb dL_searches_250 (lv_at hl 22 rfl) ?_
        refine lv_iload hx hb dL_searches_252 (lv_at hl 16 rfl) ?_
        refine b_icmp_ne hx hb 261 254 dL_searches_254 (by decide) hpf (fun hpf => ?_) (fun hpf => ?_)
        · refine lv_iconst (v := (0 : Int32)) hx hb dL_searches_261 (by decide) ?_
          refine lv_goto (tgt := 303) hx hb dL_searches_262 (by decide) ?_
          exact hC_303 (0 : Int32) x1 x13 x14 x15 x16 x17 x18 x19 x20 x21 x22 x23 S L C D hCD H locs I ls (lv_sub hl [0, 1, 2, 3, 4, 5, 6, 7, 8, 9, 10, 11, 12, 13, 14, 15, 16, 17, 18, 19, 20, 21, 22] rfl) hpf
        refine lv_iconst (v := (1 : Int32)) hx hb dL_searches_257 (by decide) ?_
        refine lv_goto (tgt := 303) hx hb dL_searches_258 (by decide) ?_
        exact hC_303 (1 : Int32) x1 x13 x14 x15 x16 x17 x18 x19 x20 x21 x22 x23 S L C D hCD H locs I ls (lv_sub hl [0, 1, 2, 3, 4, 5, 6, 7, 8, 9, 10, 11, 12, 13, 14, 15, 16, 17, 18, 19, 20, 21, 22] rfl) hpf
      have hC_215 : ∀ (n_215 : Nat), ∀ (x1 : Int32) (x13 : Int32) (x14 : Int32) (x15 : Int32) (x16 : Int32) (x17 : Int32) (x18 : Int32) (x19 : Int32) (x20 : Int32) (x21 : Int32) (x22 : Int32) (x23 : Int32) (x24 : Int32) (S : kS) (L : lS) (C D : Nat) (hCD : C ≤ 180 ∧ D ≤ 6700) (H : Heap) (locs : List Loc), lV dC dI g a (lFr g a Si Li sz) s Si S L H locs → ∀ ls : Array Slot, lv_has ls 26 [(0, .ref (g.2.1 0)), (1, .int x1), (3, .ref (a 0)), (4, .ref (a 1)), (5, .ref (a 2)), (6, .ref (a 3)), (7, .ref (a 4)), (8, .ref (a 5)), (9, .ref (a 6)), (10, .ref (a 8)), (11, .ref (a 9)), (12, .ref (a 10)), (13, .int x13), (14, .int x14), (15, .int x15), (16, .int x16), (17, .int x17), (18, .int x18), (19, .int x19), (20, .int x20), (21, .int x21), (22, .int x22), (23, .int x23), (24, .int x24)] → pL_searches_215 N (pL_searches_245 N (pL_searches_198 N (pL_searches_413 N) n_198)) n_215 x1 x13 x14 x15 x16 x17 x18 x19 x20 x21 x22 x23 x24 S L C D = some (r, Sf, Lf) → W p l e (lRm 10 373 180 6700) s m args below meth c H locs C D (MQ below (lQ dC dI g a sz Si Li (qI r) Sf Lf) args s 180 6700 (lFr g a Si Li sz)) (F0 m 215 ls []) := by
        intro n_215
        induction n_215 with
        | zero =>
          intro x1 x13 x14 x15 x16 x17 x18 x19 x20 x21 x22 x23 x24 S L C D hCD H locs I ls hl hpf
          rw [pL_searches_215] at hpf
          cases hpf
        | succ n_215 ih_215 =>
          intro x1 x13 x14 x15 x16 x17 x18 x19 x20 x21 x22 x23 x24 S L C D hCD H locs I ls hl hpf
          rw [pL_searches_215] at hpf
          refine lv_iload hx hb dL_searches_215 (lv_at hl 17 rfl) ?_
          refine lv_iconst (v := (2 : Int32)) hx hb dL_searches_217 (by decide) ?_
          refine b_icmp_ne hx hb 245 218 dL_searches_218 (by decide) hpf (fun hpf => ?_) (fun hpf => ?_)
          · exact hC_245 x1 x13 x14 x15 x16 x17 x18 x19 x20 x21 x22 x23 x24 S L C D hCD H locs I ls (lv_sub hl [0, 1, 2, 3, 4, 5, 6, 7, 8, 9, 10, 11, 12, 13, 14, 15, 16, 17, 18, 19, 20, 21, 22, 23] rfl) hpf
          refine lv_iload hx hb dL_searches_221 (lv_at hl 23 rfl) ?_
          refine b_if_lt hx hb 245 223 dL_searches_223 (by decide) hpf (fun hpf => ?_) (fun hpf => ?_)
          · exact hC_245 x1 x13 x14 x15 x16 x17 x18 x19 x20 x21 x22 x23 x24 S L C D hCD H locs I ls (lv_sub hl [0, 1, 2, 3, 4, 5, 6, 7, 8, 9, 10, 11, 12, 13, 14, 15, 16, 17, 18, 19, 20, 21, 22, 23] rfl) hpf
          refine lv_iload hx hb dL_searches_226 (lv_at hl 23 rfl) ?_
          refine lv_iload hx hb dL_searches_228 (lv_at hl 16 rfl) ?_
          refine b_icmp_eq hx hb 245 230 dL_searches_230 (by decide) hpf (fun hpf => ?_) (fun hpf => ?_)
          · exact hC_245 x1 x13 x14 x15 x16 x17 x18 x19 x20 x21 x22 x23 x24 S L C D hCD H locs I ls (lv_sub hl [0, 1, 2, 3, 4, 5, 6, 7, 8, 9, 10, 11, 12, 13, 14, 15, 16, 17, 18, 19, 20, 21, 22, 23] rfl) hpf
          refine lv_iload hx hb dL_searches_233 (lv_at hl 23 rfl) ?_
          refine lv_aload hx hb dL_searches_235 (lv_at hl 10 rfl) ?_
          refine l_cAI (rest := []) (As := [.int x24, .ref (a 9)]) X I fL_place (c_L_place l hlt N x24) rfl ⟨Nat.le_of_ble_eq_true rfl, Nat.le_of_ble_eq_true rfl⟩ 237 dL_searches_237 rfl hl.1 rfl (Nat.le_of_ble_eq_true rfl) hCD hpf (fun v101 L102 H locs I hpf => ?_)
          refine lv_istore (lv' := [(24, .int v101), (0, .ref (g.2.1 0)), (1, .int x1), (3, .ref (a 0)), (4, .ref (a 1)), (5, .ref (a 2)), (6, .ref (a 3)), (7, .ref (a 4)), (8, .ref (a 5)), (9, .ref (a 6)), (10, .ref (a 8)), (11, .ref (a 9)), (12, .ref (a 10)), (13, .int x13), (14, .int x14), (15, .int x15), (16, .int x16), (17, .int x17), (18, .int x18), (19, .int x19), (20, .int x20), (21, .int x21), (22, .int x22), (23, .int x23)]) hx hb dL_searches_240 hl (by decide) rfl (fun ls hl => ?_)
          refine lv_goto (tgt := 215) hx hb dL_searches_242 (by decide) ?_
          exact ih_215 x1 x13 x14 x15 x16 x17 x18 x19 x20 x21 x22 x23 v101 S L102 C D hCD H locs I ls (lv_sub hl [1, 2, 3, 4, 5, 6, 7, 8, 9, 10, 11, 12, 13, 14, 15, 16, 17, 18, 19, 20, 21, 22, 23, 0] rfl) hpf
      intro x1 x13 x14 x15 x16 x17 x18 x19 x20 x21 x22 x23 S L C D hCD H locs I ls hl hpf
      rw [pL_searches_198] at hpf
      refine lv_iload hx hb dL_searches_198 (lv_at hl 22 rfl) ?_
      refine lv_aload_n hx hb dL_searches_200 rfl (lv_at hl 2 rfl) ?_
      refine lv_iconst (v := (0 : Int32)) hx hb dL_searches_201 (by decide) ?_
      refine l_iald X I lR_0 202 dL_searches_202 hpf (fun hpf => ?_)
      refine b_icmp_ge hx hb 413 203 dL_searches_203 (by decide) hpf (fun hpf => ?_) (fun hpf => ?_)
      · exact hC_413 x19 x20 x21 x22 S L C D hCD H locs I ls (lv_sub hl [0, 18, 19, 20, 21] rfl) hpf
      refine lv_iload hx hb dL_searches_206 (lv_at hl 21 rfl) ?_
      refine b_if_eq hx hb 413 208 dL_searches_208 (by decide) hpf (fun hpf => ?_) (fun hpf => ?_)
      · exact hC_413 x19 x20 x21 x22 S L C D hCD H locs I ls (lv_sub hl [0, 18, 19, 20, 21] rfl) hpf
      refine lv_iload hx hb dL_searches_211 (lv_at hl 22 rfl) ?_
      refine lv_istore (lv' := [(24, .int x23), (0, .ref (g.2.1 0)), (1, .int x1), (3, .ref (a 0)), (4, .ref (a 1)), (5, .ref (a 2)), (6, .ref (a 3)), (7, .ref (a 4)), (8, .ref (a 5)), (9, .ref (a 6)), (10, .ref (a 8)), (11, .ref (a 9)), (12, .ref (a 10)), (13, .int x13), (14, .int x14), (15, .int x15), (16, .int x16), (17, .int x17), (18, .int x18), (19, .int x19), (20, .int x20), (21, .int x21), (22, .int x22), (23, .int x23)]) hx hb dL_searches_213 hl (by decide) rfl (fun ls hl => ?_)
      exact hC_215 N x1 x13 x14 x15 x16 x17 x18 x19 x20 x21 x22 x23 x23 S L C D hCD H locs I ls (lv_sub hl [1, 2, 3, 4, 5, 6, 7, 8, 9, 10, 11, 12, 13, 14, 15, 16, 17, 18, 19, 20, 21, 22, 23, 0] rfl) hpf
  have hC_81 : ∀ (t0 : Int32) (x1 : Int32) (x2 : Int32) (x13 : Int32) (x14 : Int32) (x15 : Int32) (x16 : Int32) (S : kS) (L : lS) (C D : Nat) (hCD : C ≤ 180 ∧ D ≤ 6700) (H : Heap) (locs : List Loc), lV dC dI g a (lFr g a Si Li sz) s Si S L H locs → ∀ ls : Array Slot, lv_has ls 26 [(0, .ref (g.2.1 0)), (1, .int x1), (2, .int x2), (3, .ref (a 0)), (4, .ref (a 1)), (5, .ref (a 2)), (6, .ref (a 3)), (7, .ref (a 4)), (8, .ref (a 5)), (9, .ref (a 6)), (10, .ref (a 8)), (11, .ref (a 9)), (12, .ref (a 10)), (13, .int x13), (14, .int x14), (15, .int x15), (16, .int x16)] → pL_searches_81 N t0 x1 x2 x13 x14 x15 x16 S L C D = some (r, Sf, Lf) → W p l e (lRm 10 373 180 6700) s m args below meth c H locs C D (MQ below (lQ dC dI g a sz Si Li (qI r) Sf Lf) args s 180 6700 (lFr g a Si Li sz)) (F0 m 81 ls [.int t0]) := by
    intro t0 x1 x2 x13 x14 x15 x16 S L C D hCD H locs I ls hl hpf
    unfold pL_searches_81 at hpf
    refine lv_istore (lv' := [(17, .int t0), (0, .ref (g.2.1 0)), (1, .int x1), (2, .int x2), (3, .ref (a 0)), (4, .ref (a 1)), (5, .ref (a 2)), (6, .ref (a 3)), (7, .ref (a 4)), (8, .ref (a 5)), (9, .ref (a 6)), (10, .ref (a 8)), (11, .ref (a 9)), (12, .ref (a 10)), (13, .int x13), (14, .int x14), (15, .int x15), (16, .int x16)]) hx hb dL_searches_81 hl (by decide) rfl (fun ls hl => ?_)
    refine lv_iload_n hx hb dL_searches_83 rfl (lv_at hl 3 rfl) ?_
    refine lv_bipush (v := (13 : Int32)) hx hb dL_searches_84 (by decide) ?_
    refine lv_ishr hx hb dL_searches_86 ?_
    refine lv_iconst (v := (3 : Int32)) hx hb dL_searches_87 (by decide) ?_
    refine l_cAI (rest := []) (As := [.int (x2 >>> ((13 : Int32) &&& 31)), .int (3 : Int32)]) X I fL_low (c_L_low l hlt N (x2 >>> ((13 : Int32) &&& 31)) (3 : Int32)) rfl ⟨Nat.le_of_ble_eq_true rfl, Nat.le_of_ble_eq_true rfl⟩ 88 dL_searches_88 rfl hl.1 rfl (Nat.le_of_ble_eq_true rfl) hCD hpf (fun v101 L102 H locs I hpf => ?_)
    refine lv_istore (lv' := [(18, .int v101), (17, .int t0), (0, .ref (g.2.1 0)), (1, .int x1), (2, .int x2), (3, .ref (a 0)), (4, .ref (a 1)), (5, .ref (a 2)), (6, .ref (a 3)), (7, .ref (a 4)), (8, .ref (a 5)), (9, .ref (a 6)), (10, .ref (a 8)), (11, .ref (a 9)), (12, .ref (a 10)), (13, .int x13), (14, .int x14), (15, .int x15), (16, .int x16)]) hx hb dL_searches_91 hl (by decide) rfl (fun ls hl => ?_)
    refine lv_aload_n hx hb dL_searches_93 rfl (lv_at hl 2 rfl) ?_
    refine lv_iload hx hb dL_searches_94 (lv_at hl 15 rfl) ?_
    refine lv_iload hx hb dL_searches_96 (lv_at hl 16 rfl) ?_
    refine lv_iload hx hb dL_searches_98 (lv_at hl 17 rfl) ?_
    refine lv_iload hx hb dL_searches_100 (lv_at hl 18 rfl) ?_
    refine l_cBI (rest := []) (As := [.ref (g.2.1 0), .int x13, .int x14, .int x15, .int x16]) X I fL_draws (c_L_draws l hlt N x13 x14 x15 x16) rfl ⟨Nat.le_of_ble_eq_true rfl, Nat.le_of_ble_eq_true rfl⟩ 102 dL_searches_102 rfl hl.1 rfl (Nat.le_of_ble_eq_true rfl) ⟨Nat.le_refl _, Nat.le_refl _⟩ hpf (fun v103 S104 L105 C106 D107 hCD H locs I hpf => ?_)
    refine b_if_ne hx hb 110 105 dL_searches_105 (by decide) hpf (fun hpf => ?_) (fun hpf => ?_)
    · refine lv_aload hx hb dL_searches_110 (lv_at hl 13 rfl) ?_
      refine lv_iconst (v := (3 : Int32)) hx hb dL_searches_112 (by decide) ?_
      refine lv_iload hx hb dL_searches_113 (lv_at hl 1 rfl) ?_
      refine lv_imul hx hb dL_searches_115 ?_
      refine l_iald X I lR_9 116 dL_searches_116 hpf (fun hpf => ?_)
      refine lv_iconst (v := (1 : Int32)) hx hb dL_searches_117 (by decide) ?_
      refine b_icmp_eq hx hb 161 118 dL_searches_118 (by decide) hpf (fun hpf => ?_) (fun hpf => ?_)
      · refine lv_iconst (v := (0 : Int32)) hx hb dL_searches_161 (by decide) ?_
        refine lv_istore (lv' := [(19, .int (0 : Int32)), (18, .int v101), (17, .int t0), (0, .ref (g.2.1 0)), (1, .int x1), (2, .int x2), (3, .ref (a 0)), (4, .ref (a 1)), (5, .ref (a 2)), (6, .ref (a 3)), (7, .ref (a 4)), (8, .ref (a 5)), (9, .ref (a 6)), (10, .ref (a 8)), (11, .ref (a 9)), (12, .ref (a 10)), (13, .int x13), (14, .int x14), (15, .int x15), (16, .int x16)]) hx hb dL_searches_162 hl (by decide) rfl (fun ls hl => ?_)
        refine lv_aload_n hx hb dL_searches_164 rfl (lv_at hl 3 rfl) ?_
        refine lv_bipush (v := (12 : Int32)) hx hb dL_searches_165 (by decide) ?_
        refine lv_iload_n hx hb dL_searches_167 rfl (lv_at hl 4 rfl) ?_
        refine lv_iload hx hb dL_searches_168 (lv_at hl 2 rfl) ?_
        refine lv_iload hx hb dL_searches_170 (lv_at hl 1 rfl) ?_
        refine lv_iconst (v := (0 : Int32)) hx hb dL_searches_172 (by decide) ?_
        refine l_cBW (rest := []) (As := [.ref (g.2.1 0), .int (12 : Int32), .int x1, .int t0, .int v101, .int (0 : Int32)]) X I fL_calls (c_L_calls l hlt N (12 : Int32) x1 t0 v101 (0 : Int32)) rfl ⟨Nat.le_of_ble_eq_true rfl, Nat.le_of_ble_eq_true rfl⟩ 173 dL_searches_173 rfl hl.1 rfl (Nat.le_of_ble_eq_true rfl) ⟨Nat.le_refl _, Nat.le_refl _⟩ hpf (fun v108 S109 L110 C111 D112 hCD H locs I hpf => ?_)
        refine lv_istore (lv' := [(20, .int v108), (19, .int (0 : Int32)), (18, .int v101), (17, .int t0), (0, .ref (g.2.1 0)), (1, .int x1), (2, .int x2), (3, .ref (a 0)), (4, .ref (a 1)), (5, .ref (a 2)), (6, .ref (a 3)), (7, .ref (a 4)), (8, .ref (a 5)), (9, .ref (a 6)), (10, .ref (a 8)), (11, .ref (a 9)), (12, .ref (a 10)), (13, .int x13), (14, .int x14), (15, .int x15), (16, .int x16)]) hx hb dL_searches_176 hl (by decide) rfl (fun ls hl => ?_)
        refine lv_aload_n hx hb dL_searches_178 rfl (lv_at hl 4 rfl) ?_
        refine lv_bipush (v := (10 : Int32)) hx hb dL_searches_179 (by decide) ?_
        refine lv_iload_n hx hb dL_searches_181 rfl (lv_at hl 5 rfl) ?_
        refine lv_iload hx hb dL_searches_182 (lv_at hl 3 rfl) ?_
        refine lv_iload hx hb dL_searches_184 (lv_at hl 2 rfl) ?_
        refine lv_iconst (v := (0 : Int32)) hx hb dL_searches_186 (by decide) ?_
        refine l_cBW (rest := []) (As := [.ref (g.2.1 0), .int (10 : Int32), .int x1, .int t0, .int v101, .int (0 : Int32)]) X I fL_calls (c_L_calls l hlt N (10 : Int32) x1 t0 v101 (0 : Int32)) rfl ⟨Nat.le_of_ble_eq_true rfl, Nat.le_of_ble_eq_true rfl⟩ 187 dL_searches_187 rfl hl.1 rfl (Nat.le_of_ble_eq_true rfl) ⟨Nat.le_refl _, Nat.le_refl _⟩ hpf (fun v113 S114 L115 C116 D117 hCD H locs I hpf => ?_)
        refine lv_istore (lv' := [(21, .int v113), (20, .int v108), (19, .int (0 : Int32)), (18, .int v101), (17, .int t0), (0, .ref (g.2.1 0)), (1, .int x1), (2, .int x2), (3, .ref (a 0)), (4, .ref (a 1)), (5, .ref (a 2)), (6, .ref (a 3)), (7, .ref (a 4)), (8, .ref (a 5)), (9, .ref (a 6)), (10, .ref (a 8)), (11, .ref (a 9)), (12, .ref (a 10)), (13, .int x13), (14, .int x14), (15, .int x15), (16, .int x16)]) hx hb dL_searches_190 hl (by decide) rfl (fun ls hl => ?_)
        refine lv_iconst (v := (1 : Int32)) hx hb dL_searches_192 (by decide) ?_
        refine lv_istore (lv' := [(22, .int (1 : Int32)), (21, .int v113), (20, .int v108), (19, .int (0 : Int32)), (18, .int v101), (17, .int t0), (0, .ref (g.2.1 0)), (1, .int x1), (2, .int x2), (3, .ref (a 0)), (4, .ref (a 1)), (5, .ref (a 2)), (6, .ref (a 3)), (7, .ref (a 4)), (8, .ref (a 5)), (9, .ref (a 6)), (10, .ref (a 8)), (11, .ref (a 9)), (12, .ref (a 10)), (13, .int x13), (14, .int x14), (15, .int x15), (16, .int x16)]) hx hb dL_searches_193 hl (by decide) rfl (fun ls hl => ?_)
        refine lv_iconst (v := (0 : Int32)) hx hb dL_searches_195 (by decide) ?_
        refine lv_istore (lv' := [(23, .int (0 : Int32)), (22, .int (1 : Int32)), (21, .int v113), (20, .int v108), (19, .int (0 : Int32)), (18, .int v101), (17, .int t0), (0, .ref (g.2.1 0)), (1, .int x1), (2, .int x2), (3, .ref (a 0)), (4, .ref (a 1)), (5, .ref (a 2)), (6, .ref (a 3)), (7, .ref (a 4)), (8, .ref (a 5)), (9, .ref (a 6)), (10, .ref (a 8)), (11, .ref (a 9)), (12, .ref (a 10)), (13, .int x13), (14, .int x14), (15, .int x15), (16, .int x16)]) hx hb dL_searches_196 hl (by decide) rfl (fun ls hl => ?_)
        exact hC_198 N x1 x13 x14 x15 x16 t0 v101 (0 : Int32) v108 v113 (1 : Int32) (0 : Int32) S114 L115 C116 D117 hCD H locs I ls (lv_sub hl [7, 8, 10, 11, 12, 13, 14, 15, 16, 17, 18, 19, 20, 21, 22, 23, 6, 5, 4, 3, 2, 1, 0] rfl) hpf
      refine lv_aload_n hx hb dL_searches_121 rfl (lv_at hl 2 rfl) ?_
      refine lv_bipush (v := (10 : Int32)) hx hb dL_searches_122 (by decide) ?_
      refine lv_iload_n hx hb dL_searches_124 rfl (lv_at hl 3 rfl) ?_
      refine lv_iload hx hb dL_searches_125 (lv_at hl 1 rfl) ?_
      refine lv_iload hx hb dL_searches_127 (lv_at hl 0 rfl) ?_
      refine lv_iconst (v := (0 : Int32)) hx hb dL_searches_129 (by decide) ?_
      refine l_cBW (rest := []) (As := [.ref (g.2.1 0), .int (10 : Int32), .int x1, .int t0, .int v101, .int (0 : Int32)]) X I fL_calls (c_L_calls l hlt N (10 : Int32) x1 t0 v101 (0 : Int32)) rfl ⟨Nat.le_of_ble_eq_true rfl, Nat.le_of_ble_eq_true rfl⟩ 130 dL_searches_130 rfl hl.1 rfl (Nat.le_of_ble_eq_true rfl) ⟨Nat.le_refl _, Nat.le_refl _⟩ hpf (fun v118 S119 L120 C121 D122 hCD H locs I hpf => ?_)
      refine lv_bipush (v := (-9 : Int32)) hx hb dL_searches_133 (by decide) ?_
      refine b_icmp_ne hx hb 159 135 dL_searches_135 (by decide) hpf (fun hpf => ?_) (fun hpf => ?_)
      · refine lv_iconst (v := (0 : Int32)) hx hb dL_searches_159 (by decide) ?_
        exact l_retzB X I hr 160 dL_searches_160 hpf
      refine lv_aload_n hx hb dL_searches_138 rfl (lv_at hl 2 rfl) ?_
      refine lv_bipush (v := (12 : Int32)) hx hb dL_searches_139 (by decide) ?_
      refine lv_iload_n hx hb dL_searches_141 rfl (lv_at hl 3 rfl) ?_
      refine lv_iload hx hb dL_searches_142 (lv_at hl 1 rfl) ?_
      refine lv_iload hx hb dL_searches_144 (lv_at hl 0 rfl) ?_
      refine lv_iconst (v := (0 : Int32)) hx hb dL_searches_146 (by decide) ?_
      refine l_cBW (rest := []) (As := [.ref (g.2.1 0), .int (12 : Int32), .int x1, .int t0, .int v101, .int (0 : Int32)]) X I fL_calls (c_L_calls l hlt N (12 : Int32) x1 t0 v101 (0 : Int32)) rfl ⟨Nat.le_of_ble_eq_true rfl, Nat.le_of_ble_eq_true rfl⟩ 147 dL_searches_147 rfl hl.1 rfl (Nat.le_of_ble_eq_true rfl) ⟨Nat.le_refl _, Nat.le_refl _⟩ hpf (fun v123 S124 L125 C126 D127 hCD H locs I hpf => ?_)
      refine lv_bipush (v := (-9 : Int32)) hx hb dL_searches_150 (by decide) ?_
      refine b_icmp_ne hx hb 159 152 dL_searches_152 (by decide) hpf (fun hpf => ?_) (fun hpf => ?_)
      · refine lv_iconst (v := (0 : Int32)) hx hb dL_searches_159 (by decide) ?_
        exact l_retzB X I hr 160 dL_searches_160 hpf
      refine lv_iconst (v := (1 : Int32)) hx hb dL_searches_155 (by decide) ?_
      refine lv_goto (tgt := 160) hx hb dL_searches_156 (by decide) ?_
      exact l_retzB X I hr 160 dL_searches_160 hpf
    refine lv_iconst (v := (0 : Int32)) hx hb dL_searches_108 (by decide) ?_
    exact l_retzB X I hr 109 dL_searches_109 hpf
  have hC_39 : ∀ (t0 : Int32) (t1 : Int32) (x1 : Int32) (x2 : Int32) (x13 : Int32) (x14 : Int32) (S : kS) (L : lS) (C D : Nat) (hCD : C ≤ 180 ∧ D ≤ 6700) (H : Heap) (locs : List Loc), lV dC dI g a (lFr g a Si Li sz) s Si S L H locs → ∀ ls : Array Slot, lv_has ls 26 [(0, .ref (g.2.1 0)), (1, .int x1), (2, .int x2), (3, .ref (a 0)), (4, .ref (a 1)), (5, .ref (a 2)), (6, .ref (a 3)), (7, .ref (a 4)), (8, .ref (a 5)), (9, .ref (a 6)), (10, .ref (a 8)), (11, .ref (a 9)), (12, .ref (a 10)), (13, .int x13), (14, .int x14)] → pL_searches_39 N t0 t1 x1 x2 x13 x14 S L C D = some (r, Sf, Lf) → W p l e (lRm 10 373 180 6700) s m args below meth c H locs C D (MQ below (lQ dC dI g a sz Si Li (qI r) Sf Lf) args s 180 6700 (lFr g a Si Li sz)) (F0 m 39 ls [.int t0, .int t1]) := by
    intro t0 t1 x1 x2 x13 x14 S L C D hCD H locs I ls hl hpf
    unfold pL_searches_39 at hpf
    refine l_cAI (rest := []) (As := [.int t1, .int t0]) X I fL_low (c_L_low l hlt N t1 t0) rfl ⟨Nat.le_of_ble_eq_true rfl, Nat.le_of_ble_eq_true rfl⟩ 39 dL_searches_39 rfl hl.1 rfl (Nat.le_of_ble_eq_true rfl) hCD hpf (fun v101 L102 H locs I hpf => ?_)
    refine lv_istore (lv' := [(15, .int v101), (0, .ref (g.2.1 0)), (1, .int x1), (2, .int x2), (3, .ref (a 0)), (4, .ref (a 1)), (5, .ref (a 2)), (6, .ref (a 3)), (7, .ref (a 4)), (8, .ref (a 5)), (9, .ref (a 6)), (10, .ref (a 8)), (11, .ref (a 9)), (12, .ref (a 10)), (13, .int x13), (14, .int x14)]) hx hb dL_searches_42 hl (by decide) rfl (fun ls hl => ?_)
    refine lv_iload_n hx hb dL_searches_44 rfl (lv_at hl 3 rfl) ?_
    refine lv_bipush (v := (7 : Int32)) hx hb dL_searches_45 (by decide) ?_
    refine lv_ishr hx hb dL_searches_47 ?_
    refine lv_aload_n hx hb dL_searches_48 rfl (lv_at hl 4 rfl) ?_
    refine lv_iconst (v := (3 : Int32)) hx hb dL_searches_49 (by decide) ?_
    refine l_iald X I lR_0 50 dL_searches_50 hpf (fun hpf => ?_)
    refine l_cAI (rest := []) (As := [.int (x2 >>> ((7 : Int32) &&& 31)), .int (aI L102 0 (3 : Int32).toNatClampNeg)]) X I fL_low (c_L_low l hlt N (x2 >>> ((7 : Int32) &&& 31)) (aI L102 0 (3 : Int32).toNatClampNeg)) rfl ⟨Nat.le_of_ble_eq_true rfl, Nat.le_of_ble_eq_true rfl⟩ 51 dL_searches_51 rfl hl.1 rfl (Nat.le_of_ble_eq_true rfl) hCD hpf (fun v103 L104 H locs I hpf => ?_)
    refine lv_istore (lv' := [(16, .int v103), (15, .int v101), (0, .ref (g.2.1 0)), (1, .int x1), (2, .int x2), (3, .ref (a 0)), (4, .ref (a 1)), (5, .ref (a 2)), (6, .ref (a 3)), (7, .ref (a 4)), (8, .ref (a 5)), (9, .ref (a 6)), (10, .ref (a 8)), (11, .ref (a 9)), (12, .ref (a 10)), (13, .int x13), (14, .int x14)]) hx hb dL_searches_54 hl (by decide) rfl (fun ls hl => ?_)
    refine lv_iload_n hx hb dL_searches_56 rfl (lv_at hl 4 rfl) ?_
    refine lv_bipush (v := (9 : Int32)) hx hb dL_searches_57 (by decide) ?_
    refine lv_ishr hx hb dL_searches_59 ?_
    refine lv_iconst (v := (3 : Int32)) hx hb dL_searches_60 (by decide) ?_
    refine l_cAI (rest := []) (As := [.int (x2 >>> ((9 : Int32) &&& 31)), .int (3 : Int32)]) X I fL_low (c_L_low l hlt N (x2 >>> ((9 : Int32) &&& 31)) (3 : Int32)) rfl ⟨Nat.le_of_ble_eq_true rfl, Nat.le_of_ble_eq_true rfl⟩ 61 dL_searches_61 rfl hl.1 rfl (Nat.le_of_ble_eq_true rfl) hCD hpf (fun v105 L106 H locs I hpf => ?_)
    refine b_if_le hx hb 71 64 dL_searches_64 (by decide) hpf (fun hpf => ?_) (fun hpf => ?_)
    · refine lv_iload_n hx hb dL_searches_71 rfl (lv_at hl 4 rfl) ?_
      refine lv_bipush (v := (11 : Int32)) hx hb dL_searches_72 (by decide) ?_
      refine lv_ishr hx hb dL_searches_74 ?_
      refine lv_aload_n hx hb dL_searches_75 rfl (lv_at hl 5 rfl) ?_
      refine lv_iconst (v := (0 : Int32)) hx hb dL_searches_76 (by decide) ?_
      refine l_iald X I lR_0 77 dL_searches_77 hpf (fun hpf => ?_)
      refine l_cAI (rest := []) (As := [.int (x2 >>> ((11 : Int32) &&& 31)), .int (aI L106 0 (0 : Int32).toNatClampNeg)]) X I fL_low (c_L_low l hlt N (x2 >>> ((11 : Int32) &&& 31)) (aI L106 0 (0 : Int32).toNatClampNeg)) rfl ⟨Nat.le_of_ble_eq_true rfl, Nat.le_of_ble_eq_true rfl⟩ 78 dL_searches_78 rfl hl.1 rfl (Nat.le_of_ble_eq_true rfl) hCD hpf (fun v107 L108 H locs I hpf => ?_)
      exact hC_81 v107 x1 x2 x13 x14 v101 v103 S L108 C D hCD H locs I ls (lv_sub hl [2, 3, 4, 5, 6, 7, 8, 9, 10, 11, 12, 13, 14, 15, 16, 1, 0] rfl) hpf
    refine lv_iconst (v := (0 : Int32)) hx hb dL_searches_67 (by decide) ?_
    refine lv_goto (tgt := 81) hx hb dL_searches_68 (by decide) ?_
    exact hC_81 (0 : Int32) x1 x2 x13 x14 v101 v103 S L106 C D hCD H locs I ls (lv_sub hl [2, 3, 4, 5, 6, 7, 8, 9, 10, 11, 12, 13, 14, 15, 16, 1, 0] rfl) hpf
  refine lv_iload_n hx hb dL_searches_0 rfl (lv_at hl 2 rfl) ?_
  refine lv_bipush (v := (7 : Int32)) hx hb dL_searches_1 (by decide) ?_
  refine l_cAI (rest := []) (As := [.int x2, .int (7 : Int32)]) X I fL_low (c_L_low l hlt N x2 (7 : Int32)) rfl ⟨Nat.le_of_ble_eq_true rfl, Nat.le_of_ble_eq_true rfl⟩ 3 dL_searches_3 rfl hl.1 rfl (Nat.le_of_ble_eq_true rfl) hCD hpf (fun v101 L102 H locs I hpf => ?_)
  refine lv_istore (lv' := [(13, .int v101), (0, .ref (g.2.1 0)), (1, .int x1), (2, .int x2), (3, .ref (a 0)), (4, .ref (a 1)), (5, .ref (a 2)), (6, .ref (a 3)), (7, .ref (a 4)), (8, .ref (a 5)), (9, .ref (a 6)), (10, .ref (a 8)), (11, .ref (a 9)), (12, .ref (a 10))]) hx hb dL_searches_6 hl (by decide) rfl (fun ls hl => ?_)
  refine lv_iload_n hx hb dL_searches_8 rfl (lv_at hl 3 rfl) ?_
  refine lv_iconst (v := (3 : Int32)) hx hb dL_searches_9 (by decide) ?_
  refine lv_ishr hx hb dL_searches_10 ?_
  refine lv_aload_n hx hb dL_searches_11 rfl (lv_at hl 4 rfl) ?_
  refine lv_iconst (v := (2 : Int32)) hx hb dL_searches_12 (by decide) ?_
  refine l_iald X I lR_0 13 dL_searches_13 hpf (fun hpf => ?_)
  refine l_cAI (rest := []) (As := [.int (x2 >>> ((3 : Int32) &&& 31)), .int (aI L102 0 (2 : Int32).toNatClampNeg)]) X I fL_low (c_L_low l hlt N (x2 >>> ((3 : Int32) &&& 31)) (aI L102 0 (2 : Int32).toNatClampNeg)) rfl ⟨Nat.le_of_ble_eq_true rfl, Nat.le_of_ble_eq_true rfl⟩ 14 dL_searches_14 rfl hl.1 rfl (Nat.le_of_ble_eq_true rfl) hCD hpf (fun v103 L104 H locs I hpf => ?_)
  refine lv_istore (lv' := [(14, .int v103), (13, .int v101), (0, .ref (g.2.1 0)), (1, .int x1), (2, .int x2), (3, .ref (a 0)), (4, .ref (a 1)), (5, .ref (a 2)), (6, .ref (a 3)), (7, .ref (a 4)), (8, .ref (a 5)), (9, .ref (a 6)), (10, .ref (a 8)), (11, .ref (a 9)), (12, .ref (a 10))]) hx hb dL_searches_17 hl (by decide) rfl (fun ls hl => ?_)
  refine lv_iload_n hx hb dL_searches_19 rfl (lv_at hl 4 rfl) ?_
  refine lv_iconst (v := (5 : Int32)) hx hb dL_searches_20 (by decide) ?_
  refine lv_ishr hx hb dL_searches_21 ?_
  refine lv_iload_n hx hb dL_searches_22 rfl (lv_at hl 4 rfl) ?_
  refine lv_bipush (v := (10 : Int32)) hx hb dL_searches_23 (by decide) ?_
  refine lv_ishr hx hb dL_searches_25 ?_
  refine lv_iconst (v := (2 : Int32)) hx hb dL_searches_26 (by decide) ?_
  refine l_cAI (rest := [.int (x2 >>> ((5 : Int32) &&& 31))]) (As := [.int (x2 >>> ((10 : Int32) &&& 31)), .int (2 : Int32)]) X I fL_low (c_L_low l hlt N (x2 >>> ((10 : Int32) &&& 31)) (2 : Int32)) rfl ⟨Nat.le_of_ble_eq_true rfl, Nat.le_of_ble_eq_true rfl⟩ 27 dL_searches_27 rfl hl.1 rfl (Nat.le_of_ble_eq_true rfl) hCD hpf (fun v105 L106 H locs I hpf => ?_)
  refine b_if_ne hx hb 38 30 dL_searches_30 (by decide) hpf (fun hpf => ?_) (fun hpf => ?_)
  · refine lv_iconst (v := (5 : Int32)) hx hb dL_searches_38 (by decide) ?_
    exact hC_39 (5 : Int32) (x2 >>> ((5 : Int32) &&& 31)) x1 x2 v101 v103 Si L106 0 0 hCD H locs I ls (lv_sub hl [2, 3, 4, 5, 6, 7, 8, 9, 10, 11, 12, 13, 14, 1, 0] rfl) hpf
  refine lv_bipush (v := (60 : Int32)) hx hb dL_searches_33 (by decide) ?_
  refine lv_goto (tgt := 39) hx hb dL_searches_35 (by decide) ?_
  exact hC_39 (60 : Int32) (x2 >>> ((5 : Int32) &&& 31)) x1 x2 v101 v103 Si L106 0 0 hCD H locs I ls (lv_sub hl [2, 3, 4, 5, 6, 7, 8, 9, 10, 11, 12, 13, 14, 1, 0] rfl) hpf
