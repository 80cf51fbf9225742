-- the log: java/util/ArrayList, as far as it only reads
section LG
variable {p : Program} {l : Launch} {e : Env} {R : Room} {s : State} {m : MethodId} {args : Array Value} {below : List Frame} {meth : Method} {c : Code} {H : Heap} {locs : List Loc} {cells slots : Nat} {Q : State → Prop}
variable {cc : ByteArray} {nL : Nat} {ls : Array Slot} {rest : List Value} {dC : Nat → ClassId} {dI : Nat → Nat → Nat} {g : kG} {A : Nat → Prop} {S S0 : kS} {own : String} {β : Type} {res : β}
theorem kLay_L : ∀ x ∈ u_ws RJx4a65c TJx4a65c 3, x ∈ wsC := fun _ h => List.mem_append_right _ (List.mem_append_left _ (List.mem_append_right _ (List.mem_append_right _ (List.mem_append_right _ (List.mem_append_right _ (List.mem_append_right _ (List.mem_append_right _ (List.mem_append_right _ (List.mem_append_right _ (List.mem_append_right _ (List.mem_append_right _ h)))))))))))
theorem k_getL (X : kX p s m meth c cc nL args own dC dI g A) (I : kV dC dI g A s S0 S H locs) (k : Nat) {v : Value} (hk : k < 3) (hdc : (TJx4a65c k).1 = "java/util/ArrayList") (hv : (kLf S g.2.2.2.2)[k]? = some v) {index : Nat} (hl : Cond.fieldLink own index "java/util/ArrayList" (TJx4a65c k).2.1 (TJx4a65c k).2.2.1 ∈ wsC) (pc : Nat) (hdg : decode cc pc = .ok (.getfield index, 3))
    (kk : W p l e R s m args below meth c H locs cells slots Q (F0 m (pc + 3) ls (v :: rest))) : W p l e R s m args below meth c H locs cells slots Q (F0 m pc ls (.ref (g.2.1 17) :: rest)) := by
  obtain ⟨h1, h2, h3, h4, h5, h6, h7, h8⟩ := X
  exact va_get (D := (dC, dI)) (Ts := wsC) (C := RJx4a65c) (T := TJx4a65c) (N := 3) h1 h2 h5 kLay_L h4 h6 I.1 17 (kO_L g S) rfl k hk (h5 _ hl) (fun z hz => by rw [hdc] at hz; exact hz) hv hdg kk
theorem kO_E (g : kG) (S : kS) (hp : kp S ≠ 0) : (kW g S)[101 + (kn S + km S)]? = some (g.2.2.2.2, .inl (g.1 3, kp S, .inr (.inr (.inr (.inr (fun i => (kE S i).map g.2.2.1)))))) := by
  unfold kW
  have hl : (kUc g.2.2.1 g.2.2.2.1 S).length = kn S := by unfold kUc; simp
  have hl2 : (kVc g.1 g.2.2.2.1 S).length = km S := by unfold kVc; simp
  rw [kFx_at, List.getElem?_append_right (by rw [hl]; omega), hl, show kn S + km S - kn S = km S by omega, List.getElem?_append_right (by rw [hl2]; omega), hl2, Nat.sub_self]
  unfold kEc
  rw [if_neg hp]
  rfl
def gE {γ : Type} (i : Int32) (S : kS) (K : Nat → Option γ) : Option γ := if i < 0 ∨ kp S ≤ i.toNatClampNeg then none else (match kE S i.toNatClampNeg with
  | none => none
  | some k => K k)
theorem gE_some {γ : Type} {i : Int32} {S : kS} {K : Nat → Option γ} {r : γ} (h : gE i S K = some r) : vp_in i (kp S) ∧ ∃ k, kE S i.toNatClampNeg = some k ∧ K k = some r := by
  unfold gE at h
  by_cases hc : i < 0 ∨ kp S ≤ i.toNatClampNeg
  · rw [if_pos hc] at h; cases h
  · rw [if_neg hc] at h
    refine ⟨hc, ?_⟩
    cases h1 : kE S i.toNatClampNeg with
    | none => rw [h1] at h; cases h
    | some k => rw [h1] at h; exact ⟨k, rfl, h⟩
theorem k_ldE {i : Int32} {K : Nat → Option β} (X : kX p s m meth c cc nL args own dC dI g A) (I : kV dC dI g A s S0 S H locs) (pc : Nat) (hdg : decode cc pc = .ok (.aaload, 1))
    (hpf : gE i S K = some res) (kk : ∀ k : Nat, K k = some res → W p l e R s m args below meth c H locs cells slots Q (F0 m (pc + 1) ls (.ref (g.2.2.1 k) :: rest))) : W p l e R s m args below meth c H locs cells slots Q (F0 m pc ls (.int i :: .ref g.2.2.2.2 :: rest)) := by
  obtain ⟨g1, k, g2, g3⟩ := gE_some hpf
  have hlt : i.toNatClampNeg < kp S := Nat.not_le.mp fun q => g1 (Or.inr q)
  refine va_aldq (C := "java/lang/Object") X.1 X.2.1 X.2.2.2.2.2.1 I.1 _ 3 (kO_E g S (by omega)) rfl g1 hdg ?_
  rw [g2]
  exact kk k g3
theorem k_castU {k : Nat} {K : Option β} (X : kX p s m meth c cc nL args own dC dI g A) (I : kV dC dI g A s S0 S H locs) {index : Nat} (hl : Cond.classLink own index RX0 ∈ wsC) (pc : Nat) (hdg : decode cc pc = .ok (.checkcast index, 3)) (hpf : gn k (kn S) K = some res)
    (kk : K = some res → W p l e R s m args below meth c H locs cells slots Q (F0 m (pc + 3) ls (.ref (g.2.2.1 k) :: rest))) : W p l e R s m args below meth c H locs cells slots Q (F0 m pc ls (.ref (g.2.2.1 k) :: rest)) := by
  obtain ⟨g1, g2⟩ := gn_some hpf
  obtain ⟨h1, h2, h3, h4, h5, h6, h7, h8⟩ := X
  obtain ⟨cell, q1, q2, q3⟩ := va_recv h6 I.1 (ci := 3) rfl (kO_U k g S g1)
  obtain ⟨hS9, hfc, kC9, hkC, hkind⟩ := h6.1 3 _ rfl
  intro T hT X'
  obtain ⟨vm', X2, st⟩ := X'.checkcastYes h1 h4 (h5 _ hl) (by rw [hT]; exact q1) q2 hfc (by rw [Option.some.inj (q3.symm.trans hfc)]; exact va_assign (C := RX0) ⟨hfc, kC9, hkC, hkind⟩) (g := F0 m pc ls (.ref (g.2.2.1 k) :: rest)) rfl rfl (by rw [h2]; exact hdg)
  obtain ⟨t, a1, b1⟩ := kk g2 (T.setVm vm') hT X2
  exact ⟨t, st t a1, b1⟩
end LG
def pLog_size (N : Nat) (S : kS) : Option (Int32 × kS) := some (kI S 12, S)
theorem c_Log_size (l : Launch) (N : Nat) : kMet l yJx4a65c_size_8abf5 cJx4a65c_size_8abf5 1 (some .int) 0 (fun g => [.ref (g.2.1 17)]) rI (pLog_size N) := by
  refine kStart RJx4a65c (by decide +kernel) rfl (fun g => [(0, .ref (g.2.1 17))]) (fun _ => Nat.le_of_ble_eq_true rfl) (fun _ => rfl) ?_
  intro dC dI g sz Si r Sf hpf p e s m args below meth c X hr H locs I ls hl
  have hx := X.1
  have hb := X.2.1
  refine lv_aload_n hx hb dJx4a65c_size_8abf5_0 rfl (lv_at hl 0 rfl) ?_
  refine k_getL X I 2 (by decide) rfl rfl kC_507 1 dJx4a65c_size_8abf5_1 ?_
  exact k_reti X I hr 4 dJx4a65c_size_8abf5_4 hpf
def pChk (i n : Int32) (S : kS) : Option (Int32 × kS) := if i < (0 : Int32) then none else (if i < n then some (i, S) else none)
theorem c_J3chk (l : Launch) (i n : Int32) : kMet l yJ3_checkIndex_8e157 cJ3_checkIndex_8e157 3 (some .int) 0 (fun _ => [.int i, .int n, .null]) rI (pChk i n) := by
  refine kStart RJ3 (by decide +kernel) rfl (fun _ => [(0, .int i), (1, .int n), (2, .null)]) (fun _ => Nat.le_of_ble_eq_true rfl) (fun _ => rfl) ?_
  intro dC dI g sz Si r Sf hpf p e s m args below meth c X hr H locs I ls hl
  have hx := X.1
  have hb := X.2.1
  unfold pChk at hpf
  refine lv_iload_n hx hb dJ3_checkIndex_8e157_0 rfl (lv_at hl 0 rfl) ?_
  refine b_if_lt hx hb 9 1 dJ3_checkIndex_8e157_1 (by decide) hpf (fun hpf => nomatch hpf) (fun hpf => ?_)
  refine lv_iload_n hx hb dJ3_checkIndex_8e157_4 rfl (lv_at hl 0 rfl) ?_
  refine lv_iload_n hx hb dJ3_checkIndex_8e157_5 rfl (lv_at hl 1 rfl) ?_
  refine b_icmp_lt hx hb 16 6 dJ3_checkIndex_8e157_6 (by decide) hpf (fun hpf => ?_) (fun hpf => nomatch hpf)
  refine lv_iload_n hx hb dJ3_checkIndex_8e157_16 rfl (lv_at hl 0 rfl) ?_
  exact k_reti X I hr 17 dJ3_checkIndex_8e157_17 hpf
theorem fn_J15_J3chk : kFnS RJ15 yJ3_checkIndex_8e157 cJ3_checkIndex_8e157 3 (some .int) 3 105 := ⟨⟨kC_527, kC_529, kC_530, ⟨by decide +kernel, by decide +kernel, by decide +kernel⟩, by decide⟩, kC_528⟩
theorem c_J15chk (l : Launch) (i n : Int32) : kMet l yJ15_checkIndex_7cf53 cJ15_checkIndex_7cf53 2 (some .int) 1 (fun _ => [.int i, .int n]) rI (fun S => bk (pChk i n S) fun v S => some (v, S)) := by
  refine kStart RJ15 (by decide +kernel) rfl (fun _ => [(0, .int i), (1, .int n)]) (fun _ => Nat.le_of_ble_eq_true rfl) (fun _ => rfl) ?_
  intro dC dI g sz Si r Sf hpf p e s m args below meth c X hr H locs I ls hl
  have hx := X.1
  have hb := X.2.1
  refine lv_iload_n hx hb dJ15_checkIndex_7cf53_0 rfl (lv_at hl 0 rfl) ?_
  refine lv_iload_n hx hb dJ15_checkIndex_7cf53_1 rfl (lv_at hl 1 rfl) ?_
  refine lv_null hx hb dJ15_checkIndex_7cf53_2 ?_
  refine k_cSi (rest := []) (As := [.int i, .int n, .null]) (d := 1) ⟨Nat.le_refl _, Nat.le_refl _⟩ X I fn_J15_J3chk (c_J3chk l i n) rfl (by decide) 3 dJ15_checkIndex_7cf53_3 rfl hl.1 rfl (Nat.le_of_ble_eq_true rfl) ⟨Nat.zero_le _, Nat.zero_le _⟩ hpf (fun v S1 H locs I hm hpf => ?_)
  exact k_reti X I hr 6 dJ15_checkIndex_7cf53_6 hpf
/-- an answer that is a change -/
def rC : kG → Nat → Option Value := fun g k => some (.ref (g.2.2.1 k))
def pLog_ed (i : Int32) (S : kS) : Option (Nat × kS) := gE i S fun k => some (k, S)
theorem c_Log_ed (l : Launch) (i : Int32) : kMet l yJx4a65c_elementData_915e3 cJx4a65c_elementData_915e3 2 (some (.object "java/lang/Object")) 0 (fun g => [.ref (g.2.1 17), .int i]) rC (pLog_ed i) := by
  refine kStart RJx4a65c (by decide +kernel) rfl (fun g => [(0, .ref (g.2.1 17)), (1, .int i)]) (fun _ => Nat.le_of_ble_eq_true rfl) (fun _ => rfl) ?_
  intro dC dI g sz Si r Sf hpf p e s m args below meth c X hr H locs I ls hl
  have hx := X.1
  have hb := X.2.1
  unfold pLog_ed at hpf
  refine lv_aload_n hx hb dJx4a65c_elementData_915e3_0 rfl (lv_at hl 0 rfl) ?_
  refine k_getL X I 1 (by decide) rfl rfl kC_435 1 dJx4a65c_elementData_915e3_1 ?_
  refine lv_iload_n hx hb dJx4a65c_elementData_915e3_4 rfl (lv_at hl 1 rfl) ?_
  refine k_ldE X I 5 dJx4a65c_elementData_915e3_5 hpf (fun k hpf => ?_)
  exact k_reta (Rv := rC) X I hr 6 dJx4a65c_elementData_915e3_6 rfl hpf
theorem fn_L_J15 : kFnS RJx4a65c yJ15_checkIndex_7cf53 cJ15_checkIndex_7cf53 2 (some .int) 2 118 := ⟨⟨kC_523, kC_525, kC_526, ⟨by decide +kernel, by decide +kernel, by decide +kernel⟩, by decide⟩, kC_524⟩
theorem fn_L_ed : kFnI RJx4a65c yJx4a65c_elementData_915e3 cJx4a65c_elementData_915e3 2 (some (.object "java/lang/Object")) 1 123 := ⟨⟨kC_531, kC_416, kC_534, ⟨by decide +kernel, by decide +kernel, by decide +kernel⟩, by decide⟩, kC_532, kC_533⟩
def pLog_get (N : Nat) (i : Int32) (S : kS) : Option (Nat × kS) := bk (bk (pChk i (kI S 12) S) fun v S => some (v, S)) fun _ S => bk (pLog_ed i S) fun k S => some (k, S)
/-- a call of the log itself: it is no class of ours (one field stands above it) -/
theorem k_callL {α β : Type} {res : β} {p : Program} {l : Launch} {e : Env} {s : State} {m : MethodId} {args : Array Value} {below : List Frame} {meth : Method} {c : Code} {H : Heap} {locs : List Loc} {cells slots : Nat} {Q : State → Prop} {cc : ByteArray} {nL : Nat} {ls : Array Slot} {rest : List Value} {dC : Nat → ClassId} {dI : Nat → Nat → Nat} {g : kG} {A : Nat → Prop} {S S0 : kS} {own : String} {R : Room} {y : MethodName} {b : ByteArray} {nl n index d2 d : Nat} {ret : Option FieldType} {Av : kG → List Value} {Rv : kG → α → Option Value} {f : kS → Option (α × kS)} {K : α → kS → Option β} {st0 : List Value} {As : List Value}
    (hR : d ≤ R.frames ∧ 40 * d ≤ R.locals) (X : kX p s m meth c cc nL args own dC dI g A) (I : kV dC dI g A s S0 S H locs) (F : kFnI own y b nl ret n index) (hcn : y.cls = RJx4a65c) (hM : kMet l y b nl ret d2 Av Rv f) (hAv : Av g = .ref (g.2.1 17) :: As) (hd : d2 + 1 ≤ d) (pc : Nat) (hdg : decode cc pc = .ok (.invokevirtual index, 3)) (hn : As.length = n) (hsz : ls.size = nL)
    (hst : st0 = As.reverse ++ .ref (g.2.1 17) :: rest) (hW : (rest.map fun v => v.category).sum ≤ 8) (hcl : cells ≤ R.cells ∧ slots ≤ R.slots)
    (hpf : bk (f S) K = some res) (kk : ∀ (v : α) (S1 : kS) (H1 : Heap) (locs1 : List Loc), kV dC dI g A s S0 S1 H1 locs1 → kSm S1 S → K v S1 = some res → W p l e R s m args below meth c H1 locs1 cells slots Q (F0 m (pc + 3) ls ((Rv g v).toList ++ rest))) : W p l e R s m args below meth c H locs cells slots Q (F0 m pc ls st0) := by
  obtain ⟨h1, h2, h3, h4, h5, h6, h7, h8⟩ := X
  obtain ⟨⟨x1, x2, x4, x5, x6⟩, x7, x8⟩ := F
  obtain ⟨v, S1, hf, hk⟩ := bk_some hpf
  refine k_back (mc := 0) (ms := 0) (n := 0) (rv := Rv g v) (S1 := S1) I.2.2.1.1 I h8 (va_runV (Ts := wsC) (own := own) (C := y.cls) (As := As) (rest := rest) ⟨h1, h2, h3, h4, h5⟩ (hM dC dI g H.size S v S1 hf) ⟨callB_of n h5 (kGoodC x4) rfl rfl rfl (h5 _ x2) (h5 _ x1) x5 (kRoom hR hd x6), h5 _ x7, h5 _ x8⟩ ⟨fun a2 U gg mk q => by obtain ⟨q0, q1, qP, qK, qD⟩ := q; exact ⟨q0, q1, qP, va_K.moved (u := U) (U := U.calling gg mk a2) (Vm.Alike.refl U.vm) qK, qD⟩, (by rw [hcn]; exact va_recv (q := (RJx4a65c, TJx4a65c, 3)) h6 I.1 rfl (kO_L g S)), fun U hU hW2 => ⟨by rw [hAv], by rw [hU], by rw [hU]; exact I.1, va_K.moved hW2.alike h6, I.2.1.weaken (fun _ _ _ _ => trivial)⟩⟩ rfl hn hsz hst (lv_room hW) hdg ⟨hcl.1, hcl.2⟩) (fun H1 locs1 I1 hm => kk v S1 H1 locs1 I1 hm hk)
theorem c_Log_get (l : Launch) (N : Nat) (i : Int32) : kMet l yJx4a65c_get_915e3 cJx4a65c_get_915e3 2 (some (.object "java/lang/Object")) 2 (fun g => [.ref (g.2.1 17), .int i]) rC (pLog_get N i) := by
  refine kStart RJx4a65c (by decide +kernel) rfl (fun g => [(0, .ref (g.2.1 17)), (1, .int i)]) (fun _ => Nat.le_of_ble_eq_true rfl) (fun _ => rfl) ?_
  intro dC dI g sz Si r Sf hpf p e s m args below meth c X hr H locs I ls hl
  have hx := X.1
  have hb := X.2.1
  unfold pLog_get at hpf
  refine lv_iload_n hx hb dJx4a65c_get_915e3_0 rfl (lv_at hl 1 rfl) ?_
  refine lv_aload_n hx hb dJx4a65c_get_915e3_1 rfl (lv_at hl 0 rfl) ?_
  refine k_getL X I 2 (by decide) rfl rfl kC_507 2 dJx4a65c_get_915e3_2 ?_
  refine k_cSi (rest := []) (As := [.int i, .int (kI Si 12)]) (d := 2) ⟨Nat.le_refl _, Nat.le_refl _⟩ X I fn_L_J15 (c_J15chk l i (kI Si 12)) rfl (by decide) 5 dJx4a65c_get_915e3_5 rfl hl.1 rfl (Nat.le_of_ble_eq_true rfl) ⟨Nat.zero_le _, Nat.zero_le _⟩ hpf (fun v S1 H locs I hm hpf => ?_)
  refine lv_pop hx hb dJx4a65c_get_915e3_8 rfl ?_
  refine lv_aload_n hx hb dJx4a65c_get_915e3_9 rfl (lv_at hl 0 rfl) ?_
  refine lv_iload_n hx hb dJx4a65c_get_915e3_10 rfl (lv_at hl 1 rfl) ?_
  refine k_callL (rest := []) (As := [.int i]) (d := 2) ⟨Nat.le_refl _, Nat.le_refl _⟩ X I fn_L_ed rfl (c_Log_ed l i) rfl (by decide) 11 dJx4a65c_get_915e3_11 rfl hl.1 rfl (Nat.le_of_ble_eq_true rfl) ⟨Nat.zero_le _, Nat.zero_le _⟩ hpf (fun k S2 H locs I hm hpf => ?_)
  exact k_reta (Rv := rC) X I hr 14 dJx4a65c_get_915e3_14 rfl hpf
theorem fn_X9_Log_size : kFnI RX9 yJx4a65c_size_8abf5 cJx4a65c_size_8abf5 1 (some .int) 0 252 := ⟨⟨kC_503, kC_416, kC_506, ⟨by decide +kernel, by decide +kernel, by decide +kernel⟩, by decide⟩, kC_504, kC_505⟩
theorem fn_X9_Log_get : kFnI RX9 yJx4a65c_get_915e3 cJx4a65c_get_915e3 2 (some (.object "java/lang/Object")) 1 256 := ⟨⟨kC_519, kC_416, kC_522, ⟨by decide +kernel, by decide +kernel, by decide +kernel⟩, by decide⟩, kC_520, kC_521⟩
