-- the log's row is made anew
theorem fn_Jx4a65c_Jx4a65c_rangeCheckForAdd_d00df : kFnI RJx4a65c yJx4a65c_rangeCheckForAdd_d00df cJx4a65c_rangeCheckForAdd_d00df 2 none 1 135 := ⟨⟨kC_543, kC_416, kC_546, ⟨by decide +kernel, by decide +kernel, by decide +kernel⟩, by decide⟩, kC_544, kC_545⟩
theorem fn_Jx4a65c_Jx4a65c_grow_d5877 : kFnI RJx4a65c yJx4a65c_grow_d5877 cJx4a65c_grow_d5877 1 (some (.array (.object "java/lang/Object"))) 0 129 := ⟨⟨kC_547, kC_416, kC_550, ⟨by decide +kernel, by decide +kernel, by decide +kernel⟩, by decide⟩, kC_548, kC_549⟩
theorem fn_Jx4a65c_J8_newLength_cabcc : kFnS RJx4a65c yJ8_newLength_cabcc cJ8_newLength_cabcc 4 (some .int) 3 73 := ⟨⟨kC_557, kC_559, kC_560, ⟨by decide +kernel, by decide +kernel, by decide +kernel⟩, by decide⟩, kC_558⟩
theorem fn_Jx4a65c_J7_copyOf_1904c : kFnS RJx4a65c yJ7_copyOf_1904c cJ7_copyOf_1904c 2 (some (.array (.object "java/lang/Object"))) 2 66 := ⟨⟨kC_566, kC_22, kC_568, ⟨by decide +kernel, by decide +kernel, by decide +kernel⟩, by decide⟩, kC_567⟩
theorem fn_Jx4a65c_Jx4a65c_grow_92f84 : kFnI RJx4a65c yJx4a65c_grow_92f84 cJx4a65c_grow_92f84 4 (some (.array (.object "java/lang/Object"))) 1 69 := ⟨⟨kC_551, kC_416, kC_554, ⟨by decide +kernel, by decide +kernel, by decide +kernel⟩, by decide⟩, kC_552, kC_553⟩
theorem fn_J7_J7_copyOf_6403c : kFnS RJ7 yJ7_copyOf_6403c cJ7_copyOf_6403c 4 (some (.array (.object "java/lang/Object"))) 3 300 := ⟨⟨kC_573, kC_22, kC_575, ⟨by decide +kernel, by decide +kernel, by decide +kernel⟩, by decide⟩, kC_574⟩
noncomputable def gP {γ : Type} (P : Prop) (K : Option γ) : Option γ := @ite (Option γ) P (Classical.propDecidable P) K none
theorem gP_some {γ : Type} {P : Prop} {K : Option γ} {r : γ} (h : gP P K = some r) : P ∧ K = some r := by
  unfold gP at h
  by_cases hc : P
  · rw [if_pos hc] at h; exact ⟨hc, h⟩
  · rw [if_neg hc] at h; cases h
theorem nat_i32 {n : Nat} (h : n ≤ 1000) : (Int32.ofNat n).toNatClampNeg = n := by
  have : (Int32.ofNat n).toInt = (n : Int) := Int32.toInt_ofNat_of_lt (by omega)
  show (Int32.ofNat n).toInt.toNat = n
  rw [this]
  rfl
theorem nat_i32_nn {n : Nat} (h : n ≤ 1000) : ¬ Int32.ofNat n < 0 := by
  have h1 : (Int32.ofNat n).toInt = (n : Int) := Int32.toInt_ofNat_of_lt (by omega)
  rw [Int32.lt_iff_toInt_lt, h1]
  show ¬ (n : Int) < 0
  omega
theorem i32_not_lt {x : Int32} {n : Nat} (hn : n ≤ 1000) (h0 : ¬ x < 0) (hx : n ≤ x.toNatClampNeg) : ¬ x < Int32.ofNat n := by
  have h1 : (Int32.ofNat n).toInt = (n : Int) := Int32.toInt_ofNat_of_lt (by omega)
  rw [Int32.lt_iff_toInt_lt, h1]
  have : x.toNatClampNeg = x.toInt.toNat := rfl
  rw [Int32.lt_iff_toInt_lt] at h0
  have h2 : (0 : Int32).toInt = 0 := rfl
  omega
def rE : kG → Unit → Option Value := fun g _ => some (.ref g.2.2.2.2)
/-- the log's row, of n places -/
def nE (S : kS) (n : Nat) : kS := (S.1, S.2.1, S.2.2.1, S.2.2.2.1, kn S, kF S, kC S, km S, kl S, kx S, n, fun i => if i < kp S then kE S i else none)
def kOkE (S : kS) (n : Nat) : Prop := kp S ≤ n ∧ n ≤ 366 ∧ n ≠ 0 ∧ ∀ i, i < kp S → ∀ k, kE S i = some k → k < kn S
def kRow (g : kG) (S : kS) (n : Nat) : va_E := .inl (g.1 3, n, .inr (.inr (.inr (.inr (va_cpy (fun i => (kE S i).map g.2.2.1) (fun _ => none) 0 0 (kp S))))))
theorem kEf_eq (g : kG) (S : kS) (n : Nat) : va_cpy (fun i => (kE S i).map g.2.2.1) (fun _ => none) 0 0 (kp S) = (fun i => (kE (nE S n) i).map g.2.2.1) := by
  funext i
  show (if 0 ≤ i ∧ i < 0 + kp S then (kE S (0 + (i - 0))).map g.2.2.1 else none) = (if i < kp S then kE S i else none).map g.2.2.1
  by_cases h : i < kp S
  · rw [if_pos ⟨Nat.zero_le _, by omega⟩, if_pos h, show 0 + (i - 0) = i by omega]
  · rw [if_neg (fun q => h (by omega)), if_neg h]; rfl
/-- fewer cells -/
theorem va_D_sub {A : Nat → Prop} {ws ws' : va_W} (h : va_D A ws) (hs : ws'.Sublist ws) : va_D A ws' := by
  rw [va_D_iff] at h ⊢
  exact ⟨h.1.sublist (hs.map _), fun q hq => h.2 q (hs.subset hq)⟩
theorem kW_nE (g : kG) (S : kS) (q n : Nat) (hn : n ≠ 0) : (kW (g.1, g.2.1, g.2.2.1, g.2.2.2.1, q) (nE S n)).Sublist ((kW g S ++ [((q, kRow g S n) : Nat × va_E)]).set 17 (g.2.1 17, .inr (2, (kLf S g.2.2.2.2).set 1 (.ref q)))) := by
  rw [List.set_append_left _ _ (List.getElem?_eq_some_iff.mp (kO_L g S)).1]
  have e1 : (kW g S).set 17 (g.2.1 17, .inr (2, (kLf S g.2.2.2.2).set 1 (.ref q))) = kFx g.1 g.2.1 S q (kUc g.2.2.1 g.2.2.2.1 S ++ (kVc g.1 g.2.2.2.1 S ++ kEc g.1 g.2.2.1 g.2.2.2.2 S)) := rfl
  have e2 : kEc g.1 g.2.2.1 q (nE S n) = [((q, kRow g S n) : Nat × va_E)] := by
    unfold kEc kRow
    rw [show kp (nE S n) = n from rfl, if_neg hn, kEf_eq g S n]
  have e3 : kW (g.1, g.2.1, g.2.2.1, g.2.2.2.1, q) (nE S n) = kFx g.1 g.2.1 S q (kUc g.2.2.1 g.2.2.2.1 S ++ (kVc g.1 g.2.2.2.1 S ++ kEc g.1 g.2.2.1 q (nE S n))) := rfl
  rw [e1, e3, e2, kFx_app, kFx_app g.1 g.2.1 S q (_ ++ (_ ++ kEc _ _ _ _)), List.append_assoc, List.append_assoc, List.append_assoc]
  exact List.Sublist.append_left (List.Sublist.append_left (List.Sublist.append_left (List.sublist_append_right _ _) _) _) _
section GR
variable {p : Program} {l : Launch} {e : Env} {R : Room} {s : State} {m : MethodId} {args : Array Value} {below : List Frame} {meth : Method} {c : Code} {H : Heap} {locs : List Loc} {cells slots : Nat} {Q : State → Prop}
variable {cc : ByteArray} {nL : Nat} {ls : Array Slot} {rest : List Value} {dC : Nat → ClassId} {dI : Nat → Nat → Nat} {g : kG} {A : Nat → Prop} {S S0 : kS} {own : String} {β : Type} {res : β}
theorem k_lenE (X : kX p s m meth c cc nL args own dC dI g A) (I : kV dC dI g A s S0 S H locs) (L : kLg g.1 (kp S) g.2.2.2.2 A s s.heap) (pc : Nat) (hdg : decode cc pc = .ok (.arraylength, 1)) (kk : W p l e R s m args below meth c H locs cells slots Q (F0 m (pc + 1) ls (.int (Int32.ofNat (kp S)) :: rest))) : W p l e R s m args below meth c H locs cells slots Q (F0 m pc ls (.ref g.2.2.2.2 :: rest)) := by
  by_cases h : kp S = 0
  · obtain ⟨-, h2, h3⟩ := L h
    obtain ⟨cell, h2, h4, h5⟩ := h2
    have hH : H[g.2.2.2.2]? = some cell := by
      rw [I.2.2.1.2.1 _ (Array.getElem?_eq_some_iff.mp h2).1 h3]; exact h2
    exact W.alen (n := Int32.ofNat (kp S)) X.1 X.2.1 hH h4 (by rw [h5, h]; rfl) rfl rfl hdg kk
  · exact va_alen X.1 X.2.1 X.2.2.2.2.2.1 I.1 _ 3 (kO_E g S h) (ty := .object "java/lang/Object") rfl rfl hdg kk
/-- modCount, size -/
theorem k_putL {S' : kS} {x : Int32} {K : kS → Option β} (k : Nat) (hk : k < 3) (X : kX p s m meth c cc nL args own dC dI g A) (I : kV dC dI g A s S0 S H locs) (hsame : ∀ x, s.fieldFound? (TJx4a65c k).1 (TJx4a65c k).2.1 (TJx4a65c k).2.2.1 = some x → s.fieldFound? "java/util/ArrayList" (TJx4a65c k).2.1 (TJx4a65c k).2.2.1 = some x) (hfin : (TJx4a65c k).2.2.2 = false) (hpt : parseFieldDescriptor (TJx4a65c k).2.2.1 = some .int) (hset : (kW g S).set 17 (g.2.1 17, .inr (2, (kLf S g.2.2.2.2).set k (.int x))) = kW g S') (hm : kSm S' S) {index : Nat} (hl : Cond.fieldLink own index "java/util/ArrayList" (TJx4a65c k).2.1 (TJx4a65c k).2.2.1 ∈ wsC) (pc : Nat) (hdg : decode cc pc = .ok (.putfield index, 3))
    (hpf : svk S' K = some res) (kk : ∀ (S1 : kS) (H1 : Heap) (locs1 : List Loc), kV dC dI g A s S0 S1 H1 locs1 → kSm S1 S → K S1 = some res → W p l e R s m args below meth c H1 locs1 cells slots Q (F0 m (pc + 3) ls rest)) : W p l e R s m args below meth c H locs cells slots Q (F0 m pc ls (.int x :: .ref (g.2.1 17) :: rest)) := by
  obtain ⟨h1, h2, h3, h4, h5, h6, h7, h8⟩ := X
  refine va_put (D := (dC, dI)) (Ts := wsC) (C := RJx4a65c) (T := TJx4a65c) (N := 3) h1 h2 h5 kLay_L tyJx4a65c tyJx4a65c_ok nmJx4a65c h4 h6 I.1 I.2.1 I.2.2.1 17 (kO_L g S) rfl k hk (h5 _ hl) hsame hfin hpt rfl rfl hk hdg (fun H1 locs1 hP hD hS => ?_)
  rw [hset] at hP hD
  exact kk S' H1 locs1 ⟨hP, hD, hS, hm.trans I.2.2.2⟩ hm hpf
theorem k_sameMod (h5 : ∀ w ∈ wsC, w.before args s = true) : ∀ x, s.fieldFound? (TJx4a65c 0).1 (TJx4a65c 0).2.1 (TJx4a65c 0).2.2.1 = some x → s.fieldFound? "java/util/ArrayList" (TJx4a65c 0).2.1 (TJx4a65c 0).2.2.1 = some x := fun x h => u_same (h5 _ kC_541) x h
theorem k_getMod (X : kX p s m meth c cc nL args own dC dI g A) (I : kV dC dI g A s S0 S H locs) {index : Nat} (hl : Cond.fieldLink own index "java/util/ArrayList" "modCount" "I" ∈ wsC) (pc : Nat) (hdg : decode cc pc = .ok (.getfield index, 3))
    (kk : W p l e R s m args below meth c H locs cells slots Q (F0 m (pc + 3) ls (.int (kI S 11) :: rest))) : W p l e R s m args below meth c H locs cells slots Q (F0 m pc ls (.ref (g.2.1 17) :: rest)) := by
  obtain ⟨h1, h2, h3, h4, h5, h6, h7, h8⟩ := X
  exact va_get (D := (dC, dI)) (Ts := wsC) (C := RJx4a65c) (T := TJx4a65c) (N := 3) h1 h2 h5 kLay_L h4 h6 I.1 17 (kO_L g S) rfl 0 (by decide) (h5 _ hl) (k_sameMod h5) rfl hdg kk
/-- the row that is put in place of the log's -/
theorem k_putE {q n : Nat} (hn : n ≠ 0) (X : kX p s m meth c cc nL args own dC dI g A) (hP : va_P (dC, dI) vwCl (kW g S ++ [(q, kRow g S n)]) H) (hD : va_D A (kW g S ++ [(q, kRow g S n)])) (hS : va_S A s.heap H locs) {index : Nat} (hl : Cond.fieldLink own index "java/util/ArrayList" "elementData" "[Ljava/lang/Object;" ∈ wsC) (pc : Nat) (hdg : decode cc pc = .ok (.putfield index, 3))
    (kk : ∀ (H1 : Heap) (locs1 : List Loc), kV dC dI (g.1, g.2.1, g.2.2.1, g.2.2.2.1, q) A s (nE S n) (nE S n) H1 locs1 → W p l e R s m args below meth c H1 locs1 cells slots Q (F0 m (pc + 3) ls rest)) : W p l e R s m args below meth c H locs cells slots Q (F0 m pc ls (.ref q :: .ref (g.2.1 17) :: rest)) := by
  obtain ⟨h1, h2, h3, h4, h5, h6, h7, h8⟩ := X
  refine va_put (D := (dC, dI)) (Ts := wsC) (C := RJx4a65c) (T := TJx4a65c) (N := 3) (ty := .array (.object "java/lang/Object")) h1 h2 h5 kLay_L tyJx4a65c tyJx4a65c_ok nmJx4a65c h4 h6 hP hD hS 17 (va_at_app (kO_L g S)) rfl 1 (by decide) (h5 _ hl) (fun z hz => hz) rfl (by decide +kernel) rfl rfl (by show 1 < 3; decide) hdg (fun H1 locs1 hP hD hS => ?_)
  have hs := kW_nE g S q n hn
  exact kk H1 locs1 ⟨va_P_of hP (fun z hz => hs.subset hz), va_D_sub hD hs, hS, kSm.rf⟩
end GR
def pNewLen (x0 x1 x2 : Int32) (S : kS) : Option (Int32 × kS) := nm (x0 + (if x1 < x2 then x2 else x1)) fun y => if y ≤ 0 then none else if (2147483639 : Int32) < y then none else some (y, S)
set_option maxRecDepth 100000 in
set_option maxHeartbeats 4000000 in
theorem c_newLength (l : Launch) (x0 x1 x2 : Int32) : kMet l yJ8_newLength_cabcc cJ8_newLength_cabcc 4 (some .int) 1 (fun _ => [.int x0, .int x1, .int x2]) rI (pNewLen x0 x1 x2) := by
  refine kStart RJ8 (by decide +kernel) rfl (fun _ => [(0, .int x0), (1, .int x1), (2, .int x2)]) (fun _ => Nat.le_of_ble_eq_true rfl) (fun _ => rfl) ?_
  intro dC dI g sz Si r Sf hpf p e s m args below meth c X hr H locs I ls hl
  have hx := X.1
  have hb := X.2.1
  unfold pNewLen at hpf
  refine lv_iload_n hx hb dJ8_newLength_cabcc_0 rfl (lv_at hl 0 rfl) ?_
  refine lv_iload_n hx hb dJ8_newLength_cabcc_1 rfl (lv_at hl 1 rfl) ?_
  refine lv_iload_n hx hb dJ8_newLength_cabcc_2 rfl (lv_at hl 2 rfl) ?_
  refine k_max (d := 1) ⟨Nat.le_refl _, Nat.le_refl _⟩ (by decide) X hl.1 kC_561 kC_293 kC_32 kC_294 3 dJ8_newLength_cabcc_3 (Nat.le_of_ble_eq_true rfl) ⟨Nat.le_of_ble_eq_true rfl, Nat.le_of_ble_eq_true rfl⟩ ?_
  refine lv_iadd hx hb dJ8_newLength_cabcc_6 ?_
  refine m_isto_n hx hb (fun y => [(3, .int y), (0, .int x0), (1, .int x1), (2, .int x2)]) 7 dJ8_newLength_cabcc_7 rfl hl (by decide) (fun _ => rfl) hpf (fun y ls hl hpf => ?_)
  refine lv_iconst (v := (0 : Int32)) hx hb dJ8_newLength_cabcc_8 (by decide) ?_
  refine lv_iload_n hx hb dJ8_newLength_cabcc_9 rfl (lv_at hl 0 rfl) ?_
  refine b_icmp_ge hx hb 21 10 dJ8_newLength_cabcc_10 (by decide) hpf (fun hpf => nomatch hpf) (fun hpf => ?_)
  refine lv_iload_n hx hb dJ8_newLength_cabcc_13 rfl (lv_at hl 0 rfl) ?_
  refine lv_ldc (v := (2147483639 : Int32)) hx hb X.2.2.2.1 (X.2.2.2.2.1 _ kC_562) dJ8_newLength_cabcc_14 ?_
  refine b_icmp_gt hx hb 21 16 dJ8_newLength_cabcc_16 (by decide) hpf (fun hpf => nomatch hpf) (fun hpf => ?_)
  refine lv_iload_n hx hb dJ8_newLength_cabcc_19 rfl (lv_at hl 0 rfl) ?_
  exact k_reti X I hr 20 dJ8_newLength_cabcc_20 hpf
-- contracts that give a row of references
def kPr (Av : kG → Nat → List Value) (dC : Nat → ClassId) (dI : Nat → Nat → Nat) (g : kG) (sz : Nat) (S : kS) : Array Value → State → Prop := fun v U => (∃ mi, va_Mi "[Ljava/lang/Object;" mi U ∧ v = (Av g mi).toArray) ∧ kPreX dC dI g sz S U
def kQr (dC : Nat → ClassId) (dI : Nat → Nat → Nat) (g : kG) (sz : Nat) (S : kS) (n : Nat) : Array Value → State → Outcome → State → Prop := fun _ st oc t => (∃ q : Nat, oc = .returned (some (.ref q)) ∧ va_P (dC, dI) vwCl (kW g S ++ [(q, kRow g S n)]) t.heap ∧ va_D (kAt g (kn S) (km S) (kp S) sz) (kW g S ++ [(q, kRow g S n)])) ∧ va_F (kAt g (kn S) (km S) (kp S) sz) st t
def kMr (l : Launch) (y : MethodName) (b : ByteArray) (nl d : Nat) (Av : kG → Nat → List Value) (v : Int32) : Prop :=
  ∀ (dC : Nat → ClassId) (dI : Nat → Nat → Nat) (g : kG) (sz : Nat) (S : kS), kp S ≠ 0 → ¬ v < 0 → kOkE S v.toNatClampNeg →
    Met l y (.code y b nl (some (.array (.object "java/lang/Object"))) :: wsC) (xRm d 1 v.toNatClampNeg) (kPr Av dC dI g sz S) (kQr dC dI g sz S v.toNatClampNeg) 1 v.toNatClampNeg (kAt g (kn S) (km S) (kp S) sz)
theorem rBlind {Av : kG → Nat → List Value} {dC : Nat → ClassId} {dI : Nat → Nat → Nat} {g : kG} {n : Nat} {S : kS} : FrameBlind (kPr Av dC dI g n S) := fun a2 U gg mk q => by
  obtain ⟨⟨mi, hM, q0⟩, ⟨q1, qP, qK, qD⟩, qE, qL⟩ := q
  exact ⟨⟨mi, va_Mi.moved (u := U) (U := U.calling gg mk a2) (Vm.Alike.refl U.vm) hM, q0⟩, ⟨q1, qP, va_K.moved (u := U) (U := U.calling gg mk a2) (Vm.Alike.refl U.vm) qK, qD⟩, qE.same (U := U.calling gg mk a2) rfl, qL.to (U := U.calling gg mk a2) (Vm.Alike.refl U.vm) (fun _ _ _ => rfl) (fun _ h => h)⟩
theorem rPre {p : Program} {s : State} {m : MethodId} {meth : Method} {c : Code} {cc : ByteArray} {nL : Nat} {args : Array Value} {own : String} {dC : Nat → ClassId} {dI : Nat → Nat → Nat} {g : kG} {A : Nat → Prop} {S S0 : kS} {H : Heap} {locs : List Loc} (X : kX p s m meth c cc nL args own dC dI g A) (hE : kEx A s s.heap) (hL : kLg g.1 (kp S) g.2.2.2.2 A s s.heap) (I : kV dC dI g A s S0 S H locs) {U : State} (hU : U.heap = H) (hW : s.WarmedH U.vm) : kPreX dC dI g H.size S U :=
  ⟨⟨by rw [hU], by rw [hU]; exact I.1, va_K.moved hW.alike X.2.2.2.2.2.1, I.2.1.weaken (fun _ _ _ _ => trivial)⟩, by rw [hU]; exact hE.to hW I.2.2.1.2.1 (kAt_sub I.2.1 X.2.2.2.2.2.2.2 I.2.2.1.1), by rw [hU]; exact hL.to hW.alike I.2.2.1.2.1 (kAt_sub I.2.1 X.2.2.2.2.2.2.2 I.2.2.1.1)⟩
theorem rStart {l : Launch} {y : MethodName} {b : ByteArray} {nl d : Nat} {Av : kG → Nat → List Value} {v : Int32} (own : String) (hy : plainName y.cls = true) (hyc : y.cls = own) (lv : kG → Nat → List (Nat × Value)) (hn : ∀ g mi, (lg_sl (Av g mi)).length ≤ nl) (hlv : ∀ g mi, lv_args 0 (Av g mi) = lv g mi)
    (body : ∀ (dC : Nat → ClassId) (dI : Nat → Nat → Nat) (g : kG) (sz : Nat) (S : kS), kp S ≠ 0 → ¬ v < 0 → kOkE S v.toNatClampNeg → ∀ (p : Program) (e : Env) (s : State) (m : MethodId) (args : Array Value) (below : List Frame) (meth : Method) (c : Code), kX p s m meth c b nl args own dC dI g (kAt g (kn S) (km S) (kp S) sz) → kEx (kAt g (kn S) (km S) (kp S) sz) s s.heap → kLg g.1 (kp S) g.2.2.2.2 (kAt g (kn S) (km S) (kp S) sz) s s.heap → meth.sig.returnType = some (.array (.object "java/lang/Object")) → ∀ mi : Nat, va_Mi "[Ljava/lang/Object;" mi s → ∀ (H : Heap) (locs : List Loc), kV dC dI g (kAt g (kn S) (km S) (kp S) sz) s S S H locs → ∀ ls : Array Slot, lv_has ls nl (lv g mi) →
      W p l e (xRm d 1 v.toNatClampNeg) s m args below meth c H locs 0 0 (MQ below (kQr dC dI g sz S v.toNatClampNeg) args s 1 v.toNatClampNeg (kAt g (kn S) (km S) (kp S) sz)) (F0 m 0 ls [])) : kMr l y b nl d Av v := by
  intro dC dI g sz S h1 h2 h3
  refine Met.ofW (cc := b) (maxL := nl) (ret := some (.array (.object "java/lang/Object"))) hy rfl ?_
  intro p e s m args below meth c s₁ B hml hv
  obtain ⟨⟨mi, hM, rfl⟩, ⟨hsz, hP, hK, hD0⟩, hE, hL⟩ := hv
  have hts := atoms_spec B.pre
  have hown : s.vm.findClass own = some m.cls := by rw [← hyc]; exact findClass_of_methodNamed B.named
  have hlv0 := lv_entry (Av g mi) (n := nl) (hn g mi)
  rw [lg_entry_eq]
  rw [hlv g mi] at hlv0
  exact body dC dI g sz S h1 h2 h3 p e s m _ below meth c ⟨B.exec, B.bytes, hml, hown, kWords hts, hK, B.notSynchronized, fun q hq => Or.inr (by rw [← hsz]; exact hq)⟩ hE hL B.returns mi hM s.heap [] ⟨hP, kD_self sz hD0, va_S.rf, kSm.rf⟩ _ hlv0
theorem r_end {p : Program} {l : Launch} {e : Env} {R : Room} {s : State} {m : MethodId} {args : Array Value} {below : List Frame} {meth : Method} {c : Code} {H : Heap} {locs : List Loc} {cells slots : Nat} {cc : ByteArray} {nL : Nat} {ls : Array Slot} {dC : Nat → ClassId} {dI : Nat → Nat → Nat} {g : kG} {S : kS} {own : String} {sz n q : Nat} (X : kX p s m meth c cc nL args own dC dI g (kAt g (kn S) (km S) (kp S) sz)) (hP : va_P (dC, dI) vwCl (kW g S ++ [(q, kRow g S n)]) H) (hD : va_D (kAt g (kn S) (km S) (kp S) sz) (kW g S ++ [(q, kRow g S n)])) (hS : va_S (kAt g (kn S) (km S) (kp S) sz) s.heap H locs) (hr : meth.sig.returnType = some (.array (.object "java/lang/Object"))) (hcm : cells ≤ 1 ∧ slots ≤ n) (pc : Nat) (hdg : decode cc pc = .ok (.areturn, 1)) :
    W p l e R s m args below meth c H locs cells slots (MQ below (kQr dC dI g sz S n) args s 1 n (kAt g (kn S) (km S) (kp S) sz)) (F0 m pc ls [.ref q]) :=
  W.widen hcm.1 hcm.2 (W.aret X.1 X.2.1 hr (Or.inr ⟨_, rfl⟩) (Or.inr ⟨_, rfl⟩) (fun t ht _ => ⟨⟨q, rfl, by rw [ht]; exact hP, hD⟩, hS.F ht⟩) hS.2.2 hdg X.2.2.2.2.2.2.1)
theorem r_back {p : Program} {l : Launch} {e : Env} {R : Room} {s : State} {m : MethodId} {args : Array Value} {below : List Frame} {meth : Method} {c : Code} {H : Heap} {locs : List Loc} {cells slots : Nat} {Q : State → Prop} {ls : Array Slot} {rest : List Value} {dC : Nat → ClassId} {dI : Nat → Nat → Nat} {g : kG} {A : Nat → Prop} {S S0 : kS} {pc n : Nat} {st0 : List Value} {a : Array Value} (I : kV dC dI g A s S0 S H locs) (hA : ∀ q, s.heap.size ≤ q → A q)
    (hr : va_Run p l e R s m args below meth c H locs cells slots 1 n (F0 m pc ls st0) rest (kQr dC dI g H.size S n a) (kAt g (kn S) (km S) (kp S) H.size))
    (kk : ∀ (q : Nat) (H1 : Heap) (locs1 : List Loc), va_P (dC, dI) vwCl (kW g S ++ [(q, kRow g S n)]) H1 → va_D A (kW g S ++ [(q, kRow g S n)]) → va_S A s.heap H1 locs1 → W p l e R s m args below meth c H1 locs1 (cells + 1) (slots + n) Q (F0 m (pc + 3) ls (.ref q :: rest))) : W p l e R s m args below meth c H locs cells slots Q (F0 m pc ls st0) := by
  intro T hT X
  obtain ⟨v, st₀, t, T', L, h0, X', hL, e1, e2, ⟨⟨q, hv, hP, hD⟩, hz2, hk⟩, st⟩ := hr T hT X
  cases hv
  rw [h0] at hz2 hk
  have hS := I.2.2.1
  have hf := kAt_sub I.2.1 hA hS.1
  obtain ⟨t2, a1, b1⟩ := kk q T'.heap (locs ++ L) (by rw [e1]; exact hP) (hD.weaken (fun _ _ _ h => hf _ h)) ⟨Nat.le_trans hS.1 (by rw [e1]; exact hz2), fun q h1 h2 => by rw [e1, hk q (Nat.lt_of_lt_of_le h1 hS.1) (fun z => h2 (hf q z))]; exact hS.2.1 q h1 h2, fun q hq => by
      rcases List.mem_append.mp hq with h | h
      · exact hS.2.2 q h
      · exact hf _ (hL q h)⟩ T' rfl X'
  exact ⟨t2, st t2 a1, b1⟩
theorem k_anyU {dC : Nat → ClassId} {dI : Nat → Nat → Nat} {g : kG} {S : kS} {s : State} {H : Heap} {ws : va_W} (h6 : va_K (dC, dI) vwCl (kTy g) s) (hP : va_P (dC, dI) vwCl (kW g S ++ ws) H) (hN : kNw s) {k : Nat} (hk : k < kn S) : va_Any "java/lang/Object" s H (g.2.2.1 k) := by
  refine va_rAny h6 hP (va_at_app (kO_U k g S hk)) (r := (RX0, TX0, 9)) rfl (fun comp c0 h1 h2 => ?_)
  obtain ⟨c0', t0', f1, f2, f3⟩ := Cond.castable_spec (va_Nw.use (A := #[]) rfl hN.2.2.2.2)
  cases h2.symm.trans f1
  cases h1.symm.trans f2
  exact f3
set_option maxRecDepth 100000 in
set_option maxHeartbeats 4000000 in
theorem c_copyOf3 (l : Launch) (x1 : Int32) : kMr l yJ7_copyOf_6403c cJ7_copyOf_6403c 4 1 (fun g mi => [.ref g.2.2.2.2, .int x1, .ref mi]) x1 := by
  refine rStart RJ7 (by decide +kernel) rfl (fun g mi => [(0, .ref g.2.2.2.2), (1, .int x1), (2, .ref mi)]) (fun _ _ => Nat.le_of_ble_eq_true rfl) (fun _ _ => rfl) ?_
  intro dC dI g sz S hp0 hv ⟨ok1, ok2, ok3, ok4⟩ p e s m args below meth c X hE hL hr mi hM H locs I ls hl
  have hx := X.1
  have hb := X.2.1
  have h5 := X.2.2.2.2.1
  have h6 := X.2.2.2.2.2.1
  have hN : kNw s := hE.2.2.2
  refine lv_aload_n hx hb dJ7_copyOf_6403c_0 rfl (lv_at hl 2 rfl) ?_
  refine va_ldcM hx hb X.2.2.2.1 (h5 _ kC_576) hM dJ7_copyOf_6403c_1 ?_
  refine lv_acmp_ne (rx := some mi) (ry := some mi) (tgt := 13) hx hb dJ7_copyOf_6403c_3 (by decide) (fun h => absurd rfl h) (fun _ => ?_)
  refine lv_iload_n hx hb dJ7_copyOf_6403c_6 rfl (lv_at hl 1 rfl) ?_
  refine va_newq (N' := x1.toNatClampNeg) hx hb X.2.2.2.1 (h5 _ kC_577) hN.2.2.2.1 h6 I.1 I.2.1 I.2.2.1 X.2.2.2.2.2.2.2 hv rfl (by omega) (Nat.le_refl _) (by show 0 + _ ≤ x1.toNatClampNeg; omega) dJ7_copyOf_6403c_7 (fun q cA H1 hK1 hP1 hD1 hS1 => ?_)
  have hcA := kA3_eq hK1
  subst hcA
  refine lv_goto (tgt := 24) hx hb dJ7_copyOf_6403c_10 (by decide) ?_
  refine lv_astore_n (lv' := [(3, .ref q), (0, .ref g.2.2.2.2), (1, .int x1), (2, .ref mi)]) hx hb dJ7_copyOf_6403c_24 rfl hl (by decide) rfl (fun ls hl => ?_)
  refine lv_aload_n hx hb dJ7_copyOf_6403c_25 rfl (lv_at hl 1 rfl) ?_
  refine lv_iconst (v := (0 : Int32)) hx hb dJ7_copyOf_6403c_26 (by decide) ?_
  refine lv_aload_n hx hb dJ7_copyOf_6403c_27 rfl (lv_at hl 0 rfl) ?_
  refine lv_iconst (v := (0 : Int32)) hx hb dJ7_copyOf_6403c_28 (by decide) ?_
  refine lv_aload_n hx hb dJ7_copyOf_6403c_29 rfl (lv_at hl 1 rfl) ?_
  refine va_alen hx hb hK1 hP1 _ 3 (va_at_app (kO_E g S hp0)) (ty := .object "java/lang/Object") rfl (v := Int32.ofNat (kp S)) rfl dJ7_copyOf_6403c_30 ?_
  refine lv_iload_n hx hb dJ7_copyOf_6403c_31 rfl (lv_at hl 2 rfl) ?_
  refine k_min (d := 1) ⟨Nat.le_refl _, Nat.le_refl _⟩ (by decide) X hl.1 kC_30 kC_31 kC_32 kC_33 32 dJ7_copyOf_6403c_32 (Nat.le_of_ble_eq_true rfl) ⟨Nat.le_refl _, (by show 0 + _ ≤ x1.toNatClampNeg; omega)⟩ ?_
  rw [if_neg (i32_not_lt (by omega) hv ok1)]
  have hnf : nativeFrameWords "java/lang/System" "arraycopy" 5 + 11 ≤ 32 := by decide +kernel
  have hki : (Int32.ofNat (kp S)).toNatClampNeg = kp S := nat_i32 (by omega)
  have hkz : (0 : Int32).toNatClampNeg = 0 := rfl
  refine va_copyM hx hb (by rw [X.2.2.1]; exact hl.1.symm) X.2.2.2.1 (h5 _ kC_34) (h5 _ kC_35) (h5 _ kC_36) (h5 _ kC_37) hK1 hP1 hD1 hS1 (101 + (kn S + km S)) (kW g S).length 3 3 (va_at_app (kO_E g S hp0)) va_at_last rfl rfl (sp := 0) (dp := 0) (n := Int32.ofNat (kp S)) (by decide) (by decide) (nat_i32_nn (by omega)) (by rw [hki, hkz]; omega) (by rw [hki, hkz]; omega) (fun i hi y hy => ?_) (by show 1 ≤ 1; exact Nat.le_refl _) (by show 0 + _ ≤ 40; omega) dJ7_copyOf_6403c_35 (fun H2 locs2 hP2 hD2 hS2 => ?_)
  · rw [hki] at hi
    rw [hkz, Nat.zero_add] at hy
    cases hk : kE S i with
    | none => rw [hk] at hy; cases hy
    | some k =>
      rw [hk] at hy
      cases hy
      exact k_anyU h6 hP1 hN (ok4 i hi k hk)
  · rw [va_set_last, hki, hkz] at hP2 hD2
    refine lv_aload_n hx hb dJ7_copyOf_6403c_38 rfl (lv_at hl 0 rfl) ?_
    exact r_end X hP2 hD2 hS2 hr ⟨Nat.le_refl _, by omega⟩ 39 dJ7_copyOf_6403c_39
set_option maxRecDepth 100000 in
set_option maxHeartbeats 4000000 in
theorem c_copyOf2 (l : Launch) (x1 : Int32) : kMr l yJ7_copyOf_1904c cJ7_copyOf_1904c 2 2 (fun g mi => [.ref g.2.2.2.2, .int x1]) x1 := by
  refine rStart RJ7 (by decide +kernel) rfl (fun g mi => [(0, .ref g.2.2.2.2), (1, .int x1)]) (fun _ _ => Nat.le_of_ble_eq_true rfl) (fun _ _ => rfl) ?_
  intro dC dI g sz S hp0 hv ok p e s m args below meth c X hE hL hr mi hM H locs I ls hl
  have hx := X.1
  have hb := X.2.1
  have h5 := X.2.2.2.2.1
  have h6 := X.2.2.2.2.2.1
  have hN : kNw s := hE.2.2.2
  obtain ⟨⟨x1', x2', x4, x5, x6⟩, x7⟩ := fn_J7_J7_copyOf_6403c
  refine lv_aload_n hx hb dJ7_copyOf_1904c_0 rfl (lv_at hl 0 rfl) ?_
  refine lv_iload_n hx hb dJ7_copyOf_1904c_1 rfl (lv_at hl 1 rfl) ?_
  refine lv_aload_n hx hb dJ7_copyOf_1904c_2 rfl (lv_at hl 0 rfl) ?_
  refine va_getC (C := "[Ljava/lang/Object;") (mi := mi) hx hb (by rw [X.2.2.1]; exact hl.1.symm) X.2.2.2.1 (h5 _ kC_569) (va_Dc.use hN.2.2.1) (h5 _ kC_570) (h5 _ kC_571) (h5 _ kC_572) hM ⟨_, I.1 _ _ (kO_E g S hp0), rfl, kA3_nm h6⟩ (by show 1 ≤ 2; decide) (by show 2 + 14 ≤ 80; decide) dJ7_copyOf_1904c_3 ?_
  refine r_back (rest := []) (a := [Value.ref g.2.2.2.2, .int x1, .ref mi].toArray) I X.2.2.2.2.2.2.2 (va_runS (Ts := wsC) (own := RJ7) (As := [.ref g.2.2.2.2, .int x1, .ref mi]) (rest := []) ⟨hx, hb, X.2.2.1, X.2.2.2.1, h5⟩ (c_copyOf3 l x1 dC dI g H.size S hp0 hv ok) ⟨callB_of 3 h5 (kGoodC x4) rfl rfl rfl (h5 _ x2') (h5 _ x1') x5 (xRoom (d := 2) ⟨Nat.le_refl _, Nat.le_refl _⟩ (by decide) x6), h5 _ x7⟩ ⟨rBlind, fun U hU hW2 => ⟨⟨mi, va_Mi.moved hW2.alike hM, rfl⟩, rPre X hE hL I hU hW2⟩⟩ rfl rfl hl.1 rfl (lv_room (Nat.le_of_ble_eq_true rfl)) dJ7_copyOf_1904c_6 ⟨Nat.le_refl _, by show 0 + _ ≤ x1.toNatClampNeg; omega⟩) (fun q H1 locs1 hP hD hS => ?_)
  exact r_end X hP hD hS hr ⟨Nat.le_refl _, by omega⟩ 9 dJ7_copyOf_1904c_9
/-- the log's row grows -/
noncomputable def pGrow (x1 : Int32) (S : kS) : Option ((Unit ⊕ Nat) × kS) :=
  if 0 < Int32.ofNat (kp S) then bk (pNewLen (Int32.ofNat (kp S)) (x1 - Int32.ofNat (kp S)) (Int32.ofNat (kp S) >>> ((1 : Int32) &&& 31)) S) fun v S1 => gP (kp S1 ≠ 0 ∧ ¬ v < 0 ∧ kOkE S1 v.toNatClampNeg) (some (.inl (), nE S1 v.toNatClampNeg))
  else gP (kp S = 0 ∧ ¬ (if (10 : Int32) < x1 then x1 else 10) < 0 ∧ kOkE S (if (10 : Int32) < x1 then x1 else 10).toNatClampNeg) (some (.inl (), nE S (if (10 : Int32) < x1 then x1 else 10).toNatClampNeg))
set_option maxRecDepth 100000 in
set_option maxHeartbeats 4000000 in
theorem c_Log_growN (l : Launch) (hlt : l.stackTraces = false) (x1 : Int32) : kMx l yJx4a65c_grow_92f84 cJx4a65c_grow_92f84 4 (some (.array (.object "java/lang/Object"))) 3 1 366 (fun g => [.ref (g.2.1 17), .int x1]) rE (pGrow x1) := by
  refine xStart hlt RJx4a65c (by decide +kernel) rfl (fun g => [(0, .ref (g.2.1 17)), (1, .int x1)]) (fun _ => Nat.le_of_ble_eq_true rfl) (fun _ => rfl) ?_
  intro dC dI g sz Si o Sf hpf p e s m args below meth c X XX hr H locs I hc ls hl
  have hx := X.1
  have hb := X.2.1
  have h5 := X.2.2.2.2.1
  have h6 := X.2.2.2.2.2.1
  have hN : kNw s := XX.2.2.1.2.2.2
  unfold pGrow at hpf
  refine lv_aload_n hx hb dJx4a65c_grow_92f84_0 rfl (lv_at hl 0 rfl) ?_
  refine k_getL X I 1 (by decide) rfl rfl kC_435 1 dJx4a65c_grow_92f84_1 ?_
  refine k_lenE X I XX.2.2.2 4 dJx4a65c_grow_92f84_4 ?_
  refine lv_istore_n (lv' := [(2, .int (Int32.ofNat (kp Si))), (0, .ref (g.2.1 17)), (1, .int x1)]) hx hb dJx4a65c_grow_92f84_5 rfl hl (by decide) rfl (fun ls hl => ?_)
  refine lv_iload_n hx hb dJx4a65c_grow_92f84_6 rfl (lv_at hl 0 rfl) ?_
  refine b_if_gt hx hb 20 7 dJx4a65c_grow_92f84_7 (by decide) hpf (fun hpf => ?_) (fun hpf => ?_)
  · refine lv_iload_n hx hb dJx4a65c_grow_92f84_20 rfl (lv_at hl 0 rfl) ?_
    refine lv_iload_n hx hb dJx4a65c_grow_92f84_21 rfl (lv_at hl 2 rfl) ?_
    refine lv_iload_n hx hb dJx4a65c_grow_92f84_22 rfl (lv_at hl 0 rfl) ?_
    refine lv_isub hx hb dJx4a65c_grow_92f84_23 ?_
    refine lv_iload_n hx hb dJx4a65c_grow_92f84_24 rfl (lv_at hl 0 rfl) ?_
    refine lv_iconst (v := (1 : Int32)) hx hb dJx4a65c_grow_92f84_25 (by decide) ?_
    refine lv_ishr hx hb dJx4a65c_grow_92f84_26 ?_
    refine k_cSi (rest := []) (As := [.int (Int32.ofNat (kp Si)), .int (x1 - Int32.ofNat (kp Si)), .int (Int32.ofNat (kp Si) >>> ((1 : Int32) &&& 31))]) (d := 3) ⟨Nat.le_refl _, Nat.le_refl _⟩ X I fn_Jx4a65c_J8_newLength_cabcc (c_newLength l (Int32.ofNat (kp Si)) (x1 - Int32.ofNat (kp Si)) (Int32.ofNat (kp Si) >>> ((1 : Int32) &&& 31))) rfl (by decide) 27 dJx4a65c_grow_92f84_27 rfl hl.1 rfl (Nat.le_of_ble_eq_true rfl) ⟨Nat.zero_le _, Nat.zero_le _⟩ hpf (fun v S1 H locs I hm hpf => ?_)
    obtain ⟨⟨hp0, hv, ok⟩, hpf⟩ := gP_some hpf
    refine lv_istore_n (lv' := [(3, .int v), (2, .int (Int32.ofNat (kp Si))), (0, .ref (g.2.1 17)), (1, .int x1)]) hx hb dJx4a65c_grow_92f84_30 rfl hl (by decide) rfl (fun ls hl => ?_)
    refine lv_aload_n hx hb dJx4a65c_grow_92f84_31 rfl (lv_at hl 2 rfl) ?_
    refine lv_aload_n hx hb dJx4a65c_grow_92f84_32 rfl (lv_at hl 2 rfl) ?_
    refine k_getL X I 1 (by decide) rfl rfl kC_435 33 dJx4a65c_grow_92f84_33 ?_
    refine lv_iload_n hx hb dJx4a65c_grow_92f84_36 rfl (lv_at hl 0 rfl) ?_
    obtain ⟨⟨x1', x2', x4, x5, x6⟩, x7⟩ := fn_Jx4a65c_J7_copyOf_1904c
    have hL1 : kLg g.1 (kp S1) g.2.2.2.2 (kAt g (kn Si) (km Si) (kp Si) sz) s s.heap := fun h0 => absurd h0 hp0
    refine r_back (rest := [.ref (g.2.1 17)]) (a := [Value.ref g.2.2.2.2, .int v].toArray) I X.2.2.2.2.2.2.2 (va_runS (Ts := wsC) (own := RJx4a65c) (As := [.ref g.2.2.2.2, .int v]) (rest := [.ref (g.2.1 17)]) ⟨hx, hb, X.2.2.1, X.2.2.2.1, h5⟩ (c_copyOf2 l v dC dI g H.size S1 hp0 hv ok) ⟨callB_of 2 h5 (kGoodC x4) rfl rfl rfl (h5 _ x2') (h5 _ x1') x5 (xRoom (d := 3) ⟨Nat.le_refl _, Nat.le_refl _⟩ (by decide) x6), h5 _ x7⟩ ⟨rBlind, fun U hU hW2 => ⟨hN.2.1.imp (fun mi hM => ⟨va_Mi.moved hW2.alike hM, rfl⟩), rPre X XX.2.2.1 hL1 I hU hW2⟩⟩ rfl rfl hl.1 rfl (lv_room (Nat.le_of_ble_eq_true rfl)) dJx4a65c_grow_92f84_37 ⟨Nat.le_refl _, by have := ok.2.1; show 0 + _ ≤ 366; omega⟩) (fun q H1 locs1 hP hD hS => ?_)
    refine lv_dup_x1 hx hb dJx4a65c_grow_92f84_40 rfl rfl ?_
    refine k_putE ok.2.2.1 X hP hD hS kC_435 41 dJx4a65c_grow_92f84_41 (fun H locs I => ?_)
    exact x_reta (cE := q) (kX_to X g.2.2.1 g.2.2.2.1 q) I ⟨Nat.le_of_eq hm.1.symm, fun _ _ => rfl, fun h => absurd h ok.2.2.1⟩ hr (Or.inr ⟨_, rfl⟩) ⟨Nat.le_refl _, (by have := ok.2.1; show 0 + _ ≤ 366; omega)⟩ 44 dJx4a65c_grow_92f84_44 rfl hpf
  · obtain ⟨⟨hk0, hv, ok⟩, hpf⟩ := gP_some hpf
    obtain ⟨hZ, -, -⟩ := XX.2.2.2 hk0
    refine lv_aload_n hx hb dJx4a65c_grow_92f84_10 rfl (lv_at hl 1 rfl) ?_
    refine k_getL X I 1 (by decide) rfl rfl kC_435 11 dJx4a65c_grow_92f84_11 ?_
    refine va_gets hx hb hZ I.2.2.1 X.2.2.2.1 (h5 _ kC_434) (fun _ h => h) dJx4a65c_grow_92f84_14 ?_
    refine lv_acmp_eq (rx := some g.2.2.2.2) (ry := some g.2.2.2.2) (tgt := 45) hx hb dJx4a65c_grow_92f84_17 (by decide) (fun _ => ?_) (fun h => absurd rfl h)
    refine lv_aload_n hx hb dJx4a65c_grow_92f84_45 rfl (lv_at hl 1 rfl) ?_
    refine lv_bipush (v := (10 : Int32)) hx hb dJx4a65c_grow_92f84_46 (by decide) ?_
    refine lv_iload_n hx hb dJx4a65c_grow_92f84_48 rfl (lv_at hl 2 rfl) ?_
    refine k_max (d := 3) ⟨Nat.le_refl _, Nat.le_refl _⟩ (by decide) X hl.1 kC_555 kC_293 kC_32 kC_294 49 dJx4a65c_grow_92f84_49 (Nat.le_of_ble_eq_true rfl) ⟨Nat.zero_le _, Nat.zero_le _⟩ ?_
    refine va_newq (N' := (if (10 : Int32) < x1 then x1 else 10).toNatClampNeg) hx hb X.2.2.2.1 (h5 _ kC_556) hN.2.2.2.1 h6 I.1 I.2.1 I.2.2.1 X.2.2.2.2.2.2.2 hv rfl (by have := ok.2.1; omega) (Nat.le_refl _) (by have := ok.2.1; show 0 + _ ≤ 366; omega) dJx4a65c_grow_92f84_52 (fun q cA H1 hK1 hP1 hD1 hS1 => ?_)
    have hcA := kA3_eq hK1
    subst hcA
    have hrow : ((q, .inl (g.1 3, (if (10 : Int32) < x1 then x1 else 10).toNatClampNeg, .inr (.inr (.inr (.inr (fun _ => none)))))) : Nat × va_E) = (q, kRow g Si (if (10 : Int32) < x1 then x1 else 10).toNatClampNeg) := by
      unfold kRow
      have : va_cpy (fun i => (kE Si i).map g.2.2.1) (fun _ => none) 0 0 (kp Si) = (fun _ => (none : Option Nat)) := by
        funext i
        show (if 0 ≤ i ∧ i < 0 + kp Si then (kE Si (0 + (i - 0))).map g.2.2.1 else none) = none
        rw [if_neg (by omega)]
      rw [this]
    rw [hrow] at hP1 hD1
    refine lv_dup_x1 hx hb dJx4a65c_grow_92f84_55 rfl rfl ?_
    refine k_putE ok.2.2.1 X hP1 hD1 hS1 kC_435 56 dJx4a65c_grow_92f84_56 (fun H locs I => ?_)
    exact x_reta (cE := q) (kX_to X g.2.2.1 g.2.2.2.1 q) I ⟨Nat.le_refl _, fun _ _ => rfl, fun h => absurd h ok.2.2.1⟩ hr (Or.inr ⟨_, rfl⟩) ⟨Nat.le_refl _, (by have := ok.2.1; show 0 + _ ≤ 366; omega)⟩ 59 dJx4a65c_grow_92f84_59 rfl hpf
