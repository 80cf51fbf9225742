def xStr : List (Nat × String) := [(73, "there are 10 attributes"), (92, "no such attribute"), (98, "there are 8 classes"), (123, "there are 12 drafted values"), (235, "no such saying"), (250, "both are the same, or most is out of range"), (305, "fewer than two filters, or 15 parts"), (311, "no filter, or 15 parts"), (333, "not found so many"), (362, "no such sort"), (381, "no such master"), (383, "no such user"), (385, "no such entry there"), (387, "the root cannot be changed"), (392, "no such class"), (394, "no such scope"), (396, "no such right"), (398, "index is below 0"), (400, "value is out of range"), (402, "name is out of range"), (404, "the operation is not taken"), (406, "there are 250 changes"), (408, "the user may not write"), (413, "a sibling is shown with the name"), (415, "8 filters, or 15 parts"), (417, "not just one filter")]
def xN (k : Nat) : String := if k = 1 then "java/lang/IndexOutOfBoundsException" else if k = 2 then "java/lang/IllegalArgumentException" else "java/lang/IllegalStateException"
def xNm : List String := ["java/lang/RuntimeException", "java/lang/Exception"]
def xDs : List String := ["java/lang/RuntimeException", "java/lang/Exception", Bundle.tN]
/-- the index of the class, of its constructor -/
def xK (k : Nat) : Nat := if k = 1 then 90 else if k = 2 then 233 else 71
def xC (k : Nat) : Nat := if k = 1 then 94 else if k = 2 then 237 else 75
theorem xIn_1 : ∀ w ∈ (vx_atS RX9 94 "java/lang/IndexOutOfBoundsException" xNm).filter goodWord, w ∈ wsC := fun w h => List.mem_append_right _ (List.mem_append_right _ (List.mem_append_left _ (List.mem_append_left _ h)))
theorem xB_1 : ∀ w ∈ (vx_atS RX9 94 "java/lang/IndexOutOfBoundsException" xNm).filter (fun w => !goodWord w), w ∈ Cond.castable "java/lang/IndexOutOfBoundsException" "java/lang/IndexOutOfBoundsException" :: xDs.map (fun n => Cond.declares (Bundle.initS n)) := by decide +kernel
theorem xOt_1 : (vx_atS RX9 94 "java/lang/IndexOutOfBoundsException" xNm).all vx_ot = true := by decide +kernel
theorem xHat_1 {args : Array Value} {s : State} (h5 : ∀ w ∈ wsC, w.before args s = true) (hc : va_Nw (.castable "java/lang/IndexOutOfBoundsException" "java/lang/IndexOutOfBoundsException") s) (hd : ∀ n ∈ xDs, va_Nw (.declares (Bundle.initS n)) s) : ∀ w ∈ vx_atS RX9 94 "java/lang/IndexOutOfBoundsException" xNm, w.before args s = true := vx_hat (fun w h => h5 w (xIn_1 w h)) xB_1 (fun w hw => by
  rcases List.mem_cons.mp hw with rfl | hw
  · exact va_Nw.use rfl hc
  · obtain ⟨n, hn, rfl⟩ := List.mem_map.mp hw
    exact va_Nw.use rfl (hd n hn))
theorem xIn_2 : ∀ w ∈ (vx_atS RX9 237 "java/lang/IllegalArgumentException" xNm).filter goodWord, w ∈ wsC := fun w h => List.mem_append_right _ (List.mem_append_right _ (List.mem_append_right _ h))
theorem xB_2 : ∀ w ∈ (vx_atS RX9 237 "java/lang/IllegalArgumentException" xNm).filter (fun w => !goodWord w), w ∈ Cond.castable "java/lang/IllegalArgumentException" "java/lang/IllegalArgumentException" :: xDs.map (fun n => Cond.declares (Bundle.initS n)) := by decide +kernel
theorem xOt_2 : (vx_atS RX9 237 "java/lang/IllegalArgumentException" xNm).all vx_ot = true := by decide +kernel
theorem xHat_2 {args : Array Value} {s : State} (h5 : ∀ w ∈ wsC, w.before args s = true) (hc : va_Nw (.castable "java/lang/IllegalArgumentException" "java/lang/IllegalArgumentException") s) (hd : ∀ n ∈ xDs, va_Nw (.declares (Bundle.initS n)) s) : ∀ w ∈ vx_atS RX9 237 "java/lang/IllegalArgumentException" xNm, w.before args s = true := vx_hat (fun w h => h5 w (xIn_2 w h)) xB_2 (fun w hw => by
  rcases List.mem_cons.mp hw with rfl | hw
  · exact va_Nw.use rfl hc
  · obtain ⟨n, hn, rfl⟩ := List.mem_map.mp hw
    exact va_Nw.use rfl (hd n hn))
theorem xIn_3 : ∀ w ∈ (vx_atS RX9 75 "java/lang/IllegalStateException" xNm).filter goodWord, w ∈ wsC := fun w h => List.mem_append_right _ (List.mem_append_right _ (List.mem_append_left _ (List.mem_append_right _ h)))
theorem xB_3 : ∀ w ∈ (vx_atS RX9 75 "java/lang/IllegalStateException" xNm).filter (fun w => !goodWord w), w ∈ Cond.castable "java/lang/IllegalStateException" "java/lang/IllegalStateException" :: xDs.map (fun n => Cond.declares (Bundle.initS n)) := by decide +kernel
theorem xOt_3 : (vx_atS RX9 75 "java/lang/IllegalStateException" xNm).all vx_ot = true := by decide +kernel
theorem xHat_3 {args : Array Value} {s : State} (h5 : ∀ w ∈ wsC, w.before args s = true) (hc : va_Nw (.castable "java/lang/IllegalStateException" "java/lang/IllegalStateException") s) (hd : ∀ n ∈ xDs, va_Nw (.declares (Bundle.initS n)) s) : ∀ w ∈ vx_atS RX9 75 "java/lang/IllegalStateException" xNm, w.before args s = true := vx_hat (fun w h => h5 w (xIn_3 w h)) xB_3 (fun w hw => by
  rcases List.mem_cons.mp hw with rfl | hw
  · exact va_Nw.use rfl hc
  · obtain ⟨n, hn, rfl⟩ := List.mem_map.mp hw
    exact va_Nw.use rfl (hd n hn))
/-- what a throw stands on: the texts, two statics of Throwable -/
def kEx (A : Nat → Prop) (s : State) (H : Heap) : Prop := ((∀ q ∈ xStr, ∃ sa, vk_R RX9 q.1 q.2 sa s) ∧ (∀ k : Nat, va_Nw (.castable (xN k) (xN k)) s) ∧ ∀ n ∈ xDs, va_Nw (.declares (Bundle.initS n)) s) ∧ vx_Zq Bundle.tN "UNASSIGNED_STACK" Bundle.steD A s H ∧ vx_Zq Bundle.tN "SUPPRESSED_SENTINEL" Bundle.listD A s H
theorem kEx.to {A B : Nat → Prop} {s U : State} {H H1 : Heap} (h : kEx A s H) (hW : s.WarmedH U.vm) (hk : ∀ q : Nat, q < H.size → ¬ A q → H1[q]? = H[q]?) (hAB : ∀ q, B q → A q) : kEx B U H1 :=
  ⟨⟨fun q hq => (h.1.1 q hq).imp (fun _ hv => vk_R.warm hW hv), fun k => va_Nw.warmC hW (h.1.2.1 k), fun n hn => va_Nw.warmD hW (h.1.2.2 n hn)⟩, (vx_Zq.moved hW.alike (h.2.1.kept hk)).narrow hAB, (vx_Zq.moved hW.alike (h.2.2.kept hk)).narrow hAB⟩
theorem kEx.same {A : Nat → Prop} {s U : State} {H : Heap} (h : kEx A s H) (hv : U.vm = s.vm) : kEx A U H :=
  ⟨⟨fun q hq => (h.1.1 q hq).imp (fun _ h9 => vk_R.same hv h9), fun k => va_Nw.same rfl hv.symm (h.1.2.1 k), fun n hn => va_Nw.same rfl hv.symm (h.1.2.2 n hn)⟩, vx_Zq.moved (by rw [hv]; exact Vm.Alike.refl _) h.2.1, vx_Zq.moved (by rw [hv]; exact Vm.Alike.refl _) h.2.2⟩
def kPreX (dC : Nat → ClassId) (dI : Nat → Nat → Nat) (g : kG) (sz : Nat) (S : kS) : State → Prop := fun U => kPre dC dI g sz S U ∧ kEx (kAt g (kn S) (km S) (kp S) sz) U U.heap
/-- the world behind a method that may make cells -/
def kWx (dC : Nat → ClassId) (dI : Nat → Nat → Nat) (g : kG) (sz : Nat) (S0 S' : kS) (t : State) : Prop :=
  ∃ (cc cd : Nat → Nat) (ce : Nat), (∀ k, k < kn S0 → cc k = g.2.2.1 k) ∧ va_P (dC, dI) vwCl (kW (g.1, g.2.1, cc, cd, ce) S') t.heap ∧ va_D (kAt g (kn S0) (km S0) (kp S0) sz) (kW (g.1, g.2.1, cc, cd, ce) S')
def kQx {α : Type} (dC : Nat → ClassId) (dI : Nat → Nat → Nat) (g : kG) (sz : Nat) (S0 : kS) (Rv : kG → α → Option Value) (o : α ⊕ Nat) (S' : kS) : Array Value → State → Outcome → State → Prop := fun _ st oc t =>
  (∃ v, o = .inl v ∧ oc = .returned (Rv g v) ∧ kWx dC dI g sz S0 S' t) ∧ va_F (kAt g (kn S0) (km S0) (kp S0) sz) st t
def kXx {α : Type} (dC : Nat → ClassId) (dI : Nat → Nat → Nat) (g : kG) (sz : Nat) (S0 : kS) (o : α ⊕ Nat) (S' : kS) : String → State → State → Prop := fun E st t =>
  (∃ k, o = .inr k ∧ E = xN k ∧ kWx dC dI g sz S0 S' t) ∧ va_F (kAt g (kn S0) (km S0) (kp S0) sz) st t
def xRm (d mc ms : Nat) : Room := { frames := d, cells := mc, slots := ms, locals := 40 * d }
/-- a contract of a method that may throw, and may make cells -/
def kMx {α : Type} (l : Launch) (y : MethodName) (b : ByteArray) (nl : Nat) (ret : Option FieldType) (d mc ms : Nat) (Av : kG → List Value) (Rv : kG → α → Option Value) (f : kS → Option ((α ⊕ Nat) × kS)) : Prop :=
  ∀ (dC : Nat → ClassId) (dI : Nat → Nat → Nat) (g : kG) (sz : Nat) (S : kS) (o : α ⊕ Nat) (S' : kS), f S = some (o, S') →
    vx_Met l y (.code y b nl ret :: wsC) (xRm d mc ms) (va_Pc (Av g) (kPreX dC dI g sz S)) (kQx dC dI g sz S Rv o S') (kXx dC dI g sz S o S') mc ms (kAt g (kn S) (km S) (kp S) sz)
/-- on behind a call that may throw -/
def bx {α β : Type} (o : Option ((α ⊕ Nat) × kS)) (k : α → kS → Option ((β ⊕ Nat) × kS)) : Option ((β ⊕ Nat) × kS) := match o with
  | none => none
  | some (.inl v, S) => k v S
  | some (.inr e, S) => some (.inr e, S)
def zx (v : Int32) (S : kS) : Option ((Int32 ⊕ Nat) × kS) := if vp_nar .boolean v = v then some (.inl v, S) else none
theorem bx_some {α β : Type} {o : Option ((α ⊕ Nat) × kS)} {k : α → kS → Option ((β ⊕ Nat) × kS)} {r : (β ⊕ Nat) × kS} (h : bx o k = some r) : ∃ w S, o = some (w, S) ∧ ((∃ v, w = .inl v ∧ k v S = some r) ∨ (∃ e, w = .inr e ∧ r = (.inr e, S))) := by
  match o, h with
  | some (.inl v, S), h => exact ⟨.inl v, S, rfl, Or.inl ⟨v, rfl, h⟩⟩
  | some (.inr e, S), h => exact ⟨.inr e, S, rfl, Or.inr ⟨e, rfl, (Option.some.inj h).symm⟩⟩
section XR
variable {p : Program} {l : Launch} {e : Env} {s : State} {m : MethodId} {args : Array Value} {below : List Frame} {meth : Method} {c : Code} {H : Heap} {locs : List Loc} {cells slots : Nat} {R : Room}
variable {cc : ByteArray} {nL : Nat} {ls : Array Slot} {rest : List Value} {dC : Nat → ClassId} {dI : Nat → Nat → Nat} {G g : kG} {A : Nat → Prop} {S S0 Si Sf : kS} {own : String} {γ : Type} {Rg : kG → γ → Option Value} {o : γ ⊕ Nat} {sz MC MS : Nat}
/-- what is known besides in a method that may throw: no handler, no stack traces, the texts -/
def kXX (l : Launch) (s : State) (c : Code) (A : Nat → Prop) : Prop := (∀ x ∈ c.exceptionTable.toList, False) ∧ l.stackTraces = false ∧ kEx A s s.heap
/-- the walk's cells against the method's start -/
def kGs (g G : kG) (Si : kS) : Prop := G.1 = g.1 ∧ G.2.1 = g.2.1 ∧ ∀ k, k < kn Si → G.2.2.1 k = g.2.2.1 k
theorem kWx_of {t : State} {cC cD : Nat → Nat} {cE : Nat} (I : kV dC dI (g.1, g.2.1, cC, cD, cE) (kAt g (kn Si) (km Si) (kp Si) sz) s S0 S H locs) (hc : ∀ k, k < kn Si → cC k = g.2.2.1 k) (ht : t.heap = H) : kWx dC dI g sz Si S t :=
  ⟨cC, cD, cE, hc, by rw [ht]; exact I.1, I.2.1⟩
theorem x_throw {cC cD : Nat → Nat} {cE : Nat} (k : Nat) (hk : k = 1 ∨ k = 2 ∨ k = 3) (X : kX p s m meth c cc nL args RX9 dC dI (g.1, g.2.1, cC, cD, cE) (kAt g (kn Si) (km Si) (kp Si) sz)) (XX : kXX l s c (kAt g (kn Si) (km Si) (kp Si) sz)) (I : kV dC dI (g.1, g.2.1, cC, cD, cE) (kAt g (kn Si) (km Si) (kp Si) sz) s S0 S H locs) (hc : ∀ k, k < kn Si → cC k = g.2.2.1 k) {is : Nat} {tx : String} (hstr : (is, tx) ∈ xStr) (hsz : ls.size = nL)
    (hR : 5 < R.frames ∧ 90 ≤ R.locals) (hcl : cells + 1 ≤ R.cells ∧ slots + 6 ≤ R.slots) (hcm : cells + 1 ≤ MC ∧ slots + 6 ≤ MS) (hW : (rest.map fun v => v.category).sum ≤ 8) (pc : Nat)
    (d0 : decode cc pc = .ok (.new (xK k), 3)) (d3 : decode cc (pc + 3) = .ok (.dup, 1)) (d4 : decode cc (pc + 4) = .ok (.ldc is, 2)) (d6 : decode cc (pc + 6) = .ok (.invokespecial (xC k), 3)) (d9 : decode cc (pc + 9) = .ok (.athrow, 1))
    (hpf : some ((.inr k : γ ⊕ Nat), S) = some (o, Sf)) : W p l e R s m args below meth c H locs cells slots (vx_MQ below (kQx dC dI g sz Si Rg o Sf) (kXx dC dI g sz Si o Sf) args s MC MS (kAt g (kn Si) (km Si) (kp Si) sz)) (F0 m pc ls rest) := by
  cases hpf
  obtain ⟨t1, t2, t3⟩ := XX
  obtain ⟨sa, hsa⟩ := t3.1.1 _ hstr
  obtain ⟨h1, h2, h3, h4, h5, h6, h7, h8⟩ := X
  have hall : ∃ (cls : String), xN k = cls ∧ Cond.classLink RX9 (xK k) cls ∈ wsC ∧ Cond.initialized cls ∈ wsC ∧ (∀ w ∈ vx_atS RX9 (xC k) cls xNm, w.before args s = true) ∧ Bundle.fit cls = true ∧ (vx_atS RX9 (xC k) cls xNm).all vx_ot = true := by
    have hcs := t3.1.2.1 k
    have hds := t3.1.2.2
    rcases hk with rfl | rfl | rfl
    · exact ⟨_, rfl, kC_468, kC_469, xHat_1 h5 hcs hds, by decide +kernel, xOt_1⟩
    · exact ⟨_, rfl, kC_494, kC_495, xHat_2 h5 hcs hds, by decide +kernel, xOt_2⟩
    · exact ⟨_, rfl, kC_461, kC_462, xHat_3 h5 hcs hds, by decide +kernel, xOt_3⟩
  obtain ⟨cls, hN, w1, w2, w3, hfit, hot⟩ := hall
  refine vx_throwS (text := tx) (names := xNm) h1 h2 t2 h4 hfit (by decide +kernel) (h5 _ w1) (h5 _ w2) hsa w3 (fun w hw => ?_) t3.2.1 t3.2.2 I.2.2.1 (by rw [h3]; exact hsz) d0 d3 d4 d6 d9 (fun x hx => (t1 x hx).elim) (by show 2 + 3 < R.frames; exact hR.1) (by show _ + (13 * (2 + 1) + 43) ≤ R.locals; omega) hcl.1 hcl.2 h7 (fun t hal hz hq => ⟨⟨k, rfl, hN.symm, cC, cD, cE, hc, I.1.kept (fun k q hk => hq q.1 (I.1 k q hk).lt), I.2.1⟩, ⟨Nat.le_trans I.2.2.1.1 hz, fun q hq1 hq2 => by rw [hq q (Nat.lt_of_lt_of_le hq1 I.2.2.1.1)]; exact I.2.2.1.2.1 q hq1 hq2⟩⟩) I.2.2.1.2.2 hcm.1 hcm.2
  rcases List.mem_cons.mp hw with rfl | hw
  · unfold vx_ot; rw [List.all_eq_true.mp wsC_good _ w1, Bool.or_true]
  · rcases List.mem_cons.mp hw with rfl | hw
    · unfold vx_ot; rw [List.all_eq_true.mp wsC_good _ w2, Bool.or_true]
    · exact List.all_eq_true.mp hot w hw
theorem x_throwW {cC cD : Nat → Nat} {cE : Nat} (k : Nat) (hk : k = 1 ∨ k = 2 ∨ k = 3) (X : kX p s m meth c cc nL args RX9 dC dI (g.1, g.2.1, cC, cD, cE) (kAt g (kn Si) (km Si) (kp Si) sz)) (XX : kXX l s c (kAt g (kn Si) (km Si) (kp Si) sz)) (I : kV dC dI (g.1, g.2.1, cC, cD, cE) (kAt g (kn Si) (km Si) (kp Si) sz) s S0 S H locs) (hc : ∀ k, k < kn Si → cC k = g.2.2.1 k) {is : Nat} {tx : String} (hstr : (is, tx) ∈ xStr) (hsz : ls.size = nL)
    (hR : 5 < R.frames ∧ 90 ≤ R.locals) (hcl : cells + 1 ≤ R.cells ∧ slots + 6 ≤ R.slots) (hcm : cells + 1 ≤ MC ∧ slots + 6 ≤ MS) (hW : (rest.map fun v => v.category).sum ≤ 8) (pc : Nat)
    (d0 : decode cc pc = .ok (.new (xK k), 3)) (d3 : decode cc (pc + 3) = .ok (.dup, 1)) (d4 : decode cc (pc + 4) = .ok (.ldc_w is, 3)) (d6 : decode cc (pc + 7) = .ok (.invokespecial (xC k), 3)) (d9 : decode cc (pc + 10) = .ok (.athrow, 1))
    (hpf : some ((.inr k : γ ⊕ Nat), S) = some (o, Sf)) : W p l e R s m args below meth c H locs cells slots (vx_MQ below (kQx dC dI g sz Si Rg o Sf) (kXx dC dI g sz Si o Sf) args s MC MS (kAt g (kn Si) (km Si) (kp Si) sz)) (F0 m pc ls rest) := by
  cases hpf
  obtain ⟨t1, t2, t3⟩ := XX
  obtain ⟨sa, hsa⟩ := t3.1.1 _ hstr
  obtain ⟨h1, h2, h3, h4, h5, h6, h7, h8⟩ := X
  have hall : ∃ (cls : String), xN k = cls ∧ Cond.classLink RX9 (xK k) cls ∈ wsC ∧ Cond.initialized cls ∈ wsC ∧ (∀ w ∈ vx_atS RX9 (xC k) cls xNm, w.before args s = true) ∧ Bundle.fit cls = true ∧ (vx_atS RX9 (xC k) cls xNm).all vx_ot = true := by
    have hcs := t3.1.2.1 k
    have hds := t3.1.2.2
    rcases hk with rfl | rfl | rfl
    · exact ⟨_, rfl, kC_468, kC_469, xHat_1 h5 hcs hds, by decide +kernel, xOt_1⟩
    · exact ⟨_, rfl, kC_494, kC_495, xHat_2 h5 hcs hds, by decide +kernel, xOt_2⟩
    · exact ⟨_, rfl, kC_461, kC_462, xHat_3 h5 hcs hds, by decide +kernel, xOt_3⟩
  obtain ⟨cls, hN, w1, w2, w3, hfit, hot⟩ := hall
  refine vx_throwSW (text := tx) (names := xNm) h1 h2 t2 h4 hfit (by decide +kernel) (h5 _ w1) (h5 _ w2) hsa w3 (fun w hw => ?_) t3.2.1 t3.2.2 I.2.2.1 (by rw [h3]; exact hsz) d0 d3 d4 d6 d9 (fun x hx => (t1 x hx).elim) (by show 2 + 3 < R.frames; exact hR.1) (by show _ + (13 * (2 + 1) + 43) ≤ R.locals; omega) hcl.1 hcl.2 h7 (fun t hal hz hq => ⟨⟨k, rfl, hN.symm, cC, cD, cE, hc, I.1.kept (fun k q hk => hq q.1 (I.1 k q hk).lt), I.2.1⟩, ⟨Nat.le_trans I.2.2.1.1 hz, fun q hq1 hq2 => by rw [hq q (Nat.lt_of_lt_of_le hq1 I.2.2.1.1)]; exact I.2.2.1.2.1 q hq1 hq2⟩⟩) I.2.2.1.2.2 hcm.1 hcm.2
  rcases List.mem_cons.mp hw with rfl | hw
  · unfold vx_ot; rw [List.all_eq_true.mp wsC_good _ w1, Bool.or_true]
  · rcases List.mem_cons.mp hw with rfl | hw
    · unfold vx_ot; rw [List.all_eq_true.mp wsC_good _ w2, Bool.or_true]
    · exact List.all_eq_true.mp hot w hw
/-- the ends -/
theorem x_end {cC cD : Nat → Nat} {cE : Nat} {rv : Option Value} {v : γ} (I : kV dC dI (g.1, g.2.1, cC, cD, cE) (kAt g (kn Si) (km Si) (kp Si) sz) s S0 S H locs) (hc : ∀ k, k < kn Si → cC k = g.2.2.1 k) (hrv : rv = Rg g v) {t : State} (ht : t.heap = H) : kQx dC dI g sz Si Rg (.inl v) S args s (.returned rv) t :=
  ⟨⟨v, rfl, by rw [hrv], kWx_of I hc ht⟩, I.2.2.1.F ht⟩
theorem x_reti {cC cD : Nat → Nat} {cE : Nat} {v : Int32} {o : Int32 ⊕ Nat} (X : kX p s m meth c cc nL args own dC dI (g.1, g.2.1, cC, cD, cE) (kAt g (kn Si) (km Si) (kp Si) sz)) (I : kV dC dI (g.1, g.2.1, cC, cD, cE) (kAt g (kn Si) (km Si) (kp Si) sz) s S0 S H locs) (hc : ∀ k, k < kn Si → cC k = g.2.2.1 k) (hr : meth.sig.returnType = some .int) (hcm : cells ≤ MC ∧ slots ≤ MS) (pc : Nat) (hdg : decode cc pc = .ok (.ireturn, 1)) (hpf : some ((.inl v : Int32 ⊕ Nat), S) = some (o, Sf)) :
    W p l e R s m args below meth c H locs cells slots (vx_MQ below (kQx dC dI g sz Si rI o Sf) (kXx dC dI g sz Si o Sf) args s MC MS (kAt g (kn Si) (km Si) (kp Si) sz)) (F0 m pc ls [.int v]) := by
  cases hpf
  exact W.widen hcm.1 hcm.2 (vx_ret (W.iret X.1 X.2.1 hr (fun t ht hW => x_end I hc rfl ht) I.2.2.1.2.2 hdg X.2.2.2.2.2.2.1))
theorem x_retzc {cC cD : Nat → Nat} {cE : Nat} {v : Int32} {o : Int32 ⊕ Nat} (X : kX p s m meth c cc nL args own dC dI (g.1, g.2.1, cC, cD, cE) (kAt g (kn Si) (km Si) (kp Si) sz)) (I : kV dC dI (g.1, g.2.1, cC, cD, cE) (kAt g (kn Si) (km Si) (kp Si) sz) s S0 S H locs) (hc : ∀ k, k < kn Si → cC k = g.2.2.1 k) (hr : meth.sig.returnType = some .boolean) (hcm : cells ≤ MC ∧ slots ≤ MS) (pc : Nat) (hdg : decode cc pc = .ok (.ireturn, 1)) (hv : vp_nar .boolean v = v) (hpf : some ((.inl v : Int32 ⊕ Nat), S) = some (o, Sf)) :
    W p l e R s m args below meth c H locs cells slots (vx_MQ below (kQx dC dI g sz Si rI o Sf) (kXx dC dI g sz Si o Sf) args s MC MS (kAt g (kn Si) (km Si) (kp Si) sz)) (F0 m pc ls [.int v]) := by
  cases hpf
  exact W.widen hcm.1 hcm.2 (vx_ret (W.zret X.1 X.2.1 hr (nar_z hv) (fun t ht hW => x_end I hc rfl ht) I.2.2.1.2.2 hdg X.2.2.2.2.2.2.1))
theorem x_retz {cC cD : Nat → Nat} {cE : Nat} {v : Int32} {o : Int32 ⊕ Nat} (X : kX p s m meth c cc nL args own dC dI (g.1, g.2.1, cC, cD, cE) (kAt g (kn Si) (km Si) (kp Si) sz)) (I : kV dC dI (g.1, g.2.1, cC, cD, cE) (kAt g (kn Si) (km Si) (kp Si) sz) s S0 S H locs) (hc : ∀ k, k < kn Si → cC k = g.2.2.1 k) (hr : meth.sig.returnType = some .boolean) (hcm : cells ≤ MC ∧ slots ≤ MS) (pc : Nat) (hdg : decode cc pc = .ok (.ireturn, 1)) (hpf : zx v S = some (o, Sf)) :
    W p l e R s m args below meth c H locs cells slots (vx_MQ below (kQx dC dI g sz Si rI o Sf) (kXx dC dI g sz Si o Sf) args s MC MS (kAt g (kn Si) (km Si) (kp Si) sz)) (F0 m pc ls [.int v]) := by
  unfold zx at hpf
  by_cases hv : vp_nar .boolean v = v
  · rw [if_pos hv] at hpf
    exact x_retzc X I hc hr hcm pc hdg hv hpf
  · rw [if_neg hv] at hpf; cases hpf
theorem x_retv {cC cD : Nat → Nat} {cE : Nat} {o : Unit ⊕ Nat} (X : kX p s m meth c cc nL args own dC dI (g.1, g.2.1, cC, cD, cE) (kAt g (kn Si) (km Si) (kp Si) sz)) (I : kV dC dI (g.1, g.2.1, cC, cD, cE) (kAt g (kn Si) (km Si) (kp Si) sz) s S0 S H locs) (hc : ∀ k, k < kn Si → cC k = g.2.2.1 k) (hr : meth.sig.returnType = none) (hcm : cells ≤ MC ∧ slots ≤ MS) (pc : Nat) (hdg : decode cc pc = .ok (.return_, 1)) (hpf : some ((.inl () : Unit ⊕ Nat), S) = some (o, Sf)) :
    W p l e R s m args below meth c H locs cells slots (vx_MQ below (kQx dC dI g sz Si rU o Sf) (kXx dC dI g sz Si o Sf) args s MC MS (kAt g (kn Si) (km Si) (kp Si) sz)) (F0 m pc ls []) := by
  cases hpf
  exact W.widen hcm.1 hcm.2 (vx_ret (W.vret X.1 X.2.1 hr (fun t ht hW => x_end I hc rfl ht) I.2.2.1.2.2 hdg X.2.2.2.2.2.2.1))
/-- an answer that is a master -/
def rM : kG → Nat → Option Value := fun g k => some (.ref (g.2.1 (18 + 2 * k)))
theorem x_retm {cC cD : Nat → Nat} {cE : Nat} {k : Nat} {o : Nat ⊕ Nat} {C9 : String} (X : kX p s m meth c cc nL args own dC dI (g.1, g.2.1, cC, cD, cE) (kAt g (kn Si) (km Si) (kp Si) sz)) (I : kV dC dI (g.1, g.2.1, cC, cD, cE) (kAt g (kn Si) (km Si) (kp Si) sz) s S0 S H locs) (hc : ∀ k, k < kn Si → cC k = g.2.2.1 k) (hr : meth.sig.returnType = some (.object C9)) (hcm : cells ≤ MC ∧ slots ≤ MS) (pc : Nat) (hdg : decode cc pc = .ok (.areturn, 1)) (hpf : some ((.inl k : Nat ⊕ Nat), S) = some (o, Sf)) :
    W p l e R s m args below meth c H locs cells slots (vx_MQ below (kQx dC dI g sz Si rM o Sf) (kXx dC dI g sz Si o Sf) args s MC MS (kAt g (kn Si) (km Si) (kp Si) sz)) (F0 m pc ls [.ref (g.2.1 (18 + 2 * k))]) := by
  cases hpf
  exact W.widen hcm.1 hcm.2 (vx_ret (W.aret X.1 X.2.1 hr (Or.inl ⟨_, rfl⟩) (Or.inr ⟨_, rfl⟩) (fun t ht hW => x_end I hc rfl ht) I.2.2.1.2.2 hdg X.2.2.2.2.2.2.1))
end XR
