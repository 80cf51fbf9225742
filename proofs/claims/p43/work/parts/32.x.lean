def xStr : List (Nat × String) := [(73, "there are 10 attributes"), (92, "no such attribute"), (98, "there are 8 classes"), (123, "there are 12 drafted values"), (235, "no such saying"), (250, "both are the same, or most is out of range"), (305, "fewer than two filters, or 15 parts"), (311, "no filter, or 15 parts"), (333, "not found so many"), (362, "no such sort"), (381, "no such master"), (383, "no such user"), (385, "no such entry there"), (387, "the root cannot be changed"), (392, "no such class"), (394, "no such scope"), (396, "no such right"), (398, "index is below 0"), (400, "value is out of range"), (402, "name is out of range"), (404, "the operation is not taken"), (406, "there are 250 changes"), (408, "the user may not write"), (413, "a sibling is shown with the name"), (415, "8 filters, or 15 parts"), (417, "not just one filter")]
def xN (k : Nat) : String := if k = 1 then "java/lang/IndexOutOfBoundsException" else if k = 2 then "java/lang/IllegalArgumentException" else "java/lang/IllegalStateException"
def xNm : List String := ["java/lang/RuntimeException", "java/lang/Exception"]
def xDs : List String := ["java/lang/RuntimeException", "java/lang/Exception", Bundle.tN]
/-- the index of the class, of its constructor -/
def xK (k : Nat) : Nat := if k = 1 then 90 else if k = 2 then 233 else 71
def xC (k : Nat) : Nat := if k = 1 then 94 else if k = 2 then 237 else 75
theorem xIn_1 : ∀ w ∈ (vx_atS RX9 94 "java/lang/IndexOutOfBoundsException" xNm).filter goodWord, w ∈ wsC := fun w h => List.mem_append_right _ (List.mem_append_right _ (List.mem_append_left _ (List.mem_append_left _ h)))
theorem xB_1 : ∀ w ∈ (vx_atS RX9 94 "java/lang/IndexOutOfBoundsException" xNm).filter (fun w => !goodWord w), w ∈ Cond.castable "java/lang/IndexOutOfBoundsException" "java/lang/IndexOutOfBoundsException" :: xDs.map (fun n => Cond.declares (Bundle.initS n)) := by decide +kernel
theorem xOt_1 : (vx_atS RX9 94 "java/lang/IndexOutOfBoundsException" xNm).all vx_ot = true := by decide +kernel
theorem xHat_1 {args : Array Value} {s : State} (h5 : ∀ w ∈ wsC, w.before args s = true) (hc : va_Nw (.castable "java/lang/IndexOutOfBoundsException" "java/lang/IndexOutOfBoundsException") s) (hd : ∀ n ∈ xDs, va_Nw (.declares (Bundle.initS n)) s) : ∀ w ∈ vx_atS RX9 94 "java/lang/IndexOutOfBoundsException" xNm, w.before args s = true := vx_hat (fun w h => h5 w (xIn_1 w h)) xB_1 (fun w hw => by
  rcases List.mem_cons.mp hw with rfl | hw
  · exact va_Nw.use rfl hc
  · obtain ⟨n, hn, rfl⟩ := List.mem_map.mp hw
    exact va_Nw.use rfl (hd n hn))
theorem xIn_2 : ∀ w ∈ (vx_atS RX9 237 "java/lang/IllegalArgumentException" xNm).filter goodWord, w ∈ wsC := fun w h => List.mem_append_right _ (List.mem_append_right _ (List.mem_append_right _ h))
theorem xB_2 : ∀ w ∈ (vx_atS RX9 237 "java/lang/IllegalArgumentException" xNm).filter (fun w => !goodWord w), w ∈ Cond.castable "java/lang/IllegalArgumentException" "java/lang/IllegalArgumentException" :: xDs.map (fun n => Cond.declares (Bundle.initS n)) := by decide +kernel
theorem xOt_2 : (vx_atS RX9 237 "java/lang/IllegalArgumentException" xNm).all vx_ot = true := by decide +kernel
theorem xHat_2 {args : Array Value} {s : State} (h5 : ∀ w ∈ wsC, w.before args s = true) (hc : va_Nw (.castable "java/lang/IllegalArgumentException" "java/lang/IllegalArgumentException") s) (hd : ∀ n ∈ xDs, va_Nw (.declares (Bundle.initS n)) s) : ∀ w ∈ vx_atS RX9 237 "java/lang/IllegalArgumentException" xNm, w.before args s = true := vx_hat (fun w h => h5 w (xIn_2 w h)) xB_2 (fun w hw => by
  rcases List.mem_cons.mp hw with rfl | hw
  · exact va_Nw.use rfl hc
  · obtain ⟨n, hn, rfl⟩ := List.mem_map.mp hw
    exact va_Nw.use rfl (hd n hn))
theorem xIn_3 : ∀ w ∈ (vx_atS RX9 75 "java/lang/IllegalStateException" xNm).filter goodWord, w ∈ wsC := fun w h => List.mem_append_right _ (List.mem_append_right _ (List.mem_append_left _ (List.mem_append_right _ h)))
theorem xB_3 : ∀ w ∈ (vx_atS RX9 75 "java/lang/IllegalStateException" xNm).filter (fun w => !goodWord w), w ∈ Cond.castable "java/lang/IllegalStateException" "java/lang/IllegalStateException" :: xDs.map (fun n => Cond.declares (Bundle.initS n)) := by decide +kernel
theorem xOt_3 : (vx_atS RX9 75 "java/lang/IllegalStateException" xNm).all vx_ot = true := by decide +kernel
theorem xHat_3 {args : Array Value} {s : State} (h5 : ∀ w ∈ wsC, w.before args s = true) (hc : va_Nw (.castable "java/lang/IllegalStateException" "java/lang/IllegalStateException") s) (hd : ∀ n ∈ xDs, va_Nw (.declares (Bundle.initS n)) s) : ∀ w ∈ vx_atS RX9 75 "java/lang/IllegalStateException" xNm, w.before args s = true := vx_hat (fun w h => h5 w (xIn_3 w h)) xB_3 (fun w hw => by
  rcases List.mem_cons.mp hw with rfl | hw
  · exact va_Nw.use rfl hc
  · obtain ⟨n, hn, rfl⟩ := List.mem_map.mp hw
    exact va_Nw.use rfl (hd n hn))
/-- what the makers of rows stand on -/
def kNw (s : State) : Prop := va_Nw (.castable "[I" "java/lang/Cloneable") s ∧ (∃ mi, va_Mi "[Ljava/lang/Object;" mi s) ∧ va_Dc s ∧ va_AO "java/lang/Object" s ∧ va_Nw (.castable RX0 "java/lang/Object") s
theorem kNw.to {s U : State} (h : kNw s) (hW : s.WarmedH U.vm) : kNw U := ⟨va_Nw.warmC hW h.1, h.2.1.imp (fun _ q => va_Mi.moved hW.alike q), va_Dc.moved hW.alike h.2.2.1, va_AO.moved hW.alike h.2.2.2.1, va_Nw.warmC hW h.2.2.2.2⟩
theorem kNw.same {s U : State} (h : kNw s) (hv : U.vm = s.vm) : kNw U := ⟨va_Nw.same rfl hv.symm h.1, h.2.1.imp (fun _ q => va_Mi.moved (by rw [hv]; exact Vm.Alike.refl _) q), va_Dc.moved (by rw [hv]; exact Vm.Alike.refl _) h.2.2.1, va_AO.moved (by rw [hv]; exact Vm.Alike.refl _) h.2.2.2.1, va_Nw.same rfl hv.symm h.2.2.2.2⟩
/-- the cell of an empty row of references -/
def kMt (ce : Nat) (s : State) (H : Heap) : Prop := ∃ cell : Cell, H[ce]? = some cell ∧ s.isArrayOf cell (.object "java/lang/Object") ∧ cell.slots.size.toInt32 = 0
/-- the log's row before it has one of its own: the empty row of ArrayList, which is no cell of ours -/
def kLg (gA : Nat → ClassId) (p ce : Nat) (A : Nat → Prop) (s : State) (H : Heap) : Prop := p = 0 → va_Z "java/util/ArrayList" "DEFAULTCAPACITY_EMPTY_ELEMENTDATA" "[Ljava/lang/Object;" (.ref ce) A s H ∧ kMt ce s H ∧ ¬ A ce
theorem kLg.to {gA : Nat → ClassId} {p ce : Nat} {A B : Nat → Prop} {s U : State} {H H1 : Heap} (h : kLg gA p ce A s H) (hW : s.vm.Alike U.vm) (hk : ∀ q : Nat, q < H.size → ¬ A q → H1[q]? = H[q]?) (hAB : ∀ q, B q → A q) : kLg gA p ce B U H1 := fun h0 => by
  obtain ⟨h1, h2, h3⟩ := h h0
  obtain ⟨cell, h2, h4, h5⟩ := h2
  refine ⟨(va_Z.moved hW (h1.kept hk)).narrow hAB, ⟨cell, ?_, State.isArrayOf_alike hW h4, h5⟩, fun q => h3 (hAB _ q)⟩
  rw [hk ce (by
    have := Array.getElem?_eq_some_iff.mp h2
    exact this.1) h3]
  exact h2
/-- what a throw stands on: the texts, two statics of Throwable -/
def kEx (A : Nat → Prop) (s : State) (H : Heap) : Prop := ((∀ q ∈ xStr, ∃ sa, vk_R RX9 q.1 q.2 sa s) ∧ (∀ k : Nat, va_Nw (.castable (xN k) (xN k)) s) ∧ ∀ n ∈ xDs, va_Nw (.declares (Bundle.initS n)) s) ∧ vx_Zq Bundle.tN "UNASSIGNED_STACK" Bundle.steD A s H ∧ vx_Zq Bundle.tN "SUPPRESSED_SENTINEL" Bundle.listD A s H ∧ kNw s
theorem kEx.to {A B : Nat → Prop} {s U : State} {H H1 : Heap} (h : kEx A s H) (hW : s.WarmedH U.vm) (hk : ∀ q : Nat, q < H.size → ¬ A q → H1[q]? = H[q]?) (hAB : ∀ q, B q → A q) : kEx B U H1 :=
  ⟨⟨fun q hq => (h.1.1 q hq).imp (fun _ hv => vk_R.warm hW hv), fun k => va_Nw.warmC hW (h.1.2.1 k), fun n hn => va_Nw.warmD hW (h.1.2.2 n hn)⟩, (vx_Zq.moved hW.alike (h.2.1.kept hk)).narrow hAB, (vx_Zq.moved hW.alike (h.2.2.1.kept hk)).narrow hAB, h.2.2.2.to hW⟩
theorem kEx.same {A : Nat → Prop} {s U : State} {H : Heap} (h : kEx A s H) (hv : U.vm = s.vm) : kEx A U H :=
  ⟨⟨fun q hq => (h.1.1 q hq).imp (fun _ h9 => vk_R.same hv h9), fun k => va_Nw.same rfl hv.symm (h.1.2.1 k), fun n hn => va_Nw.same rfl hv.symm (h.1.2.2 n hn)⟩, vx_Zq.moved (by rw [hv]; exact Vm.Alike.refl _) h.2.1, vx_Zq.moved (by rw [hv]; exact Vm.Alike.refl _) h.2.2.1, h.2.2.2.same hv⟩
def kPreX (dC : Nat → ClassId) (dI : Nat → Nat → Nat) (g : kG) (sz : Nat) (S : kS) : State → Prop := fun U => kPre dC dI g sz S U ∧ kEx (kAt g (kn S) (km S) (kp S) sz) U U.heap ∧ kLg g.1 (kp S) g.2.2.2.2 (kAt g (kn S) (km S) (kp S) sz) U U.heap
/-- changes are never fewer, and stay where they are; the log has no row of its own only as long as it had none -/
def kGc (g : kG) (cc : Nat → Nat) (ce : Nat) (S0 S' : kS) : Prop := kn S0 ≤ kn S' ∧ (∀ k, k < kn S0 → cc k = g.2.2.1 k) ∧ (kp S' = 0 → kp S0 = 0 ∧ ce = g.2.2.2.2)
theorem kGc.sm {g : kG} {cc : Nat → Nat} {ce : Nat} {S0 S S' : kS} (h : kGc g cc ce S0 S) (hm : kSm S' S) : kGc g cc ce S0 S' := ⟨by rw [hm.1]; exact h.1, h.2.1, fun q => h.2.2 (hm.2.2.symm.trans q)⟩
theorem kGc.trans {g : kG} {cc cd cc2 : Nat → Nat} {ce ce2 : Nat} {S0 S S' : kS} (h : kGc g cc ce S0 S) (h2 : kGc (g.1, g.2.1, cc, cd, ce) cc2 ce2 S S') : kGc g cc2 ce2 S0 S' := ⟨Nat.le_trans h.1 h2.1, fun k hk => by rw [h2.2.1 k (Nat.lt_of_lt_of_le hk h.1)]; exact h.2.1 k hk, fun q => ⟨(h.2.2 (h2.2.2 q).1).1, (h2.2.2 q).2.trans (h.2.2 (h2.2.2 q).1).2⟩⟩
/-- the world behind a method that may make cells -/
def kWx (dC : Nat → ClassId) (dI : Nat → Nat → Nat) (g : kG) (sz : Nat) (S0 S' : kS) (t : State) : Prop :=
  ∃ (cc cd : Nat → Nat) (ce : Nat), kGc g cc ce S0 S' ∧ va_P (dC, dI) vwCl (kW (g.1, g.2.1, cc, cd, ce) S') t.heap ∧ va_D (kAt g (kn S0) (km S0) (kp S0) sz) (kW (g.1, g.2.1, cc, cd, ce) S')
def kQx {α : Type} (dC : Nat → ClassId) (dI : Nat → Nat → Nat) (g : kG) (sz : Nat) (S0 : kS) (Rv : kG → α → Option Value) (o : α ⊕ Nat) (S' : kS) : Array Value → State → Outcome → State → Prop := fun _ st oc t =>
  (∃ (v : α) (cc cd : Nat → Nat) (ce : Nat), o = .inl v ∧ oc = .returned (Rv (g.1, g.2.1, cc, cd, ce) v) ∧ kGc g cc ce S0 S' ∧ va_P (dC, dI) vwCl (kW (g.1, g.2.1, cc, cd, ce) S') t.heap ∧ va_D (kAt g (kn S0) (km S0) (kp S0) sz) (kW (g.1, g.2.1, cc, cd, ce) S')) ∧ va_F (kAt g (kn S0) (km S0) (kp S0) sz) st t
def kXx {α : Type} (dC : Nat → ClassId) (dI : Nat → Nat → Nat) (g : kG) (sz : Nat) (S0 : kS) (o : α ⊕ Nat) (S' : kS) : String → State → State → Prop := fun E st t =>
  (∃ k, o = .inr k ∧ E = xN k ∧ kWx dC dI g sz S0 S' t) ∧ va_F (kAt g (kn S0) (km S0) (kp S0) sz) st t
def xRm (d mc ms : Nat) : Room := { frames := d, cells := mc, slots := ms, locals := 40 * d }
/-- a contract of a method that may throw, and may make cells -/
def kMx {α : Type} (l : Launch) (y : MethodName) (b : ByteArray) (nl : Nat) (ret : Option FieldType) (d mc ms : Nat) (Av : kG → List Value) (Rv : kG → α → Option Value) (f : kS → Option ((α ⊕ Nat) × kS)) : Prop :=
  ∀ (dC : Nat → ClassId) (dI : Nat → Nat → Nat) (g : kG) (sz : Nat) (S : kS) (o : α ⊕ Nat) (S' : kS), f S = some (o, S') →
    vx_Met l y (.code y b nl ret :: wsC) (xRm d mc ms) (va_Pc (Av g) (kPreX dC dI g sz S)) (kQx dC dI g sz S Rv o S') (kXx dC dI g sz S o S') mc ms (kAt g (kn S) (km S) (kp S) sz)
/-- on behind a call that may throw -/
def bx {α β : Type} (o : Option ((α ⊕ Nat) × kS)) (k : α → kS → Option ((β ⊕ Nat) × kS)) : Option ((β ⊕ Nat) × kS) := match o with
  | none => none
  | some (.inl v, S) => k v S
  | some (.inr e, S) => some (.inr e, S)
def zx (v : Int32) (S : kS) : Option ((Int32 ⊕ Nat) × kS) := if vp_nar .boolean v = v then some (.inl v, S) else none
theorem bx_some {α β : Type} {o : Option ((α ⊕ Nat) × kS)} {k : α → kS → Option ((β ⊕ Nat) × kS)} {r : (β ⊕ Nat) × kS} (h : bx o k = some r) : ∃ w S, o = some (w, S) ∧ ((∃ v, w = .inl v ∧ k v S = some r) ∨ (∃ e, w = .inr e ∧ r = (.inr e, S))) := by
  match o, h with
  | some (.inl v, S), h => exact ⟨.inl v, S, rfl, Or.inl ⟨v, rfl, h⟩⟩
  | some (.inr e, S), h => exact ⟨.inr e, S, rfl, Or.inr ⟨e, rfl, (Option.some.inj h).symm⟩⟩
section XR
variable {p : Program} {l : Launch} {e : Env} {s : State} {m : MethodId} {args : Array Value} {below : List Frame} {meth : Method} {c : Code} {H : Heap} {locs : List Loc} {cells slots : Nat} {R : Room}
variable {cc : ByteArray} {nL : Nat} {ls : Array Slot} {rest : List Value} {dC : Nat → ClassId} {dI : Nat → Nat → Nat} {G g : kG} {A : Nat → Prop} {S S0 Si Sf : kS} {own : String} {γ : Type} {Rg : kG → γ → Option Value} {o : γ ⊕ Nat} {sz MC MS : Nat}
/-- what is known besides in a method that may throw: no handler, no stack traces, the texts -/
def kXX (l : Launch) (s : State) (c : Code) (g : kG) (Si : kS) (A : Nat → Prop) : Prop := (∀ x ∈ c.exceptionTable.toList, False) ∧ l.stackTraces = false ∧ kEx A s s.heap ∧ kLg g.1 (kp Si) g.2.2.2.2 A s s.heap
/-- the walk's cells against the method's start -/
def kGs (g G : kG) (Si : kS) : Prop := G.1 = g.1 ∧ G.2.1 = g.2.1 ∧ ∀ k, k < kn Si → G.2.2.1 k = g.2.2.1 k
theorem kWx_of {t : State} {cC cD : Nat → Nat} {cE : Nat} (I : kV dC dI (g.1, g.2.1, cC, cD, cE) (kAt g (kn Si) (km Si) (kp Si) sz) s S0 S H locs) (hc : kGc g cC cE Si S0) (ht : t.heap = H) : kWx dC dI g sz Si S t :=
  ⟨cC, cD, cE, hc.sm I.2.2.2, by rw [ht]; exact I.1, I.2.1⟩
theorem x_throw {cC cD : Nat → Nat} {cE : Nat} (k : Nat) (hk : k = 1 ∨ k = 2 ∨ k = 3) (X : kX p s m meth c cc nL args RX9 dC dI (g.1, g.2.1, cC, cD, cE) (kAt g (kn Si) (km Si) (kp Si) sz)) (XX : kXX l s c g Si (kAt g (kn Si) (km Si) (kp Si) sz)) (I : kV dC dI (g.1, g.2.1, cC, cD, cE) (kAt g (kn Si) (km Si) (kp Si) sz) s S0 S H locs) (hc : kGc g cC cE Si S0) {is : Nat} {tx : String} (hstr : (is, tx) ∈ xStr) (hsz : ls.size = nL)
    (hR : 5 < R.frames ∧ 90 ≤ R.locals) (hcl : cells + 1 ≤ R.cells ∧ slots + 6 ≤ R.slots) (hcm : cells + 1 ≤ MC ∧ slots + 6 ≤ MS) (hW : (rest.map fun v => v.category).sum ≤ 8) (pc : Nat)
    (d0 : decode cc pc = .ok (.new (xK k), 3)) (d3 : decode cc (pc + 3) = .ok (.dup, 1)) (d4 : decode cc (pc + 4) = .ok (.ldc is, 2)) (d6 : decode cc (pc + 6) = .ok (.invokespecial (xC k), 3)) (d9 : decode cc (pc + 9) = .ok (.athrow, 1))
    (hpf : some ((.inr k : γ ⊕ Nat), S) = some (o, Sf)) : W p l e R s m args below meth c H locs cells slots (vx_MQ below (kQx dC dI g sz Si Rg o Sf) (kXx dC dI g sz Si o Sf) args s MC MS (kAt g (kn Si) (km Si) (kp Si) sz)) (F0 m pc ls rest) := by
  cases hpf
  obtain ⟨t1, t2, t3, -⟩ := XX
  obtain ⟨sa, hsa⟩ := t3.1.1 _ hstr
  obtain ⟨h1, h2, h3, h4, h5, h6, h7, h8⟩ := X
  have hall : ∃ (cls : String), xN k = cls ∧ Cond.classLink RX9 (xK k) cls ∈ wsC ∧ Cond.initialized cls ∈ wsC ∧ (∀ w ∈ vx_atS RX9 (xC k) cls xNm, w.before args s = true) ∧ Bundle.fit cls = true ∧ (vx_atS RX9 (xC k) cls xNm).all vx_ot = true := by
    have hcs := t3.1.2.1 k
    have hds := t3.1.2.2
    rcases hk with rfl | rfl | rfl
    · exact ⟨_, rfl, kC_459, kC_460, xHat_1 h5 hcs hds, by decide +kernel, xOt_1⟩
    · exact ⟨_, rfl, kC_485, kC_486, xHat_2 h5 hcs hds, by decide +kernel, xOt_2⟩
    · exact ⟨_, rfl, kC_452, kC_453, xHat_3 h5 hcs hds, by decide +kernel, xOt_3⟩
  obtain ⟨cls, hN, w1, w2, w3, hfit, hot⟩ := hall
  refine vx_throwS (text := tx) (names := xNm) h1 h2 t2 h4 hfit (by decide +kernel) (h5 _ w1) (h5 _ w2) hsa w3 (fun w hw => ?_) t3.2.1 t3.2.2.1 I.2.2.1 (by rw [h3]; exact hsz) d0 d3 d4 d6 d9 (fun x hx => (t1 x hx).elim) (by show 2 + 3 < R.frames; exact hR.1) (by show _ + (13 * (2 + 1) + 43) ≤ R.locals; omega) hcl.1 hcl.2 h7 (fun t hal hz hq => ⟨⟨k, rfl, hN.symm, cC, cD, cE, hc.sm I.2.2.2, I.1.kept (fun k q hk => hq q.1 (I.1 k q hk).lt), I.2.1⟩, ⟨Nat.le_trans I.2.2.1.1 hz, fun q hq1 hq2 => by rw [hq q (Nat.lt_of_lt_of_le hq1 I.2.2.1.1)]; exact I.2.2.1.2.1 q hq1 hq2⟩⟩) I.2.2.1.2.2 hcm.1 hcm.2
  rcases List.mem_cons.mp hw with rfl | hw
  · unfold vx_ot; rw [List.all_eq_true.mp wsC_good _ w1, Bool.or_true]
  · rcases List.mem_cons.mp hw with rfl | hw
    · unfold vx_ot; rw [List.all_eq_true.mp wsC_good _ w2, Bool.or_true]
    · exact List.all_eq_true.mp hot w hw
theorem x_throwW {cC cD : Nat → Nat} {cE : Nat} (k : Nat) (hk : k = 1 ∨ k = 2 ∨ k = 3) (X : kX p s m meth c cc nL args RX9 dC dI (g.1, g.2.1, cC, cD, cE) (kAt g (kn Si) (km Si) (kp Si) sz)) (XX : kXX l s c g Si (kAt g (kn Si) (km Si) (kp Si) sz)) (I : kV dC dI (g.1, g.2.1, cC, cD, cE) (kAt g (kn Si) (km Si) (kp Si) sz) s S0 S H locs) (hc : kGc g cC cE Si S0) {is : Nat} {tx : String} (hstr : (is, tx) ∈ xStr) (hsz : ls.size = nL)
    (hR : 5 < R.frames ∧ 90 ≤ R.locals) (hcl : cells + 1 ≤ R.cells ∧ slots + 6 ≤ R.slots) (hcm : cells + 1 ≤ MC ∧ slots + 6 ≤ MS) (hW : (rest.map fun v => v.category).sum ≤ 8) (pc : Nat)
    (d0 : decode cc pc = .ok (.new (xK k), 3)) (d3 : decode cc (pc + 3) = .ok (.dup, 1)) (d4 : decode cc (pc + 4) = .ok (.ldc_w is, 3)) (d6 : decode cc (pc + 7) = .ok (.invokespecial (xC k), 3)) (d9 : decode cc (pc + 10) = .ok (.athrow, 1))
    (hpf : some ((.inr k : γ ⊕ Nat), S) = some (o, Sf)) : W p l e R s m args below meth c H locs cells slots (vx_MQ below (kQx dC dI g sz Si Rg o Sf) (kXx dC dI g sz Si o Sf) args s MC MS (kAt g (kn Si) (km Si) (kp Si) sz)) (F0 m pc ls rest) := by
  cases hpf
  obtain ⟨t1, t2, t3, -⟩ := XX
  obtain ⟨sa, hsa⟩ := t3.1.1 _ hstr
  obtain ⟨h1, h2, h3, h4, h5, h6, h7, h8⟩ := X
  have hall : ∃ (cls : String), xN k = cls ∧ Cond.classLink RX9 (xK k) cls ∈ wsC ∧ Cond.initialized cls ∈ wsC ∧ (∀ w ∈ vx_atS RX9 (xC k) cls xNm, w.before args s = true) ∧ Bundle.fit cls = true ∧ (vx_atS RX9 (xC k) cls xNm).all vx_ot = true := by
    have hcs := t3.1.2.1 k
    have hds := t3.1.2.2
    rcases hk with rfl | rfl | rfl
    · exact ⟨_, rfl, kC_459, kC_460, xHat_1 h5 hcs hds, by decide +kernel, xOt_1⟩
    · exact ⟨_, rfl, kC_485, kC_486, xHat_2 h5 hcs hds, by decide +kernel, xOt_2⟩
    · exact ⟨_, rfl, kC_452, kC_453, xHat_3 h5 hcs hds, by decide +kernel, xOt_3⟩
  obtain ⟨cls, hN, w1, w2, w3, hfit, hot⟩ := hall
  refine vx_throwSW (text := tx) (names := xNm) h1 h2 t2 h4 hfit (by decide +kernel) (h5 _ w1) (h5 _ w2) hsa w3 (fun w hw => ?_) t3.2.1 t3.2.2.1 I.2.2.1 (by rw [h3]; exact hsz) d0 d3 d4 d6 d9 (fun x hx => (t1 x hx).elim) (by show 2 + 3 < R.frames; exact hR.1) (by show _ + (13 * (2 + 1) + 43) ≤ R.locals; omega) hcl.1 hcl.2 h7 (fun t hal hz hq => ⟨⟨k, rfl, hN.symm, cC, cD, cE, hc.sm I.2.2.2, I.1.kept (fun k q hk => hq q.1 (I.1 k q hk).lt), I.2.1⟩, ⟨Nat.le_trans I.2.2.1.1 hz, fun q hq1 hq2 => by rw [hq q (Nat.lt_of_lt_of_le hq1 I.2.2.1.1)]; exact I.2.2.1.2.1 q hq1 hq2⟩⟩) I.2.2.1.2.2 hcm.1 hcm.2
  rcases List.mem_cons.mp hw with rfl | hw
  · unfold vx_ot; rw [List.all_eq_true.mp wsC_good _ w1, Bool.or_true]
  · rcases List.mem_cons.mp hw with rfl | hw
    · unfold vx_ot; rw [List.all_eq_true.mp wsC_good _ w2, Bool.or_true]
    · exact List.all_eq_true.mp hot w hw
/-- the ends -/
theorem x_end {cC cD : Nat → Nat} {cE : Nat} {rv : Option Value} {v : γ} (I : kV dC dI (g.1, g.2.1, cC, cD, cE) (kAt g (kn Si) (km Si) (kp Si) sz) s S0 S H locs) (hc : kGc g cC cE Si S0) (hrv : rv = Rg (g.1, g.2.1, cC, cD, cE) v) {t : State} (ht : t.heap = H) : kQx dC dI g sz Si Rg (.inl v) S args s (.returned rv) t :=
  ⟨⟨v, cC, cD, cE, rfl, by rw [hrv], hc.sm I.2.2.2, by rw [ht]; exact I.1, I.2.1⟩, I.2.2.1.F ht⟩
theorem x_reti {cC cD : Nat → Nat} {cE : Nat} {v : Int32} {o : Int32 ⊕ Nat} (X : kX p s m meth c cc nL args own dC dI (g.1, g.2.1, cC, cD, cE) (kAt g (kn Si) (km Si) (kp Si) sz)) (I : kV dC dI (g.1, g.2.1, cC, cD, cE) (kAt g (kn Si) (km Si) (kp Si) sz) s S0 S H locs) (hc : kGc g cC cE Si S0) (hr : meth.sig.returnType = some .int) (hcm : cells ≤ MC ∧ slots ≤ MS) (pc : Nat) (hdg : decode cc pc = .ok (.ireturn, 1)) (hpf : some ((.inl v : Int32 ⊕ Nat), S) = some (o, Sf)) :
    W p l e R s m args below meth c H locs cells slots (vx_MQ below (kQx dC dI g sz Si rI o Sf) (kXx dC dI g sz Si o Sf) args s MC MS (kAt g (kn Si) (km Si) (kp Si) sz)) (F0 m pc ls [.int v]) := by
  cases hpf
  exact W.widen hcm.1 hcm.2 (vx_ret (W.iret X.1 X.2.1 hr (fun t ht hW => x_end I hc rfl ht) I.2.2.1.2.2 hdg X.2.2.2.2.2.2.1))
theorem x_retzc {cC cD : Nat → Nat} {cE : Nat} {v : Int32} {o : Int32 ⊕ Nat} (X : kX p s m meth c cc nL args own dC dI (g.1, g.2.1, cC, cD, cE) (kAt g (kn Si) (km Si) (kp Si) sz)) (I : kV dC dI (g.1, g.2.1, cC, cD, cE) (kAt g (kn Si) (km Si) (kp Si) sz) s S0 S H locs) (hc : kGc g cC cE Si S0) (hr : meth.sig.returnType = some .boolean) (hcm : cells ≤ MC ∧ slots ≤ MS) (pc : Nat) (hdg : decode cc pc = .ok (.ireturn, 1)) (hv : vp_nar .boolean v = v) (hpf : some ((.inl v : Int32 ⊕ Nat), S) = some (o, Sf)) :
    W p l e R s m args below meth c H locs cells slots (vx_MQ below (kQx dC dI g sz Si rI o Sf) (kXx dC dI g sz Si o Sf) args s MC MS (kAt g (kn Si) (km Si) (kp Si) sz)) (F0 m pc ls [.int v]) := by
  cases hpf
  exact W.widen hcm.1 hcm.2 (vx_ret (W.zret X.1 X.2.1 hr (nar_z hv) (fun t ht hW => x_end I hc rfl ht) I.2.2.1.2.2 hdg X.2.2.2.2.2.2.1))
theorem x_retz {cC cD : Nat → Nat} {cE : Nat} {v : Int32} {o : Int32 ⊕ Nat} (X : kX p s m meth c cc nL args own dC dI (g.1, g.2.1, cC, cD, cE) (kAt g (kn Si) (km Si) (kp Si) sz)) (I : kV dC dI (g.1, g.2.1, cC, cD, cE) (kAt g (kn Si) (km Si) (kp Si) sz) s S0 S H locs) (hc : kGc g cC cE Si S0) (hr : meth.sig.returnType = some .boolean) (hcm : cells ≤ MC ∧ slots ≤ MS) (pc : Nat) (hdg : decode cc pc = .ok (.ireturn, 1)) (hpf : zx v S = some (o, Sf)) :
    W p l e R s m args below meth c H locs cells slots (vx_MQ below (kQx dC dI g sz Si rI o Sf) (kXx dC dI g sz Si o Sf) args s MC MS (kAt g (kn Si) (km Si) (kp Si) sz)) (F0 m pc ls [.int v]) := by
  unfold zx at hpf
  by_cases hv : vp_nar .boolean v = v
  · rw [if_pos hv] at hpf
    exact x_retzc X I hc hr hcm pc hdg hv hpf
  · rw [if_neg hv] at hpf; cases hpf
theorem x_retv {cC cD : Nat → Nat} {cE : Nat} {o : Unit ⊕ Nat} (X : kX p s m meth c cc nL args own dC dI (g.1, g.2.1, cC, cD, cE) (kAt g (kn Si) (km Si) (kp Si) sz)) (I : kV dC dI (g.1, g.2.1, cC, cD, cE) (kAt g (kn Si) (km Si) (kp Si) sz) s S0 S H locs) (hc : kGc g cC cE Si S0) (hr : meth.sig.returnType = none) (hcm : cells ≤ MC ∧ slots ≤ MS) (pc : Nat) (hdg : decode cc pc = .ok (.return_, 1)) (hpf : some ((.inl () : Unit ⊕ Nat), S) = some (o, Sf)) :
    W p l e R s m args below meth c H locs cells slots (vx_MQ below (kQx dC dI g sz Si rU o Sf) (kXx dC dI g sz Si o Sf) args s MC MS (kAt g (kn Si) (km Si) (kp Si) sz)) (F0 m pc ls []) := by
  cases hpf
  exact W.widen hcm.1 hcm.2 (vx_ret (W.vret X.1 X.2.1 hr (fun t ht hW => x_end I hc rfl ht) I.2.2.1.2.2 hdg X.2.2.2.2.2.2.1))
/-- an answer that is a master -/
def rM : kG → Nat → Option Value := fun g k => some (.ref (g.2.1 (18 + 2 * k)))
theorem x_retm {cC cD : Nat → Nat} {cE : Nat} {k : Nat} {o : Nat ⊕ Nat} {C9 : String} (X : kX p s m meth c cc nL args own dC dI (g.1, g.2.1, cC, cD, cE) (kAt g (kn Si) (km Si) (kp Si) sz)) (I : kV dC dI (g.1, g.2.1, cC, cD, cE) (kAt g (kn Si) (km Si) (kp Si) sz) s S0 S H locs) (hc : kGc g cC cE Si S0) (hr : meth.sig.returnType = some (.object C9)) (hcm : cells ≤ MC ∧ slots ≤ MS) (pc : Nat) (hdg : decode cc pc = .ok (.areturn, 1)) (hpf : some ((.inl k : Nat ⊕ Nat), S) = some (o, Sf)) :
    W p l e R s m args below meth c H locs cells slots (vx_MQ below (kQx dC dI g sz Si rM o Sf) (kXx dC dI g sz Si o Sf) args s MC MS (kAt g (kn Si) (km Si) (kp Si) sz)) (F0 m pc ls [.ref (g.2.1 (18 + 2 * k))]) := by
  cases hpf
  exact W.widen hcm.1 hcm.2 (vx_ret (W.aret X.1 X.2.1 hr (Or.inl ⟨_, rfl⟩) (Or.inr ⟨_, rfl⟩) (fun t ht hW => x_end I hc rfl ht) I.2.2.1.2.2 hdg X.2.2.2.2.2.2.1))
/-- behind a call that may throw -/
theorem x_back {cC cD : Nat → Nat} {cE : Nat} {α : Type} {Rv : kG → α → Option Value} {mc ms pc : Nat} {st0 : List Value} {w : α ⊕ Nat} {S1 : kS} {a : Array Value} {K : α → kS → Option ((γ ⊕ Nat) × kS)} (hz : s.heap.size ≤ H.size)
    (X : kX p s m meth c cc nL args own dC dI (g.1, g.2.1, cC, cD, cE) (kAt g (kn Si) (km Si) (kp Si) sz)) (XX : kXX l s c g Si (kAt g (kn Si) (km Si) (kp Si) sz)) (I : kV dC dI (g.1, g.2.1, cC, cD, cE) (kAt g (kn Si) (km Si) (kp Si) sz) s S0 S H locs) (hc : kGc g cC cE Si S0) (hcm : cells + mc ≤ MC ∧ slots + ms ≤ MS)
    (hpf : (∃ v, w = .inl v ∧ K v S1 = some (o, Sf)) ∨ (∃ e, w = .inr e ∧ (o, Sf) = (.inr e, S1)))
    (hr : vx_Run p l e R s m args below meth c H locs cells slots mc ms (F0 m pc ls st0) rest (kQx dC dI (g.1, g.2.1, cC, cD, cE) H.size S Rv w S1 a) (kXx dC dI (g.1, g.2.1, cC, cD, cE) H.size S w S1) (kAt (g.1, g.2.1, cC, cD, cE) (kn S) (km S) (kp S) H.size))
    (kk : ∀ (v : α) (cc2 cd2 : Nat → Nat) (ce2 : Nat) (H1 : Heap) (locs1 : List Loc), kV dC dI (g.1, g.2.1, cc2, cd2, ce2) (kAt g (kn Si) (km Si) (kp Si) sz) s S1 S1 H1 locs1 → kGc g cc2 ce2 Si S1 → kGc (g.1, g.2.1, cC, cD, cE) cc2 ce2 S S1 → K v S1 = some (o, Sf) → W p l e R s m args below meth c H1 locs1 (cells + mc) (slots + ms) (vx_MQ below (kQx dC dI g sz Si Rg o Sf) (kXx dC dI g sz Si o Sf) args s MC MS (kAt g (kn Si) (km Si) (kp Si) sz)) (F0 m (pc + 3) ls ((Rv (g.1, g.2.1, cc2, cd2, ce2) v).toList ++ rest))) :
    W p l e R s m args below meth c H locs cells slots (vx_MQ below (kQx dC dI g sz Si Rg o Sf) (kXx dC dI g sz Si o Sf) args s MC MS (kAt g (kn Si) (km Si) (kp Si) sz)) (F0 m pc ls st0) := by
  intro T hT X9
  have hf := kAt_sub I.2.1 X.2.2.2.2.2.2.2 hz
  have hS := I.2.2.1
  have hgc : ∀ (cc2 : Nat → Nat) (ce2 : Nat), kGc (g.1, g.2.1, cC, cD, cE) cc2 ce2 S S1 → kGc g cc2 ce2 Si S1 := fun cc2 ce2 q => (hc.sm I.2.2.2).trans (cd := cD) q
  rcases hr T hT X9 with ⟨v, st₀, t, T', L, h0, X', hL, e1, e2, ⟨⟨v9, cc2, cd2, ce2, hw, hv, hg2, hP, hD⟩, hF⟩, st⟩ | ⟨q, st₀, t, T', L, E, ce, h0, X', hL, e1, e2, ⟨⟨k9, hw, hE, cc2, cd2, ce2, hg2, hP, hD⟩, hF⟩, hce, hcv, hcl, st⟩
  · cases hv
    obtain ⟨k1, k2, k3⟩ := vx_keep h0 e1 hS (fun q _ h => hf q h) hf hL hF
    rcases hpf with ⟨v8, hw8, hk8⟩ | ⟨e8, hw8, -⟩
    · have e9 : v9 = v8 := Sum.inl.inj (hw.symm.trans hw8)
      rw [← e9] at hk8
      obtain ⟨t2, a1, b1⟩ := kk v9 cc2 cd2 ce2 T'.heap (locs ++ L) ⟨by rw [e1]; exact hP, hD.weaken (fun _ _ _ h => hf _ h), k3, kSm.rf⟩ (hgc cc2 ce2 hg2) hg2 hk8 T' rfl X'
      exact ⟨t2, st t2 a1, b1⟩
    · cases hw.symm.trans hw8
  · obtain ⟨k1, k2, k3⟩ := vx_keep h0 e1 hS (fun q _ h => hf q h) hf hL hF
    rcases hpf with ⟨v8, hw8, -⟩ | ⟨e8, hw8, ho⟩
    · cases hw.symm.trans hw8
    · have e9 : k9 = e8 := Sum.inr.inj (hw.symm.trans hw8)
      have e10 : o = .inr k9 := by rw [e9]; exact congrArg Prod.fst ho
      have e11 : Sf = S1 := congrArg Prod.snd ho
      rw [e10, e11]
      have hx : vx_W p l e R s m args below meth c T'.heap (locs ++ L) (cells + mc) (slots + ms) (vx_MQ below (kQx dC dI g sz Si Rg (.inr k9) S1) (kXx dC dI g sz Si (.inr k9 : γ ⊕ Nat) S1) args s MC MS (kAt g (kn Si) (km Si) (kp Si) sz)) (F0 m pc ls rest) q :=
        vx_out (E := E) (ce := ce) (fun x hx => (XX.1 x hx).elim) X.2.2.2.2.2.2.1 (by rw [e1]; exact hce) hcv hcl (fun t9 ht9 hal => ⟨⟨k9, rfl, hE, cc2, cd2, ce2, hgc cc2 ce2 hg2, by rw [ht9, e1]; exact hP, hD.weaken (fun _ _ _ h => hf _ h)⟩, k3.F ht9⟩) k3.2.2 hcm.1 hcm.2
      obtain ⟨t2, a1, b1⟩ := hx T' rfl X'
      exact ⟨t2, st.trans a1, b1⟩
theorem xRoom {d d2 mc ms nl : Nat} (hR : d ≤ R.frames ∧ 40 * d ≤ R.locals) (hd : d2 + 1 ≤ d) (hn : nl ≤ 21) : (xRm d2 mc ms).frames + 1 ≤ R.frames ∧ 8 + (nl + 11) + (xRm d2 mc ms).locals ≤ R.locals := by
  show d2 + 1 ≤ R.frames ∧ 8 + (nl + 11) + 40 * d2 ≤ R.locals
  omega
theorem xPre {cC cD : Nat → Nat} {cE : Nat} {av : List Value} (X : kX p s m meth c cc nL args own dC dI (g.1, g.2.1, cC, cD, cE) A) (XX : kXX l s c g Si A) (I : kV dC dI (g.1, g.2.1, cC, cD, cE) A s S0 S H locs) (hc : kGc g cC cE Si S0) {U : State} (hU : U.heap = H) (hW : s.WarmedH U.vm) : va_Pc av (kPreX dC dI (g.1, g.2.1, cC, cD, cE) H.size S) av.toArray U :=
  ⟨rfl, ⟨by rw [hU], by rw [hU]; exact I.1, va_K.moved hW.alike X.2.2.2.2.2.1, I.2.1.weaken (fun _ _ _ _ => trivial)⟩, by rw [hU]; exact XX.2.2.1.to hW I.2.2.1.2.1 (kAt_sub I.2.1 X.2.2.2.2.2.2.2 I.2.2.1.1), fun h0 => by
    obtain ⟨e1, e2⟩ := (hc.sm I.2.2.2).2.2 h0
    rw [hU]
    show va_Z _ _ _ (.ref cE) _ _ _ ∧ kMt cE _ _ ∧ _
    rw [e2]
    have r := XX.2.2.2.to (U := U) (H1 := H) (B := kAt (g.1, g.2.1, cC, cD, cE) (kn S) (km S) (kp S) H.size) hW.alike I.2.2.1.2.1 (kAt_sub I.2.1 X.2.2.2.2.2.2.2 I.2.2.1.1) e1
    rw [e2] at r
    exact r⟩
theorem xBlind {av : List Value} {n : Nat} : FrameBlind (va_Pc av (kPreX dC dI g n S)) := fun a2 U gg mk q => by
  obtain ⟨q0, ⟨q1, qP, qK, qD⟩, qE, qL⟩ := q
  exact ⟨q0, ⟨q1, qP, va_K.moved (u := U) (U := U.calling gg mk a2) (Vm.Alike.refl U.vm) qK, qD⟩, qE.same (U := U.calling gg mk a2) rfl, qL.to (U := U.calling gg mk a2) (Vm.Alike.refl U.vm) (fun _ _ _ => rfl) (fun _ h => h)⟩
theorem x_callI {cC cD : Nat → Nat} {cE : Nat} {α : Type} {y : MethodName} {b : ByteArray} {nl n index d2 d mc ms : Nat} {ret : Option FieldType} {Av : kG → List Value} {Rv : kG → α → Option Value} {f : kS → Option ((α ⊕ Nat) × kS)} {K : α → kS → Option ((γ ⊕ Nat) × kS)} {st0 : List Value} {ci NN : Nat} {Cn : String} {TT : u_T} {oo a : Nat} {fs : List Value} {As : List Value}
    (hR : d ≤ R.frames ∧ 40 * d ≤ R.locals) (X : kX p s m meth c cc nL args own dC dI (g.1, g.2.1, cC, cD, cE) (kAt g (kn Si) (km Si) (kp Si) sz)) (XX : kXX l s c g Si (kAt g (kn Si) (km Si) (kp Si) sz)) (I : kV dC dI (g.1, g.2.1, cC, cD, cE) (kAt g (kn Si) (km Si) (kp Si) sz) s S0 S H locs) (hc : kGc g cC cE Si S0) (F : kFnI own y b nl ret n index) (hcl : kCl ci Cn TT NN) (hcn : y.cls = Cn) (hO : (kW (g.1, g.2.1, cC, cD, cE) S)[oo]? = some (a, .inr (ci, fs))) (hM : kMx l y b nl ret d2 mc ms Av Rv f) (hAv : Av (g.1, g.2.1, cC, cD, cE) = .ref a :: As) (hd : d2 + 1 ≤ d) (pc : Nat) (hdg : decode cc pc = .ok (.invokevirtual index, 3)) (hn : As.length = n) (hsz : ls.size = nL)
    (hst : st0 = As.reverse ++ .ref a :: rest) (hW : (rest.map fun v => v.category).sum ≤ 8) (hcs : cells + mc ≤ R.cells ∧ slots + ms ≤ R.slots) (hcm : cells + mc ≤ MC ∧ slots + ms ≤ MS)
    (hpf : bx (f S) K = some (o, Sf)) (kk : ∀ (v : α) (S1 : kS) (cc2 cd2 : Nat → Nat) (ce2 : Nat) (H1 : Heap) (locs1 : List Loc), kV dC dI (g.1, g.2.1, cc2, cd2, ce2) (kAt g (kn Si) (km Si) (kp Si) sz) s S1 S1 H1 locs1 → kGc g cc2 ce2 Si S1 → kGc (g.1, g.2.1, cC, cD, cE) cc2 ce2 S S1 → K v S1 = some (o, Sf) → W p l e R s m args below meth c H1 locs1 (cells + mc) (slots + ms) (vx_MQ below (kQx dC dI g sz Si Rg o Sf) (kXx dC dI g sz Si o Sf) args s MC MS (kAt g (kn Si) (km Si) (kp Si) sz)) (F0 m (pc + 3) ls ((Rv (g.1, g.2.1, cc2, cd2, ce2) v).toList ++ rest))) :
    W p l e R s m args below meth c H locs cells slots (vx_MQ below (kQx dC dI g sz Si Rg o Sf) (kXx dC dI g sz Si o Sf) args s MC MS (kAt g (kn Si) (km Si) (kp Si) sz)) (F0 m pc ls st0) := by
  obtain ⟨h1, h2, h3, h4, h5, h6, h7, h8⟩ := id X
  obtain ⟨⟨x1, x2, x4, x5, x6⟩, x7, x8⟩ := F
  obtain ⟨w, S1, hf, hk⟩ := bx_some hpf
  exact x_back I.2.2.1.1 X XX I hc hcm hk (vx_runV (Ts := wsC) (own := own) (C := y.cls) (As := As) (rest := rest) ⟨h1, h2, h3, h4, h5⟩ (hM dC dI (g.1, g.2.1, cC, cD, cE) H.size S w S1 hf) ⟨callB_of n h5 (kGoodC x4) rfl rfl rfl (h5 _ x2) (h5 _ x1) x5 (xRoom hR hd x6), h5 _ x7, h5 _ x8⟩ ⟨xBlind, (by rw [hcn]; exact va_recv h6 I.1 hcl.1 hO), fun U hU hW2 => by rw [hAv]; exact xPre X XX I hc hU hW2⟩ rfl hn hsz hst (lv_room hW) hdg hcs) (fun v cc2 cd2 ce2 H1 locs1 I1 g1 g2 hk1 => kk v S1 cc2 cd2 ce2 H1 locs1 I1 g1 g2 hk1)
theorem x_callS {cC cD : Nat → Nat} {cE : Nat} {α : Type} {y : MethodName} {b : ByteArray} {nl n index d2 d mc ms : Nat} {ret : Option FieldType} {Av : kG → List Value} {Rv : kG → α → Option Value} {f : kS → Option ((α ⊕ Nat) × kS)} {K : α → kS → Option ((γ ⊕ Nat) × kS)} {st0 : List Value} {As : List Value}
    (hR : d ≤ R.frames ∧ 40 * d ≤ R.locals) (X : kX p s m meth c cc nL args own dC dI (g.1, g.2.1, cC, cD, cE) (kAt g (kn Si) (km Si) (kp Si) sz)) (XX : kXX l s c g Si (kAt g (kn Si) (km Si) (kp Si) sz)) (I : kV dC dI (g.1, g.2.1, cC, cD, cE) (kAt g (kn Si) (km Si) (kp Si) sz) s S0 S H locs) (hc : kGc g cC cE Si S0) (F : kFnS own y b nl ret n index) (hM : kMx l y b nl ret d2 mc ms Av Rv f) (hAv : Av (g.1, g.2.1, cC, cD, cE) = As) (hd : d2 + 1 ≤ d) (pc : Nat) (hdg : decode cc pc = .ok (.invokestatic index, 3)) (hn : As.length = n) (hsz : ls.size = nL)
    (hst : st0 = As.reverse ++ rest) (hW : (rest.map fun v => v.category).sum ≤ 8) (hcs : cells + mc ≤ R.cells ∧ slots + ms ≤ R.slots) (hcm : cells + mc ≤ MC ∧ slots + ms ≤ MS)
    (hpf : bx (f S) K = some (o, Sf)) (kk : ∀ (v : α) (S1 : kS) (cc2 cd2 : Nat → Nat) (ce2 : Nat) (H1 : Heap) (locs1 : List Loc), kV dC dI (g.1, g.2.1, cc2, cd2, ce2) (kAt g (kn Si) (km Si) (kp Si) sz) s S1 S1 H1 locs1 → kGc g cc2 ce2 Si S1 → kGc (g.1, g.2.1, cC, cD, cE) cc2 ce2 S S1 → K v S1 = some (o, Sf) → W p l e R s m args below meth c H1 locs1 (cells + mc) (slots + ms) (vx_MQ below (kQx dC dI g sz Si Rg o Sf) (kXx dC dI g sz Si o Sf) args s MC MS (kAt g (kn Si) (km Si) (kp Si) sz)) (F0 m (pc + 3) ls ((Rv (g.1, g.2.1, cc2, cd2, ce2) v).toList ++ rest))) :
    W p l e R s m args below meth c H locs cells slots (vx_MQ below (kQx dC dI g sz Si Rg o Sf) (kXx dC dI g sz Si o Sf) args s MC MS (kAt g (kn Si) (km Si) (kp Si) sz)) (F0 m pc ls st0) := by
  obtain ⟨h1, h2, h3, h4, h5, h6, h7, h8⟩ := id X
  obtain ⟨⟨x1, x2, x4, x5, x6⟩, x7⟩ := F
  obtain ⟨w, S1, hf, hk⟩ := bx_some hpf
  exact x_back I.2.2.1.1 X XX I hc hcm hk (vx_runS (Ts := wsC) (own := own) (As := As) (rest := rest) ⟨h1, h2, h3, h4, h5⟩ (hM dC dI (g.1, g.2.1, cC, cD, cE) H.size S w S1 hf) ⟨callB_of n h5 (kGoodC x4) rfl rfl rfl (h5 _ x2) (h5 _ x1) x5 (xRoom hR hd x6), h5 _ x7⟩ ⟨xBlind, fun U hU hW2 => by rw [hAv]; exact xPre X XX I hc hU hW2⟩ rfl hn hsz hst (lv_room hW) hdg hcs) (fun v cc2 cd2 ce2 H1 locs1 I1 g1 g2 hk1 => kk v S1 cc2 cd2 ce2 H1 locs1 I1 g1 g2 hk1)
end XR
theorem xStart {α : Type} {l : Launch} {y : MethodName} {b : ByteArray} {nl : Nat} {ret : Option FieldType} {d mc ms : Nat} {Av : kG → List Value} {Rv : kG → α → Option Value} {f : kS → Option ((α ⊕ Nat) × kS)} (hl : l.stackTraces = false) (own : String) (hy : plainName y.cls = true) (hyc : y.cls = own) (lv : kG → List (Nat × Value)) (hn : ∀ g, (lg_sl (Av g)).length ≤ nl) (hlv : ∀ g, lv_args 0 (Av g) = lv g)
    (body : ∀ (dC : Nat → ClassId) (dI : Nat → Nat → Nat) (g : kG) (sz : Nat) (S : kS) (o : α ⊕ Nat) (S' : kS), f S = some (o, S') → ∀ (p : Program) (e : Env) (s : State) (m : MethodId) (args : Array Value) (below : List Frame) (meth : Method) (c : Code), kX p s m meth c b nl args own dC dI (g.1, g.2.1, g.2.2.1, g.2.2.2.1, g.2.2.2.2) (kAt g (kn S) (km S) (kp S) sz) → kXX l s c g S (kAt g (kn S) (km S) (kp S) sz) → meth.sig.returnType = ret → ∀ (H : Heap) (locs : List Loc), kV dC dI (g.1, g.2.1, g.2.2.1, g.2.2.2.1, g.2.2.2.2) (kAt g (kn S) (km S) (kp S) sz) s S S H locs → kGc g g.2.2.1 g.2.2.2.2 S S → ∀ ls : Array Slot, lv_has ls nl (lv g) →
      W p l e (xRm d mc ms) s m args below meth c H locs 0 0 (vx_MQ below (kQx dC dI g sz S Rv o S') (kXx dC dI g sz S o S') args s mc ms (kAt g (kn S) (km S) (kp S) sz)) (F0 m 0 ls [])) : kMx l y b nl ret d mc ms Av Rv f := by
  intro dC dI g sz S o S' hf
  refine vx_ofW (cc := b) (maxL := nl) (ret := ret) hy rfl ?_
  intro p e s m args below meth c s₁ B hml hexc hv
  obtain ⟨rfl, ⟨hsz, hP, hK, hD0⟩, hE, hL⟩ := hv
  have hts := atoms_spec B.pre
  have hown : s.vm.findClass own = some m.cls := by rw [← hyc]; exact findClass_of_methodNamed B.named
  have hlv0 := lv_entry (Av g) (n := nl) (hn g)
  rw [lg_entry_eq]
  rw [hlv g] at hlv0
  exact body dC dI g sz S o S' hf p e s m _ below meth c ⟨B.exec, B.bytes, hml, hown, kWords hts, hK, B.notSynchronized, fun q hq => Or.inr (by rw [← hsz]; exact hq)⟩ ⟨hexc, hl, hE, hL⟩ B.returns s.heap [] ⟨hP, kD_self sz hD0, va_S.rf, kSm.rf⟩ ⟨Nat.le_refl _, fun _ _ => rfl, fun h => ⟨h, rfl⟩⟩ _ hlv0
