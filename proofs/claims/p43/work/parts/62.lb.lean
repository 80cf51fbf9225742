-- THE LAW: its rows of numbers beside the class's world
abbrev lS : Type := (Nat → Nat → Int32) × (Nat → Nat → Int64)
def aI (L : lS) (k : Nat) : Nat → Int32 := L.1 k
def aJ (L : lS) (k : Nat) : Nat → Int64 := L.2 k
def uI (L : lS) (k j : Nat) (v : Int32) : lS := ((fun q => if q = k then upd (L.1 k) j v else L.1 q), L.2)
def uJ (L : lS) (k j : Nat) (v : Int64) : lS := (L.1, (fun q => if q = k then vp_updL (L.2 k) j v else L.2 q))
def lAr (gA : Nat → ClassId) (a : Nat → Nat) (L : lS) : va_W := [(a 0, .inl (gA 0, 20, .inl (aI L 0))), (a 1, .inl (gA 0, 9, .inl (aI L 1))), (a 2, .inl (gA 0, 41, .inl (aI L 2))), (a 3, .inl (gA 0, 41, .inl (aI L 3))), (a 4, .inl (gA 0, 41, .inl (aI L 4))), (a 5, .inl (gA 0, 41, .inl (aI L 5))), (a 6, .inl (gA 0, 41, .inl (aI L 6))), (a 7, .inl (gA 1, 41, .inr (.inl (aJ L 7)))), (a 8, .inl (gA 0, 64, .inl (aI L 8))), (a 9, .inl (gA 0, 36, .inl (aI L 9))), (a 10, .inl (gA 1, 36, .inr (.inl (aJ L 10)))), (a 11, .inl (gA 0, 4, .inl (aI L 11))), (a 12, .inl (gA 0, 64, .inl (aI L 12)))]
def lWd (g : kG) (a : Nat → Nat) (S : kS) (L : lS) : va_W := lAr g.1 a L ++ kW g S
def lArI (k n : Nat) : Prop := ∀ (g : kG) (a : Nat → Nat) (S : kS) (L : lS), (lWd g a S L)[k]? = some (a k, .inl (g.1 0, n, .inl (aI L k))) ∧ ∀ (j : Nat) (v : Int32), (lWd g a S L).set k (a k, .inl (g.1 0, n, .inl (upd (aI L k) j v))) = lWd g a S (uI L k j v)
def lArJ (k n : Nat) : Prop := ∀ (g : kG) (a : Nat → Nat) (S : kS) (L : lS), (lWd g a S L)[k]? = some (a k, .inl (g.1 1, n, .inr (.inl (aJ L k)))) ∧ ∀ (j : Nat) (v : Int64), (lWd g a S L).set k (a k, .inl (g.1 1, n, .inr (.inl (vp_updL (aJ L k) j v)))) = lWd g a S (uJ L k j v)
theorem lR_0 : lArI 0 20 := fun _ _ _ _ => ⟨rfl, fun _ _ => rfl⟩
theorem lR_1 : lArI 1 9 := fun _ _ _ _ => ⟨rfl, fun _ _ => rfl⟩
theorem lR_2 : lArI 2 41 := fun _ _ _ _ => ⟨rfl, fun _ _ => rfl⟩
theorem lR_3 : lArI 3 41 := fun _ _ _ _ => ⟨rfl, fun _ _ => rfl⟩
theorem lR_4 : lArI 4 41 := fun _ _ _ _ => ⟨rfl, fun _ _ => rfl⟩
theorem lR_5 : lArI 5 41 := fun _ _ _ _ => ⟨rfl, fun _ _ => rfl⟩
theorem lR_6 : lArI 6 41 := fun _ _ _ _ => ⟨rfl, fun _ _ => rfl⟩
theorem lR_7 : lArJ 7 41 := fun _ _ _ _ => ⟨rfl, fun _ _ => rfl⟩
theorem lR_8 : lArI 8 64 := fun _ _ _ _ => ⟨rfl, fun _ _ => rfl⟩
theorem lR_9 : lArI 9 36 := fun _ _ _ _ => ⟨rfl, fun _ _ => rfl⟩
theorem lR_10 : lArJ 10 36 := fun _ _ _ _ => ⟨rfl, fun _ _ => rfl⟩
theorem lR_11 : lArI 11 4 := fun _ _ _ _ => ⟨rfl, fun _ _ => rfl⟩
theorem lR_12 : lArI 12 64 := fun _ _ _ _ => ⟨rfl, fun _ _ => rfl⟩
theorem lWd_adr {g : kG} {a : Nat → Nat} {S : kS} {L L' : lS} : (lWd g a S L).map (·.1) = (lWd g a S L').map (·.1) := by
  unfold lWd
  rw [List.map_append, List.map_append]
  rfl
theorem lD_L {A : Nat → Prop} {g : kG} {a : Nat → Nat} {S : kS} {L L' : lS} (h : va_D A (lWd g a S L)) : va_D A (lWd g a S L') := by
  rw [va_D_iff] at h ⊢
  have e1 := lWd_adr (g := g) (a := a) (S := S) (L := L) (L' := L')
  rw [← e1]
  refine ⟨h.1, fun x hx => ?_⟩
  have hm : x.1 ∈ (lWd g a S L').map (·.1) := List.mem_map.mpr ⟨x, hx, rfl⟩
  rw [← e1] at hm
  obtain ⟨y, hy, he⟩ := List.mem_map.mp hm
  rw [← he]
  exact h.2 y hy
def lFr (g : kG) (a : Nat → Nat) (S : kS) (L : lS) (sz : Nat) : Nat → Prop := nA (lWd g a S L) sz
/-- the two exceptions that are caught are not castable to each other -/
def lNc (U : State) : Prop := ∀ j k : Nat, (j = 1 ∨ j = 3) → (k = 1 ∨ k = 3) → j ≠ k → va_Nc (xN j) (xN k) U
theorem lNc.moved {u U : State} (h : lNc u) (hW : u.vm.Alike U.vm) : lNc U := fun j k hj hk hn => va_Nc.moved hW (h j k hj hk hn)
def lPre (dC : Nat → ClassId) (dI : Nat → Nat → Nat) (g : kG) (a : Nat → Nat) (sz : Nat) (S : kS) (L : lS) : State → Prop := fun U =>
  (U.heap.size = sz ∧ va_P (dC, dI) vwCl (lWd g a S L) U.heap ∧ va_K (dC, dI) vwCl (kTy g) U ∧ va_D (fun _ => True) (lWd g a S L)) ∧ (kEx (lFr g a S L sz) U U.heap ∧ kLg g.1 (kp S) g.2.2.2.2 (lFr g a S L sz) U U.heap) ∧ lNc U
def lQ (dC : Nat → ClassId) (dI : Nat → Nat → Nat) (g : kG) (a : Nat → Nat) (sz : Nat) (S : kS) (L : lS) (v : Option Value) (S' : kS) (L' : lS) : Array Value → State → Outcome → State → Prop := fun _ st oc t =>
  (oc = .returned v ∧ ∃ (cc cd : Nat → Nat) (ce : Nat), kGc g cc ce S S' ∧ va_P (dC, dI) vwCl (lWd (g.1, g.2.1, cc, cd, ce) a S' L') t.heap ∧ va_D (lFr g a S L sz) (lWd (g.1, g.2.1, cc, cd, ce) a S' L')) ∧ va_F (lFr g a S L sz) st t
def lRm (d lo mc ms : Nat) : Room := { frames := d, cells := mc, slots := ms, locals := lo }
def qI : Int32 → Option Value := fun v => some (.int v)
def qJ : Int64 → Option Value := fun v => some (.long v)
def qU : Unit → Option Value := fun _ => none
/-- a contract of a method of the law's; hd is the word of its code -/
def lMet {α : Type} (l : Launch) (y : MethodName) (hd : Cond) (d lo mc ms : Nat) (Av : (Nat → Nat) → (Nat → Nat) → List Value) (Rv : α → Option Value) (f : kS → lS → Option (α × kS × lS)) : Prop :=
  ∀ (dC : Nat → ClassId) (dI : Nat → Nat → Nat) (g : kG) (a : Nat → Nat) (sz : Nat) (S : kS) (L : lS) (r : α) (S' : kS) (L' : lS), f S L = some (r, S', L') →
    Met l y (hd :: wsT) (lRm d lo mc ms) (va_Pc (Av g.2.1 a) (lPre dC dI g a sz S L)) (lQ dC dI g a sz S L (Rv r) S' L') mc ms (lFr g a S L sz)
-- pictures
def lup {α : Type} (S : kS) (o : Option (α × lS)) : Option (α × kS × lS) := match o with
  | none => none
  | some q => some (q.1, S, q.2)
theorem lup_some {α : Type} {S S' : kS} {L' : lS} {o : Option (α × lS)} {r : α} (h : lup S o = some (r, S', L')) : S' = S ∧ o = some (r, L') := by
  cases o with
  | none => cases h
  | some q => cases h; exact ⟨rfl, rfl⟩
def slv {β : Type} (L : lS) (k : lS → Option β) : Option β := k L
def gz {β : Type} (n : Int32) (k : Option β) : Option β := if n = 0 then none else k
theorem gz_some {β : Type} {n : Int32} {k : Option β} {r : β} (h : gz n k = some r) : ¬ n = 0 ∧ k = some r := by
  unfold gz at h
  by_cases hc : n = 0
  · rw [if_pos hc] at h; cases h
  · rw [if_neg hc] at h; exact ⟨hc, h⟩
/-- a call of a method that touches the law's rows alone -/
def lba {α β : Type} (o : Option (α × lS)) (k : α → lS → Option β) : Option β := match o with
  | none => none
  | some q => k q.1 q.2
theorem lba_some {α β : Type} {o : Option (α × lS)} {k : α → lS → Option β} {r : β} (h : lba o k = some r) : ∃ v L, o = some (v, L) ∧ k v L = some r := by
  cases o with
  | none => cases h
  | some q => exact ⟨q.1, q.2, rfl, h⟩
/-- a call of a method that may reach the class: it costs, there must be room -/
def lbb {α β : Type} (mc ms MC MS C D : Nat) (o : Option (α × kS × lS)) (k : α → kS → lS → Nat → Nat → Option β) : Option β := if C + mc ≤ MC ∧ D + ms ≤ MS then (match o with
  | none => none
  | some q => k q.1 q.2.1 q.2.2 (C + mc) (D + ms)) else none
theorem lbb_some {α β : Type} {mc ms MC MS C D : Nat} {o : Option (α × kS × lS)} {k : α → kS → lS → Nat → Nat → Option β} {r : β} (h : lbb mc ms MC MS C D o k = some r) : (C + mc ≤ MC ∧ D + ms ≤ MS) ∧ ∃ v S L, o = some (v, S, L) ∧ k v S L (C + mc) (D + ms) = some r := by
  unfold lbb at h
  by_cases hc : C + mc ≤ MC ∧ D + ms ≤ MS
  · rw [if_pos hc] at h
    cases o with
    | none => cases h
    | some q => exact ⟨hc, q.1, q.2.1, q.2.2, rfl, h⟩
  · rw [if_neg hc] at h; cases h
/-- a call of the class that must not throw -/
def lbx {α β : Type} (mc ms MC MS C D : Nat) (o : Option ((α ⊕ Nat) × kS)) (k : α → kS → Nat → Nat → Option β) : Option β := if C + mc ≤ MC ∧ D + ms ≤ MS then (match o with
  | some (.inl v, S) => k v S (C + mc) (D + ms)
  | _ => none) else none
theorem lbx_some {α β : Type} {mc ms MC MS C D : Nat} {o : Option ((α ⊕ Nat) × kS)} {k : α → kS → Nat → Nat → Option β} {r : β} (h : lbx mc ms MC MS C D o k = some r) : (C + mc ≤ MC ∧ D + ms ≤ MS) ∧ ∃ v S, o = some (.inl v, S) ∧ k v S (C + mc) (D + ms) = some r := by
  unfold lbx at h
  by_cases hc : C + mc ≤ MC ∧ D + ms ≤ MS
  · rw [if_pos hc] at h
    match o, h with
    | some (.inl v, S), h => exact ⟨hc, v, S, rfl, h⟩
  · rw [if_neg hc] at h; cases h
/-- a call of the class that neither throws nor makes a cell -/
def lbm {β : Type} (o : Option (Int32 × kS)) (k : Int32 → kS → Option β) : Option β := match o with
  | none => none
  | some q => k q.1 q.2
theorem lbm_some {β : Type} {o : Option (Int32 × kS)} {k : Int32 → kS → Option β} {r : β} (h : lbm o k = some r) : ∃ v S, o = some (v, S) ∧ k v S = some r := by
  cases o with
  | none => cases h
  | some q => exact ⟨q.1, q.2, rfl, h⟩
/-- a call of the class whose exceptions are caught -/
def lbt (mc ms MC MS C D : Nat) (o : Option ((Int32 ⊕ Nat) × kS)) (k : Int32 → kS → Nat → Nat → Option (Int32 × kS × lS)) (x : Nat → kS → Option (Int32 × kS × lS)) : Option (Int32 × kS × lS) := if C + mc ≤ MC ∧ D + ms ≤ MS then (match o with
  | none => none
  | some (.inl v, S) => k v S (C + mc) (D + ms)
  | some (.inr j, S) => x j S) else none
theorem lbt_some {mc ms MC MS C D : Nat} {o : Option ((Int32 ⊕ Nat) × kS)} {k : Int32 → kS → Nat → Nat → Option (Int32 × kS × lS)} {x : Nat → kS → Option (Int32 × kS × lS)} {r : Int32 × kS × lS} (h : lbt mc ms MC MS C D o k x = some r) : (C + mc ≤ MC ∧ D + ms ≤ MS) ∧ ∃ w S, o = some (w, S) ∧ ((∃ v, w = .inl v ∧ k v S (C + mc) (D + ms) = some r) ∨ (∃ j, w = .inr j ∧ x j S = some r)) := by
  unfold lbt at h
  by_cases hc : C + mc ≤ MC ∧ D + ms ≤ MS
  · rw [if_pos hc] at h
    match o, h with
    | some (.inl v, S), h => exact ⟨hc, .inl v, S, rfl, Or.inl ⟨v, rfl, h⟩⟩
    | some (.inr j, S), h => exact ⟨hc, .inr j, S, rfl, Or.inr ⟨j, rfl, h⟩⟩
  · rw [if_neg hc] at h; cases h
/-- what the law's small methods answer to exceptions -/
def lEx (L : lS) (j : Nat) (S : kS) : Option (Int32 × kS × lS) := if j = 1 then some (-9, S, L) else if j = 3 then some (-7, S, L) else none
theorem lEx_some {L : lS} {j : Nat} {S : kS} {r : Int32 × kS × lS} (h : lEx L j S = some r) : (j = 1 ∧ r = (-9, S, L)) ∨ (j = 3 ∧ r = (-7, S, L)) := by
  unfold lEx at h
  by_cases h1 : j = 1
  · rw [if_pos h1] at h; exact Or.inl ⟨h1, (Option.some.inj h).symm⟩
  · rw [if_neg h1] at h
    by_cases h3 : j = 3
    · rw [if_pos h3] at h; exact Or.inr ⟨h3, (Option.some.inj h).symm⟩
    · rw [if_neg h3] at h; cases h
def lre {α : Type} (MC MS C D : Nat) (v : α) (S : kS) (L : lS) : Option (α × kS × lS) := if C ≤ MC ∧ D ≤ MS then some (v, S, L) else none
theorem lre_some {α : Type} {MC MS C D : Nat} {v r : α} {S S' : kS} {L L' : lS} (h : lre MC MS C D v S L = some (r, S', L')) : (C ≤ MC ∧ D ≤ MS) ∧ v = r ∧ S = S' ∧ L = L' := by
  unfold lre at h
  by_cases hc : C ≤ MC ∧ D ≤ MS
  · rw [if_pos hc] at h; cases h; exact ⟨hc, rfl, rfl, rfl⟩
  · rw [if_neg hc] at h; cases h
def zlA (v : Int32) (L : lS) : Option (Int32 × lS) := if vp_nar .boolean v = v then some (v, L) else none
def zlB (MC MS C D : Nat) (v : Int32) (S : kS) (L : lS) : Option (Int32 × kS × lS) := if vp_nar .boolean v = v then lre MC MS C D v S L else none
-- words
theorem lGood {w : Cond} (h : w ∈ wsT) : (w.onTables && w.keeps) = true ∨ ∃ ty, w = .arrayClass ty := good_of_word (List.all_eq_true.mp wsT_good w h)
theorem lGoodIn {ws : List Cond} (h : ∀ w ∈ ws, w ∈ wsT) : GoodIn wsT ws := fun w hw => ⟨h w hw, lGood (h w hw)⟩
def lFn (y : MethodName) (b : ByteArray) (nl : Nat) (ret : Option FieldType) (n index : Nat) : Prop :=
  Cond.methodLink RL index y ∈ wsT ∧ Cond.instanceMethod y ∈ wsT ∧ Cond.selects RX9 y y ∈ wsT ∧ Cond.code y b nl ret ∈ wsC ∧ y.cls = RX9 ∧ (y.cls ≠ "java/lang/invoke/MethodHandle" ∧ y.cls ≠ "java/lang/invoke/VarHandle" ∧ (parseMethodDescriptor y.desc).map (fun d => d.parameters.length) = some n)
/-- a static method of the law's -/
def lFnS (y : MethodName) (hd : Cond) (n index : Nat) : Prop :=
  Cond.methodLink RL index y ∈ wsT ∧ Cond.static y ∈ wsT ∧ hd ∈ wsT ∧ y.cls = RL ∧ (parseMethodDescriptor y.desc).map (fun d => d.parameters.length) = some n
theorem RL_ok : RL ≠ "java/lang/invoke/MethodHandle" ∧ RL ≠ "java/lang/invoke/VarHandle" := by decide +kernel
theorem lX9_ini : Cond.initialized RX9 ∈ wsT := kT_C _ kC_466
theorem lRL_ini : Cond.initialized RL ∈ wsT := kT_58
def lI (k : Nat) : Nat := if k = 1 then 55 else 57
theorem lLink {k : Nat} (hk : k = 1 ∨ k = 3) : Cond.classLink RL (lI k) (xN k) ∈ wsT := by
  rcases hk with rfl | rfl
  · exact kT_5
  · exact kT_6
theorem lI_pos {k : Nat} : lI k ≠ 0 := by
  unfold lI
  by_cases h1 : k = 1
  · rw [if_pos h1]; decide
  · rw [if_neg h1]; decide
-- the frame
theorem nA_kAt {g : kG} {S : kS} {sz q : Nat} (h : nA (kW g S) sz q) : kAt g (kn S) (km S) (kp S) sz q := by
  rcases h with ⟨x, hx, rfl⟩ | h
  · obtain ⟨k, hk⟩ := List.getElem?_of_mem hx
    exact Or.inl (kAt_in hk)
  · exact Or.inr h
theorem kAt_nA {g : kG} {S : kS} {sz q : Nat} (h : kAt g (kn S) (km S) (kp S) sz q) : nA (kW g S) sz q := by
  rcases h with h | h
  · rw [← kW_adr] at h
    obtain ⟨x, hx, rfl⟩ := List.mem_map.mp h
    exact Or.inl ⟨x, hx, rfl⟩
  · exact Or.inr h
theorem lD_right {A : Nat → Prop} {ws ws' : va_W} (hD : va_D A (ws ++ ws')) : va_D A ws' := by
  rw [va_D_iff] at hD ⊢
  rw [List.map_append, List.nodup_append] at hD
  exact ⟨hD.1.2.1, fun x hx => hD.2 x (List.mem_append_right _ hx)⟩
theorem nA_of_D {ws : va_W} {A : Nat → Prop} {n0 n : Nat} (hD : va_D A ws) (hA : ∀ q, n0 ≤ q → A q) (hz : n0 ≤ n) : ∀ q, nA ws n q → A q := fun q hq => by
  rcases hq with ⟨x, hx, rfl⟩ | hq
  · exact (va_D_iff.mp hD).2 x hx
  · exact hA q (Nat.le_trans hz hq)
theorem nA_self {ws : va_W} {A : Nat → Prop} (sz : Nat) (hD : va_D A ws) : va_D (nA ws sz) ws := by
  rw [va_D_iff] at hD ⊢
  exact ⟨hD.1, fun x hx => Or.inl ⟨x, hx, rfl⟩⟩
theorem lBlind {av : List Value} {dC : Nat → ClassId} {dI : Nat → Nat → Nat} {g : kG} {a : Nat → Nat} {sz : Nat} {S : kS} {L : lS} : FrameBlind (va_Pc av (lPre dC dI g a sz S L)) := fun a2 U gg mk q => by
  obtain ⟨q0, ⟨q1, qP, qK, qD⟩, ⟨qE, qL⟩, qN⟩ := q
  exact ⟨q0, ⟨q1, qP, va_K.moved (u := U) (U := U.calling gg mk a2) (Vm.Alike.refl U.vm) qK, qD⟩, ⟨qE.same (U := U.calling gg mk a2) rfl, qL.to (U := U.calling gg mk a2) (Vm.Alike.refl U.vm) (fun _ _ _ => rfl) (fun _ h => h)⟩, qN.moved (U := U.calling gg mk a2) (Vm.Alike.refl U.vm)⟩
/-- a method of the law's that is walked -/
def lX (l : Launch) (p : Program) (s : State) (m : MethodId) (meth : Method) (c : Code) (cc : ByteArray) (nL : Nat) (args : Array Value) (dC : Nat → ClassId) (dI : Nat → Nat → Nat) (g : kG) (A : Nat → Prop) (Si : kS) : Prop :=
  p.tables.exec = Jvm.exec ∧ c.code = cc ∧ c.maxLocals = nL ∧ s.vm.findClass RL = some m.cls ∧ (∀ w ∈ wsT, w.before args s = true) ∧ va_K (dC, dI) vwCl (kTy g) s ∧ meth.locks = false ∧ (∀ q, s.heap.size ≤ q → A q) ∧ l.stackTraces = false ∧ kEx A s s.heap ∧ kLg g.1 (kp Si) g.2.2.2.2 A s s.heap ∧ lNc s
def lV (dC : Nat → ClassId) (dI : Nat → Nat → Nat) (g : kG) (a : Nat → Nat) (A : Nat → Prop) (s : State) (Si S : kS) (L : lS) (H : Heap) (locs : List Loc) : Prop :=
  ∃ (cc cd : Nat → Nat) (ce : Nat), kGc g cc ce Si S ∧ va_P (dC, dI) vwCl (lWd (g.1, g.2.1, cc, cd, ce) a S L) H ∧ va_D A (lWd (g.1, g.2.1, cc, cd, ce) a S L) ∧ va_S A s.heap H locs
section LB
variable {l : Launch} {p : Program} {e : Env} {R : Room} {s : State} {m : MethodId} {args : Array Value} {below : List Frame} {meth : Method} {c : Code} {H : Heap} {locs : List Loc} {C D : Nat} {Q : State → Prop}
variable {cc : ByteArray} {nL : Nat} {ls : Array Slot} {rest st0 : List Value} {dC : Nat → ClassId} {dI : Nat → Nat → Nat} {g : kG} {a : Nat → Nat} {A : Nat → Prop} {Si S : kS} {L : lS} {β : Type} {res : β}
theorem l_iald {k n : Nat} {j : Int32} {K : Option β} (X : lX l p s m meth c cc nL args dC dI g A Si) (I : lV dC dI g a A s Si S L H locs) (Y : lArI k n) (pc : Nat) (hdg : decode cc pc = .ok (.iaload, 1)) (hpf : gd j n K = some res)
    (kk : K = some res → W p l e R s m args below meth c H locs C D Q (F0 m (pc + 1) ls (.int (aI L k j.toNatClampNeg) :: rest))) : W p l e R s m args below meth c H locs C D Q (F0 m pc ls (.int j :: .ref (a k) :: rest)) := by
  obtain ⟨c2, d2, e2, hg, hP, hD, hS⟩ := I
  obtain ⟨g1, g2⟩ := gd_some hpf
  exact va_iald X.1 X.2.1 X.2.2.2.2.2.1 hP k 0 (Y (g.1, g.2.1, c2, d2, e2) a S L).1 rfl g1 hdg (kk g2)
theorem l_lald {k n : Nat} {j : Int32} {K : Option β} (X : lX l p s m meth c cc nL args dC dI g A Si) (I : lV dC dI g a A s Si S L H locs) (Y : lArJ k n) (pc : Nat) (hdg : decode cc pc = .ok (.laload, 1)) (hpf : gd j n K = some res)
    (kk : K = some res → W p l e R s m args below meth c H locs C D Q (F0 m (pc + 1) ls (.long (aJ L k j.toNatClampNeg) :: rest))) : W p l e R s m args below meth c H locs C D Q (F0 m pc ls (.int j :: .ref (a k) :: rest)) := by
  obtain ⟨c2, d2, e2, hg, hP, hD, hS⟩ := I
  obtain ⟨g1, g2⟩ := gd_some hpf
  exact va_lald X.1 X.2.1 X.2.2.2.2.2.1 hP k 1 (Y (g.1, g.2.1, c2, d2, e2) a S L).1 rfl g1 hdg (kk g2)
theorem l_iast {k n : Nat} {j x : Int32} {K : lS → Option β} (X : lX l p s m meth c cc nL args dC dI g A Si) (I : lV dC dI g a A s Si S L H locs) (Y : lArI k n) (pc : Nat) (hdg : decode cc pc = .ok (.iastore, 1)) (hpf : gd j n (slv (uI L k j.toNatClampNeg x) K) = some res)
    (kk : ∀ (L1 : lS) (H1 : Heap) (locs1 : List Loc), lV dC dI g a A s Si S L1 H1 locs1 → K L1 = some res → W p l e R s m args below meth c H1 locs1 C D Q (F0 m (pc + 1) ls rest)) : W p l e R s m args below meth c H locs C D Q (F0 m pc ls (.int x :: .int j :: .ref (a k) :: rest)) := by
  obtain ⟨c2, d2, e2, hg, hP, hD, hS⟩ := I
  obtain ⟨g1, g2⟩ := gd_some hpf
  refine va_iast X.1 X.2.1 X.2.2.2.2.2.1 hP hD hS k 0 (Y (g.1, g.2.1, c2, d2, e2) a S L).1 rfl g1 hdg (fun H1 locs1 hP hD hS => kk (uI L k j.toNatClampNeg x) H1 locs1 ⟨c2, d2, e2, hg, ?_, ?_, hS⟩ g2)
  · rw [(Y (g.1, g.2.1, c2, d2, e2) a S L).2] at hP
    exact hP
  · rw [(Y (g.1, g.2.1, c2, d2, e2) a S L).2] at hD
    exact hD
theorem l_last {k n : Nat} {j : Int32} {x : Int64} {K : lS → Option β} (X : lX l p s m meth c cc nL args dC dI g A Si) (I : lV dC dI g a A s Si S L H locs) (Y : lArJ k n) (pc : Nat) (hdg : decode cc pc = .ok (.lastore, 1)) (hpf : gd j n (slv (uJ L k j.toNatClampNeg x) K) = some res)
    (kk : ∀ (L1 : lS) (H1 : Heap) (locs1 : List Loc), lV dC dI g a A s Si S L1 H1 locs1 → K L1 = some res → W p l e R s m args below meth c H1 locs1 C D Q (F0 m (pc + 1) ls rest)) : W p l e R s m args below meth c H locs C D Q (F0 m pc ls (.long x :: .int j :: .ref (a k) :: rest)) := by
  obtain ⟨c2, d2, e2, hg, hP, hD, hS⟩ := I
  obtain ⟨g1, g2⟩ := gd_some hpf
  refine va_last X.1 X.2.1 X.2.2.2.2.2.1 hP hD hS k 1 (Y (g.1, g.2.1, c2, d2, e2) a S L).1 rfl g1 hdg (fun H1 locs1 hP hD hS => kk (uJ L k j.toNatClampNeg x) H1 locs1 ⟨c2, d2, e2, hg, ?_, ?_, hS⟩ g2)
  · rw [(Y (g.1, g.2.1, c2, d2, e2) a S L).2] at hP
    exact hP
  · rw [(Y (g.1, g.2.1, c2, d2, e2) a S L).2] at hD
    exact hD
theorem l_callI {y : MethodName} {b : ByteArray} {nl n index dd lo mc ms : Nat} {ret : Option FieldType} {Av : (Nat → Nat) → (Nat → Nat) → List Value} {f : kS → lS → Option (Int32 × kS × lS)} {v : Int32} {S1 : kS} {L1 : lS} {As : List Value}
    (X : lX l p s m meth c cc nL args dC dI g A Si) (I : lV dC dI g a A s Si S L H locs) (Fn : lFnS y (.code y b nl ret) n index) (hM : lMet l y (.code y b nl ret) dd lo mc ms Av qI f) (hAv : Av g.2.1 a = As) (hR : dd + 1 ≤ R.frames ∧ 8 + (nl + 11) + lo ≤ R.locals) (pc : Nat) (hdg : decode cc pc = .ok (.invokestatic index, 3)) (hn : As.length = n) (hsz : ls.size = nL)
    (hst : st0 = As.reverse ++ rest) (hW : (rest.map fun v => v.category).sum ≤ 8) (hcs : C + mc ≤ R.cells ∧ D + ms ≤ R.slots) (hf : f S L = some (v, S1, L1))
    (kk : ∀ (H1 : Heap) (locs1 : List Loc), lV dC dI g a A s Si S1 L1 H1 locs1 → W p l e R s m args below meth c H1 locs1 (C + mc) (D + ms) Q (F0 m (pc + 3) ls (.int v :: rest))) : W p l e R s m args below meth c H locs C D Q (F0 m pc ls st0) := by
  obtain ⟨h1, h2, h3, h4, h5, hK, hlk, hA, hst0, hE, hL, hN⟩ := X
  obtain ⟨c2, d2, e2, hg, hP, hD, hS⟩ := I
  have hL' : kLg g.1 (kp S) e2 A s s.heap := fun hz => by
    obtain ⟨z1, z2⟩ := hg.2.2 hz
    rw [z2]
    exact hL z1
  obtain ⟨x1, x2, x3, x4, x5⟩ := Fn
  have hsub : ∀ q, lFr (g.1, g.2.1, c2, d2, e2) a S L H.size q → A q := nA_of_D hD hA hS.1
  have hG : GoodIn wsT (wsS RL index y ((.code y b nl ret) :: wsT)) := lGoodIn (fun w hw => by
    rcases List.mem_append.mp hw with hw | hw
    · simp only [List.mem_cons, List.not_mem_nil, or_false] at hw
      rcases hw with rfl | rfl | rfl
      · exact x1
      · exact x2
      · first | exact lRL_ini | (rw [x4]; exact lRL_ini)
    · rcases List.mem_cons.mp hw with rfl | hw
      · exact x3
      · exact hw)
  subst hAv
  intro T hT X9
  obtain ⟨v9, st₀, t, T', L9, h0, X', hL9, q1, q2, ⟨⟨hv, c3, d3, e3, hg2, hP2, hD2⟩, hF⟩, st⟩ := (va_runS (R := R) (Ts := wsT) (own := RL) (As := Av g.2.1 a) (rest := rest) ⟨h1, h2, h3, h4, h5⟩ (hM dC dI (g.1, g.2.1, c2, d2, e2) a H.size S L v S1 L1 hf) (cwS n h5 hG rfl rfl rfl ⟨x4, by rw [x4]; exact RL_ok.1, by rw [x4]; exact RL_ok.2, x5⟩ hR) ⟨lBlind, fun U hU hW2 => ⟨rfl, ⟨by rw [hU], by rw [hU]; exact hP, va_K.moved hW2.alike hK, hD.weaken (fun _ _ _ _ => trivial)⟩, ⟨by rw [hU]; exact hE.to hW2 hS.2.1 hsub, by rw [hU]; exact hL'.to hW2.alike hS.2.1 hsub⟩, hN.moved hW2.alike⟩⟩ rfl hn hsz hst (lv_room hW) hdg hcs) T hT X9
  cases hv
  obtain ⟨k1, k2, k3⟩ := vx_keep (A0 := A) (H0 := s.heap) (locs := locs) h0 q1 hS (fun q _ h => hsub q h) hsub hL9 hF
  obtain ⟨t2, a1, b1⟩ := kk T'.heap (locs ++ L9) ⟨c3, d3, e3, hg.trans hg2, by rw [q1]; exact hP2, ⟨hD2.1, fun k q hk => hsub _ (hD2.2 k q hk)⟩, k3⟩ T' rfl X'
  exact ⟨t2, st t2 a1, b1⟩
theorem l_callJ {y : MethodName} {b : ByteArray} {nl n index dd lo mc ms : Nat} {ret : Option FieldType} {Av : (Nat → Nat) → (Nat → Nat) → List Value} {f : kS → lS → Option (Int64 × kS × lS)} {v : Int64} {S1 : kS} {L1 : lS} {As : List Value}
    (X : lX l p s m meth c cc nL args dC dI g A Si) (I : lV dC dI g a A s Si S L H locs) (Fn : lFnS y (.code y b nl ret) n index) (hM : lMet l y (.code y b nl ret) dd lo mc ms Av qJ f) (hAv : Av g.2.1 a = As) (hR : dd + 1 ≤ R.frames ∧ 8 + (nl + 11) + lo ≤ R.locals) (pc : Nat) (hdg : decode cc pc = .ok (.invokestatic index, 3)) (hn : As.length = n) (hsz : ls.size = nL)
    (hst : st0 = As.reverse ++ rest) (hW : (rest.map fun v => v.category).sum ≤ 8) (hcs : C + mc ≤ R.cells ∧ D + ms ≤ R.slots) (hf : f S L = some (v, S1, L1))
    (kk : ∀ (H1 : Heap) (locs1 : List Loc), lV dC dI g a A s Si S1 L1 H1 locs1 → W p l e R s m args below meth c H1 locs1 (C + mc) (D + ms) Q (F0 m (pc + 3) ls (.long v :: rest))) : W p l e R s m args below meth c H locs C D Q (F0 m pc ls st0) := by
  obtain ⟨h1, h2, h3, h4, h5, hK, hlk, hA, hst0, hE, hL, hN⟩ := X
  obtain ⟨c2, d2, e2, hg, hP, hD, hS⟩ := I
  have hL' : kLg g.1 (kp S) e2 A s s.heap := fun hz => by
    obtain ⟨z1, z2⟩ := hg.2.2 hz
    rw [z2]
    exact hL z1
  obtain ⟨x1, x2, x3, x4, x5⟩ := Fn
  have hsub : ∀ q, lFr (g.1, g.2.1, c2, d2, e2) a S L H.size q → A q := nA_of_D hD hA hS.1
  have hG : GoodIn wsT (wsS RL index y ((.code y b nl ret) :: wsT)) := lGoodIn (fun w hw => by
    rcases List.mem_append.mp hw with hw | hw
    · simp only [List.mem_cons, List.not_mem_nil, or_false] at hw
      rcases hw with rfl | rfl | rfl
      · exact x1
      · exact x2
      · first | exact lRL_ini | (rw [x4]; exact lRL_ini)
    · rcases List.mem_cons.mp hw with rfl | hw
      · exact x3
      · exact hw)
  subst hAv
  intro T hT X9
  obtain ⟨v9, st₀, t, T', L9, h0, X', hL9, q1, q2, ⟨⟨hv, c3, d3, e3, hg2, hP2, hD2⟩, hF⟩, st⟩ := (va_runS (R := R) (Ts := wsT) (own := RL) (As := Av g.2.1 a) (rest := rest) ⟨h1, h2, h3, h4, h5⟩ (hM dC dI (g.1, g.2.1, c2, d2, e2) a H.size S L v S1 L1 hf) (cwS n h5 hG rfl rfl rfl ⟨x4, by rw [x4]; exact RL_ok.1, by rw [x4]; exact RL_ok.2, x5⟩ hR) ⟨lBlind, fun U hU hW2 => ⟨rfl, ⟨by rw [hU], by rw [hU]; exact hP, va_K.moved hW2.alike hK, hD.weaken (fun _ _ _ _ => trivial)⟩, ⟨by rw [hU]; exact hE.to hW2 hS.2.1 hsub, by rw [hU]; exact hL'.to hW2.alike hS.2.1 hsub⟩, hN.moved hW2.alike⟩⟩ rfl hn hsz hst (lv_room hW) hdg hcs) T hT X9
  cases hv
  obtain ⟨k1, k2, k3⟩ := vx_keep (A0 := A) (H0 := s.heap) (locs := locs) h0 q1 hS (fun q _ h => hsub q h) hsub hL9 hF
  obtain ⟨t2, a1, b1⟩ := kk T'.heap (locs ++ L9) ⟨c3, d3, e3, hg.trans hg2, by rw [q1]; exact hP2, ⟨hD2.1, fun k q hk => hsub _ (hD2.2 k q hk)⟩, k3⟩ T' rfl X'
  exact ⟨t2, st t2 a1, b1⟩
theorem l_callU {y : MethodName} {b : ByteArray} {nl n index dd lo mc ms : Nat} {ret : Option FieldType} {Av : (Nat → Nat) → (Nat → Nat) → List Value} {f : kS → lS → Option (Unit × kS × lS)} {v : Unit} {S1 : kS} {L1 : lS} {As : List Value}
    (X : lX l p s m meth c cc nL args dC dI g A Si) (I : lV dC dI g a A s Si S L H locs) (Fn : lFnS y (.code y b nl ret) n index) (hM : lMet l y (.code y b nl ret) dd lo mc ms Av qU f) (hAv : Av g.2.1 a = As) (hR : dd + 1 ≤ R.frames ∧ 8 + (nl + 11) + lo ≤ R.locals) (pc : Nat) (hdg : decode cc pc = .ok (.invokestatic index, 3)) (hn : As.length = n) (hsz : ls.size = nL)
    (hst : st0 = As.reverse ++ rest) (hW : (rest.map fun v => v.category).sum ≤ 8) (hcs : C + mc ≤ R.cells ∧ D + ms ≤ R.slots) (hf : f S L = some (v, S1, L1))
    (kk : ∀ (H1 : Heap) (locs1 : List Loc), lV dC dI g a A s Si S1 L1 H1 locs1 → W p l e R s m args below meth c H1 locs1 (C + mc) (D + ms) Q (F0 m (pc + 3) ls (rest))) : W p l e R s m args below meth c H locs C D Q (F0 m pc ls st0) := by
  obtain ⟨h1, h2, h3, h4, h5, hK, hlk, hA, hst0, hE, hL, hN⟩ := X
  obtain ⟨c2, d2, e2, hg, hP, hD, hS⟩ := I
  have hL' : kLg g.1 (kp S) e2 A s s.heap := fun hz => by
    obtain ⟨z1, z2⟩ := hg.2.2 hz
    rw [z2]
    exact hL z1
  obtain ⟨x1, x2, x3, x4, x5⟩ := Fn
  have hsub : ∀ q, lFr (g.1, g.2.1, c2, d2, e2) a S L H.size q → A q := nA_of_D hD hA hS.1
  have hG : GoodIn wsT (wsS RL index y ((.code y b nl ret) :: wsT)) := lGoodIn (fun w hw => by
    rcases List.mem_append.mp hw with hw | hw
    · simp only [List.mem_cons, List.not_mem_nil, or_false] at hw
      rcases hw with rfl | rfl | rfl
      · exact x1
      · exact x2
      · first | exact lRL_ini | (rw [x4]; exact lRL_ini)
    · rcases List.mem_cons.mp hw with rfl | hw
      · exact x3
      · exact hw)
  subst hAv
  intro T hT X9
  obtain ⟨v9, st₀, t, T', L9, h0, X', hL9, q1, q2, ⟨⟨hv, c3, d3, e3, hg2, hP2, hD2⟩, hF⟩, st⟩ := (va_runS (R := R) (Ts := wsT) (own := RL) (As := Av g.2.1 a) (rest := rest) ⟨h1, h2, h3, h4, h5⟩ (hM dC dI (g.1, g.2.1, c2, d2, e2) a H.size S L v S1 L1 hf) (cwS n h5 hG rfl rfl rfl ⟨x4, by rw [x4]; exact RL_ok.1, by rw [x4]; exact RL_ok.2, x5⟩ hR) ⟨lBlind, fun U hU hW2 => ⟨rfl, ⟨by rw [hU], by rw [hU]; exact hP, va_K.moved hW2.alike hK, hD.weaken (fun _ _ _ _ => trivial)⟩, ⟨by rw [hU]; exact hE.to hW2 hS.2.1 hsub, by rw [hU]; exact hL'.to hW2.alike hS.2.1 hsub⟩, hN.moved hW2.alike⟩⟩ rfl hn hsz hst (lv_room hW) hdg hcs) T hT X9
  cases hv
  obtain ⟨k1, k2, k3⟩ := vx_keep (A0 := A) (H0 := s.heap) (locs := locs) h0 q1 hS (fun q _ h => hsub q h) hsub hL9 hF
  obtain ⟨t2, a1, b1⟩ := kk T'.heap (locs ++ L9) ⟨c3, d3, e3, hg.trans hg2, by rw [q1]; exact hP2, ⟨hD2.1, fun k q hk => hsub _ (hD2.2 k q hk)⟩, k3⟩ T' rfl X'
  exact ⟨t2, st t2 a1, b1⟩
theorem l_callW {y : MethodName} {b : ByteArray} {nl n index dd lo mc ms : Nat} {ret : Option FieldType} {hh : List (Nat × Nat × Nat × Nat)} {Av : (Nat → Nat) → (Nat → Nat) → List Value} {f : kS → lS → Option (Int32 × kS × lS)} {v : Int32} {S1 : kS} {L1 : lS} {As : List Value}
    (X : lX l p s m meth c cc nL args dC dI g A Si) (I : lV dC dI g a A s Si S L H locs) (Fn : lFnS y (.codeWith y b nl ret hh) n index) (hM : lMet l y (.codeWith y b nl ret hh) dd lo mc ms Av qI f) (hAv : Av g.2.1 a = As) (hR : dd + 1 ≤ R.frames ∧ 8 + (nl + 11) + lo ≤ R.locals) (pc : Nat) (hdg : decode cc pc = .ok (.invokestatic index, 3)) (hn : As.length = n) (hsz : ls.size = nL)
    (hst : st0 = As.reverse ++ rest) (hW : (rest.map fun v => v.category).sum ≤ 8) (hcs : C + mc ≤ R.cells ∧ D + ms ≤ R.slots) (hf : f S L = some (v, S1, L1))
    (kk : ∀ (H1 : Heap) (locs1 : List Loc), lV dC dI g a A s Si S1 L1 H1 locs1 → W p l e R s m args below meth c H1 locs1 (C + mc) (D + ms) Q (F0 m (pc + 3) ls (.int v :: rest))) : W p l e R s m args below meth c H locs C D Q (F0 m pc ls st0) := by
  obtain ⟨h1, h2, h3, h4, h5, hK, hlk, hA, hst0, hE, hL, hN⟩ := X
  obtain ⟨c2, d2, e2, hg, hP, hD, hS⟩ := I
  have hL' : kLg g.1 (kp S) e2 A s s.heap := fun hz => by
    obtain ⟨z1, z2⟩ := hg.2.2 hz
    rw [z2]
    exact hL z1
  obtain ⟨x1, x2, x3, x4, x5⟩ := Fn
  have hsub : ∀ q, lFr (g.1, g.2.1, c2, d2, e2) a S L H.size q → A q := nA_of_D hD hA hS.1
  have hG : GoodIn wsT (va_wsS RL index y ((.codeWith y b nl ret hh) :: wsT)) := lGoodIn (fun w hw => by
    rcases List.mem_append.mp hw with hw | hw
    · simp only [List.mem_cons, List.not_mem_nil, or_false] at hw
      rcases hw with rfl | rfl | rfl
      · exact x1
      · exact x2
      · first | exact lRL_ini | (rw [x4]; exact lRL_ini)
    · rcases List.mem_cons.mp hw with rfl | hw
      · exact x3
      · exact hw)
  subst hAv
  intro T hT X9
  obtain ⟨v9, st₀, t, T', L9, h0, X', hL9, q1, q2, ⟨⟨hv, c3, d3, e3, hg2, hP2, hD2⟩, hF⟩, st⟩ := (vx_runSW (R := R) (Ts := wsT) (own := RL) (As := Av g.2.1 a) (rest := rest) ⟨h1, h2, h3, h4, h5⟩ (hM dC dI (g.1, g.2.1, c2, d2, e2) a H.size S L v S1 L1 hf) (vx_cwSW n h5 hG rfl rfl rfl ⟨by rw [x4]; exact RL_ok.1, by rw [x4]; exact RL_ok.2, x5⟩ hR) ⟨lBlind, fun U hU hW2 => ⟨rfl, ⟨by rw [hU], by rw [hU]; exact hP, va_K.moved hW2.alike hK, hD.weaken (fun _ _ _ _ => trivial)⟩, ⟨by rw [hU]; exact hE.to hW2 hS.2.1 hsub, by rw [hU]; exact hL'.to hW2.alike hS.2.1 hsub⟩, hN.moved hW2.alike⟩⟩ rfl hn hsz hst (lv_room hW) hdg hcs) T hT X9
  cases hv
  obtain ⟨k1, k2, k3⟩ := vx_keep (A0 := A) (H0 := s.heap) (locs := locs) h0 q1 hS (fun q _ h => hsub q h) hsub hL9 hF
  obtain ⟨t2, a1, b1⟩ := kk T'.heap (locs ++ L9) ⟨c3, d3, e3, hg.trans hg2, by rw [q1]; exact hP2, ⟨hD2.1, fun k q hk => hsub _ (hD2.2 k q hk)⟩, k3⟩ T' rfl X'
  exact ⟨t2, st t2 a1, b1⟩
theorem l_cAI {y : MethodName} {b : ByteArray} {nl n index dd lo : Nat} {ret : Option FieldType} {Av : (Nat → Nat) → (Nat → Nat) → List Value} {f : lS → Option (Int32 × lS)} {K : Int32 → lS → Option β} {As : List Value}
    (X : lX l p s m meth c cc nL args dC dI g A Si) (I : lV dC dI g a A s Si S L H locs) (Fn : lFnS y (.code y b nl ret) n index) (hM : lMet l y (.code y b nl ret) dd lo 0 0 Av qI (fun S L => lup S (f L))) (hAv : Av g.2.1 a = As) (hR : dd + 1 ≤ R.frames ∧ 8 + (nl + 11) + lo ≤ R.locals) (pc : Nat) (hdg : decode cc pc = .ok (.invokestatic index, 3)) (hn : As.length = n) (hsz : ls.size = nL)
    (hst : st0 = As.reverse ++ rest) (hW : (rest.map fun v => v.category).sum ≤ 8) (hcs : C ≤ R.cells ∧ D ≤ R.slots) (hpf : lba (f L) K = some res)
    (kk : ∀ (v : Int32) (L1 : lS) (H1 : Heap) (locs1 : List Loc), lV dC dI g a A s Si S L1 H1 locs1 → K v L1 = some res → W p l e R s m args below meth c H1 locs1 C D Q (F0 m (pc + 3) ls (.int v :: rest))) : W p l e R s m args below meth c H locs C D Q (F0 m pc ls st0) := by
  obtain ⟨v, L1, hf, hk⟩ := lba_some hpf
  exact l_callI (C := C) (D := D) (mc := 0) (ms := 0) (f := fun S L => lup S (f L)) (v := v) (S1 := S) (L1 := L1) X I Fn hM hAv hR pc hdg hn hsz hst hW hcs (by show lup S (f L) = _; rw [hf]; rfl) (fun H1 locs1 V => kk v L1 H1 locs1 V hk)
theorem l_cAJ {y : MethodName} {b : ByteArray} {nl n index dd lo : Nat} {ret : Option FieldType} {Av : (Nat → Nat) → (Nat → Nat) → List Value} {f : lS → Option (Int64 × lS)} {K : Int64 → lS → Option β} {As : List Value}
    (X : lX l p s m meth c cc nL args dC dI g A Si) (I : lV dC dI g a A s Si S L H locs) (Fn : lFnS y (.code y b nl ret) n index) (hM : lMet l y (.code y b nl ret) dd lo 0 0 Av qJ (fun S L => lup S (f L))) (hAv : Av g.2.1 a = As) (hR : dd + 1 ≤ R.frames ∧ 8 + (nl + 11) + lo ≤ R.locals) (pc : Nat) (hdg : decode cc pc = .ok (.invokestatic index, 3)) (hn : As.length = n) (hsz : ls.size = nL)
    (hst : st0 = As.reverse ++ rest) (hW : (rest.map fun v => v.category).sum ≤ 8) (hcs : C ≤ R.cells ∧ D ≤ R.slots) (hpf : lba (f L) K = some res)
    (kk : ∀ (v : Int64) (L1 : lS) (H1 : Heap) (locs1 : List Loc), lV dC dI g a A s Si S L1 H1 locs1 → K v L1 = some res → W p l e R s m args below meth c H1 locs1 C D Q (F0 m (pc + 3) ls (.long v :: rest))) : W p l e R s m args below meth c H locs C D Q (F0 m pc ls st0) := by
  obtain ⟨v, L1, hf, hk⟩ := lba_some hpf
  exact l_callJ (C := C) (D := D) (mc := 0) (ms := 0) (f := fun S L => lup S (f L)) (v := v) (S1 := S) (L1 := L1) X I Fn hM hAv hR pc hdg hn hsz hst hW hcs (by show lup S (f L) = _; rw [hf]; rfl) (fun H1 locs1 V => kk v L1 H1 locs1 V hk)
theorem l_cAU {y : MethodName} {b : ByteArray} {nl n index dd lo : Nat} {ret : Option FieldType} {Av : (Nat → Nat) → (Nat → Nat) → List Value} {f : lS → Option (Unit × lS)} {K : Unit → lS → Option β} {As : List Value}
    (X : lX l p s m meth c cc nL args dC dI g A Si) (I : lV dC dI g a A s Si S L H locs) (Fn : lFnS y (.code y b nl ret) n index) (hM : lMet l y (.code y b nl ret) dd lo 0 0 Av qU (fun S L => lup S (f L))) (hAv : Av g.2.1 a = As) (hR : dd + 1 ≤ R.frames ∧ 8 + (nl + 11) + lo ≤ R.locals) (pc : Nat) (hdg : decode cc pc = .ok (.invokestatic index, 3)) (hn : As.length = n) (hsz : ls.size = nL)
    (hst : st0 = As.reverse ++ rest) (hW : (rest.map fun v => v.category).sum ≤ 8) (hcs : C ≤ R.cells ∧ D ≤ R.slots) (hpf : lba (f L) K = some res)
    (kk : ∀ (v : Unit) (L1 : lS) (H1 : Heap) (locs1 : List Loc), lV dC dI g a A s Si S L1 H1 locs1 → K v L1 = some res → W p l e R s m args below meth c H1 locs1 C D Q (F0 m (pc + 3) ls (rest))) : W p l e R s m args below meth c H locs C D Q (F0 m pc ls st0) := by
  obtain ⟨v, L1, hf, hk⟩ := lba_some hpf
  exact l_callU (C := C) (D := D) (mc := 0) (ms := 0) (f := fun S L => lup S (f L)) (v := v) (S1 := S) (L1 := L1) X I Fn hM hAv hR pc hdg hn hsz hst hW hcs (by show lup S (f L) = _; rw [hf]; rfl) (fun H1 locs1 V => kk v L1 H1 locs1 V hk)
theorem l_cBI {y : MethodName} {b : ByteArray} {nl n index dd lo mc ms MC MS : Nat} {ret : Option FieldType} {Av : (Nat → Nat) → (Nat → Nat) → List Value} {f : kS → lS → Option (Int32 × kS × lS)} {K : Int32 → kS → lS → Nat → Nat → Option β} {As : List Value}
    (X : lX l p s m meth c cc nL args dC dI g A Si) (I : lV dC dI g a A s Si S L H locs) (Fn : lFnS y (.code y b nl ret) n index) (hM : lMet l y (.code y b nl ret) dd lo mc ms Av qI f) (hAv : Av g.2.1 a = As) (hR : dd + 1 ≤ R.frames ∧ 8 + (nl + 11) + lo ≤ R.locals) (pc : Nat) (hdg : decode cc pc = .ok (.invokestatic index, 3)) (hn : As.length = n) (hsz : ls.size = nL)
    (hst : st0 = As.reverse ++ rest) (hW : (rest.map fun v => v.category).sum ≤ 8) (hcs : MC ≤ R.cells ∧ MS ≤ R.slots) (hpf : lbb mc ms MC MS C D (f S L) K = some res)
    (kk : ∀ (v : Int32) (S1 : kS) (L1 : lS) (C1 D1 : Nat) (hCD : C1 ≤ MC ∧ D1 ≤ MS) (H1 : Heap) (locs1 : List Loc), lV dC dI g a A s Si S1 L1 H1 locs1 → K v S1 L1 C1 D1 = some res → W p l e R s m args below meth c H1 locs1 C1 D1 Q (F0 m (pc + 3) ls (.int v :: rest))) : W p l e R s m args below meth c H locs C D Q (F0 m pc ls st0) := by
  obtain ⟨⟨hc1, hc2⟩, v, S1, L1, hf, hk⟩ := lbb_some hpf
  exact l_callI (C := C) (D := D) (mc := mc) (ms := ms) X I Fn hM hAv hR pc hdg hn hsz hst hW ⟨Nat.le_trans hc1 hcs.1, Nat.le_trans hc2 hcs.2⟩ hf (fun H1 locs1 V => kk v S1 L1 (C + mc) (D + ms) ⟨hc1, hc2⟩ H1 locs1 V hk)
theorem l_cBW {y : MethodName} {b : ByteArray} {nl n index dd lo mc ms MC MS : Nat} {ret : Option FieldType} {hh : List (Nat × Nat × Nat × Nat)} {Av : (Nat → Nat) → (Nat → Nat) → List Value} {f : kS → lS → Option (Int32 × kS × lS)} {K : Int32 → kS → lS → Nat → Nat → Option β} {As : List Value}
    (X : lX l p s m meth c cc nL args dC dI g A Si) (I : lV dC dI g a A s Si S L H locs) (Fn : lFnS y (.codeWith y b nl ret hh) n index) (hM : lMet l y (.codeWith y b nl ret hh) dd lo mc ms Av qI f) (hAv : Av g.2.1 a = As) (hR : dd + 1 ≤ R.frames ∧ 8 + (nl + 11) + lo ≤ R.locals) (pc : Nat) (hdg : decode cc pc = .ok (.invokestatic index, 3)) (hn : As.length = n) (hsz : ls.size = nL)
    (hst : st0 = As.reverse ++ rest) (hW : (rest.map fun v => v.category).sum ≤ 8) (hcs : MC ≤ R.cells ∧ MS ≤ R.slots) (hpf : lbb mc ms MC MS C D (f S L) K = some res)
    (kk : ∀ (v : Int32) (S1 : kS) (L1 : lS) (C1 D1 : Nat) (hCD : C1 ≤ MC ∧ D1 ≤ MS) (H1 : Heap) (locs1 : List Loc), lV dC dI g a A s Si S1 L1 H1 locs1 → K v S1 L1 C1 D1 = some res → W p l e R s m args below meth c H1 locs1 C1 D1 Q (F0 m (pc + 3) ls (.int v :: rest))) : W p l e R s m args below meth c H locs C D Q (F0 m pc ls st0) := by
  obtain ⟨⟨hc1, hc2⟩, v, S1, L1, hf, hk⟩ := lbb_some hpf
  exact l_callW (C := C) (D := D) (mc := mc) (ms := ms) X I Fn hM hAv hR pc hdg hn hsz hst hW ⟨Nat.le_trans hc1 hcs.1, Nat.le_trans hc2 hcs.2⟩ hf (fun H1 locs1 V => kk v S1 L1 (C + mc) (D + ms) ⟨hc1, hc2⟩ H1 locs1 V hk)
/-- a call of the class: it returns, or throws -/
theorem l_callX {y : MethodName} {b : ByteArray} {nl n index d9 mc ms : Nat} {ret : Option FieldType} {As : List Value} {f : kS → Option ((Int32 ⊕ Nat) × kS)} {w : Int32 ⊕ Nat} {S' : kS}
    (X : lX l p s m meth c cc nL args dC dI g A Si) (I : lV dC dI g a A s Si S L H locs) (Fn : lFn y b nl ret n index) (hM : kMx l y b nl ret d9 mc ms (fun g => .ref (g.2.1 0) :: As) rI f) (hR : d9 + 1 ≤ R.frames ∧ 8 + (nl + 11) + 40 * d9 ≤ R.locals) (pc : Nat) (hdg : decode cc pc = .ok (.invokevirtual index, 3)) (hn : As.length = n) (hsz : ls.size = nL) (hcs : C + mc ≤ R.cells ∧ D + ms ≤ R.slots)
    (hf : f S = some (w, S')) (hst : st0 = As.reverse ++ .ref (g.2.1 0) :: rest) (hW : (rest.map fun v => v.category).sum ≤ 8)
    (hret : ∀ v : Int32, w = .inl v → ∀ (H1 : Heap) (locs1 : List Loc), lV dC dI g a A s Si S' L H1 locs1 → W p l e R s m args below meth c H1 locs1 (C + mc) (D + ms) Q (F0 m (pc + 3) ls (.int v :: rest)))
    (hthr : ∀ k : Nat, w = .inr k → ∀ (H1 : Heap) (locs1 : List Loc) (q : Addr) (ce9 : Cell), lV dC dI g a A s Si S' L H1 locs1 → H1[q]? = some ce9 → ce9.vm = .none → s.vm.findClass (xN k) = some ce9.cls → vx_W p l e R s m args below meth c H1 locs1 (C + mc) (D + ms) Q (F0 m pc ls rest) q) :
    W p l e R s m args below meth c H locs C D Q (F0 m pc ls st0) := by
  obtain ⟨h1, h2, h3, h4, h5, hK, hlk, hA, hst0, hE, hL, hN⟩ := X
  obtain ⟨c2, d2, e2, hg, hP, hD, hS⟩ := I
  have hL' : kLg g.1 (kp S) e2 A s s.heap := fun hz => by
    obtain ⟨z1, z2⟩ := hg.2.2 hz
    rw [z2]
    exact hL z1
  obtain ⟨x1, x2, x3, x4, x5, x6⟩ := Fn
  have hPk : va_P (dC, dI) vwCl (kW (g.1, g.2.1, c2, d2, e2) S) H := va_P_right hP
  have hDk : va_D A (kW (g.1, g.2.1, c2, d2, e2) S) := lD_right hD
  have hsub : ∀ q, kAt (g.1, g.2.1, c2, d2, e2) (kn S) (km S) (kp S) H.size q → A q := fun q hq => nA_of_D hDk hA hS.1 q (kAt_nA hq)
  have hkeep : ∀ (H1 : Heap), (∀ q : Nat, q < H.size → ¬ kAt (g.1, g.2.1, c2, d2, e2) (kn S) (km S) (kp S) H.size q → H1[q]? = H[q]?) → ∀ (c3 d3 : Nat → Nat) (e3 : Nat), va_P (dC, dI) vwCl (kW (g.1, g.2.1, c3, d3, e3) S') H1 → va_D (kAt (g.1, g.2.1, c2, d2, e2) (kn S) (km S) (kp S) H.size) (kW (g.1, g.2.1, c3, d3, e3) S') → va_P (dC, dI) vwCl (lWd (g.1, g.2.1, c3, d3, e3) a S' L) H1 ∧ va_D A (lWd (g.1, g.2.1, c3, d3, e3) a S' L) := fun H1 hk c3 d3 e3 hP1 hD1 =>
    ⟨va_P_app (va_P_frame hP hD (fun q hq hn => hk q hq (fun h => hn (kAt_nA h)))) hP1, va_D_app (n := H.size) hD (va_P_lt (va_P_left hP)) (hD1.weaken (fun _ _ _ h => kAt_nA h)) (fun q h => hsub q (nA_kAt h))⟩
  have hKg : va_K (dC, dI) vwCl (kTy (g.1, g.2.1, c2, d2, e2)) s := hK
  intro T hT X9
  rcases (vx_runV (Ts := wsT) (own := RL) (C := y.cls) (As := As) (rest := rest) ⟨h1, h2, h3, h4, h5⟩ (hM dC dI (g.1, g.2.1, c2, d2, e2) H.size S w S' hf) ⟨callB_of n h5 (lGoodIn (fun w hw => by
      rcases List.mem_cons.mp hw with rfl | hw
      · exact kT_C _ x4
      · exact kT_C _ hw)) rfl rfl rfl (by rw [x5]; exact h5 _ lX9_ini) (h5 _ x1) x6 hR, h5 _ x2, by rw [x5]; rw [x5] at *; exact h5 _ x3⟩ ⟨xBlind, (by rw [x5]; exact va_recv hKg hPk kCl_9.1 (q0 := 0) rfl), fun U hU hW2 => ⟨rfl, ⟨by rw [hU], by rw [hU]; exact hPk, va_K.moved hW2.alike hKg, hDk.weaken (fun _ _ _ _ => trivial)⟩, by rw [hU]; exact hE.to hW2 hS.2.1 hsub, by rw [hU]; exact hL'.to hW2.alike hS.2.1 hsub⟩⟩ rfl hn hsz hst (lv_room hW) hdg hcs) T hT X9 with ⟨v, st₀, t, T', L9, h0, X', hL9, q1, q2, ⟨⟨v9, c3, d3, e3, hw, hv, hg2, hP2, hD2⟩, hF⟩, st⟩ | ⟨q, st₀, t, T', L9, E, ce, h0, X', hL9, q1, q2, ⟨⟨k9, hw, hE9, c3, d3, e3, hg2, hP2, hD2⟩, hF⟩, hce, hcv, hcl, st⟩
  · cases hv
    obtain ⟨k1, k2, k3⟩ := vx_keep (A0 := A) (H0 := s.heap) (locs := locs) h0 q1 hS (fun q _ h => hsub q h) hsub hL9 hF
    obtain ⟨hP3, hD3⟩ := hkeep T'.heap k2 c3 d3 e3 (by rw [q1]; exact hP2) hD2
    obtain ⟨t2, a1, b1⟩ := hret v9 hw T'.heap (locs ++ L9) ⟨c3, d3, e3, hg.trans hg2, hP3, hD3, k3⟩ T' rfl X'
    exact ⟨t2, st t2 a1, b1⟩
  · obtain ⟨k1, k2, k3⟩ := vx_keep (A0 := A) (H0 := s.heap) (locs := locs) h0 q1 hS (fun q _ h => hsub q h) hsub hL9 hF
    obtain ⟨hP3, hD3⟩ := hkeep T'.heap k2 c3 d3 e3 (by rw [q1]; exact hP2) hD2
    subst hE9
    obtain ⟨t2, a1, b1⟩ := hthr k9 hw T'.heap (locs ++ L9) q ce ⟨c3, d3, e3, hg.trans hg2, hP3, hD3, k3⟩ (by rw [q1]; exact hce) hcv hcl T' rfl X'
    exact ⟨t2, st.trans a1, b1⟩
theorem l_cX {y : MethodName} {b : ByteArray} {nl n index d9 mc ms MC MS : Nat} {ret : Option FieldType} {As : List Value} {f : kS → Option ((Int32 ⊕ Nat) × kS)} {K : Int32 → kS → Nat → Nat → Option β}
    (X : lX l p s m meth c cc nL args dC dI g A Si) (I : lV dC dI g a A s Si S L H locs) (Fn : lFn y b nl ret n index) (hM : kMx l y b nl ret d9 mc ms (fun g => .ref (g.2.1 0) :: As) rI f) (hR : d9 + 1 ≤ R.frames ∧ 8 + (nl + 11) + 40 * d9 ≤ R.locals) (pc : Nat) (hdg : decode cc pc = .ok (.invokevirtual index, 3)) (hn : As.length = n) (hsz : ls.size = nL) (hcs : MC ≤ R.cells ∧ MS ≤ R.slots)
    (hst : st0 = As.reverse ++ .ref (g.2.1 0) :: rest) (hW : (rest.map fun v => v.category).sum ≤ 8) (hpf : lbx mc ms MC MS C D (f S) K = some res)
    (kk : ∀ (v : Int32) (S1 : kS) (C1 D1 : Nat) (hCD : C1 ≤ MC ∧ D1 ≤ MS) (H1 : Heap) (locs1 : List Loc), lV dC dI g a A s Si S1 L H1 locs1 → K v S1 C1 D1 = some res → W p l e R s m args below meth c H1 locs1 C1 D1 Q (F0 m (pc + 3) ls (.int v :: rest))) :
    W p l e R s m args below meth c H locs C D Q (F0 m pc ls st0) := by
  obtain ⟨⟨hc1, hc2⟩, v, S1, hf, hk⟩ := lbx_some hpf
  refine l_callX X I Fn hM hR pc hdg hn hsz ⟨Nat.le_trans hc1 hcs.1, Nat.le_trans hc2 hcs.2⟩ hf hst hW (fun v2 hv H1 locs1 V => ?_) (fun k hk => by cases hk)
  cases hv
  exact kk v S1 (C + mc) (D + ms) ⟨hc1, hc2⟩ H1 locs1 V hk
theorem l_cXm {y : MethodName} {b : ByteArray} {nl n index d9 : Nat} {ret : Option FieldType} {As : List Value} {f : kS → Option (Int32 × kS)} {K : Int32 → kS → Option β}
    (X : lX l p s m meth c cc nL args dC dI g A Si) (I : lV dC dI g a A s Si S L H locs) (Fn : lFn y b nl ret n index) (hM : kMet l y b nl ret d9 (fun g => .ref (g.2.1 0) :: As) rI f) (hR : d9 + 1 ≤ R.frames ∧ 8 + (nl + 11) + 40 * d9 ≤ R.locals) (pc : Nat) (hdg : decode cc pc = .ok (.invokevirtual index, 3)) (hn : As.length = n) (hsz : ls.size = nL) (hcs : C ≤ R.cells ∧ D ≤ R.slots)
    (hst : st0 = As.reverse ++ .ref (g.2.1 0) :: rest) (hW : (rest.map fun v => v.category).sum ≤ 8) (hpf : lbm (f S) K = some res)
    (kk : ∀ (v : Int32) (S1 : kS) (H1 : Heap) (locs1 : List Loc), lV dC dI g a A s Si S1 L H1 locs1 → K v S1 = some res → W p l e R s m args below meth c H1 locs1 C D Q (F0 m (pc + 3) ls (.int v :: rest))) :
    W p l e R s m args below meth c H locs C D Q (F0 m pc ls st0) := by
  obtain ⟨v, S', hf, hk⟩ := lbm_some hpf
  obtain ⟨h1, h2, h3, h4, h5, hK, hlk, hA, hst0, hE, hL, hN⟩ := X
  obtain ⟨c2, d2, e2, hg, hP, hD, hS⟩ := I
  have hL' : kLg g.1 (kp S) e2 A s s.heap := fun hz => by
    obtain ⟨z1, z2⟩ := hg.2.2 hz
    rw [z2]
    exact hL z1
  obtain ⟨x1, x2, x3, x4, x5, x6⟩ := Fn
  have hPk : va_P (dC, dI) vwCl (kW (g.1, g.2.1, c2, d2, e2) S) H := va_P_right hP
  have hDk : va_D A (kW (g.1, g.2.1, c2, d2, e2) S) := lD_right hD
  have hsub : ∀ q, kAt (g.1, g.2.1, c2, d2, e2) (kn S) (km S) (kp S) H.size q → A q := fun q hq => nA_of_D hDk hA hS.1 q (kAt_nA hq)
  have hKg : va_K (dC, dI) vwCl (kTy (g.1, g.2.1, c2, d2, e2)) s := hK
  intro T hT X9
  obtain ⟨v9, st₀, t, T', L9, h0, X', hL9, q1, q2, ⟨⟨hv, hsm, hB⟩, hF⟩, st⟩ := (va_runV (R := R) (Ts := wsT) (own := RL) (C := y.cls) (As := As) (rest := rest) ⟨h1, h2, h3, h4, h5⟩ (hM dC dI (g.1, g.2.1, c2, d2, e2) H.size S v S' hf) ⟨callB_of n h5 (lGoodIn (fun w hw => by
      rcases List.mem_cons.mp hw with rfl | hw
      · exact kT_C _ x4
      · exact kT_C _ hw)) rfl rfl rfl (by rw [x5]; exact h5 _ lX9_ini) (h5 _ x1) x6 hR, h5 _ x2, by rw [x5]; rw [x5] at *; exact h5 _ x3⟩ ⟨fun a2 U gg mk q => (by
      obtain ⟨q0, q1, qP, qK, qD⟩ := q
      exact ⟨q0, q1, qP, va_K.moved (u := U) (U := U.calling gg mk a2) (Vm.Alike.refl U.vm) qK, qD⟩), (by rw [x5]; exact va_recv hKg hPk kCl_9.1 (q0 := 0) rfl), fun U hU hW2 => ⟨rfl, by rw [hU], by rw [hU]; exact hPk, va_K.moved hW2.alike hKg, hDk.weaken (fun _ _ _ _ => trivial)⟩⟩ rfl hn hsz hst (lv_room hW) hdg ⟨by rw [Nat.add_zero]; exact hcs.1, by rw [Nat.add_zero]; exact hcs.2⟩) T hT X9
  cases hv
  obtain ⟨k1, k2, k3⟩ := vx_keep (A0 := A) (H0 := s.heap) (locs := locs) h0 q1 hS (fun q _ h => hsub q h) hsub hL9 hF
  have hP3 : va_P (dC, dI) vwCl (lWd (g.1, g.2.1, c2, d2, e2) a S' L) T'.heap := va_P_app (va_P_frame hP hD (fun q hq hn9 => k2 q hq (fun h9 => hn9 (kAt_nA h9)))) (by rw [q1]; exact hB)
  have hD3 : va_D A (lWd (g.1, g.2.1, c2, d2, e2) a S' L) := va_D_app (n := H.size) hD (va_P_lt (va_P_left hP)) ((kD_self H.size (kD_to hsm hDk)).weaken (fun _ _ _ h9 => by
      rw [hsm.1, hsm.2.1, hsm.2.2] at h9
      exact kAt_nA h9)) (fun q hq => nA_of_D hDk hA hS.1 q hq)
  rw [Nat.add_zero, Nat.add_zero] at X'
  obtain ⟨t2, a1, b1⟩ := kk v S' T'.heap (locs ++ L9) ⟨c2, d2, e2, hg.sm hsm, hP3, hD3, k3⟩ hk T' rfl X'
  exact ⟨t2, st t2 a1, b1⟩
/-- an exception that the k th row catches -/
theorem l_catch {pc k : Nat} {q : Addr} {ce9 : Cell} {hh pre suf : List (Nat × Nat × Nat × Nat)} {h a1 b1 : Nat} (X : lX l p s m meth c cc nL args dC dI g A Si) (htb : c.exceptionTable.toList = tableOf hh) (hk : k = 1 ∨ k = 3) (hsp : hh = pre ++ (a1, b1, h, lI k) :: suf)
    (hpre : ∀ z ∈ pre, ∃ j, (j = 1 ∨ j = 3) ∧ j ≠ k ∧ z.2.2.2 = lI j) (hcov : a1 ≤ pc ∧ pc < b1) (hcell : H[q]? = some ce9) (hv : ce9.vm = .none) (hcl : s.vm.findClass (xN k) = some ce9.cls)
    (kk : W p l e R s m args below meth c H locs C D Q (F0 m h ls [.ref q])) : vx_W p l e R s m args below meth c H locs C D Q (F0 m pc ls rest) q := by
  obtain ⟨h1, h2, h3, h4, h5, hK, hlk, hA, hst0, hE, hL, hN⟩ := X
  refine vx_catch (own := RL) (name := xN k) (E := xN k) h4 (tableOf pre) ⟨a1, b1, h, lI k⟩ (tableOf suf) (by rw [htb, hsp]; simp [tableOf]) (fun z hz => ?_) (by simp [covers]; omega) lI_pos (h5 _ (lLink hk)) (va_Nw.use rfl (hE.1.2.1 k)) hcell hv hcl kk
  unfold tableOf at hz
  obtain ⟨x, hx, rfl⟩ := List.mem_map.mp hz
  obtain ⟨j, hj, hjk, e⟩ := hpre x hx
  refine Or.inr ⟨?_, xN j, ?_, hN k j hk hj (fun h => hjk h.symm)⟩
  · show x.2.2.2 ≠ 0
    rw [e]; exact lI_pos
  · show (Cond.classLink RL x.2.2.2 (xN j)).before args s = true
    rw [e]; exact h5 _ (lLink hj)
end LB
section LE
variable {l : Launch} {p : Program} {e : Env} {R : Room} {s : State} {m : MethodId} {args : Array Value} {below : List Frame} {meth : Method} {c : Code} {H : Heap} {locs : List Loc} {C D MC MS sz : Nat}
variable {cc : ByteArray} {nL : Nat} {ls : Array Slot} {dC : Nat → ClassId} {dI : Nat → Nat → Nat} {g : kG} {a : Nat → Nat} {Si S S' : kS} {Li L L' : lS}
theorem l_retiA {v r : Int32} (X : lX l p s m meth c cc nL args dC dI g (lFr g a Si Li sz) Si) (I : lV dC dI g a (lFr g a Si Li sz) s Si Si L H locs) (hr : meth.sig.returnType = some .int) (pc : Nat) (hdg : decode cc pc = .ok (.ireturn, 1)) (hpf : some (v, L) = some (r, L')) :
    W p l e R s m args below meth c H locs 0 0 (MQ below (lQ dC dI g a sz Si Li (qI r) Si L') args s 0 0 (lFr g a Si Li sz)) (F0 m pc ls [.int v]) := by
  cases hpf
  obtain ⟨c2, d2, e2, hg, hP, hD, hS⟩ := I
  exact W.iret X.1 X.2.1 hr (fun t ht hW => ⟨⟨rfl, c2, d2, e2, hg, by rw [ht]; exact hP, hD⟩, hS.F ht⟩) hS.2.2 hdg X.2.2.2.2.2.2.1
theorem l_retiB {v r : Int32} (X : lX l p s m meth c cc nL args dC dI g (lFr g a Si Li sz) Si) (I : lV dC dI g a (lFr g a Si Li sz) s Si S L H locs) (hr : meth.sig.returnType = some .int) (pc : Nat) (hdg : decode cc pc = .ok (.ireturn, 1)) (hpf : lre MC MS C D v S L = some (r, S', L')) :
    W p l e R s m args below meth c H locs C D (MQ below (lQ dC dI g a sz Si Li (qI r) S' L') args s MC MS (lFr g a Si Li sz)) (F0 m pc ls [.int v]) := by
  obtain ⟨⟨hc1, hc2⟩, rfl, rfl, rfl⟩ := lre_some hpf
  refine W.widen (k := MC) (n := MS) hc1 hc2 ?_
  obtain ⟨c2, d2, e2, hg, hP, hD, hS⟩ := I
  exact W.iret X.1 X.2.1 hr (fun t ht hW => ⟨⟨rfl, c2, d2, e2, hg, by rw [ht]; exact hP, hD⟩, hS.F ht⟩) hS.2.2 hdg X.2.2.2.2.2.2.1
theorem l_retlA {v r : Int64} (X : lX l p s m meth c cc nL args dC dI g (lFr g a Si Li sz) Si) (I : lV dC dI g a (lFr g a Si Li sz) s Si Si L H locs) (hr : meth.sig.returnType = some .long) (pc : Nat) (hdg : decode cc pc = .ok (.lreturn, 1)) (hpf : some (v, L) = some (r, L')) :
    W p l e R s m args below meth c H locs 0 0 (MQ below (lQ dC dI g a sz Si Li (qJ r) Si L') args s 0 0 (lFr g a Si Li sz)) (F0 m pc ls [.long v]) := by
  cases hpf
  obtain ⟨c2, d2, e2, hg, hP, hD, hS⟩ := I
  exact W.lret X.1 X.2.1 hr (fun t ht hW => ⟨⟨rfl, c2, d2, e2, hg, by rw [ht]; exact hP, hD⟩, hS.F ht⟩) hS.2.2 hdg X.2.2.2.2.2.2.1
theorem l_retlB {v r : Int64} (X : lX l p s m meth c cc nL args dC dI g (lFr g a Si Li sz) Si) (I : lV dC dI g a (lFr g a Si Li sz) s Si S L H locs) (hr : meth.sig.returnType = some .long) (pc : Nat) (hdg : decode cc pc = .ok (.lreturn, 1)) (hpf : lre MC MS C D v S L = some (r, S', L')) :
    W p l e R s m args below meth c H locs C D (MQ below (lQ dC dI g a sz Si Li (qJ r) S' L') args s MC MS (lFr g a Si Li sz)) (F0 m pc ls [.long v]) := by
  obtain ⟨⟨hc1, hc2⟩, rfl, rfl, rfl⟩ := lre_some hpf
  refine W.widen (k := MC) (n := MS) hc1 hc2 ?_
  obtain ⟨c2, d2, e2, hg, hP, hD, hS⟩ := I
  exact W.lret X.1 X.2.1 hr (fun t ht hW => ⟨⟨rfl, c2, d2, e2, hg, by rw [ht]; exact hP, hD⟩, hS.F ht⟩) hS.2.2 hdg X.2.2.2.2.2.2.1
theorem l_retvA {v r : Unit} (X : lX l p s m meth c cc nL args dC dI g (lFr g a Si Li sz) Si) (I : lV dC dI g a (lFr g a Si Li sz) s Si Si L H locs) (hr : meth.sig.returnType = none) (pc : Nat) (hdg : decode cc pc = .ok (.return_, 1)) (hpf : some ((), L) = some (r, L')) :
    W p l e R s m args below meth c H locs 0 0 (MQ below (lQ dC dI g a sz Si Li (qU r) Si L') args s 0 0 (lFr g a Si Li sz)) (F0 m pc ls []) := by
  cases hpf
  obtain ⟨c2, d2, e2, hg, hP, hD, hS⟩ := I
  exact W.vret X.1 X.2.1 hr (fun t ht hW => ⟨⟨rfl, c2, d2, e2, hg, by rw [ht]; exact hP, hD⟩, hS.F ht⟩) hS.2.2 hdg X.2.2.2.2.2.2.1
theorem l_retvB {v r : Unit} (X : lX l p s m meth c cc nL args dC dI g (lFr g a Si Li sz) Si) (I : lV dC dI g a (lFr g a Si Li sz) s Si S L H locs) (hr : meth.sig.returnType = none) (pc : Nat) (hdg : decode cc pc = .ok (.return_, 1)) (hpf : lre MC MS C D () S L = some (r, S', L')) :
    W p l e R s m args below meth c H locs C D (MQ below (lQ dC dI g a sz Si Li (qU r) S' L') args s MC MS (lFr g a Si Li sz)) (F0 m pc ls []) := by
  obtain ⟨⟨hc1, hc2⟩, rfl, rfl, rfl⟩ := lre_some hpf
  refine W.widen (k := MC) (n := MS) hc1 hc2 ?_
  obtain ⟨c2, d2, e2, hg, hP, hD, hS⟩ := I
  exact W.vret X.1 X.2.1 hr (fun t ht hW => ⟨⟨rfl, c2, d2, e2, hg, by rw [ht]; exact hP, hD⟩, hS.F ht⟩) hS.2.2 hdg X.2.2.2.2.2.2.1
theorem l_retzA {v r : Int32} (X : lX l p s m meth c cc nL args dC dI g (lFr g a Si Li sz) Si) (I : lV dC dI g a (lFr g a Si Li sz) s Si Si L H locs) (hr : meth.sig.returnType = some .boolean) (pc : Nat) (hdg : decode cc pc = .ok (.ireturn, 1)) (hpf : zlA v L = some (r, L')) :
    W p l e R s m args below meth c H locs 0 0 (MQ below (lQ dC dI g a sz Si Li (qI r) Si L') args s 0 0 (lFr g a Si Li sz)) (F0 m pc ls [.int v]) := by
  by_cases hv : vp_nar .boolean v = v
  · unfold zlA at hpf
    rw [if_pos hv] at hpf
    cases hpf
    obtain ⟨c2, d2, e2, hg, hP, hD, hS⟩ := I
    exact W.zret X.1 X.2.1 hr (nar_z hv) (fun t ht hW => ⟨⟨rfl, c2, d2, e2, hg, by rw [ht]; exact hP, hD⟩, hS.F ht⟩) hS.2.2 hdg X.2.2.2.2.2.2.1
  · unfold zlA at hpf
    rw [if_neg hv] at hpf
    cases hpf
theorem l_retzB {v r : Int32} (X : lX l p s m meth c cc nL args dC dI g (lFr g a Si Li sz) Si) (I : lV dC dI g a (lFr g a Si Li sz) s Si S L H locs) (hr : meth.sig.returnType = some .boolean) (pc : Nat) (hdg : decode cc pc = .ok (.ireturn, 1)) (hpf : zlB MC MS C D v S L = some (r, S', L')) :
    W p l e R s m args below meth c H locs C D (MQ below (lQ dC dI g a sz Si Li (qI r) S' L') args s MC MS (lFr g a Si Li sz)) (F0 m pc ls [.int v]) := by
  by_cases hv : vp_nar .boolean v = v
  · unfold zlB at hpf
    rw [if_pos hv] at hpf
    obtain ⟨⟨hc1, hc2⟩, rfl, rfl, rfl⟩ := lre_some hpf
    refine W.widen (k := MC) (n := MS) hc1 hc2 ?_
    obtain ⟨c2, d2, e2, hg, hP, hD, hS⟩ := I
    exact W.zret X.1 X.2.1 hr (nar_z hv) (fun t ht hW => ⟨⟨rfl, c2, d2, e2, hg, by rw [ht]; exact hP, hD⟩, hS.F ht⟩) hS.2.2 hdg X.2.2.2.2.2.2.1
  · unfold zlB at hpf
    rw [if_neg hv] at hpf
    cases hpf
end LE
theorem lX_st {A : Nat → Prop} {l : Launch} {p : Program} {s : State} {m : MethodId} {meth : Method} {c : Code} {cc : ByteArray} {nL : Nat} {args : Array Value} {dC : Nat → ClassId} {dI : Nat → Nat → Nat} {g : kG} {Si : kS} (X : lX l p s m meth c cc nL args dC dI g A Si) : p.tables.exec = Jvm.exec ∧ c.code = cc := ⟨X.1, X.2.1⟩
theorem l_begin {dC : Nat → ClassId} {dI : Nat → Nat → Nat} {g : kG} {a : Nat → Nat} {S : kS} {L : lS} {s : State} {l : Launch} {p : Program} {m : MethodId} {meth : Method} {c : Code} {cc : ByteArray} {nL : Nat} {args : Array Value} {sz : Nat} (hlt : l.stackTraces = false) (h1 : p.tables.exec = Jvm.exec) (h2 : c.code = cc) (h3 : c.maxLocals = nL) (h4 : s.vm.findClass RL = some m.cls) (h5 : ∀ w ∈ wsT, w.before args s = true) (h6 : meth.locks = false) (hv : lPre dC dI g a sz S L s) : lX l p s m meth c cc nL args dC dI g (lFr g a S L sz) S ∧ lV dC dI g a (lFr g a S L sz) s S S L s.heap [] := by
  obtain ⟨⟨hs, hP, hK, hD⟩, ⟨hE, hL⟩, hN⟩ := hv
  refine ⟨⟨h1, h2, h3, h4, h5, hK, h6, fun q hq => Or.inr (by rw [← hs]; exact hq), hlt, hE, hL, hN⟩, g.2.2.1, g.2.2.2.1, g.2.2.2.2, ⟨Nat.le_refl _, fun _ _ => rfl, fun h => ⟨h, rfl⟩⟩, hP, nA_self sz hD, va_S.rf⟩
theorem l_start {α : Type} {l : Launch} {y : MethodName} {b : ByteArray} {nl : Nat} {ret : Option FieldType} {d lo mc ms : Nat} {Av : (Nat → Nat) → (Nat → Nat) → List Value} {Rv : α → Option Value} {f : kS → lS → Option (α × kS × lS)} (hlt : l.stackTraces = false) (hy : plainName y.cls = true) (hyc : y.cls = RL) (lv : (Nat → Nat) → (Nat → Nat) → List (Nat × Value)) (hn : ∀ ca a, (lg_sl (Av ca a)).length ≤ nl) (hlv : ∀ ca a, lv_args 0 (Av ca a) = lv ca a)
    (body : ∀ (dC : Nat → ClassId) (dI : Nat → Nat → Nat) (g : kG) (a : Nat → Nat) (sz : Nat) (S : kS) (L : lS) (r : α) (S' : kS) (L' : lS), f S L = some (r, S', L') → ∀ (p : Program) (e : Env) (s : State) (m : MethodId) (args : Array Value) (below : List Frame) (meth : Method) (c : Code), lX l p s m meth c b nl args dC dI g (lFr g a S L sz) S → meth.sig.returnType = ret → ∀ (H : Heap) (locs : List Loc), lV dC dI g a (lFr g a S L sz) s S S L H locs → ∀ ls : Array Slot, lv_has ls nl (lv g.2.1 a) →
      W p l e (lRm d lo mc ms) s m args below meth c H locs 0 0 (MQ below (lQ dC dI g a sz S L (Rv r) S' L') args s mc ms (lFr g a S L sz)) (F0 m 0 ls [])) : lMet l y (.code y b nl ret) d lo mc ms Av Rv f := by
  intro dC dI g a sz S L r S' L' hf
  refine Met.ofW (cc := b) (maxL := nl) (ret := ret) hy rfl ?_
  intro p e s m args below meth c s₁ B hml hv
  obtain ⟨rfl, hv⟩ := hv
  have hts := atoms_spec B.pre
  have hown : s.vm.findClass RL = some m.cls := by rw [← hyc]; exact findClass_of_methodNamed B.named
  have hlv0 := lv_entry (Av g.2.1 a) (n := nl) (hn g.2.1 a)
  rw [lg_entry_eq]
  rw [hlv g.2.1 a] at hlv0
  obtain ⟨X, V⟩ := l_begin hlt B.exec B.bytes hml hown (fun w hw => hts w (List.mem_cons_of_mem _ hw)) B.notSynchronized hv
  exact body dC dI g a sz S L r S' L' hf p e s m _ below meth c X B.returns s.heap [] V _ hlv0
theorem l_startA {α : Type} {l : Launch} {y : MethodName} {b : ByteArray} {nl : Nat} {ret : Option FieldType} {d lo : Nat} {Av : (Nat → Nat) → (Nat → Nat) → List Value} {Rv : α → Option Value} {f : lS → Option (α × lS)} (hlt : l.stackTraces = false) (hy : plainName y.cls = true) (hyc : y.cls = RL) (lv : (Nat → Nat) → (Nat → Nat) → List (Nat × Value)) (hn : ∀ ca a, (lg_sl (Av ca a)).length ≤ nl) (hlv : ∀ ca a, lv_args 0 (Av ca a) = lv ca a)
    (body : ∀ (dC : Nat → ClassId) (dI : Nat → Nat → Nat) (g : kG) (a : Nat → Nat) (sz : Nat) (Si : kS) (L : lS) (r : α) (L' : lS), f L = some (r, L') → ∀ (p : Program) (e : Env) (s : State) (m : MethodId) (args : Array Value) (below : List Frame) (meth : Method) (c : Code), lX l p s m meth c b nl args dC dI g (lFr g a Si L sz) Si → meth.sig.returnType = ret → ∀ (H : Heap) (locs : List Loc), lV dC dI g a (lFr g a Si L sz) s Si Si L H locs → ∀ ls : Array Slot, lv_has ls nl (lv g.2.1 a) →
      W p l e (lRm d lo 0 0) s m args below meth c H locs 0 0 (MQ below (lQ dC dI g a sz Si L (Rv r) Si L') args s 0 0 (lFr g a Si L sz)) (F0 m 0 ls [])) : lMet l y (.code y b nl ret) d lo 0 0 Av Rv (fun S L => lup S (f L)) :=
  l_start hlt hy hyc lv hn hlv (fun dC dI g a sz S L r S' L' hf p e s m args below meth c X hr H locs V ls hl => by
    obtain ⟨hS9, hf9⟩ := lup_some hf
    subst hS9
    exact body dC dI g a sz _ L r L' hf9 p e s m args below meth c X hr H locs V ls hl)
theorem l_ofWH {l : Launch} {y : MethodName} {ws ws' : List Cond} {rm : Room} {Pc : Array Value → State → Prop} {Qc : Array Value → State → Outcome → State → Prop} {mc ms : Nat} {free : Addr → Prop} {cc : ByteArray} {maxL : Nat} {ret : Option FieldType} {hh : List (Nat × Nat × Nat × Nat)}
    (hy : plainName y.cls = true) (hw : ws = Cond.codeWith y cc maxL ret hh :: ws')
    (body : ∀ p e s m args below meth c s₁, BodyLoose p l y (headSpec ws rm) cc maxL ret e s m args below meth c s₁ → c.maxLocals = maxL → Pc args s →
      W p l e (headSpec ws rm).room s m args below meth c s.heap [] 0 0 (MQ below Qc args s mc ms free) (entryFrame m args maxL)) : Met l y ws rm Pc Qc mc ms free := by
  refine MetFree.of_bodyS (code := cc) (maxLocals := maxL) (ret := ret) hy ?_ ?_
  · intro args s m h hn
    obtain ⟨m9, meth, c, hn9, h1, h2, h3, h4, -, h5, h6, -⟩ := Cond.codeWith_spec (atoms_spec (ws := ws) h _ (by rw [hw]; exact List.mem_cons_self))
    cases hn.symm.trans hn9
    exact ⟨meth, c, h1, h2, h3, h4, h5, h6⟩
  · intro p e s m args below meth c s₁ B hml hP _
    have hh0 : s₁.heap = s.heap := by rw [B.state]; rfl
    obtain ⟨t, a1, o, b1, b2, b3⟩ := body p e s m args below meth c s₁ B hml hP s₁ hh0 (Stand.of_body B)
    exact ⟨t, o, a1, b1, b2, ⟨b3.1, b3.2⟩⟩
theorem l_startW {l : Launch} {y : MethodName} {b : ByteArray} {nl : Nat} {ret : Option FieldType} {hh : List (Nat × Nat × Nat × Nat)} {d lo mc ms : Nat} {Av : (Nat → Nat) → (Nat → Nat) → List Value} {f : kS → lS → Option (Int32 × kS × lS)} (hlt : l.stackTraces = false) (hy : plainName y.cls = true) (hyc : y.cls = RL) (lv : (Nat → Nat) → (Nat → Nat) → List (Nat × Value)) (hn : ∀ ca a, (lg_sl (Av ca a)).length ≤ nl) (hlv : ∀ ca a, lv_args 0 (Av ca a) = lv ca a)
    (body : ∀ (dC : Nat → ClassId) (dI : Nat → Nat → Nat) (g : kG) (a : Nat → Nat) (sz : Nat) (S : kS) (L : lS) (r : Int32) (S' : kS) (L' : lS), f S L = some (r, S', L') → ∀ (p : Program) (e : Env) (s : State) (m : MethodId) (args : Array Value) (below : List Frame) (meth : Method) (c : Code), lX l p s m meth c b nl args dC dI g (lFr g a S L sz) S → meth.sig.returnType = ret → c.exceptionTable.toList = tableOf hh → ∀ (H : Heap) (locs : List Loc), lV dC dI g a (lFr g a S L sz) s S S L H locs → ∀ ls : Array Slot, lv_has ls nl (lv g.2.1 a) →
      W p l e (lRm d lo mc ms) s m args below meth c H locs 0 0 (MQ below (lQ dC dI g a sz S L (qI r) S' L') args s mc ms (lFr g a S L sz)) (F0 m 0 ls [])) : lMet l y (.codeWith y b nl ret hh) d lo mc ms Av qI f := by
  intro dC dI g a sz S L r S' L' hf
  refine l_ofWH (cc := b) (maxL := nl) (ret := ret) (hh := hh) hy rfl ?_
  intro p e s m args below meth c s₁ B hml hv
  obtain ⟨rfl, hv⟩ := hv
  have hts := atoms_spec B.pre
  have hown : s.vm.findClass RL = some m.cls := by rw [← hyc]; exact findClass_of_methodNamed B.named
  have htb := vx_table (x := y) B (hts _ List.mem_cons_self)
  have hlv0 := lv_entry (Av g.2.1 a) (n := nl) (hn g.2.1 a)
  rw [lg_entry_eq]
  rw [hlv g.2.1 a] at hlv0
  obtain ⟨X, V⟩ := l_begin hlt B.exec B.bytes hml hown (fun w hw => hts w (List.mem_cons_of_mem _ hw)) B.notSynchronized hv
  exact body dC dI g a sz S L r S' L' hf p e s m _ below meth c X B.returns htb s.heap [] V _ hlv0
