def kAl (g : kG) (n m p : Nat) : List Nat := (List.range 101).map g.2.1 ++ ((List.range n).map g.2.2.1 ++ ((List.range m).map g.2.2.2.1 ++ (if p = 0 then [] else [g.2.2.2.2])))
theorem kFx_adr (gA : Nat → ClassId) (ca : Nat → Nat) (S : kS) (ce : Nat) (r : va_W) : (kFx gA ca S ce r).map (·.1) = (List.range 101).map ca ++ r.map (·.1) := rfl
theorem kW_adr (g : kG) (S : kS) : (kW g S).map (·.1) = kAl g (kn S) (km S) (kp S) := by
  unfold kW kAl
  rw [kFx_adr, List.map_append, List.map_append]
  congr 1
  congr 1
  · unfold kUc; rw [List.map_map]; rfl
  · congr 1
    · unfold kVc; rw [List.map_map]; rfl
    · unfold kEc
      by_cases h : kp S = 0
      · rw [if_pos h, if_pos h]; rfl
      · rw [if_neg h, if_neg h]; rfl
/-- the same cells -/
def kSm (S S0 : kS) : Prop := kn S = kn S0 ∧ km S = km S0 ∧ kp S = kp S0
theorem kW_at {g : kG} {S S' : kS} (hm : kSm S S') {k : Nat} {q : Nat × va_E} (hk : (kW g S)[k]? = some q) : ∃ e, (kW g S')[k]? = some (q.1, e) := by
  have h1 : ((kW g S).map (·.1))[k]? = some q.1 := by rw [List.getElem?_map, hk]; rfl
  rw [kW_adr, hm.1, hm.2.1, hm.2.2, ← kW_adr, List.getElem?_map] at h1
  cases h2 : (kW g S')[k]? with
  | none => rw [h2] at h1; cases h1
  | some x => rw [h2] at h1; obtain ⟨x1, x2⟩ := x; cases h1; exact ⟨x2, rfl⟩
theorem kSm.symm {S S' : kS} (h : kSm S S') : kSm S' S := ⟨h.1.symm, h.2.1.symm, h.2.2.symm⟩
theorem kSm.trans {S S' S2 : kS} (h : kSm S S') (h2 : kSm S' S2) : kSm S S2 := ⟨h.1.trans h2.1, h.2.1.trans h2.2.1, h.2.2.trans h2.2.2⟩
theorem kSm.rf {S : kS} : kSm S S := ⟨rfl, rfl, rfl⟩
theorem kD_to {A : Nat → Prop} {g : kG} {S S' : kS} (hm : kSm S' S) (hD : va_D A (kW g S)) : va_D A (kW g S') := by
  refine ⟨fun i j p q hi hj hpq => ?_, fun k q hk => ?_⟩
  · obtain ⟨e1, h1⟩ := kW_at hm hi
    obtain ⟨e2, h2⟩ := kW_at hm hj
    exact hD.1 i j _ _ h1 h2 hpq
  · obtain ⟨e1, h1⟩ := kW_at hm hk
    exact hD.2 k (q.1, e1) h1
/-- what a method may change: the world's cells, and new ones -/
def kAt (g : kG) (n m p sz : Nat) : Nat → Prop := fun q => q ∈ kAl g n m p ∨ sz ≤ q
theorem kAt_in {g : kG} {S : kS} {k : Nat} {q : Nat × va_E} (hk : (kW g S)[k]? = some q) : q.1 ∈ kAl g (kn S) (km S) (kp S) := by
  rw [← kW_adr]
  exact List.mem_map.mpr ⟨q, List.mem_of_getElem? hk, rfl⟩
theorem kD_self {A : Nat → Prop} {g : kG} {S : kS} (sz : Nat) (hD : va_D A (kW g S)) : va_D (kAt g (kn S) (km S) (kp S) sz) (kW g S) := ⟨hD.1, fun _ _ hk => Or.inl (kAt_in hk)⟩
theorem kAt_sub {A : Nat → Prop} {g : kG} {S : kS} {sz0 sz : Nat} (hD : va_D A (kW g S)) (hA : ∀ q, sz0 ≤ q → A q) (hz : sz0 ≤ sz) : ∀ q, kAt g (kn S) (km S) (kp S) sz q → A q := fun q hq => by
  rcases hq with hq | hq
  · rw [← kW_adr] at hq
    obtain ⟨x, hx, rfl⟩ := List.mem_map.mp hq
    obtain ⟨k, hk⟩ := List.getElem?_of_mem hx
    exact hD.2 k x hk
  · exact hA q (Nat.le_trans hz hq)
/-- where a walk stands -/
def kV (dC : Nat → ClassId) (dI : Nat → Nat → Nat) (g : kG) (A : Nat → Prop) (s : State) (S0 S : kS) (H : Heap) (locs : List Loc) : Prop :=
  va_P (dC, dI) vwCl (kW g S) H ∧ va_D A (kW g S) ∧ va_S A s.heap H locs ∧ kSm S S0
/-- the method that is walked -/
def kX (p : Program) (s : State) (m : MethodId) (meth : Method) (c : Code) (cc : ByteArray) (nL : Nat) (args : Array Value) (own : String) (dC : Nat → ClassId) (dI : Nat → Nat → Nat) (g : kG) (A : Nat → Prop) : Prop :=
  p.tables.exec = Jvm.exec ∧ c.code = cc ∧ c.maxLocals = nL ∧ s.vm.findClass own = some m.cls ∧ (∀ w ∈ wsC, w.before args s = true) ∧ va_K (dC, dI) vwCl (kTy g) s ∧ meth.locks = false ∧ (∀ q, s.heap.size ≤ q → A q)
def kPre (dC : Nat → ClassId) (dI : Nat → Nat → Nat) (g : kG) (sz : Nat) (S : kS) : State → Prop := fun U =>
  U.heap.size = sz ∧ va_P (dC, dI) vwCl (kW g S) U.heap ∧ va_K (dC, dI) vwCl (kTy g) U ∧ va_D (fun _ => True) (kW g S)
def kQ (dC : Nat → ClassId) (dI : Nat → Nat → Nat) (g : kG) (sz : Nat) (S0 : kS) (rv : Option Value) (S' : kS) : Array Value → State → Outcome → State → Prop := fun _ st oc t =>
  (oc = .returned rv ∧ kSm S' S0 ∧ va_P (dC, dI) vwCl (kW g S') t.heap) ∧ va_F (kAt g (kn S0) (km S0) (kp S0) sz) st t
/-- a contract: the picture f answers r and the world behind it -/
def kMet {α : Type} (l : Launch) (y : MethodName) (b : ByteArray) (nl : Nat) (ret : Option FieldType) (d : Nat) (Av : kG → List Value) (Rv : kG → α → Option Value) (f : kS → Option (α × kS)) : Prop :=
  ∀ (dC : Nat → ClassId) (dI : Nat → Nat → Nat) (g : kG) (sz : Nat) (S : kS) (r : α) (S' : kS), f S = some (r, S') →
    Met l y (.code y b nl ret :: wsC) (mRm d) (va_Pc (Av g) (kPre dC dI g sz S)) (kQ dC dI g sz S (Rv g r) S') 0 0 (kAt g (kn S) (km S) (kp S) sz)
def rI : kG → Int32 → Option Value := fun _ r => some (.int r)
def rJ : kG → Int64 → Option Value := fun _ r => some (.long r)
def rU : kG → Unit → Option Value := fun _ _ => none
-- the pictures' words
def svk {β : Type} (S : kS) (k : kS → Option β) : Option β := k S
def nml {β : Type} (x : Int64) (k : Int64 → Option β) : Option β := k x
def bk {α β : Type} (o : Option (α × kS)) (k : α → kS → Option β) : Option β := match o with
  | none => none
  | some q => k q.1 q.2
def gn {β : Type} (k n : Nat) (K : Option β) : Option β := if k < n then K else none
def gm {β : Type} (j : Int32) (K : Nat → Option β) : Option β := if j < 0 ∨ 4 ≤ j.toNatClampNeg then none else K j.toNatClampNeg
def oc {β : Type} (o : Option Nat) (A : Option β) (B : Nat → Option β) : Option β := match o with
  | none => A
  | some j => B j
def zk (v : Int32) (S : kS) : Option (Int32 × kS) := if vp_nar .boolean v = v then some (v, S) else none
theorem bk_some {α β : Type} {o : Option (α × kS)} {k : α → kS → Option β} {r : β} (h : bk o k = some r) : ∃ v S, o = some (v, S) ∧ k v S = some r := by
  cases o with
  | none => cases h
  | some q => exact ⟨q.1, q.2, rfl, h⟩
theorem gn_some {β : Type} {k n : Nat} {K : Option β} {r : β} (h : gn k n K = some r) : k < n ∧ K = some r := by
  unfold gn at h
  by_cases hc : k < n
  · rw [if_pos hc] at h; exact ⟨hc, h⟩
  · rw [if_neg hc] at h; cases h
theorem gm_some {β : Type} {j : Int32} {K : Nat → Option β} {r : β} (h : gm j K = some r) : vp_in j 4 ∧ K j.toNatClampNeg = some r := by
  unfold gm at h
  by_cases hc : j < 0 ∨ 4 ≤ j.toNatClampNeg
  · rw [if_pos hc] at h; cases h
  · rw [if_neg hc] at h; exact ⟨hc, h⟩
-- the changes' cells, the rows of codes
theorem kFx_at (gA : Nat → ClassId) (ca : Nat → Nat) (S : kS) (ce : Nat) (r : va_W) (k : Nat) : (kFx gA ca S ce r)[101 + k]? = r[k]? := by
  rw [Nat.add_comm]; rfl
theorem kFx_set (gA : Nat → ClassId) (ca : Nat → Nat) (S : kS) (ce : Nat) (r : va_W) (k : Nat) (x : Nat × va_E) : (kFx gA ca S ce r).set (101 + k) x = kFx gA ca S ce (r.set k x) := by
  rw [Nat.add_comm]; rfl
theorem kO_U (k : Nat) (g : kG) (S : kS) (hk : k < kn S) : (kW g S)[101 + k]? = some (g.2.2.1 k, .inr (3, kUf g.2.2.2.1 S k)) := by
  unfold kW
  rw [kFx_at, List.getElem?_append_left (by unfold kUc; simpa using hk)]
  unfold kUc
  rw [List.getElem?_map, List.getElem?_range hk]
  rfl
theorem kO_V (j : Nat) (g : kG) (S : kS) (hj : j < km S) : (kW g S)[101 + (kn S + j)]? = some (g.2.2.2.1 j, .inl (g.1 0, kl S j, .inl (kx S j))) := by
  unfold kW
  have hl : (kUc g.2.2.1 g.2.2.2.1 S).length = kn S := by unfold kUc; simp
  rw [kFx_at, List.getElem?_append_right (by rw [hl]; omega), hl, show kn S + j - kn S = j by omega, List.getElem?_append_left (by unfold kVc; simpa using hj)]
  unfold kVc
  rw [List.getElem?_map, List.getElem?_range hj]
  rfl
theorem kU_set {α : Type} (n k : Nat) (f : Nat → α) (x : α) (h : k < n) (f' : Nat → α) (h1 : f' k = x) (h2 : ∀ i, i ≠ k → f' i = f i) : ((List.range n).map f).set k x = (List.range n).map f' := by
  apply List.ext_getElem?
  intro i
  by_cases hi : i = k
  · subst hi
    rw [List.getElem?_set_self (by simpa using h), List.getElem?_map, List.getElem?_range h]
    simp [h1]
  · rw [List.getElem?_set_ne (Ne.symm hi), List.getElem?_map, List.getElem?_map]
    by_cases hn : i < n
    · rw [List.getElem?_range hn]; simp [h2 i hi]
    · simp [hn]
theorem kP_U (f : Nat) (hf : f < 9) (hc : f ≠ 5) (k : Nat) (g : kG) (S : kS) (hk : k < kn S) (v : Int32) : (kW g S).set (101 + k) (g.2.2.1 k, .inr (3, (kUf g.2.2.2.1 S k).set f (.int v))) = kW g (sF S k f v) := by
  unfold kW
  rw [kFx_set, List.set_append_left _ _ (by unfold kUc; simpa using hk)]
  have e1 : (kUc g.2.2.1 g.2.2.2.1 S).set k (g.2.2.1 k, .inr (3, (kUf g.2.2.2.1 S k).set f (.int v))) = kUc g.2.2.1 g.2.2.2.1 (sF S k f v) := by
    unfold kUc
    refine kU_set _ _ _ _ hk _ ?_ ?_
    · show ((g.2.2.1 k, _) : Nat × va_E) = _
      congr 2
      congr 1
      match f, hf, hc with
      | 0, _, _ => simp [kUf, kF, kC, sF, k2u]
      | 1, _, _ => simp [kUf, kF, kC, sF, k2u]
      | 2, _, _ => simp [kUf, kF, kC, sF, k2u]
      | 3, _, _ => simp [kUf, kF, kC, sF, k2u]
      | 4, _, _ => simp [kUf, kF, kC, sF, k2u]
      | 6, _, _ => simp [kUf, kF, kC, sF, k2u]
      | 7, _, _ => simp [kUf, kF, kC, sF, k2u]
      | 8, _, _ => simp [kUf, kF, kC, sF, k2u]
    · intro i hi
      simp [kUf, kF, kC, sF, k2u, hi]
  rw [e1]
  rfl
theorem kWords {w : Cond} {args : Array Value} {s : State} (hts : ∀ x ∈ w :: wsC, x.before args s = true) : ∀ x ∈ wsC, x.before args s = true := fun x hx => hts x (List.mem_cons_of_mem _ hx)
theorem kGoodW {w : Cond} (h : w ∈ wsC) : (w.onTables && w.keeps) = true ∨ ∃ ty, w = .arrayClass ty := good_of_word (List.all_eq_true.mp wsC_good w h)
theorem kGoodIn {ws : List Cond} (h : ∀ w ∈ ws, w ∈ wsC) : GoodIn wsC ws := fun w hw => ⟨h w hw, kGoodW (h w hw)⟩
/-- what is known of a method that is called -/
def kFnI (own : String) (y : MethodName) (b : ByteArray) (nl : Nat) (ret : Option FieldType) (n index : Nat) : Prop :=
  (Cond.methodLink own index y ∈ wsC ∧ Cond.initialized y.cls ∈ wsC ∧ Cond.code y b nl ret ∈ wsC ∧ (y.cls ≠ "java/lang/invoke/MethodHandle" ∧ y.cls ≠ "java/lang/invoke/VarHandle" ∧ (parseMethodDescriptor y.desc).map (fun d => d.parameters.length) = some n) ∧ nl ≤ 21) ∧ Cond.instanceMethod y ∈ wsC ∧ Cond.selects y.cls y y ∈ wsC
def kFnS (own : String) (y : MethodName) (b : ByteArray) (nl : Nat) (ret : Option FieldType) (n index : Nat) : Prop :=
  (Cond.methodLink own index y ∈ wsC ∧ Cond.initialized y.cls ∈ wsC ∧ Cond.code y b nl ret ∈ wsC ∧ (y.cls ≠ "java/lang/invoke/MethodHandle" ∧ y.cls ≠ "java/lang/invoke/VarHandle" ∧ (parseMethodDescriptor y.desc).map (fun d => d.parameters.length) = some n) ∧ nl ≤ 21) ∧ Cond.static y ∈ wsC
theorem kGoodC {y : MethodName} {b : ByteArray} {nl : Nat} {ret : Option FieldType} (h : Cond.code y b nl ret ∈ wsC) : GoodIn wsC (.code y b nl ret :: wsC) := kGoodIn (fun w hw => by
  rcases List.mem_cons.mp hw with rfl | hw
  · exact h
  · exact hw)
section KR
variable {p : Program} {l : Launch} {e : Env} {R : Room} {s : State} {m : MethodId} {args : Array Value} {below : List Frame} {meth : Method} {c : Code} {H : Heap} {locs : List Loc} {cells slots : Nat} {Q : State → Prop}
variable {cc : ByteArray} {nL : Nat} {ls : Array Slot} {rest : List Value} {dC : Nat → ClassId} {dI : Nat → Nat → Nat} {g : kG} {A : Nat → Prop} {S S0 : kS} {own : String} {β : Type} {res : β}
theorem k_get {ci NN : Nat} {Cn : String} {TT : u_T} {o a k : Nat} {fs : List Value} {v : Value} (X : kX p s m meth c cc nL args own dC dI g A) (I : kV dC dI g A s S0 S H locs) (hc : kCl ci Cn TT NN) (hO : (kW g S)[o]? = some (a, .inr (ci, fs))) (k : Nat) (hk : k < NN) (hv : fs[k]? = some v) {index : Nat} (hl : Cond.fieldLink own index Cn (TT k).2.1 (TT k).2.2.1 ∈ wsC) (pc : Nat) (hdg : decode cc pc = .ok (.getfield index, 3))
    (kk : W p l e R s m args below meth c H locs cells slots Q (F0 m (pc + 3) ls (v :: rest))) : W p l e R s m args below meth c H locs cells slots Q (F0 m pc ls (.ref a :: rest)) := by
  obtain ⟨h1, h2, h3, h4, h5, h6, h7, h8⟩ := X
  obtain ⟨x1, x2, x3⟩ := hc
  exact va_get (D := (dC, dI)) (Ts := wsC) h1 h2 h5 x2 h4 h6 I.1 o hO x1 k hk (h5 _ hl) (fun z hz => by rw [x3 k hk] at hz; exact hz) hv hdg kk
theorem k_put {ci NN : Nat} {Cn : String} {TT : u_T} {o a : Nat} {fs : List Value} {v : Value} {ty : FieldType} {ty0 : Nat → FieldType} {S' : kS} {K : kS → Option β} (X : kX p s m meth c cc nL args own dC dI g A) (I : kV dC dI g A s S0 S H locs) (hc : kCl ci Cn TT NN) (hty : ∀ k, k < NN → parseFieldDescriptor (TT k).2.2.1 = some (ty0 k)) (hnm : ∀ a, a < NN → ∀ b, b < NN → a ≠ b → (TT a).2.1 ≠ (TT b).2.1) (hO : (kW g S)[o]? = some (a, .inr (ci, fs))) (k : Nat) (hk : k < NN) (hlen : k < fs.length) (hset : (kW g S).set o (a, .inr (ci, fs.set k v)) = kW g S') (hm : kSm S' S) {index : Nat} (hl : Cond.fieldLink own index Cn (TT k).2.1 (TT k).2.2.1 ∈ wsC) (hfin : (TT k).2.2.2 = false) (hpt : parseFieldDescriptor (TT k).2.2.1 = some ty) (hn : narrow ty v = v) (hfit : fits ty v = true) (pc : Nat) (hdg : decode cc pc = .ok (.putfield index, 3))
    (hpf : svk S' K = some res) (kk : ∀ (S1 : kS) (H1 : Heap) (locs1 : List Loc), kV dC dI g A s S0 S1 H1 locs1 → kSm S1 S → K S1 = some res → W p l e R s m args below meth c H1 locs1 cells slots Q (F0 m (pc + 3) ls rest)) : W p l e R s m args below meth c H locs cells slots Q (F0 m pc ls (v :: .ref a :: rest)) := by
  obtain ⟨h1, h2, h3, h4, h5, h6, h7, h8⟩ := X
  obtain ⟨x1, x2, x3⟩ := hc
  refine va_put (D := (dC, dI)) (Ts := wsC) h1 h2 h5 x2 ty0 hty hnm h4 h6 I.1 I.2.1 I.2.2.1 o hO x1 k hk (h5 _ hl) (fun z hz => by rw [x3 k hk] at hz; exact hz) hfin hpt hn hfit hlen hdg (fun H1 locs1 hP hD hS => ?_)
  rw [hset] at hP hD
  exact kk S' H1 locs1 ⟨hP, hD, hS, hm.trans I.2.2.2⟩ hm hpf
theorem k_iald {q n : Nat} {K : Option β} {j : Int32} (X : kX p s m meth c cc nL args own dC dI g A) (I : kV dC dI g A s S0 S H locs) (Y : kArI q n) (pc : Nat) (hdg : decode cc pc = .ok (.iaload, 1))
    (hpf : gd j n K = some res) (kk : K = some res → W p l e R s m args below meth c H locs cells slots Q (F0 m (pc + 1) ls (.int (kA S q j.toNatClampNeg) :: rest))) : W p l e R s m args below meth c H locs cells slots Q (F0 m pc ls (.int j :: .ref (g.2.1 q) :: rest)) := by
  obtain ⟨g1, g2⟩ := gd_some hpf
  exact va_iald X.1 X.2.1 X.2.2.2.2.2.1 I.1 q 0 (Y g S).1 rfl g1 hdg (kk g2)
theorem k_lald {q n : Nat} {K : Option β} {j : Int32} (X : kX p s m meth c cc nL args own dC dI g A) (I : kV dC dI g A s S0 S H locs) (Y : kArJ q n) (pc : Nat) (hdg : decode cc pc = .ok (.laload, 1))
    (hpf : gd j n K = some res) (kk : K = some res → W p l e R s m args below meth c H locs cells slots Q (F0 m (pc + 1) ls (.long (kJ S q j.toNatClampNeg) :: rest))) : W p l e R s m args below meth c H locs cells slots Q (F0 m pc ls (.int j :: .ref (g.2.1 q) :: rest)) := by
  obtain ⟨g1, g2⟩ := gd_some hpf
  exact va_lald X.1 X.2.1 X.2.2.2.2.2.1 I.1 q 1 (Y g S).1 rfl g1 hdg (kk g2)
theorem k_iast {q n : Nat} {K : kS → Option β} {j x : Int32} (X : kX p s m meth c cc nL args own dC dI g A) (I : kV dC dI g A s S0 S H locs) (Y : kArI q n) (pc : Nat) (hdg : decode cc pc = .ok (.iastore, 1))
    (hpf : gd j n (svk (sA S q j.toNatClampNeg x) K) = some res) (kk : ∀ (S1 : kS) (H1 : Heap) (locs1 : List Loc), kV dC dI g A s S0 S1 H1 locs1 → kSm S1 S → K S1 = some res → W p l e R s m args below meth c H1 locs1 cells slots Q (F0 m (pc + 1) ls rest)) : W p l e R s m args below meth c H locs cells slots Q (F0 m pc ls (.int x :: .int j :: .ref (g.2.1 q) :: rest)) := by
  obtain ⟨g1, g2⟩ := gd_some hpf
  refine va_iast X.1 X.2.1 X.2.2.2.2.2.1 I.1 I.2.1 I.2.2.1 q 0 (Y g S).1 rfl g1 hdg (fun H1 locs1 hP hD hS => ?_)
  rw [(Y g S).2] at hP hD
  exact kk _ H1 locs1 ⟨hP, hD, hS, kSm.trans (S' := S) ⟨rfl, rfl, rfl⟩ I.2.2.2⟩ ⟨rfl, rfl, rfl⟩ g2
theorem k_last {q n : Nat} {K : kS → Option β} {j : Int32} {x : Int64} (X : kX p s m meth c cc nL args own dC dI g A) (I : kV dC dI g A s S0 S H locs) (Y : kArJ q n) (pc : Nat) (hdg : decode cc pc = .ok (.lastore, 1))
    (hpf : gd j n (svk (sJ S q j.toNatClampNeg x) K) = some res) (kk : ∀ (S1 : kS) (H1 : Heap) (locs1 : List Loc), kV dC dI g A s S0 S1 H1 locs1 → kSm S1 S → K S1 = some res → W p l e R s m args below meth c H1 locs1 cells slots Q (F0 m (pc + 1) ls rest)) : W p l e R s m args below meth c H locs cells slots Q (F0 m pc ls (.long x :: .int j :: .ref (g.2.1 q) :: rest)) := by
  obtain ⟨g1, g2⟩ := gd_some hpf
  refine va_last X.1 X.2.1 X.2.2.2.2.2.1 I.1 I.2.1 I.2.2.1 q 1 (Y g S).1 rfl g1 hdg (fun H1 locs1 hP hD hS => ?_)
  rw [(Y g S).2] at hP hD
  exact kk _ H1 locs1 ⟨hP, hD, hS, kSm.trans (S' := S) ⟨rfl, rfl, rfl⟩ I.2.2.2⟩ ⟨rfl, rfl, rfl⟩ g2
theorem k_lenI {q n : Nat} (X : kX p s m meth c cc nL args own dC dI g A) (I : kV dC dI g A s S0 S H locs) (Y : kArI q n) (pc : Nat) (hdg : decode cc pc = .ok (.arraylength, 1)) (v : Int32) (hv : Int32.ofNat n = v)
    (kk : W p l e R s m args below meth c H locs cells slots Q (F0 m (pc + 1) ls (.int v :: rest))) : W p l e R s m args below meth c H locs cells slots Q (F0 m pc ls (.ref (g.2.1 q) :: rest)) :=
  va_alen X.1 X.2.1 X.2.2.2.2.2.1 I.1 q 0 (Y g S).1 (ty := .int) rfl hv hdg kk
theorem k_mld {j : Int32} {K : Nat → Option β} (X : kX p s m meth c cc nL args own dC dI g A) (I : kV dC dI g A s S0 S H locs) (pc : Nat) (hdg : decode cc pc = .ok (.aaload, 1))
    (hpf : gm j K = some res) (kk : ∀ k : Nat, k < 4 → K k = some res → W p l e R s m args below meth c H locs cells slots Q (F0 m (pc + 1) ls (.ref (g.2.1 (18 + 2 * k)) :: rest))) : W p l e R s m args below meth c H locs cells slots Q (F0 m pc ls (.int j :: .ref (g.2.1 12) :: rest)) := by
  obtain ⟨g1, g2⟩ := gm_some hpf
  have hlt : j.toNatClampNeg < 4 := Nat.not_le.mp fun q => g1 (Or.inr q)
  exact va_aldq (C := "MasterTree$Master") X.1 X.2.1 X.2.2.2.2.2.1 I.1 12 2 (cA := g.1 2) (n := 4) (f := fun j => some (g.2.1 (18 + 2 * j))) rfl rfl g1 hdg (kk j.toNatClampNeg hlt g2)
/-- an int of a change -/
theorem k_getU {k : Nat} {K : Option β} (X : kX p s m meth c cc nL args own dC dI g A) (I : kV dC dI g A s S0 S H locs) (f : Nat) {v : Value} (hf : f < 9) (hv : (kUf g.2.2.2.1 S k)[f]? = some v) {index : Nat} (hl : Cond.fieldLink own index RX0 (TX0 f).2.1 (TX0 f).2.2.1 ∈ wsC) (pc : Nat) (hdg : decode cc pc = .ok (.getfield index, 3))
    (hpf : gn k (kn S) K = some res) (kk : K = some res → W p l e R s m args below meth c H locs cells slots Q (F0 m (pc + 3) ls (v :: rest))) : W p l e R s m args below meth c H locs cells slots Q (F0 m pc ls (.ref (g.2.2.1 k) :: rest)) := by
  obtain ⟨g1, g2⟩ := gn_some hpf
  exact k_get (k := k) X I kCl_0 (kO_U k g S g1) f hf hv hl pc hdg (kk g2)
theorem k_putU {k : Nat} {x : Int32} {K : kS → Option β} (X : kX p s m meth c cc nL args own dC dI g A) (I : kV dC dI g A s S0 S H locs) (f : Nat) (hf : f < 9) (hc : f ≠ 5) {index : Nat} (hl : Cond.fieldLink own index RX0 (TX0 f).2.1 (TX0 f).2.2.1 ∈ wsC) (hfin : (TX0 f).2.2.2 = false) (hpt : parseFieldDescriptor (TX0 f).2.2.1 = some .int) (pc : Nat) (hdg : decode cc pc = .ok (.putfield index, 3))
    (hpf : gn k (kn S) (svk (sF S k f x) K) = some res) (kk : ∀ (S1 : kS) (H1 : Heap) (locs1 : List Loc), kV dC dI g A s S0 S1 H1 locs1 → kSm S1 S → K S1 = some res → W p l e R s m args below meth c H1 locs1 cells slots Q (F0 m (pc + 3) ls rest)) : W p l e R s m args below meth c H locs cells slots Q (F0 m pc ls (.int x :: .ref (g.2.2.1 k) :: rest)) := by
  obtain ⟨g1, g2⟩ := gn_some hpf
  exact k_put X I kCl_0 tyX0_ok nmX0 (kO_U k g S g1) f hf hf (kP_U f hf hc k g S g1 x) ⟨rfl, rfl, rfl⟩ hl hfin hpt rfl rfl pc hdg g2 kk
theorem k_ifnull {k : Nat} {A1 : Option β} {B1 : Nat → Option β} {off : Int} (hx : p.tables.exec = Jvm.exec) (hb : c.code = cc) (tgt : Nat) (pc : Nat) (hdg : decode cc pc = .ok (.ifnull off, 3)) (ht : (pc : Int) + off = (tgt : Int)) (hpf : oc (kC S k) A1 B1 = some res)
    (kt : A1 = some res → W p l e R s m args below meth c H locs cells slots Q (F0 m tgt ls rest)) (kf : ∀ j : Nat, kC S k = some j → B1 j = some res → W p l e R s m args below meth c H locs cells slots Q (F0 m (pc + 3) ls rest)) : W p l e R s m args below meth c H locs cells slots Q (F0 m pc ls (va_rf ((kC S k).map g.2.2.2.1) :: rest)) := by
  cases h : kC S k with
  | none => rw [h] at hpf; exact lv_ifnullN hx hb hdg ht (kt hpf)
  | some j => rw [h] at hpf; exact lv_ifnull hx hb hdg (kf j h hpf)
theorem k_getc {k j : Nat} {K : Option β} (X : kX p s m meth c cc nL args own dC dI g A) (I : kV dC dI g A s S0 S H locs) (hj : kC S k = some j) {index : Nat} (hl : Cond.fieldLink own index RX0 (TX0 5).2.1 (TX0 5).2.2.1 ∈ wsC) (pc : Nat) (hdg : decode cc pc = .ok (.getfield index, 3))
    (hpf : gn k (kn S) K = some res) (kk : K = some res → W p l e R s m args below meth c H locs cells slots Q (F0 m (pc + 3) ls (.ref (g.2.2.2.1 j) :: rest))) : W p l e R s m args below meth c H locs cells slots Q (F0 m pc ls (.ref (g.2.2.1 k) :: rest)) :=
  k_getU X I 5 (by decide) (v := .ref (g.2.2.2.1 j)) (by show some (va_rf ((kC S k).map g.2.2.2.1)) = _; rw [hj]; rfl) hl pc hdg hpf kk
theorem k_lenV {j : Nat} {K : Option β} (X : kX p s m meth c cc nL args own dC dI g A) (I : kV dC dI g A s S0 S H locs) (pc : Nat) (hdg : decode cc pc = .ok (.arraylength, 1)) (hpf : gn j (km S) K = some res)
    (kk : K = some res → W p l e R s m args below meth c H locs cells slots Q (F0 m (pc + 1) ls (.int (Int32.ofNat (kl S j)) :: rest))) : W p l e R s m args below meth c H locs cells slots Q (F0 m pc ls (.ref (g.2.2.2.1 j) :: rest)) := by
  obtain ⟨g1, g2⟩ := gn_some hpf
  exact va_alen X.1 X.2.1 X.2.2.2.2.2.1 I.1 _ 0 (kO_V j g S g1) (ty := .int) rfl rfl hdg (kk g2)
theorem k_ialdV {q : Nat} {K : Option β} {j : Int32} (X : kX p s m meth c cc nL args own dC dI g A) (I : kV dC dI g A s S0 S H locs) (pc : Nat) (hdg : decode cc pc = .ok (.iaload, 1))
    (hpf : gn q (km S) (gd j (kl S q) K) = some res) (kk : K = some res → W p l e R s m args below meth c H locs cells slots Q (F0 m (pc + 1) ls (.int (kx S q j.toNatClampNeg) :: rest))) : W p l e R s m args below meth c H locs cells slots Q (F0 m pc ls (.int j :: .ref (g.2.2.2.1 q) :: rest)) := by
  obtain ⟨g0, hpf⟩ := gn_some hpf
  obtain ⟨g1, g2⟩ := gd_some hpf
  exact va_iald X.1 X.2.1 X.2.2.2.2.2.1 I.1 _ 0 (kO_V q g S g0) rfl g1 hdg (kk g2)
end KR
section KC
variable {p : Program} {l : Launch} {e : Env} {s : State} {m : MethodId} {args : Array Value} {below : List Frame} {meth : Method} {c : Code} {H : Heap} {locs : List Loc} {cells slots : Nat} {Q : State → Prop}
variable {cc : ByteArray} {nL : Nat} {ls : Array Slot} {rest : List Value} {dC : Nat → ClassId} {dI : Nat → Nat → Nat} {g : kG} {A : Nat → Prop} {S S0 : kS} {own : String} {β : Type} {res : β} {R : Room}
/-- behind a call of a contract -/
theorem k_back {mc ms n pc : Nat} {st0 : List Value} {rv : Option Value} {S1 : kS} {a : Array Value} (hz : s.heap.size ≤ H.size) (I : kV dC dI g A s S0 S H locs) (hA : ∀ q, s.heap.size ≤ q → A q)
    (hr : va_Run p l e R s m args below meth c H locs cells slots 0 0 (F0 m pc ls st0) rest (kQ dC dI g H.size S rv S1 a) (kAt g (kn S) (km S) (kp S) H.size))
    (kk : ∀ (H1 : Heap) (locs1 : List Loc), kV dC dI g A s S0 S1 H1 locs1 → kSm S1 S → W p l e R s m args below meth c H1 locs1 cells slots Q (F0 m (pc + 3) ls (rv.toList ++ rest))) : W p l e R s m args below meth c H locs cells slots Q (F0 m pc ls st0) := by
  intro T hT X
  obtain ⟨v, st₀, t, T', L, h0, X', hL, e1, e2, ⟨⟨hv, hm, hP⟩, hz2, hk⟩, st⟩ := hr T hT X
  cases hv
  rw [h0] at hz2 hk
  have hf := kAt_sub I.2.1 hA hz
  have hS := I.2.2.1
  obtain ⟨t2, a1, b1⟩ := kk T'.heap (locs ++ L) ⟨by rw [e1]; exact hP, kD_to hm I.2.1, ⟨Nat.le_trans hS.1 (by rw [e1]; exact hz2), fun q h1 h2 => by rw [e1, hk q (Nat.lt_of_lt_of_le h1 hS.1) (fun z => h2 (hf q z))]; exact hS.2.1 q h1 h2, fun q hq => by
      rcases List.mem_append.mp hq with h | h
      · exact hS.2.2 q h
      · exact hf _ (hL q h)⟩, hm.trans I.2.2.2⟩ hm T' rfl X'
  exact ⟨t2, st t2 a1, b1⟩
theorem kRoom {d d2 nl : Nat} (hR : d ≤ R.frames ∧ 40 * d ≤ R.locals) (hd : d2 + 1 ≤ d) (hn : nl ≤ 21) : (mRm d2).frames + 1 ≤ R.frames ∧ 8 + (nl + 11) + (mRm d2).locals ≤ R.locals := by
  show d2 + 1 ≤ R.frames ∧ 8 + (nl + 11) + 40 * d2 ≤ R.locals
  omega
theorem k_callI {α : Type} {y : MethodName} {b : ByteArray} {nl n index d2 d : Nat} {ret : Option FieldType} {Av : kG → List Value} {Rv : kG → α → Option Value} {f : kS → Option (α × kS)} {K : α → kS → Option β} {st0 : List Value} {ci NN : Nat} {Cn : String} {TT : u_T} {o a : Nat} {fs : List Value} {As : List Value}
    (hR : d ≤ R.frames ∧ 40 * d ≤ R.locals) (X : kX p s m meth c cc nL args own dC dI g A) (I : kV dC dI g A s S0 S H locs) (F : kFnI own y b nl ret n index) (hc : kCl ci Cn TT NN) (hcn : y.cls = Cn) (hO : (kW g S)[o]? = some (a, .inr (ci, fs))) (hM : kMet l y b nl ret d2 Av Rv f) (hAv : Av g = .ref a :: As) (hd : d2 + 1 ≤ d) (pc : Nat) (hdg : decode cc pc = .ok (.invokevirtual index, 3)) (hn : As.length = n) (hsz : ls.size = nL)
    (hst : st0 = As.reverse ++ .ref a :: rest) (hW : (rest.map fun v => v.category).sum ≤ 8) (hcl : cells ≤ R.cells ∧ slots ≤ R.slots)
    (hpf : bk (f S) K = some res) (kk : ∀ (v : α) (S1 : kS) (H1 : Heap) (locs1 : List Loc), kV dC dI g A s S0 S1 H1 locs1 → kSm S1 S → K v S1 = some res → W p l e R s m args below meth c H1 locs1 cells slots Q (F0 m (pc + 3) ls ((Rv g v).toList ++ rest))) : W p l e R s m args below meth c H locs cells slots Q (F0 m pc ls st0) := by
  obtain ⟨h1, h2, h3, h4, h5, h6, h7, h8⟩ := X
  obtain ⟨⟨x1, x2, x4, x5, x6⟩, x7, x8⟩ := F
  obtain ⟨v, S1, hf, hk⟩ := bk_some hpf
  refine k_back (mc := 0) (ms := 0) (n := 0) (rv := Rv g v) (S1 := S1) I.2.2.1.1 I h8 (va_runV (Ts := wsC) (own := own) (C := y.cls) (As := As) (rest := rest) ⟨h1, h2, h3, h4, h5⟩ (hM dC dI g H.size S v S1 hf) ⟨callB_of n h5 (kGoodC x4) rfl rfl rfl (h5 _ x2) (h5 _ x1) x5 (kRoom hR hd x6), h5 _ x7, h5 _ x8⟩ ⟨fun a2 U gg mk q => by obtain ⟨q0, q1, qP, qK, qD⟩ := q; exact ⟨q0, q1, qP, va_K.moved (u := U) (U := U.calling gg mk a2) (Vm.Alike.refl U.vm) qK, qD⟩, (by rw [hcn]; exact va_recv h6 I.1 hc.1 hO), fun U hU hW2 => ⟨by rw [hAv], by rw [hU], by rw [hU]; exact I.1, va_K.moved hW2.alike h6, I.2.1.weaken (fun _ _ _ _ => trivial)⟩⟩ rfl hn hsz hst (lv_room hW) hdg ⟨hcl.1, hcl.2⟩) (fun H1 locs1 I1 hm => kk v S1 H1 locs1 I1 hm hk)
theorem k_callS {α : Type} {y : MethodName} {b : ByteArray} {nl n index d2 d : Nat} {ret : Option FieldType} {Av : kG → List Value} {Rv : kG → α → Option Value} {f : kS → Option (α × kS)} {K : α → kS → Option β} {st0 : List Value} {As : List Value}
    (hR : d ≤ R.frames ∧ 40 * d ≤ R.locals) (X : kX p s m meth c cc nL args own dC dI g A) (I : kV dC dI g A s S0 S H locs) (F : kFnS own y b nl ret n index) (hM : kMet l y b nl ret d2 Av Rv f) (hAv : Av g = As) (hd : d2 + 1 ≤ d) (pc : Nat) (hdg : decode cc pc = .ok (.invokestatic index, 3)) (hn : As.length = n) (hsz : ls.size = nL)
    (hst : st0 = As.reverse ++ rest) (hW : (rest.map fun v => v.category).sum ≤ 8) (hcl : cells ≤ R.cells ∧ slots ≤ R.slots)
    (hpf : bk (f S) K = some res) (kk : ∀ (v : α) (S1 : kS) (H1 : Heap) (locs1 : List Loc), kV dC dI g A s S0 S1 H1 locs1 → kSm S1 S → K v S1 = some res → W p l e R s m args below meth c H1 locs1 cells slots Q (F0 m (pc + 3) ls ((Rv g v).toList ++ rest))) : W p l e R s m args below meth c H locs cells slots Q (F0 m pc ls st0) := by
  obtain ⟨h1, h2, h3, h4, h5, h6, h7, h8⟩ := X
  obtain ⟨⟨x1, x2, x4, x5, x6⟩, x7⟩ := F
  obtain ⟨v, S1, hf, hk⟩ := bk_some hpf
  refine k_back (mc := 0) (ms := 0) (n := 0) (rv := Rv g v) (S1 := S1) I.2.2.1.1 I h8 (va_runS (Ts := wsC) (own := own) (As := As) (rest := rest) ⟨h1, h2, h3, h4, h5⟩ (hM dC dI g H.size S v S1 hf) ⟨callB_of n h5 (kGoodC x4) rfl rfl rfl (h5 _ x2) (h5 _ x1) x5 (kRoom hR hd x6), h5 _ x7⟩ ⟨fun a2 U gg mk q => by obtain ⟨q0, q1, qP, qK, qD⟩ := q; exact ⟨q0, q1, qP, va_K.moved (u := U) (U := U.calling gg mk a2) (Vm.Alike.refl U.vm) qK, qD⟩, fun U hU hW2 => ⟨by rw [hAv], by rw [hU], by rw [hU]; exact I.1, va_K.moved hW2.alike h6, I.2.1.weaken (fun _ _ _ _ => trivial)⟩⟩ rfl hn hsz hst (lv_room hW) hdg ⟨hcl.1, hcl.2⟩) (fun H1 locs1 I1 hm => kk v S1 H1 locs1 I1 hm hk)
end KC
section KE
variable {p : Program} {l : Launch} {e : Env} {s : State} {m : MethodId} {args : Array Value} {below : List Frame} {meth : Method} {c : Code} {H : Heap} {locs : List Loc} {Q : State → Prop} {R : Room}
variable {cc : ByteArray} {nL : Nat} {ls : Array Slot} {rest : List Value} {dC : Nat → ClassId} {dI : Nat → Nat → Nat} {g : kG} {S S0 : kS} {own : String} {sz : Nat} {rv : Option Value}
theorem k_end {t : State} (I : kV dC dI g (kAt g (kn S0) (km S0) (kp S0) sz) s S0 S H locs) (ht : t.heap = H) (o : Outcome) (ho : o = .returned rv) : kQ dC dI g sz S0 rv S args s o t :=
  ⟨⟨ho, I.2.2.2, by rw [ht]; exact I.1⟩, I.2.2.1.F ht⟩
theorem k_reti {v r : Int32} {S' : kS} (X : kX p s m meth c cc nL args own dC dI g (kAt g (kn S0) (km S0) (kp S0) sz)) (I : kV dC dI g (kAt g (kn S0) (km S0) (kp S0) sz) s S0 S H locs) (hr : meth.sig.returnType = some .int) (pc : Nat) (hdg : decode cc pc = .ok (.ireturn, 1)) (hpf : some (v, S) = some (r, S')) :
    W p l e R s m args below meth c H locs 0 0 (MQ below (kQ dC dI g sz S0 (rI g r) S') args s 0 0 (kAt g (kn S0) (km S0) (kp S0) sz)) (F0 m pc ls [.int v]) := by
  cases hpf
  exact W.iret X.1 X.2.1 hr (fun t ht hW => k_end I ht _ rfl) I.2.2.1.2.2 hdg X.2.2.2.2.2.2.1
theorem k_retzc {v r : Int32} {S' : kS} (X : kX p s m meth c cc nL args own dC dI g (kAt g (kn S0) (km S0) (kp S0) sz)) (I : kV dC dI g (kAt g (kn S0) (km S0) (kp S0) sz) s S0 S H locs) (hr : meth.sig.returnType = some .boolean) (pc : Nat) (hdg : decode cc pc = .ok (.ireturn, 1)) (hv : vp_nar .boolean v = v) (hpf : some (v, S) = some (r, S')) :
    W p l e R s m args below meth c H locs 0 0 (MQ below (kQ dC dI g sz S0 (rI g r) S') args s 0 0 (kAt g (kn S0) (km S0) (kp S0) sz)) (F0 m pc ls [.int v]) := by
  cases hpf
  exact W.zret X.1 X.2.1 hr (nar_z hv) (fun t ht hW => k_end I ht _ rfl) I.2.2.1.2.2 hdg X.2.2.2.2.2.2.1
theorem k_retz {v r : Int32} {S' : kS} (X : kX p s m meth c cc nL args own dC dI g (kAt g (kn S0) (km S0) (kp S0) sz)) (I : kV dC dI g (kAt g (kn S0) (km S0) (kp S0) sz) s S0 S H locs) (hr : meth.sig.returnType = some .boolean) (pc : Nat) (hdg : decode cc pc = .ok (.ireturn, 1)) (hpf : zk v S = some (r, S')) :
    W p l e R s m args below meth c H locs 0 0 (MQ below (kQ dC dI g sz S0 (rI g r) S') args s 0 0 (kAt g (kn S0) (km S0) (kp S0) sz)) (F0 m pc ls [.int v]) := by
  unfold zk at hpf
  by_cases hv : vp_nar .boolean v = v
  · rw [if_pos hv] at hpf
    exact k_retzc X I hr pc hdg hv hpf
  · rw [if_neg hv] at hpf; cases hpf
theorem k_retl {v r : Int64} {S' : kS} (X : kX p s m meth c cc nL args own dC dI g (kAt g (kn S0) (km S0) (kp S0) sz)) (I : kV dC dI g (kAt g (kn S0) (km S0) (kp S0) sz) s S0 S H locs) (hr : meth.sig.returnType = some .long) (pc : Nat) (hdg : decode cc pc = .ok (.lreturn, 1)) (hpf : some (v, S) = some (r, S')) :
    W p l e R s m args below meth c H locs 0 0 (MQ below (kQ dC dI g sz S0 (rJ g r) S') args s 0 0 (kAt g (kn S0) (km S0) (kp S0) sz)) (F0 m pc ls [.long v]) := by
  cases hpf
  exact W.lret X.1 X.2.1 hr (fun t ht hW => k_end I ht _ rfl) I.2.2.1.2.2 hdg X.2.2.2.2.2.2.1
theorem k_retv {r : Unit} {S' : kS} (X : kX p s m meth c cc nL args own dC dI g (kAt g (kn S0) (km S0) (kp S0) sz)) (I : kV dC dI g (kAt g (kn S0) (km S0) (kp S0) sz) s S0 S H locs) (hr : meth.sig.returnType = none) (pc : Nat) (hdg : decode cc pc = .ok (.return_, 1)) (hpf : some ((), S) = some (r, S')) :
    W p l e R s m args below meth c H locs 0 0 (MQ below (kQ dC dI g sz S0 (rU g r) S') args s 0 0 (kAt g (kn S0) (km S0) (kp S0) sz)) (F0 m pc ls []) := by
  cases hpf
  exact W.vret X.1 X.2.1 hr (fun t ht hW => k_end I ht _ rfl) I.2.2.1.2.2 hdg X.2.2.2.2.2.2.1
theorem k_reta {α : Type} {v r : α} {a : Nat} {Rv : kG → α → Option Value} {C9 : String} {S' : kS} (X : kX p s m meth c cc nL args own dC dI g (kAt g (kn S0) (km S0) (kp S0) sz)) (I : kV dC dI g (kAt g (kn S0) (km S0) (kp S0) sz) s S0 S H locs) (hr : meth.sig.returnType = some (.object C9)) (pc : Nat) (hdg : decode cc pc = .ok (.areturn, 1)) (hRv : Rv g v = some (.ref a)) (hpf : some (v, S) = some (r, S')) :
    W p l e R s m args below meth c H locs 0 0 (MQ below (kQ dC dI g sz S0 (Rv g r) S') args s 0 0 (kAt g (kn S0) (km S0) (kp S0) sz)) (F0 m pc ls [.ref a]) := by
  cases hpf
  rw [hRv]
  exact W.aret X.1 X.2.1 hr (Or.inl ⟨_, rfl⟩) (Or.inr ⟨_, rfl⟩) (fun t ht hW => k_end I ht _ rfl) I.2.2.1.2.2 hdg X.2.2.2.2.2.2.1
end KE
theorem kStart {α : Type} {l : Launch} {y : MethodName} {b : ByteArray} {nl : Nat} {ret : Option FieldType} {d : Nat} {Av : kG → List Value} {Rv : kG → α → Option Value} {f : kS → Option (α × kS)} (own : String) (hy : plainName y.cls = true) (hyc : y.cls = own) (lv : kG → List (Nat × Value)) (hn : ∀ g, (lg_sl (Av g)).length ≤ nl) (hlv : ∀ g, lv_args 0 (Av g) = lv g)
    (body : ∀ (dC : Nat → ClassId) (dI : Nat → Nat → Nat) (g : kG) (sz : Nat) (S : kS) (r : α) (S' : kS), f S = some (r, S') → ∀ (p : Program) (e : Env) (s : State) (m : MethodId) (args : Array Value) (below : List Frame) (meth : Method) (c : Code), kX p s m meth c b nl args own dC dI g (kAt g (kn S) (km S) (kp S) sz) → meth.sig.returnType = ret → ∀ (H : Heap) (locs : List Loc), kV dC dI g (kAt g (kn S) (km S) (kp S) sz) s S S H locs → ∀ ls : Array Slot, lv_has ls nl (lv g) →
      W p l e (mRm d) s m args below meth c H locs 0 0 (MQ below (kQ dC dI g sz S (Rv g r) S') args s 0 0 (kAt g (kn S) (km S) (kp S) sz)) (F0 m 0 ls [])) : kMet l y b nl ret d Av Rv f := by
  intro dC dI g sz S r S' hf
  refine Met.ofW (cc := b) (maxL := nl) (ret := ret) hy rfl ?_
  intro p e s m args below meth c s₁ B hml hv
  obtain ⟨rfl, hsz, hP, hK, hD0⟩ := hv
  have hts := atoms_spec B.pre
  have hown : s.vm.findClass own = some m.cls := by rw [← hyc]; exact findClass_of_methodNamed B.named
  have hl := lv_entry (Av g) (n := nl) (hn g)
  rw [lg_entry_eq]
  rw [hlv g] at hl
  exact body dC dI g sz S r S' hf p e s m _ below meth c ⟨B.exec, B.bytes, hml, hown, kWords hts, hK, B.notSynchronized, fun q hq => Or.inr (by rw [← hsz]; exact hq)⟩ B.returns s.heap [] ⟨hP, kD_self sz hD0, va_S.rf, kSm.rf⟩ _ hl
