-- constructors: contracts over their own cells alone
/-- these cells, and new ones -/
def nA (ws : va_W) (sz : Nat) : Nat → Prop := fun q => (∃ x ∈ ws, x.1 = q) ∨ sz ≤ q
/-- the empty row of ArrayList; what arrays of masters stand on -/
def nZe (ce : Nat) (A : Nat → Prop) (U : State) (H : Heap) : Prop := va_Z "java/util/ArrayList" "DEFAULTCAPACITY_EMPTY_ELEMENTDATA" "[Ljava/lang/Object;" (.ref ce) A U H ∧ va_AO "MasterTree$Master" U
theorem nZe.to {ce : Nat} {A B : Nat → Prop} {s U : State} {H H1 : Heap} (h : nZe ce A s H) (hW : s.vm.Alike U.vm) (hk : ∀ q : Nat, q < H.size → ¬ A q → H1[q]? = H[q]?) (hAB : ∀ q, B q → A q) : nZe ce B U H1 :=
  ⟨(va_Z.moved hW (h.1.kept hk)).narrow hAB, va_AO.moved hW h.2⟩
def nPre (dC : Nat → ClassId) (dI : Nat → Nat → Nat) (g : kG) (sz : Nat) (ws : va_W) : State → Prop := fun U => U.heap.size = sz ∧ va_P (dC, dI) vwCl ws U.heap ∧ va_K (dC, dI) vwCl (kTy g) U ∧ va_D (fun _ => True) ws ∧ nZe g.2.2.2.2 (nA ws sz) U U.heap
def nQ (dC : Nat → ClassId) (dI : Nat → Nat → Nat) (sz : Nat) (ws : va_W) (Po : va_W → Prop) : Array Value → State → Outcome → State → Prop := fun _ st oc t =>
  (oc = .returned none ∧ ∃ ws', Po ws' ∧ va_P (dC, dI) vwCl ws' t.heap ∧ va_D (nA ws sz) ws') ∧ va_F (nA ws sz) st t
def nMet (l : Launch) (y : MethodName) (b : ByteArray) (nl d mc ms : Nat) (av : List Value) (ws : kG → va_W) (Po : kG → va_W → Prop) : Prop :=
  ∀ (dC : Nat → ClassId) (dI : Nat → Nat → Nat) (g : kG) (sz : Nat), Met l y (.code y b nl none :: wsC) (xRm d mc ms) (va_Pc av (nPre dC dI g sz (ws g))) (nQ dC dI sz (ws g) (Po g)) mc ms (nA (ws g) sz)
/-- where the walk stands -/
def nWv (dC : Nat → ClassId) (dI : Nat → Nat → Nat) (A : Nat → Prop) (s : State) (ws : va_W) (H : Heap) (locs : List Loc) : Prop := va_P (dC, dI) vwCl ws H ∧ va_D A ws ∧ va_S A s.heap H locs
theorem va_D_nA {ws : va_W} {A : Nat → Prop} (sz : Nat) (h : va_D A ws) : va_D (nA ws sz) ws := ⟨h.1, fun _ q hk => Or.inl ⟨q, List.mem_of_getElem? hk, rfl⟩⟩
theorem nA_sub {ws0 ws : va_W} {A : Nat → Prop} {n0 n : Nat} (hD : va_D A (ws0 ++ ws)) (hA : ∀ q, n0 ≤ q → A q) (hz : n0 ≤ n) : ∀ q, nA ws n q → A q := fun q hq => by
  rcases hq with ⟨x, hx, rfl⟩ | hq
  · exact (va_D_iff.mp hD).2 x (List.mem_append_right _ hx)
  · exact hA q (Nat.le_trans hz hq)
theorem va_D_app {A : Nat → Prop} {ws0 ws ws' : va_W} {n : Nat} (hD : va_D A (ws0 ++ ws)) (hlt : ∀ x ∈ ws0, x.1 < n) (hD' : va_D (nA ws n) ws') (hs : ∀ q, nA ws n q → A q) : va_D A (ws0 ++ ws') := by
  rw [va_D_iff] at hD hD' ⊢
  rw [List.map_append, List.nodup_append] at hD ⊢
  refine ⟨⟨hD.1.1, hD'.1, fun a ha b hb hab => ?_⟩, fun q hq => ?_⟩
  · obtain ⟨x, hx, rfl⟩ := List.mem_map.mp ha
    obtain ⟨y, hy, rfl⟩ := List.mem_map.mp hb
    rcases hD'.2 y hy with ⟨z, hz, e⟩ | e
    · exact hD.1.2.2 x.1 ha z.1 (List.mem_map.mpr ⟨z, hz, rfl⟩) (hab.trans e.symm)
    · have := hlt x hx
      omega
  · rcases List.mem_append.mp hq with h | h
    · exact hD.2 q (List.mem_append_left _ h)
    · exact hs _ (hD'.2 q h)
theorem va_P_app {D : va_G} {cl : List vw_C} {ws ws' : va_W} {H : Heap} (h : va_P D cl ws H) (h' : va_P D cl ws' H) : va_P D cl (ws ++ ws') H := fun k q hk => by
  rcases List.mem_append.mp (List.mem_of_getElem? hk) with m | m
  · obtain ⟨j, hj⟩ := List.getElem?_of_mem m
    exact h j q hj
  · obtain ⟨j, hj⟩ := List.getElem?_of_mem m
    exact h' j q hj
theorem va_P_left {D : va_G} {cl : List vw_C} {ws ws' : va_W} {H : Heap} (h : va_P D cl (ws ++ ws') H) : va_P D cl ws H := va_P_of h (fun _ hz => List.mem_append_left _ hz)
theorem va_P_right {D : va_G} {cl : List vw_C} {ws ws' : va_W} {H : Heap} (h : va_P D cl (ws ++ ws') H) : va_P D cl ws' H := va_P_of h (fun _ hz => List.mem_append_right _ hz)
/-- the frame: what a callee over its own cells leaves of the others -/
theorem va_P_frame {D : va_G} {A : Nat → Prop} {ws0 ws : va_W} {H H1 : Heap} (hP : va_P D vwCl (ws0 ++ ws) H) (hD : va_D A (ws0 ++ ws)) (hk : ∀ q : Nat, q < H.size → ¬ nA ws H.size q → H1[q]? = H[q]?) : va_P D vwCl ws0 H1 := by
  have h0 := va_P_left hP
  refine h0.kept (fun k q hq => ?_)
  have hlt := (h0 k q hq).lt
  refine hk q.1 hlt (fun hn => ?_)
  rcases hn with ⟨z, hz, e⟩ | e
  · have hD1 := (va_D_iff.mp hD).1
    rw [List.map_append, List.nodup_append] at hD1
    exact hD1.2.2 q.1 (List.mem_map.mpr ⟨q, List.mem_of_getElem? hq, rfl⟩) z.1 (List.mem_map.mpr ⟨z, hz, rfl⟩) e.symm
  · omega
theorem va_P_lt {D : va_G} {ws : va_W} {H : Heap} (hP : va_P D vwCl ws H) : ∀ x ∈ ws, x.1 < H.size := fun x hx => by
  obtain ⟨k, hk⟩ := List.getElem?_of_mem hx
  exact (hP k x hk).lt
section NW
variable {p : Program} {l : Launch} {e : Env} {R : Room} {s : State} {m : MethodId} {args : Array Value} {below : List Frame} {meth : Method} {c : Code} {H : Heap} {locs : List Loc} {cells slots : Nat} {Q : State → Prop}
variable {cc : ByteArray} {nL : Nat} {ls : Array Slot} {rest : List Value} {dC : Nat → ClassId} {dI : Nat → Nat → Nat} {g : kG} {A : Nat → Prop} {own : String} {ws : va_W}
theorem n_new {ci N index : Nat} {C : String} {T : u_T} {fs : List Value} (X : kX p s m meth c cc nL args own dC dI g A) (I : nWv dC dI A s ws H locs) (hc1 : vwCl[ci]? = some (C, T, N)) (hc2 : ∀ w ∈ u_ws C T N, w ∈ wsC) (ty0 : Nat → FieldType) (hty : ∀ k, k < N → parseFieldDescriptor (T k).2.2.1 = some (ty0 k)) (hfs : ∀ j, j < N → defaultValue (ty0 j) = vp_V fs j) (hl : Cond.classLink own index C ∈ wsC) (h1 : Cond.instantiable C N ∈ wsC) (h2 : Cond.initialized C ∈ wsC) (hcs : cells + 1 ≤ R.cells ∧ slots + N ≤ R.slots) (pc : Nat) (hdg : decode cc pc = .ok (.new index, 3))
    (kk : ∀ (q : Nat) (H1 : Heap), nWv dC dI A s (ws ++ [(q, .inr (ci, fs))]) H1 locs → W p l e R s m args below meth c H1 locs (cells + 1) (slots + N) Q (F0 m (pc + 3) ls (.ref q :: rest))) : W p l e R s m args below meth c H locs cells slots Q (F0 m pc ls rest) := by
  obtain ⟨x1, x2, x3, x4, h5, h6, h7, h8⟩ := X
  exact va_new (Ts := wsC) x1 x2 h5 hc2 ty0 hty x4 (h5 _ hl) (h5 _ h1) (h5 _ h2) h6 I.1 I.2.1 I.2.2 h8 hc1 hfs hcs.1 hcs.2 hdg (fun q H1 hP hD hS => kk q H1 ⟨hP, hD, hS⟩)
theorem kA1_eq {D : va_G} {cl : List vw_C} {cA : ClassId} (h : va_K D cl (kTy g ++ [(cA, .long)]) s) : cA = g.1 1 := by
  have h1 : s.vm.findClass "[J" = some (g.1 1) := (h.2 1 (g.1 1, .long) rfl).2
  have h2 : s.vm.findClass "[J" = some cA := (h.2 4 (cA, .long) rfl).2
  exact Option.some.inj (h2.symm.trans h1)
theorem kA2_eq {D : va_G} {cl : List vw_C} {cA : ClassId} (h : va_K D cl (kTy g ++ [(cA, .object "MasterTree$Master")]) s) : cA = g.1 2 := by
  obtain ⟨kA, comp, h1, h2, h3, h4⟩ := (h.2 2 (g.1 2, .object "MasterTree$Master") rfl).2
  obtain ⟨kA', comp', h1', h2', h3', h4'⟩ := (h.2 4 (cA, .object "MasterTree$Master") rfl).2
  exact Option.some.inj (h4'.symm.trans h4)
theorem n_newaI {n : Int32} (N' : Nat) (X : kX p s m meth c cc nL args own dC dI g A) (I : nWv dC dI A s ws H locs) (hn : ¬ n < 0) (hN : n.toNatClampNeg = N') (hb : N' * 4 ≤ 536870912) (hcs : cells + 1 ≤ R.cells ∧ slots + N' ≤ R.slots) (pc : Nat) (hdg : decode cc pc = .ok (.newarray .int, 2))
    (kk : ∀ (q : Nat) (H1 : Heap), nWv dC dI A s (ws ++ [(q, .inl (g.1 0, N', .inl (fun _ => 0)))]) H1 locs → W p l e R s m args below meth c H1 locs (cells + 1) (slots + N') Q (F0 m (pc + 2) ls (.ref q :: rest))) : W p l e R s m args below meth c H locs cells slots Q (F0 m pc ls (.int n :: rest)) := by
  obtain ⟨x1, x2, x3, x4, h5, h6, h7, h8⟩ := X
  refine va_newa (atype := .int) (a0 := (N', .inl (fun _ => 0))) (N' := N') x1 x2 (h5 _ kC_14) rfl h6 I.1 I.2.1 I.2.2 h8 (fun _ => rfl) hn hN hb hcs.1 hcs.2 hdg (fun q cA H1 hK1 hP hD hS => ?_)
  have e := kA0_eq hK1
  subst e
  exact kk q H1 ⟨hP, hD, hS⟩
theorem n_newaJ {n : Int32} (N' : Nat) (X : kX p s m meth c cc nL args own dC dI g A) (I : nWv dC dI A s ws H locs) (hn : ¬ n < 0) (hN : n.toNatClampNeg = N') (hb : N' * 8 ≤ 536870912) (hcs : cells + 1 ≤ R.cells ∧ slots + N' ≤ R.slots) (pc : Nat) (hdg : decode cc pc = .ok (.newarray .long, 2))
    (kk : ∀ (q : Nat) (H1 : Heap), nWv dC dI A s (ws ++ [(q, .inl (g.1 1, N', .inr (.inl (fun _ => 0))))]) H1 locs → W p l e R s m args below meth c H1 locs (cells + 1) (slots + N') Q (F0 m (pc + 2) ls (.ref q :: rest))) : W p l e R s m args below meth c H locs cells slots Q (F0 m pc ls (.int n :: rest)) := by
  obtain ⟨x1, x2, x3, x4, h5, h6, h7, h8⟩ := X
  refine va_newa (atype := .long) (a0 := (N', .inr (.inl (fun _ => 0)))) (N' := N') x1 x2 (h5 _ kC_87) rfl h6 I.1 I.2.1 I.2.2 h8 (fun _ => rfl) hn hN hb hcs.1 hcs.2 hdg (fun q cA H1 hK1 hP hD hS => ?_)
  have e := kA1_eq hK1
  subst e
  exact kk q H1 ⟨hP, hD, hS⟩
theorem n_putF {ci N index a : Nat} {C : String} {T : u_T} {ty0 : Nat → FieldType} {fs : List Value} {v : Value} {ty : FieldType} (ws2 : va_W) (X : kX p s m meth c cc nL args own dC dI g A) (I : nWv dC dI A s ws H locs) (hin : meth.name = "<init>") (hc : kCl ci C T N) (hty : ∀ k, k < N → parseFieldDescriptor (T k).2.2.1 = some (ty0 k)) (hnm : ∀ a, a < N → ∀ b, b < N → a ≠ b → (T a).2.1 ≠ (T b).2.1) (o : Nat) (hO : ws[o]? = some (a, .inr (ci, fs))) (k : Nat) (hk : k < N) (hlen : k < fs.length) (hset : ws.set o (a, .inr (ci, fs.set k v)) = ws2) (hl : Cond.fieldLink own index C (T k).2.1 (T k).2.2.1 ∈ wsC) (hfin : (T k).2.2.2 = true) (hoc : own = C) (hpt : parseFieldDescriptor (T k).2.2.1 = some ty) (hn : narrow ty v = v) (hfit : fits ty v = true) (pc : Nat) (hdg : decode cc pc = .ok (.putfield index, 3))
    (kk : ∀ (H1 : Heap) (locs1 : List Loc), nWv dC dI A s ws2 H1 locs1 → W p l e R s m args below meth c H1 locs1 cells slots Q (F0 m (pc + 3) ls rest)) : W p l e R s m args below meth c H locs cells slots Q (F0 m pc ls (v :: .ref a :: rest)) := by
  obtain ⟨x1, x2, x3, x4, h5, h6, h7, h8⟩ := X
  obtain ⟨c1, c2, c3⟩ := hc
  refine va_putF (D := (dC, dI)) (Ts := wsC) x1 x2 h5 c2 ty0 hty hnm x4 h6 I.1 I.2.1 I.2.2 o hO c1 k hk (h5 _ hl) (fun z hz => by rw [c3 k hk] at hz; exact hz) hfin hin (by rw [c3 k hk, hoc]) hpt hn hfit hlen hdg (fun H1 locs1 hP hD hS => ?_)
  rw [hset] at hP hD
  exact kk H1 locs1 ⟨hP, hD, hS⟩
theorem n_put {ci N index a : Nat} {C : String} {T : u_T} {ty0 : Nat → FieldType} {fs : List Value} {v : Value} {ty : FieldType} (ws2 : va_W) (X : kX p s m meth c cc nL args own dC dI g A) (I : nWv dC dI A s ws H locs) (hc : kCl ci C T N) (hty : ∀ k, k < N → parseFieldDescriptor (T k).2.2.1 = some (ty0 k)) (hnm : ∀ a, a < N → ∀ b, b < N → a ≠ b → (T a).2.1 ≠ (T b).2.1) (o : Nat) (hO : ws[o]? = some (a, .inr (ci, fs))) (k : Nat) (hk : k < N) (hlen : k < fs.length) (hset : ws.set o (a, .inr (ci, fs.set k v)) = ws2) (hl : Cond.fieldLink own index C (T k).2.1 (T k).2.2.1 ∈ wsC) (hfin : (T k).2.2.2 = false) (hpt : parseFieldDescriptor (T k).2.2.1 = some ty) (hn : narrow ty v = v) (hfit : fits ty v = true) (pc : Nat) (hdg : decode cc pc = .ok (.putfield index, 3))
    (kk : ∀ (H1 : Heap) (locs1 : List Loc), nWv dC dI A s ws2 H1 locs1 → W p l e R s m args below meth c H1 locs1 cells slots Q (F0 m (pc + 3) ls rest)) : W p l e R s m args below meth c H locs cells slots Q (F0 m pc ls (v :: .ref a :: rest)) := by
  obtain ⟨x1, x2, x3, x4, h5, h6, h7, h8⟩ := X
  obtain ⟨c1, c2, c3⟩ := hc
  refine va_put (D := (dC, dI)) (Ts := wsC) x1 x2 h5 c2 ty0 hty hnm x4 h6 I.1 I.2.1 I.2.2 o hO c1 k hk (h5 _ hl) (fun z hz => by rw [c3 k hk] at hz; exact hz) hfin hpt hn hfit hlen hdg (fun H1 locs1 hP hD hS => ?_)
  rw [hset] at hP hD
  exact kk H1 locs1 ⟨hP, hD, hS⟩
theorem n_get {ci N index a : Nat} {C : String} {T : u_T} {fs : List Value} {v : Value} (X : kX p s m meth c cc nL args own dC dI g A) (I : nWv dC dI A s ws H locs) (hc : kCl ci C T N) (o : Nat) (hO : ws[o]? = some (a, .inr (ci, fs))) (k : Nat) (hk : k < N) (hv : fs[k]? = some v) (hl : Cond.fieldLink own index C (T k).2.1 (T k).2.2.1 ∈ wsC) (pc : Nat) (hdg : decode cc pc = .ok (.getfield index, 3))
    (kk : W p l e R s m args below meth c H locs cells slots Q (F0 m (pc + 3) ls (v :: rest))) : W p l e R s m args below meth c H locs cells slots Q (F0 m pc ls (.ref a :: rest)) := by
  obtain ⟨x1, x2, x3, x4, h5, h6, h7, h8⟩ := X
  obtain ⟨c1, c2, c3⟩ := hc
  exact va_get (D := (dC, dI)) (Ts := wsC) x1 x2 h5 c2 x4 h6 I.1 o hO c1 k hk (h5 _ hl) (fun z hz => by rw [c3 k hk] at hz; exact hz) hv hdg kk
/-- behind a call over cells of its own -/
theorem n_back {mc ms pc : Nat} {st0 : List Value} {ws0 : va_W} {Po : va_W → Prop} {a : Array Value} (I : nWv dC dI A s (ws0 ++ ws) H locs) (hA : ∀ q, s.heap.size ≤ q → A q)
    (hr : va_Run p l e R s m args below meth c H locs cells slots mc ms (F0 m pc ls st0) rest (nQ dC dI H.size ws Po a) (nA ws H.size))
    (kk : ∀ (ws' : va_W) (H1 : Heap) (locs1 : List Loc), Po ws' → nWv dC dI A s (ws0 ++ ws') H1 locs1 → W p l e R s m args below meth c H1 locs1 (cells + mc) (slots + ms) Q (F0 m (pc + 3) ls rest)) : W p l e R s m args below meth c H locs cells slots Q (F0 m pc ls st0) := by
  intro T hT X
  obtain ⟨v, st₀, t, T', L, h0, X', hL, e1, e2, ⟨⟨hv, ws', hPo, hP', hD'⟩, hz2, hk⟩, st⟩ := hr T hT X
  cases hv
  rw [h0] at hz2 hk
  obtain ⟨hP, hD, hS⟩ := I
  have hf := nA_sub hD hA hS.1
  have hP0 : va_P (dC, dI) vwCl ws0 T'.heap := by rw [e1]; exact va_P_frame hP hD hk
  obtain ⟨t2, a1, b1⟩ := kk ws' T'.heap (locs ++ L) hPo ⟨va_P_app hP0 (by rw [e1]; exact hP'), va_D_app hD (fun x hx => va_P_lt hP x (List.mem_append_left _ hx)) hD' hf, ⟨Nat.le_trans hS.1 (by rw [e1]; exact hz2), fun q h1 h2 => by rw [e1, hk q (Nat.lt_of_lt_of_le h1 hS.1) (fun z => h2 (hf q z))]; exact hS.2.1 q h1 h2, fun q hq => by
      rcases List.mem_append.mp hq with h | h
      · exact hS.2.2 q h
      · exact hf _ (hL q h)⟩⟩ T' rfl X'
  exact ⟨t2, st t2 a1, b1⟩
theorem n_pre {ws0 : va_W} {av : List Value} (X : kX p s m meth c cc nL args own dC dI g A) (hE : nZe g.2.2.2.2 A s s.heap) (I : nWv dC dI A s (ws0 ++ ws) H locs) {U : State} (hU : U.heap = H) (hW : s.WarmedH U.vm) : va_Pc av (nPre dC dI g H.size ws) av.toArray U := by
  obtain ⟨hP, hD, hS⟩ := I
  refine ⟨rfl, by rw [hU], by rw [hU]; exact va_P_right hP, va_K.moved hW.alike X.2.2.2.2.2.1, ?_, ?_⟩
  · exact (va_D_sub hD (List.sublist_append_right _ _)).weaken (fun _ _ _ _ => trivial)
  · rw [hU]
    exact hE.to hW.alike hS.2.1 (nA_sub hD X.2.2.2.2.2.2.2 hS.1)
theorem n_blind {av : List Value} {n : Nat} : FrameBlind (va_Pc av (nPre dC dI g n ws)) := fun a2 U gg mk q => by
  obtain ⟨q0, q1, qP, qK, qD, qE⟩ := q
  exact ⟨q0, q1, qP, va_K.moved (u := U) (U := U.calling gg mk a2) (Vm.Alike.refl U.vm) qK, qD, qE.to (U := U.calling gg mk a2) (Vm.Alike.refl U.vm) (fun _ _ _ => rfl) (fun _ h => h)⟩
/-- a constructor -/
theorem n_callC {y : MethodName} {b : ByteArray} {nl n index d2 d mc ms a : Nat} {ws0 : va_W} {wf : kG → va_W} {Po : kG → va_W → Prop} {st0 : List Value} {As : List Value}
    (hR : d ≤ R.frames ∧ 40 * d ≤ R.locals) (X : kX p s m meth c cc nL args own dC dI g A) (hE : nZe g.2.2.2.2 A s s.heap) (I : nWv dC dI A s (ws0 ++ wf g) H locs) (F : kFnC own y b nl n index) (hM : nMet l y b nl d2 mc ms (.ref a :: As) wf Po) (hd : d2 + 1 ≤ d) (pc : Nat) (hdg : decode cc pc = .ok (.invokespecial index, 3)) (hn : As.length = n) (hsz : ls.size = nL)
    (hst : st0 = As.reverse ++ .ref a :: rest) (hW : (rest.map fun v => v.category).sum ≤ 8) (hcs : cells + mc ≤ R.cells ∧ slots + ms ≤ R.slots)
    (kk : ∀ (ws' : va_W) (H1 : Heap) (locs1 : List Loc), Po g ws' → nWv dC dI A s (ws0 ++ ws') H1 locs1 → W p l e R s m args below meth c H1 locs1 (cells + mc) (slots + ms) Q (F0 m (pc + 3) ls rest)) : W p l e R s m args below meth c H locs cells slots Q (F0 m pc ls st0) := by
  obtain ⟨h1, h2, h3, h4, h5, h6, h7, h8⟩ := id X
  obtain ⟨⟨x1, x2, x4, x5, x6⟩, x7, x8⟩ := F
  exact n_back I h8 (va_runI (Ts := wsC) (own := own) (As := As) (rest := rest) ⟨h1, h2, h3, h4, h5⟩ (hM dC dI g H.size) ⟨callB_of n h5 (kGoodC x4) rfl rfl rfl (h5 _ x2) (h5 _ x1) x5 (xRoom hR hd x6), x8, h5 _ x7⟩ ⟨n_blind, fun U hU hW2 => n_pre X hE I hU hW2⟩ rfl hn hsz hst (lv_room hW) hdg hcs) kk
theorem n_callS {y : MethodName} {b : ByteArray} {nl n index d2 d mc ms : Nat} {ws0 : va_W} {wf : kG → va_W} {Po : kG → va_W → Prop} {st0 : List Value} {As : List Value}
    (hR : d ≤ R.frames ∧ 40 * d ≤ R.locals) (X : kX p s m meth c cc nL args own dC dI g A) (hE : nZe g.2.2.2.2 A s s.heap) (I : nWv dC dI A s (ws0 ++ wf g) H locs) (F : kFnS own y b nl none n index) (hM : nMet l y b nl d2 mc ms As wf Po) (hd : d2 + 1 ≤ d) (pc : Nat) (hdg : decode cc pc = .ok (.invokestatic index, 3)) (hn : As.length = n) (hsz : ls.size = nL)
    (hst : st0 = As.reverse ++ rest) (hW : (rest.map fun v => v.category).sum ≤ 8) (hcs : cells + mc ≤ R.cells ∧ slots + ms ≤ R.slots)
    (kk : ∀ (ws' : va_W) (H1 : Heap) (locs1 : List Loc), Po g ws' → nWv dC dI A s (ws0 ++ ws') H1 locs1 → W p l e R s m args below meth c H1 locs1 (cells + mc) (slots + ms) Q (F0 m (pc + 3) ls rest)) : W p l e R s m args below meth c H locs cells slots Q (F0 m pc ls st0) := by
  obtain ⟨h1, h2, h3, h4, h5, h6, h7, h8⟩ := id X
  obtain ⟨⟨x1, x2, x4, x5, x6⟩, x7⟩ := F
  exact n_back I h8 (va_runS (Ts := wsC) (own := own) (As := As) (rest := rest) ⟨h1, h2, h3, h4, h5⟩ (hM dC dI g H.size) ⟨callB_of n h5 (kGoodC x4) rfl rfl rfl (h5 _ x2) (h5 _ x1) x5 (xRoom hR hd x6), h5 _ x7⟩ ⟨n_blind, fun U hU hW2 => n_pre X hE I hU hW2⟩ rfl hn hsz hst (lv_room hW) hdg hcs) kk
theorem n_callV {y : MethodName} {b : ByteArray} {nl n index d2 d mc ms ci o a : Nat} {fs : List Value} {cq : vw_C} {ws0 : va_W} {wf : kG → va_W} {Po : kG → va_W → Prop} {st0 : List Value} {As : List Value}
    (hR : d ≤ R.frames ∧ 40 * d ≤ R.locals) (X : kX p s m meth c cc nL args own dC dI g A) (hE : nZe g.2.2.2.2 A s s.heap) (I : nWv dC dI A s (ws0 ++ wf g) H locs) (F : kFnI own y b nl none n index) (hcl : vwCl[ci]? = some cq) (hcn : y.cls = cq.1) (hO : (wf g)[o]? = some (a, .inr (ci, fs))) (hM : nMet l y b nl d2 mc ms (.ref a :: As) wf Po) (hd : d2 + 1 ≤ d) (pc : Nat) (hdg : decode cc pc = .ok (.invokevirtual index, 3)) (hn : As.length = n) (hsz : ls.size = nL)
    (hst : st0 = As.reverse ++ .ref a :: rest) (hW : (rest.map fun v => v.category).sum ≤ 8) (hcs : cells + mc ≤ R.cells ∧ slots + ms ≤ R.slots)
    (kk : ∀ (ws' : va_W) (H1 : Heap) (locs1 : List Loc), Po g ws' → nWv dC dI A s (ws0 ++ ws') H1 locs1 → W p l e R s m args below meth c H1 locs1 (cells + mc) (slots + ms) Q (F0 m (pc + 3) ls rest)) : W p l e R s m args below meth c H locs cells slots Q (F0 m pc ls st0) := by
  obtain ⟨h1, h2, h3, h4, h5, h6, h7, h8⟩ := id X
  obtain ⟨⟨x1, x2, x4, x5, x6⟩, x7, x8⟩ := F
  exact n_back I h8 (va_runV (Ts := wsC) (own := own) (C := y.cls) (As := As) (rest := rest) ⟨h1, h2, h3, h4, h5⟩ (hM dC dI g H.size) ⟨callB_of n h5 (kGoodC x4) rfl rfl rfl (h5 _ x2) (h5 _ x1) x5 (xRoom hR hd x6), h5 _ x7, h5 _ x8⟩ ⟨n_blind, (by rw [hcn]; exact va_recv h6 (va_P_right I.1) hcl hO), fun U hU hW2 => n_pre X hE I hU hW2⟩ rfl hn hsz hst (lv_room hW) hdg hcs) kk
theorem n_ret {sz mc ms : Nat} {ws0 : va_W} {Po : va_W → Prop} (X : kX p s m meth c cc nL args own dC dI g (nA ws0 sz)) (I : nWv dC dI (nA ws0 sz) s ws H locs) (hPo : Po ws) (hr : meth.sig.returnType = none) (hcm : cells ≤ mc ∧ slots ≤ ms) (pc : Nat) (hdg : decode cc pc = .ok (.return_, 1)) :
    W p l e R s m args below meth c H locs cells slots (MQ below (nQ dC dI sz ws0 Po) args s mc ms (nA ws0 sz)) (F0 m pc ls []) :=
  W.widen hcm.1 hcm.2 (W.vret X.1 X.2.1 hr (fun t ht _ => ⟨⟨rfl, ws, hPo, by rw [ht]; exact I.1, I.2.1⟩, I.2.2.F ht⟩) I.2.2.2.2 hdg X.2.2.2.2.2.2.1)
end NW
theorem n_start {l : Launch} {y : MethodName} {b : ByteArray} {nl d mc ms : Nat} {av : List Value} {wf : kG → va_W} {Po : kG → va_W → Prop} (own : String) (hy : plainName y.cls = true) (hyc : y.cls = own) (lv : List (Nat × Value)) (hn : (lg_sl av).length ≤ nl) (hlv : lv_args 0 av = lv)
    (body : ∀ (dC : Nat → ClassId) (dI : Nat → Nat → Nat) (g : kG) (sz : Nat) (p : Program) (e : Env) (s : State) (m : MethodId) (args : Array Value) (below : List Frame) (meth : Method) (c : Code), kX p s m meth c b nl args own dC dI g (nA (wf g) sz) → nZe g.2.2.2.2 (nA (wf g) sz) s s.heap → meth.name = y.name → meth.sig.returnType = none → ∀ (H : Heap) (locs : List Loc), nWv dC dI (nA (wf g) sz) s (wf g) H locs → ∀ ls : Array Slot, lv_has ls nl lv →
      W p l e (xRm d mc ms) s m args below meth c H locs 0 0 (MQ below (nQ dC dI sz (wf g) (Po g)) args s mc ms (nA (wf g) sz)) (F0 m 0 ls [])) : nMet l y b nl d mc ms av wf Po := by
  intro dC dI g sz
  refine Met.ofW (cc := b) (maxL := nl) (ret := none) hy rfl ?_
  intro p e s m args below meth c s₁ B hml hv
  obtain ⟨rfl, hsz, hP, hK, hD0, hE⟩ := hv
  have hts := atoms_spec B.pre
  have hown : s.vm.findClass own = some m.cls := by rw [← hyc]; exact findClass_of_methodNamed B.named
  have hlv0 := lv_entry av (n := nl) hn
  rw [lg_entry_eq]
  rw [hlv] at hlv0
  exact body dC dI g sz p e s m _ below meth c ⟨B.exec, B.bytes, hml, hown, kWords hts, hK, B.notSynchronized, fun q hq => Or.inr (by rw [← hsz]; exact hq)⟩ hE (name_of_methodNamed B.named B.method).1 B.returns s.heap [] ⟨hP, va_D_nA sz hD0, va_S.rf⟩ _ hlv0
