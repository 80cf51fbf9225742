-- THE LAW'S SMALL METHODS: the class's world beside the law's own row of one long
def lW (g : kG) (o : Nat) (F : Nat → Int64) (S : kS) : va_W := [(o, .inl (g.1 1, 1, .inr (.inl F)))] ++ kW g S
def lFr (g : kG) (n m p sz o : Nat) : Nat → Prop := fun q => q = o ∨ kAt g n m p sz q
/-- the three exceptions are castable to none of the others -/
def lNc (U : State) : Prop := ∀ j k : Nat, (j = 1 ∨ j = 2 ∨ j = 3) → (k = 1 ∨ k = 2 ∨ k = 3) → j ≠ k → va_Nc (xN j) (xN k) U
theorem lNc.moved {u U : State} (h : lNc u) (hW : u.vm.Alike U.vm) : lNc U := fun j k hj hk hn => va_Nc.moved hW (h j k hj hk hn)
def lPre (dC : Nat → ClassId) (dI : Nat → Nat → Nat) (g : kG) (sz : Nat) (S : kS) (o : Nat) (F : Nat → Int64) : State → Prop := fun U =>
  (U.heap.size = sz ∧ va_P (dC, dI) vwCl (lW g o F S) U.heap ∧ va_K (dC, dI) vwCl (kTy g) U ∧ va_D (fun _ => True) (lW g o F S)) ∧ (kEx (lFr g (kn S) (km S) (kp S) sz o) U U.heap ∧ kLg g.1 (kp S) g.2.2.2.2 (lFr g (kn S) (km S) (kp S) sz o) U U.heap) ∧ lNc U
def lQ (dC : Nat → ClassId) (dI : Nat → Nat → Nat) (g : kG) (sz : Nat) (S S' : kS) (o : Nat) (F' : Nat → Int64) (r : Int32) : Array Value → State → Outcome → State → Prop := fun _ st oc t =>
  (oc = .returned (some (.int r)) ∧ ∃ (cc cd : Nat → Nat) (ce : Nat), kGc g cc ce S S' ∧ va_P (dC, dI) vwCl (lW (g.1, g.2.1, cc, cd, ce) o F' S') t.heap ∧ va_D (lFr g (kn S) (km S) (kp S) sz o) (lW (g.1, g.2.1, cc, cd, ce) o F' S')) ∧ va_F (lFr g (kn S) (km S) (kp S) sz o) st t
def lMet (l : Launch) (y : MethodName) (b : ByteArray) (nl : Nat) (hh : List (Nat × Nat × Nat × Nat)) (d mc ms : Nat) (As : List Value) (f : kS → (Nat → Int64) → Option (Int32 × kS × (Nat → Int64))) : Prop :=
  ∀ (dC : Nat → ClassId) (dI : Nat → Nat → Nat) (g : kG) (sz : Nat) (S : kS) (o : Nat) (F : Nat → Int64) (r : Int32) (S' : kS) (F' : Nat → Int64), f S F = some (r, S', F') →
    Met l y (.codeWith y b nl (some .int) hh :: wsT) (xRm d mc ms) (va_Pc (.ref (g.2.1 0) :: (As ++ [.ref o])) (lPre dC dI g sz S o F)) (lQ dC dI g sz S S' o F' r) mc ms (lFr g (kn S) (km S) (kp S) sz o)
-- the pictures of the small methods
def lE1 (a k : Nat) : Option Int32 := if k = a then some 1 else none
def lE2 (a b k : Nat) : Option Int32 := if k = a then some 1 else if k = b then some 2 else none
def lE3 (a b c k : Nat) : Option Int32 := if k = a then some 1 else if k = b then some 2 else if k = c then some 3 else none
def lPg (z : Int32 → Int64) (e : Nat → Option Int32) (o : Option ((Int32 ⊕ Nat) × kS)) (F : Nat → Int64) : Option (Int32 × kS × (Nat → Int64)) := match o with
  | none => none
  | some (.inl v, S) => some (0, S, vp_updL F 0 (z v))
  | some (.inr k, S) => match e k with
    | none => none
    | some c => some (c, S, F)
def lZi (v : Int32) : Int64 := v.toInt64
def lZb (v : Int32) : Int64 := if v = 0 then 0 else 1
theorem lPg_some {z : Int32 → Int64} {e : Nat → Option Int32} {o : Option ((Int32 ⊕ Nat) × kS)} {F F' : Nat → Int64} {r : Int32} {S' : kS} (h : lPg z e o F = some (r, S', F')) : ∃ w, o = some (w, S') ∧ ((∃ v, w = .inl v ∧ r = 0 ∧ F' = vp_updL F 0 (z v)) ∨ (∃ k, w = .inr k ∧ e k = some r ∧ F' = F)) := by
  match o, h with
  | some (.inl v, S), h =>
    cases h
    exact ⟨.inl v, rfl, Or.inl ⟨v, rfl, rfl, rfl⟩⟩
  | some (.inr k, S), h =>
    unfold lPg at h
    cases he : e k with
    | none => simp only [he] at h; cases h
    | some c =>
      simp only [he] at h
      cases h
      exact ⟨.inr k, rfl, Or.inr ⟨k, rfl, he, rfl⟩⟩
theorem lE1_some {a k : Nat} {r : Int32} (h : lE1 a k = some r) : k = a ∧ r = 1 := by
  unfold lE1 at h
  by_cases h1 : k = a
  · rw [if_pos h1] at h; exact ⟨h1, (Option.some.inj h).symm⟩
  · rw [if_neg h1] at h; cases h
theorem lE2_some {a b k : Nat} {r : Int32} (h : lE2 a b k = some r) : (k = a ∧ r = 1) ∨ (k = b ∧ r = 2) := by
  unfold lE2 at h
  by_cases h1 : k = a
  · rw [if_pos h1] at h; exact Or.inl ⟨h1, (Option.some.inj h).symm⟩
  · rw [if_neg h1] at h
    by_cases h2 : k = b
    · rw [if_pos h2] at h; exact Or.inr ⟨h2, (Option.some.inj h).symm⟩
    · rw [if_neg h2] at h; cases h
theorem lE3_some {a b c k : Nat} {r : Int32} (h : lE3 a b c k = some r) : (k = a ∧ r = 1) ∨ (k = b ∧ r = 2) ∨ (k = c ∧ r = 3) := by
  unfold lE3 at h
  by_cases h1 : k = a
  · rw [if_pos h1] at h; exact Or.inl ⟨h1, (Option.some.inj h).symm⟩
  · rw [if_neg h1] at h
    rcases lE2_some (a := b) (b := c) (show lE2 b c k = some (r - 1) from by
      unfold lE2
      by_cases h2 : k = b
      · rw [if_pos h2] at h; rw [if_pos h2, ← Option.some.inj h]; rfl
      · rw [if_neg h2] at h; rw [if_neg h2]
        by_cases h3 : k = c
        · rw [if_pos h3] at h; rw [if_pos h3, ← Option.some.inj h]; rfl
        · rw [if_neg h3] at h; cases h) with ⟨h2, h3⟩ | ⟨h2, h3⟩
    · by_cases hb : k = b
      · rw [if_pos hb] at h; exact Or.inr (Or.inl ⟨hb, (Option.some.inj h).symm⟩)
      · exact absurd h2 hb
    · by_cases hb : k = b
      · rw [if_pos hb] at h; exact Or.inr (Or.inl ⟨hb, (Option.some.inj h).symm⟩)
      · rw [if_neg hb, if_pos h2] at h; exact Or.inr (Or.inr ⟨h2, (Option.some.inj h).symm⟩)
-- words
theorem lGood {w : Cond} (h : w ∈ wsT) : (w.onTables && w.keeps) = true ∨ ∃ ty, w = .arrayClass ty := good_of_word (List.all_eq_true.mp wsT_good w h)
theorem lGoodIn {ws : List Cond} (h : ∀ w ∈ ws, w ∈ wsT) : GoodIn wsT ws := fun w hw => ⟨h w hw, lGood (h w hw)⟩
/-- the class's method that a small one calls -/
def lFn (y : MethodName) (b : ByteArray) (nl : Nat) (ret : Option FieldType) (n index : Nat) : Prop :=
  Cond.methodLink RL index y ∈ wsT ∧ Cond.instanceMethod y ∈ wsT ∧ Cond.selects RX9 y y ∈ wsT ∧ Cond.code y b nl ret ∈ wsC ∧ y.cls = RX9 ∧ (y.cls ≠ "java/lang/invoke/MethodHandle" ∧ y.cls ≠ "java/lang/invoke/VarHandle" ∧ (parseMethodDescriptor y.desc).map (fun d => d.parameters.length) = some n) ∧ nl ≤ 21
theorem lX9_ini : Cond.initialized RX9 ∈ wsT := kT_C _ kC_475
theorem lX10_ini : Cond.initialized RX10 ∈ wsT := kT_M _ kM_68
def lI (k : Nat) : Nat := if k = 1 then 19 else if k = 2 then 28 else 13
theorem lLink {k : Nat} (hk : k = 1 ∨ k = 2 ∨ k = 3) : Cond.classLink RL (lI k) (xN k) ∈ wsT := by
  rcases hk with rfl | rfl | rfl
  · exact kT_1
  · exact kT_8
  · exact kT_2
theorem lI_pos {k : Nat} : lI k ≠ 0 := by
  unfold lI
  by_cases h1 : k = 1
  · rw [if_pos h1]; decide
  · rw [if_neg h1]
    by_cases h2 : k = 2
    · rw [if_pos h2]; decide
    · rw [if_neg h2]; decide
-- the frame
theorem nA_kAt {g : kG} {S : kS} {sz q : Nat} (h : nA (kW g S) sz q) : kAt g (kn S) (km S) (kp S) sz q := by
  rcases h with ⟨x, hx, rfl⟩ | h
  · obtain ⟨k, hk⟩ := List.getElem?_of_mem hx
    exact Or.inl (kAt_in hk)
  · exact Or.inr h
theorem kAt_nA {g : kG} {S : kS} {sz q : Nat} (h : kAt g (kn S) (km S) (kp S) sz q) : nA (kW g S) sz q := by
  rcases h with h | h
  · rw [← kW_adr] at h
    obtain ⟨x, hx, rfl⟩ := List.mem_map.mp h
    exact Or.inl ⟨x, hx, rfl⟩
  · exact Or.inr h
theorem lD_self {A : Nat → Prop} {g : kG} {S : kS} {o : Nat} {F : Nat → Int64} (sz : Nat) (hD : va_D A (lW g o F S)) : va_D (lFr g (kn S) (km S) (kp S) sz o) (lW g o F S) := by
  rw [va_D_iff] at hD ⊢
  refine ⟨hD.1, fun x hx => ?_⟩
  rcases List.mem_append.mp hx with h | h
  · rw [List.mem_singleton] at h
    subst h
    exact Or.inl rfl
  · obtain ⟨k, hk⟩ := List.getElem?_of_mem h
    exact Or.inr (Or.inl (kAt_in hk))
theorem lD_right {A : Nat → Prop} {ws ws' : va_W} (hD : va_D A (ws ++ ws')) : va_D A ws' := by
  rw [va_D_iff] at hD ⊢
  rw [List.map_append, List.nodup_append] at hD
  exact ⟨hD.1.2.1, fun x hx => hD.2 x (List.mem_append_right _ hx)⟩
theorem lBlind {av : List Value} {dC : Nat → ClassId} {dI : Nat → Nat → Nat} {g : kG} {sz : Nat} {S : kS} {o : Nat} {F : Nat → Int64} : FrameBlind (va_Pc av (lPre dC dI g sz S o F)) := fun a2 U gg mk q => by
  obtain ⟨q0, ⟨q1, qP, qK, qD⟩, ⟨qE, qL⟩, qN⟩ := q
  exact ⟨q0, ⟨q1, qP, va_K.moved (u := U) (U := U.calling gg mk a2) (Vm.Alike.refl U.vm) qK, qD⟩, ⟨qE.same (U := U.calling gg mk a2) rfl, qL.to (U := U.calling gg mk a2) (Vm.Alike.refl U.vm) (fun _ _ _ => rfl) (fun _ h => h)⟩, qN.moved (U := U.calling gg mk a2) (Vm.Alike.refl U.vm)⟩
section LW
variable {p : Program} {l : Launch} {e : Env} {R : Room} {s : State} {m : MethodId} {args : Array Value} {below : List Frame} {meth : Method} {c : Code} {H : Heap} {locs : List Loc} {cells slots : Nat} {Q : State → Prop}
variable {cc : ByteArray} {nL : Nat} {ls : Array Slot} {rest : List Value} {dC : Nat → ClassId} {dI : Nat → Nat → Nat} {g : kG} {sz o : Nat} {S S' : kS} {F F' : Nat → Int64}
/-- a small method that is walked -/
def lX (p : Program) (s : State) (m : MethodId) (meth : Method) (c : Code) (cc : ByteArray) (nL : Nat) (args : Array Value) (dC : Nat → ClassId) (dI : Nat → Nat → Nat) (g : kG) (sz : Nat) (S : kS) (o : Nat) (F : Nat → Int64) : Prop :=
  p.tables.exec = Jvm.exec ∧ c.code = cc ∧ c.maxLocals = nL ∧ s.vm.findClass RL = some m.cls ∧ (∀ w ∈ wsT, w.before args s = true) ∧ meth.locks = false ∧ meth.sig.returnType = some .int ∧ lPre dC dI g sz S o F s
def lV (dC : Nat → ClassId) (dI : Nat → Nat → Nat) (g : kG) (sz : Nat) (S : kS) (o : Nat) (F : Nat → Int64) (S' : kS) (cc cd : Nat → Nat) (ce : Nat) (s : State) (H : Heap) (locs : List Loc) : Prop :=
  kGc g cc ce S S' ∧ va_P (dC, dI) vwCl (lW (g.1, g.2.1, cc, cd, ce) o F S') H ∧ va_D (lFr g (kn S) (km S) (kp S) sz o) (lW (g.1, g.2.1, cc, cd, ce) o F S') ∧ va_S (lFr g (kn S) (km S) (kp S) sz o) s.heap H locs
theorem l_call {y : MethodName} {b : ByteArray} {nl n index d d2 mc ms : Nat} {ret : Option FieldType} {As : List Value} {f : kS → Option ((Int32 ⊕ Nat) × kS)} {w : Int32 ⊕ Nat} {st0 : List Value}
    (X : lX p s m meth c cc nL args dC dI g sz S o F) (Fn : lFn y b nl ret n index) (hM : kMx l y b nl ret d2 mc ms (fun g => .ref (g.2.1 0) :: As) rI f) (hd : d2 + 1 ≤ d) (hR : d ≤ R.frames ∧ 40 * d ≤ R.locals) (pc : Nat) (hdg : decode cc pc = .ok (.invokevirtual index, 3)) (hn : As.length = n) (hsz : ls.size = nL) (hcs : mc ≤ R.cells ∧ ms ≤ R.slots)
    (hf : f S = some (w, S')) (hst : st0 = As.reverse ++ .ref (g.2.1 0) :: rest) (hW : (rest.map fun v => v.category).sum ≤ 8)
    (hret : ∀ v : Int32, w = .inl v → ∀ (cc2 cd2 : Nat → Nat) (ce2 : Nat) (H1 : Heap) (locs1 : List Loc), lV dC dI g sz S o F S' cc2 cd2 ce2 s H1 locs1 → W p l e R s m args below meth c H1 locs1 mc ms Q (F0 m (pc + 3) ls (.int v :: rest)))
    (hthr : ∀ k : Nat, w = .inr k → ∀ (cc2 cd2 : Nat → Nat) (ce2 : Nat) (H1 : Heap) (locs1 : List Loc) (q : Addr) (ce9 : Cell), lV dC dI g sz S o F S' cc2 cd2 ce2 s H1 locs1 → H1[q]? = some ce9 → ce9.vm = .none → s.vm.findClass (xN k) = some ce9.cls → vx_W p l e R s m args below meth c H1 locs1 mc ms Q (F0 m pc ls rest) q) :
    W p l e R s m args below meth c s.heap [] 0 0 Q (F0 m pc ls st0) := by
  obtain ⟨h1, h2, h3, h4, h5, h6, h7, ⟨hs, hP, hK, hD⟩, ⟨hE, hL⟩, hN⟩ := X
  obtain ⟨x1, x2, x3, x4, x5, x6, x7⟩ := Fn
  have hPk : va_P (dC, dI) vwCl (kW g S) s.heap := va_P_right hP
  have hDk : va_D (fun _ => True) (kW g S) := lD_right hD
  have hDf := lD_self sz hD
  have hAf : ∀ q, kAt g (kn S) (km S) (kp S) s.heap.size q → lFr g (kn S) (km S) (kp S) sz o q := fun q h => Or.inr (by rw [← hs]; exact h)
  have hkeep : ∀ (H1 : Heap), (∀ q : Nat, q < s.heap.size → ¬ kAt g (kn S) (km S) (kp S) s.heap.size q → H1[q]? = s.heap[q]?) → ∀ (cc2 cd2 : Nat → Nat) (ce2 : Nat), va_P (dC, dI) vwCl (kW (g.1, g.2.1, cc2, cd2, ce2) S') H1 → va_D (kAt g (kn S) (km S) (kp S) s.heap.size) (kW (g.1, g.2.1, cc2, cd2, ce2) S') → va_P (dC, dI) vwCl (lW (g.1, g.2.1, cc2, cd2, ce2) o F S') H1 ∧ va_D (lFr g (kn S) (km S) (kp S) sz o) (lW (g.1, g.2.1, cc2, cd2, ce2) o F S') := fun H1 hk cc2 cd2 ce2 hP1 hD1 =>
    ⟨va_P_app (va_P_frame hP hD (fun q hq hn => hk q hq (fun h => hn (kAt_nA h)))) hP1, va_D_app (n := s.heap.size) hDf (va_P_lt (va_P_left hP)) (hD1.weaken (fun _ _ _ h => kAt_nA h)) (fun q h => hAf q (nA_kAt h))⟩
  have hAx : ∀ q, kAt g (kn S) (km S) (kp S) s.heap.size q → lFr g (kn S) (km S) (kp S) sz o q := hAf
  intro T hT X9
  rcases (vx_runV (Ts := wsT) (own := RL) (C := y.cls) (As := As) (rest := rest) ⟨h1, h2, h3, h4, h5⟩ (hM dC dI g s.heap.size S w S' hf) ⟨callB_of n h5 (lGoodIn (fun w hw => by
      rcases List.mem_cons.mp hw with rfl | hw
      · exact kT_C _ x4
      · exact kT_C _ hw)) rfl rfl rfl (by rw [x5]; exact h5 _ lX9_ini) (h5 _ x1) x6 (xRoom hR hd x7), h5 _ x2, by rw [x5]; rw [x5] at *; exact h5 _ x3⟩ ⟨xBlind, (by rw [x5]; exact va_recv hK hPk kCl_9.1 (q0 := 0) rfl), fun U hU hW2 => ⟨rfl, ⟨by rw [hU], by rw [hU]; exact hPk, va_K.moved hW2.alike hK, hDk⟩, by rw [hU]; exact hE.to hW2 (fun _ _ _ => rfl) hAx, by rw [hU]; exact hL.to hW2.alike (fun _ _ _ => rfl) hAx⟩⟩ rfl hn hsz hst (lv_room hW) hdg ⟨by rw [Nat.zero_add]; exact hcs.1, by rw [Nat.zero_add]; exact hcs.2⟩) T hT X9 with ⟨v, st₀, t, T', L, h0, X', hL9, e1, e2, ⟨⟨v9, cc2, cd2, ce2, hw, hv, hg2, hP2, hD2⟩, hF⟩, st⟩ | ⟨q, st₀, t, T', L, E, ce, h0, X', hL9, e1, e2, ⟨⟨k9, hw, hE9, cc2, cd2, ce2, hg2, hP2, hD2⟩, hF⟩, hce, hcv, hcl, st⟩
  · cases hv
    obtain ⟨k1, k2, k3⟩ := vx_keep (A0 := lFr g (kn S) (km S) (kp S) sz o) (H0 := s.heap) (locs := []) h0 e1 va_S.rf (fun q _ h => hAf q h) hAf hL9 hF
    obtain ⟨hP3, hD3⟩ := hkeep T'.heap k2 cc2 cd2 ce2 (by rw [e1]; exact hP2) hD2
    rw [Nat.zero_add, Nat.zero_add] at X'
    obtain ⟨t2, a1, b1⟩ := hret v9 hw cc2 cd2 ce2 T'.heap ([] ++ L) ⟨hg2, hP3, hD3, k3⟩ T' rfl X'
    exact ⟨t2, st t2 a1, b1⟩
  · obtain ⟨k1, k2, k3⟩ := vx_keep (A0 := lFr g (kn S) (km S) (kp S) sz o) (H0 := s.heap) (locs := []) h0 e1 va_S.rf (fun q _ h => hAf q h) hAf hL9 hF
    obtain ⟨hP3, hD3⟩ := hkeep T'.heap k2 cc2 cd2 ce2 (by rw [e1]; exact hP2) hD2
    rw [Nat.zero_add, Nat.zero_add] at X'
    subst hE9
    obtain ⟨t2, a1, b1⟩ := hthr k9 hw cc2 cd2 ce2 T'.heap ([] ++ L) q ce ⟨hg2, hP3, hD3, k3⟩ (by rw [e1]; exact hce) hcv hcl T' rfl X'
    exact ⟨t2, st.trans a1, b1⟩
/-- the end of a small method -/
theorem l_ret {cc2 cd2 : Nat → Nat} {ce2 mc ms : Nat} {r : Int32} (X : lX p s m meth c cc nL args dC dI g sz S o F) (V : lV dC dI g sz S o F' S' cc2 cd2 ce2 s H locs) (pc : Nat) (hdg : decode cc pc = .ok (.ireturn, 1)) :
    W p l e R s m args below meth c H locs mc ms (MQ below (lQ dC dI g sz S S' o F' r) args s mc ms (lFr g (kn S) (km S) (kp S) sz o)) (F0 m pc ls [.int r]) :=
  W.iret X.1 X.2.1 X.2.2.2.2.2.2.1 (fun t ht hW => ⟨⟨rfl, cc2, cd2, ce2, V.1, by rw [ht]; exact V.2.1, V.2.2.1⟩, V.2.2.2.F ht⟩) V.2.2.2.2.2 hdg X.2.2.2.2.2.1
/-- behind the call: the answer goes into the row, 0 is answered -/
theorem l_tail {cc2 cd2 : Nat → Nat} {ce2 mc ms : Nat} {x : Int64} {off : Int} {tgt : Nat} (X : lX p s m meth c cc nL args dC dI g sz S o F) (V : lV dC dI g sz S o F S' cc2 cd2 ce2 s H locs) (pc : Nat) (d1 : decode cc pc = .ok (.lastore, 1)) (d2 : decode cc (pc + 1) = .ok (.goto off, 3)) (ht : ((pc + 1 : Nat) : Int) + off = (tgt : Int)) (d3 : decode cc tgt = .ok (.iconst 0, 1)) (d4 : decode cc (tgt + 1) = .ok (.ireturn, 1)) :
    W p l e R s m args below meth c H locs mc ms (MQ below (lQ dC dI g sz S S' o (vp_updL F 0 x) 0) args s mc ms (lFr g (kn S) (km S) (kp S) sz o)) (F0 m pc ls [.long x, .int 0, .ref o]) := by
  have hK : va_K (dC, dI) vwCl (kTy (g.1, g.2.1, cc2, cd2, ce2)) s := X.2.2.2.2.2.2.2.1.2.2.1
  refine va_last X.1 X.2.1 hK V.2.1 V.2.2.1 V.2.2.2 0 1 rfl rfl (i := 0) (by unfold vp_in; decide) d1 (fun H1 locs1 hP hD hS => ?_)
  refine lv_goto (tgt := tgt) X.1 X.2.1 d2 ht ?_
  refine lv_iconst (v := (0 : Int32)) X.1 X.2.1 d3 rfl ?_
  exact l_ret X ⟨V.1, hP, hD, hS⟩ (tgt + 1) d4
/-- an exception that the k th row catches -/
theorem l_catch {cc2 cd2 : Nat → Nat} {ce2 mc ms pc k : Nat} {q : Addr} {ce9 : Cell} {hh pre suf : List (Nat × Nat × Nat × Nat)} {h a b : Nat} (X : lX p s m meth c cc nL args dC dI g sz S o F) (V : lV dC dI g sz S o F' S' cc2 cd2 ce2 s H locs) (htb : c.exceptionTable.toList = tableOf hh) (hk : k = 1 ∨ k = 2 ∨ k = 3) (hsp : hh = pre ++ (a, b, h, lI k) :: suf)
    (hpre : ∀ z ∈ pre, ∃ j, (j = 1 ∨ j = 2 ∨ j = 3) ∧ j ≠ k ∧ z.2.2.2 = lI j) (hcov : a ≤ pc ∧ pc < b) (hcell : H[q]? = some ce9) (hv : ce9.vm = .none) (hcl : s.vm.findClass (xN k) = some ce9.cls)
    (kk : W p l e R s m args below meth c H locs mc ms Q (F0 m h ls [.ref q])) : vx_W p l e R s m args below meth c H locs mc ms Q (F0 m pc ls rest) q := by
  obtain ⟨h1, h2, h3, h4, h5, h6, h7, h8, ⟨hE, hL⟩, hN⟩ := X
  refine vx_catch (own := RL) (name := xN k) (E := xN k) h4 (tableOf pre) ⟨a, b, h, lI k⟩ (tableOf suf) (by rw [htb, hsp]; simp [tableOf]) (fun z hz => ?_) (by simp [covers]; omega) lI_pos (h5 _ (lLink hk)) (va_Nw.use rfl (hE.1.2.1 k)) hcell hv hcl kk
  unfold tableOf at hz
  obtain ⟨x, hx, rfl⟩ := List.mem_map.mp hz
  obtain ⟨j, hj, hjk, e⟩ := hpre x hx
  refine Or.inr ⟨?_, xN j, ?_, hN k j hk hj (fun h => hjk h.symm)⟩
  · show x.2.2.2 ≠ 0
    rw [e]; exact lI_pos
  · show (Cond.classLink RL x.2.2.2 (xN j)).before args s = true
    rw [e]; exact h5 _ (lLink hj)
end LW
theorem l_ofWH {l : Launch} {y : MethodName} {ws ws' : List Cond} {rm : Room} {Pc : Array Value → State → Prop} {Qc : Array Value → State → Outcome → State → Prop} {mc ms : Nat} {free : Addr → Prop} {cc : ByteArray} {maxL : Nat} {ret : Option FieldType} {hh : List (Nat × Nat × Nat × Nat)}
    (hy : plainName y.cls = true) (hw : ws = Cond.codeWith y cc maxL ret hh :: ws')
    (body : ∀ p e s m args below meth c s₁, BodyLoose p l y (headSpec ws rm) cc maxL ret e s m args below meth c s₁ → c.maxLocals = maxL → Pc args s →
      W p l e (headSpec ws rm).room s m args below meth c s.heap [] 0 0 (MQ below Qc args s mc ms free) (entryFrame m args maxL)) : Met l y ws rm Pc Qc mc ms free := by
  refine MetFree.of_bodyS (code := cc) (maxLocals := maxL) (ret := ret) hy ?_ ?_
  · intro args s m h hn
    obtain ⟨m9, meth, c, hn9, h1, h2, h3, h4, -, h5, h6, -⟩ := Cond.codeWith_spec (atoms_spec (ws := ws) h _ (by rw [hw]; exact List.mem_cons_self))
    cases hn.symm.trans hn9
    exact ⟨meth, c, h1, h2, h3, h4, h5, h6⟩
  · intro p e s m args below meth c s₁ B hml hP _
    have hh0 : s₁.heap = s.heap := by rw [B.state]; rfl
    obtain ⟨t, a1, o, b1, b2, b3⟩ := body p e s m args below meth c s₁ B hml hP s₁ hh0 (Stand.of_body B)
    exact ⟨t, o, a1, b1, b2, ⟨b3.1, b3.2⟩⟩
theorem l_start {l : Launch} {y : MethodName} {b : ByteArray} {nl : Nat} {hh : List (Nat × Nat × Nat × Nat)} {d mc ms : Nat} {As : List Value} {f : kS → (Nat → Int64) → Option (Int32 × kS × (Nat → Int64))} (hy : plainName y.cls = true) (hyc : y.cls = RL) (lv : kG → Nat → List (Nat × Value)) (hn : ∀ (g : kG) (o : Nat), (lg_sl (.ref (g.2.1 0) :: (As ++ [.ref o]))).length ≤ nl) (hlv : ∀ (g : kG) (o : Nat), lv_args 0 (.ref (g.2.1 0) :: (As ++ [.ref o])) = lv g o)
    (body : ∀ (dC : Nat → ClassId) (dI : Nat → Nat → Nat) (g : kG) (sz : Nat) (S : kS) (o : Nat) (F : Nat → Int64) (r : Int32) (S' : kS) (F' : Nat → Int64), f S F = some (r, S', F') → ∀ (p : Program) (e : Env) (s : State) (m : MethodId) (args : Array Value) (below : List Frame) (meth : Method) (c : Code), lX p s m meth c b nl args dC dI g sz S o F → c.exceptionTable.toList = tableOf hh → ∀ ls : Array Slot, lv_has ls nl (lv g o) →
      W p l e (xRm d mc ms) s m args below meth c s.heap [] 0 0 (MQ below (lQ dC dI g sz S S' o F' r) args s mc ms (lFr g (kn S) (km S) (kp S) sz o)) (F0 m 0 ls [])) : lMet l y b nl hh d mc ms As f := by
  intro dC dI g sz S o F r S' F' hf
  refine l_ofWH (cc := b) (maxL := nl) (ret := some .int) (hh := hh) hy rfl ?_
  intro p e s m args below meth c s₁ B hml hv
  obtain ⟨rfl, hv⟩ := hv
  have hts := atoms_spec B.pre
  have hown : s.vm.findClass RL = some m.cls := by rw [← hyc]; exact findClass_of_methodNamed B.named
  have htb := vx_table (x := y) B (hts _ List.mem_cons_self)
  have hlv0 := lv_entry (.ref (g.2.1 0) :: (As ++ [.ref o])) (n := nl) (hn g o)
  rw [lg_entry_eq]
  rw [hlv g o] at hlv0
  exact body dC dI g sz S o F r S' F' hf p e s m _ below meth c ⟨B.exec, B.bytes, hml, hown, fun w hw => hts w (List.mem_cons_of_mem _ hw), B.notSynchronized, B.returns, hv⟩ htb _ hlv0
