-- THE LAW: the class, the reference, the law's row of one long
abbrev gZ : Type := kS × mS × (Nat → Int64)
def gTy (gA : Nat → ClassId) (cZ : ClassId) : List (ClassId × FieldType) := [(gA 0, .int), (gA 1, .long), (gA 2, .object "MasterTree$Master"), (gA 3, .object "java/lang/Object"), (cZ, .boolean)]
def gW (g : kG) (h : Nat) (cZ : ClassId) (a : Nat → Nat) (o : Nat) (Z : gZ) : va_W := mW h (g.1 0) cZ a Z.2.1 ++ lW g o Z.2.2 Z.1
def gX (p : Program) (s : State) (m : MethodId) (meth : Method) (c : Code) (b L : Nat) (xs : Nat → Int32) (dC : Nat → ClassId) (dI : Nat → Nat → Nat) (gA : Nat → ClassId) (cZ : ClassId) : Prop :=
  p.tables.exec = Jvm.exec ∧ c.code = code ∧ c.maxLocals = 7 ∧ s.vm.findClass RL = some m.cls ∧ (∀ w ∈ wsT, w.before #[Value.ref b] s = true) ∧ va_X b L xs s s.heap ∧ b < s.heap.size ∧ va_K (dC, dI) vwCl (gTy gA cZ) s ∧ kEx (fun q => s.heap.size ≤ q) s s.heap ∧ lNc s
def gV (dC : Nat → ClassId) (dI : Nat → Nat → Nat) (g : kG) (h : Nat) (cZ : ClassId) (a : Nat → Nat) (o : Nat) (s : State) (Z : gZ) (H : Heap) (locs : List Loc) : Prop :=
  va_P (dC, dI) vwCl (gW g h cZ a o Z) H ∧ va_D (fun q => s.heap.size ≤ q) (gW g h cZ a o Z) ∧ va_S (fun q => s.heap.size ≤ q) s.heap H locs ∧ kLg g.1 (kp Z.1) g.2.2.2.2 (fun q => s.heap.size ≤ q) s s.heap
theorem va_P_swap {D : va_G} {cl : List vw_C} {ws ws' : va_W} {H : Heap} (h : va_P D cl (ws ++ ws') H) : va_P D cl (ws' ++ ws) H := va_P_app (va_P_right h) (va_P_left h)
theorem va_D_swap {A : Nat → Prop} {ws ws' : va_W} (hD : va_D A (ws ++ ws')) : va_D A (ws' ++ ws) := by
  rw [va_D_iff] at hD ⊢
  rw [List.map_append, List.nodup_append] at hD ⊢
  refine ⟨⟨hD.1.2.1, hD.1.1, fun x hx y hy hxy => hD.1.2.2 y hy x hx hxy.symm⟩, fun x hx => hD.2 x ?_⟩
  rcases List.mem_append.mp hx with h | h
  · exact List.mem_append_right _ h
  · exact List.mem_append_left _ h
theorem lFr_nA {g : kG} {S : kS} {o sz q : Nat} {F : Nat → Int64} (h : lFr g (kn S) (km S) (kp S) sz o q) : nA (lW g o F S) sz q := by
  rcases h with h | h
  · exact Or.inl ⟨_, List.mem_append_left _ List.mem_cons_self, h.symm⟩
  · rcases kAt_nA h with ⟨x, hx, e⟩ | h
    · exact Or.inl ⟨x, List.mem_append_right _ hx, e⟩
    · exact Or.inr h
theorem nA_of_D {ws : va_W} {A : Nat → Prop} {n0 n : Nat} (hD : va_D A ws) (hA : ∀ q, n0 ≤ q → A q) (hz : n0 ≤ n) : ∀ q, nA ws n q → A q := fun q hq => by
  rcases hq with ⟨x, hx, rfl⟩ | hq
  · exact (va_D_iff.mp hD).2 x hx
  · exact hA q (Nat.le_trans hz hq)
theorem mAt_nA {h : Nat} {cI cZ : ClassId} {a : Nat → Nat} {S : mS} {sz q : Nat} (hq : mAt h cI cZ a sz q) : nA (mW h cI cZ a S) sz q := by
  rcases hq with ⟨k, e, hk⟩ | hq
  · obtain ⟨e1, h1⟩ := mW_at (S' := S) hk
    exact Or.inl ⟨_, List.mem_of_getElem? h1, rfl⟩
  · exact Or.inr hq
/-- a small method of the law's -/
def gFw (y : MethodName) (b : ByteArray) (nl : Nat) (hh : List (Nat × Nat × Nat × Nat)) (n index : Nat) : Prop :=
  Cond.methodLink RL index y ∈ wsT ∧ Cond.static y ∈ wsT ∧ Cond.codeWith y b nl (some .int) hh ∈ wsT ∧ y.cls = RL ∧ (y.cls ≠ "java/lang/invoke/MethodHandle" ∧ y.cls ≠ "java/lang/invoke/VarHandle" ∧ (parseMethodDescriptor y.desc).map (fun d => d.parameters.length) = some n) ∧ nl ≤ 21
/-- a method of the reference -/
def gFm (y : MethodName) (b : ByteArray) (nl : Nat) (ret : Option FieldType) (n index : Nat) : Prop :=
  Cond.methodLink RL index y ∈ wsT ∧ Cond.instanceMethod y ∈ wsT ∧ Cond.selects RX10 y y ∈ wsT ∧ Cond.code y b nl ret ∈ wsM ∧ y.cls = RX10 ∧ (y.cls ≠ "java/lang/invoke/MethodHandle" ∧ y.cls ≠ "java/lang/invoke/VarHandle" ∧ (parseMethodDescriptor y.desc).map (fun d => d.parameters.length) = some n) ∧ nl ≤ 21
theorem gRL_ini : Cond.initialized RL ∈ wsT := kT_153
section GW
variable {p : Program} {l : Launch} {e : Env} {s : State} {m : MethodId} {below : List Frame} {meth : Method} {c : Code} {H : Heap} {locs : List Loc} {cells slots : Nat} {Q : State → Prop}
variable {ls : Array Slot} {st0 rest : List Value} {dC : Nat → ClassId} {dI : Nat → Nat → Nat} {g : kG} {cZ : ClassId} {h o bb L : Nat} {a : Nat → Nat} {xs : Nat → Int32} {Z : gZ}
theorem g_callW {y : MethodName} {b : ByteArray} {nl n index d mc ms : Nat} {hh : List (Nat × Nat × Nat × Nat)} {As : List Value} {f : kS → (Nat → Int64) → Option (Int32 × kS × (Nat → Int64))} {r : Int32} {S' : kS} {F' : Nat → Int64}
    (X : gX p s m meth c bb L xs dC dI g.1 cZ) (V : gV dC dI g h cZ a o s Z H locs) (Fn : gFw y b nl hh n index) (hM : lMet l y b nl hh d mc ms As f) (hd : d ≤ 30) (pc : Nat) (hdg : decode code pc = .ok (.invokestatic index, 3)) (hn : As.length + 2 = n) (hsz : ls.size = 7)
    (hst : st0 = (Value.ref (g.2.1 0) :: (As ++ [.ref o])).reverse ++ rest) (hW : (rest.map fun v => v.category).sum ≤ 8) (hcs : cells + mc ≤ 601024 ∧ slots + ms ≤ 7293034) (hf : f Z.1 Z.2.2 = some (r, S', F'))
    (kk : ∀ (cc2 cd2 : Nat → Nat) (ce2 : Nat) (H1 : Heap) (locs1 : List Loc), gV dC dI (g.1, g.2.1, cc2, cd2, ce2) h cZ a o s (S', Z.2.1, F') H1 locs1 → W p l e room_1 s m #[Value.ref bb] below meth c H1 locs1 (cells + mc) (slots + ms) Q (F0 m (pc + 3) ls (.int r :: rest))) :
    W p l e room_1 s m #[Value.ref bb] below meth c H locs cells slots Q (F0 m pc ls st0) := by
  obtain ⟨h1, h2, h3, h4, h5, hX, hbl, hK, hE, hN⟩ := X
  obtain ⟨x1, x2, x3, x4, x5, x6⟩ := Fn
  obtain ⟨hP, hD, hS, hL⟩ := V
  have hPl : va_P (dC, dI) vwCl (lW g o Z.2.2 Z.1) H := va_P_right hP
  have hDl : va_D (fun q => s.heap.size ≤ q) (lW g o Z.2.2 Z.1) := lD_right hD
  have hsub : ∀ q, lFr g (kn Z.1) (km Z.1) (kp Z.1) H.size o q → s.heap.size ≤ q := fun q hq => nA_of_D hDl (fun _ h => h) hS.1 q (lFr_nA hq)
  have hKl : va_K (dC, dI) vwCl (kTy g) s := hK.sub [0, 1, 2, 3] rfl
  have hG : GoodIn wsT (va_wsS RL index y (Cond.codeWith y b nl (some .int) hh :: wsT)) := lGoodIn (fun w hw => by
    rcases List.mem_append.mp hw with hw | hw
    · simp only [List.mem_cons, List.not_mem_nil, or_false] at hw
      rcases hw with rfl | rfl | rfl
      · exact x1
      · exact x2
      · rw [x4]; exact gRL_ini
    · rcases List.mem_cons.mp hw with rfl | hw
      · exact x3
      · exact hw)
  intro T hT X9
  obtain ⟨v, st₀, t, T', L9, h0, X', hL9, e1, e2, ⟨⟨hv, cc2, cd2, ce2, hg2, hP2, hD2⟩, hF⟩, st⟩ := (vx_runSW (R := room_1) (Ts := wsT) (own := RL) (As := Value.ref (g.2.1 0) :: (As ++ [.ref o])) (rest := rest) ⟨h1, h2, h3, h4, h5⟩ (hM dC dI g H.size Z.1 o Z.2.2 r S' F' hf) (vx_cwSW n h5 hG rfl rfl rfl x5 (by
      show d + 1 ≤ 2048 ∧ 8 + (nl + 11) + 40 * d ≤ 84000
      omega)) ⟨lBlind, fun U hU hW2 => ⟨rfl, ⟨by rw [hU], by rw [hU]; exact hPl, va_K.moved hW2.alike hKl, hDl.weaken (fun _ _ _ _ => trivial)⟩, ⟨by rw [hU]; exact hE.to hW2 hS.2.1 hsub, by rw [hU]; exact hL.to hW2.alike hS.2.1 hsub⟩, hN.moved hW2.alike⟩⟩ rfl (by simp only [List.length_cons, List.length_append, List.length_nil]; omega) hsz hst (lv_room hW) hdg hcs) T hT X9
  cases hv
  obtain ⟨k1, k2, k3⟩ := vx_keep (A0 := fun q => s.heap.size ≤ q) (H0 := s.heap) (locs := locs) h0 e1 hS (fun q _ h => hsub q h) hsub hL9 hF
  have hP3 : va_P (dC, dI) vwCl (gW (g.1, g.2.1, cc2, cd2, ce2) h cZ a o (S', Z.2.1, F')) T'.heap := va_P_app (va_P_frame hP hD (fun q hq hn9 => k2 q hq (fun h9 => hn9 (lFr_nA h9)))) (by rw [e1]; exact hP2)
  have hD3 : va_D (fun q => s.heap.size ≤ q) (gW (g.1, g.2.1, cc2, cd2, ce2) h cZ a o (S', Z.2.1, F')) := va_D_app (n := H.size) hD (va_P_lt (va_P_left hP)) (hD2.weaken (fun _ _ _ h9 => lFr_nA h9)) (fun q hq => nA_of_D hDl (fun _ h => h) hS.1 q hq)
  obtain ⟨t2, a1, b1⟩ := kk cc2 cd2 ce2 T'.heap (locs ++ L9) ⟨hP3, hD3, k3, fun hz => by
    obtain ⟨z1, z2⟩ := hg2.2.2 hz
    show va_Z _ _ _ (.ref ce2) _ _ _ ∧ kMt ce2 _ _ ∧ _
    rw [z2]
    exact hL z1⟩ T' rfl X'
  exact ⟨t2, st t2 a1, b1⟩
theorem g_callM {y : MethodName} {b : ByteArray} {nl n index d : Nat} {rt : FieldType} {As : List Value} {f : mS → Option (Int32 × mS)} {r : Int32} {M' : mS}
    (X : gX p s m meth c bb L xs dC dI g.1 cZ) (V : gV dC dI g h cZ a o s Z H locs) (Fn : gFm y b nl (some rt) n index) (hM : mMet l y b nl rt d As f) (hd : d ≤ 30) (pc : Nat) (hdg : decode code pc = .ok (.invokevirtual index, 3)) (hn : As.length = n) (hsz : ls.size = 7)
    (hst : st0 = As.reverse ++ .ref h :: rest) (hW : (rest.map fun v => v.category).sum ≤ 8) (hcs : cells ≤ 601024 ∧ slots ≤ 7293034) (hf : f Z.2.1 = some (r, M'))
    (kk : ∀ (H1 : Heap) (locs1 : List Loc), gV dC dI g h cZ a o s (Z.1, M', Z.2.2) H1 locs1 → W p l e room_1 s m #[Value.ref bb] below meth c H1 locs1 cells slots Q (F0 m (pc + 3) ls (.int r :: rest))) :
    W p l e room_1 s m #[Value.ref bb] below meth c H locs cells slots Q (F0 m pc ls st0) := by
  obtain ⟨h1, h2, h3, h4, h5, hX, hbl, hK, hE, hN⟩ := X
  obtain ⟨x1, x2, x3, x4, x5, x6, x7⟩ := Fn
  obtain ⟨hP, hD, hS, hL⟩ := V
  have hPm : va_P (dC, dI) vwCl (mW h (g.1 0) cZ a Z.2.1) H := va_P_left hP
  have hDm : va_D (fun q => s.heap.size ≤ q) (mW h (g.1 0) cZ a Z.2.1) := lD_right (va_D_swap hD)
  have hsub : ∀ q, mAt h (g.1 0) cZ a H.size q → s.heap.size ≤ q := fun q hq => nA_of_D hDm (fun _ h => h) hS.1 q (mAt_nA hq)
  have hKm : va_K (dC, dI) vwCl [(g.1 0, .int), (cZ, .boolean)] s := hK.sub [0, 4] rfl
  have hG : GoodIn wsT (Cond.code y b nl (some rt) :: wsM) := lGoodIn (fun w hw => by
    rcases List.mem_cons.mp hw with rfl | hw
    · exact kT_M _ x4
    · exact kT_M _ hw)
  intro T hT X9
  obtain ⟨v, st₀, t, T', L9, h0, X', hL9, e1, e2, ⟨⟨r2, u, hv, ⟨hr2, hu⟩, hB⟩, hF⟩, st⟩ := (va_runV (R := room_1) (Ts := wsT) (own := RL) (C := y.cls) (As := As) (rest := rest) ⟨h1, h2, h3, h4, h5⟩ (hM dC dI h (g.1 0) cZ a H.size Z.2.1 r M' hf) ⟨callB_of n h5 hG rfl rfl rfl (by rw [x5]; exact h5 _ lX10_ini) (h5 _ x1) x6 (by
      show d + 1 ≤ 2048 ∧ 8 + (nl + 11) + 40 * d ≤ 84000
      omega), h5 _ x2, by rw [x5]; rw [x5] at *; exact h5 _ x3⟩ ⟨fun a2 U gg mk q => (by
      obtain ⟨q0, q1, qP, qK, qD⟩ := q
      exact ⟨q0, q1, qP, va_K.moved (u := U) (U := U.calling gg mk a2) (Vm.Alike.refl U.vm) qK, qD⟩), (by rw [x5]; exact va_recv hKm hPm (ci := 13) (q0 := 0) rfl rfl), fun U hU hW2 => ⟨rfl, by rw [hU], by rw [hU]; exact hPm, va_K.moved hW2.alike hKm, hDm.weaken (fun _ _ _ _ => trivial)⟩⟩ rfl hn hsz hst (lv_room hW) hdg ⟨by rw [Nat.add_zero]; exact hcs.1, by rw [Nat.add_zero]; exact hcs.2⟩) T hT X9
  cases hv
  subst hr2
  subst hu
  have hB : va_P (dC, dI) vwCl (mW h (g.1 0) cZ a u) t.heap := hB
  obtain ⟨k1, k2, k3⟩ := vx_keep (A0 := fun q => s.heap.size ≤ q) (H0 := s.heap) (locs := locs) h0 e1 hS (fun q _ h => hsub q h) hsub hL9 hF
  have hPs := va_P_swap hP
  have hDs := va_D_swap hD
  have hP3 : va_P (dC, dI) vwCl (gW g h cZ a o (Z.1, u, Z.2.2)) T'.heap := va_P_swap (va_P_app (va_P_frame hPs hDs (fun q hq hn9 => k2 q hq (fun h9 => hn9 (mAt_nA h9)))) (by rw [e1]; exact hB))
  have hD3 : va_D (fun q => s.heap.size ≤ q) (gW g h cZ a o (Z.1, u, Z.2.2)) := va_D_swap (va_D_app (n := H.size) hDs (va_P_lt (va_P_left hPs)) ((mD_self H.size (mD_to hDm)).weaken (fun _ _ _ h9 => mAt_nA h9)) (fun q hq => nA_of_D hDm (fun _ h => h) hS.1 q hq))
  rw [Nat.add_zero, Nat.add_zero] at X'
  obtain ⟨t2, a1, b1⟩ := kk T'.heap (locs ++ L9) ⟨hP3, hD3, k3, hL⟩ T' rfl X'
  exact ⟨t2, st t2 a1, b1⟩
theorem g_callX {y : MethodName} {b : ByteArray} {nl n index d : Nat} {rt : FieldType} {As : List Value} {f : kS → Option (Int32 × kS)} {r : Int32} {S' : kS}
    (X : gX p s m meth c bb L xs dC dI g.1 cZ) (V : gV dC dI g h cZ a o s Z H locs) (Fn : lFn y b nl (some rt) n index) (hM : kMet l y b nl (some rt) d (fun g => .ref (g.2.1 0) :: As) rI f) (hd : d ≤ 30) (pc : Nat) (hdg : decode code pc = .ok (.invokevirtual index, 3)) (hn : As.length = n) (hsz : ls.size = 7)
    (hst : st0 = As.reverse ++ .ref (g.2.1 0) :: rest) (hW : (rest.map fun v => v.category).sum ≤ 8) (hcs : cells ≤ 601024 ∧ slots ≤ 7293034) (hf : f Z.1 = some (r, S'))
    (kk : ∀ (H1 : Heap) (locs1 : List Loc), gV dC dI g h cZ a o s (S', Z.2.1, Z.2.2) H1 locs1 → W p l e room_1 s m #[Value.ref bb] below meth c H1 locs1 cells slots Q (F0 m (pc + 3) ls (.int r :: rest))) :
    W p l e room_1 s m #[Value.ref bb] below meth c H locs cells slots Q (F0 m pc ls st0) := by
  obtain ⟨h1, h2, h3, h4, h5, hX, hbl, hK, hE, hN⟩ := X
  obtain ⟨x1, x2, x3, x4, x5, x6, x7⟩ := Fn
  obtain ⟨hP, hD, hS, hL⟩ := V
  have hPl : va_P (dC, dI) vwCl (lW g o Z.2.2 Z.1) H := va_P_right hP
  have hPk : va_P (dC, dI) vwCl (kW g Z.1) H := va_P_right hPl
  have hDl : va_D (fun q => s.heap.size ≤ q) (lW g o Z.2.2 Z.1) := lD_right hD
  have hDk : va_D (fun q => s.heap.size ≤ q) (kW g Z.1) := lD_right hDl
  have hsub : ∀ q, kAt g (kn Z.1) (km Z.1) (kp Z.1) H.size q → s.heap.size ≤ q := fun q hq => nA_of_D hDk (fun _ h => h) hS.1 q (kAt_nA hq)
  have hKl : va_K (dC, dI) vwCl (kTy g) s := hK.sub [0, 1, 2, 3] rfl
  have hG : GoodIn wsT (Cond.code y b nl (some rt) :: wsC) := lGoodIn (fun w hw => by
    rcases List.mem_cons.mp hw with rfl | hw
    · exact kT_C _ x4
    · exact kT_C _ hw)
  intro T hT X9
  obtain ⟨v, st₀, t, T', L9, h0, X', hL9, e1, e2, ⟨⟨hv, hsm, hB⟩, hF⟩, st⟩ := (va_runV (R := room_1) (Ts := wsT) (own := RL) (C := y.cls) (As := As) (rest := rest) ⟨h1, h2, h3, h4, h5⟩ (hM dC dI g H.size Z.1 r S' hf) ⟨callB_of n h5 hG rfl rfl rfl (by rw [x5]; exact h5 _ lX9_ini) (h5 _ x1) x6 (by
      show d + 1 ≤ 2048 ∧ 8 + (nl + 11) + 40 * d ≤ 84000
      omega), h5 _ x2, by rw [x5]; rw [x5] at *; exact h5 _ x3⟩ ⟨fun a2 U gg mk q => (by
      obtain ⟨q0, q1, qP, qK, qD⟩ := q
      exact ⟨q0, q1, qP, va_K.moved (u := U) (U := U.calling gg mk a2) (Vm.Alike.refl U.vm) qK, qD⟩), (by rw [x5]; exact va_recv hKl hPk kCl_9.1 (q0 := 0) rfl), fun U hU hW2 => ⟨rfl, by rw [hU], by rw [hU]; exact hPk, va_K.moved hW2.alike hKl, hDk.weaken (fun _ _ _ _ => trivial)⟩⟩ rfl hn hsz hst (lv_room hW) hdg ⟨by rw [Nat.add_zero]; exact hcs.1, by rw [Nat.add_zero]; exact hcs.2⟩) T hT X9
  cases hv
  obtain ⟨k1, k2, k3⟩ := vx_keep (A0 := fun q => s.heap.size ≤ q) (H0 := s.heap) (locs := locs) h0 e1 hS (fun q _ h => hsub q h) hsub hL9 hF
  have hP0 : va_P (dC, dI) vwCl ((mW h (g.1 0) cZ a Z.2.1 ++ [(o, .inl (g.1 1, 1, .inr (.inl Z.2.2)))]) ++ kW g Z.1) H := by rw [List.append_assoc]; exact hP
  have hD0 : va_D (fun q => s.heap.size ≤ q) ((mW h (g.1 0) cZ a Z.2.1 ++ [(o, .inl (g.1 1, 1, .inr (.inl Z.2.2)))]) ++ kW g Z.1) := by rw [List.append_assoc]; exact hD
  have hP3 : va_P (dC, dI) vwCl (gW g h cZ a o (S', Z.2.1, Z.2.2)) T'.heap := by
    have q : va_P (dC, dI) vwCl ((mW h (g.1 0) cZ a Z.2.1 ++ [(o, .inl (g.1 1, 1, .inr (.inl Z.2.2)))]) ++ kW g S') T'.heap := va_P_app (va_P_frame hP0 hD0 (fun q hq hn9 => k2 q hq (fun h9 => hn9 (kAt_nA h9)))) (by rw [e1]; exact hB)
    rw [List.append_assoc] at q
    exact q
  have hD3 : va_D (fun q => s.heap.size ≤ q) (gW g h cZ a o (S', Z.2.1, Z.2.2)) := by
    have q : va_D (fun q => s.heap.size ≤ q) ((mW h (g.1 0) cZ a Z.2.1 ++ [(o, .inl (g.1 1, 1, .inr (.inl Z.2.2)))]) ++ kW g S') := va_D_app (n := H.size) hD0 (va_P_lt (va_P_left hP0)) ((kD_self H.size (kD_to hsm hDk)).weaken (fun _ _ _ h9 => by
      rw [hsm.1, hsm.2.1, hsm.2.2] at h9
      exact kAt_nA h9)) (fun q hq => nA_of_D hDk (fun _ h => h) hS.1 q hq)
    rw [List.append_assoc] at q
    exact q
  rw [Nat.add_zero, Nat.add_zero] at X'
  obtain ⟨t2, a1, b1⟩ := kk T'.heap (locs ++ L9) ⟨hP3, hD3, k3, fun hz => hL (hsm.2.2.symm.trans hz)⟩ T' rfl X'
  exact ⟨t2, st t2 a1, b1⟩
/-- an int of the script -/
theorem g_arg {lv : List (Nat × Value)} {k0 k4 i k : Nat} {n : Int} (X : gX p s m meth c bb L xs dC dI g.1 cZ) (V : gV dC dI g h cZ a o s Z H locs) (hl : lv_has ls 7 lv) (e0 : lv[k0]? = some (0, .ref bb)) (e4 : lv[k4]? = some (4, .int (nI i))) (hi : i + k < L) (hL : L ≤ 3584) (hn : Int32.ofInt n = nI k) (pc : Nat)
    (d0 : decode code pc = .ok (.aload_n 0, 1)) (d1 : decode code (pc + 1) = .ok (.iload 4, 2)) (d3 : decode code (pc + 3) = .ok (.iconst n, 1)) (d4 : decode code (pc + 4) = .ok (.iadd, 1)) (d5 : decode code (pc + 5) = .ok (.iaload, 1))
    (kk : W p l e room_1 s m #[Value.ref bb] below meth c H locs cells slots Q (F0 m (pc + 6) ls (.int (xs (i + k)) :: rest))) : W p l e room_1 s m #[Value.ref bb] below meth c H locs cells slots Q (F0 m pc ls rest) := by
  refine lv_aload_n X.1 X.2.1 d0 rfl (lv_at hl k0 e0) ?_
  refine lv_iload X.1 X.2.1 d1 (lv_at hl k4 e4) ?_
  refine lv_iconst (v := nI k) X.1 X.2.1 d3 hn ?_
  refine lv_iadd X.1 X.2.1 d4 ?_
  rw [nI_add]
  refine va_sld X.1 X.2.1 X.2.2.2.2.2.1 X.2.2.2.2.2.2.1 (A := fun q => s.heap.size ≤ q) (Nat.not_le.mpr X.2.2.2.2.2.2.1) V.2.2.1 (vp_in_nI hi (by omega)) d5 ?_
  rw [nI_clamp (by omega)]
  exact kk
theorem g_arg6 {lv : List (Nat × Value)} {k0 k4 i k : Nat} {n : Int} (X : gX p s m meth c bb L xs dC dI g.1 cZ) (V : gV dC dI g h cZ a o s Z H locs) (hl : lv_has ls 7 lv) (e0 : lv[k0]? = some (0, .ref bb)) (e4 : lv[k4]? = some (4, .int (nI i))) (hi : i + k < L) (hL : L ≤ 3584) (hn : (Int8.ofInt n).toInt32 = nI k) (pc : Nat)
    (d0 : decode code pc = .ok (.aload_n 0, 1)) (d1 : decode code (pc + 1) = .ok (.iload 4, 2)) (d3 : decode code (pc + 3) = .ok (.bipush n, 2)) (d4 : decode code (pc + 5) = .ok (.iadd, 1)) (d5 : decode code (pc + 6) = .ok (.iaload, 1))
    (kk : W p l e room_1 s m #[Value.ref bb] below meth c H locs cells slots Q (F0 m (pc + 7) ls (.int (xs (i + k)) :: rest))) : W p l e room_1 s m #[Value.ref bb] below meth c H locs cells slots Q (F0 m pc ls rest) := by
  refine lv_aload_n X.1 X.2.1 d0 rfl (lv_at hl k0 e0) ?_
  refine lv_iload X.1 X.2.1 d1 (lv_at hl k4 e4) ?_
  refine lv_bipush (v := nI k) X.1 X.2.1 d3 hn ?_
  refine lv_iadd X.1 X.2.1 d4 ?_
  rw [nI_add]
  refine va_sld X.1 X.2.1 X.2.2.2.2.2.1 X.2.2.2.2.2.2.1 (A := fun q => s.heap.size ≤ q) (Nat.not_le.mpr X.2.2.2.2.2.2.1) V.2.2.1 (vp_in_nI hi (by omega)) d5 ?_
  rw [nI_clamp (by omega)]
  exact kk
/-- an int that stands for a truth value -/
def gB (x : Int32) : Int32 := if x = 0 then 0 else 1
theorem g_bool {x : Int32} (X : gX p s m meth c bb L xs dC dI g.1 cZ) (pc : Nat) (d0 : decode code pc = .ok (.ifCond .eq 7, 3)) (d3 : decode code (pc + 3) = .ok (.iconst 1, 1)) (d4 : decode code (pc + 4) = .ok (.goto 4, 3)) (d7 : decode code (pc + 7) = .ok (.iconst 0, 1))
    (kk : W p l e room_1 s m #[Value.ref bb] below meth c H locs cells slots Q (F0 m (pc + 8) ls (.int (gB x) :: rest))) : W p l e room_1 s m #[Value.ref bb] below meth c H locs cells slots Q (F0 m pc ls (.int x :: rest)) := by
  refine lv_if_eq (tgt := pc + 7) X.1 X.2.1 d0 (by omega) (fun hz => ?_) (fun hz => ?_)
  · refine lv_iconst (v := (0 : Int32)) X.1 X.2.1 d7 rfl ?_
    unfold gB at kk
    rw [if_pos hz] at kk
    exact kk
  · refine lv_iconst (v := (1 : Int32)) X.1 X.2.1 d3 rfl ?_
    refine lv_goto (tgt := pc + 8) X.1 X.2.1 d4 (by omega) ?_
    unfold gB at kk
    rw [if_neg hz] at kk
    exact kk
end GW
-- the pictures of the law's comparisons
def gCmp (zb : Int32 → Int64) (A : Option (Int32 × kS × (Nat → Int64))) (B : Option (Int32 × mS)) : Option gZ := match A with
  | none => none
  | some (k, S', F') => match B with
    | none => none
    | some (b, M') => if M'.1 0 = k ∧ (k = 0 → F' 0 = zb b) then some (S', M', F') else none
theorem gCmp_some {zb : Int32 → Int64} {A : Option (Int32 × kS × (Nat → Int64))} {B : Option (Int32 × mS)} {Z' : gZ} (h : gCmp zb A B = some Z') : ∃ k b, A = some (k, Z'.1, Z'.2.2) ∧ B = some (b, Z'.2.1) ∧ Z'.2.1.1 0 = k ∧ (k = 0 → Z'.2.2 0 = zb b) := by
  match A, h with
  | some (k, S', F'), h =>
    match B, h with
    | some (b, M'), h =>
      unfold gCmp at h
      by_cases hc : M'.1 0 = k ∧ (k = 0 → F' 0 = zb b)
      · simp only at h
        rw [if_pos hc] at h
        cases h
        exact ⟨k, b, rfl, rfl, hc.1, hc.2⟩
      · simp only at h
        rw [if_neg hc] at h
        cases h
def gCmp2 (A : Option (Int32 × kS)) (B : Option (Int32 × mS)) (F : Nat → Int64) : Option gZ := match A with
  | none => none
  | some (k, S') => match B with
    | none => none
    | some (b, M') => if k = b then some (S', M', F) else none
theorem gCmp2_some {A : Option (Int32 × kS)} {B : Option (Int32 × mS)} {F : Nat → Int64} {Z' : gZ} (h : gCmp2 A B F = some Z') : ∃ b, A = some (b, Z'.1) ∧ B = some (b, Z'.2.1) ∧ Z'.2.2 = F := by
  match A, h with
  | some (k, S'), h =>
    match B, h with
    | some (b, M'), h =>
      unfold gCmp2 at h
      by_cases hc : k = b
      · simp only at h
        rw [if_pos hc] at h
        cases h
        exact ⟨b, by rw [hc], rfl, rfl⟩
      · simp only at h
        rw [if_neg hc] at h
        cases h
theorem fG_thrown : gFm yX10_thrown cX10_thrown 1 (some .int) 0 149 := ⟨kT_160, kT_161, kT_162, kM_61, rfl, ⟨by decide +kernel, by decide +kernel, by decide +kernel⟩, by decide⟩
section GT
variable {p : Program} {l : Launch} {e : Env} {s : State} {m : MethodId} {below : List Frame} {meth : Method} {c : Code} {H : Heap} {locs : List Loc} {cells slots : Nat} {Q : State → Prop}
variable {ls : Array Slot} {st0 rest : List Value} {dC : Nat → ClassId} {dI : Nat → Nat → Nat} {g : kG} {cZ : ClassId} {h o bb L : Nat} {a : Nat → Nat} {xs : Nat → Int32} {Z : gZ}
/-- the decode rows of a case's end, from 'istore 6' on -/
def gRow (q : Nat) (off : Int) : Prop := decode code q = .ok (.istore 6, 2) ∧ decode code (q + 2) = .ok (.aload_n 2, 1) ∧ decode code (q + 3) = .ok (.invokevirtual 149, 3) ∧ decode code (q + 6) = .ok (.iload 5, 2) ∧ decode code (q + 8) = .ok (.if_icmp .eq 5, 3) ∧ decode code (q + 13) = .ok (.iload 5, 2) ∧ decode code (q + 15) = .ok (.ifCond .ne 15, 3) ∧ decode code (q + 18) = .ok (.aload_n 3, 1) ∧ decode code (q + 19) = .ok (.iconst 0, 1) ∧ decode code (q + 20) = .ok (.laload, 1) ∧ decode code (q + 21) = .ok (.iload 6, 2) ∧ decode code (q + 23) = .ok (.i2l, 1) ∧ decode code (q + 24) = .ok (.lcmp, 1) ∧ decode code (q + 25) = .ok (.ifCond .eq 5, 3) ∧ decode code (q + 30) = .ok (.goto off, 3)
def gRowZ (q : Nat) (off : Int) : Prop := decode code q = .ok (.istore 6, 2) ∧ decode code (q + 2) = .ok (.aload_n 2, 1) ∧ decode code (q + 3) = .ok (.invokevirtual 149, 3) ∧ decode code (q + 6) = .ok (.iload 5, 2) ∧ decode code (q + 8) = .ok (.if_icmp .eq 5, 3) ∧ decode code (q + 13) = .ok (.iload 5, 2) ∧ decode code (q + 15) = .ok (.ifCond .ne 22, 3) ∧ decode code (q + 18) = .ok (.aload_n 3, 1) ∧ decode code (q + 19) = .ok (.iconst 0, 1) ∧ decode code (q + 20) = .ok (.laload, 1) ∧ decode code (q + 21) = .ok (.iload 6, 2) ∧ decode code (q + 23) = .ok (.ifCond .eq 7, 3) ∧ decode code (q + 26) = .ok (.lconst 1, 1) ∧ decode code (q + 27) = .ok (.goto 4, 3) ∧ decode code (q + 30) = .ok (.lconst 0, 1) ∧ decode code (q + 31) = .ok (.lcmp, 1) ∧ decode code (q + 32) = .ok (.ifCond .eq 5, 3) ∧ decode code (q + 37) = .ok (.goto off, 3)
def gLv (b x h o : Nat) (i : Nat) : List (Nat × Value) := [(0, .ref b), (1, .ref x), (2, .ref h), (3, .ref o), (4, .int (nI i))]
theorem g_tail {i : Nat} {k b9 : Int32} {N : Nat} (q : Nat) {off : Int} (X : gX p s m meth c bb L xs dC dI g.1 cZ) (V : gV dC dI g h cZ a o s Z H locs) (hrow : gRow q off) (hgo : ((q + 30 : Nat) : Int) + off = 3094) (hl : lv_has ls 7 ((5, .int k) :: gLv bb (g.2.1 0) h o i)) (hcs : cells ≤ 601024 ∧ slots ≤ 7293034)
    (ht : Z.2.1.1 0 = k) (hv : k = 0 → Z.2.2 0 = lZi b9)
    (kk : ∀ (H1 : Heap) (locs1 : List Loc) (ls1 : Array Slot), gV dC dI g h cZ a o s Z H1 locs1 → lv_has ls1 7 (gLv bb (g.2.1 0) h o i) → W p l e room_1 s m #[Value.ref bb] below meth c H1 locs1 cells slots Q (F0 m 3094 ls1 [])) :
    W p l e room_1 s m #[Value.ref bb] below meth c H locs cells slots Q (F0 m q ls [.int b9]) := by
  obtain ⟨r0, r2, r3, r6, r8, r13, r15, r18, r19, r20, r21, r23, r24, r25, r30⟩ := hrow
  have hx := X.1
  have hb := X.2.1
  have hl : lv_has ls 7 [(5, .int k), (0, .ref bb), (1, .ref (g.2.1 0)), (2, .ref h), (3, .ref o), (4, .int (nI i))] := hl
  refine lv_istore (lv' := [(6, .int b9), (5, .int k), (0, .ref bb), (1, .ref (g.2.1 0)), (2, .ref h), (3, .ref o), (4, .int (nI i))]) hx hb r0 hl (by decide) rfl (fun ls hl => ?_)
  refine lv_aload_n hx hb r2 rfl (lv_at hl 4 rfl) ?_
  refine g_callM (As := []) (rest := []) X V fG_thrown (c_thrown l N) (by decide) (q + 3) r3 rfl hl.1 rfl (Nat.le_of_ble_eq_true rfl) hcs rfl (fun H1 locs1 V1 => ?_)
  have V1 : gV dC dI g h cZ a o s Z H1 locs1 := V1
  refine lv_iload hx hb r6 (lv_at hl 1 rfl) ?_
  refine lv_icmp_eq (tgt := q + 13) hx hb r8 (by omega) (fun _ => ?_) (fun hne => absurd ht hne)
  refine lv_iload hx hb r13 (lv_at hl 1 rfl) ?_
  have hend : W p l e room_1 s m #[Value.ref bb] below meth c H1 locs1 cells slots Q (F0 m (q + 30) ls []) := by
    refine lv_goto (tgt := 3094) hx hb r30 hgo ?_
    exact kk H1 locs1 ls V1 (lv_sub hl [2, 3, 4, 5, 6] rfl)
  refine lv_if_ne (tgt := q + 30) hx hb r15 (by omega) (fun _ => hend) (fun h0 => ?_)
  refine lv_aload_n hx hb r18 rfl (lv_at hl 5 rfl) ?_
  refine lv_iconst (v := (0 : Int32)) hx hb r19 rfl ?_
  have hPl : va_P (dC, dI) vwCl (lW g o Z.2.2 Z.1) H1 := va_P_right V1.1
  refine va_lald hx hb X.2.2.2.2.2.2.2.1 hPl 0 1 rfl rfl (i := 0) (by unfold vp_in; decide) r20 ?_
  refine lv_iload hx hb r21 (lv_at hl 0 rfl) ?_
  refine lv_i2l hx hb r23 rfl ?_
  refine W.lcmp hx hb r24 ?_
  have hz : lg_cmp (Z.2.2 ((0 : Int32).toNatClampNeg)) b9.toInt64 = 0 := by
    have e1 : Z.2.2 ((0 : Int32).toNatClampNeg) = b9.toInt64 := hv h0
    rw [e1]
    exact (lg_cmp_eq _ _).mpr rfl
  rw [hz]
  refine lv_if_eq (tgt := q + 30) hx hb r25 (by omega) (fun _ => hend) (fun hne => absurd rfl hne)
theorem g_tailZ {i : Nat} {k b9 : Int32} {N : Nat} (q : Nat) {off : Int} (X : gX p s m meth c bb L xs dC dI g.1 cZ) (V : gV dC dI g h cZ a o s Z H locs) (hrow : gRowZ q off) (hgo : ((q + 37 : Nat) : Int) + off = 3094) (hl : lv_has ls 7 ((5, .int k) :: gLv bb (g.2.1 0) h o i)) (hcs : cells ≤ 601024 ∧ slots ≤ 7293034)
    (ht : Z.2.1.1 0 = k) (hv : k = 0 → Z.2.2 0 = lZb b9)
    (kk : ∀ (H1 : Heap) (locs1 : List Loc) (ls1 : Array Slot), gV dC dI g h cZ a o s Z H1 locs1 → lv_has ls1 7 (gLv bb (g.2.1 0) h o i) → W p l e room_1 s m #[Value.ref bb] below meth c H1 locs1 cells slots Q (F0 m 3094 ls1 [])) :
    W p l e room_1 s m #[Value.ref bb] below meth c H locs cells slots Q (F0 m q ls [.int b9]) := by
  obtain ⟨r0, r2, r3, r6, r8, r13, r15, r18, r19, r20, r21, r23, r26, r27, r30, r31, r32, r37⟩ := hrow
  have hx := X.1
  have hb := X.2.1
  have hl : lv_has ls 7 [(5, .int k), (0, .ref bb), (1, .ref (g.2.1 0)), (2, .ref h), (3, .ref o), (4, .int (nI i))] := hl
  refine lv_istore (lv' := [(6, .int b9), (5, .int k), (0, .ref bb), (1, .ref (g.2.1 0)), (2, .ref h), (3, .ref o), (4, .int (nI i))]) hx hb r0 hl (by decide) rfl (fun ls hl => ?_)
  refine lv_aload_n hx hb r2 rfl (lv_at hl 4 rfl) ?_
  refine g_callM (As := []) (rest := []) X V fG_thrown (c_thrown l N) (by decide) (q + 3) r3 rfl hl.1 rfl (Nat.le_of_ble_eq_true rfl) hcs rfl (fun H1 locs1 V1 => ?_)
  have V1 : gV dC dI g h cZ a o s Z H1 locs1 := V1
  refine lv_iload hx hb r6 (lv_at hl 1 rfl) ?_
  refine lv_icmp_eq (tgt := q + 13) hx hb r8 (by omega) (fun _ => ?_) (fun hne => absurd ht hne)
  refine lv_iload hx hb r13 (lv_at hl 1 rfl) ?_
  have hend : W p l e room_1 s m #[Value.ref bb] below meth c H1 locs1 cells slots Q (F0 m (q + 37) ls []) := by
    refine lv_goto (tgt := 3094) hx hb r37 hgo ?_
    exact kk H1 locs1 ls V1 (lv_sub hl [2, 3, 4, 5, 6] rfl)
  refine lv_if_ne (tgt := q + 37) hx hb r15 (by omega) (fun _ => hend) (fun h0 => ?_)
  refine lv_aload_n hx hb r18 rfl (lv_at hl 5 rfl) ?_
  refine lv_iconst (v := (0 : Int32)) hx hb r19 rfl ?_
  have hPl : va_P (dC, dI) vwCl (lW g o Z.2.2 Z.1) H1 := va_P_right V1.1
  refine va_lald hx hb X.2.2.2.2.2.2.2.1 hPl 0 1 rfl rfl (i := 0) (by unfold vp_in; decide) r20 ?_
  refine lv_iload hx hb r21 (lv_at hl 0 rfl) ?_
  have hz : ∀ x : Int64, x = lZb b9 → lg_cmp (Z.2.2 ((0 : Int32).toNatClampNeg)) x = 0 := fun x hx9 => by
    have e1 : Z.2.2 ((0 : Int32).toNatClampNeg) = lZb b9 := hv h0
    rw [e1, hx9]
    exact (lg_cmp_eq _ _).mpr rfl
  have hfin : ∀ x : Int64, x = lZb b9 → W p l e room_1 s m #[Value.ref bb] below meth c H1 locs1 cells slots Q (F0 m (q + 31) ls [.long x, .long (Z.2.2 ((0 : Int32).toNatClampNeg))]) := fun x hx9 => by
    refine W.lcmp hx hb r31 ?_
    rw [hz x hx9]
    refine lv_if_eq (tgt := q + 37) hx hb r32 (by omega) (fun _ => hend) (fun hne => absurd rfl hne)
  refine lv_if_eq (tgt := q + 30) hx hb r23 (by omega) (fun hz9 => ?_) (fun hz9 => ?_)
  · refine lv_lconst (v := (0 : Int64)) hx hb r30 rfl ?_
    exact hfin 0 (by unfold lZb; rw [if_pos hz9])
  · refine lv_lconst (v := (1 : Int64)) hx hb r26 rfl ?_
    refine lv_goto (tgt := q + 31) hx hb r27 (by omega) ?_
    exact hfin 1 (by unfold lZb; rw [if_neg hz9])
end GT
