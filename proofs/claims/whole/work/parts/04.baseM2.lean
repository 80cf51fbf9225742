section MR2
variable {p : Program} {l : Launch} {e : Env} {R : Room} {s : State} {m : MethodId} {args : Array Value} {below : List Frame} {meth : Method} {c : Code} {H : Heap} {locs : List Loc} {cells slots : Nat} {Q : State → Prop}
variable {cc : ByteArray} {nL : Nat} {ls : Array Slot} {rest : List Value} {β : Type} {res : β}
theorem m_isto_n (hx : p.tables.exec = Jvm.exec) (hb : c.code = cc) {k : Fin 4} {i : Nat} {x : Int32} {lv : List (Nat × Value)} (lv' : Int32 → List (Nat × Value)) {K : Int32 → Option β} (pc : Nat) (hdg : decode cc pc = .ok (.istore_n k, 1)) (hi : (k : Nat) = i) (h : lv_has ls nL lv) (hn : i < nL) (hl : ∀ y : Int32, (i, Value.int y) :: lv.filter (fun q => !(q.1 == i) && !(q.1 + 1 == i && q.2.category == 2)) = lv' y)
    (hpf : nm x K = some res) (kk : ∀ (y : Int32) (ls1 : Array Slot), lv_has ls1 nL (lv' y) → K y = some res → W p l e R s m args below meth c H locs cells slots Q (F0 m (pc + 1) ls1 rest)) : W p l e R s m args below meth c H locs cells slots Q (F0 m pc ls (.int x :: rest)) :=
  lv_istore_n (lv' := lv' x) hx hb hdg hi h hn (hl x) (fun ls1 h1 => kk x ls1 h1 hpf)
theorem m_isto (hx : p.tables.exec = Jvm.exec) (hb : c.code = cc) {i : Nat} {x : Int32} {lv : List (Nat × Value)} (lv' : Int32 → List (Nat × Value)) {K : Int32 → Option β} (pc : Nat) (hdg : decode cc pc = .ok (.istore i, 2)) (h : lv_has ls nL lv) (hn : i < nL) (hl : ∀ y : Int32, (i, Value.int y) :: lv.filter (fun q => !(q.1 == i) && !(q.1 + 1 == i && q.2.category == 2)) = lv' y)
    (hpf : nm x K = some res) (kk : ∀ (y : Int32) (ls1 : Array Slot), lv_has ls1 nL (lv' y) → K y = some res → W p l e R s m args below meth c H locs cells slots Q (F0 m (pc + 2) ls1 rest)) : W p l e R s m args below meth c H locs cells slots Q (F0 m pc ls (.int x :: rest)) :=
  lv_istore (lv' := lv' x) hx hb hdg h hn (hl x) (fun ls1 h1 => kk x ls1 h1 hpf)
theorem m_iinc (hx : p.tables.exec = Jvm.exec) (hb : c.code = cc) {i k : Nat} {n : Int} {x w : Int32} {lv : List (Nat × Value)} (lv' : Int32 → List (Nat × Value)) {K : Int32 → Option β} (pc : Nat) (hdg : decode cc pc = .ok (.iinc i n, 3)) (h : lv_has ls nL lv) (hk : lv[k]? = some (i, .int x)) (hw : Int32.ofInt n = w) (hn : i < nL) (hl : ∀ y : Int32, (i, Value.int y) :: lv.filter (fun q => !(q.1 == i) && !(q.1 + 1 == i && q.2.category == 2)) = lv' y)
    (hpf : nm (x + w) K = some res) (kk : ∀ (y : Int32) (ls1 : Array Slot), lv_has ls1 nL (lv' y) → K y = some res → W p l e R s m args below meth c H locs cells slots Q (F0 m (pc + 3) ls1 rest)) : W p l e R s m args below meth c H locs cells slots Q (F0 m pc ls rest) :=
  lv_iinc (v := x + w) (lv' := lv' (x + w)) hx hb hdg h hk (by rw [hw]) hn (hl (x + w)) (fun ls1 h1 => kk (x + w) ls1 h1 hpf)
end MR2
section MR3
variable {p : Program} {l : Launch} {e : Env} {s : State} {m : MethodId} {args : Array Value} {below : List Frame} {meth : Method} {c : Code} {H : Heap} {locs : List Loc} {Q : State → Prop}
variable {cc : ByteArray} {nL : Nat} {ls : Array Slot} {rest : List Value} {dC : Nat → ClassId} {dI : Nat → Nat → Nat} {h : Nat} {cI cZ : ClassId} {a : Nat → Nat} {S : mS} {d : Nat}
theorem m_retzc {v r : Int32} {S' : mS} {sz : Nat} (C : mC p s m meth c cc nL args dC dI cI cZ) (I : mV dC dI h cI cZ a s S H locs) (hr : meth.sig.returnType = some .boolean) (hz : s.heap.size = sz) (pc : Nat) (hdg : decode cc pc = .ok (.ireturn, 1)) (hv : vp_nar .boolean v = v) (hpf : some (v, S) = some (r, S')) :
    W p l e (mRm d) s m args below meth c H locs 0 0 (MQ below (mQ dC dI h cI cZ a sz r S') args s 0 0 (mAt h cI cZ a sz)) (F0 m pc ls [.int v]) :=
  m_retz C I hr hz pc hdg (by unfold zr; rw [if_pos hv]; exact hpf)
/-- a static method that is walked -/
def mCt (p : Program) (s : State) (m : MethodId) (meth : Method) (c : Code) (cc : ByteArray) (nL : Nat) (args : Array Value) : Prop :=
  p.tables.exec = Jvm.exec ∧ c.code = cc ∧ c.maxLocals = nL ∧ s.vm.findClass RX10 = some m.cls ∧ (∀ w ∈ wsM, w.before args s = true) ∧ meth.locks = false
theorem ms_ret {v r : Int32} (C : mCt p s m meth c cc nL args) (hS : va_S (fun _ => False) s.heap H locs) (hr : meth.sig.returnType = some .boolean) (pc : Nat) (hdg : decode cc pc = .ok (.ireturn, 1)) (hv : vp_nar .boolean v = v) (hpf : some v = some r) :
    W p l e (mRm d) s m args below meth c H locs 0 0 (MQ below (mQs r) args s 0 0 (fun _ => False)) (F0 m pc ls [.int v]) := by
  cases hpf
  exact W.zret C.1 C.2.1 hr (nar_z hv) (fun t ht hW => ⟨⟨v, (), rfl, rfl, trivial⟩, hS.F ht⟩) hS.2.2 hdg C.2.2.2.2.2
theorem ms_retz {v r : Int32} (C : mCt p s m meth c cc nL args) (hS : va_S (fun _ => False) s.heap H locs) (hr : meth.sig.returnType = some .boolean) (pc : Nat) (hdg : decode cc pc = .ok (.ireturn, 1)) (hpf : zs v = some r) :
    W p l e (mRm d) s m args below meth c H locs 0 0 (MQ below (mQs r) args s 0 0 (fun _ => False)) (F0 m pc ls [.int v]) := by
  unfold zs at hpf
  by_cases hv : vp_nar .boolean v = v
  · rw [if_pos hv] at hpf
    exact ms_ret C hS hr pc hdg hv hpf
  · rw [if_neg hv] at hpf; cases hpf
theorem ms_call {y : MethodName} {b : ByteArray} {nl n index d2 : Nat} {ret : FieldType} {As : List Value} {f : Option Int32} {β : Type} {K : Int32 → Option β} {res : β} {st0 : List Value}
    (C : mCt p s m meth c cc nL args) (hS : va_S (fun _ => False) s.heap H locs) (X : mFnS y b nl (some ret) n index) (hM : mMetS l y b nl ret d2 As f) (hd : d2 + 1 ≤ d) (pc : Nat) (hdg : decode cc pc = .ok (.invokestatic index, 3)) (hn : As.length = n) (hsz : ls.size = nL)
    (hst : st0 = As.reverse ++ rest) (hW : (rest.map fun v => v.category).sum ≤ 8)
    (hpf : bs f K = some res) (kk : ∀ (v : Int32) (H1 : Heap) (locs1 : List Loc), va_S (fun _ => False) s.heap H1 locs1 → K v = some res → W p l e (mRm d) s m args below meth c H1 locs1 0 0 Q (F0 m (pc + 3) ls (.int v :: rest))) : W p l e (mRm d) s m args below meth c H locs 0 0 Q (F0 m pc ls st0) := by
  obtain ⟨h1, h2, h3, h4, h5, h7⟩ := C
  obtain ⟨x1, x2, x4, x5, x6, x7⟩ := X
  obtain ⟨v, hf, hk⟩ := bs_some hpf
  have hG : GoodIn wsM (wsS RX10 index y (.code y b nl (some ret) :: wsM)) := mGoodIn (fun w hw => by
    rcases List.mem_append.mp hw with hw | hw
    · simp only [List.mem_cons, List.not_mem_nil, or_false] at hw
      rcases hw with rfl | rfl | rfl
      · exact x1
      · exact x2
      · exact kM_ini
    · rcases List.mem_cons.mp hw with rfl | hw
      · exact x4
      · exact hw)
  refine va_calli (va_runS (Ts := wsM) (own := RX10) (As := As) (rest := rest) ⟨h1, h2, h3, h4, h5⟩ (hM v hf) (cwS n h5 hG rfl rfl rfl ⟨x5, by rw [x5]; exact RX10_ok.1, by rw [x5]; exact RX10_ok.2, x6⟩ (mRoom hd x7)) ⟨fun a2 U g mk q => q, fun U hU hW2 => ⟨rfl, trivial⟩⟩ rfl hn hsz hst (lv_room hW) hdg ⟨Nat.zero_le _, Nat.zero_le _⟩) hS (fun q _ hq => hq.elim) (fun q hq => hq.elim) (fun r u t H1 locs1 ht hvm hw hB hz1 hk1 hS1 => ?_)
  have hw : r = v := hw
  subst hw
  exact kk r H1 locs1 hS1 hk
end MR3
theorem mStart {l : Launch} {y : MethodName} {b : ByteArray} {nl : Nat} {ret : FieldType} {d : Nat} {As : List Value} {f : mS → Option (Int32 × mS)} (hy : plainName y.cls = true) (hyc : y.cls = RX10) (lv : Nat → List (Nat × Value)) (hn : ∀ h : Nat, (lg_sl (.ref h :: As)).length ≤ nl) (hlv : ∀ h : Nat, lv_args 0 (.ref h :: As) = lv h)
    (body : ∀ (dC : Nat → ClassId) (dI : Nat → Nat → Nat) (h : Nat) (cI cZ : ClassId) (a : Nat → Nat) (sz : Nat) (S : mS) (r : Int32) (S' : mS), f S = some (r, S') → ∀ (p : Program) (e : Env) (s : State) (m : MethodId) (args : Array Value) (below : List Frame) (meth : Method) (c : Code), mC p s m meth c b nl args dC dI cI cZ → meth.sig.returnType = some ret → s.heap.size = sz → ∀ (H : Heap) (locs : List Loc), mV dC dI h cI cZ a s S H locs → ∀ ls : Array Slot, lv_has ls nl (lv h) →
      W p l e (mRm d) s m args below meth c H locs 0 0 (MQ below (mQ dC dI h cI cZ a sz r S') args s 0 0 (mAt h cI cZ a sz)) (F0 m 0 ls [])) : mMet l y b nl ret d As f := by
  intro dC dI h cI cZ a sz S r S' hf
  refine Met.ofW (cc := b) (maxL := nl) (ret := some ret) hy rfl ?_
  intro p e s m args below meth c s₁ B hml hv
  obtain ⟨rfl, hsz, hP, hK, hD0⟩ := hv
  have hts := atoms_spec B.pre
  have hown : s.vm.findClass RX10 = some m.cls := by rw [← hyc]; exact findClass_of_methodNamed B.named
  have hl := lv_entry (.ref h :: As) (n := nl) (hn h)
  rw [lg_entry_eq]
  rw [hlv h] at hl
  refine body dC dI h cI cZ a sz S r S' hf p e s m _ below meth c ⟨B.exec, B.bytes, hml, hown, mWords hts, hK, B.notSynchronized⟩ B.returns hsz s.heap [] ⟨hP, mD_self s.heap.size hD0, va_S.rf⟩ _ hl
theorem mStartV {l : Launch} {y : MethodName} {b : ByteArray} {nl : Nat} {d : Nat} {As : List Value} {f : mS → Option (Int32 × mS)} (hy : plainName y.cls = true) (hyc : y.cls = RX10) (lv : Nat → List (Nat × Value)) (hn : ∀ h : Nat, (lg_sl (.ref h :: As)).length ≤ nl) (hlv : ∀ h : Nat, lv_args 0 (.ref h :: As) = lv h)
    (body : ∀ (dC : Nat → ClassId) (dI : Nat → Nat → Nat) (h : Nat) (cI cZ : ClassId) (a : Nat → Nat) (sz : Nat) (S : mS) (r : Int32) (S' : mS), f S = some (r, S') → ∀ (p : Program) (e : Env) (s : State) (m : MethodId) (args : Array Value) (below : List Frame) (meth : Method) (c : Code), mC p s m meth c b nl args dC dI cI cZ → meth.sig.returnType = none → s.heap.size = sz → ∀ (H : Heap) (locs : List Loc), mV dC dI h cI cZ a s S H locs → ∀ ls : Array Slot, lv_has ls nl (lv h) →
      W p l e (mRm d) s m args below meth c H locs 0 0 (MQ below (mQv dC dI h cI cZ a sz S') args s 0 0 (mAt h cI cZ a sz)) (F0 m 0 ls [])) : mMetV l y b nl d As f := by
  intro dC dI h cI cZ a sz S r S' hf
  refine Met.ofW (cc := b) (maxL := nl) (ret := none) hy rfl ?_
  intro p e s m args below meth c s₁ B hml hv
  obtain ⟨rfl, hsz, hP, hK, hD0⟩ := hv
  have hts := atoms_spec B.pre
  have hown : s.vm.findClass RX10 = some m.cls := by rw [← hyc]; exact findClass_of_methodNamed B.named
  have hl := lv_entry (.ref h :: As) (n := nl) (hn h)
  rw [lg_entry_eq]
  rw [hlv h] at hl
  refine body dC dI h cI cZ a sz S r S' hf p e s m _ below meth c ⟨B.exec, B.bytes, hml, hown, mWords hts, hK, B.notSynchronized⟩ B.returns hsz s.heap [] ⟨hP, mD_self s.heap.size hD0, va_S.rf⟩ _ hl
theorem mStartS {l : Launch} {y : MethodName} {b : ByteArray} {nl : Nat} {ret : FieldType} {d : Nat} {As : List Value} {f : Option Int32} (hy : plainName y.cls = true) (hyc : y.cls = RX10) (lv : List (Nat × Value)) (hn : (lg_sl As).length ≤ nl) (hlv : lv_args 0 As = lv)
    (body : ∀ (r : Int32), f = some r → ∀ (p : Program) (e : Env) (s : State) (m : MethodId) (args : Array Value) (below : List Frame) (meth : Method) (c : Code), mCt p s m meth c b nl args → meth.sig.returnType = some ret → ∀ (H : Heap) (locs : List Loc), va_S (fun _ => False) s.heap H locs → ∀ ls : Array Slot, lv_has ls nl lv →
      W p l e (mRm d) s m args below meth c H locs 0 0 (MQ below (mQs r) args s 0 0 (fun _ => False)) (F0 m 0 ls [])) : mMetS l y b nl ret d As f := by
  intro r hf
  refine Met.ofW (cc := b) (maxL := nl) (ret := some ret) hy rfl ?_
  intro p e s m args below meth c s₁ B hml hv
  obtain ⟨rfl, -⟩ := hv
  have hts := atoms_spec B.pre
  have hown : s.vm.findClass RX10 = some m.cls := by rw [← hyc]; exact findClass_of_methodNamed B.named
  have hl := lv_entry As (n := nl) hn
  rw [lg_entry_eq]
  rw [hlv] at hl
  exact body r hf p e s m _ below meth c ⟨B.exec, B.bytes, hml, hown, mWords hts, B.notSynchronized⟩ B.returns s.heap [] va_S.rf _ hl
