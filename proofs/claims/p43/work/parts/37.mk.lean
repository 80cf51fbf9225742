-- cells that are made: a change, a row of codes
theorem va_P_of {D : va_G} {cl : List vw_C} {ws ws' : va_W} {H : Heap} (h : va_P D cl ws H) (hm : ∀ q ∈ ws', q ∈ ws) : va_P D cl ws' H := fun k q hk => by
  obtain ⟨j, hj⟩ := List.getElem?_of_mem (hm q (List.mem_of_getElem? hk))
  exact h j q hj
theorem va_D_iff {A : Nat → Prop} {ws : va_W} : va_D A ws ↔ (ws.map (·.1)).Nodup ∧ ∀ q ∈ ws, A q.1 := by
  constructor
  · intro h
    refine ⟨List.pairwise_iff_getElem.mpr fun i j hi hj hij heq => ?_, fun q hq => ?_⟩
    · rw [List.length_map] at hi hj
      rw [List.getElem_map, List.getElem_map] at heq
      have := h.1 i j ws[i] ws[j] (List.getElem?_eq_getElem hi) (List.getElem?_eq_getElem hj) heq
      omega
    · obtain ⟨k, hk⟩ := List.getElem?_of_mem hq
      exact h.2 k q hk
  · intro h
    refine ⟨fun i j p q hi hj hpq => ?_, fun k q hk => h.2 q (List.mem_of_getElem? hk)⟩
    obtain ⟨li, ei⟩ := List.getElem?_eq_some_iff.mp hi
    obtain ⟨lj, ej⟩ := List.getElem?_eq_some_iff.mp hj
    have hp := List.pairwise_iff_getElem.mp h.1
    rcases Nat.lt_trichotomy i j with hl | hl | hl
    · exact absurd (by rw [List.getElem_map, List.getElem_map, ei, ej]; exact hpq) (hp i j (by rw [List.length_map]; exact li) (by rw [List.length_map]; exact lj) hl)
    · exact hl
    · exact absurd (by rw [List.getElem_map, List.getElem_map, ei, ej]; exact hpq.symm) (hp j i (by rw [List.length_map]; exact lj) (by rw [List.length_map]; exact li) hl)
theorem va_D_perm {A : Nat → Prop} {ws ws' : va_W} (h : va_D A ws) (hp : ws.Perm ws') : va_D A ws' := by
  rw [va_D_iff] at h ⊢
  exact ⟨(hp.map _).nodup_iff.mp h.1, fun q hq => h.2 q (hp.mem_iff.mpr hq)⟩
theorem kFx_app (gA : Nat → ClassId) (ca : Nat → Nat) (S : kS) (ce : Nat) (r : va_W) : kFx gA ca S ce r = kFx gA ca S ce [] ++ r := rfl
theorem kPm {α : Type} (U V : List α) (x : List α) : ((U ++ V) ++ x).Perm ((U ++ x) ++ V) := by
  rw [List.append_assoc, List.append_assoc]
  exact List.Perm.append_left U List.perm_append_comm
/-- a new change, all numbers 0, no codes -/
def nU (S : kS) : kS := (S.1, S.2.1, S.2.2.1, S.2.2.2.1, kn S + 1, (fun k f => if k = kn S then 0 else kF S k f), (fun k => if k = kn S then none else kC S k), S.2.2.2.2.2.2.2)
theorem kW_nU (g : kG) (S : kS) (q : Nat) (hE : ∀ i, kE S i ≠ some (kn S)) : (kW g S ++ [((q, .inr (3, [.int 0, .int 0, .int 0, .int 0, .int 0, .null, .int 0, .int 0, .int 0])) : Nat × va_E)]).Perm (kW (g.1, g.2.1, va_up g.2.2.1 (kn S) q, g.2.2.2.1, g.2.2.2.2) (nU S)) := by
  have e1 : kUc (va_up g.2.2.1 (kn S) q) g.2.2.2.1 (nU S) = kUc g.2.2.1 g.2.2.2.1 S ++ [((q, .inr (3, [.int 0, .int 0, .int 0, .int 0, .int 0, .null, .int 0, .int 0, .int 0])) : Nat × va_E)] := by
    unfold kUc
    rw [show kn (nU S) = kn S + 1 from rfl, List.range_succ, List.map_append]
    congr 1
    · apply List.map_congr_left
      intro k hk
      have hk' : k ≠ kn S := Nat.ne_of_lt (List.mem_range.mp hk)
      simp [va_up, kUf, nU, kF, kC, hk', kn] at hk' ⊢
      simp [hk']
    · simp [va_up, kUf, nU, kF, kC, kn, va_rf]
  have e2 : kEc g.1 (va_up g.2.2.1 (kn S) q) g.2.2.2.2 (nU S) = kEc g.1 g.2.2.1 g.2.2.2.2 S := by
    unfold kEc
    rw [show kp (nU S) = kp S from rfl, show kE (nU S) = kE S from rfl]
    have e3 : (fun i => (kE S i).map (va_up g.2.2.1 (kn S) q)) = (fun i => (kE S i).map g.2.2.1) := by
      funext i
      cases h : kE S i with
      | none => rfl
      | some k =>
        have : k ≠ kn S := fun z => hE i (by rw [h, z])
        simp [va_up, this]
    rw [e3]
  have e4 : kVc g.1 g.2.2.2.1 (nU S) = kVc g.1 g.2.2.2.1 S := rfl
  unfold kW
  rw [show kFx g.1 g.2.1 (nU S) g.2.2.2.2 = kFx g.1 g.2.1 S g.2.2.2.2 from rfl]
  show (kFx g.1 g.2.1 S g.2.2.2.2 _ ++ _).Perm (kFx g.1 g.2.1 S g.2.2.2.2 (kUc (va_up g.2.2.1 (kn S) q) g.2.2.2.1 (nU S) ++ (kVc g.1 g.2.2.2.1 (nU S) ++ kEc g.1 (va_up g.2.2.1 (kn S) q) g.2.2.2.2 (nU S))))
  rw [e1, e2, e4, kFx_app, kFx_app g.1 g.2.1 S g.2.2.2.2 ((kUc g.2.2.1 g.2.2.2.1 S ++ _) ++ _), List.append_assoc]
  exact List.Perm.append_left _ (kPm _ _ _)
/-- the log holds no change of a number that is none yet -/
noncomputable def gNew {γ : Type} (S : kS) (K : Option γ) : Option γ := @ite (Option γ) (∀ i, kE S i ≠ some (kn S)) (Classical.propDecidable _) K none
theorem gNew_some {γ : Type} {S : kS} {K : Option γ} {r : γ} (h : gNew S K = some r) : (∀ i, kE S i ≠ some (kn S)) ∧ K = some r := by
  unfold gNew at h
  by_cases hc : ∀ i, kE S i ≠ some (kn S)
  · rw [if_pos hc] at h; exact ⟨hc, h⟩
  · rw [if_neg hc] at h; cases h
section MK
variable {p : Program} {l : Launch} {e : Env} {R : Room} {s : State} {m : MethodId} {args : Array Value} {below : List Frame} {meth : Method} {c : Code} {H : Heap} {locs : List Loc} {cells slots : Nat} {Q : State → Prop}
variable {cc : ByteArray} {nL : Nat} {ls : Array Slot} {rest : List Value} {dC : Nat → ClassId} {dI : Nat → Nat → Nat} {g : kG} {A : Nat → Prop} {S S0 : kS} {own : String} {β : Type} {res : β}
theorem x_newU {cC cD : Nat → Nat} {cE : Nat} {K : kS → Option β} (X : kX p s m meth c cc nL args own dC dI (g.1, g.2.1, cC, cD, cE) A) (I : kV dC dI (g.1, g.2.1, cC, cD, cE) A s S0 S H locs) {index : Nat} (hl : Cond.classLink own index RX0 ∈ wsC) (hcs : cells + 1 ≤ R.cells ∧ slots + 9 ≤ R.slots) (pc : Nat) (hdg : decode cc pc = .ok (.new index, 3)) (hpf : gNew S (svk (nU S) K) = some res)
    (kk : ∀ (cc2 : Nat → Nat) (S1 : kS) (H1 : Heap), kV dC dI (g.1, g.2.1, cc2, cD, cE) A s S1 S1 H1 locs → kGc (g.1, g.2.1, cC, cD, cE) cc2 cE S S1 → kn S < kn S1 → K S1 = some res → W p l e R s m args below meth c H1 locs (cells + 1) (slots + 9) Q (F0 m (pc + 3) ls (.ref (cc2 (kn S)) :: rest))) : W p l e R s m args below meth c H locs cells slots Q (F0 m pc ls rest) := by
  obtain ⟨hE, hk⟩ := gNew_some hpf
  obtain ⟨h1, h2, h3, h4, h5, h6, h7, h8⟩ := X
  refine va_new (ci := 3) (C := RX0) (T := TX0) (N := 9) (Ts := wsC) (fs := [.int 0, .int 0, .int 0, .int 0, .int 0, .null, .int 0, .int 0, .int 0]) h1 h2 h5 kCl_0.2.1 tyX0 tyX0_ok h4 (h5 _ hl) (h5 _ kC_583) (h5 _ kC_368) h6 I.1 I.2.1 I.2.2.1 h8 rfl (fun j hj => by
    match j, hj with
    | 0, _ => rfl
    | 1, _ => rfl
    | 2, _ => rfl
    | 3, _ => rfl
    | 4, _ => rfl
    | 5, _ => rfl
    | 6, _ => rfl
    | 7, _ => rfl
    | 8, _ => rfl) hcs.1 hcs.2 hdg (fun q H1 hP hD hS => ?_)
  have hp := kW_nU (g.1, g.2.1, cC, cD, cE) S q hE
  have e9 : (va_up cC (kn S) q) (kn S) = q := by simp [va_up]
  have r := kk (va_up cC (kn S) q) (nU S) H1 ⟨va_P_of hP (fun z hz => hp.mem_iff.mpr hz), va_D_perm hD hp, hS, kSm.rf⟩ ⟨Nat.le_succ _, fun k hk => by simp [va_up, Nat.ne_of_lt hk], fun h => ⟨h, rfl⟩⟩ (Nat.lt_succ_self _) hk
  rw [e9] at r
  exact r
/-- a field that a constructor gives for good -/
theorem k_putUF {k : Nat} {x : Int32} {K : kS → Option β} (X : kX p s m meth c cc nL args RX0 dC dI g A) (I : kV dC dI g A s S0 S H locs) (hin : meth.name = "<init>") (f : Nat) (hf : f < 5) {index : Nat} (hl : Cond.fieldLink RX0 index RX0 (TX0 f).2.1 (TX0 f).2.2.1 ∈ wsC) (hfin : (TX0 f).2.2.2 = true) (hpt : parseFieldDescriptor (TX0 f).2.2.1 = some .int) (pc : Nat) (hdg : decode cc pc = .ok (.putfield index, 3))
    (hpf : gn k (kn S) (svk (sF S k f x) K) = some res) (kk : ∀ (S1 : kS) (H1 : Heap) (locs1 : List Loc), kV dC dI g A s S0 S1 H1 locs1 → kSm S1 S → K S1 = some res → W p l e R s m args below meth c H1 locs1 cells slots Q (F0 m (pc + 3) ls rest)) : W p l e R s m args below meth c H locs cells slots Q (F0 m pc ls (.int x :: .ref (g.2.2.1 k) :: rest)) := by
  obtain ⟨g1, g2⟩ := gn_some hpf
  obtain ⟨h1, h2, h3, h4, h5, h6, h7, h8⟩ := X
  have hf9 : f < 9 := by omega
  refine va_putF (D := (dC, dI)) (Ts := wsC) (C := RX0) (T := TX0) (N := 9) h1 h2 h5 kCl_0.2.1 tyX0 tyX0_ok nmX0 h4 h6 I.1 I.2.1 I.2.2.1 (101 + k) (kO_U k g S g1) rfl f hf9 (h5 _ hl) (fun z hz => by rw [kCl_0.2.2 f hf9] at hz; exact hz) hfin hin (kCl_0.2.2 f hf9) hpt rfl rfl hf9 hdg (fun H1 locs1 hP hD hS => ?_)
  rw [kP_U f hf9 (by omega) k g S g1 x] at hP hD
  exact kk _ H1 locs1 ⟨hP, hD, hS, kSm.trans (S' := S) ⟨rfl, rfl, rfl⟩ I.2.2.2⟩ ⟨rfl, rfl, rfl⟩ g2
end MK
theorem kStartI {α : Type} {l : Launch} {y : MethodName} {b : ByteArray} {nl : Nat} {ret : Option FieldType} {d : Nat} {Av : kG → List Value} {Rv : kG → α → Option Value} {f : kS → Option (α × kS)} (own : String) (hy : plainName y.cls = true) (hyc : y.cls = own) (lv : kG → List (Nat × Value)) (hn : ∀ g, (lg_sl (Av g)).length ≤ nl) (hlv : ∀ g, lv_args 0 (Av g) = lv g)
    (body : ∀ (dC : Nat → ClassId) (dI : Nat → Nat → Nat) (g : kG) (sz : Nat) (S : kS) (r : α) (S' : kS), f S = some (r, S') → ∀ (p : Program) (e : Env) (s : State) (m : MethodId) (args : Array Value) (below : List Frame) (meth : Method) (c : Code), kX p s m meth c b nl args own dC dI g (kAt g (kn S) (km S) (kp S) sz) → meth.name = y.name → meth.sig.returnType = ret → ∀ (H : Heap) (locs : List Loc), kV dC dI g (kAt g (kn S) (km S) (kp S) sz) s S S H locs → ∀ ls : Array Slot, lv_has ls nl (lv g) →
      W p l e (mRm d) s m args below meth c H locs 0 0 (MQ below (kQ dC dI g sz S (Rv g r) S') args s 0 0 (kAt g (kn S) (km S) (kp S) sz)) (F0 m 0 ls [])) : kMet l y b nl ret d Av Rv f := by
  intro dC dI g sz S r S' hf
  refine Met.ofW (cc := b) (maxL := nl) (ret := ret) hy rfl ?_
  intro p e s m args below meth c s₁ B hml hv
  obtain ⟨rfl, hsz, hP, hK, hD0⟩ := hv
  have hts := atoms_spec B.pre
  have hown : s.vm.findClass own = some m.cls := by rw [← hyc]; exact findClass_of_methodNamed B.named
  have hl := lv_entry (Av g) (n := nl) (hn g)
  rw [lg_entry_eq]
  rw [hlv g] at hl
  exact body dC dI g sz S r S' hf p e s m _ below meth c ⟨B.exec, B.bytes, hml, hown, kWords hts, hK, B.notSynchronized, fun q hq => Or.inr (by rw [← hsz]; exact hq)⟩ (name_of_methodNamed B.named B.method).1 B.returns s.heap [] ⟨hP, kD_self sz hD0, va_S.rf, kSm.rf⟩ _ hl
def pX0_init (N n0 : Nat) (x1 x2 x3 x4 x5 : Int32) (S : kS) : Option (Unit × kS) :=
  gn n0 (kn S) <| svk (sF S n0 0 x1) fun S1 =>
  gn n0 (kn S1) <| svk (sF S1 n0 1 x2) fun S2 =>
  gn n0 (kn S2) <| svk (sF S2 n0 2 x3) fun S3 =>
  gn n0 (kn S3) <| svk (sF S3 n0 3 x4) fun S4 =>
  gn n0 (kn S4) <| svk (sF S4 n0 4 x5) fun S5 =>
  some ((), S5)
set_option maxRecDepth 100000 in
set_option maxHeartbeats 4000000 in
theorem c_X0_init (l : Launch) (N n0 : Nat) (x1 x2 x3 x4 x5 : Int32) : kMet l yX0_init cX0_init 6 none 1 (fun g => [.ref (g.2.2.1 n0), .int x1, .int x2, .int x3, .int x4, .int x5]) rU (pX0_init N n0 x1 x2 x3 x4 x5) := by
  refine kStartI RX0 (by decide +kernel) rfl (fun g => [(0, .ref (g.2.2.1 n0)), (1, .int x1), (2, .int x2), (3, .int x3), (4, .int x4), (5, .int x5)]) (fun _ => Nat.le_of_ble_eq_true rfl) (fun _ => rfl) ?_
  intro dC dI g sz Si r Sf hpf p e s m args below meth c X hnm hr H locs I ls hl
  have hx := X.1
  have hb := X.2.1
  have hin : meth.name = "<init>" := hnm
  unfold pX0_init at hpf
  refine lv_aload_n hx hb dX0_init_0 rfl (lv_at hl 0 rfl) ?_
  refine W.objInit hx hb X.2.2.2.1 (X.2.2.2.2.1 _ kC_1) (X.2.2.2.2.1 _ kC_2) (X.2.2.2.2.1 _ kC_3) rfl (by rw [X.2.2.1]; exact hl.1) rfl dX0_init_1 (Nat.le_of_ble_eq_true rfl) (Nat.le_of_ble_eq_true rfl) ?_
  refine W.eq (g2 := F0 m 4 ls []) rfl ?_
  refine lv_aload_n hx hb dX0_init_4 rfl (lv_at hl 0 rfl) ?_
  refine lv_iload_n hx hb dX0_init_5 rfl (lv_at hl 1 rfl) ?_
  refine k_putUF X I hin 0 (by decide) kC_4 rfl (by decide +kernel) 6 dX0_init_6 hpf (fun S1 H locs I hm hpf => ?_)
  refine lv_aload_n hx hb dX0_init_9 rfl (lv_at hl 0 rfl) ?_
  refine lv_iload_n hx hb dX0_init_10 rfl (lv_at hl 2 rfl) ?_
  refine k_putUF X I hin 1 (by decide) kC_5 rfl (by decide +kernel) 11 dX0_init_11 hpf (fun S2 H locs I hm hpf => ?_)
  refine lv_aload_n hx hb dX0_init_14 rfl (lv_at hl 0 rfl) ?_
  refine lv_iload_n hx hb dX0_init_15 rfl (lv_at hl 3 rfl) ?_
  refine k_putUF X I hin 2 (by decide) kC_6 rfl (by decide +kernel) 16 dX0_init_16 hpf (fun S3 H locs I hm hpf => ?_)
  refine lv_aload_n hx hb dX0_init_19 rfl (lv_at hl 0 rfl) ?_
  refine lv_iload hx hb dX0_init_20 (lv_at hl 4 rfl) ?_
  refine k_putUF X I hin 3 (by decide) kC_7 rfl (by decide +kernel) 22 dX0_init_22 hpf (fun S4 H locs I hm hpf => ?_)
  refine lv_aload_n hx hb dX0_init_25 rfl (lv_at hl 0 rfl) ?_
  refine lv_iload hx hb dX0_init_26 (lv_at hl 5 rfl) ?_
  refine k_putUF X I hin 4 (by decide) kC_8 rfl (by decide +kernel) 28 dX0_init_28 hpf (fun S5 H locs I hm hpf => ?_)
  exact k_retv X I hr 31 dX0_init_31 hpf
/-- a constructor that is called -/
def kFnC (own : String) (y : MethodName) (b : ByteArray) (nl n index : Nat) : Prop :=
  (Cond.methodLink own index y ∈ wsC ∧ Cond.initialized y.cls ∈ wsC ∧ Cond.code y b nl none ∈ wsC ∧ (y.cls ≠ "java/lang/invoke/MethodHandle" ∧ y.cls ≠ "java/lang/invoke/VarHandle" ∧ (parseMethodDescriptor y.desc).map (fun d => d.parameters.length) = some n) ∧ nl ≤ 21) ∧ Cond.instanceMethod y ∈ wsC ∧ y.name = "<init>"
theorem k_callC {α β : Type} {res : β} {p : Program} {l : Launch} {e : Env} {s : State} {m : MethodId} {args : Array Value} {below : List Frame} {meth : Method} {c : Code} {H : Heap} {locs : List Loc} {cells slots : Nat} {Q : State → Prop} {cc : ByteArray} {nL : Nat} {ls : Array Slot} {rest : List Value} {dC : Nat → ClassId} {dI : Nat → Nat → Nat} {g : kG} {A : Nat → Prop} {S S0 : kS} {own : String} {R : Room} {y : MethodName} {b : ByteArray} {nl n index d2 d a : Nat} {Av : kG → List Value} {f : kS → Option (Unit × kS)} {K : Unit → kS → Option β} {st0 : List Value} {As : List Value}
    (hR : d ≤ R.frames ∧ 40 * d ≤ R.locals) (X : kX p s m meth c cc nL args own dC dI g A) (I : kV dC dI g A s S0 S H locs) (F : kFnC own y b nl n index) (hM : kMet l y b nl none d2 Av rU f) (hAv : Av g = .ref a :: As) (hd : d2 + 1 ≤ d) (pc : Nat) (hdg : decode cc pc = .ok (.invokespecial index, 3)) (hn : As.length = n) (hsz : ls.size = nL)
    (hst : st0 = As.reverse ++ .ref a :: rest) (hW : (rest.map fun v => v.category).sum ≤ 8) (hcl : cells ≤ R.cells ∧ slots ≤ R.slots)
    (hpf : bk (f S) K = some res) (kk : ∀ (v : Unit) (S1 : kS) (H1 : Heap) (locs1 : List Loc), kV dC dI g A s S0 S1 H1 locs1 → kSm S1 S → K v S1 = some res → W p l e R s m args below meth c H1 locs1 cells slots Q (F0 m (pc + 3) ls rest)) : W p l e R s m args below meth c H locs cells slots Q (F0 m pc ls st0) := by
  obtain ⟨h1, h2, h3, h4, h5, h6, h7, h8⟩ := X
  obtain ⟨⟨x1, x2, x4, x5, x6⟩, x7, x8⟩ := F
  obtain ⟨v, S1, hf, hk⟩ := bk_some hpf
  refine k_back (mc := 0) (ms := 0) (n := 0) (rv := rU g v) (S1 := S1) I.2.2.1.1 I h8 (va_runI (Ts := wsC) (own := own) (As := As) (rest := rest) ⟨h1, h2, h3, h4, h5⟩ (hM dC dI g H.size S v S1 hf) ⟨callB_of n h5 (kGoodC x4) rfl rfl rfl (h5 _ x2) (h5 _ x1) x5 (kRoom hR hd x6), x8, h5 _ x7⟩ ⟨fun a2 U gg mk q => by obtain ⟨q0, q1, qP, qK, qD⟩ := q; exact ⟨q0, q1, qP, va_K.moved (u := U) (U := U.calling gg mk a2) (Vm.Alike.refl U.vm) qK, qD⟩, fun U hU hW2 => ⟨by rw [hAv], by rw [hU], by rw [hU]; exact I.1, va_K.moved hW2.alike h6, I.2.1.weaken (fun _ _ _ _ => trivial)⟩⟩ rfl hn hsz hst (lv_room hW) hdg ⟨hcl.1, hcl.2⟩) (fun H1 locs1 I1 hm => kk v S1 H1 locs1 I1 hm hk)
theorem fn_X9_X0_init : kFnC RX9 yX0_init cX0_init 6 5 155 := ⟨⟨kC_602, kC_368, kC_0, ⟨by decide +kernel, by decide +kernel, by decide +kernel⟩, by decide⟩, kC_603, rfl⟩
