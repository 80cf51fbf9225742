-- THE LAW'S cell: an int of the script, or one of its own
noncomputable def scrI (n : Nat) (xs : Nat → Int32) (k : Int32) : Option Int32 := if Int32.ofNat n ≤ k then some ((54499 : Int32) * (k + 23) + 2042727) else gd k n (some (xs k.toNatClampNeg))
def lbc {β : Type} (o : Option Int32) (k : Int32 → Option β) : Option β := match o with
  | none => none
  | some q => k q
theorem lbc_some {β : Type} {o : Option Int32} {k : Int32 → Option β} {r : β} (h : lbc o k = some r) : ∃ v, o = some v ∧ k v = some r := by
  cases o with
  | none => cases h
  | some q => exact ⟨q, rfl, h⟩
def scX (b n : Nat) (xs : Nat → Int32) : State → Prop := fun U => va_X b n xs U U.heap ∧ b < U.heap.size
set_option maxHeartbeats 2000000 in
theorem c_L_cell (l : Launch) (b n : Nat) (xs : Nat → Int32) (k r : Int32) (hf : scrI n xs k = some r) : Met l yL_cell (.code yL_cell cL_cell 2 (some .int) :: wsT) (lRm 0 0 0 0) (va_Pc [.ref b, .int k] (scX b n xs)) (va_Qi (fun (r2 : Int32) (_ : Unit) => r2 = r) (fun _ _ => True) (fun _ => False)) 0 0 (fun _ => False) := by
  refine Met.ofW (cc := cL_cell) (maxL := 2) (ret := some .int) (by decide +kernel) rfl ?_
  intro p e s m args below meth c s₁ B hml hv
  obtain ⟨rfl, hX, hbl⟩ := hv
  have hts := atoms_spec B.pre
  have hown : s.vm.findClass RL = some m.cls := findClass_of_methodNamed B.named
  have hl0 := lv_entry ([.ref b, .int k]) (n := 2) (Nat.le_of_ble_eq_true rfl)
  rw [lg_entry_eq]
  generalize (lg_sl ([.ref b, .int k]) ++ List.replicate (2 - (lg_sl ([.ref b, .int k])).length) Slot.unset).toArray = ls at hl0 ⊢
  have hl : lv_has ls 2 [(0, .ref b), (1, .int k)] := hl0
  have hx := B.exec
  have hb := B.bytes
  have hS : va_S (fun _ => False) s.heap s.heap [] := va_S.rf
  have hw : ∀ w ∈ wsT, w.before ([.ref b, .int k] : List Value).toArray s = true := fun w hw => hts w (List.mem_cons_of_mem _ hw)
  have end9 : ∀ (ls : Array Slot) (v : Int32), v = r → W p l e (lRm 0 0 0 0) s m ([.ref b, .int k] : List Value).toArray below meth c s.heap [] 0 0 (MQ below (va_Qi (fun (r2 : Int32) (_ : Unit) => r2 = r) (fun _ _ => True) (fun _ => False)) ([.ref b, .int k] : List Value).toArray s 0 0 (fun _ => False)) (F0 m 22 ls [.int v]) := fun ls v hv =>
    W.iret hx hb B.returns (fun t ht hW => ⟨⟨v, (), rfl, hv, trivial⟩, hS.F ht⟩) hS.2.2 dL_cell_22 B.notSynchronized
  refine lv_iload_n hx hb dL_cell_0 rfl (lv_at hl 1 rfl) ?_
  refine lv_aload_n hx hb dL_cell_1 rfl (lv_at hl 0 rfl) ?_
  refine va_slen hx hb hX hbl (A := fun _ => False) (fun h => h) hS dL_cell_2 ?_
  unfold scrI at hf
  refine b_icmp_ge hx hb 12 3 dL_cell_3 (by decide) hf (fun hf => ?_) (fun hf => ?_)
  · refine lv_ldc (v := (54499 : Int32)) hx hb hown (hw _ (kT_1)) dL_cell_12 ?_
    refine lv_iload_n hx hb dL_cell_14 rfl (lv_at hl 1 rfl) ?_
    refine lv_bipush (v := (23 : Int32)) hx hb dL_cell_15 (by decide) ?_
    refine lv_iadd hx hb dL_cell_17 ?_
    refine lv_imul hx hb dL_cell_18 ?_
    refine lv_ldc (v := (2042727 : Int32)) hx hb hown (hw _ (kT_2)) dL_cell_19 ?_
    refine lv_iadd hx hb dL_cell_21 ?_
    exact end9 _ _ (Option.some.inj hf)
  · obtain ⟨g1, g2⟩ := gd_some hf
    refine lv_aload_n hx hb dL_cell_6 rfl (lv_at hl 0 rfl) ?_
    refine lv_iload_n hx hb dL_cell_7 rfl (lv_at hl 1 rfl) ?_
    refine va_sld hx hb hX hbl (A := fun _ => False) (fun h => h) hS g1 dL_cell_8 ?_
    refine lv_goto (tgt := 22) hx hb dL_cell_9 (by decide) ?_
    exact end9 _ _ (Option.some.inj g2)
theorem fL_cell : lFnS yL_cell (.code yL_cell cL_cell 2 (some .int)) 2 238 := ⟨kT_212, kT_213, kT_0, rfl, by decide +kernel⟩
section LC
variable {l : Launch} {p : Program} {e : Env} {R : Room} {s : State} {m : MethodId} {args : Array Value} {below : List Frame} {meth : Method} {c : Code} {H : Heap} {locs : List Loc} {C D : Nat} {Q : State → Prop}
variable {cc : ByteArray} {nL : Nat} {ls : Array Slot} {rest : List Value} {dC : Nat → ClassId} {dI : Nat → Nat → Nat} {g : kG} {a : Nat → Nat} {A : Nat → Prop} {Si S : kS} {L : lS} {β : Type} {res : β} {N : Nat}
theorem l_cell {b9 n9 : Nat} {xs9 : Nat → Int32} {k : Int32} {K : Int32 → Option β}
    (X : lX l p s m meth c cc nL args dC dI g A Si) (I : lV dC dI g a A s Si S L H locs) (hX : va_X b9 n9 xs9 s s.heap) (hbl : b9 < s.heap.size) (hbA : ¬ A b9) (pc : Nat) (hdg : decode cc pc = .ok (.invokestatic 238, 3)) (hsz : ls.size = nL) (hW : (rest.map fun v => v.category).sum ≤ 8) (hcs : C ≤ room_1.cells ∧ D ≤ room_1.slots) (hpf : lbc (scrI n9 xs9 k) K = some res)
    (kk : ∀ (v : Int32) (H1 : Heap) (locs1 : List Loc), lV dC dI g a A s Si S L H1 locs1 → K v = some res → W p l e room_1 s m args below meth c H1 locs1 C D Q (F0 m (pc + 3) ls (.int v :: rest))) : W p l e room_1 s m args below meth c H locs C D Q (F0 m pc ls (.int k :: .ref b9 :: rest)) := by
  obtain ⟨h1, h2, h3, h4, h5, hK, hlk, hA, hst0, hE, hL, hN⟩ := X
  obtain ⟨c2, d2, e2, hg, hP, hD, hS⟩ := I
  obtain ⟨x1, x2, x3, x4, x5⟩ := fL_cell
  obtain ⟨v, hf, hk⟩ := lbc_some hpf
  have hG : GoodIn wsT (wsS RL 238 yL_cell (.code yL_cell cL_cell 2 (some .int) :: wsT)) := lGoodIn (fun w hw => by
    rcases List.mem_append.mp hw with hw | hw
    · simp only [List.mem_cons, List.not_mem_nil, or_false] at hw
      rcases hw with rfl | rfl | rfl
      · exact x1
      · exact x2
      · exact lRL_ini
    · rcases List.mem_cons.mp hw with rfl | hw
      · exact x3
      · exact hw)
  refine va_calli (va_runS (R := room_1) (Ts := wsT) (own := RL) (As := [.ref b9, .int k]) (rest := rest) ⟨h1, h2, h3, h4, h5⟩ (c_L_cell l b9 n9 xs9 k v hf) (cwS 2 h5 hG rfl rfl rfl ⟨x4, by rw [x4]; exact RL_ok.1, by rw [x4]; exact RL_ok.2, x5⟩ ⟨Nat.le_of_ble_eq_true rfl, Nat.le_of_ble_eq_true rfl⟩) ⟨fun a2 U gg mk q => (by
      obtain ⟨q0, q1, q2⟩ := q
      exact ⟨q0, va_X.moved (u := U) (U := U.calling gg mk a2) (Vm.Alike.refl U.vm) q1, q2⟩), fun U hU hW2 => ⟨rfl, by rw [hU]; exact va_X.moved hW2.alike (hX.kept (hS.2.1 b9 hbl hbA)), by rw [hU]; exact Nat.lt_of_lt_of_le hbl hS.1⟩⟩ rfl rfl hsz rfl (lv_room hW) hdg ⟨by rw [Nat.add_zero]; exact hcs.1, by rw [Nat.add_zero]; exact hcs.2⟩) hS (fun q _ hq => hq.elim) (fun q hq => hq.elim) (fun r u t H1 locs1 ht hvm hw hB hz1 hk1 hS1 => ?_)
  have hw : r = v := hw
  subst hw
  rw [Nat.add_zero, Nat.add_zero]
  exact kk r H1 locs1 ⟨c2, d2, e2, hg, hP.kept (fun k q hq => hk1 q.1 (hP k q hq).lt (fun z => z)), hD, hS1⟩ hk
end LC
