def wsS9 : List Cond := [.instantiable RJ0 4, .instantiable RJ4 4, .instantiable RJx4a65c 3, .instantiable RX0 9, .instantiable RX1 3, .instantiable RX2 7, .instantiable RX3 8, .instantiable RX4 6, .instantiable RX5 2, .instantiable RX6 2, .instantiable RX7 7, .instantiable RX8 12, .instantiable RX9 8, .castable "java/lang/IndexOutOfBoundsException" "java/lang/IndexOutOfBoundsException", .castable "java/lang/IllegalArgumentException" "java/lang/IllegalArgumentException", .castable "java/lang/IllegalStateException" "java/lang/IllegalStateException", .declares (Bundle.initS "java/lang/RuntimeException"), .declares (Bundle.initS "java/lang/Exception"), .declares (Bundle.initS Bundle.tN), .laysStatic Bundle.tN "UNASSIGNED_STACK" Bundle.steD, .laysStatic Bundle.tN "SUPPRESSED_SENTINEL" Bundle.listD, .initialized Bundle.tN, .castable "[I" "java/lang/Cloneable", .declares ⟨"java/lang/Object", "getClass", "()Ljava/lang/Class;"⟩, .arrayOver (.object "java/lang/Object"), .arrayOver (.object "MasterTree$Master"), .castable RX0 "java/lang/Object", .laysStatic "java/util/ArrayList" "DEFAULTCAPACITY_EMPTY_ELEMENTDATA" "[Ljava/lang/Object;", .initialized "java/util/ArrayList"]
set_option maxRecDepth 100000 in
theorem in_wsS9 : ∀ w ∈ wsS9, w ∈ lw_tbl := (fun w hw => of_decide_eq_true (List.all_eq_true.mp (show wsS9.all (fun w => decide (w ∈ lw_tbl)) = true by decide +kernel) w hw))
def wsS9x : List Cond := xStr.map (fun q => Cond.stringRef RX9 q.1 q.2)
set_option maxRecDepth 100000 in
theorem in_wsS9x : ∀ w ∈ wsS9x, w ∈ lw_tbl := (fun w hw => of_decide_eq_true (List.all_eq_true.mp (show wsS9x.all (fun w => decide (w ∈ lw_tbl)) = true by decide +kernel) w hw))
def fsS : List Cond := [.isRef (.static Bundle.tN "UNASSIGNED_STACK" Bundle.steD), .isRef (.static Bundle.tN "SUPPRESSED_SENTINEL" Bundle.listD), .isRef (.mirror "[Ljava/lang/Object;"), .exactly (.static "java/util/ArrayList" "DEFAULTCAPACITY_EMPTY_ELEMENTDATA" "[Ljava/lang/Object;") "[Ljava/lang/Object;", .arrayOf (.static "java/util/ArrayList" "DEFAULTCAPACITY_EMPTY_ELEMENTDATA" "[Ljava/lang/Object;") (.object "java/lang/Object"), .eq (.length (.static "java/util/ArrayList" "DEFAULTCAPACITY_EMPTY_ELEMENTDATA" "[Ljava/lang/Object;")) (.int 0), .not (.castable "java/lang/IndexOutOfBoundsException" "java/lang/IllegalStateException"), .not (.castable "java/lang/IllegalStateException" "java/lang/IndexOutOfBoundsException")]
def inFl (ws : List Cond) : Bool := ws.all (fun w => decide (w ∈ flatC (Jvm.Cond.and given_1 narrow_1)))
theorem inFl_use {a : List Cond} (h : inFl a = true) : ∀ w ∈ a, w ∈ flatC (Jvm.Cond.and given_1 narrow_1) := fun w hw => of_decide_eq_true (List.all_eq_true.mp h w hw)
set_option maxRecDepth 100000 in
theorem in_fsS : ∀ w ∈ fsS, w ∈ flatC (Jvm.Cond.and given_1 narrow_1) := inFl_use (by decide +kernel)
def fsX : List Cond := xStr.map (fun q => Cond.exactly (.string RX9 q.1) "java/lang/String")
set_option maxRecDepth 100000 in
theorem in_fsX : ∀ w ∈ fsX, w ∈ flatC (Jvm.Cond.and given_1 narrow_1) := inFl_use (by decide +kernel)
theorem st_len {args : Array Value} {s : State} {t : Term} {a : Nat} (ht : t.eval args s none [] s = some (.ref a)) (h : (Cond.eq (.length t) (.int 0)).before args s = true) {cell : Cell} (hc : s.heap[a]? = some cell) : cell.slots.size.toInt32 = 0 := by
  cases hq : s.arrayAt? a with
  | none =>
    have e : (Term.length t).eval args s none [] s = none := by simp [Term.eval, ht, hq]
    simp [Cond.before, Cond.holds, Cond.value, e] at h
  | some c9 =>
    obtain ⟨hcb, -, -, -⟩ := State.arrayAt?_spec hq
    cases hcb.symm.trans hc
    by_cases hn : cell.slots.size < 2 ^ 31
    · have e : (Term.length t).eval args s none [] s = some (.int cell.slots.size.toInt32) := by simp [Term.eval, ht, hq, hn]
      have v := Cond.eq_ints (a := .length t) (b := .int 0) e (show (Term.int 0).eval args s none [] s = some (.int 0) from rfl)
      simpa [Cond.before, Cond.holds, v] using h
    · have e : (Term.length t).eval args s none [] s = none := by simp [Term.eval, ht, hq, hn]
      simp [Cond.before, Cond.holds, Cond.value, e] at h
theorem va_AO_any {C : String} {A : Array Value} {U : State} (h : (Cond.arrayOver (.object C)).before A U = true) : va_AO C U := va_AO.of h
theorem st_ex {args : Array Value} {s : State} (hts : ∀ w ∈ lw_tbl, w.before args s = true) (hgv : (Jvm.Cond.and given_1 narrow_1).before args s = true) : kEx (fun q => s.heap.size ≤ q) s s.heap := by
  have hS : ∀ w ∈ wsS9, w.before args s = true := fun w hw => hts w (in_wsS9 w hw)
  have hF : ∀ w ∈ fsS, w.before args s = true := fun w hw => flat_of_before _ hgv w (in_fsS w hw)
  have hA : ∀ a : Nat, a < s.heap.size → ¬ (fun q : Nat => s.heap.size ≤ q) a := fun a h => Nat.not_le.mpr h
  refine ⟨⟨fun q hq => ?_, fun k => ?_, fun n hn => ?_⟩, vx_Zqof (hS _ (List.mem_of_getElem? (i := 19) rfl)) (hS _ (List.mem_of_getElem? (i := 21) rfl)) (hF _ (List.mem_of_getElem? (i := 0) rfl)) hA, vx_Zqof (hS _ (List.mem_of_getElem? (i := 20) rfl)) (hS _ (List.mem_of_getElem? (i := 21) rfl)) (hF _ (List.mem_of_getElem? (i := 1) rfl)) hA, va_Nw.of rfl (hS _ (List.mem_of_getElem? (i := 22) rfl)), va_Mi.of (hF _ (List.mem_of_getElem? (i := 2) rfl)), va_Dc.of (hS _ (List.mem_of_getElem? (i := 23) rfl)), va_AO_any (hS _ (List.mem_of_getElem? (i := 24) rfl)), va_Nw.of rfl (hS _ (List.mem_of_getElem? (i := 26) rfl))⟩
  · have h1 : (Cond.stringRef RX9 q.1 q.2).before args s = true := hts _ (in_wsS9x _ (List.mem_map.mpr ⟨q, hq, rfl⟩))
    have h2 : (Cond.exactly (.string RX9 q.1) "java/lang/String").before args s = true := flat_of_before _ hgv _ (in_fsX _ (List.mem_map.mpr ⟨q, hq, rfl⟩))
    obtain ⟨a, c, cell, k, e1, -⟩ := Cond.exactly_spec h2
    exact ⟨a, vk_R.of h1 e1⟩
  · unfold xN
    by_cases h1 : k = 1
    · rw [if_pos h1]; exact va_Nw.of rfl (hS _ (List.mem_of_getElem? (i := 13) rfl))
    · rw [if_neg h1]
      by_cases h2 : k = 2
      · rw [if_pos h2]; exact va_Nw.of rfl (hS _ (List.mem_of_getElem? (i := 14) rfl))
      · rw [if_neg h2]; exact va_Nw.of rfl (hS _ (List.mem_of_getElem? (i := 15) rfl))
  · have hn : n = "java/lang/RuntimeException" ∨ n = "java/lang/Exception" ∨ n = Bundle.tN := by simpa [xDs] using hn
    rcases hn with rfl | rfl | rfl
    · exact va_Nw.of rfl (hS _ (List.mem_of_getElem? (i := 16) rfl))
    · exact va_Nw.of rfl (hS _ (List.mem_of_getElem? (i := 17) rfl))
    · exact va_Nw.of rfl (hS _ (List.mem_of_getElem? (i := 18) rfl))
theorem st_nc {args : Array Value} {s : State} (hgv : (Jvm.Cond.and given_1 narrow_1).before args s = true) : lNc s := by
  have hF : ∀ w ∈ fsS, w.before args s = true := fun w hw => flat_of_before _ hgv w (in_fsS w hw)
  intro j k hj hk hn
  rcases hj with rfl | rfl <;> rcases hk with rfl | rfl
  · exact absurd rfl hn
  · exact va_Nc.of (hF _ (List.mem_of_getElem? (i := 6) rfl))
  · exact va_Nc.of (hF _ (List.mem_of_getElem? (i := 7) rfl))
  · exact absurd rfl hn
theorem st_e {args : Array Value} {s : State} (hts : ∀ w ∈ lw_tbl, w.before args s = true) (hgv : (Jvm.Cond.and given_1 narrow_1).before args s = true) : ∃ ce : Nat, va_Z "java/util/ArrayList" "DEFAULTCAPACITY_EMPTY_ELEMENTDATA" "[Ljava/lang/Object;" (.ref ce) (fun q => s.heap.size ≤ q) s s.heap ∧ kMt ce s s.heap ∧ ce < s.heap.size := by
  have hS : ∀ w ∈ wsS9, w.before args s = true := fun w hw => hts w (in_wsS9 w hw)
  have hF : ∀ w ∈ fsS, w.before args s = true := fun w hw => flat_of_before _ hgv w (in_fsS w hw)
  have hA : ∀ a : Nat, a < s.heap.size → ¬ (fun q : Nat => s.heap.size ≤ q) a := fun a h => Nat.not_le.mpr h
  obtain ⟨a, c, cell, k, e1, e2, e3, -⟩ := Cond.exactly_spec (hF _ (List.mem_of_getElem? (i := 3) rfl))
  have h5 := Cond.arrayOf_spec (hF _ (List.mem_of_getElem? (i := 4) rfl)) e1 e3
  exact ⟨a, va_Zof (hS _ (List.mem_of_getElem? (i := 27) rfl)) (hS _ (List.mem_of_getElem? (i := 28) rfl)) e1 hA, ⟨cell, e3, h5.1, st_len e1 (hF _ (List.mem_of_getElem? (i := 5) rfl)) e3⟩, (Array.getElem?_eq_some_iff.mp e3).1⟩
theorem st_K {args : Array Value} {s : State} (hts : ∀ w ∈ lw_tbl, w.before args s = true) : ∃ (dC : Nat → ClassId) (dI : Nat → Nat → Nat) (gA : Nat → ClassId), va_K (dC, dI) vwCl [(gA 0, .int), (gA 1, .long), (gA 2, .object "MasterTree$Master"), (gA 3, .object "java/lang/Object")] s := by
  have hS : ∀ w ∈ wsS9, w.before args s = true := fun w hw => hts w (in_wsS9 w hw)
  have hT : ∀ w ∈ wsT, w.before args s = true := fun w hw => hts w (in_wsT w hw)
  obtain ⟨c0, i0, n0⟩ := u_known (C := RJ0) (T := TJ0) (N := 4) (n := 4) hts in_wsJ00 (hS _ (List.mem_of_getElem? (i := 0) rfl))
  obtain ⟨c1, i1, n1⟩ := u_known (C := RJ4) (T := TJ4) (N := 4) (n := 4) hts in_wsJ40 (hS _ (List.mem_of_getElem? (i := 1) rfl))
  obtain ⟨c2, i2, n2⟩ := u_known (C := RJx4a65c) (T := TJx4a65c) (N := 3) (n := 3) hts in_wsJx4a65c0 (hS _ (List.mem_of_getElem? (i := 2) rfl))
  obtain ⟨c3, i3, n3⟩ := u_known (C := RX0) (T := TX0) (N := 9) (n := 9) hts in_wsX00 (hS _ (List.mem_of_getElem? (i := 3) rfl))
  obtain ⟨c4, i4, n4⟩ := u_known (C := RX1) (T := TX1) (N := 3) (n := 3) hts in_wsX10 (hS _ (List.mem_of_getElem? (i := 4) rfl))
  obtain ⟨c5, i5, n5⟩ := u_known (C := RX2) (T := TX2) (N := 7) (n := 7) hts in_wsX20 (hS _ (List.mem_of_getElem? (i := 5) rfl))
  obtain ⟨c6, i6, n6⟩ := u_known (C := RX3) (T := TX3) (N := 8) (n := 8) hts in_wsX30 (hS _ (List.mem_of_getElem? (i := 6) rfl))
  obtain ⟨c7, i7, n7⟩ := u_known (C := RX4) (T := TX4) (N := 6) (n := 6) hts in_wsX40 (hS _ (List.mem_of_getElem? (i := 7) rfl))
  obtain ⟨c8, i8, n8⟩ := u_known (C := RX5) (T := TX5) (N := 2) (n := 2) hts in_wsX50 (hS _ (List.mem_of_getElem? (i := 8) rfl))
  obtain ⟨c9, i9, n9⟩ := u_known (C := RX6) (T := TX6) (N := 2) (n := 2) hts in_wsX60 (hS _ (List.mem_of_getElem? (i := 9) rfl))
  obtain ⟨c10, i10, n10⟩ := u_known (C := RX7) (T := TX7) (N := 7) (n := 7) hts in_wsX70 (hS _ (List.mem_of_getElem? (i := 10) rfl))
  obtain ⟨c11, i11, n11⟩ := u_known (C := RX8) (T := TX8) (N := 12) (n := 12) hts in_wsX80 (hS _ (List.mem_of_getElem? (i := 11) rfl))
  obtain ⟨c12, i12, n12⟩ := u_known (C := RX9) (T := TX9) (N := 8) (n := 8) hts in_wsX90 (hS _ (List.mem_of_getElem? (i := 12) rfl))
  obtain ⟨aI, kI9, pI, a1, a2, a3⟩ := Cond.arrayClass_spec (hT (.arrayClass .int) (kT_C _ kC_14))
  obtain ⟨aJ, kJ9, pJ, b1, b2, b3⟩ := Cond.arrayClass_spec (hT (.arrayClass .long) (kT_C _ kC_87))
  obtain ⟨pM, aM, kM9, m1, -, m2, m3, m4⟩ := Cond.arrayOver_spec (hS _ (List.mem_of_getElem? (i := 25) rfl))
  obtain ⟨pO, aO, kO9, o1, -, o2, o3, o4⟩ := Cond.arrayOver_spec (hS _ (List.mem_of_getElem? (i := 24) rfl))
  refine ⟨fun k => [c0, c1, c2, c3, c4, c5, c6, c7, c8, c9, c10, c11, c12].getD k 0, fun k => [i0, i1, i2, i3, i4, i5, i6, i7, i8, i9, i10, i11, i12].getD k (fun _ => 0), fun k => [aI, aJ, aM, aO].getD k 0, fun k q hq => ?_, fun k q hq => ?_⟩
  · match k, hq with
    | 0, hq => cases hq; exact n0
    | 1, hq => cases hq; exact n1
    | 2, hq => cases hq; exact n2
    | 3, hq => cases hq; exact n3
    | 4, hq => cases hq; exact n4
    | 5, hq => cases hq; exact n5
    | 6, hq => cases hq; exact n6
    | 7, hq => cases hq; exact n7
    | 8, hq => cases hq; exact n8
    | 9, hq => cases hq; exact n9
    | 10, hq => cases hq; exact n10
    | 11, hq => cases hq; exact n11
    | 12, hq => cases hq; exact n12
    | k + 13, hq => simp [vwCl] at hq
  · match k, hq with
    | 0, hq => cases hq; exact ⟨fun n z => ⟨fun k h => (by cases h), kI9, a2, pI, a3⟩, a1⟩
    | 1, hq => cases hq; exact ⟨fun n z => ⟨fun k h => (by cases h), kJ9, b2, pJ, b3⟩, b1⟩
    | 2, hq => cases hq; exact ⟨fun n z => ⟨fun k h => (by cases h), kM9, m2, pM, m3⟩, kM9, pM, m2, m3, m1, m4⟩
    | 3, hq => cases hq; exact ⟨fun n z => ⟨fun k h => (by cases h), kO9, o2, pO, o3⟩, kO9, pO, o2, o3, o1, o4⟩
    | k + 4, hq => simp at hq
theorem hfl_trace (l : Launch) (hflags : l.flags = flags0) : l.stackTraces = false := by
  unfold Launch.stackTraces
  rw [hflags]
  decide +kernel
def lS0 : lS := (fun _ _ => 0, fun _ _ => 0)
section ST
variable {p : Program} {l : Launch} {e : Env} {s : State} {m : MethodId} {args : Array Value} {below : List Frame} {meth : Method} {c : Code} {H : Heap} {locs : List Loc} {C D : Nat} {Q : State → Prop} {ls : Array Slot} {rest : List Value} {dC : Nat → ClassId} {dI : Nat → Nat → Nat} {gA : Nat → ClassId} {ws : va_W} {A : Nat → Prop}
theorem st_newI {n : Int32} {N' : Nat} (hx : p.tables.exec = Jvm.exec) (hb : c.code = code) (hT : ∀ w ∈ wsT, w.before args s = true) (hK : va_K (dC, dI) vwCl [(gA 0, .int), (gA 1, .long), (gA 2, .object "MasterTree$Master"), (gA 3, .object "java/lang/Object")] s) (hA : ∀ q, s.heap.size ≤ q → A q) (I : nWv dC dI A s ws H locs) (pc : Nat) (hdg : decode code pc = .ok (.newarray .int, 2)) (hn : ¬ n < 0) (hN : n.toNatClampNeg = N') (hb2 : N' ≤ 64) (hcs : C + 1 ≤ room_1.cells ∧ D + N' ≤ room_1.slots)
    (kk : ∀ (q : Nat) (H1 : Heap), nWv dC dI A s (ws ++ [(q, .inl (gA 0, N', .inl (fun _ => 0)))]) H1 locs → W p l e room_1 s m args below meth c H1 locs (C + 1) (D + N') Q (F0 m (pc + 2) ls (.ref q :: rest))) : W p l e room_1 s m args below meth c H locs C D Q (F0 m pc ls (.int n :: rest)) := by
  refine va_newa (atype := .int) (ty := .int) (N' := N') (a0 := (N', .inl (fun _ => 0))) hx hb (hT _ (kT_C _ kC_14)) rfl hK I.1 I.2.1 I.2.2 hA (fun cA => rfl) hn hN (Nat.le_trans (Nat.mul_le_mul hb2 (show componentBytes .int ≤ 8 by decide)) (by decide)) hcs.1 hcs.2 hdg (fun q cA H1 hK2 hP hD hS => ?_)
  have hcA : cA = gA 0 := by
    have h1 : s.vm.findClass "[I" = some (gA 0) := (hK2.2 0 (gA 0, .int) rfl).2
    have h2 : s.vm.findClass "[I" = some cA := (hK2.2 4 (cA, .int) rfl).2
    exact Option.some.inj (h2.symm.trans h1)
  subst hcA
  exact kk q H1 ⟨hP, hD, hS⟩
theorem st_newJ {n : Int32} {N' : Nat} (hx : p.tables.exec = Jvm.exec) (hb : c.code = code) (hT : ∀ w ∈ wsT, w.before args s = true) (hK : va_K (dC, dI) vwCl [(gA 0, .int), (gA 1, .long), (gA 2, .object "MasterTree$Master"), (gA 3, .object "java/lang/Object")] s) (hA : ∀ q, s.heap.size ≤ q → A q) (I : nWv dC dI A s ws H locs) (pc : Nat) (hdg : decode code pc = .ok (.newarray .long, 2)) (hn : ¬ n < 0) (hN : n.toNatClampNeg = N') (hb2 : N' ≤ 64) (hcs : C + 1 ≤ room_1.cells ∧ D + N' ≤ room_1.slots)
    (kk : ∀ (q : Nat) (H1 : Heap), nWv dC dI A s (ws ++ [(q, .inl (gA 1, N', .inr (.inl (fun _ => 0))))]) H1 locs → W p l e room_1 s m args below meth c H1 locs (C + 1) (D + N') Q (F0 m (pc + 2) ls (.ref q :: rest))) : W p l e room_1 s m args below meth c H locs C D Q (F0 m pc ls (.int n :: rest)) := by
  refine va_newa (atype := .long) (ty := .long) (N' := N') (a0 := (N', .inr (.inl (fun _ => 0)))) hx hb (hT _ (kT_C _ kC_87)) rfl hK I.1 I.2.1 I.2.2 hA (fun cA => rfl) hn hN (Nat.le_trans (Nat.mul_le_mul hb2 (show componentBytes .long ≤ 8 by decide)) (by decide)) hcs.1 hcs.2 hdg (fun q cA H1 hK2 hP hD hS => ?_)
  have hcA : cA = gA 1 := by
    have h1 : s.vm.findClass "[J" = some (gA 1) := (hK2.2 1 (gA 1, .long) rfl).2
    have h2 : s.vm.findClass "[J" = some cA := (hK2.2 4 (cA, .long) rfl).2
    exact Option.some.inj (h2.symm.trans h1)
  subst hcA
  exact kk q H1 ⟨hP, hD, hS⟩
end ST
set_option maxRecDepth 100000 in
set_option maxHeartbeats 40000000 in
/-- from the pure theorem: on every script the law answers 1 -/
theorem whole_of (hpure : ∀ (xs : Nat → Int32) (n : Nat), n ≤ 260 → ∃ (N : Nat) (S' : kS) (L' : lS), pL_law N n xs kS0 lS0 200 20000 = some (1, S', L')) {p : Program} {e : Env} {s : State} {m : MethodId} {below : List Frame} {meth : Method} {c : Code} (l : Launch) (hflags : l.flags = flags0) {b L : Nat} {xs : Nat → Int32} (hL : L ≤ 260) (C0 : lw_At p s m meth c b L xs) : W p l e room_1 s m #[Value.ref b] below meth c s.heap [] 0 0 (lw_Z below #[Value.ref b] s) (entryFrame m ([Value.ref b] : List Value).toArray 23) := by
  obtain ⟨hx, hb, hr, hml, hown, hts, hX, hbl, hlk, hgv⟩ := C0
  have hown : s.vm.findClass RL = some m.cls := hown
  have hT : ∀ w ∈ wsT, w.before #[Value.ref b] s = true := fun w hw => hts w (in_wsT w hw)
  have hEx := st_ex hts hgv
  have hNc := st_nc hgv
  obtain ⟨ce, hZ, hMt, hce⟩ := st_e hts hgv
  obtain ⟨dC, dI, gA, hK9⟩ := st_K hts
  have hao : va_AO "MasterTree$Master" s := va_AO_any (hts _ (in_wsS9 _ (List.mem_of_getElem? (i := 25) rfl)))
  have hlt := hfl_trace l hflags
  have hA : ∀ q : Nat, s.heap.size ≤ q → (fun q : Nat => s.heap.size ≤ q) q := fun _ h => h
  have hl := lv_entry ([.ref b]) (n := 23) (Nat.le_of_ble_eq_true rfl)
  rw [lg_entry_eq]
  generalize (lg_sl ([.ref b]) ++ List.replicate (23 - (lg_sl ([.ref b])).length) Slot.unset).toArray = ls at hl ⊢
  have hl : lv_has ls 23 [(0, .ref b)] := hl
  have hP : va_P (dC, dI) vwCl [] s.heap := fun k q h => by simp at h
  have hD : va_D (fun q : Nat => s.heap.size ≤ q) [] := ⟨fun i j p q h => by simp at h, fun k q h => by simp at h⟩
  refine va_new (ci := 12) (fs := [.null, .null, .null, .null, .null, .null, .null, .int 0]) (C := RX9) (T := TX9) (N := 8) hx hb hT (fun w hw => kT_C _ (kCl_9.2.1 w hw)) tyX9 tyX9_ok hown (hT _ (kT_208)) (hT _ (kT_209)) (hT _ (kT_C _ kC_466)) hK9 hP hD va_S.rf hA rfl (fun j hj => match j, hj with
    | 0, _ => rfl
    | 1, _ => rfl
    | 2, _ => rfl
    | 3, _ => rfl
    | 4, _ => rfl
    | 5, _ => rfl
    | 6, _ => rfl
    | 7, _ => rfl) (Nat.le_of_ble_eq_true rfl) (Nat.le_of_ble_eq_true rfl) dL_law_0 (fun q0 H hP hD hS => ?_)
  have I : nWv dC dI (fun q => s.heap.size ≤ q) s ([] ++ [(q0, .inr (12, [.null, .null, .null, .null, .null, .null, .null, .int 0]))]) H [] := ⟨hP, hD, hS⟩
  refine lv_dup hx hb dL_law_3 rfl ?_
  refine n_back (mc := 100) (ms := 13277) (rest := [.ref q0]) (ws0 := []) (Po := fun ws' => ∃ ca : Nat → Nat, ca 0 = q0 ∧ ws' = kW (gA, ca, fun _ => 0, fun _ => 0, ce) kS0) I hA (va_runI (As := []) (Ts := wsT) (own := RL) ⟨hx, hb, hml, hown, hT⟩ (n_X9_init l q0 dC dI (gA, fun _ => 0, fun _ => 0, fun _ => 0, ce) H.size) ⟨callB_of 0 hT (lGoodIn (fun w hw => by
      rcases List.mem_cons.mp hw with rfl | hw
      · exact kT_C _ kC_450
      · exact kT_C _ hw)) rfl rfl rfl (hT _ (kT_C _ kC_466)) (hT _ (kT_210)) ⟨by decide +kernel, by decide +kernel, by decide +kernel⟩ (by
      show 4 + 1 ≤ 19 ∧ 8 + (2 + 11) + 40 * 4 ≤ 860
      omega), rfl, hT _ (kT_211)⟩ ⟨n_blind, fun U hU hW2 => ⟨rfl, by rw [hU], by rw [hU]; exact I.1, va_K.moved hW2.alike hK9, I.2.1.weaken (fun _ _ _ _ => trivial), by
      rw [hU]
      exact ⟨(va_Z.moved hW2.alike (hZ.kept I.2.2.2.1)).narrow (fun q hq => nA_of_D (lD_right I.2.1) (fun _ h => h) I.2.2.1 q hq), va_AO.moved hW2.alike hao⟩⟩⟩ rfl rfl hl.1 rfl (lv_room (Nat.le_of_ble_eq_true rfl)) dL_law_4 ⟨Nat.le_of_ble_eq_true rfl, Nat.le_of_ble_eq_true rfl⟩) (fun ws1 H locs hPo I => ?_)
  obtain ⟨ca, hca, rfl⟩ := hPo
  have I : nWv dC dI (fun q => s.heap.size ≤ q) s (kW (gA, ca, fun _ => 0, fun _ => 0, ce) kS0) H locs := I
  refine lv_astore_n (lv' := [(1, .ref q0), (0, .ref b)]) hx hb dL_law_7 rfl hl (by decide) rfl (fun ls hl => ?_)
  refine lv_bipush (v := (20 : Int32)) hx hb dL_law_8 (by decide) ?_
  refine st_newI (N' := 20) hx hb hT hK9 hA I 10 dL_law_10 (by decide) (by decide) (by decide) ⟨Nat.le_of_ble_eq_true rfl, Nat.le_of_ble_eq_true rfl⟩ (fun r0 H I => ?_)
  refine lv_astore_n (lv' := [(2, .ref r0), (1, .ref q0), (0, .ref b)]) hx hb dL_law_12 rfl hl (by decide) rfl (fun ls hl => ?_)
  refine lv_bipush (v := (9 : Int32)) hx hb dL_law_13 (by decide) ?_
  refine st_newI (N' := 9) hx hb hT hK9 hA I 15 dL_law_15 (by decide) (by decide) (by decide) ⟨Nat.le_of_ble_eq_true rfl, Nat.le_of_ble_eq_true rfl⟩ (fun r1 H I => ?_)
  refine lv_astore_n (lv' := [(3, .ref r1), (2, .ref r0), (1, .ref q0), (0, .ref b)]) hx hb dL_law_17 rfl hl (by decide) rfl (fun ls hl => ?_)
  refine lv_bipush (v := (41 : Int32)) hx hb dL_law_18 (by decide) ?_
  refine st_newI (N' := 41) hx hb hT hK9 hA I 20 dL_law_20 (by decide) (by decide) (by decide) ⟨Nat.le_of_ble_eq_true rfl, Nat.le_of_ble_eq_true rfl⟩ (fun r2 H I => ?_)
  refine lv_astore (lv' := [(4, .ref r2), (3, .ref r1), (2, .ref r0), (1, .ref q0), (0, .ref b)]) hx hb dL_law_22 hl (by decide) rfl (fun ls hl => ?_)
  refine lv_bipush (v := (41 : Int32)) hx hb dL_law_24 (by decide) ?_
  refine st_newI (N' := 41) hx hb hT hK9 hA I 26 dL_law_26 (by decide) (by decide) (by decide) ⟨Nat.le_of_ble_eq_true rfl, Nat.le_of_ble_eq_true rfl⟩ (fun r3 H I => ?_)
  refine lv_astore (lv' := [(5, .ref r3), (4, .ref r2), (3, .ref r1), (2, .ref r0), (1, .ref q0), (0, .ref b)]) hx hb dL_law_28 hl (by decide) rfl (fun ls hl => ?_)
  refine lv_bipush (v := (41 : Int32)) hx hb dL_law_30 (by decide) ?_
  refine st_newI (N' := 41) hx hb hT hK9 hA I 32 dL_law_32 (by decide) (by decide) (by decide) ⟨Nat.le_of_ble_eq_true rfl, Nat.le_of_ble_eq_true rfl⟩ (fun r4 H I => ?_)
  refine lv_astore (lv' := [(6, .ref r4), (5, .ref r3), (4, .ref r2), (3, .ref r1), (2, .ref r0), (1, .ref q0), (0, .ref b)]) hx hb dL_law_34 hl (by decide) rfl (fun ls hl => ?_)
  refine lv_bipush (v := (41 : Int32)) hx hb dL_law_36 (by decide) ?_
  refine st_newI (N' := 41) hx hb hT hK9 hA I 38 dL_law_38 (by decide) (by decide) (by decide) ⟨Nat.le_of_ble_eq_true rfl, Nat.le_of_ble_eq_true rfl⟩ (fun r5 H I => ?_)
  refine lv_astore (lv' := [(7, .ref r5), (6, .ref r4), (5, .ref r3), (4, .ref r2), (3, .ref r1), (2, .ref r0), (1, .ref q0), (0, .ref b)]) hx hb dL_law_40 hl (by decide) rfl (fun ls hl => ?_)
  refine lv_bipush (v := (41 : Int32)) hx hb dL_law_42 (by decide) ?_
  refine st_newI (N' := 41) hx hb hT hK9 hA I 44 dL_law_44 (by decide) (by decide) (by decide) ⟨Nat.le_of_ble_eq_true rfl, Nat.le_of_ble_eq_true rfl⟩ (fun r6 H I => ?_)
  refine lv_astore (lv' := [(8, .ref r6), (7, .ref r5), (6, .ref r4), (5, .ref r3), (4, .ref r2), (3, .ref r1), (2, .ref r0), (1, .ref q0), (0, .ref b)]) hx hb dL_law_46 hl (by decide) rfl (fun ls hl => ?_)
  refine lv_bipush (v := (41 : Int32)) hx hb dL_law_48 (by decide) ?_
  refine st_newJ (N' := 41) hx hb hT hK9 hA I 50 dL_law_50 (by decide) (by decide) (by decide) ⟨Nat.le_of_ble_eq_true rfl, Nat.le_of_ble_eq_true rfl⟩ (fun r7 H I => ?_)
  refine lv_astore (lv' := [(9, .ref r7), (8, .ref r6), (7, .ref r5), (6, .ref r4), (5, .ref r3), (4, .ref r2), (3, .ref r1), (2, .ref r0), (1, .ref q0), (0, .ref b)]) hx hb dL_law_52 hl (by decide) rfl (fun ls hl => ?_)
  refine lv_bipush (v := (64 : Int32)) hx hb dL_law_54 (by decide) ?_
  refine st_newI (N' := 64) hx hb hT hK9 hA I 56 dL_law_56 (by decide) (by decide) (by decide) ⟨Nat.le_of_ble_eq_true rfl, Nat.le_of_ble_eq_true rfl⟩ (fun r8 H I => ?_)
  refine lv_astore (lv' := [(10, .ref r8), (9, .ref r7), (8, .ref r6), (7, .ref r5), (6, .ref r4), (5, .ref r3), (4, .ref r2), (3, .ref r1), (2, .ref r0), (1, .ref q0), (0, .ref b)]) hx hb dL_law_58 hl (by decide) rfl (fun ls hl => ?_)
  refine lv_bipush (v := (36 : Int32)) hx hb dL_law_60 (by decide) ?_
  refine st_newI (N' := 36) hx hb hT hK9 hA I 62 dL_law_62 (by decide) (by decide) (by decide) ⟨Nat.le_of_ble_eq_true rfl, Nat.le_of_ble_eq_true rfl⟩ (fun r9 H I => ?_)
  refine lv_astore (lv' := [(11, .ref r9), (10, .ref r8), (9, .ref r7), (8, .ref r6), (7, .ref r5), (6, .ref r4), (5, .ref r3), (4, .ref r2), (3, .ref r1), (2, .ref r0), (1, .ref q0), (0, .ref b)]) hx hb dL_law_64 hl (by decide) rfl (fun ls hl => ?_)
  refine lv_bipush (v := (36 : Int32)) hx hb dL_law_66 (by decide) ?_
  refine st_newJ (N' := 36) hx hb hT hK9 hA I 68 dL_law_68 (by decide) (by decide) (by decide) ⟨Nat.le_of_ble_eq_true rfl, Nat.le_of_ble_eq_true rfl⟩ (fun r10 H I => ?_)
  refine lv_astore (lv' := [(12, .ref r10), (11, .ref r9), (10, .ref r8), (9, .ref r7), (8, .ref r6), (7, .ref r5), (6, .ref r4), (5, .ref r3), (4, .ref r2), (3, .ref r1), (2, .ref r0), (1, .ref q0), (0, .ref b)]) hx hb dL_law_70 hl (by decide) rfl (fun ls hl => ?_)
  refine lv_iconst (v := (4 : Int32)) hx hb dL_law_72 (by decide) ?_
  refine st_newI (N' := 4) hx hb hT hK9 hA I 73 dL_law_73 (by decide) (by decide) (by decide) ⟨Nat.le_of_ble_eq_true rfl, Nat.le_of_ble_eq_true rfl⟩ (fun r11 H I => ?_)
  refine lv_astore (lv' := [(13, .ref r11), (12, .ref r10), (11, .ref r9), (10, .ref r8), (9, .ref r7), (8, .ref r6), (7, .ref r5), (6, .ref r4), (5, .ref r3), (4, .ref r2), (3, .ref r1), (2, .ref r0), (1, .ref q0), (0, .ref b)]) hx hb dL_law_75 hl (by decide) rfl (fun ls hl => ?_)
  refine lv_bipush (v := (64 : Int32)) hx hb dL_law_77 (by decide) ?_
  refine st_newI (N' := 64) hx hb hT hK9 hA I 79 dL_law_79 (by decide) (by decide) (by decide) ⟨Nat.le_of_ble_eq_true rfl, Nat.le_of_ble_eq_true rfl⟩ (fun r12 H I => ?_)
  refine lv_astore (lv' := [(14, .ref r12), (13, .ref r11), (12, .ref r10), (11, .ref r9), (10, .ref r8), (9, .ref r7), (8, .ref r6), (7, .ref r5), (6, .ref r4), (5, .ref r3), (4, .ref r2), (3, .ref r1), (2, .ref r0), (1, .ref q0), (0, .ref b)]) hx hb dL_law_81 hl (by decide) rfl (fun ls hl => ?_)
  obtain ⟨N, S', L', hgo⟩ := hpure xs L hL
  have I2 : nWv dC dI (fun q => s.heap.size ≤ q) s (lWd (gA, ca, fun _ => 0, fun _ => 0, ce) (fun k => [r0, r1, r2, r3, r4, r5, r6, r7, r8, r9, r10, r11, r12].getD k 0) kS0 lS0) H locs := by
    refine I.perm ?_
    simp only [List.append_assoc]
    exact List.perm_append_comm
  have X : lX l p s m meth c code 23 #[Value.ref b] dC dI (gA, ca, fun _ => 0, fun _ => 0, ce) (fun q => s.heap.size ≤ q) kS0 := ⟨hx, hb, hml, hown, hT, hK9, hlk, hA, hlt, hEx, fun _ => ⟨hZ, hMt, Nat.not_le.mpr hce⟩, hNc⟩
  have V : lV dC dI (gA, ca, fun _ => 0, fun _ => 0, ce) (fun k => [r0, r1, r2, r3, r4, r5, r6, r7, r8, r9, r10, r11, r12].getD k 0) (fun q => s.heap.size ≤ q) s kS0 kS0 lS0 H locs := ⟨fun _ => 0, fun _ => 0, ce, ⟨Nat.le_refl _, fun _ _ => rfl, fun h => ⟨h, rfl⟩⟩, I2.1, I2.2.1, I2.2.2⟩
  refine W.widen (k := 200) (n := 20000) (Nat.le_of_ble_eq_true rfl) (Nat.le_of_ble_eq_true rfl) ?_
  refine w_law hlt N L b xs (g := (gA, ca, fun _ => 0, fun _ => 0, ce)) (a := fun k => [r0, r1, r2, r3, r4, r5, r6, r7, r8, r9, r10, r11, r12].getD k 0) X hr hX hbl kS0 lS0 200 20000 ⟨Nat.le_of_ble_eq_true rfl, Nat.le_of_ble_eq_true rfl⟩ H locs V ls ?_ hgo
  rw [← hca] at hl
  exact lv_sub hl [14, 13, 12, 11, 10, 9, 8, 7, 6, 5, 4, 3, 2, 1, 0] rfl
