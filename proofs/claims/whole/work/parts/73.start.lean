def wsS9 : List Cond := [.instantiable RJ0 4, .instantiable RJ4 4, .instantiable RJx4a65c 3, .instantiable RX0 9, .instantiable RX1 3, .instantiable RX2 7, .instantiable RX3 8, .instantiable RX4 6, .instantiable RX5 2, .instantiable RX6 2, .instantiable RX7 7, .instantiable RX8 12, .instantiable RX9 8, .instantiable RX10 67, .castable "java/lang/IndexOutOfBoundsException" "java/lang/IndexOutOfBoundsException", .castable "java/lang/IllegalArgumentException" "java/lang/IllegalArgumentException", .castable "java/lang/IllegalStateException" "java/lang/IllegalStateException", .declares (Bundle.initS "java/lang/RuntimeException"), .declares (Bundle.initS "java/lang/Exception"), .declares (Bundle.initS Bundle.tN), .laysStatic Bundle.tN "UNASSIGNED_STACK" Bundle.steD, .laysStatic Bundle.tN "SUPPRESSED_SENTINEL" Bundle.listD, .initialized Bundle.tN, .castable "[I" "java/lang/Cloneable", .declares ⟨"java/lang/Object", "getClass", "()Ljava/lang/Class;"⟩, .arrayOver (.object "java/lang/Object"), .arrayOver (.object "MasterTree$Master"), .castable RX0 "java/lang/Object", .laysStatic "java/util/ArrayList" "DEFAULTCAPACITY_EMPTY_ELEMENTDATA" "[Ljava/lang/Object;", .initialized "java/util/ArrayList"]
set_option maxRecDepth 100000 in
theorem in_wsS9 : ∀ w ∈ wsS9, w ∈ lw_tbl := inTbl_use (by decide +kernel)
def wsS9x : List Cond := xStr.map (fun q => Cond.stringRef RX9 q.1 q.2)
set_option maxRecDepth 100000 in
theorem in_wsS9x : ∀ w ∈ wsS9x, w ∈ lw_tbl := inTbl_use (by decide +kernel)
def fsS : List Cond := [.isRef (.static Bundle.tN "UNASSIGNED_STACK" Bundle.steD), .isRef (.static Bundle.tN "SUPPRESSED_SENTINEL" Bundle.listD), .isRef (.mirror "[Ljava/lang/Object;"), .exactly (.static "java/util/ArrayList" "DEFAULTCAPACITY_EMPTY_ELEMENTDATA" "[Ljava/lang/Object;") "[Ljava/lang/Object;", .arrayOf (.static "java/util/ArrayList" "DEFAULTCAPACITY_EMPTY_ELEMENTDATA" "[Ljava/lang/Object;") (.object "java/lang/Object"), .eq (.length (.static "java/util/ArrayList" "DEFAULTCAPACITY_EMPTY_ELEMENTDATA" "[Ljava/lang/Object;")) (.int 0), .not (.castable "java/lang/IndexOutOfBoundsException" "java/lang/IllegalArgumentException"), .not (.castable "java/lang/IndexOutOfBoundsException" "java/lang/IllegalStateException"), .not (.castable "java/lang/IllegalArgumentException" "java/lang/IndexOutOfBoundsException"), .not (.castable "java/lang/IllegalArgumentException" "java/lang/IllegalStateException"), .not (.castable "java/lang/IllegalStateException" "java/lang/IndexOutOfBoundsException"), .not (.castable "java/lang/IllegalStateException" "java/lang/IllegalArgumentException")]
def inFl (ws : List Cond) : Bool := ws.all (fun w => decide (w ∈ flatC (Jvm.Cond.and given_1 narrow_1)))
theorem inFl_use {a : List Cond} (h : inFl a = true) : ∀ w ∈ a, w ∈ flatC (Jvm.Cond.and given_1 narrow_1) := fun w hw => of_decide_eq_true (List.all_eq_true.mp h w hw)
set_option maxRecDepth 100000 in
theorem in_fsS : ∀ w ∈ fsS, w ∈ flatC (Jvm.Cond.and given_1 narrow_1) := inFl_use (by decide +kernel)
def fsX : List Cond := xStr.map (fun q => Cond.exactly (.string RX9 q.1) "java/lang/String")
set_option maxRecDepth 100000 in
theorem in_fsX : ∀ w ∈ fsX, w ∈ flatC (Jvm.Cond.and given_1 narrow_1) := inFl_use (by decide +kernel)
theorem st_len {args : Array Value} {s : State} {t : Term} {a : Nat} (ht : t.eval args s none [] s = some (.ref a)) (h : (Cond.eq (.length t) (.int 0)).before args s = true) {cell : Cell} (hc : s.heap[a]? = some cell) : cell.slots.size.toInt32 = 0 := by
  cases hq : s.arrayAt? a with
  | none =>
    have e : (Term.length t).eval args s none [] s = none := by simp [Term.eval, ht, hq]
    simp [Cond.before, Cond.holds, Cond.value, e] at h
  | some c9 =>
    obtain ⟨hcb, -, -, -⟩ := State.arrayAt?_spec hq
    cases hcb.symm.trans hc
    by_cases hn : cell.slots.size < 2 ^ 31
    · have e : (Term.length t).eval args s none [] s = some (.int cell.slots.size.toInt32) := by simp [Term.eval, ht, hq, hn]
      have v := Cond.eq_ints (a := .length t) (b := .int 0) e (show (Term.int 0).eval args s none [] s = some (.int 0) from rfl)
      simpa [Cond.before, Cond.holds, v] using h
    · have e : (Term.length t).eval args s none [] s = none := by simp [Term.eval, ht, hq, hn]
      simp [Cond.before, Cond.holds, Cond.value, e] at h
theorem va_AO_any {C : String} {A : Array Value} {U : State} (h : (Cond.arrayOver (.object C)).before A U = true) : va_AO C U := va_AO.of h
theorem st_ex {args : Array Value} {s : State} (hts : ∀ w ∈ lw_tbl, w.before args s = true) (hgv : (Jvm.Cond.and given_1 narrow_1).before args s = true) : kEx (fun q => s.heap.size ≤ q) s s.heap := by
  have hS : ∀ w ∈ wsS9, w.before args s = true := fun w hw => hts w (in_wsS9 w hw)
  have hF : ∀ w ∈ fsS, w.before args s = true := fun w hw => flat_of_before _ hgv w (in_fsS w hw)
  have hA : ∀ a : Nat, a < s.heap.size → ¬ (fun q : Nat => s.heap.size ≤ q) a := fun a h => Nat.not_le.mpr h
  refine ⟨⟨fun q hq => ?_, fun k => ?_, fun n hn => ?_⟩, vx_Zqof (hS _ (List.mem_of_getElem? (i := 20) rfl)) (hS _ (List.mem_of_getElem? (i := 22) rfl)) (hF _ (List.mem_of_getElem? (i := 0) rfl)) hA, vx_Zqof (hS _ (List.mem_of_getElem? (i := 21) rfl)) (hS _ (List.mem_of_getElem? (i := 22) rfl)) (hF _ (List.mem_of_getElem? (i := 1) rfl)) hA, va_Nw.of rfl (hS _ (List.mem_of_getElem? (i := 23) rfl)), va_Mi.of (hF _ (List.mem_of_getElem? (i := 2) rfl)), va_Dc.of (hS _ (List.mem_of_getElem? (i := 24) rfl)), va_AO_any (hS _ (List.mem_of_getElem? (i := 25) rfl)), va_Nw.of rfl (hS _ (List.mem_of_getElem? (i := 27) rfl))⟩
  · have h1 : (Cond.stringRef RX9 q.1 q.2).before args s = true := hts _ (in_wsS9x _ (List.mem_map.mpr ⟨q, hq, rfl⟩))
    have h2 : (Cond.exactly (.string RX9 q.1) "java/lang/String").before args s = true := flat_of_before _ hgv _ (in_fsX _ (List.mem_map.mpr ⟨q, hq, rfl⟩))
    obtain ⟨a, c, cell, k, e1, -⟩ := Cond.exactly_spec h2
    exact ⟨a, vk_R.of h1 e1⟩
  · unfold xN
    by_cases h1 : k = 1
    · rw [if_pos h1]; exact va_Nw.of rfl (hS _ (List.mem_of_getElem? (i := 14) rfl))
    · rw [if_neg h1]
      by_cases h2 : k = 2
      · rw [if_pos h2]; exact va_Nw.of rfl (hS _ (List.mem_of_getElem? (i := 15) rfl))
      · rw [if_neg h2]; exact va_Nw.of rfl (hS _ (List.mem_of_getElem? (i := 16) rfl))
  · have hn : n = "java/lang/RuntimeException" ∨ n = "java/lang/Exception" ∨ n = Bundle.tN := by simpa [xDs] using hn
    rcases hn with rfl | rfl | rfl
    · exact va_Nw.of rfl (hS _ (List.mem_of_getElem? (i := 17) rfl))
    · exact va_Nw.of rfl (hS _ (List.mem_of_getElem? (i := 18) rfl))
    · exact va_Nw.of rfl (hS _ (List.mem_of_getElem? (i := 19) rfl))
theorem st_nc {args : Array Value} {s : State} (hgv : (Jvm.Cond.and given_1 narrow_1).before args s = true) : lNc s := by
  have hF : ∀ w ∈ fsS, w.before args s = true := fun w hw => flat_of_before _ hgv w (in_fsS w hw)
  intro j k hj hk hn
  rcases hj with rfl | rfl | rfl <;> rcases hk with rfl | rfl | rfl
  · exact absurd rfl hn
  · exact va_Nc.of (hF _ (List.mem_of_getElem? (i := 6) rfl))
  · exact va_Nc.of (hF _ (List.mem_of_getElem? (i := 7) rfl))
  · exact va_Nc.of (hF _ (List.mem_of_getElem? (i := 8) rfl))
  · exact absurd rfl hn
  · exact va_Nc.of (hF _ (List.mem_of_getElem? (i := 9) rfl))
  · exact va_Nc.of (hF _ (List.mem_of_getElem? (i := 10) rfl))
  · exact va_Nc.of (hF _ (List.mem_of_getElem? (i := 11) rfl))
  · exact absurd rfl hn
theorem st_e {args : Array Value} {s : State} (hts : ∀ w ∈ lw_tbl, w.before args s = true) (hgv : (Jvm.Cond.and given_1 narrow_1).before args s = true) : ∃ ce : Nat, va_Z "java/util/ArrayList" "DEFAULTCAPACITY_EMPTY_ELEMENTDATA" "[Ljava/lang/Object;" (.ref ce) (fun q => s.heap.size ≤ q) s s.heap ∧ kMt ce s s.heap ∧ ce < s.heap.size := by
  have hS : ∀ w ∈ wsS9, w.before args s = true := fun w hw => hts w (in_wsS9 w hw)
  have hF : ∀ w ∈ fsS, w.before args s = true := fun w hw => flat_of_before _ hgv w (in_fsS w hw)
  have hA : ∀ a : Nat, a < s.heap.size → ¬ (fun q : Nat => s.heap.size ≤ q) a := fun a h => Nat.not_le.mpr h
  obtain ⟨a, c, cell, k, e1, e2, e3, -⟩ := Cond.exactly_spec (hF _ (List.mem_of_getElem? (i := 3) rfl))
  have h5 := Cond.arrayOf_spec (hF _ (List.mem_of_getElem? (i := 4) rfl)) e1 e3
  exact ⟨a, va_Zof (hS _ (List.mem_of_getElem? (i := 28) rfl)) (hS _ (List.mem_of_getElem? (i := 29) rfl)) e1 hA, ⟨cell, e3, h5.1, st_len e1 (hF _ (List.mem_of_getElem? (i := 5) rfl)) e3⟩, (Array.getElem?_eq_some_iff.mp e3).1⟩
theorem st_K {args : Array Value} {s : State} (hts : ∀ w ∈ lw_tbl, w.before args s = true) : ∃ (dC : Nat → ClassId) (dI : Nat → Nat → Nat) (gA : Nat → ClassId) (cZ : ClassId), va_K (dC, dI) vwCl (gTy gA cZ) s := by
  have hS : ∀ w ∈ wsS9, w.before args s = true := fun w hw => hts w (in_wsS9 w hw)
  have hT : ∀ w ∈ wsT, w.before args s = true := fun w hw => hts w (in_wsT w hw)
  obtain ⟨c0, i0, n0⟩ := u_known (C := RJ0) (T := TJ0) (N := 4) (n := 4) hts in_wsJ00 (hS _ (List.mem_of_getElem? (i := 0) rfl))
  obtain ⟨c1, i1, n1⟩ := u_known (C := RJ4) (T := TJ4) (N := 4) (n := 4) hts in_wsJ40 (hS _ (List.mem_of_getElem? (i := 1) rfl))
  obtain ⟨c2, i2, n2⟩ := u_known (C := RJx4a65c) (T := TJx4a65c) (N := 3) (n := 3) hts in_wsJx4a65c0 (hS _ (List.mem_of_getElem? (i := 2) rfl))
  obtain ⟨c3, i3, n3⟩ := u_known (C := RX0) (T := TX0) (N := 9) (n := 9) hts in_wsX00 (hS _ (List.mem_of_getElem? (i := 3) rfl))
  obtain ⟨c4, i4, n4⟩ := u_known (C := RX1) (T := TX1) (N := 3) (n := 3) hts in_wsX10 (hS _ (List.mem_of_getElem? (i := 4) rfl))
  obtain ⟨c5, i5, n5⟩ := u_known (C := RX2) (T := TX2) (N := 7) (n := 7) hts in_wsX20 (hS _ (List.mem_of_getElem? (i := 5) rfl))
  obtain ⟨c6, i6, n6⟩ := u_known (C := RX3) (T := TX3) (N := 8) (n := 8) hts in_wsX30 (hS _ (List.mem_of_getElem? (i := 6) rfl))
  obtain ⟨c7, i7, n7⟩ := u_known (C := RX4) (T := TX4) (N := 6) (n := 6) hts in_wsX40 (hS _ (List.mem_of_getElem? (i := 7) rfl))
  obtain ⟨c8, i8, n8⟩ := u_known (C := RX5) (T := TX5) (N := 2) (n := 2) hts in_wsX50 (hS _ (List.mem_of_getElem? (i := 8) rfl))
  obtain ⟨c9, i9, n9⟩ := u_known (C := RX6) (T := TX6) (N := 2) (n := 2) hts in_wsX60 (hS _ (List.mem_of_getElem? (i := 9) rfl))
  obtain ⟨c10, i10, n10⟩ := u_known (C := RX7) (T := TX7) (N := 7) (n := 7) hts in_wsX70 (hS _ (List.mem_of_getElem? (i := 10) rfl))
  obtain ⟨c11, i11, n11⟩ := u_known (C := RX8) (T := TX8) (N := 12) (n := 12) hts in_wsX80 (hS _ (List.mem_of_getElem? (i := 11) rfl))
  obtain ⟨c12, i12, n12⟩ := u_known (C := RX9) (T := TX9) (N := 8) (n := 8) hts in_wsX90 (hS _ (List.mem_of_getElem? (i := 12) rfl))
  obtain ⟨c13, i13, n13⟩ := u_known (C := RX10) (T := TX10) (N := 67) (n := 67) hts in_wsX100 (hS _ (List.mem_of_getElem? (i := 13) rfl))
  obtain ⟨aI, kI9, pI, a1, a2, a3⟩ := Cond.arrayClass_spec (hT (.arrayClass .int) (kT_C _ kC_14))
  obtain ⟨aJ, kJ9, pJ, b1, b2, b3⟩ := Cond.arrayClass_spec (hT (.arrayClass .long) (kT_C _ kC_87))
  obtain ⟨aZ, kZ9, pZ, z1, z2, z3⟩ := Cond.arrayClass_spec (hT (.arrayClass .boolean) (kT_M _ kM_3))
  obtain ⟨pM, aM, kM9, m1, -, m2, m3, m4⟩ := Cond.arrayOver_spec (hS _ (List.mem_of_getElem? (i := 26) rfl))
  obtain ⟨pO, aO, kO9, o1, -, o2, o3, o4⟩ := Cond.arrayOver_spec (hS _ (List.mem_of_getElem? (i := 25) rfl))
  refine ⟨fun k => [c0, c1, c2, c3, c4, c5, c6, c7, c8, c9, c10, c11, c12, c13].getD k 0, fun k => [i0, i1, i2, i3, i4, i5, i6, i7, i8, i9, i10, i11, i12, i13].getD k (fun _ => 0), fun k => [aI, aJ, aM, aO].getD k 0, aZ, fun k q hq => ?_, fun k q hq => ?_⟩
  · match k, hq with
    | 0, hq => cases hq; exact n0
    | 1, hq => cases hq; exact n1
    | 2, hq => cases hq; exact n2
    | 3, hq => cases hq; exact n3
    | 4, hq => cases hq; exact n4
    | 5, hq => cases hq; exact n5
    | 6, hq => cases hq; exact n6
    | 7, hq => cases hq; exact n7
    | 8, hq => cases hq; exact n8
    | 9, hq => cases hq; exact n9
    | 10, hq => cases hq; exact n10
    | 11, hq => cases hq; exact n11
    | 12, hq => cases hq; exact n12
    | 13, hq => cases hq; exact n13
    | k + 14, hq => simp [vwCl] at hq
  · match k, hq with
    | 0, hq => cases hq; exact ⟨fun n z => ⟨fun k h => (by cases h), kI9, a2, pI, a3⟩, a1⟩
    | 1, hq => cases hq; exact ⟨fun n z => ⟨fun k h => (by cases h), kJ9, b2, pJ, b3⟩, b1⟩
    | 2, hq => cases hq; exact ⟨fun n z => ⟨fun k h => (by cases h), kM9, m2, pM, m3⟩, kM9, pM, m2, m3, m1, m4⟩
    | 3, hq => cases hq; exact ⟨fun n z => ⟨fun k h => (by cases h), kO9, o2, pO, o3⟩, kO9, pO, o2, o3, o1, o4⟩
    | 4, hq => cases hq; exact ⟨fun n z => ⟨fun k h => (by cases h), kZ9, z2, pZ, z3⟩, z1⟩
    | k + 5, hq => simp [gTy] at hq
theorem perm_w {α : Type} (A B : List α) (x : α) : ((A ++ B) ++ [x]).Perm (B ++ ([x] ++ A)) := by
  classical
  rw [List.perm_iff_count]
  intro y
  simp only [List.count_append]
  omega
theorem hfl_trace (l : Launch) (hflags : l.flags = flags0) : l.stackTraces = false := by
  unfold Launch.stackTraces
  rw [hflags]
  decide +kernel
set_option maxRecDepth 100000 in
set_option maxHeartbeats 40000000 in
/-- from the pure theorem: on every script both answer alike -/
theorem whole_of (hpure : ∀ (xs : Nat → Int32) (n : Nat), n ≤ 512 → ∃ (N : Nat) (Z' : gZ), gGo N xs n 0 gZ0 = some Z') {p : Program} {e : Env} {s : State} {m : MethodId} {below : List Frame} {meth : Method} {c : Code} (l : Launch) (hflags : l.flags = flags0) {b L : Nat} {xs : Nat → Int32} (hL : L ≤ 3584) (C0 : lw_At p s m meth c b L xs) : W p l e room_1 s m #[Value.ref b] below meth c s.heap [] 0 0 (lw_Z below #[Value.ref b] s) (entryFrame m ([Value.ref b] : List Value).toArray 7) := by
  obtain ⟨hx, hb, hr, hml, hown, hts, hX, hbl, hlk, hgv⟩ := C0
  have hown : s.vm.findClass RL = some m.cls := hown
  have hT : ∀ w ∈ wsT, w.before #[Value.ref b] s = true := fun w hw => hts w (in_wsT w hw)
  have hEx := st_ex hts hgv
  have hNc := st_nc hgv
  obtain ⟨ce, hZ, hMt, hce⟩ := st_e hts hgv
  obtain ⟨dC, dI, gA, cZ, hK⟩ := st_K hts
  have hao : va_AO "MasterTree$Master" s := va_AO_any (hts _ (in_wsS9 _ (List.mem_of_getElem? (i := 26) rfl)))
  have hlt := hfl_trace l hflags
  have hA : ∀ q : Nat, s.heap.size ≤ q → (fun q : Nat => s.heap.size ≤ q) q := fun _ h => h
  have hX0 : gX p s m meth c b L xs dC dI gA cZ := ⟨hx, hb, hml, hown, hT, hX, hbl, hK, hEx, hNc⟩
  have hK9 : va_K (dC, dI) vwCl [(gA 0, .int), (gA 1, .long), (gA 2, .object "MasterTree$Master"), (gA 3, .object "java/lang/Object")] s := hK.sub [0, 1, 2, 3] rfl
  have hKm : va_K (dC, dI) vwCl [(gA 0, .int), (cZ, .boolean)] s := hK.sub [0, 4] rfl
  have hl := lv_entry ([.ref b]) (n := 7) (Nat.le_of_ble_eq_true rfl)
  rw [lg_entry_eq]
  generalize (lg_sl ([.ref b]) ++ List.replicate (7 - (lg_sl ([.ref b])).length) Slot.unset).toArray = ls at hl ⊢
  have hl : lv_has ls 7 [(0, .ref b)] := hl
  have hP : va_P (dC, dI) vwCl [] s.heap := fun k q h => by simp at h
  have hD : va_D (fun q : Nat => s.heap.size ≤ q) [] := ⟨fun i j p q h => by simp at h, fun k q h => by simp at h⟩
  refine va_new (ci := 12) (fs := [.null, .null, .null, .null, .null, .null, .null, .int 0]) (C := RX9) (T := TX9) (N := 8) hx hb hT (fun w hw => kT_C _ (kCl_9.2.1 w hw)) tyX9 tyX9_ok hown (hT _ (kT_143)) (hT _ (kT_144)) (hT _ (kT_C _ kC_475)) hK9 hP hD va_S.rf hA rfl (fun j hj => match j, hj with
    | 0, _ => rfl
    | 1, _ => rfl
    | 2, _ => rfl
    | 3, _ => rfl
    | 4, _ => rfl
    | 5, _ => rfl
    | 6, _ => rfl
    | 7, _ => rfl) (Nat.le_of_ble_eq_true rfl) (Nat.le_of_ble_eq_true rfl) dL_law_0 (fun q0 H hP hD hS => ?_)
  have I : nWv dC dI (fun q => s.heap.size ≤ q) s ([] ++ [(q0, .inr (12, [.null, .null, .null, .null, .null, .null, .null, .int 0]))]) H [] := ⟨hP, hD, hS⟩
  refine lv_dup hx hb dL_law_3 rfl ?_
  refine n_back (mc := 100) (ms := 13277) (rest := [.ref q0]) (ws0 := []) (Po := fun ws' => ∃ ca : Nat → Nat, ca 0 = q0 ∧ ws' = kW (gA, ca, fun _ => 0, fun _ => 0, ce) kS0) I hA (va_runI (As := []) (Ts := wsT) (own := RL) ⟨hx, hb, hml, hown, hT⟩ (n_X9_init l q0 dC dI (gA, fun _ => 0, fun _ => 0, fun _ => 0, ce) H.size) ⟨callB_of 0 hT (lGoodIn (fun w hw => by
      rcases List.mem_cons.mp hw with rfl | hw
      · exact kT_C _ kC_459
      · exact kT_C _ hw)) rfl rfl rfl (hT _ (kT_C _ kC_475)) (hT _ (kT_147)) ⟨by decide +kernel, by decide +kernel, by decide +kernel⟩ (by
      show 4 + 1 ≤ 2048 ∧ 8 + (2 + 11) + 40 * 4 ≤ 84000
      omega), rfl, hT _ (kT_148)⟩ ⟨n_blind, fun U hU hW2 => ⟨rfl, by rw [hU], by rw [hU]; exact I.1, va_K.moved hW2.alike hK9, I.2.1.weaken (fun _ _ _ _ => trivial), by
      rw [hU]
      exact ⟨(va_Z.moved hW2.alike (hZ.kept I.2.2.2.1)).narrow (fun q hq => nA_of_D (lD_right I.2.1) (fun _ h => h) I.2.2.1 q hq), va_AO.moved hW2.alike hao⟩⟩⟩ rfl rfl hl.1 rfl (lv_room (Nat.le_of_ble_eq_true rfl)) dL_law_4 ⟨Nat.le_of_ble_eq_true rfl, Nat.le_of_ble_eq_true rfl⟩) (fun ws1 H locs hPo I => ?_)
  obtain ⟨ca, hca, rfl⟩ := hPo
  have I : nWv dC dI (fun q => s.heap.size ≤ q) s (kW (gA, ca, fun _ => 0, fun _ => 0, ce) kS0) H locs := I
  refine lv_astore_n (lv' := [(1, .ref q0), (0, .ref b)]) hx hb dL_law_7 rfl hl (by decide) rfl (fun ls hl => ?_)
  refine va_new (ci := 13) (fs := [.int 0, .int 0, .null, .null, .int 0, .null, .null, .null, .int 0, .null, .null, .int 0, .null, .null, .null, .null, .int 0, .null, .null, .null, .null, .int 0, .int 0, .null, .null, .null, .null, .null, .null, .null, .null, .int 0, .null, .null, .null, .null, .null, .int 0, .null, .null, .null, .null, .null, .null, .null, .null, .null, .int 0, .null, .null, .null, .null, .int 0, .null, .int 0, .null, .null, .null, .null, .null, .null, .null, .int 0, .null, .null, .null, .null]) (C := RX10) (T := TX10) (N := 67) hx hb hT (fun w hw => kT_M _ (kM_lay w hw)) tyX10 tyX10_ok hown (hT _ (kT_145)) (hT _ (kT_146)) (hT _ (kT_M _ kM_68)) hK9 I.1 I.2.1 I.2.2 hA rfl (fun j hj => match j, hj with
    | 0, _ => rfl
    | 1, _ => rfl
    | 2, _ => rfl
    | 3, _ => rfl
    | 4, _ => rfl
    | 5, _ => rfl
    | 6, _ => rfl
    | 7, _ => rfl
    | 8, _ => rfl
    | 9, _ => rfl
    | 10, _ => rfl
    | 11, _ => rfl
    | 12, _ => rfl
    | 13, _ => rfl
    | 14, _ => rfl
    | 15, _ => rfl
    | 16, _ => rfl
    | 17, _ => rfl
    | 18, _ => rfl
    | 19, _ => rfl
    | 20, _ => rfl
    | 21, _ => rfl
    | 22, _ => rfl
    | 23, _ => rfl
    | 24, _ => rfl
    | 25, _ => rfl
    | 26, _ => rfl
    | 27, _ => rfl
    | 28, _ => rfl
    | 29, _ => rfl
    | 30, _ => rfl
    | 31, _ => rfl
    | 32, _ => rfl
    | 33, _ => rfl
    | 34, _ => rfl
    | 35, _ => rfl
    | 36, _ => rfl
    | 37, _ => rfl
    | 38, _ => rfl
    | 39, _ => rfl
    | 40, _ => rfl
    | 41, _ => rfl
    | 42, _ => rfl
    | 43, _ => rfl
    | 44, _ => rfl
    | 45, _ => rfl
    | 46, _ => rfl
    | 47, _ => rfl
    | 48, _ => rfl
    | 49, _ => rfl
    | 50, _ => rfl
    | 51, _ => rfl
    | 52, _ => rfl
    | 53, _ => rfl
    | 54, _ => rfl
    | 55, _ => rfl
    | 56, _ => rfl
    | 57, _ => rfl
    | 58, _ => rfl
    | 59, _ => rfl
    | 60, _ => rfl
    | 61, _ => rfl
    | 62, _ => rfl
    | 63, _ => rfl
    | 64, _ => rfl
    | 65, _ => rfl
    | 66, _ => rfl
    | n9 + 67, h => absurd h (by omega)) (Nat.le_of_ble_eq_true rfl) (Nat.le_of_ble_eq_true rfl) dL_law_8 (fun q1 H hP hD hS => ?_)
  have I : nWv dC dI (fun q => s.heap.size ≤ q) s (kW (gA, ca, fun _ => 0, fun _ => 0, ce) kS0 ++ [(q1, .inr (13, [.int 0, .int 0, .null, .null, .int 0, .null, .null, .null, .int 0, .null, .null, .int 0, .null, .null, .null, .null, .int 0, .null, .null, .null, .null, .int 0, .int 0, .null, .null, .null, .null, .null, .null, .null, .null, .int 0, .null, .null, .null, .null, .null, .int 0, .null, .null, .null, .null, .null, .null, .null, .null, .null, .int 0, .null, .null, .null, .null, .int 0, .null, .int 0, .null, .null, .null, .null, .null, .null, .null, .int 0, .null, .null, .null, .null]))]) H locs := ⟨hP, hD, hS⟩
  refine lv_dup hx hb dL_law_11 rfl ?_
  refine n_back (mc := 53) (ms := 42882) (rest := [.ref q1]) (ws0 := kW (gA, ca, fun _ => 0, fun _ => 0, ce) kS0) (Po := fun ws' => ∃ a : Nat → Nat, ws' = mW q1 (gA 0) cZ a mS0) I hA (va_runI (As := []) (Ts := wsT) (own := RL) ⟨hx, hb, hml, hown, hT⟩ (c_X10_init l q1 dC dI (gA 0) cZ H.size) ⟨callB_of 0 hT (lGoodIn (fun w hw => by
      rcases List.mem_cons.mp hw with rfl | hw
      · exact kT_M _ kM_60
      · exact kT_M _ hw)) rfl rfl rfl (hT _ (kT_M _ kM_68)) (hT _ (kT_149)) ⟨by decide +kernel, by decide +kernel, by decide +kernel⟩ (by
      show 1 + 1 ≤ 2048 ∧ 8 + (1 + 11) + 40 * 1 ≤ 84000
      omega), rfl, hT _ (kT_150)⟩ ⟨fun a2 U gg mk q => (by
      obtain ⟨q0, q1, qP, qK, qD⟩ := q
      exact ⟨q0, q1, qP, va_K.moved (u := U) (U := U.calling gg mk a2) (Vm.Alike.refl U.vm) qK, qD⟩), fun U hU hW2 => ⟨rfl, by rw [hU], by rw [hU]; exact va_P_right I.1, va_K.moved hW2.alike hKm, (lD_right I.2.1).weaken (fun _ _ _ _ => trivial)⟩⟩ rfl rfl hl.1 rfl (lv_room (Nat.le_of_ble_eq_true rfl)) dL_law_12 ⟨Nat.le_of_ble_eq_true rfl, Nat.le_of_ble_eq_true rfl⟩) (fun ws1 H locs hPo I => ?_)
  obtain ⟨a, rfl⟩ := hPo
  refine lv_astore_n (lv' := [(2, .ref q1), (1, .ref q0), (0, .ref b)]) hx hb dL_law_15 rfl hl (by decide) rfl (fun ls hl => ?_)
  refine lv_iconst (v := (1 : Int32)) hx hb dL_law_16 (by decide) ?_
  refine va_newa (atype := .long) (ty := .long) (N' := 1) (a0 := (1, .inr (.inl (fun _ => 0)))) hx hb (hT _ (kT_C _ kC_87)) rfl hK I.1 I.2.1 I.2.2 hA (fun cA => rfl) (by decide) (by decide) (by decide) (Nat.le_of_ble_eq_true rfl) (Nat.le_of_ble_eq_true rfl) dL_law_17 (fun q2 cA H hK2 hP hD hS => ?_)
  have hcA : cA = gA 1 := by
    have h1 : s.vm.findClass "[J" = some (gA 1) := (hK2.2 1 (gA 1, .long) rfl).2
    have h2 : s.vm.findClass "[J" = some cA := (hK2.2 5 (cA, .long) rfl).2
    exact Option.some.inj (h2.symm.trans h1)
  subst hcA
  have I : nWv dC dI (fun q => s.heap.size ≤ q) s ((kW (gA, ca, fun _ => 0, fun _ => 0, ce) kS0 ++ mW q1 (gA 0) cZ a mS0) ++ [(q2, .inl (gA 1, 1, .inr (.inl (fun _ => 0))))]) H locs := ⟨hP, hD, hS⟩
  have I := I.perm (perm_w _ _ _)
  refine lv_astore_n (lv' := [(3, .ref q2), (2, .ref q1), (1, .ref q0), (0, .ref b)]) hx hb dL_law_19 rfl hl (by decide) rfl (fun ls hl => ?_)
  refine lv_iconst (v := (0 : Int32)) hx hb dL_law_20 (by decide) ?_
  refine lv_istore (lv' := [(4, .int 0), (3, .ref q2), (2, .ref q1), (1, .ref q0), (0, .ref b)]) hx hb dL_law_21 hl (by decide) rfl (fun ls hl => ?_)
  obtain ⟨N, Z', hgo⟩ := hpure xs (L / 7) (by omega)
  have V : gV dC dI (gA, ca, fun _ => 0, fun _ => 0, ce) q1 cZ a q2 s gZ0 H locs := ⟨I.1, I.2.1, I.2.2, fun _ => ⟨hZ, hMt, Nat.not_le.mpr hce⟩⟩
  refine W.widen (k := 300) (n := 60000) (Nat.le_of_ble_eq_true rfl) (Nat.le_of_ble_eq_true rfl) ?_
  refine g_loop hlt hL hX0 hr hlk (L / 7) 0 (by omega) (by omega) gZ0 Z' (fun _ => 0) (fun _ => 0) ce 300 60000 H locs ls (by omega) (by omega) V ?_ hgo
  rw [hca]
  exact lv_sub hl [4, 3, 2, 1, 0] rfl
