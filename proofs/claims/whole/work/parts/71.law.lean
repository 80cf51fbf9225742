/-! THE CLAIM OUT OF ONE WALK OF THE LAW'S BODY. Your part is whole_start (and what it stands on); all else here is the same for every law, but numbers. -/
def R_law : String := "MasterTreeLaw"
def lw_P (b : Addr) (xs : List Int32) (args : Array Value) (s : State) : Prop := args = #[.ref b] ∧ s.IntsAt b xs ∧ xs.length ≤ 3584 ∧ (Jvm.Cond.and given_1 narrow_1).before args s = true
def lw_Q (_ : Array Value) (s : State) (o : Outcome) (t : State) : Prop := o = .returned (some (.int 1)) ∧ Framed s o t [] 601024 7293034
def lw_Z (below : List Frame) (a : Array Value) (s : State) : State → Prop := fun t => ∃ o, t.status = .running ∧ Ended t below o ∧ lw_Q a s o t
/-- the law's own end, with 1 on the stack, nothing written that was there before, its room as the claim has it -/
theorem lw_ret {p : Program} {l : Launch} {e : Env} {s : State} {m : MethodId} {below : List Frame} {meth : Method} {c : Code} {b : Nat} (hx : p.tables.exec = Jvm.exec) (hb : c.code = code) (hr : meth.sig.returnType = ret) (hlocks : meth.locks = false) {pc : Nat} {H : Heap} {ls : Array Slot} (hdg : decode code pc = .ok (.ireturn, 1)) : W p l e room_1 s m #[Value.ref b] below meth c H [] 601024 7293034 (lw_Z below #[Value.ref b] s) (F0 m pc ls [.int 1]) := by
  intro T hT X
  obtain ⟨fs, hret, hrun, hended, hW, hframe⟩ := X.leave (v := some (.int 1)) (hlocks := hlocks) (fun h => by rw [hr] at h; cases h)
  have hmeth' : T.vm.method? m = some meth := X.method'
  refine ⟨T.setFrames fs, ?_, .returned (some (.int 1)), hrun, hended, rfl, ⟨_, rfl⟩, hW, hframe⟩
  jvm_step X.here [X.here.top, hx, hb, hdg, hmeth', hr, ret, narrow_b1]
  (try refine ⟨rfl, ?_⟩); (try refine ⟨rfl, ?_⟩)
  first | (intro acts; rw [hret _ acts rfl rfl rfl]) | rw [hret _ _ rfl rfl rfl]
  exact Steps.refl _
/-- what holds at the law's entry: the machine, the code, the tables' words (any of lw_tbl by 'hts w (by decide +kernel)'), the script of L ints xs at the cell b, what the Statement gives of the start (any of its parts by flat_of_before) -/
def lw_At (p : Program) (s : State) (m : MethodId) (meth : Method) (c : Code) (b L : Nat) (xs : Nat → Int32) : Prop :=
  p.tables.exec = Jvm.exec ∧ c.code = code ∧ meth.sig.returnType = ret ∧ c.maxLocals = 7 ∧ s.vm.findClass R_law = some m.cls ∧ (∀ w ∈ lw_tbl, w.before #[Value.ref b] s = true) ∧ va_X b L xs s s.heap ∧ b < s.heap.size ∧ meth.locks = false ∧ (Jvm.Cond.and given_1 narrow_1).before #[Value.ref b] s = true

theorem and63 (x : Int32) : ∃ j : Nat, j < 64 ∧ x &&& 63 = zI (j : Int) := by
  refine ⟨(x &&& 63).toBitVec.toNat, ?_, ?_⟩
  · rw [Int32.toBitVec_and, BitVec.toNat_and]
    exact Nat.lt_of_le_of_lt Nat.and_le_right (by decide)
  · rw [← zI_n]
    apply Int32.toBitVec_inj.mp
    show _ = BitVec.ofNat 32 _
    simp
section GL
variable {p : Program} {l : Launch} {e : Env} {s : State} {m : MethodId} {below : List Frame} {meth : Method} {c : Code} {dC : Nat → ClassId} {dI : Nat → Nat → Nat} {gA : Nat → ClassId} {ca : Nat → Nat} {cZ : ClassId} {h o bb L N : Nat} {a : Nat → Nat} {xs : Nat → Int32}
set_option maxRecDepth 100000 in
set_option maxHeartbeats 4000000 in
theorem g_disp (hlt : l.stackTraces = false) {H : Heap} {locs : List Loc} {cells slots i : Nat} {Q : State → Prop} {ls : Array Slot} {g : kG} {Z Z' : gZ} (hi : i + 7 ≤ L) (hL : L ≤ 3584) (X : gX p s m meth c bb L xs dC dI g.1 cZ) (V : gV dC dI g h cZ a o s Z H locs) (hl : lv_has ls 7 (gLv bb (g.2.1 0) h o i)) (hcs : cells + 16 ≤ 601024 ∧ slots + 512 ≤ 7293034) {j : Nat} (hj : j < 64) (hpf : gOp N j (fun k => xs (i + k)) Z = some Z')
    (kk : ∀ (cc2 cd2 : Nat → Nat) (ce2 : Nat) (H1 : Heap) (locs1 : List Loc) (ls1 : Array Slot), gV dC dI (g.1, g.2.1, cc2, cd2, ce2) h cZ a o s Z' H1 locs1 → lv_has ls1 7 (gLv bb (g.2.1 0) h o i) → W p l e room_1 s m #[Value.ref bb] below meth c H1 locs1 (cells + 16) (slots + 512) Q (F0 m 3094 ls1 [])) :
    W p l e room_1 s m #[Value.ref bb] below meth c H locs cells slots Q (F0 m 40 ls [.int (zI (j : Int))]) := by
  have hto : (zI (j : Int)).toInt = (j : Int) := zI_toInt (by omega) (by omega)
  by_cases h40 : j < 40
  · have hj40 : j = 0 ∨ j = 1 ∨ j = 2 ∨ j = 3 ∨ j = 4 ∨ j = 5 ∨ j = 6 ∨ j = 7 ∨ j = 8 ∨ j = 9 ∨ j = 10 ∨ j = 11 ∨ j = 12 ∨ j = 13 ∨ j = 14 ∨ j = 15 ∨ j = 16 ∨ j = 17 ∨ j = 18 ∨ j = 19 ∨ j = 20 ∨ j = 21 ∨ j = 22 ∨ j = 23 ∨ j = 24 ∨ j = 25 ∨ j = 26 ∨ j = 27 ∨ j = 28 ∨ j = 29 ∨ j = 30 ∨ j = 31 ∨ j = 32 ∨ j = 33 ∨ j = 34 ∨ j = 35 ∨ j = 36 ∨ j = 37 ∨ j = 38 ∨ j = 39 := by omega
    rcases hj40 with rfl | rfl | rfl | rfl | rfl | rfl | rfl | rfl | rfl | rfl | rfl | rfl | rfl | rfl | rfl | rfl | rfl | rfl | rfl | rfl | rfl | rfl | rfl | rfl | rfl | rfl | rfl | rfl | rfl | rfl | rfl | rfl | rfl | rfl | rfl | rfl | rfl | rfl | rfl | rfl
    · exact lv_tableIn (off := 176) (tgt := 216) X.1 X.2.1 dL_law_40 (by rw [hto]; decide) (by rw [hto]; decide) (by rw [hto]; rfl) (by decide) (g_case_0 (N := N) hlt hi hL X V hl hcs hpf kk)
    · exact lv_tableIn (off := 276) (tgt := 316) X.1 X.2.1 dL_law_40 (by rw [hto]; decide) (by rw [hto]; decide) (by rw [hto]; rfl) (by decide) (g_case_1 (N := N) hlt hi hL X V hl hcs hpf kk)
    · exact lv_tableIn (off := 356) (tgt := 396) X.1 X.2.1 dL_law_40 (by rw [hto]; decide) (by rw [hto]; decide) (by rw [hto]; rfl) (by decide) (g_case_2 (N := N) hlt hi hL X V hl hcs hpf kk)
    · exact lv_tableIn (off := 424) (tgt := 464) X.1 X.2.1 dL_law_40 (by rw [hto]; decide) (by rw [hto]; decide) (by rw [hto]; rfl) (by decide) (g_case_3 (N := N) hlt hi hL X V hl hcs hpf kk)
    · exact lv_tableIn (off := 492) (tgt := 532) X.1 X.2.1 dL_law_40 (by rw [hto]; decide) (by rw [hto]; decide) (by rw [hto]; rfl) (by decide) (g_case_4 (N := N) hlt hi hL X V hl hcs hpf kk)
    · exact lv_tableIn (off := 505) (tgt := 545) X.1 X.2.1 dL_law_40 (by rw [hto]; decide) (by rw [hto]; decide) (by rw [hto]; rfl) (by decide) (g_case_5 (N := N) hlt hi hL X V hl hcs hpf kk)
    · exact lv_tableIn (off := 597) (tgt := 637) X.1 X.2.1 dL_law_40 (by rw [hto]; decide) (by rw [hto]; decide) (by rw [hto]; rfl) (by decide) (g_case_6 (N := N) hlt hi hL X V hl hcs hpf kk)
    · exact lv_tableIn (off := 689) (tgt := 729) X.1 X.2.1 dL_law_40 (by rw [hto]; decide) (by rw [hto]; decide) (by rw [hto]; rfl) (by decide) (g_case_7 (N := N) hlt hi hL X V hl hcs hpf kk)
    · exact lv_tableIn (off := 781) (tgt := 821) X.1 X.2.1 dL_law_40 (by rw [hto]; decide) (by rw [hto]; decide) (by rw [hto]; rfl) (by decide) (g_case_8 (N := N) hlt hi hL X V hl hcs hpf kk)
    · exact lv_tableIn (off := 873) (tgt := 913) X.1 X.2.1 dL_law_40 (by rw [hto]; decide) (by rw [hto]; decide) (by rw [hto]; rfl) (by decide) (g_case_9 (N := N) hlt hi hL X V hl hcs hpf kk)
    · exact lv_tableIn (off := 953) (tgt := 993) X.1 X.2.1 dL_law_40 (by rw [hto]; decide) (by rw [hto]; decide) (by rw [hto]; rfl) (by decide) (g_case_10 (N := N) hlt hi hL X V hl hcs hpf kk)
    · exact lv_tableIn (off := 1033) (tgt := 1073) X.1 X.2.1 dL_law_40 (by rw [hto]; decide) (by rw [hto]; decide) (by rw [hto]; rfl) (by decide) (g_case_11 (N := N) hlt hi hL X V hl hcs hpf kk)
    · exact lv_tableIn (off := 1101) (tgt := 1141) X.1 X.2.1 dL_law_40 (by rw [hto]; decide) (by rw [hto]; decide) (by rw [hto]; rfl) (by decide) (g_case_12 (N := N) hlt hi hL X V hl hcs hpf kk)
    · exact lv_tableIn (off := 1181) (tgt := 1221) X.1 X.2.1 dL_law_40 (by rw [hto]; decide) (by rw [hto]; decide) (by rw [hto]; rfl) (by decide) (g_case_13 (N := N) hlt hi hL X V hl hcs hpf kk)
    · exact lv_tableIn (off := 1299) (tgt := 1339) X.1 X.2.1 dL_law_40 (by rw [hto]; decide) (by rw [hto]; decide) (by rw [hto]; rfl) (by decide) (g_case_14 (N := N) hlt hi hL X V hl hcs hpf kk)
    · exact lv_tableIn (off := 1379) (tgt := 1419) X.1 X.2.1 dL_law_40 (by rw [hto]; decide) (by rw [hto]; decide) (by rw [hto]; rfl) (by decide) (g_case_15 (N := N) hlt hi hL X V hl hcs hpf kk)
    · exact lv_tableIn (off := 1435) (tgt := 1475) X.1 X.2.1 dL_law_40 (by rw [hto]; decide) (by rw [hto]; decide) (by rw [hto]; rfl) (by decide) (g_case_16 (N := N) hlt hi hL X V hl hcs hpf kk)
    · exact lv_tableIn (off := 1503) (tgt := 1543) X.1 X.2.1 dL_law_40 (by rw [hto]; decide) (by rw [hto]; decide) (by rw [hto]; rfl) (by decide) (g_case_17 (N := N) hlt hi hL X V hl hcs hpf kk)
    · exact lv_tableIn (off := 1571) (tgt := 1611) X.1 X.2.1 dL_law_40 (by rw [hto]; decide) (by rw [hto]; decide) (by rw [hto]; rfl) (by decide) (g_case_18 (N := N) hlt hi hL X V hl hcs hpf kk)
    · exact lv_tableIn (off := 1627) (tgt := 1667) X.1 X.2.1 dL_law_40 (by rw [hto]; decide) (by rw [hto]; decide) (by rw [hto]; rfl) (by decide) (g_case_19 (N := N) hlt hi hL X V hl hcs hpf kk)
    · exact lv_tableIn (off := 1683) (tgt := 1723) X.1 X.2.1 dL_law_40 (by rw [hto]; decide) (by rw [hto]; decide) (by rw [hto]; rfl) (by decide) (g_case_20 (N := N) hlt hi hL X V hl hcs hpf kk)
    · exact lv_tableIn (off := 1755) (tgt := 1795) X.1 X.2.1 dL_law_40 (by rw [hto]; decide) (by rw [hto]; decide) (by rw [hto]; rfl) (by decide) (g_case_21 (N := N) hlt hi hL X V hl hcs hpf kk)
    · exact lv_tableIn (off := 1799) (tgt := 1839) X.1 X.2.1 dL_law_40 (by rw [hto]; decide) (by rw [hto]; decide) (by rw [hto]; rfl) (by decide) (g_case_22 (N := N) hlt hi hL X V hl hcs hpf kk)
    · exact lv_tableIn (off := 1812) (tgt := 1852) X.1 X.2.1 dL_law_40 (by rw [hto]; decide) (by rw [hto]; decide) (by rw [hto]; rfl) (by decide) (g_case_23 (N := N) hlt hi hL X V hl hcs hpf kk)
    · exact lv_tableIn (off := 1892) (tgt := 1932) X.1 X.2.1 dL_law_40 (by rw [hto]; decide) (by rw [hto]; decide) (by rw [hto]; rfl) (by decide) (g_case_24 (N := N) hlt hi hL X V hl hcs hpf kk)
    · exact lv_tableIn (off := 1972) (tgt := 2012) X.1 X.2.1 dL_law_40 (by rw [hto]; decide) (by rw [hto]; decide) (by rw [hto]; rfl) (by decide) (g_case_25 (N := N) hlt hi hL X V hl hcs hpf kk)
    · exact lv_tableIn (off := 2052) (tgt := 2092) X.1 X.2.1 dL_law_40 (by rw [hto]; decide) (by rw [hto]; decide) (by rw [hto]; rfl) (by decide) (g_case_26 (N := N) hlt hi hL X V hl hcs hpf kk)
    · exact lv_tableIn (off := 2108) (tgt := 2148) X.1 X.2.1 dL_law_40 (by rw [hto]; decide) (by rw [hto]; decide) (by rw [hto]; rfl) (by decide) (g_case_27 (N := N) hlt hi hL X V hl hcs hpf kk)
    · exact lv_tableIn (off := 2164) (tgt := 2204) X.1 X.2.1 dL_law_40 (by rw [hto]; decide) (by rw [hto]; decide) (by rw [hto]; rfl) (by decide) (g_case_28 (N := N) hlt hi hL X V hl hcs hpf kk)
    · exact lv_tableIn (off := 2232) (tgt := 2272) X.1 X.2.1 dL_law_40 (by rw [hto]; decide) (by rw [hto]; decide) (by rw [hto]; rfl) (by decide) (g_case_29 (N := N) hlt hi hL X V hl hcs hpf kk)
    · exact lv_tableIn (off := 2300) (tgt := 2340) X.1 X.2.1 dL_law_40 (by rw [hto]; decide) (by rw [hto]; decide) (by rw [hto]; rfl) (by decide) (g_case_30 (N := N) hlt hi hL X V hl hcs hpf kk)
    · exact lv_tableIn (off := 2368) (tgt := 2408) X.1 X.2.1 dL_law_40 (by rw [hto]; decide) (by rw [hto]; decide) (by rw [hto]; rfl) (by decide) (g_case_31 (N := N) hlt hi hL X V hl hcs hpf kk)
    · exact lv_tableIn (off := 2460) (tgt := 2500) X.1 X.2.1 dL_law_40 (by rw [hto]; decide) (by rw [hto]; decide) (by rw [hto]; rfl) (by decide) (g_case_32 (N := N) hlt hi hL X V hl hcs hpf kk)
    · exact lv_tableIn (off := 2540) (tgt := 2580) X.1 X.2.1 dL_law_40 (by rw [hto]; decide) (by rw [hto]; decide) (by rw [hto]; rfl) (by decide) (g_case_33 (N := N) hlt hi hL X V hl hcs hpf kk)
    · exact lv_tableIn (off := 2608) (tgt := 2648) X.1 X.2.1 dL_law_40 (by rw [hto]; decide) (by rw [hto]; decide) (by rw [hto]; rfl) (by decide) (g_case_34 (N := N) hlt hi hL X V hl hcs hpf kk)
    · exact lv_tableIn (off := 2707) (tgt := 2747) X.1 X.2.1 dL_law_40 (by rw [hto]; decide) (by rw [hto]; decide) (by rw [hto]; rfl) (by decide) (g_case_35 (N := N) hlt hi hL X V hl hcs hpf kk)
    · exact lv_tableIn (off := 2787) (tgt := 2827) X.1 X.2.1 dL_law_40 (by rw [hto]; decide) (by rw [hto]; decide) (by rw [hto]; rfl) (by decide) (g_case_36 (N := N) hlt hi hL X V hl hcs hpf kk)
    · exact lv_tableIn (off := 2855) (tgt := 2895) X.1 X.2.1 dL_law_40 (by rw [hto]; decide) (by rw [hto]; decide) (by rw [hto]; rfl) (by decide) (g_case_37 (N := N) hlt hi hL X V hl hcs hpf kk)
    · exact lv_tableIn (off := 2923) (tgt := 2963) X.1 X.2.1 dL_law_40 (by rw [hto]; decide) (by rw [hto]; decide) (by rw [hto]; rfl) (by decide) (g_case_38 (N := N) hlt hi hL X V hl hcs hpf kk)
    · exact lv_tableIn (off := 2979) (tgt := 3019) X.1 X.2.1 dL_law_40 (by rw [hto]; decide) (by rw [hto]; decide) (by rw [hto]; rfl) (by decide) (g_case_39 (N := N) hlt hi hL X V hl hcs hpf kk)
  · have hZ : some Z = some Z' := by
      rw [← hpf]
      unfold gOp
      split <;> first | rfl | omega
    cases hZ
    refine lv_tableOut (tgt := 3094) X.1 X.2.1 dL_law_40 (by rw [hto]; omega) (by decide) ?_
    refine W.widen (k := cells + 16) (n := slots + 512) (by omega) (by omega) ?_
    exact kk g.2.2.1 g.2.2.2.1 g.2.2.2.2 H locs ls V hl
set_option maxRecDepth 100000 in
set_option maxHeartbeats 4000000 in
theorem g_loop (hlt : l.stackTraces = false) (hL : L ≤ 3584) (X : gX p s m meth c bb L xs dC dI gA cZ) (hr : meth.sig.returnType = ret) (hlk : meth.locks = false) : ∀ (n i : Nat), i + 7 * n ≤ L → L < i + 7 * n + 7 → ∀ (Z Z' : gZ) (cc cd : Nat → Nat) (ce cells slots : Nat) (H : Heap) (locs : List Loc) (ls : Array Slot), cells + 16 * n ≤ 601000 → slots + 512 * n ≤ 7290000 → gV dC dI (gA, ca, cc, cd, ce) h cZ a o s Z H locs → lv_has ls 7 (gLv bb (ca 0) h o i) → gGo N xs n i Z = some Z' → W p l e room_1 s m #[Value.ref bb] below meth c H locs cells slots (lw_Z below #[Value.ref bb] s) (F0 m 23 ls []) := by
  have hx := X.1
  have hb := X.2.1
  have hbA : ¬ (fun q : Nat => s.heap.size ≤ q) bb := Nat.not_le.mpr X.2.2.2.2.2.2.1
  intro n
  induction n with
  | zero =>
    intro i hi hin Z Z' cc cd ce cells slots H locs ls hc1 hc2 V hl hgo
    have hl : lv_has ls 7 [(0, .ref bb), (1, .ref (ca 0)), (2, .ref h), (3, .ref o), (4, .int (nI i))] := hl
    refine lv_iload hx hb dL_law_23 (lv_at hl 4 rfl) ?_
    refine lv_aload_n hx hb dL_law_25 rfl (lv_at hl 0 rfl) ?_
    refine va_slen hx hb X.2.2.2.2.2.1 X.2.2.2.2.2.2.1 hbA V.2.2.1 dL_law_26 ?_
    refine lv_bipush (v := (7 : Int32)) hx hb dL_law_27 (by decide) ?_
    refine lv_isub hx hb dL_law_29 ?_
    have hgt : Int32.ofNat L - 7 < nI i := by
      rw [zI_n, zL, zL_7, zI_sub, zI_lt (by omega) (by omega) (by omega) (by omega)]
      omega
    refine lv_icmp_gt (tgt := 3100) hx hb dL_law_30 (by decide) (fun _ => ?_) (fun hne => absurd hgt hne)
    refine lv_iconst (v := 1) hx hb dL_law_3100 (by decide) ?_
    refine va_forget (fun q hq => V.2.2.1.2.2 q hq) ?_
    refine W.widen (k := 601024) (n := 7293034) (by omega) (by omega) ?_
    exact lw_ret hx hb hr hlk dL_law_3101
  | succ n ih =>
    intro i hi hin Z Z' cc cd ce cells slots H locs ls hc1 hc2 V hl hgo
    have hl : lv_has ls 7 [(0, .ref bb), (1, .ref (ca 0)), (2, .ref h), (3, .ref o), (4, .int (nI i))] := hl
    refine lv_iload hx hb dL_law_23 (lv_at hl 4 rfl) ?_
    refine lv_aload_n hx hb dL_law_25 rfl (lv_at hl 0 rfl) ?_
    refine va_slen hx hb X.2.2.2.2.2.1 X.2.2.2.2.2.2.1 hbA V.2.2.1 dL_law_26 ?_
    refine lv_bipush (v := (7 : Int32)) hx hb dL_law_27 (by decide) ?_
    refine lv_isub hx hb dL_law_29 ?_
    have hgt : ¬ Int32.ofNat L - 7 < nI i := by
      rw [zI_n, zL, zL_7, zI_sub, zI_lt (by omega) (by omega) (by omega) (by omega)]
      omega
    refine lv_icmp_gt (tgt := 3100) hx hb dL_law_30 (by decide) (fun hne => absurd hne hgt) (fun _ => ?_)
    refine lv_aload_n hx hb dL_law_33 rfl (lv_at hl 0 rfl) ?_
    refine lv_iload hx hb dL_law_34 (lv_at hl 4 rfl) ?_
    refine va_sld hx hb X.2.2.2.2.2.1 X.2.2.2.2.2.2.1 hbA V.2.2.1 (vp_in_nI (n := i) (by omega) (by omega)) dL_law_36 ?_
    rw [nI_clamp (by omega)]
    refine lv_bipush (v := (63 : Int32)) hx hb dL_law_37 (by decide) ?_
    refine lv_iand hx hb dL_law_39 ?_
    obtain ⟨j, hj, ej⟩ := and63 (xs i)
    rw [ej]
    have hgo2 : ∃ Z1, gOp N j (fun k => xs (i + k)) Z = some Z1 ∧ gGo N xs n (i + 7) Z1 = some Z' := by
      have hst : gStep N (fun k => xs (i + k)) Z = gOp N j (fun k => xs (i + k)) Z := by
        show gOp N (xs (i + 0) &&& 63).toNatClampNeg _ Z = _
        rw [Nat.add_zero, ej, zI_cn (by omega)]
      unfold gGo at hgo
      rw [hst] at hgo
      cases hq : gOp N j (fun k => xs (i + k)) Z with
      | none => rw [hq] at hgo; cases hgo
      | some Z1 => rw [hq] at hgo; exact ⟨Z1, rfl, hgo⟩
    obtain ⟨Z1, hop, hrest⟩ := hgo2
    refine g_disp hlt (by omega) hL (g := (gA, ca, cc, cd, ce)) X V hl ⟨by omega, by omega⟩ hj hop (fun cc2 cd2 ce2 H1 locs1 ls1 V1 hl1 => ?_)
    have hl1 : lv_has ls1 7 [(0, .ref bb), (1, .ref (ca 0)), (2, .ref h), (3, .ref o), (4, .int (nI i))] := hl1
    refine lv_iinc (v := nI (i + 7)) (lv' := [(4, .int (nI (i + 7))), (0, .ref bb), (1, .ref (ca 0)), (2, .ref h), (3, .ref o)]) hx hb dL_law_3094 hl1 (k := 4) rfl (nI_add i 7) (by decide) rfl (fun ls2 hl2 => ?_)
    refine lv_goto (tgt := 23) hx hb dL_law_3097 (by decide) ?_
    exact ih (i + 7) (by omega) (by omega) Z1 Z' cc2 cd2 ce2 _ _ H1 locs1 ls2 (by omega) (by omega) V1 (lv_sub hl2 [1, 2, 3, 4, 0] rfl) hrest
end GL
