/-! THE CLAIM OUT OF ONE WALK OF THE LAW'S BODY. Your part is whole_start (and what it stands on); all else here is the same for every law, but numbers. -/
def R_law : String := "MasterTreeLaw"
def lw_P (b : Addr) (xs : List Int32) (args : Array Value) (s : State) : Prop := args = #[.ref b] ∧ s.IntsAt b xs ∧ xs.length ≤ 260 ∧ (Jvm.Cond.and given_1 narrow_1).before args s = true
def lw_Q (_ : Array Value) (s : State) (o : Outcome) (t : State) : Prop := o = .returned (some (.int 1)) ∧ Framed s o t [] 600074 7301550
def lw_Z (below : List Frame) (a : Array Value) (s : State) : State → Prop := fun t => ∃ o, t.status = .running ∧ Ended t below o ∧ lw_Q a s o t
/-- the law's own end, with 1 on the stack, nothing written that was there before, its room as the claim has it -/
theorem lw_ret {p : Program} {l : Launch} {e : Env} {s : State} {m : MethodId} {below : List Frame} {meth : Method} {c : Code} {b : Nat} (hx : p.tables.exec = Jvm.exec) (hb : c.code = code) (hr : meth.sig.returnType = ret) (hlocks : meth.locks = false) {pc : Nat} {H : Heap} {ls : Array Slot} (hdg : decode code pc = .ok (.ireturn, 1)) : W p l e room_1 s m #[Value.ref b] below meth c H [] 600074 7301550 (lw_Z below #[Value.ref b] s) (F0 m pc ls [.int 1]) := by
  intro T hT X
  obtain ⟨fs, hret, hrun, hended, hW, hframe⟩ := X.leave (v := some (.int 1)) (hlocks := hlocks) (fun h => by rw [hr] at h; cases h)
  have hmeth' : T.vm.method? m = some meth := X.method'
  refine ⟨T.setFrames fs, ?_, .returned (some (.int 1)), hrun, hended, rfl, ⟨_, rfl⟩, hW, hframe⟩
  jvm_step X.here [X.here.top, hx, hb, hdg, hmeth', hr, ret, narrow_b1]
  (try refine ⟨rfl, ?_⟩); (try refine ⟨rfl, ?_⟩)
  first | (intro acts; rw [hret _ acts rfl rfl rfl]) | rw [hret _ _ rfl rfl rfl]
  exact Steps.refl _
/-- what holds at the law's entry: the machine, the code, the tables' words (any of lw_tbl by 'hts w (by decide +kernel)'), the script of L ints xs at the cell b, what the Statement gives of the start (any of its parts by flat_of_before) -/
def lw_At (p : Program) (s : State) (m : MethodId) (meth : Method) (c : Code) (b L : Nat) (xs : Nat → Int32) : Prop :=
  p.tables.exec = Jvm.exec ∧ c.code = code ∧ meth.sig.returnType = ret ∧ c.maxLocals = 23 ∧ s.vm.findClass R_law = some m.cls ∧ (∀ w ∈ lw_tbl, w.before #[Value.ref b] s = true) ∧ va_X b L xs s s.heap ∧ b < s.heap.size ∧ meth.locks = false ∧ (Jvm.Cond.and given_1 narrow_1).before #[Value.ref b] s = true

section LR
variable {l : Launch} {p : Program} {e : Env} {s : State} {m : MethodId} {below : List Frame} {meth : Method} {c : Code} {H : Heap} {locs : List Loc} {C D : Nat} {ls : Array Slot} {dC : Nat → ClassId} {dI : Nat → Nat → Nat} {g : kG} {a : Nat → Nat} {Si S S' : kS} {L L' : lS}
theorem l_retLaw {v : Int32} {b9 : Nat} (X : lX l p s m meth c code 23 #[Value.ref b9] dC dI g (fun q => s.heap.size ≤ q) Si) (I : lV dC dI g a (fun q => s.heap.size ≤ q) s Si S L H locs) (hr : meth.sig.returnType = ret) (pc : Nat) (hdg : decode code pc = .ok (.ireturn, 1)) (hpf : lre 600074 7301550 C D v S L = some (1, S', L')) :
    W p l e room_1 s m #[Value.ref b9] below meth c H locs C D (lw_Z below #[Value.ref b9] s) (F0 m pc ls [.int v]) := by
  obtain ⟨⟨hc1, hc2⟩, rfl, rfl, rfl⟩ := lre_some hpf
  obtain ⟨c2, d2, e2, hg, hP, hD, hS⟩ := I
  refine va_forget (fun q hq => hS.2.2 q hq) ?_
  refine W.widen (k := 600074) (n := 7301550) hc1 hc2 ?_
  exact lw_ret X.1 X.2.1 hr X.2.2.2.2.2.2.1 hdg
end LR
noncomputable def pL_law_1117 (N : Nat) (n9 : Nat) (xs9 : Nat → Int32) (k_314 : Int32 → kS → lS → Nat → Nat → Option (Int32 × kS × lS)) (x15 : Int32) (x16 : Int32) (x19 : Int32) (S : kS) (L : lS) (C : Nat) (D : Nat) : Option (Int32 × kS × lS) :=
    lba (pL_low N (x16 >>> ((8 : Int32) &&& 31)) (4 : Int32) L) fun v101 L102 =>
    lba (pL_lays N v101 L102) fun v103 L104 =>
    if x19 = (0 : Int32) then (
      lre 600074 7301550 C D (0 : Int32) S L104)
    else (
      lbb 60 360 600074 7301550 C D (pL_master N v101 (x16 >>> ((10 : Int32) &&& 31)) S L104) fun v105 S106 L107 C108 D109 =>
      if v105 = (0 : Int32) then (
        lre 600074 7301550 C108 D109 (0 : Int32) S106 L107)
      else (
        gd (0 : Int32) 20 <|
        lba (pL_low N (x16 >>> ((9 : Int32) &&& 31)) (aI L107 0 (0 : Int32).toNatClampNeg) L107) fun v110 L111 =>
        lbb 800 5000 600074 7301550 C108 D109 (pL_entry N v101 v110 (x16 >>> ((12 : Int32) &&& 31)) S106 L111) fun v112 S113 L114 C115 D116 =>
        if v112 = (0 : Int32) then (
          lre 600074 7301550 C115 D116 (0 : Int32) S113 L114)
        else (
          nm (x15 + (1 : Int32)) fun y117 =>
          k_314 y117 S113 L114 C115 D116)))
noncomputable def pL_law_545 (N : Nat) (n9 : Nat) (xs9 : Nat → Int32) (k_314 : Int32 → kS → lS → Nat → Nat → Option (Int32 × kS × lS)) (t0 : Int32) (x15 : Int32) (x16 : Int32) (S : kS) (L : lS) (C : Nat) (D : Nat) : Option (Int32 × kS × lS) :=
    pL_law_1117 N n9 xs9 k_314 x15 x16 t0 S L C D
noncomputable def pL_law_573 (N : Nat) (n9 : Nat) (xs9 : Nat → Int32) (k_314 : Int32 → kS → lS → Nat → Nat → Option (Int32 × kS × lS)) (t0 : Int32) (x15 : Int32) (x16 : Int32) (S : kS) (L : lS) (C : Nat) (D : Nat) : Option (Int32 × kS × lS) :=
    gd (8 : Int32) 20 <| slv (uI L 0 (8 : Int32).toNatClampNeg (0 : Int32)) fun L101 =>
    pL_law_1117 N n9 xs9 k_314 x15 x16 t0 S L101 C D
noncomputable def pL_law_622 (N : Nat) (n9 : Nat) (xs9 : Nat → Int32) (k_314 : Int32 → kS → lS → Nat → Nat → Option (Int32 × kS × lS)) (t0 : Int32) (t1 : Int32) (x15 : Int32) (x16 : Int32) (S : kS) (L : lS) (C : Nat) (D : Nat) : Option (Int32 × kS × lS) :=
    lbb 11 435 600074 7301550 C D (pL_values N t1 t0 (x16 >>> ((7 : Int32) &&& 31)) S L) fun v101 S102 L103 C104 D105 =>
    pL_law_1117 N n9 xs9 k_314 x15 x16 v101 S102 L103 C104 D105
noncomputable def pL_law_1007 (N : Nat) (n9 : Nat) (xs9 : Nat → Int32) (k_314 : Int32 → kS → lS → Nat → Nat → Option (Int32 × kS × lS)) (t0 : Int32) (x15 : Int32) (x16 : Int32) (S : kS) (L : lS) (C : Nat) (D : Nat) : Option (Int32 × kS × lS) :=
    pL_law_1117 N n9 xs9 k_314 x15 x16 t0 S L C D
noncomputable def pL_law_968 (N : Nat) (n9 : Nat) (xs9 : Nat → Int32) (k_314 : Int32 → kS → lS → Nat → Nat → Option (Int32 × kS × lS)) (t0 : Int32) (t1 : Int32) (x15 : Int32) (x16 : Int32) (x18 : Int32) (S : kS) (L : lS) (C : Nat) (D : Nat) : Option (Int32 × kS × lS) :=
    lba (pL_low N t1 t0 L) fun v101 L102 =>
    gd ((4 : Int32) + x18) 20 <|
    nm (aI L102 0 ((4 : Int32) + x18).toNatClampNeg) fun y103 =>
    gd ((4 : Int32) + x18) 20 <| slv (uI L102 0 ((4 : Int32) + x18).toNatClampNeg v101) fun L104 =>
    lbx 2 12 600074 7301550 C D (pX9_serve N x18 v101 S) fun v105 S106 C107 D108 =>
    if v105 = y103 then (
      pL_law_1007 N n9 xs9 k_314 (1 : Int32) x15 x16 S106 L104 C107 D108)
    else (
      pL_law_1007 N n9 xs9 k_314 (0 : Int32) x15 x16 S106 L104 C107 D108)
noncomputable def pL_law_939 (N : Nat) (n9 : Nat) (xs9 : Nat → Int32) (k_314 : Int32 → kS → lS → Nat → Nat → Option (Int32 × kS × lS)) (x15 : Int32) (x16 : Int32) (x17 : Int32) (x18 : Int32) (S : kS) (L : lS) (C : Nat) (D : Nat) : Option (Int32 × kS × lS) :=
    if x17 = (29 : Int32) then (
      lba (pL_low N (x16 >>> ((10 : Int32) &&& 31)) (2 : Int32) L) fun v116 L117 =>
      if v116 = (0 : Int32) then (
        pL_law_968 N n9 xs9 k_314 (4 : Int32) (x16 >>> ((7 : Int32) &&& 31)) x15 x16 x18 S L117 C D)
      else (
        pL_law_968 N n9 xs9 k_314 (1 : Int32) (x16 >>> ((7 : Int32) &&& 31)) x15 x16 x18 S L117 C D))
    else (
      if x17 = (30 : Int32) then (
        lbb 1 6 600074 7301550 C D (pL_sweeps N x18 S L) fun v111 S112 L113 C114 D115 =>
        pL_law_1117 N n9 xs9 k_314 x15 x16 v111 S112 L113 C114 D115)
      else (
        if x17 = (31 : Int32) then (
          lbb 600 22500 600074 7301550 C D (pL_follows N x18 (x16 >>> ((7 : Int32) &&& 31)) S L) fun v106 S107 L108 C109 D110 =>
          pL_law_1117 N n9 xs9 k_314 x15 x16 v106 S107 L108 C109 D110)
        else (
          lbb 180 6700 600074 7301550 C D (pL_searches N x18 (x16 >>> ((7 : Int32) &&& 31)) S L) fun v101 S102 L103 C104 D105 =>
          pL_law_1117 N n9 xs9 k_314 x15 x16 v101 S102 L103 C104 D105)))
noncomputable def pL_law_904 (N : Nat) (n9 : Nat) (xs9 : Nat → Int32) (k_314 : Int32 → kS → lS → Nat → Nat → Option (Int32 × kS × lS)) (x15 : Int32) (x16 : Int32) (x17 : Int32) (x18 : Int32) (S : kS) (L : lS) (C : Nat) (D : Nat) : Option (Int32 × kS × lS) :=
    if x17 ≤ (23 : Int32) then (
      pL_law_939 N n9 xs9 k_314 x15 x16 x17 x18 S L C D)
    else (
      if (29 : Int32) ≤ x17 then (
        pL_law_939 N n9 xs9 k_314 x15 x16 x17 x18 S L C D)
      else (
        lbb 3 18 600074 7301550 C D (pL_exchanges N (x16 >>> ((7 : Int32) &&& 31)) S L) fun v101 S102 L103 C104 D105 =>
        pL_law_1117 N n9 xs9 k_314 x15 x16 v101 S102 L103 C104 D105))
noncomputable def pL_law_850 (N : Nat) (n9 : Nat) (xs9 : Nat → Int32) (k_314 : Int32 → kS → lS → Nat → Nat → Option (Int32 × kS × lS)) (x15 : Int32) (x16 : Int32) (x17 : Int32) (x18 : Int32) (x20 : Int32) (S : kS) (L : lS) (C : Nat) (D : Nat) : Option (Int32 × kS × lS) :=
    if x17 ≤ (21 : Int32) then (
      pL_law_904 N n9 xs9 k_314 x15 x16 x17 x18 S L C D)
    else (
      if (24 : Int32) ≤ x17 then (
        pL_law_904 N n9 xs9 k_314 x15 x16 x17 x18 S L C D)
      else (
        if x20 = (0 : Int32) then (
          pL_law_904 N n9 xs9 k_314 x15 x16 x17 x18 S L C D)
        else (
          lbb 9 417 600074 7301550 C D (pL_rule N x18 (x16 >>> ((7 : Int32) &&& 31)) S L) fun v101 S102 L103 C104 D105 =>
          pL_law_1117 N n9 xs9 k_314 x15 x16 v101 S102 L103 C104 D105)))
noncomputable def pL_law_803 (N : Nat) (n9 : Nat) (xs9 : Nat → Int32) (k_314 : Int32 → kS → lS → Nat → Nat → Option (Int32 × kS × lS)) (x15 : Int32) (x16 : Int32) (x17 : Int32) (x18 : Int32) (x20 : Int32) (S : kS) (L : lS) (C : Nat) (D : Nat) : Option (Int32 × kS × lS) :=
    if x17 = (21 : Int32) then (
      if x20 = (0 : Int32) then (
        pL_law_850 N n9 xs9 k_314 x15 x16 x17 x18 x20 S L C D)
      else (
        lbb 11 435 600074 7301550 C D (pL_links N x18 (x16 >>> ((7 : Int32) &&& 31)) S L) fun v101 S102 L103 C104 D105 =>
        pL_law_1117 N n9 xs9 k_314 x15 x16 v101 S102 L103 C104 D105))
    else (
      pL_law_850 N n9 xs9 k_314 x15 x16 x17 x18 x20 S L C D)
noncomputable def pL_law_756 (N : Nat) (n9 : Nat) (xs9 : Nat → Int32) (k_314 : Int32 → kS → lS → Nat → Nat → Option (Int32 × kS × lS)) (x15 : Int32) (x16 : Int32) (x17 : Int32) (x18 : Int32) (x20 : Int32) (S : kS) (L : lS) (C : Nat) (D : Nat) : Option (Int32 × kS × lS) :=
    if x17 = (20 : Int32) then (
      if x20 = (0 : Int32) then (
        pL_law_803 N n9 xs9 k_314 x15 x16 x17 x18 x20 S L C D)
      else (
        lbb 11 435 600074 7301550 C D (pL_deletes N x18 (x16 >>> ((7 : Int32) &&& 31)) S L) fun v101 S102 L103 C104 D105 =>
        pL_law_1117 N n9 xs9 k_314 x15 x16 v101 S102 L103 C104 D105))
    else (
      pL_law_803 N n9 xs9 k_314 x15 x16 x17 x18 x20 S L C D)
noncomputable def pL_law_702 (N : Nat) (n9 : Nat) (xs9 : Nat → Int32) (k_314 : Int32 → kS → lS → Nat → Nat → Option (Int32 × kS × lS)) (x15 : Int32) (x16 : Int32) (x17 : Int32) (x18 : Int32) (x20 : Int32) (S : kS) (L : lS) (C : Nat) (D : Nat) : Option (Int32 × kS × lS) :=
    if x17 ≤ (16 : Int32) then (
      pL_law_756 N n9 xs9 k_314 x15 x16 x17 x18 x20 S L C D)
    else (
      if (20 : Int32) ≤ x17 then (
        pL_law_756 N n9 xs9 k_314 x15 x16 x17 x18 x20 S L C D)
      else (
        if x20 = (0 : Int32) then (
          pL_law_756 N n9 xs9 k_314 x15 x16 x17 x18 x20 S L C D)
        else (
          lbb 11 435 600074 7301550 C D (pL_moves N x18 (x16 >>> ((7 : Int32) &&& 31)) S L) fun v101 S102 L103 C104 D105 =>
          pL_law_1117 N n9 xs9 k_314 x15 x16 v101 S102 L103 C104 D105)))
noncomputable def pL_law_655 (N : Nat) (n9 : Nat) (xs9 : Nat → Int32) (k_314 : Int32 → kS → lS → Nat → Nat → Option (Int32 × kS × lS)) (x15 : Int32) (x16 : Int32) (x17 : Int32) (x18 : Int32) (x20 : Int32) (S : kS) (L : lS) (C : Nat) (D : Nat) : Option (Int32 × kS × lS) :=
    if x17 = (16 : Int32) then (
      if x20 = (0 : Int32) then (
        pL_law_702 N n9 xs9 k_314 x15 x16 x17 x18 x20 S L C D)
      else (
        lbb 11 435 600074 7301550 C D (pL_renames N x18 (x16 >>> ((7 : Int32) &&& 31)) S L) fun v101 S102 L103 C104 D105 =>
        pL_law_1117 N n9 xs9 k_314 x15 x16 v101 S102 L103 C104 D105))
    else (
      pL_law_702 N n9 xs9 k_314 x15 x16 x17 x18 x20 S L C D)
noncomputable def pL_law_550 (N : Nat) (n9 : Nat) (xs9 : Nat → Int32) (k_314 : Int32 → kS → lS → Nat → Nat → Option (Int32 × kS × lS)) (x15 : Int32) (x16 : Int32) (x17 : Int32) (x18 : Int32) (x20 : Int32) (S : kS) (L : lS) (C : Nat) (D : Nat) : Option (Int32 × kS × lS) :=
    if x17 = (11 : Int32) then (
      lbm (pX9_undraft N S) fun v101 S102 =>
      gd (8 : Int32) 20 <|
      if v101 = (aI L 0 (8 : Int32).toNatClampNeg) then (
        pL_law_573 N n9 xs9 k_314 (1 : Int32) x15 x16 S102 L C D)
      else (
        pL_law_573 N n9 xs9 k_314 (0 : Int32) x15 x16 S102 L C D))
    else (
      if x17 ≤ (11 : Int32) then (
        pL_law_655 N n9 xs9 k_314 x15 x16 x17 x18 x20 S L C D)
      else (
        if (16 : Int32) ≤ x17 then (
          pL_law_655 N n9 xs9 k_314 x15 x16 x17 x18 x20 S L C D)
        else (
          if x20 = (0 : Int32) then (
            pL_law_655 N n9 xs9 k_314 x15 x16 x17 x18 x20 S L C D)
          else (
            if (x17 - (12 : Int32)) = (0 : Int32) then (
              pL_law_622 N n9 xs9 k_314 (1 : Int32) x18 x15 x16 S L C D)
            else (
              pL_law_622 N n9 xs9 k_314 (x17 - (12 : Int32)) x18 x15 x16 S L C D)))))
noncomputable def pL_law_462 (N : Nat) (n9 : Nat) (xs9 : Nat → Int32) (k_314 : Int32 → kS → lS → Nat → Nat → Option (Int32 × kS × lS)) (x15 : Int32) (x16 : Int32) (x17 : Int32) (x18 : Int32) (x20 : Int32) (S : kS) (L : lS) (C : Nat) (D : Nat) : Option (Int32 × kS × lS) :=
    if (11 : Int32) ≤ x17 then (
      pL_law_550 N n9 xs9 k_314 x15 x16 x17 x18 x20 S L C D)
    else (
      gd (8 : Int32) 20 <|
      if (4 : Int32) ≤ (aI L 0 (8 : Int32).toNatClampNeg) then (
        pL_law_550 N n9 xs9 k_314 x15 x16 x17 x18 x20 S L C D)
      else (
        lba (pL_low N (x16 >>> ((7 : Int32) &&& 31)) (3 : Int32) L) fun v101 L102 =>
        lba (pL_low N (x16 >>> ((9 : Int32) &&& 31)) (60 : Int32) L102) fun v103 L104 =>
        gd (8 : Int32) 20 <|
        gd ((9 : Int32) + (aI L104 0 (8 : Int32).toNatClampNeg)) 20 <| slv (uI L104 0 ((9 : Int32) + (aI L104 0 (8 : Int32).toNatClampNeg)).toNatClampNeg (((100 : Int32) * v101) + v103)) fun L105 =>
        gd (8 : Int32) 20 <|
        gd (8 : Int32) 20 <| slv (uI L105 0 (8 : Int32).toNatClampNeg ((aI L105 0 (8 : Int32).toNatClampNeg) + (1 : Int32))) fun L106 =>
        lbx 3 18 600074 7301550 C D (pX9_draft N v101 v103 S) fun v107 S108 C109 D110 =>
        gd (8 : Int32) 20 <|
        if v107 = (aI L106 0 (8 : Int32).toNatClampNeg) then (
          pL_law_545 N n9 xs9 k_314 (1 : Int32) x15 x16 S108 L106 C109 D110)
        else (
          pL_law_545 N n9 xs9 k_314 (0 : Int32) x15 x16 S108 L106 C109 D110)))
noncomputable def pL_law_380 (N : Nat) (n9 : Nat) (xs9 : Nat → Int32) (k_314 : Int32 → kS → lS → Nat → Nat → Option (Int32 × kS × lS)) (t0 : Int32) (x15 : Int32) (x16 : Int32) (x17 : Int32) (x18 : Int32) (S : kS) (L : lS) (C : Nat) (D : Nat) : Option (Int32 × kS × lS) :=
    lba (pL_lays N x18 L) fun v101 L102 =>
    if (8 : Int32) ≤ x17 then (
      pL_law_462 N n9 xs9 k_314 x15 x16 x17 x18 t0 S L102 C D)
    else (
      gd (0 : Int32) 20 <|
      if (12 : Int32) ≤ (aI L102 0 (0 : Int32).toNatClampNeg) then (
        pL_law_462 N n9 xs9 k_314 x15 x16 x17 x18 t0 S L102 C D)
      else (
        if t0 = (0 : Int32) then (
          pL_law_462 N n9 xs9 k_314 x15 x16 x17 x18 t0 S L102 C D)
        else (
          lbb 11 435 600074 7301550 C D (pL_adds N x18 (x16 >>> ((7 : Int32) &&& 31)) S L102) fun v103 S104 L105 C106 D107 =>
          pL_law_1117 N n9 xs9 k_314 x15 x16 v103 S104 L105 C106 D107)))
noncomputable def pL_law_359 (N : Nat) (n9 : Nat) (xs9 : Nat → Int32) (k_314 : Int32 → kS → lS → Nat → Nat → Option (Int32 × kS × lS)) (t0 : Int32) (t1 : Int32) (x15 : Int32) (x16 : Int32) (x17 : Int32) (S : kS) (L : lS) (C : Nat) (D : Nat) : Option (Int32 × kS × lS) :=
    lba (pL_low N t1 t0 L) fun v101 L102 =>
    gd (1 : Int32) 20 <|
    if (40 : Int32) ≤ (aI L102 0 (1 : Int32).toNatClampNeg) then (
      pL_law_380 N n9 xs9 k_314 (0 : Int32) x15 x16 x17 v101 S L102 C D)
    else (
      pL_law_380 N n9 xs9 k_314 (1 : Int32) x15 x16 x17 v101 S L102 C D)
noncomputable def pL_law_314 (N : Nat) (n9 : Nat) (xs9 : Nat → Int32) : Nat → Int32 → kS → lS → Nat → Nat → Option (Int32 × kS × lS)
  | 0 => fun _ _ _ _ _ => none
  | n_314 + 1 => fun x15 S L C D =>
    if (76 : Int32) ≤ x15 then (
      lre 600074 7301550 C D (1 : Int32) S L)
    else (
      lbc (scrI n9 xs9 x15) fun v101 =>
      lba (pL_low N v101 (34 : Int32) L) fun v102 L103 =>
      lba (pL_low N (v101 >>> ((16 : Int32) &&& 31)) (2 : Int32) L103) fun v104 L105 =>
      if v104 = (0 : Int32) then (
        pL_law_359 N n9 xs9 (pL_law_314 N n9 xs9 n_314) (4 : Int32) (v101 >>> ((5 : Int32) &&& 31)) x15 v101 v102 S L105 C D)
      else (
        pL_law_359 N n9 xs9 (pL_law_314 N n9 xs9 n_314) (2 : Int32) (v101 >>> ((5 : Int32) &&& 31)) x15 v101 v102 S L105 C D))
noncomputable def pL_law_306 (N : Nat) (n9 : Nat) (xs9 : Nat → Int32) (S : kS) (L : lS) (C : Nat) (D : Nat) : Option (Int32 × kS × lS) :=
    gd (3 : Int32) 20 <| slv (uI L 0 (3 : Int32).toNatClampNeg (3 : Int32)) fun L101 =>
    pL_law_314 N n9 xs9 N (6 : Int32) S L101 C D
noncomputable def pL_law_249 (N : Nat) (n9 : Nat) (xs9 : Nat → Int32) (k_203 : Int32 → kS → lS → Nat → Nat → Option (Int32 × kS × lS)) (t0 : Int32) (t1 : Int32) (x15 : Int32) (x16 : Int32) (S : kS) (L : lS) (C : Nat) (D : Nat) : Option (Int32 × kS × lS) :=
    gd t1 9 <| slv (uI L 1 t1.toNatClampNeg t0) fun L101 =>
    lba (pL_low N (x16 >>> ((4 : Int32) &&& 31)) (8 : Int32) L101) fun v102 L103 =>
    gd (((3 : Int32) * x15) + (2 : Int32)) 9 <| slv (uI L103 1 (((3 : Int32) * x15) + (2 : Int32)).toNatClampNeg v102) fun L104 =>
    gd ((3 : Int32) * x15) 9 <|
    gd (((3 : Int32) * x15) + (1 : Int32)) 9 <|
    gd (((3 : Int32) * x15) + (2 : Int32)) 9 <|
    lbx 2 12 600074 7301550 C D (pX9_objectClass N (aI L104 1 ((3 : Int32) * x15).toNatClampNeg) (aI L104 1 (((3 : Int32) * x15) + (1 : Int32)).toNatClampNeg) (aI L104 1 (((3 : Int32) * x15) + (2 : Int32)).toNatClampNeg) S) fun v105 S106 C107 D108 =>
    if v105 = x15 then (
      nm (x15 + (1 : Int32)) fun y109 =>
      k_203 y109 S106 L104 C107 D108)
    else (
      lre 600074 7301550 C107 D108 (0 : Int32) S106 L104)
noncomputable def pL_law_203 (N : Nat) (n9 : Nat) (xs9 : Nat → Int32) (k_306 : kS → lS → Nat → Nat → Option (Int32 × kS × lS)) : Nat → Int32 → kS → lS → Nat → Nat → Option (Int32 × kS × lS)
  | 0 => fun _ _ _ _ _ => none
  | n_203 + 1 => fun x15 S L C D =>
    if (3 : Int32) ≤ x15 then (
      k_306 S L C D)
    else (
      lbc (scrI n9 xs9 ((3 : Int32) + x15)) fun v101 =>
      lba (pL_low N v101 (3 : Int32) L) fun v102 L103 =>
      if v102 = (0 : Int32) then (
        lba (pL_low N (v101 >>> ((2 : Int32) &&& 31)) (3 : Int32) L103) fun v104 L105 =>
        pL_law_249 N n9 xs9 (pL_law_203 N n9 xs9 k_306 n_203) ((1 : Int32) <<< (v104 &&& 31)) (((3 : Int32) * x15) + (1 : Int32)) x15 v101 S L105 C D)
      else (
        pL_law_249 N n9 xs9 (pL_law_203 N n9 xs9 k_306 n_203) (0 : Int32) (((3 : Int32) * x15) + (1 : Int32)) x15 v101 S L103 C D))
noncomputable def pL_law_196 (N : Nat) (n9 : Nat) (xs9 : Nat → Int32) (S : kS) (L : lS) (C : Nat) (D : Nat) : Option (Int32 × kS × lS) :=
    gd (2 : Int32) 20 <| slv (uI L 0 (2 : Int32).toNatClampNeg (3 : Int32)) fun L101 =>
    pL_law_203 N n9 xs9 (pL_law_306 N n9 xs9) N (0 : Int32) S L101 C D
noncomputable def pL_law_180 (N : Nat) (n9 : Nat) (xs9 : Nat → Int32) (k_90 : Int32 → kS → lS → Nat → Nat → Option (Int32 × kS × lS)) (t0 : Int32) (t1 : Int32) (x15 : Int32) (S : kS) (L : lS) (C : Nat) (D : Nat) : Option (Int32 × kS × lS) :=
    lbx 1 6 600074 7301550 C D (pX9_attribute N t1 t0 S) fun v101 S102 C103 D104 =>
    if v101 = x15 then (
      nm (x15 + (1 : Int32)) fun y105 =>
      k_90 y105 S102 L C103 D104)
    else (
      lre 600074 7301550 C103 D104 (0 : Int32) S102 L)
noncomputable def pL_law_164 (N : Nat) (n9 : Nat) (xs9 : Nat → Int32) (k_90 : Int32 → kS → lS → Nat → Nat → Option (Int32 × kS × lS)) (t0 : Int32) (x15 : Int32) (S : kS) (L : lS) (C : Nat) (D : Nat) : Option (Int32 × kS × lS) :=
    gd ((13 : Int32) + x15) 20 <|
    if (aI L 0 ((13 : Int32) + x15).toNatClampNeg) ≤ (1 : Int32) then (
      pL_law_180 N n9 xs9 k_90 (0 : Int32) t0 x15 S L C D)
    else (
      pL_law_180 N n9 xs9 k_90 (1 : Int32) t0 x15 S L C D)
noncomputable def pL_law_144 (N : Nat) (n9 : Nat) (xs9 : Nat → Int32) (k_90 : Int32 → kS → lS → Nat → Nat → Option (Int32 × kS × lS)) (t0 : Int32) (t1 : Int32) (x15 : Int32) (S : kS) (L : lS) (C : Nat) (D : Nat) : Option (Int32 × kS × lS) :=
    gd t1 9 <| slv (uI L 1 t1.toNatClampNeg t0) fun L101 =>
    gd ((13 : Int32) + x15) 20 <|
    if ((aI L101 0 ((13 : Int32) + x15).toNatClampNeg) - (aI L101 0 ((13 : Int32) + x15).toNatClampNeg) / (2 : Int32) * (2 : Int32)) = (1 : Int32) then (
      pL_law_164 N n9 xs9 k_90 (1 : Int32) x15 S L101 C D)
    else (
      pL_law_164 N n9 xs9 k_90 (0 : Int32) x15 S L101 C D)
noncomputable def pL_law_90 (N : Nat) (n9 : Nat) (xs9 : Nat → Int32) (k_196 : kS → lS → Nat → Nat → Option (Int32 × kS × lS)) : Nat → Int32 → kS → lS → Nat → Nat → Option (Int32 × kS × lS)
  | 0 => fun _ _ _ _ _ => none
  | n_90 + 1 => fun x15 S L C D =>
    if (3 : Int32) ≤ x15 then (
      k_196 S L C D)
    else (
      lbc (scrI n9 xs9 x15) fun v101 =>
      lba (pL_low N v101 (4 : Int32) L) fun v102 L103 =>
      gd ((13 : Int32) + x15) 20 <| slv (uI L103 0 ((13 : Int32) + x15).toNatClampNeg v102) fun L104 =>
      if x15 = (0 : Int32) then (
        pL_law_144 N n9 xs9 (pL_law_90 N n9 xs9 k_196 n_90) (-1 : Int32) ((3 : Int32) * x15) x15 S L104 C D)
      else (
        lba (pL_low N (v101 >>> ((2 : Int32) &&& 31)) (x15 + (1 : Int32)) L104) fun v105 L106 =>
        pL_law_144 N n9 xs9 (pL_law_90 N n9 xs9 k_196 n_90) (v105 - (1 : Int32)) ((3 : Int32) * x15) x15 S L106 C D))
noncomputable def pL_law (N : Nat) (n9 : Nat) (xs9 : Nat → Int32) (S : kS) (L : lS) (C : Nat) (D : Nat) : Option (Int32 × kS × lS) :=
    gd (0 : Int32) 20 <| slv (uI L 0 (0 : Int32).toNatClampNeg (1 : Int32)) fun L101 =>
    pL_law_90 N n9 xs9 (pL_law_196 N n9 xs9) N (0 : Int32) S L101 C D
set_option maxRecDepth 100000 in
set_option maxHeartbeats 8000000 in
theorem w_law {l : Launch} (hlt : l.stackTraces = false) (N n9 b9 : Nat) (xs9 : Nat → Int32) {p : Program} {e : Env} {s : State} {m : MethodId} {below : List Frame} {meth : Method} {c : Code} {dC : Nat → ClassId} {dI : Nat → Nat → Nat} {g : kG} {a : Nat → Nat} {Si Sf : kS} {Lf : lS} (X : lX l p s m meth c code 23 #[Value.ref b9] dC dI g (fun q => s.heap.size ≤ q) Si) (hr : meth.sig.returnType = ret) (hX : va_X b9 n9 xs9 s s.heap) (hbl : b9 < s.heap.size) : ∀ (S : kS) (L : lS) (C D : Nat) (hCD : C ≤ 600074 ∧ D ≤ 7301550) (H : Heap) (locs : List Loc), lV dC dI g a (fun q => s.heap.size ≤ q) s Si S L H locs → ∀ ls : Array Slot, lv_has ls 23 [(0, .ref b9), (1, .ref (g.2.1 0)), (2, .ref (a 0)), (3, .ref (a 1)), (4, .ref (a 2)), (5, .ref (a 3)), (6, .ref (a 4)), (7, .ref (a 5)), (8, .ref (a 6)), (9, .ref (a 7)), (10, .ref (a 8)), (11, .ref (a 9)), (12, .ref (a 10)), (13, .ref (a 11)), (14, .ref (a 12))] → pL_law N n9 xs9 S L C D = some (1, Sf, Lf) → W p l e room_1 s m #[Value.ref b9] below meth c H locs C D (lw_Z below #[Value.ref b9] s) (F0 m 83 ls []) := by
  have hx := X.1
  have hb := X.2.1
  have hbA : ¬ (fun q : Nat => s.heap.size ≤ q) b9 := Nat.not_le.mpr hbl
  have hC_314 : ∀ (n_314 : Nat), ∀ (x15 : Int32) (S : kS) (L : lS) (C D : Nat) (hCD : C ≤ 600074 ∧ D ≤ 7301550) (H : Heap) (locs : List Loc), lV dC dI g a (fun q => s.heap.size ≤ q) s Si S L H locs → ∀ ls : Array Slot, lv_has ls 23 [(0, .ref b9), (1, .ref (g.2.1 0)), (2, .ref (a 0)), (3, .ref (a 1)), (4, .ref (a 2)), (5, .ref (a 3)), (6, .ref (a 4)), (7, .ref (a 5)), (8, .ref (a 6)), (9, .ref (a 7)), (10, .ref (a 8)), (11, .ref (a 9)), (12, .ref (a 10)), (13, .ref (a 11)), (14, .ref (a 12)), (15, .int x15)] → pL_law_314 N n9 xs9 n_314 x15 S L C D = some (1, Sf, Lf) → W p l e room_1 s m #[Value.ref b9] below meth c H locs C D (lw_Z below #[Value.ref b9] s) (F0 m 314 ls []) := by
    intro n_314
    induction n_314 with
    | zero =>
      intro x15 S L C D hCD H locs I ls hl hpf
      rw [pL_law_314] at hpf
      cases hpf
    | succ n_314 ih_314 =>
      have hC_1117 : ∀ (x15 : Int32) (x16 : Int32) (x19 : Int32) (S : kS) (L : lS) (C D : Nat) (hCD : C ≤ 600074 ∧ D ≤ 7301550) (H : Heap) (locs : List Loc), lV dC dI g a (fun q => s.heap.size ≤ q) s Si S L H locs → ∀ ls : Array Slot, lv_has ls 23 [(0, .ref b9), (1, .ref (g.2.1 0)), (2, .ref (a 0)), (3, .ref (a 1)), (4, .ref (a 2)), (5, .ref (a 3)), (6, .ref (a 4)), (7, .ref (a 5)), (8, .ref (a 6)), (9, .ref (a 7)), (10, .ref (a 8)), (11, .ref (a 9)), (12, .ref (a 10)), (13, .ref (a 11)), (14, .ref (a 12)), (15, .int x15), (16, .int x16), (19, .int x19)] → pL_law_1117 N n9 xs9 (pL_law_314 N n9 xs9 n_314) x15 x16 x19 S L C D = some (1, Sf, Lf) → W p l e room_1 s m #[Value.ref b9] below meth c H locs C D (lw_Z below #[Value.ref b9] s) (F0 m 1117 ls []) := by
        intro x15 x16 x19 S L C D hCD H locs I ls hl hpf
        unfold pL_law_1117 at hpf
        refine lv_iload hx hb dL_law_1117 (lv_at hl 16 rfl) ?_
        refine lv_bipush (v := (8 : Int32)) hx hb dL_law_1119 (by decide) ?_
        refine lv_ishr hx hb dL_law_1121 ?_
        refine lv_iconst (v := (4 : Int32)) hx hb dL_law_1122 (by decide) ?_
        refine l_cAI (rest := []) (As := [.int (x16 >>> ((8 : Int32) &&& 31)), .int (4 : Int32)]) X I fL_low (c_L_low l hlt N (x16 >>> ((8 : Int32) &&& 31)) (4 : Int32)) rfl ⟨Nat.le_of_ble_eq_true rfl, Nat.le_of_ble_eq_true rfl⟩ 1123 dL_law_1123 rfl hl.1 rfl (Nat.le_of_ble_eq_true rfl) hCD hpf (fun v101 L102 H locs I hpf => ?_)
        refine lv_istore (lv' := [(21, .int v101), (0, .ref b9), (1, .ref (g.2.1 0)), (2, .ref (a 0)), (3, .ref (a 1)), (4, .ref (a 2)), (5, .ref (a 3)), (6, .ref (a 4)), (7, .ref (a 5)), (8, .ref (a 6)), (9, .ref (a 7)), (10, .ref (a 8)), (11, .ref (a 9)), (12, .ref (a 10)), (13, .ref (a 11)), (14, .ref (a 12)), (15, .int x15), (16, .int x16), (19, .int x19)]) hx hb dL_law_1126 hl (by decide) rfl (fun ls hl => ?_)
        refine lv_iload hx hb dL_law_1128 (lv_at hl 0 rfl) ?_
        refine lv_aload_n hx hb dL_law_1130 rfl (lv_at hl 3 rfl) ?_
        refine lv_aload hx hb dL_law_1131 (lv_at hl 5 rfl) ?_
        refine lv_aload hx hb dL_law_1133 (lv_at hl 6 rfl) ?_
        refine lv_aload hx hb dL_law_1135 (lv_at hl 7 rfl) ?_
        refine lv_aload hx hb dL_law_1137 (lv_at hl 8 rfl) ?_
        refine lv_aload hx hb dL_law_1139 (lv_at hl 9 rfl) ?_
        refine lv_aload hx hb dL_law_1141 (lv_at hl 10 rfl) ?_
        refine lv_aload hx hb dL_law_1143 (lv_at hl 11 rfl) ?_
        refine lv_aload hx hb dL_law_1145 (lv_at hl 12 rfl) ?_
        refine lv_aload hx hb dL_law_1147 (lv_at hl 13 rfl) ?_
        refine l_cAU (rest := []) (As := [.int v101, .ref (a 0), .ref (a 2), .ref (a 3), .ref (a 4), .ref (a 5), .ref (a 6), .ref (a 7), .ref (a 8), .ref (a 9), .ref (a 10)]) X I fL_lays (c_L_lays l hlt N v101) rfl ⟨Nat.le_of_ble_eq_true rfl, Nat.le_of_ble_eq_true rfl⟩ 1149 dL_law_1149 rfl hl.1 rfl (Nat.le_of_ble_eq_true rfl) hCD hpf (fun v103 L104 H locs I hpf => ?_)
        refine lv_iload hx hb dL_law_1152 (lv_at hl 18 rfl) ?_
        refine b_if_eq hx hb 1232 1154 dL_law_1154 (by decide) hpf (fun hpf => ?_) (fun hpf => ?_)
        · refine lv_iconst (v := (0 : Int32)) hx hb dL_law_1232 (by decide) ?_
          exact l_retLaw X I hr 1233 dL_law_1233 hpf
        refine lv_aload_n hx hb dL_law_1157 rfl (lv_at hl 2 rfl) ?_
        refine lv_iload hx hb dL_law_1158 (lv_at hl 0 rfl) ?_
        refine lv_iload hx hb dL_law_1160 (lv_at hl 17 rfl) ?_
        refine lv_bipush (v := (10 : Int32)) hx hb dL_law_1162 (by decide) ?_
        refine lv_ishr hx hb dL_law_1164 ?_
        refine lv_aload_n hx hb dL_law_1165 rfl (lv_at hl 3 rfl) ?_
        refine lv_aload_n hx hb dL_law_1166 rfl (lv_at hl 4 rfl) ?_
        refine lv_aload hx hb dL_law_1167 (lv_at hl 5 rfl) ?_
        refine lv_aload hx hb dL_law_1169 (lv_at hl 6 rfl) ?_
        refine lv_aload hx hb dL_law_1171 (lv_at hl 7 rfl) ?_
        refine lv_aload hx hb dL_law_1173 (lv_at hl 8 rfl) ?_
        refine lv_aload hx hb dL_law_1175 (lv_at hl 9 rfl) ?_
        refine lv_aload hx hb dL_law_1177 (lv_at hl 11 rfl) ?_
        refine lv_aload hx hb dL_law_1179 (lv_at hl 12 rfl) ?_
        refine lv_aload hx hb dL_law_1181 (lv_at hl 13 rfl) ?_
        refine l_cBI (rest := []) (As := [.ref (g.2.1 0), .int v101, .int (x16 >>> ((10 : Int32) &&& 31)), .ref (a 0), .ref (a 1), .ref (a 2), .ref (a 3), .ref (a 4), .ref (a 5), .ref (a 6), .ref (a 8), .ref (a 9), .ref (a 10)]) X I fL_master (c_L_master l hlt N v101 (x16 >>> ((10 : Int32) &&& 31))) rfl ⟨Nat.le_of_ble_eq_true rfl, Nat.le_of_ble_eq_true rfl⟩ 1183 dL_law_1183 rfl hl.1 rfl (Nat.le_of_ble_eq_true rfl) ⟨Nat.le_refl _, Nat.le_refl _⟩ hpf (fun v105 S106 L107 C108 D109 hCD H locs I hpf => ?_)
        refine b_if_eq hx hb 1232 1186 dL_law_1186 (by decide) hpf (fun hpf => ?_) (fun hpf => ?_)
        · refine lv_iconst (v := (0 : Int32)) hx hb dL_law_1232 (by decide) ?_
          exact l_retLaw X I hr 1233 dL_law_1233 hpf
        refine lv_aload_n hx hb dL_law_1189 rfl (lv_at hl 2 rfl) ?_
        refine lv_iload hx hb dL_law_1190 (lv_at hl 0 rfl) ?_
        refine lv_iload hx hb dL_law_1192 (lv_at hl 17 rfl) ?_
        refine lv_bipush (v := (9 : Int32)) hx hb dL_law_1194 (by decide) ?_
        refine lv_ishr hx hb dL_law_1196 ?_
        refine lv_aload_n hx hb dL_law_1197 rfl (lv_at hl 3 rfl) ?_
        refine lv_iconst (v := (0 : Int32)) hx hb dL_law_1198 (by decide) ?_
        refine l_iald X I lR_0 1199 dL_law_1199 hpf (fun hpf => ?_)
        refine l_cAI (rest := [.int v101, .ref (g.2.1 0)]) (As := [.int (x16 >>> ((9 : Int32) &&& 31)), .int (aI L107 0 (0 : Int32).toNatClampNeg)]) X I fL_low (c_L_low l hlt N (x16 >>> ((9 : Int32) &&& 31)) (aI L107 0 (0 : Int32).toNatClampNeg)) rfl ⟨Nat.le_of_ble_eq_true rfl, Nat.le_of_ble_eq_true rfl⟩ 1200 dL_law_1200 rfl hl.1 rfl (Nat.le_of_ble_eq_true rfl) hCD hpf (fun v110 L111 H locs I hpf => ?_)
        refine lv_iload hx hb dL_law_1203 (lv_at hl 17 rfl) ?_
        refine lv_bipush (v := (12 : Int32)) hx hb dL_law_1205 (by decide) ?_
        refine lv_ishr hx hb dL_law_1207 ?_
        refine lv_aload_n hx hb dL_law_1208 rfl (lv_at hl 3 rfl) ?_
        refine lv_aload_n hx hb dL_law_1209 rfl (lv_at hl 4 rfl) ?_
        refine lv_aload hx hb dL_law_1210 (lv_at hl 5 rfl) ?_
        refine lv_aload hx hb dL_law_1212 (lv_at hl 6 rfl) ?_
        refine lv_aload hx hb dL_law_1214 (lv_at hl 7 rfl) ?_
        refine lv_aload hx hb dL_law_1216 (lv_at hl 8 rfl) ?_
        refine lv_aload hx hb dL_law_1218 (lv_at hl 9 rfl) ?_
        refine lv_aload hx hb dL_law_1220 (lv_at hl 11 rfl) ?_
        refine lv_aload hx hb dL_law_1222 (lv_at hl 12 rfl) ?_
        refine lv_aload hx hb dL_law_1224 (lv_at hl 13 rfl) ?_
        refine l_cBI (rest := []) (As := [.ref (g.2.1 0), .int v101, .int v110, .int (x16 >>> ((12 : Int32) &&& 31)), .ref (a 0), .ref (a 1), .ref (a 2), .ref (a 3), .ref (a 4), .ref (a 5), .ref (a 6), .ref (a 8), .ref (a 9), .ref (a 10)]) X I fL_entry (c_L_entry l hlt N v101 v110 (x16 >>> ((12 : Int32) &&& 31))) rfl ⟨Nat.le_of_ble_eq_true rfl, Nat.le_of_ble_eq_true rfl⟩ 1226 dL_law_1226 rfl hl.1 rfl (Nat.le_of_ble_eq_true rfl) ⟨Nat.le_refl _, Nat.le_refl _⟩ hpf (fun v112 S113 L114 C115 D116 hCD H locs I hpf => ?_)
        refine b_if_ne hx hb 1234 1229 dL_law_1229 (by decide) hpf (fun hpf => ?_) (fun hpf => ?_)
        · refine m_iinc (w := (1 : Int32)) hx hb (fun y117 => [(15, .int y117), (21, .int v101), (0, .ref b9), (1, .ref (g.2.1 0)), (2, .ref (a 0)), (3, .ref (a 1)), (4, .ref (a 2)), (5, .ref (a 3)), (6, .ref (a 4)), (7, .ref (a 5)), (8, .ref (a 6)), (9, .ref (a 7)), (10, .ref (a 8)), (11, .ref (a 9)), (12, .ref (a 10)), (13, .ref (a 11)), (14, .ref (a 12)), (16, .int x16), (19, .int x19)]) 1234 dL_law_1234 hl (k := 16) rfl (by decide) (by decide) (fun _ => rfl) hpf (fun y117 ls hl hpf => ?_)
          refine lv_goto (tgt := 314) hx hb dL_law_1237 (by decide) ?_
          exact ih_314 y117 S113 L114 C115 D116 hCD H locs I ls (lv_sub hl [2, 3, 4, 5, 6, 7, 8, 9, 10, 11, 12, 13, 14, 15, 16, 0] rfl) hpf
        refine lv_iconst (v := (0 : Int32)) hx hb dL_law_1232 (by decide) ?_
        exact l_retLaw X I hr 1233 dL_law_1233 hpf
      have hC_545 : ∀ (t0 : Int32) (x15 : Int32) (x16 : Int32) (S : kS) (L : lS) (C D : Nat) (hCD : C ≤ 600074 ∧ D ≤ 7301550) (H : Heap) (locs : List Loc), lV dC dI g a (fun q => s.heap.size ≤ q) s Si S L H locs → ∀ ls : Array Slot, lv_has ls 23 [(0, .ref b9), (1, .ref (g.2.1 0)), (2, .ref (a 0)), (3, .ref (a 1)), (4, .ref (a 2)), (5, .ref (a 3)), (6, .ref (a 4)), (7, .ref (a 5)), (8, .ref (a 6)), (9, .ref (a 7)), (10, .ref (a 8)), (11, .ref (a 9)), (12, .ref (a 10)), (13, .ref (a 11)), (14, .ref (a 12)), (15, .int x15), (16, .int x16)] → pL_law_545 N n9 xs9 (pL_law_314 N n9 xs9 n_314) t0 x15 x16 S L C D = some (1, Sf, Lf) → W p l e room_1 s m #[Value.ref b9] below meth c H locs C D (lw_Z below #[Value.ref b9] s) (F0 m 545 ls [.int t0]) := by
        intro t0 x15 x16 S L C D hCD H locs I ls hl hpf
        unfold pL_law_545 at hpf
        refine lv_istore (lv' := [(19, .int t0), (0, .ref b9), (1, .ref (g.2.1 0)), (2, .ref (a 0)), (3, .ref (a 1)), (4, .ref (a 2)), (5, .ref (a 3)), (6, .ref (a 4)), (7, .ref (a 5)), (8, .ref (a 6)), (9, .ref (a 7)), (10, .ref (a 8)), (11, .ref (a 9)), (12, .ref (a 10)), (13, .ref (a 11)), (14, .ref (a 12)), (15, .int x15), (16, .int x16)]) hx hb dL_law_545 hl (by decide) rfl (fun ls hl => ?_)
        refine lv_goto (tgt := 1117) hx hb dL_law_547 (by decide) ?_
        exact hC_1117 x15 x16 t0 S L C D hCD H locs I ls (lv_sub hl [1, 2, 3, 4, 5, 6, 7, 8, 9, 10, 11, 12, 13, 14, 15, 16, 17, 0] rfl) hpf
      have hC_573 : ∀ (t0 : Int32) (x15 : Int32) (x16 : Int32) (S : kS) (L : lS) (C D : Nat) (hCD : C ≤ 600074 ∧ D ≤ 7301550) (H : Heap) (locs : List Loc), lV dC dI g a (fun q => s.heap.size ≤ q) s Si S L H locs → ∀ ls : Array Slot, lv_has ls 23 [(0, .ref b9), (1, .ref (g.2.1 0)), (2, .ref (a 0)), (3, .ref (a 1)), (4, .ref (a 2)), (5, .ref (a 3)), (6, .ref (a 4)), (7, .ref (a 5)), (8, .ref (a 6)), (9, .ref (a 7)), (10, .ref (a 8)), (11, .ref (a 9)), (12, .ref (a 10)), (13, .ref (a 11)), (14, .ref (a 12)), (15, .int x15), (16, .int x16)] → pL_law_573 N n9 xs9 (pL_law_314 N n9 xs9 n_314) t0 x15 x16 S L C D = some (1, Sf, Lf) → W p l e room_1 s m #[Value.ref b9] below meth c H locs C D (lw_Z below #[Value.ref b9] s) (F0 m 573 ls [.int t0]) := by
        intro t0 x15 x16 S L C D hCD H locs I ls hl hpf
        unfold pL_law_573 at hpf
        refine lv_istore (lv' := [(19, .int t0), (0, .ref b9), (1, .ref (g.2.1 0)), (2, .ref (a 0)), (3, .ref (a 1)), (4, .ref (a 2)), (5, .ref (a 3)), (6, .ref (a 4)), (7, .ref (a 5)), (8, .ref (a 6)), (9, .ref (a 7)), (10, .ref (a 8)), (11, .ref (a 9)), (12, .ref (a 10)), (13, .ref (a 11)), (14, .ref (a 12)), (15, .int x15), (16, .int x16)]) hx hb dL_law_573 hl (by decide) rfl (fun ls hl => ?_)
        refine lv_aload_n hx hb dL_law_575 rfl (lv_at hl 3 rfl) ?_
        refine lv_bipush (v := (8 : Int32)) hx hb dL_law_576 (by decide) ?_
        refine lv_iconst (v := (0 : Int32)) hx hb dL_law_578 (by decide) ?_
        refine l_iast X I lR_0 579 dL_law_579 hpf (fun L101 H locs I hpf => ?_)
        refine lv_goto (tgt := 1117) hx hb dL_law_580 (by decide) ?_
        exact hC_1117 x15 x16 t0 S L101 C D hCD H locs I ls (lv_sub hl [1, 2, 3, 4, 5, 6, 7, 8, 9, 10, 11, 12, 13, 14, 15, 16, 17, 0] rfl) hpf
      have hC_622 : ∀ (t0 : Int32) (t1 : Int32) (x15 : Int32) (x16 : Int32) (S : kS) (L : lS) (C D : Nat) (hCD : C ≤ 600074 ∧ D ≤ 7301550) (H : Heap) (locs : List Loc), lV dC dI g a (fun q => s.heap.size ≤ q) s Si S L H locs → ∀ ls : Array Slot, lv_has ls 23 [(0, .ref b9), (1, .ref (g.2.1 0)), (2, .ref (a 0)), (3, .ref (a 1)), (4, .ref (a 2)), (5, .ref (a 3)), (6, .ref (a 4)), (7, .ref (a 5)), (8, .ref (a 6)), (9, .ref (a 7)), (10, .ref (a 8)), (11, .ref (a 9)), (12, .ref (a 10)), (13, .ref (a 11)), (14, .ref (a 12)), (15, .int x15), (16, .int x16)] → pL_law_622 N n9 xs9 (pL_law_314 N n9 xs9 n_314) t0 t1 x15 x16 S L C D = some (1, Sf, Lf) → W p l e room_1 s m #[Value.ref b9] below meth c H locs C D (lw_Z below #[Value.ref b9] s) (F0 m 622 ls [.int t0, .int t1, .ref (g.2.1 0)]) := by
        intro t0 t1 x15 x16 S L C D hCD H locs I ls hl hpf
        unfold pL_law_622 at hpf
        refine lv_iload hx hb dL_law_622 (lv_at hl 16 rfl) ?_
        refine lv_bipush (v := (7 : Int32)) hx hb dL_law_624 (by decide) ?_
        refine lv_ishr hx hb dL_law_626 ?_
        refine lv_aload_n hx hb dL_law_627 rfl (lv_at hl 2 rfl) ?_
        refine lv_aload_n hx hb dL_law_628 rfl (lv_at hl 3 rfl) ?_
        refine lv_aload hx hb dL_law_629 (lv_at hl 4 rfl) ?_
        refine lv_aload hx hb dL_law_631 (lv_at hl 5 rfl) ?_
        refine lv_aload hx hb dL_law_633 (lv_at hl 6 rfl) ?_
        refine lv_aload hx hb dL_law_635 (lv_at hl 7 rfl) ?_
        refine lv_aload hx hb dL_law_637 (lv_at hl 8 rfl) ?_
        refine lv_aload hx hb dL_law_639 (lv_at hl 9 rfl) ?_
        refine lv_aload hx hb dL_law_641 (lv_at hl 10 rfl) ?_
        refine lv_aload hx hb dL_law_643 (lv_at hl 11 rfl) ?_
        refine lv_aload hx hb dL_law_645 (lv_at hl 12 rfl) ?_
        refine l_cBI (rest := []) (As := [.ref (g.2.1 0), .int t1, .int t0, .int (x16 >>> ((7 : Int32) &&& 31)), .ref (a 0), .ref (a 1), .ref (a 2), .ref (a 3), .ref (a 4), .ref (a 5), .ref (a 6), .ref (a 7), .ref (a 8), .ref (a 9), .ref (a 10)]) X I fL_values (c_L_values l hlt N t1 t0 (x16 >>> ((7 : Int32) &&& 31))) rfl ⟨Nat.le_of_ble_eq_true rfl, Nat.le_of_ble_eq_true rfl⟩ 647 dL_law_647 rfl hl.1 rfl (Nat.le_of_ble_eq_true rfl) ⟨Nat.le_refl _, Nat.le_refl _⟩ hpf (fun v101 S102 L103 C104 D105 hCD H locs I hpf => ?_)
        refine lv_istore (lv' := [(19, .int v101), (0, .ref b9), (1, .ref (g.2.1 0)), (2, .ref (a 0)), (3, .ref (a 1)), (4, .ref (a 2)), (5, .ref (a 3)), (6, .ref (a 4)), (7, .ref (a 5)), (8, .ref (a 6)), (9, .ref (a 7)), (10, .ref (a 8)), (11, .ref (a 9)), (12, .ref (a 10)), (13, .ref (a 11)), (14, .ref (a 12)), (15, .int x15), (16, .int x16)]) hx hb dL_law_650 hl (by decide) rfl (fun ls hl => ?_)
        refine lv_goto (tgt := 1117) hx hb dL_law_652 (by decide) ?_
        exact hC_1117 x15 x16 v101 S102 L103 C104 D105 hCD H locs I ls (lv_sub hl [1, 2, 3, 4, 5, 6, 7, 8, 9, 10, 11, 12, 13, 14, 15, 16, 17, 0] rfl) hpf
      have hC_1007 : ∀ (t0 : Int32) (x15 : Int32) (x16 : Int32) (S : kS) (L : lS) (C D : Nat) (hCD : C ≤ 600074 ∧ D ≤ 7301550) (H : Heap) (locs : List Loc), lV dC dI g a (fun q => s.heap.size ≤ q) s Si S L H locs → ∀ ls : Array Slot, lv_has ls 23 [(0, .ref b9), (1, .ref (g.2.1 0)), (2, .ref (a 0)), (3, .ref (a 1)), (4, .ref (a 2)), (5, .ref (a 3)), (6, .ref (a 4)), (7, .ref (a 5)), (8, .ref (a 6)), (9, .ref (a 7)), (10, .ref (a 8)), (11, .ref (a 9)), (12, .ref (a 10)), (13, .ref (a 11)), (14, .ref (a 12)), (15, .int x15), (16, .int x16)] → pL_law_1007 N n9 xs9 (pL_law_314 N n9 xs9 n_314) t0 x15 x16 S L C D = some (1, Sf, Lf) → W p l e room_1 s m #[Value.ref b9] below meth c H locs C D (lw_Z below #[Value.ref b9] s) (F0 m 1007 ls [.int t0]) := by
        intro t0 x15 x16 S L C D hCD H locs I ls hl hpf
        unfold pL_law_1007 at hpf
        refine lv_istore (lv' := [(19, .int t0), (0, .ref b9), (1, .ref (g.2.1 0)), (2, .ref (a 0)), (3, .ref (a 1)), (4, .ref (a 2)), (5, .ref (a 3)), (6, .ref (a 4)), (7, .ref (a 5)), (8, .ref (a 6)), (9, .ref (a 7)), (10, .ref (a 8)), (11, .ref (a 9)), (12, .ref (a 10)), (13, .ref (a 11)), (14, .ref (a 12)), (15, .int x15), (16, .int x16)]) hx hb dL_law_1007 hl (by decide) rfl (fun ls hl => ?_)
        refine lv_goto (tgt := 1117) hx hb dL_law_1009 (by decide) ?_
        exact hC_1117 x15 x16 t0 S L C D hCD H locs I ls (lv_sub hl [1, 2, 3, 4, 5, 6, 7, 8, 9, 10, 11, 12, 13, 14, 15, 16, 17, 0] rfl) hpf
      have hC_968 : ∀ (t0 : Int32) (t1 : Int32) (x15 : Int32) (x16 : Int32) (x18 : Int32) (S : kS) (L : lS) (C D : Nat) (hCD : C ≤ 600074 ∧ D ≤ 7301550) (H : Heap) (locs : List Loc), lV dC dI g a (fun q => s.heap.size ≤ q) s Si S L H locs → ∀ ls : Array Slot, lv_has ls 23 [(0, .ref b9), (1, .ref (g.2.1 0)), (2, .ref (a 0)), (3, .ref (a 1)), (4, .ref (a 2)), (5, .ref (a 3)), (6, .ref (a 4)), (7, .ref (a 5)), (8, .ref (a 6)), (9, .ref (a 7)), (10, .ref (a 8)), (11, .ref (a 9)), (12, .ref (a 10)), (13, .ref (a 11)), (14, .ref (a 12)), (15, .int x15), (16, .int x16), (18, .int x18)] → pL_law_968 N n9 xs9 (pL_law_314 N n9 xs9 n_314) t0 t1 x15 x16 x18 S L C D = some (1, Sf, Lf) → W p l e room_1 s m #[Value.ref b9] below meth c H locs C D (lw_Z below #[Value.ref b9] s) (F0 m 968 ls [.int t0, .int t1]) := by
        intro t0 t1 x15 x16 x18 S L C D hCD H locs I ls hl hpf
        unfold pL_law_968 at hpf
        refine l_cAI (rest := []) (As := [.int t1, .int t0]) X I fL_low (c_L_low l hlt N t1 t0) rfl ⟨Nat.le_of_ble_eq_true rfl, Nat.le_of_ble_eq_true rfl⟩ 968 dL_law_968 rfl hl.1 rfl (Nat.le_of_ble_eq_true rfl) hCD hpf (fun v101 L102 H locs I hpf => ?_)
        refine lv_istore (lv' := [(21, .int v101), (0, .ref b9), (1, .ref (g.2.1 0)), (2, .ref (a 0)), (3, .ref (a 1)), (4, .ref (a 2)), (5, .ref (a 3)), (6, .ref (a 4)), (7, .ref (a 5)), (8, .ref (a 6)), (9, .ref (a 7)), (10, .ref (a 8)), (11, .ref (a 9)), (12, .ref (a 10)), (13, .ref (a 11)), (14, .ref (a 12)), (15, .int x15), (16, .int x16), (18, .int x18)]) hx hb dL_law_971 hl (by decide) rfl (fun ls hl => ?_)
        refine lv_aload_n hx hb dL_law_973 rfl (lv_at hl 3 rfl) ?_
        refine lv_iconst (v := (4 : Int32)) hx hb dL_law_974 (by decide) ?_
        refine lv_iload hx hb dL_law_975 (lv_at hl 18 rfl) ?_
        refine lv_iadd hx hb dL_law_977 ?_
        refine l_iald X I lR_0 978 dL_law_978 hpf (fun hpf => ?_)
        refine m_isto hx hb (fun y103 => [(22, .int y103), (21, .int v101), (0, .ref b9), (1, .ref (g.2.1 0)), (2, .ref (a 0)), (3, .ref (a 1)), (4, .ref (a 2)), (5, .ref (a 3)), (6, .ref (a 4)), (7, .ref (a 5)), (8, .ref (a 6)), (9, .ref (a 7)), (10, .ref (a 8)), (11, .ref (a 9)), (12, .ref (a 10)), (13, .ref (a 11)), (14, .ref (a 12)), (15, .int x15), (16, .int x16), (18, .int x18)]) 979 dL_law_979 hl (by decide) (fun _ => rfl) hpf (fun y103 ls hl hpf => ?_)
        refine lv_aload_n hx hb dL_law_981 rfl (lv_at hl 4 rfl) ?_
        refine lv_iconst (v := (4 : Int32)) hx hb dL_law_982 (by decide) ?_
        refine lv_iload hx hb dL_law_983 (lv_at hl 19 rfl) ?_
        refine lv_iadd hx hb dL_law_985 ?_
        refine lv_iload hx hb dL_law_986 (lv_at hl 1 rfl) ?_
        refine l_iast X I lR_0 988 dL_law_988 hpf (fun L104 H locs I hpf => ?_)
        refine lv_aload_n hx hb dL_law_989 rfl (lv_at hl 3 rfl) ?_
        refine lv_iload hx hb dL_law_990 (lv_at hl 19 rfl) ?_
        refine lv_iload hx hb dL_law_992 (lv_at hl 1 rfl) ?_
        refine l_cX (rest := []) (As := [.int x18, .int v101]) X I fX_serve (c_X9_serve l hlt N x18 v101) ⟨Nat.le_of_ble_eq_true rfl, Nat.le_of_ble_eq_true rfl⟩ 994 dL_law_994 rfl hl.1 ⟨Nat.le_refl _, Nat.le_refl _⟩ rfl (Nat.le_of_ble_eq_true rfl) hpf (fun v105 S106 C107 D108 hCD H locs I hpf => ?_)
        refine lv_iload hx hb dL_law_997 (lv_at hl 0 rfl) ?_
        refine b_icmp_ne hx hb 1006 999 dL_law_999 (by decide) hpf (fun hpf => ?_) (fun hpf => ?_)
        · refine lv_iconst (v := (0 : Int32)) hx hb dL_law_1006 (by decide) ?_
          exact hC_1007 (0 : Int32) x15 x16 S106 L104 C107 D108 hCD H locs I ls (lv_sub hl [2, 3, 4, 5, 6, 7, 8, 9, 10, 11, 12, 13, 14, 15, 16, 17, 18] rfl) hpf
        refine lv_iconst (v := (1 : Int32)) hx hb dL_law_1002 (by decide) ?_
        refine lv_goto (tgt := 1007) hx hb dL_law_1003 (by decide) ?_
        exact hC_1007 (1 : Int32) x15 x16 S106 L104 C107 D108 hCD H locs I ls (lv_sub hl [2, 3, 4, 5, 6, 7, 8, 9, 10, 11, 12, 13, 14, 15, 16, 17, 18] rfl) hpf
      have hC_939 : ∀ (x15 : Int32) (x16 : Int32) (x17 : Int32) (x18 : Int32) (S : kS) (L : lS) (C D : Nat) (hCD : C ≤ 600074 ∧ D ≤ 7301550) (H : Heap) (locs : List Loc), lV dC dI g a (fun q => s.heap.size ≤ q) s Si S L H locs → ∀ ls : Array Slot, lv_has ls 23 [(0, .ref b9), (1, .ref (g.2.1 0)), (2, .ref (a 0)), (3, .ref (a 1)), (4, .ref (a 2)), (5, .ref (a 3)), (6, .ref (a 4)), (7, .ref (a 5)), (8, .ref (a 6)), (9, .ref (a 7)), (10, .ref (a 8)), (11, .ref (a 9)), (12, .ref (a 10)), (13, .ref (a 11)), (14, .ref (a 12)), (15, .int x15), (16, .int x16), (17, .int x17), (18, .int x18)] → pL_law_939 N n9 xs9 (pL_law_314 N n9 xs9 n_314) x15 x16 x17 x18 S L C D = some (1, Sf, Lf) → W p l e room_1 s m #[Value.ref b9] below meth c H locs C D (lw_Z below #[Value.ref b9] s) (F0 m 939 ls []) := by
        intro x15 x16 x17 x18 S L C D hCD H locs I ls hl hpf
        unfold pL_law_939 at hpf
        refine lv_iload hx hb dL_law_939 (lv_at hl 17 rfl) ?_
        refine lv_bipush (v := (29 : Int32)) hx hb dL_law_941 (by decide) ?_
        refine b_icmp_ne hx hb 1012 943 dL_law_943 (by decide) hpf (fun hpf => ?_) (fun hpf => ?_)
        · refine lv_iload hx hb dL_law_1012 (lv_at hl 17 rfl) ?_
          refine lv_bipush (v := (30 : Int32)) hx hb dL_law_1014 (by decide) ?_
          refine b_icmp_ne hx hb 1039 1016 dL_law_1016 (by decide) hpf (fun hpf => ?_) (fun hpf => ?_)
          · refine lv_iload hx hb dL_law_1039 (lv_at hl 17 rfl) ?_
            refine lv_bipush (v := (31 : Int32)) hx hb dL_law_1041 (by decide) ?_
            refine b_icmp_ne hx hb 1086 1043 dL_law_1043 (by decide) hpf (fun hpf => ?_) (fun hpf => ?_)
            · refine lv_aload_n hx hb dL_law_1086 rfl (lv_at hl 1 rfl) ?_
              refine lv_iload hx hb dL_law_1087 (lv_at hl 18 rfl) ?_
              refine lv_iload hx hb dL_law_1089 (lv_at hl 16 rfl) ?_
              refine lv_bipush (v := (7 : Int32)) hx hb dL_law_1091 (by decide) ?_
              refine lv_ishr hx hb dL_law_1093 ?_
              refine lv_aload_n hx hb dL_law_1094 rfl (lv_at hl 2 rfl) ?_
              refine lv_aload_n hx hb dL_law_1095 rfl (lv_at hl 3 rfl) ?_
              refine lv_aload hx hb dL_law_1096 (lv_at hl 4 rfl) ?_
              refine lv_aload hx hb dL_law_1098 (lv_at hl 5 rfl) ?_
              refine lv_aload hx hb dL_law_1100 (lv_at hl 6 rfl) ?_
              refine lv_aload hx hb dL_law_1102 (lv_at hl 7 rfl) ?_
              refine lv_aload hx hb dL_law_1104 (lv_at hl 8 rfl) ?_
              refine lv_aload hx hb dL_law_1106 (lv_at hl 10 rfl) ?_
              refine lv_aload hx hb dL_law_1108 (lv_at hl 11 rfl) ?_
              refine lv_aload hx hb dL_law_1110 (lv_at hl 12 rfl) ?_
              refine l_cBI (rest := []) (As := [.ref (g.2.1 0), .int x18, .int (x16 >>> ((7 : Int32) &&& 31)), .ref (a 0), .ref (a 1), .ref (a 2), .ref (a 3), .ref (a 4), .ref (a 5), .ref (a 6), .ref (a 8), .ref (a 9), .ref (a 10)]) X I fL_searches (c_L_searches l hlt N x18 (x16 >>> ((7 : Int32) &&& 31))) rfl ⟨Nat.le_of_ble_eq_true rfl, Nat.le_of_ble_eq_true rfl⟩ 1112 dL_law_1112 rfl hl.1 rfl (Nat.le_of_ble_eq_true rfl) ⟨Nat.le_refl _, Nat.le_refl _⟩ hpf (fun v101 S102 L103 C104 D105 hCD H locs I hpf => ?_)
              refine lv_istore (lv' := [(19, .int v101), (0, .ref b9), (1, .ref (g.2.1 0)), (2, .ref (a 0)), (3, .ref (a 1)), (4, .ref (a 2)), (5, .ref (a 3)), (6, .ref (a 4)), (7, .ref (a 5)), (8, .ref (a 6)), (9, .ref (a 7)), (10, .ref (a 8)), (11, .ref (a 9)), (12, .ref (a 10)), (13, .ref (a 11)), (14, .ref (a 12)), (15, .int x15), (16, .int x16), (17, .int x17), (18, .int x18)]) hx hb dL_law_1115 hl (by decide) rfl (fun ls hl => ?_)
              exact hC_1117 x15 x16 v101 S102 L103 C104 D105 hCD H locs I ls (lv_sub hl [1, 2, 3, 4, 5, 6, 7, 8, 9, 10, 11, 12, 13, 14, 15, 16, 17, 0] rfl) hpf
            refine lv_aload_n hx hb dL_law_1046 rfl (lv_at hl 1 rfl) ?_
            refine lv_iload hx hb dL_law_1047 (lv_at hl 18 rfl) ?_
            refine lv_iload hx hb dL_law_1049 (lv_at hl 16 rfl) ?_
            refine lv_bipush (v := (7 : Int32)) hx hb dL_law_1051 (by decide) ?_
            refine lv_ishr hx hb dL_law_1053 ?_
            refine lv_aload_n hx hb dL_law_1054 rfl (lv_at hl 2 rfl) ?_
            refine lv_aload_n hx hb dL_law_1055 rfl (lv_at hl 3 rfl) ?_
            refine lv_aload hx hb dL_law_1056 (lv_at hl 4 rfl) ?_
            refine lv_aload hx hb dL_law_1058 (lv_at hl 5 rfl) ?_
            refine lv_aload hx hb dL_law_1060 (lv_at hl 6 rfl) ?_
            refine lv_aload hx hb dL_law_1062 (lv_at hl 7 rfl) ?_
            refine lv_aload hx hb dL_law_1064 (lv_at hl 8 rfl) ?_
            refine lv_aload hx hb dL_law_1066 (lv_at hl 9 rfl) ?_
            refine lv_aload hx hb dL_law_1068 (lv_at hl 10 rfl) ?_
            refine lv_aload hx hb dL_law_1070 (lv_at hl 11 rfl) ?_
            refine lv_aload hx hb dL_law_1072 (lv_at hl 12 rfl) ?_
            refine lv_aload hx hb dL_law_1074 (lv_at hl 13 rfl) ?_
            refine lv_aload hx hb dL_law_1076 (lv_at hl 14 rfl) ?_
            refine l_cBI (rest := []) (As := [.ref (g.2.1 0), .int x18, .int (x16 >>> ((7 : Int32) &&& 31)), .ref (a 0), .ref (a 1), .ref (a 2), .ref (a 3), .ref (a 4), .ref (a 5), .ref (a 6), .ref (a 7), .ref (a 8), .ref (a 9), .ref (a 10), .ref (a 11), .ref (a 12)]) X I fL_follows (c_L_follows l hlt N x18 (x16 >>> ((7 : Int32) &&& 31))) rfl ⟨Nat.le_of_ble_eq_true rfl, Nat.le_of_ble_eq_true rfl⟩ 1078 dL_law_1078 rfl hl.1 rfl (Nat.le_of_ble_eq_true rfl) ⟨Nat.le_refl _, Nat.le_refl _⟩ hpf (fun v106 S107 L108 C109 D110 hCD H locs I hpf => ?_)
            refine lv_istore (lv' := [(19, .int v106), (0, .ref b9), (1, .ref (g.2.1 0)), (2, .ref (a 0)), (3, .ref (a 1)), (4, .ref (a 2)), (5, .ref (a 3)), (6, .ref (a 4)), (7, .ref (a 5)), (8, .ref (a 6)), (9, .ref (a 7)), (10, .ref (a 8)), (11, .ref (a 9)), (12, .ref (a 10)), (13, .ref (a 11)), (14, .ref (a 12)), (15, .int x15), (16, .int x16), (17, .int x17), (18, .int x18)]) hx hb dL_law_1081 hl (by decide) rfl (fun ls hl => ?_)
            refine lv_goto (tgt := 1117) hx hb dL_law_1083 (by decide) ?_
            exact hC_1117 x15 x16 v106 S107 L108 C109 D110 hCD H locs I ls (lv_sub hl [1, 2, 3, 4, 5, 6, 7, 8, 9, 10, 11, 12, 13, 14, 15, 16, 17, 0] rfl) hpf
          refine lv_aload_n hx hb dL_law_1019 rfl (lv_at hl 1 rfl) ?_
          refine lv_iload hx hb dL_law_1020 (lv_at hl 18 rfl) ?_
          refine lv_aload_n hx hb dL_law_1022 rfl (lv_at hl 2 rfl) ?_
          refine lv_aload hx hb dL_law_1023 (lv_at hl 4 rfl) ?_
          refine lv_aload hx hb dL_law_1025 (lv_at hl 5 rfl) ?_
          refine lv_aload hx hb dL_law_1027 (lv_at hl 6 rfl) ?_
          refine lv_aload hx hb dL_law_1029 (lv_at hl 10 rfl) ?_
          refine l_cBI (rest := []) (As := [.ref (g.2.1 0), .int x18, .ref (a 0), .ref (a 2), .ref (a 3), .ref (a 4), .ref (a 8)]) X I fL_sweeps (c_L_sweeps l hlt N x18) rfl ⟨Nat.le_of_ble_eq_true rfl, Nat.le_of_ble_eq_true rfl⟩ 1031 dL_law_1031 rfl hl.1 rfl (Nat.le_of_ble_eq_true rfl) ⟨Nat.le_refl _, Nat.le_refl _⟩ hpf (fun v111 S112 L113 C114 D115 hCD H locs I hpf => ?_)
          refine lv_istore (lv' := [(19, .int v111), (0, .ref b9), (1, .ref (g.2.1 0)), (2, .ref (a 0)), (3, .ref (a 1)), (4, .ref (a 2)), (5, .ref (a 3)), (6, .ref (a 4)), (7, .ref (a 5)), (8, .ref (a 6)), (9, .ref (a 7)), (10, .ref (a 8)), (11, .ref (a 9)), (12, .ref (a 10)), (13, .ref (a 11)), (14, .ref (a 12)), (15, .int x15), (16, .int x16), (17, .int x17), (18, .int x18)]) hx hb dL_law_1034 hl (by decide) rfl (fun ls hl => ?_)
          refine lv_goto (tgt := 1117) hx hb dL_law_1036 (by decide) ?_
          exact hC_1117 x15 x16 v111 S112 L113 C114 D115 hCD H locs I ls (lv_sub hl [1, 2, 3, 4, 5, 6, 7, 8, 9, 10, 11, 12, 13, 14, 15, 16, 17, 0] rfl) hpf
        refine lv_iload hx hb dL_law_946 (lv_at hl 16 rfl) ?_
        refine lv_bipush (v := (7 : Int32)) hx hb dL_law_948 (by decide) ?_
        refine lv_ishr hx hb dL_law_950 ?_
        refine lv_iload hx hb dL_law_951 (lv_at hl 16 rfl) ?_
        refine lv_bipush (v := (10 : Int32)) hx hb dL_law_953 (by decide) ?_
        refine lv_ishr hx hb dL_law_955 ?_
        refine lv_iconst (v := (2 : Int32)) hx hb dL_law_956 (by decide) ?_
        refine l_cAI (rest := [.int (x16 >>> ((7 : Int32) &&& 31))]) (As := [.int (x16 >>> ((10 : Int32) &&& 31)), .int (2 : Int32)]) X I fL_low (c_L_low l hlt N (x16 >>> ((10 : Int32) &&& 31)) (2 : Int32)) rfl ⟨Nat.le_of_ble_eq_true rfl, Nat.le_of_ble_eq_true rfl⟩ 957 dL_law_957 rfl hl.1 rfl (Nat.le_of_ble_eq_true rfl) hCD hpf (fun v116 L117 H locs I hpf => ?_)
        refine b_if_ne hx hb 967 960 dL_law_960 (by decide) hpf (fun hpf => ?_) (fun hpf => ?_)
        · refine lv_iconst (v := (1 : Int32)) hx hb dL_law_967 (by decide) ?_
          exact hC_968 (1 : Int32) (x16 >>> ((7 : Int32) &&& 31)) x15 x16 x18 S L117 C D hCD H locs I ls (lv_sub hl [0, 1, 2, 3, 4, 5, 6, 7, 8, 9, 10, 11, 12, 13, 14, 15, 16, 18] rfl) hpf
        refine lv_iconst (v := (4 : Int32)) hx hb dL_law_963 (by decide) ?_
        refine lv_goto (tgt := 968) hx hb dL_law_964 (by decide) ?_
        exact hC_968 (4 : Int32) (x16 >>> ((7 : Int32) &&& 31)) x15 x16 x18 S L117 C D hCD H locs I ls (lv_sub hl [0, 1, 2, 3, 4, 5, 6, 7, 8, 9, 10, 11, 12, 13, 14, 15, 16, 18] rfl) hpf
      have hC_904 : ∀ (x15 : Int32) (x16 : Int32) (x17 : Int32) (x18 : Int32) (S : kS) (L : lS) (C D : Nat) (hCD : C ≤ 600074 ∧ D ≤ 7301550) (H : Heap) (locs : List Loc), lV dC dI g a (fun q => s.heap.size ≤ q) s Si S L H locs → ∀ ls : Array Slot, lv_has ls 23 [(0, .ref b9), (1, .ref (g.2.1 0)), (2, .ref (a 0)), (3, .ref (a 1)), (4, .ref (a 2)), (5, .ref (a 3)), (6, .ref (a 4)), (7, .ref (a 5)), (8, .ref (a 6)), (9, .ref (a 7)), (10, .ref (a 8)), (11, .ref (a 9)), (12, .ref (a 10)), (13, .ref (a 11)), (14, .ref (a 12)), (15, .int x15), (16, .int x16), (17, .int x17), (18, .int x18)] → pL_law_904 N n9 xs9 (pL_law_314 N n9 xs9 n_314) x15 x16 x17 x18 S L C D = some (1, Sf, Lf) → W p l e room_1 s m #[Value.ref b9] below meth c H locs C D (lw_Z below #[Value.ref b9] s) (F0 m 904 ls []) := by
        intro x15 x16 x17 x18 S L C D hCD H locs I ls hl hpf
        unfold pL_law_904 at hpf
        refine lv_iload hx hb dL_law_904 (lv_at hl 17 rfl) ?_
        refine lv_bipush (v := (23 : Int32)) hx hb dL_law_906 (by decide) ?_
        refine b_icmp_le hx hb 939 908 dL_law_908 (by decide) hpf (fun hpf => ?_) (fun hpf => ?_)
        · exact hC_939 x15 x16 x17 x18 S L C D hCD H locs I ls (lv_sub hl [0, 1, 2, 3, 4, 5, 6, 7, 8, 9, 10, 11, 12, 13, 14, 15, 16, 17, 18] rfl) hpf
        refine lv_iload hx hb dL_law_911 (lv_at hl 17 rfl) ?_
        refine lv_bipush (v := (29 : Int32)) hx hb dL_law_913 (by decide) ?_
        refine b_icmp_ge hx hb 939 915 dL_law_915 (by decide) hpf (fun hpf => ?_) (fun hpf => ?_)
        · exact hC_939 x15 x16 x17 x18 S L C D hCD H locs I ls (lv_sub hl [0, 1, 2, 3, 4, 5, 6, 7, 8, 9, 10, 11, 12, 13, 14, 15, 16, 17, 18] rfl) hpf
        refine lv_aload_n hx hb dL_law_918 rfl (lv_at hl 1 rfl) ?_
        refine lv_iload hx hb dL_law_919 (lv_at hl 16 rfl) ?_
        refine lv_bipush (v := (7 : Int32)) hx hb dL_law_921 (by decide) ?_
        refine lv_ishr hx hb dL_law_923 ?_
        refine lv_aload_n hx hb dL_law_924 rfl (lv_at hl 2 rfl) ?_
        refine lv_aload hx hb dL_law_925 (lv_at hl 4 rfl) ?_
        refine lv_aload hx hb dL_law_927 (lv_at hl 5 rfl) ?_
        refine lv_aload hx hb dL_law_929 (lv_at hl 10 rfl) ?_
        refine l_cBI (rest := []) (As := [.ref (g.2.1 0), .int (x16 >>> ((7 : Int32) &&& 31)), .ref (a 0), .ref (a 2), .ref (a 3), .ref (a 8)]) X I fL_exchanges (c_L_exchanges l hlt N (x16 >>> ((7 : Int32) &&& 31))) rfl ⟨Nat.le_of_ble_eq_true rfl, Nat.le_of_ble_eq_true rfl⟩ 931 dL_law_931 rfl hl.1 rfl (Nat.le_of_ble_eq_true rfl) ⟨Nat.le_refl _, Nat.le_refl _⟩ hpf (fun v101 S102 L103 C104 D105 hCD H locs I hpf => ?_)
        refine lv_istore (lv' := [(19, .int v101), (0, .ref b9), (1, .ref (g.2.1 0)), (2, .ref (a 0)), (3, .ref (a 1)), (4, .ref (a 2)), (5, .ref (a 3)), (6, .ref (a 4)), (7, .ref (a 5)), (8, .ref (a 6)), (9, .ref (a 7)), (10, .ref (a 8)), (11, .ref (a 9)), (12, .ref (a 10)), (13, .ref (a 11)), (14, .ref (a 12)), (15, .int x15), (16, .int x16), (17, .int x17), (18, .int x18)]) hx hb dL_law_934 hl (by decide) rfl (fun ls hl => ?_)
        refine lv_goto (tgt := 1117) hx hb dL_law_936 (by decide) ?_
        exact hC_1117 x15 x16 v101 S102 L103 C104 D105 hCD H locs I ls (lv_sub hl [1, 2, 3, 4, 5, 6, 7, 8, 9, 10, 11, 12, 13, 14, 15, 16, 17, 0] rfl) hpf
      have hC_850 : ∀ (x15 : Int32) (x16 : Int32) (x17 : Int32) (x18 : Int32) (x20 : Int32) (S : kS) (L : lS) (C D : Nat) (hCD : C ≤ 600074 ∧ D ≤ 7301550) (H : Heap) (locs : List Loc), lV dC dI g a (fun q => s.heap.size ≤ q) s Si S L H locs → ∀ ls : Array Slot, lv_has ls 23 [(0, .ref b9), (1, .ref (g.2.1 0)), (2, .ref (a 0)), (3, .ref (a 1)), (4, .ref (a 2)), (5, .ref (a 3)), (6, .ref (a 4)), (7, .ref (a 5)), (8, .ref (a 6)), (9, .ref (a 7)), (10, .ref (a 8)), (11, .ref (a 9)), (12, .ref (a 10)), (13, .ref (a 11)), (14, .ref (a 12)), (15, .int x15), (16, .int x16), (17, .int x17), (18, .int x18), (20, .int x20)] → pL_law_850 N n9 xs9 (pL_law_314 N n9 xs9 n_314) x15 x16 x17 x18 x20 S L C D = some (1, Sf, Lf) → W p l e room_1 s m #[Value.ref b9] below meth c H locs C D (lw_Z below #[Value.ref b9] s) (F0 m 850 ls []) := by
        intro x15 x16 x17 x18 x20 S L C D hCD H locs I ls hl hpf
        unfold pL_law_850 at hpf
        refine lv_iload hx hb dL_law_850 (lv_at hl 17 rfl) ?_
        refine lv_bipush (v := (21 : Int32)) hx hb dL_law_852 (by decide) ?_
        refine b_icmp_le hx hb 904 854 dL_law_854 (by decide) hpf (fun hpf => ?_) (fun hpf => ?_)
        · exact hC_904 x15 x16 x17 x18 S L C D hCD H locs I ls (lv_sub hl [0, 1, 2, 3, 4, 5, 6, 7, 8, 9, 10, 11, 12, 13, 14, 15, 16, 17, 18] rfl) hpf
        refine lv_iload hx hb dL_law_857 (lv_at hl 17 rfl) ?_
        refine lv_bipush (v := (24 : Int32)) hx hb dL_law_859 (by decide) ?_
        refine b_icmp_ge hx hb 904 861 dL_law_861 (by decide) hpf (fun hpf => ?_) (fun hpf => ?_)
        · exact hC_904 x15 x16 x17 x18 S L C D hCD H locs I ls (lv_sub hl [0, 1, 2, 3, 4, 5, 6, 7, 8, 9, 10, 11, 12, 13, 14, 15, 16, 17, 18] rfl) hpf
        refine lv_iload hx hb dL_law_864 (lv_at hl 19 rfl) ?_
        refine b_if_eq hx hb 904 866 dL_law_866 (by decide) hpf (fun hpf => ?_) (fun hpf => ?_)
        · exact hC_904 x15 x16 x17 x18 S L C D hCD H locs I ls (lv_sub hl [0, 1, 2, 3, 4, 5, 6, 7, 8, 9, 10, 11, 12, 13, 14, 15, 16, 17, 18] rfl) hpf
        refine lv_aload_n hx hb dL_law_869 rfl (lv_at hl 1 rfl) ?_
        refine lv_iload hx hb dL_law_870 (lv_at hl 18 rfl) ?_
        refine lv_iload hx hb dL_law_872 (lv_at hl 16 rfl) ?_
        refine lv_bipush (v := (7 : Int32)) hx hb dL_law_874 (by decide) ?_
        refine lv_ishr hx hb dL_law_876 ?_
        refine lv_aload_n hx hb dL_law_877 rfl (lv_at hl 2 rfl) ?_
        refine lv_aload hx hb dL_law_878 (lv_at hl 4 rfl) ?_
        refine lv_aload hx hb dL_law_880 (lv_at hl 5 rfl) ?_
        refine lv_aload hx hb dL_law_882 (lv_at hl 6 rfl) ?_
        refine lv_aload hx hb dL_law_884 (lv_at hl 7 rfl) ?_
        refine lv_aload hx hb dL_law_886 (lv_at hl 8 rfl) ?_
        refine lv_aload hx hb dL_law_888 (lv_at hl 9 rfl) ?_
        refine lv_aload hx hb dL_law_890 (lv_at hl 10 rfl) ?_
        refine lv_aload hx hb dL_law_892 (lv_at hl 11 rfl) ?_
        refine lv_aload hx hb dL_law_894 (lv_at hl 12 rfl) ?_
        refine l_cBI (rest := []) (As := [.ref (g.2.1 0), .int x18, .int (x16 >>> ((7 : Int32) &&& 31)), .ref (a 0), .ref (a 2), .ref (a 3), .ref (a 4), .ref (a 5), .ref (a 6), .ref (a 7), .ref (a 8), .ref (a 9), .ref (a 10)]) X I fL_rule (c_L_rule l hlt N x18 (x16 >>> ((7 : Int32) &&& 31))) rfl ⟨Nat.le_of_ble_eq_true rfl, Nat.le_of_ble_eq_true rfl⟩ 896 dL_law_896 rfl hl.1 rfl (Nat.le_of_ble_eq_true rfl) ⟨Nat.le_refl _, Nat.le_refl _⟩ hpf (fun v101 S102 L103 C104 D105 hCD H locs I hpf => ?_)
        refine lv_istore (lv' := [(19, .int v101), (0, .ref b9), (1, .ref (g.2.1 0)), (2, .ref (a 0)), (3, .ref (a 1)), (4, .ref (a 2)), (5, .ref (a 3)), (6, .ref (a 4)), (7, .ref (a 5)), (8, .ref (a 6)), (9, .ref (a 7)), (10, .ref (a 8)), (11, .ref (a 9)), (12, .ref (a 10)), (13, .ref (a 11)), (14, .ref (a 12)), (15, .int x15), (16, .int x16), (17, .int x17), (18, .int x18), (20, .int x20)]) hx hb dL_law_899 hl (by decide) rfl (fun ls hl => ?_)
        refine lv_goto (tgt := 1117) hx hb dL_law_901 (by decide) ?_
        exact hC_1117 x15 x16 v101 S102 L103 C104 D105 hCD H locs I ls (lv_sub hl [1, 2, 3, 4, 5, 6, 7, 8, 9, 10, 11, 12, 13, 14, 15, 16, 17, 0] rfl) hpf
      have hC_803 : ∀ (x15 : Int32) (x16 : Int32) (x17 : Int32) (x18 : Int32) (x20 : Int32) (S : kS) (L : lS) (C D : Nat) (hCD : C ≤ 600074 ∧ D ≤ 7301550) (H : Heap) (locs : List Loc), lV dC dI g a (fun q => s.heap.size ≤ q) s Si S L H locs → ∀ ls : Array Slot, lv_has ls 23 [(0, .ref b9), (1, .ref (g.2.1 0)), (2, .ref (a 0)), (3, .ref (a 1)), (4, .ref (a 2)), (5, .ref (a 3)), (6, .ref (a 4)), (7, .ref (a 5)), (8, .ref (a 6)), (9, .ref (a 7)), (10, .ref (a 8)), (11, .ref (a 9)), (12, .ref (a 10)), (13, .ref (a 11)), (14, .ref (a 12)), (15, .int x15), (16, .int x16), (17, .int x17), (18, .int x18), (20, .int x20)] → pL_law_803 N n9 xs9 (pL_law_314 N n9 xs9 n_314) x15 x16 x17 x18 x20 S L C D = some (1, Sf, Lf) → W p l e room_1 s m #[Value.ref b9] below meth c H locs C D (lw_Z below #[Value.ref b9] s) (F0 m 803 ls []) := by
        intro x15 x16 x17 x18 x20 S L C D hCD H locs I ls hl hpf
        unfold pL_law_803 at hpf
        refine lv_iload hx hb dL_law_803 (lv_at hl 17 rfl) ?_
        refine lv_bipush (v := (21 : Int32)) hx hb dL_law_805 (by decide) ?_
        refine b_icmp_ne hx hb 850 807 dL_law_807 (by decide) hpf (fun hpf => ?_) (fun hpf => ?_)
        · exact hC_850 x15 x16 x17 x18 x20 S L C D hCD H locs I ls (lv_sub hl [0, 1, 2, 3, 4, 5, 6, 7, 8, 9, 10, 11, 12, 13, 14, 15, 16, 17, 18, 19] rfl) hpf
        refine lv_iload hx hb dL_law_810 (lv_at hl 19 rfl) ?_
        refine b_if_eq hx hb 850 812 dL_law_812 (by decide) hpf (fun hpf => ?_) (fun hpf => ?_)
        · exact hC_850 x15 x16 x17 x18 x20 S L C D hCD H locs I ls (lv_sub hl [0, 1, 2, 3, 4, 5, 6, 7, 8, 9, 10, 11, 12, 13, 14, 15, 16, 17, 18, 19] rfl) hpf
        refine lv_aload_n hx hb dL_law_815 rfl (lv_at hl 1 rfl) ?_
        refine lv_iload hx hb dL_law_816 (lv_at hl 18 rfl) ?_
        refine lv_iload hx hb dL_law_818 (lv_at hl 16 rfl) ?_
        refine lv_bipush (v := (7 : Int32)) hx hb dL_law_820 (by decide) ?_
        refine lv_ishr hx hb dL_law_822 ?_
        refine lv_aload_n hx hb dL_law_823 rfl (lv_at hl 2 rfl) ?_
        refine lv_aload hx hb dL_law_824 (lv_at hl 4 rfl) ?_
        refine lv_aload hx hb dL_law_826 (lv_at hl 5 rfl) ?_
        refine lv_aload hx hb dL_law_828 (lv_at hl 6 rfl) ?_
        refine lv_aload hx hb dL_law_830 (lv_at hl 7 rfl) ?_
        refine lv_aload hx hb dL_law_832 (lv_at hl 8 rfl) ?_
        refine lv_aload hx hb dL_law_834 (lv_at hl 9 rfl) ?_
        refine lv_aload hx hb dL_law_836 (lv_at hl 10 rfl) ?_
        refine lv_aload hx hb dL_law_838 (lv_at hl 11 rfl) ?_
        refine lv_aload hx hb dL_law_840 (lv_at hl 12 rfl) ?_
        refine l_cBI (rest := []) (As := [.ref (g.2.1 0), .int x18, .int (x16 >>> ((7 : Int32) &&& 31)), .ref (a 0), .ref (a 2), .ref (a 3), .ref (a 4), .ref (a 5), .ref (a 6), .ref (a 7), .ref (a 8), .ref (a 9), .ref (a 10)]) X I fL_links (c_L_links l hlt N x18 (x16 >>> ((7 : Int32) &&& 31))) rfl ⟨Nat.le_of_ble_eq_true rfl, Nat.le_of_ble_eq_true rfl⟩ 842 dL_law_842 rfl hl.1 rfl (Nat.le_of_ble_eq_true rfl) ⟨Nat.le_refl _, Nat.le_refl _⟩ hpf (fun v101 S102 L103 C104 D105 hCD H locs I hpf => ?_)
        refine lv_istore (lv' := [(19, .int v101), (0, .ref b9), (1, .ref (g.2.1 0)), (2, .ref (a 0)), (3, .ref (a 1)), (4, .ref (a 2)), (5, .ref (a 3)), (6, .ref (a 4)), (7, .ref (a 5)), (8, .ref (a 6)), (9, .ref (a 7)), (10, .ref (a 8)), (11, .ref (a 9)), (12, .ref (a 10)), (13, .ref (a 11)), (14, .ref (a 12)), (15, .int x15), (16, .int x16), (17, .int x17), (18, .int x18), (20, .int x20)]) hx hb dL_law_845 hl (by decide) rfl (fun ls hl => ?_)
        refine lv_goto (tgt := 1117) hx hb dL_law_847 (by decide) ?_
        exact hC_1117 x15 x16 v101 S102 L103 C104 D105 hCD H locs I ls (lv_sub hl [1, 2, 3, 4, 5, 6, 7, 8, 9, 10, 11, 12, 13, 14, 15, 16, 17, 0] rfl) hpf
      have hC_756 : ∀ (x15 : Int32) (x16 : Int32) (x17 : Int32) (x18 : Int32) (x20 : Int32) (S : kS) (L : lS) (C D : Nat) (hCD : C ≤ 600074 ∧ D ≤ 7301550) (H : Heap) (locs : List Loc), lV dC dI g a (fun q => s.heap.size ≤ q) s Si S L H locs → ∀ ls : Array Slot, lv_has ls 23 [(0, .ref b9), (1, .ref (g.2.1 0)), (2, .ref (a 0)), (3, .ref (a 1)), (4, .ref (a 2)), (5, .ref (a 3)), (6, .ref (a 4)), (7, .ref (a 5)), (8, .ref (a 6)), (9, .ref (a 7)), (10, .ref (a 8)), (11, .ref (a 9)), (12, .ref (a 10)), (13, .ref (a 11)), (14, .ref (a 12)), (15, .int x15), (16, .int x16), (17, .int x17), (18, .int x18), (20, .int x20)] → pL_law_756 N n9 xs9 (pL_law_314 N n9 xs9 n_314) x15 x16 x17 x18 x20 S L C D = some (1, Sf, Lf) → W p l e room_1 s m #[Value.ref b9] below meth c H locs C D (lw_Z below #[Value.ref b9] s) (F0 m 756 ls []) := by
        intro x15 x16 x17 x18 x20 S L C D hCD H locs I ls hl hpf
        unfold pL_law_756 at hpf
        refine lv_iload hx hb dL_law_756 (lv_at hl 17 rfl) ?_
        refine lv_bipush (v := (20 : Int32)) hx hb dL_law_758 (by decide) ?_
        refine b_icmp_ne hx hb 803 760 dL_law_760 (by decide) hpf (fun hpf => ?_) (fun hpf => ?_)
        · exact hC_803 x15 x16 x17 x18 x20 S L C D hCD H locs I ls (lv_sub hl [0, 1, 2, 3, 4, 5, 6, 7, 8, 9, 10, 11, 12, 13, 14, 15, 16, 17, 18, 19] rfl) hpf
        refine lv_iload hx hb dL_law_763 (lv_at hl 19 rfl) ?_
        refine b_if_eq hx hb 803 765 dL_law_765 (by decide) hpf (fun hpf => ?_) (fun hpf => ?_)
        · exact hC_803 x15 x16 x17 x18 x20 S L C D hCD H locs I ls (lv_sub hl [0, 1, 2, 3, 4, 5, 6, 7, 8, 9, 10, 11, 12, 13, 14, 15, 16, 17, 18, 19] rfl) hpf
        refine lv_aload_n hx hb dL_law_768 rfl (lv_at hl 1 rfl) ?_
        refine lv_iload hx hb dL_law_769 (lv_at hl 18 rfl) ?_
        refine lv_iload hx hb dL_law_771 (lv_at hl 16 rfl) ?_
        refine lv_bipush (v := (7 : Int32)) hx hb dL_law_773 (by decide) ?_
        refine lv_ishr hx hb dL_law_775 ?_
        refine lv_aload_n hx hb dL_law_776 rfl (lv_at hl 2 rfl) ?_
        refine lv_aload hx hb dL_law_777 (lv_at hl 4 rfl) ?_
        refine lv_aload hx hb dL_law_779 (lv_at hl 5 rfl) ?_
        refine lv_aload hx hb dL_law_781 (lv_at hl 6 rfl) ?_
        refine lv_aload hx hb dL_law_783 (lv_at hl 7 rfl) ?_
        refine lv_aload hx hb dL_law_785 (lv_at hl 8 rfl) ?_
        refine lv_aload hx hb dL_law_787 (lv_at hl 9 rfl) ?_
        refine lv_aload hx hb dL_law_789 (lv_at hl 10 rfl) ?_
        refine lv_aload hx hb dL_law_791 (lv_at hl 11 rfl) ?_
        refine lv_aload hx hb dL_law_793 (lv_at hl 12 rfl) ?_
        refine l_cBI (rest := []) (As := [.ref (g.2.1 0), .int x18, .int (x16 >>> ((7 : Int32) &&& 31)), .ref (a 0), .ref (a 2), .ref (a 3), .ref (a 4), .ref (a 5), .ref (a 6), .ref (a 7), .ref (a 8), .ref (a 9), .ref (a 10)]) X I fL_deletes (c_L_deletes l hlt N x18 (x16 >>> ((7 : Int32) &&& 31))) rfl ⟨Nat.le_of_ble_eq_true rfl, Nat.le_of_ble_eq_true rfl⟩ 795 dL_law_795 rfl hl.1 rfl (Nat.le_of_ble_eq_true rfl) ⟨Nat.le_refl _, Nat.le_refl _⟩ hpf (fun v101 S102 L103 C104 D105 hCD H locs I hpf => ?_)
        refine lv_istore (lv' := [(19, .int v101), (0, .ref b9), (1, .ref (g.2.1 0)), (2, .ref (a 0)), (3, .ref (a 1)), (4, .ref (a 2)), (5, .ref (a 3)), (6, .ref (a 4)), (7, .ref (a 5)), (8, .ref (a 6)), (9, .ref (a 7)), (10, .ref (a 8)), (11, .ref (a 9)), (12, .ref (a 10)), (13, .ref (a 11)), (14, .ref (a 12)), (15, .int x15), (16, .int x16), (17, .int x17), (18, .int x18), (20, .int x20)]) hx hb dL_law_798 hl (by decide) rfl (fun ls hl => ?_)
        refine lv_goto (tgt := 1117) hx hb dL_law_800 (by decide) ?_
        exact hC_1117 x15 x16 v101 S102 L103 C104 D105 hCD H locs I ls (lv_sub hl [1, 2, 3, 4, 5, 6, 7, 8, 9, 10, 11, 12, 13, 14, 15, 16, 17, 0] rfl) hpf
      have hC_702 : ∀ (x15 : Int32) (x16 : Int32) (x17 : Int32) (x18 : Int32) (x20 : Int32) (S : kS) (L : lS) (C D : Nat) (hCD : C ≤ 600074 ∧ D ≤ 7301550) (H : Heap) (locs : List Loc), lV dC dI g a (fun q => s.heap.size ≤ q) s Si S L H locs → ∀ ls : Array Slot, lv_has ls 23 [(0, .ref b9), (1, .ref (g.2.1 0)), (2, .ref (a 0)), (3, .ref (a 1)), (4, .ref (a 2)), (5, .ref (a 3)), (6, .ref (a 4)), (7, .ref (a 5)), (8, .ref (a 6)), (9, .ref (a 7)), (10, .ref (a 8)), (11, .ref (a 9)), (12, .ref (a 10)), (13, .ref (a 11)), (14, .ref (a 12)), (15, .int x15), (16, .int x16), (17, .int x17), (18, .int x18), (20, .int x20)] → pL_law_702 N n9 xs9 (pL_law_314 N n9 xs9 n_314) x15 x16 x17 x18 x20 S L C D = some (1, Sf, Lf) → W p l e room_1 s m #[Value.ref b9] below meth c H locs C D (lw_Z below #[Value.ref b9] s) (F0 m 702 ls []) := by
        intro x15 x16 x17 x18 x20 S L C D hCD H locs I ls hl hpf
        unfold pL_law_702 at hpf
        refine lv_iload hx hb dL_law_702 (lv_at hl 17 rfl) ?_
        refine lv_bipush (v := (16 : Int32)) hx hb dL_law_704 (by decide) ?_
        refine b_icmp_le hx hb 756 706 dL_law_706 (by decide) hpf (fun hpf => ?_) (fun hpf => ?_)
        · exact hC_756 x15 x16 x17 x18 x20 S L C D hCD H locs I ls (lv_sub hl [0, 1, 2, 3, 4, 5, 6, 7, 8, 9, 10, 11, 12, 13, 14, 15, 16, 17, 18, 19] rfl) hpf
        refine lv_iload hx hb dL_law_709 (lv_at hl 17 rfl) ?_
        refine lv_bipush (v := (20 : Int32)) hx hb dL_law_711 (by decide) ?_
        refine b_icmp_ge hx hb 756 713 dL_law_713 (by decide) hpf (fun hpf => ?_) (fun hpf => ?_)
        · exact hC_756 x15 x16 x17 x18 x20 S L C D hCD H locs I ls (lv_sub hl [0, 1, 2, 3, 4, 5, 6, 7, 8, 9, 10, 11, 12, 13, 14, 15, 16, 17, 18, 19] rfl) hpf
        refine lv_iload hx hb dL_law_716 (lv_at hl 19 rfl) ?_
        refine b_if_eq hx hb 756 718 dL_law_718 (by decide) hpf (fun hpf => ?_) (fun hpf => ?_)
        · exact hC_756 x15 x16 x17 x18 x20 S L C D hCD H locs I ls (lv_sub hl [0, 1, 2, 3, 4, 5, 6, 7, 8, 9, 10, 11, 12, 13, 14, 15, 16, 17, 18, 19] rfl) hpf
        refine lv_aload_n hx hb dL_law_721 rfl (lv_at hl 1 rfl) ?_
        refine lv_iload hx hb dL_law_722 (lv_at hl 18 rfl) ?_
        refine lv_iload hx hb dL_law_724 (lv_at hl 16 rfl) ?_
        refine lv_bipush (v := (7 : Int32)) hx hb dL_law_726 (by decide) ?_
        refine lv_ishr hx hb dL_law_728 ?_
        refine lv_aload_n hx hb dL_law_729 rfl (lv_at hl 2 rfl) ?_
        refine lv_aload hx hb dL_law_730 (lv_at hl 4 rfl) ?_
        refine lv_aload hx hb dL_law_732 (lv_at hl 5 rfl) ?_
        refine lv_aload hx hb dL_law_734 (lv_at hl 6 rfl) ?_
        refine lv_aload hx hb dL_law_736 (lv_at hl 7 rfl) ?_
        refine lv_aload hx hb dL_law_738 (lv_at hl 8 rfl) ?_
        refine lv_aload hx hb dL_law_740 (lv_at hl 9 rfl) ?_
        refine lv_aload hx hb dL_law_742 (lv_at hl 10 rfl) ?_
        refine lv_aload hx hb dL_law_744 (lv_at hl 11 rfl) ?_
        refine lv_aload hx hb dL_law_746 (lv_at hl 12 rfl) ?_
        refine l_cBI (rest := []) (As := [.ref (g.2.1 0), .int x18, .int (x16 >>> ((7 : Int32) &&& 31)), .ref (a 0), .ref (a 2), .ref (a 3), .ref (a 4), .ref (a 5), .ref (a 6), .ref (a 7), .ref (a 8), .ref (a 9), .ref (a 10)]) X I fL_moves (c_L_moves l hlt N x18 (x16 >>> ((7 : Int32) &&& 31))) rfl ⟨Nat.le_of_ble_eq_true rfl, Nat.le_of_ble_eq_true rfl⟩ 748 dL_law_748 rfl hl.1 rfl (Nat.le_of_ble_eq_true rfl) ⟨Nat.le_refl _, Nat.le_refl _⟩ hpf (fun v101 S102 L103 C104 D105 hCD H locs I hpf => ?_)
        refine lv_istore (lv' := [(19, .int v101), (0, .ref b9), (1, .ref (g.2.1 0)), (2, .ref (a 0)), (3, .ref (a 1)), (4, .ref (a 2)), (5, .ref (a 3)), (6, .ref (a 4)), (7, .ref (a 5)), (8, .ref (a 6)), (9, .ref (a 7)), (10, .ref (a 8)), (11, .ref (a 9)), (12, .ref (a 10)), (13, .ref (a 11)), (14, .ref (a 12)), (15, .int x15), (16, .int x16), (17, .int x17), (18, .int x18), (20, .int x20)]) hx hb dL_law_751 hl (by decide) rfl (fun ls hl => ?_)
        refine lv_goto (tgt := 1117) hx hb dL_law_753 (by decide) ?_
        exact hC_1117 x15 x16 v101 S102 L103 C104 D105 hCD H locs I ls (lv_sub hl [1, 2, 3, 4, 5, 6, 7, 8, 9, 10, 11, 12, 13, 14, 15, 16, 17, 0] rfl) hpf
      have hC_655 : ∀ (x15 : Int32) (x16 : Int32) (x17 : Int32) (x18 : Int32) (x20 : Int32) (S : kS) (L : lS) (C D : Nat) (hCD : C ≤ 600074 ∧ D ≤ 7301550) (H : Heap) (locs : List Loc), lV dC dI g a (fun q => s.heap.size ≤ q) s Si S L H locs → ∀ ls : Array Slot, lv_has ls 23 [(0, .ref b9), (1, .ref (g.2.1 0)), (2, .ref (a 0)), (3, .ref (a 1)), (4, .ref (a 2)), (5, .ref (a 3)), (6, .ref (a 4)), (7, .ref (a 5)), (8, .ref (a 6)), (9, .ref (a 7)), (10, .ref (a 8)), (11, .ref (a 9)), (12, .ref (a 10)), (13, .ref (a 11)), (14, .ref (a 12)), (15, .int x15), (16, .int x16), (17, .int x17), (18, .int x18), (20, .int x20)] → pL_law_655 N n9 xs9 (pL_law_314 N n9 xs9 n_314) x15 x16 x17 x18 x20 S L C D = some (1, Sf, Lf) → W p l e room_1 s m #[Value.ref b9] below meth c H locs C D (lw_Z below #[Value.ref b9] s) (F0 m 655 ls []) := by
        intro x15 x16 x17 x18 x20 S L C D hCD H locs I ls hl hpf
        unfold pL_law_655 at hpf
        refine lv_iload hx hb dL_law_655 (lv_at hl 17 rfl) ?_
        refine lv_bipush (v := (16 : Int32)) hx hb dL_law_657 (by decide) ?_
        refine b_icmp_ne hx hb 702 659 dL_law_659 (by decide) hpf (fun hpf => ?_) (fun hpf => ?_)
        · exact hC_702 x15 x16 x17 x18 x20 S L C D hCD H locs I ls (lv_sub hl [0, 1, 2, 3, 4, 5, 6, 7, 8, 9, 10, 11, 12, 13, 14, 15, 16, 17, 18, 19] rfl) hpf
        refine lv_iload hx hb dL_law_662 (lv_at hl 19 rfl) ?_
        refine b_if_eq hx hb 702 664 dL_law_664 (by decide) hpf (fun hpf => ?_) (fun hpf => ?_)
        · exact hC_702 x15 x16 x17 x18 x20 S L C D hCD H locs I ls (lv_sub hl [0, 1, 2, 3, 4, 5, 6, 7, 8, 9, 10, 11, 12, 13, 14, 15, 16, 17, 18, 19] rfl) hpf
        refine lv_aload_n hx hb dL_law_667 rfl (lv_at hl 1 rfl) ?_
        refine lv_iload hx hb dL_law_668 (lv_at hl 18 rfl) ?_
        refine lv_iload hx hb dL_law_670 (lv_at hl 16 rfl) ?_
        refine lv_bipush (v := (7 : Int32)) hx hb dL_law_672 (by decide) ?_
        refine lv_ishr hx hb dL_law_674 ?_
        refine lv_aload_n hx hb dL_law_675 rfl (lv_at hl 2 rfl) ?_
        refine lv_aload hx hb dL_law_676 (lv_at hl 4 rfl) ?_
        refine lv_aload hx hb dL_law_678 (lv_at hl 5 rfl) ?_
        refine lv_aload hx hb dL_law_680 (lv_at hl 6 rfl) ?_
        refine lv_aload hx hb dL_law_682 (lv_at hl 7 rfl) ?_
        refine lv_aload hx hb dL_law_684 (lv_at hl 8 rfl) ?_
        refine lv_aload hx hb dL_law_686 (lv_at hl 9 rfl) ?_
        refine lv_aload hx hb dL_law_688 (lv_at hl 10 rfl) ?_
        refine lv_aload hx hb dL_law_690 (lv_at hl 11 rfl) ?_
        refine lv_aload hx hb dL_law_692 (lv_at hl 12 rfl) ?_
        refine l_cBI (rest := []) (As := [.ref (g.2.1 0), .int x18, .int (x16 >>> ((7 : Int32) &&& 31)), .ref (a 0), .ref (a 2), .ref (a 3), .ref (a 4), .ref (a 5), .ref (a 6), .ref (a 7), .ref (a 8), .ref (a 9), .ref (a 10)]) X I fL_renames (c_L_renames l hlt N x18 (x16 >>> ((7 : Int32) &&& 31))) rfl ⟨Nat.le_of_ble_eq_true rfl, Nat.le_of_ble_eq_true rfl⟩ 694 dL_law_694 rfl hl.1 rfl (Nat.le_of_ble_eq_true rfl) ⟨Nat.le_refl _, Nat.le_refl _⟩ hpf (fun v101 S102 L103 C104 D105 hCD H locs I hpf => ?_)
        refine lv_istore (lv' := [(19, .int v101), (0, .ref b9), (1, .ref (g.2.1 0)), (2, .ref (a 0)), (3, .ref (a 1)), (4, .ref (a 2)), (5, .ref (a 3)), (6, .ref (a 4)), (7, .ref (a 5)), (8, .ref (a 6)), (9, .ref (a 7)), (10, .ref (a 8)), (11, .ref (a 9)), (12, .ref (a 10)), (13, .ref (a 11)), (14, .ref (a 12)), (15, .int x15), (16, .int x16), (17, .int x17), (18, .int x18), (20, .int x20)]) hx hb dL_law_697 hl (by decide) rfl (fun ls hl => ?_)
        refine lv_goto (tgt := 1117) hx hb dL_law_699 (by decide) ?_
        exact hC_1117 x15 x16 v101 S102 L103 C104 D105 hCD H locs I ls (lv_sub hl [1, 2, 3, 4, 5, 6, 7, 8, 9, 10, 11, 12, 13, 14, 15, 16, 17, 0] rfl) hpf
      have hC_550 : ∀ (x15 : Int32) (x16 : Int32) (x17 : Int32) (x18 : Int32) (x20 : Int32) (S : kS) (L : lS) (C D : Nat) (hCD : C ≤ 600074 ∧ D ≤ 7301550) (H : Heap) (locs : List Loc), lV dC dI g a (fun q => s.heap.size ≤ q) s Si S L H locs → ∀ ls : Array Slot, lv_has ls 23 [(0, .ref b9), (1, .ref (g.2.1 0)), (2, .ref (a 0)), (3, .ref (a 1)), (4, .ref (a 2)), (5, .ref (a 3)), (6, .ref (a 4)), (7, .ref (a 5)), (8, .ref (a 6)), (9, .ref (a 7)), (10, .ref (a 8)), (11, .ref (a 9)), (12, .ref (a 10)), (13, .ref (a 11)), (14, .ref (a 12)), (15, .int x15), (16, .int x16), (17, .int x17), (18, .int x18), (20, .int x20)] → pL_law_550 N n9 xs9 (pL_law_314 N n9 xs9 n_314) x15 x16 x17 x18 x20 S L C D = some (1, Sf, Lf) → W p l e room_1 s m #[Value.ref b9] below meth c H locs C D (lw_Z below #[Value.ref b9] s) (F0 m 550 ls []) := by
        intro x15 x16 x17 x18 x20 S L C D hCD H locs I ls hl hpf
        unfold pL_law_550 at hpf
        refine lv_iload hx hb dL_law_550 (lv_at hl 17 rfl) ?_
        refine lv_bipush (v := (11 : Int32)) hx hb dL_law_552 (by decide) ?_
        refine b_icmp_ne hx hb 583 554 dL_law_554 (by decide) hpf (fun hpf => ?_) (fun hpf => ?_)
        · refine lv_iload hx hb dL_law_583 (lv_at hl 17 rfl) ?_
          refine lv_bipush (v := (11 : Int32)) hx hb dL_law_585 (by decide) ?_
          refine b_icmp_le hx hb 655 587 dL_law_587 (by decide) hpf (fun hpf => ?_) (fun hpf => ?_)
          · exact hC_655 x15 x16 x17 x18 x20 S L C D hCD H locs I ls (lv_sub hl [0, 1, 2, 3, 4, 5, 6, 7, 8, 9, 10, 11, 12, 13, 14, 15, 16, 17, 18, 19] rfl) hpf
          refine lv_iload hx hb dL_law_590 (lv_at hl 17 rfl) ?_
          refine lv_bipush (v := (16 : Int32)) hx hb dL_law_592 (by decide) ?_
          refine b_icmp_ge hx hb 655 594 dL_law_594 (by decide) hpf (fun hpf => ?_) (fun hpf => ?_)
          · exact hC_655 x15 x16 x17 x18 x20 S L C D hCD H locs I ls (lv_sub hl [0, 1, 2, 3, 4, 5, 6, 7, 8, 9, 10, 11, 12, 13, 14, 15, 16, 17, 18, 19] rfl) hpf
          refine lv_iload hx hb dL_law_597 (lv_at hl 19 rfl) ?_
          refine b_if_eq hx hb 655 599 dL_law_599 (by decide) hpf (fun hpf => ?_) (fun hpf => ?_)
          · exact hC_655 x15 x16 x17 x18 x20 S L C D hCD H locs I ls (lv_sub hl [0, 1, 2, 3, 4, 5, 6, 7, 8, 9, 10, 11, 12, 13, 14, 15, 16, 17, 18, 19] rfl) hpf
          refine lv_aload_n hx hb dL_law_602 rfl (lv_at hl 1 rfl) ?_
          refine lv_iload hx hb dL_law_603 (lv_at hl 18 rfl) ?_
          refine lv_iload hx hb dL_law_605 (lv_at hl 17 rfl) ?_
          refine lv_bipush (v := (12 : Int32)) hx hb dL_law_607 (by decide) ?_
          refine lv_isub hx hb dL_law_609 ?_
          refine b_if_ne hx hb 617 610 dL_law_610 (by decide) hpf (fun hpf => ?_) (fun hpf => ?_)
          · refine lv_iload hx hb dL_law_617 (lv_at hl 17 rfl) ?_
            refine lv_bipush (v := (12 : Int32)) hx hb dL_law_619 (by decide) ?_
            refine lv_isub hx hb dL_law_621 ?_
            exact hC_622 (x17 - (12 : Int32)) x18 x15 x16 S L C D hCD H locs I ls (lv_sub hl [0, 1, 2, 3, 4, 5, 6, 7, 8, 9, 10, 11, 12, 13, 14, 15, 16] rfl) hpf
          refine lv_iconst (v := (1 : Int32)) hx hb dL_law_613 (by decide) ?_
          refine lv_goto (tgt := 622) hx hb dL_law_614 (by decide) ?_
          exact hC_622 (1 : Int32) x18 x15 x16 S L C D hCD H locs I ls (lv_sub hl [0, 1, 2, 3, 4, 5, 6, 7, 8, 9, 10, 11, 12, 13, 14, 15, 16] rfl) hpf
        refine lv_aload_n hx hb dL_law_557 rfl (lv_at hl 1 rfl) ?_
        refine l_cXm (rest := []) (As := []) X I fX_undraft (c_X9_undraft l N) ⟨Nat.le_of_ble_eq_true rfl, Nat.le_of_ble_eq_true rfl⟩ 558 dL_law_558 rfl hl.1 hCD rfl (Nat.le_of_ble_eq_true rfl) hpf (fun v101 S102 H locs I hpf => ?_)
        refine lv_aload_n hx hb dL_law_561 rfl (lv_at hl 2 rfl) ?_
        refine lv_bipush (v := (8 : Int32)) hx hb dL_law_562 (by decide) ?_
        refine l_iald X I lR_0 564 dL_law_564 hpf (fun hpf => ?_)
        refine b_icmp_ne hx hb 572 565 dL_law_565 (by decide) hpf (fun hpf => ?_) (fun hpf => ?_)
        · refine lv_iconst (v := (0 : Int32)) hx hb dL_law_572 (by decide) ?_
          exact hC_573 (0 : Int32) x15 x16 S102 L C D hCD H locs I ls (lv_sub hl [0, 1, 2, 3, 4, 5, 6, 7, 8, 9, 10, 11, 12, 13, 14, 15, 16] rfl) hpf
        refine lv_iconst (v := (1 : Int32)) hx hb dL_law_568 (by decide) ?_
        refine lv_goto (tgt := 573) hx hb dL_law_569 (by decide) ?_
        exact hC_573 (1 : Int32) x15 x16 S102 L C D hCD H locs I ls (lv_sub hl [0, 1, 2, 3, 4, 5, 6, 7, 8, 9, 10, 11, 12, 13, 14, 15, 16] rfl) hpf
      have hC_462 : ∀ (x15 : Int32) (x16 : Int32) (x17 : Int32) (x18 : Int32) (x20 : Int32) (S : kS) (L : lS) (C D : Nat) (hCD : C ≤ 600074 ∧ D ≤ 7301550) (H : Heap) (locs : List Loc), lV dC dI g a (fun q => s.heap.size ≤ q) s Si S L H locs → ∀ ls : Array Slot, lv_has ls 23 [(0, .ref b9), (1, .ref (g.2.1 0)), (2, .ref (a 0)), (3, .ref (a 1)), (4, .ref (a 2)), (5, .ref (a 3)), (6, .ref (a 4)), (7, .ref (a 5)), (8, .ref (a 6)), (9, .ref (a 7)), (10, .ref (a 8)), (11, .ref (a 9)), (12, .ref (a 10)), (13, .ref (a 11)), (14, .ref (a 12)), (15, .int x15), (16, .int x16), (17, .int x17), (18, .int x18), (20, .int x20)] → pL_law_462 N n9 xs9 (pL_law_314 N n9 xs9 n_314) x15 x16 x17 x18 x20 S L C D = some (1, Sf, Lf) → W p l e room_1 s m #[Value.ref b9] below meth c H locs C D (lw_Z below #[Value.ref b9] s) (F0 m 462 ls []) := by
        intro x15 x16 x17 x18 x20 S L C D hCD H locs I ls hl hpf
        unfold pL_law_462 at hpf
        refine lv_iload hx hb dL_law_462 (lv_at hl 17 rfl) ?_
        refine lv_bipush (v := (11 : Int32)) hx hb dL_law_464 (by decide) ?_
        refine b_icmp_ge hx hb 550 466 dL_law_466 (by decide) hpf (fun hpf => ?_) (fun hpf => ?_)
        · exact hC_550 x15 x16 x17 x18 x20 S L C D hCD H locs I ls (lv_sub hl [0, 1, 2, 3, 4, 5, 6, 7, 8, 9, 10, 11, 12, 13, 14, 15, 16, 17, 18, 19] rfl) hpf
        refine lv_aload_n hx hb dL_law_469 rfl (lv_at hl 2 rfl) ?_
        refine lv_bipush (v := (8 : Int32)) hx hb dL_law_470 (by decide) ?_
        refine l_iald X I lR_0 472 dL_law_472 hpf (fun hpf => ?_)
        refine lv_iconst (v := (4 : Int32)) hx hb dL_law_473 (by decide) ?_
        refine b_icmp_ge hx hb 550 474 dL_law_474 (by decide) hpf (fun hpf => ?_) (fun hpf => ?_)
        · exact hC_550 x15 x16 x17 x18 x20 S L C D hCD H locs I ls (lv_sub hl [0, 1, 2, 3, 4, 5, 6, 7, 8, 9, 10, 11, 12, 13, 14, 15, 16, 17, 18, 19] rfl) hpf
        refine lv_iload hx hb dL_law_477 (lv_at hl 16 rfl) ?_
        refine lv_bipush (v := (7 : Int32)) hx hb dL_law_479 (by decide) ?_
        refine lv_ishr hx hb dL_law_481 ?_
        refine lv_iconst (v := (3 : Int32)) hx hb dL_law_482 (by decide) ?_
        refine l_cAI (rest := []) (As := [.int (x16 >>> ((7 : Int32) &&& 31)), .int (3 : Int32)]) X I fL_low (c_L_low l hlt N (x16 >>> ((7 : Int32) &&& 31)) (3 : Int32)) rfl ⟨Nat.le_of_ble_eq_true rfl, Nat.le_of_ble_eq_true rfl⟩ 483 dL_law_483 rfl hl.1 rfl (Nat.le_of_ble_eq_true rfl) hCD hpf (fun v101 L102 H locs I hpf => ?_)
        refine lv_istore (lv' := [(21, .int v101), (0, .ref b9), (1, .ref (g.2.1 0)), (2, .ref (a 0)), (3, .ref (a 1)), (4, .ref (a 2)), (5, .ref (a 3)), (6, .ref (a 4)), (7, .ref (a 5)), (8, .ref (a 6)), (9, .ref (a 7)), (10, .ref (a 8)), (11, .ref (a 9)), (12, .ref (a 10)), (13, .ref (a 11)), (14, .ref (a 12)), (15, .int x15), (16, .int x16), (17, .int x17), (18, .int x18), (20, .int x20)]) hx hb dL_law_486 hl (by decide) rfl (fun ls hl => ?_)
        refine lv_iload hx hb dL_law_488 (lv_at hl 17 rfl) ?_
        refine lv_bipush (v := (9 : Int32)) hx hb dL_law_490 (by decide) ?_
        refine lv_ishr hx hb dL_law_492 ?_
        refine lv_bipush (v := (60 : Int32)) hx hb dL_law_493 (by decide) ?_
        refine l_cAI (rest := []) (As := [.int (x16 >>> ((9 : Int32) &&& 31)), .int (60 : Int32)]) X I fL_low (c_L_low l hlt N (x16 >>> ((9 : Int32) &&& 31)) (60 : Int32)) rfl ⟨Nat.le_of_ble_eq_true rfl, Nat.le_of_ble_eq_true rfl⟩ 495 dL_law_495 rfl hl.1 rfl (Nat.le_of_ble_eq_true rfl) hCD hpf (fun v103 L104 H locs I hpf => ?_)
        refine lv_istore (lv' := [(22, .int v103), (21, .int v101), (0, .ref b9), (1, .ref (g.2.1 0)), (2, .ref (a 0)), (3, .ref (a 1)), (4, .ref (a 2)), (5, .ref (a 3)), (6, .ref (a 4)), (7, .ref (a 5)), (8, .ref (a 6)), (9, .ref (a 7)), (10, .ref (a 8)), (11, .ref (a 9)), (12, .ref (a 10)), (13, .ref (a 11)), (14, .ref (a 12)), (15, .int x15), (16, .int x16), (17, .int x17), (18, .int x18), (20, .int x20)]) hx hb dL_law_498 hl (by decide) rfl (fun ls hl => ?_)
        refine lv_aload_n hx hb dL_law_500 rfl (lv_at hl 4 rfl) ?_
        refine lv_bipush (v := (9 : Int32)) hx hb dL_law_501 (by decide) ?_
        refine lv_aload_n hx hb dL_law_503 rfl (lv_at hl 4 rfl) ?_
        refine lv_bipush (v := (8 : Int32)) hx hb dL_law_504 (by decide) ?_
        refine l_iald X I lR_0 506 dL_law_506 hpf (fun hpf => ?_)
        refine lv_iadd hx hb dL_law_507 ?_
        refine lv_bipush (v := (100 : Int32)) hx hb dL_law_508 (by decide) ?_
        refine lv_iload hx hb dL_law_510 (lv_at hl 1 rfl) ?_
        refine lv_imul hx hb dL_law_512 ?_
        refine lv_iload hx hb dL_law_513 (lv_at hl 0 rfl) ?_
        refine lv_iadd hx hb dL_law_515 ?_
        refine l_iast X I lR_0 516 dL_law_516 hpf (fun L105 H locs I hpf => ?_)
        refine lv_aload_n hx hb dL_law_517 rfl (lv_at hl 4 rfl) ?_
        refine lv_bipush (v := (8 : Int32)) hx hb dL_law_518 (by decide) ?_
        refine lv_dup2_11 hx hb dL_law_520 rfl rfl ?_
        refine l_iald X I lR_0 521 dL_law_521 hpf (fun hpf => ?_)
        refine lv_iconst (v := (1 : Int32)) hx hb dL_law_522 (by decide) ?_
        refine lv_iadd hx hb dL_law_523 ?_
        refine l_iast X I lR_0 524 dL_law_524 hpf (fun L106 H locs I hpf => ?_)
        refine lv_aload_n hx hb dL_law_525 rfl (lv_at hl 3 rfl) ?_
        refine lv_iload hx hb dL_law_526 (lv_at hl 1 rfl) ?_
        refine lv_iload hx hb dL_law_528 (lv_at hl 0 rfl) ?_
        refine l_cX (rest := []) (As := [.int v101, .int v103]) X I fX_draft (c_X9_draft l hlt N v101 v103) ⟨Nat.le_of_ble_eq_true rfl, Nat.le_of_ble_eq_true rfl⟩ 530 dL_law_530 rfl hl.1 ⟨Nat.le_refl _, Nat.le_refl _⟩ rfl (Nat.le_of_ble_eq_true rfl) hpf (fun v107 S108 C109 D110 hCD H locs I hpf => ?_)
        refine lv_aload_n hx hb dL_law_533 rfl (lv_at hl 4 rfl) ?_
        refine lv_bipush (v := (8 : Int32)) hx hb dL_law_534 (by decide) ?_
        refine l_iald X I lR_0 536 dL_law_536 hpf (fun hpf => ?_)
        refine b_icmp_ne hx hb 544 537 dL_law_537 (by decide) hpf (fun hpf => ?_) (fun hpf => ?_)
        · refine lv_iconst (v := (0 : Int32)) hx hb dL_law_544 (by decide) ?_
          exact hC_545 (0 : Int32) x15 x16 S108 L106 C109 D110 hCD H locs I ls (lv_sub hl [2, 3, 4, 5, 6, 7, 8, 9, 10, 11, 12, 13, 14, 15, 16, 17, 18] rfl) hpf
        refine lv_iconst (v := (1 : Int32)) hx hb dL_law_540 (by decide) ?_
        refine lv_goto (tgt := 545) hx hb dL_law_541 (by decide) ?_
        exact hC_545 (1 : Int32) x15 x16 S108 L106 C109 D110 hCD H locs I ls (lv_sub hl [2, 3, 4, 5, 6, 7, 8, 9, 10, 11, 12, 13, 14, 15, 16, 17, 18] rfl) hpf
      have hC_380 : ∀ (t0 : Int32) (x15 : Int32) (x16 : Int32) (x17 : Int32) (x18 : Int32) (S : kS) (L : lS) (C D : Nat) (hCD : C ≤ 600074 ∧ D ≤ 7301550) (H : Heap) (locs : List Loc), lV dC dI g a (fun q => s.heap.size ≤ q) s Si S L H locs → ∀ ls : Array Slot, lv_has ls 23 [(0, .ref b9), (1, .ref (g.2.1 0)), (2, .ref (a 0)), (3, .ref (a 1)), (4, .ref (a 2)), (5, .ref (a 3)), (6, .ref (a 4)), (7, .ref (a 5)), (8, .ref (a 6)), (9, .ref (a 7)), (10, .ref (a 8)), (11, .ref (a 9)), (12, .ref (a 10)), (13, .ref (a 11)), (14, .ref (a 12)), (15, .int x15), (16, .int x16), (17, .int x17), (18, .int x18)] → pL_law_380 N n9 xs9 (pL_law_314 N n9 xs9 n_314) t0 x15 x16 x17 x18 S L C D = some (1, Sf, Lf) → W p l e room_1 s m #[Value.ref b9] below meth c H locs C D (lw_Z below #[Value.ref b9] s) (F0 m 380 ls [.int t0]) := by
        intro t0 x15 x16 x17 x18 S L C D hCD H locs I ls hl hpf
        unfold pL_law_380 at hpf
        refine lv_istore (lv' := [(20, .int t0), (0, .ref b9), (1, .ref (g.2.1 0)), (2, .ref (a 0)), (3, .ref (a 1)), (4, .ref (a 2)), (5, .ref (a 3)), (6, .ref (a 4)), (7, .ref (a 5)), (8, .ref (a 6)), (9, .ref (a 7)), (10, .ref (a 8)), (11, .ref (a 9)), (12, .ref (a 10)), (13, .ref (a 11)), (14, .ref (a 12)), (15, .int x15), (16, .int x16), (17, .int x17), (18, .int x18)]) hx hb dL_law_380 hl (by decide) rfl (fun ls hl => ?_)
        refine lv_iload hx hb dL_law_382 (lv_at hl 19 rfl) ?_
        refine lv_aload_n hx hb dL_law_384 rfl (lv_at hl 3 rfl) ?_
        refine lv_aload hx hb dL_law_385 (lv_at hl 5 rfl) ?_
        refine lv_aload hx hb dL_law_387 (lv_at hl 6 rfl) ?_
        refine lv_aload hx hb dL_law_389 (lv_at hl 7 rfl) ?_
        refine lv_aload hx hb dL_law_391 (lv_at hl 8 rfl) ?_
        refine lv_aload hx hb dL_law_393 (lv_at hl 9 rfl) ?_
        refine lv_aload hx hb dL_law_395 (lv_at hl 10 rfl) ?_
        refine lv_aload hx hb dL_law_397 (lv_at hl 11 rfl) ?_
        refine lv_aload hx hb dL_law_399 (lv_at hl 12 rfl) ?_
        refine lv_aload hx hb dL_law_401 (lv_at hl 13 rfl) ?_
        refine l_cAU (rest := []) (As := [.int x18, .ref (a 0), .ref (a 2), .ref (a 3), .ref (a 4), .ref (a 5), .ref (a 6), .ref (a 7), .ref (a 8), .ref (a 9), .ref (a 10)]) X I fL_lays (c_L_lays l hlt N x18) rfl ⟨Nat.le_of_ble_eq_true rfl, Nat.le_of_ble_eq_true rfl⟩ 403 dL_law_403 rfl hl.1 rfl (Nat.le_of_ble_eq_true rfl) hCD hpf (fun v101 L102 H locs I hpf => ?_)
        refine lv_iload hx hb dL_law_406 (lv_at hl 18 rfl) ?_
        refine lv_bipush (v := (8 : Int32)) hx hb dL_law_408 (by decide) ?_
        refine b_icmp_ge hx hb 462 410 dL_law_410 (by decide) hpf (fun hpf => ?_) (fun hpf => ?_)
        · exact hC_462 x15 x16 x17 x18 t0 S L102 C D hCD H locs I ls (lv_sub hl [1, 2, 3, 4, 5, 6, 7, 8, 9, 10, 11, 12, 13, 14, 15, 16, 17, 18, 19, 0] rfl) hpf
        refine lv_aload_n hx hb dL_law_413 rfl (lv_at hl 3 rfl) ?_
        refine lv_iconst (v := (0 : Int32)) hx hb dL_law_414 (by decide) ?_
        refine l_iald X I lR_0 415 dL_law_415 hpf (fun hpf => ?_)
        refine lv_bipush (v := (12 : Int32)) hx hb dL_law_416 (by decide) ?_
        refine b_icmp_ge hx hb 462 418 dL_law_418 (by decide) hpf (fun hpf => ?_) (fun hpf => ?_)
        · exact hC_462 x15 x16 x17 x18 t0 S L102 C D hCD H locs I ls (lv_sub hl [1, 2, 3, 4, 5, 6, 7, 8, 9, 10, 11, 12, 13, 14, 15, 16, 17, 18, 19, 0] rfl) hpf
        refine lv_iload hx hb dL_law_421 (lv_at hl 0 rfl) ?_
        refine b_if_eq hx hb 462 423 dL_law_423 (by decide) hpf (fun hpf => ?_) (fun hpf => ?_)
        · exact hC_462 x15 x16 x17 x18 t0 S L102 C D hCD H locs I ls (lv_sub hl [1, 2, 3, 4, 5, 6, 7, 8, 9, 10, 11, 12, 13, 14, 15, 16, 17, 18, 19, 0] rfl) hpf
        refine lv_aload_n hx hb dL_law_426 rfl (lv_at hl 2 rfl) ?_
        refine lv_iload hx hb dL_law_427 (lv_at hl 19 rfl) ?_
        refine lv_iload hx hb dL_law_429 (lv_at hl 17 rfl) ?_
        refine lv_bipush (v := (7 : Int32)) hx hb dL_law_431 (by decide) ?_
        refine lv_ishr hx hb dL_law_433 ?_
        refine lv_aload_n hx hb dL_law_434 rfl (lv_at hl 3 rfl) ?_
        refine lv_aload_n hx hb dL_law_435 rfl (lv_at hl 4 rfl) ?_
        refine lv_aload hx hb dL_law_436 (lv_at hl 5 rfl) ?_
        refine lv_aload hx hb dL_law_438 (lv_at hl 6 rfl) ?_
        refine lv_aload hx hb dL_law_440 (lv_at hl 7 rfl) ?_
        refine lv_aload hx hb dL_law_442 (lv_at hl 8 rfl) ?_
        refine lv_aload hx hb dL_law_444 (lv_at hl 9 rfl) ?_
        refine lv_aload hx hb dL_law_446 (lv_at hl 10 rfl) ?_
        refine lv_aload hx hb dL_law_448 (lv_at hl 11 rfl) ?_
        refine lv_aload hx hb dL_law_450 (lv_at hl 12 rfl) ?_
        refine lv_aload hx hb dL_law_452 (lv_at hl 13 rfl) ?_
        refine l_cBI (rest := []) (As := [.ref (g.2.1 0), .int x18, .int (x16 >>> ((7 : Int32) &&& 31)), .ref (a 0), .ref (a 1), .ref (a 2), .ref (a 3), .ref (a 4), .ref (a 5), .ref (a 6), .ref (a 7), .ref (a 8), .ref (a 9), .ref (a 10)]) X I fL_adds (c_L_adds l hlt N x18 (x16 >>> ((7 : Int32) &&& 31))) rfl ⟨Nat.le_of_ble_eq_true rfl, Nat.le_of_ble_eq_true rfl⟩ 454 dL_law_454 rfl hl.1 rfl (Nat.le_of_ble_eq_true rfl) ⟨Nat.le_refl _, Nat.le_refl _⟩ hpf (fun v103 S104 L105 C106 D107 hCD H locs I hpf => ?_)
        refine lv_istore (lv' := [(19, .int v103), (20, .int t0), (0, .ref b9), (1, .ref (g.2.1 0)), (2, .ref (a 0)), (3, .ref (a 1)), (4, .ref (a 2)), (5, .ref (a 3)), (6, .ref (a 4)), (7, .ref (a 5)), (8, .ref (a 6)), (9, .ref (a 7)), (10, .ref (a 8)), (11, .ref (a 9)), (12, .ref (a 10)), (13, .ref (a 11)), (14, .ref (a 12)), (15, .int x15), (16, .int x16), (17, .int x17), (18, .int x18)]) hx hb dL_law_457 hl (by decide) rfl (fun ls hl => ?_)
        refine lv_goto (tgt := 1117) hx hb dL_law_459 (by decide) ?_
        exact hC_1117 x15 x16 v103 S104 L105 C106 D107 hCD H locs I ls (lv_sub hl [2, 3, 4, 5, 6, 7, 8, 9, 10, 11, 12, 13, 14, 15, 16, 17, 18, 0] rfl) hpf
      have hC_359 : ∀ (t0 : Int32) (t1 : Int32) (x15 : Int32) (x16 : Int32) (x17 : Int32) (S : kS) (L : lS) (C D : Nat) (hCD : C ≤ 600074 ∧ D ≤ 7301550) (H : Heap) (locs : List Loc), lV dC dI g a (fun q => s.heap.size ≤ q) s Si S L H locs → ∀ ls : Array Slot, lv_has ls 23 [(0, .ref b9), (1, .ref (g.2.1 0)), (2, .ref (a 0)), (3, .ref (a 1)), (4, .ref (a 2)), (5, .ref (a 3)), (6, .ref (a 4)), (7, .ref (a 5)), (8, .ref (a 6)), (9, .ref (a 7)), (10, .ref (a 8)), (11, .ref (a 9)), (12, .ref (a 10)), (13, .ref (a 11)), (14, .ref (a 12)), (15, .int x15), (16, .int x16), (17, .int x17)] → pL_law_359 N n9 xs9 (pL_law_314 N n9 xs9 n_314) t0 t1 x15 x16 x17 S L C D = some (1, Sf, Lf) → W p l e room_1 s m #[Value.ref b9] below meth c H locs C D (lw_Z below #[Value.ref b9] s) (F0 m 359 ls [.int t0, .int t1]) := by
        intro t0 t1 x15 x16 x17 S L C D hCD H locs I ls hl hpf
        unfold pL_law_359 at hpf
        refine l_cAI (rest := []) (As := [.int t1, .int t0]) X I fL_low (c_L_low l hlt N t1 t0) rfl ⟨Nat.le_of_ble_eq_true rfl, Nat.le_of_ble_eq_true rfl⟩ 359 dL_law_359 rfl hl.1 rfl (Nat.le_of_ble_eq_true rfl) hCD hpf (fun v101 L102 H locs I hpf => ?_)
        refine lv_istore (lv' := [(18, .int v101), (0, .ref b9), (1, .ref (g.2.1 0)), (2, .ref (a 0)), (3, .ref (a 1)), (4, .ref (a 2)), (5, .ref (a 3)), (6, .ref (a 4)), (7, .ref (a 5)), (8, .ref (a 6)), (9, .ref (a 7)), (10, .ref (a 8)), (11, .ref (a 9)), (12, .ref (a 10)), (13, .ref (a 11)), (14, .ref (a 12)), (15, .int x15), (16, .int x16), (17, .int x17)]) hx hb dL_law_362 hl (by decide) rfl (fun ls hl => ?_)
        refine lv_iconst (v := (1 : Int32)) hx hb dL_law_364 (by decide) ?_
        refine lv_istore (lv' := [(19, .int (1 : Int32)), (18, .int v101), (0, .ref b9), (1, .ref (g.2.1 0)), (2, .ref (a 0)), (3, .ref (a 1)), (4, .ref (a 2)), (5, .ref (a 3)), (6, .ref (a 4)), (7, .ref (a 5)), (8, .ref (a 6)), (9, .ref (a 7)), (10, .ref (a 8)), (11, .ref (a 9)), (12, .ref (a 10)), (13, .ref (a 11)), (14, .ref (a 12)), (15, .int x15), (16, .int x16), (17, .int x17)]) hx hb dL_law_365 hl (by decide) rfl (fun ls hl => ?_)
        refine lv_aload_n hx hb dL_law_367 rfl (lv_at hl 4 rfl) ?_
        refine lv_iconst (v := (1 : Int32)) hx hb dL_law_368 (by decide) ?_
        refine l_iald X I lR_0 369 dL_law_369 hpf (fun hpf => ?_)
        refine lv_bipush (v := (40 : Int32)) hx hb dL_law_370 (by decide) ?_
        refine b_icmp_ge hx hb 379 372 dL_law_372 (by decide) hpf (fun hpf => ?_) (fun hpf => ?_)
        · refine lv_iconst (v := (0 : Int32)) hx hb dL_law_379 (by decide) ?_
          exact hC_380 (0 : Int32) x15 x16 x17 v101 S L102 C D hCD H locs I ls (lv_sub hl [2, 3, 4, 5, 6, 7, 8, 9, 10, 11, 12, 13, 14, 15, 16, 17, 18, 19, 1] rfl) hpf
        refine lv_iconst (v := (1 : Int32)) hx hb dL_law_375 (by decide) ?_
        refine lv_goto (tgt := 380) hx hb dL_law_376 (by decide) ?_
        exact hC_380 (1 : Int32) x15 x16 x17 v101 S L102 C D hCD H locs I ls (lv_sub hl [2, 3, 4, 5, 6, 7, 8, 9, 10, 11, 12, 13, 14, 15, 16, 17, 18, 19, 1] rfl) hpf
      intro x15 S L C D hCD H locs I ls hl hpf
      rw [pL_law_314] at hpf
      refine lv_iload hx hb dL_law_314 (lv_at hl 15 rfl) ?_
      refine lv_bipush (v := (76 : Int32)) hx hb dL_law_316 (by decide) ?_
      refine b_icmp_ge hx hb 1240 318 dL_law_318 (by decide) hpf (fun hpf => ?_) (fun hpf => ?_)
      · refine lv_iconst (v := (1 : Int32)) hx hb dL_law_1240 (by decide) ?_
        exact l_retLaw X I hr 1241 dL_law_1241 hpf
      refine lv_aload_n hx hb dL_law_321 rfl (lv_at hl 0 rfl) ?_
      refine lv_iload hx hb dL_law_322 (lv_at hl 15 rfl) ?_
      refine l_cell (rest := []) X I hX hbl hbA 324 dL_law_324 hl.1 (Nat.le_of_ble_eq_true rfl) hCD hpf (fun v101 H locs I hpf => ?_)
      refine lv_istore (lv' := [(16, .int v101), (0, .ref b9), (1, .ref (g.2.1 0)), (2, .ref (a 0)), (3, .ref (a 1)), (4, .ref (a 2)), (5, .ref (a 3)), (6, .ref (a 4)), (7, .ref (a 5)), (8, .ref (a 6)), (9, .ref (a 7)), (10, .ref (a 8)), (11, .ref (a 9)), (12, .ref (a 10)), (13, .ref (a 11)), (14, .ref (a 12)), (15, .int x15)]) hx hb dL_law_327 hl (by decide) rfl (fun ls hl => ?_)
      refine lv_iload hx hb dL_law_329 (lv_at hl 0 rfl) ?_
      refine lv_bipush (v := (34 : Int32)) hx hb dL_law_331 (by decide) ?_
      refine l_cAI (rest := []) (As := [.int v101, .int (34 : Int32)]) X I fL_low (c_L_low l hlt N v101 (34 : Int32)) rfl ⟨Nat.le_of_ble_eq_true rfl, Nat.le_of_ble_eq_true rfl⟩ 333 dL_law_333 rfl hl.1 rfl (Nat.le_of_ble_eq_true rfl) hCD hpf (fun v102 L103 H locs I hpf => ?_)
      refine lv_istore (lv' := [(17, .int v102), (16, .int v101), (0, .ref b9), (1, .ref (g.2.1 0)), (2, .ref (a 0)), (3, .ref (a 1)), (4, .ref (a 2)), (5, .ref (a 3)), (6, .ref (a 4)), (7, .ref (a 5)), (8, .ref (a 6)), (9, .ref (a 7)), (10, .ref (a 8)), (11, .ref (a 9)), (12, .ref (a 10)), (13, .ref (a 11)), (14, .ref (a 12)), (15, .int x15)]) hx hb dL_law_336 hl (by decide) rfl (fun ls hl => ?_)
      refine lv_iload hx hb dL_law_338 (lv_at hl 1 rfl) ?_
      refine lv_iconst (v := (5 : Int32)) hx hb dL_law_340 (by decide) ?_
      refine lv_ishr hx hb dL_law_341 ?_
      refine lv_iload hx hb dL_law_342 (lv_at hl 1 rfl) ?_
      refine lv_bipush (v := (16 : Int32)) hx hb dL_law_344 (by decide) ?_
      refine lv_ishr hx hb dL_law_346 ?_
      refine lv_iconst (v := (2 : Int32)) hx hb dL_law_347 (by decide) ?_
      refine l_cAI (rest := [.int (v101 >>> ((5 : Int32) &&& 31))]) (As := [.int (v101 >>> ((16 : Int32) &&& 31)), .int (2 : Int32)]) X I fL_low (c_L_low l hlt N (v101 >>> ((16 : Int32) &&& 31)) (2 : Int32)) rfl ⟨Nat.le_of_ble_eq_true rfl, Nat.le_of_ble_eq_true rfl⟩ 348 dL_law_348 rfl hl.1 rfl (Nat.le_of_ble_eq_true rfl) hCD hpf (fun v104 L105 H locs I hpf => ?_)
      refine b_if_ne hx hb 358 351 dL_law_351 (by decide) hpf (fun hpf => ?_) (fun hpf => ?_)
      · refine lv_iconst (v := (2 : Int32)) hx hb dL_law_358 (by decide) ?_
        exact hC_359 (2 : Int32) (v101 >>> ((5 : Int32) &&& 31)) x15 v101 v102 S L105 C D hCD H locs I ls (lv_sub hl [2, 3, 4, 5, 6, 7, 8, 9, 10, 11, 12, 13, 14, 15, 16, 17, 1, 0] rfl) hpf
      refine lv_iconst (v := (4 : Int32)) hx hb dL_law_354 (by decide) ?_
      refine lv_goto (tgt := 359) hx hb dL_law_355 (by decide) ?_
      exact hC_359 (4 : Int32) (v101 >>> ((5 : Int32) &&& 31)) x15 v101 v102 S L105 C D hCD H locs I ls (lv_sub hl [2, 3, 4, 5, 6, 7, 8, 9, 10, 11, 12, 13, 14, 15, 16, 17, 1, 0] rfl) hpf
  have hC_306 : ∀ (S : kS) (L : lS) (C D : Nat) (hCD : C ≤ 600074 ∧ D ≤ 7301550) (H : Heap) (locs : List Loc), lV dC dI g a (fun q => s.heap.size ≤ q) s Si S L H locs → ∀ ls : Array Slot, lv_has ls 23 [(0, .ref b9), (1, .ref (g.2.1 0)), (2, .ref (a 0)), (3, .ref (a 1)), (4, .ref (a 2)), (5, .ref (a 3)), (6, .ref (a 4)), (7, .ref (a 5)), (8, .ref (a 6)), (9, .ref (a 7)), (10, .ref (a 8)), (11, .ref (a 9)), (12, .ref (a 10)), (13, .ref (a 11)), (14, .ref (a 12))] → pL_law_306 N n9 xs9 S L C D = some (1, Sf, Lf) → W p l e room_1 s m #[Value.ref b9] below meth c H locs C D (lw_Z below #[Value.ref b9] s) (F0 m 306 ls []) := by
    intro S L C D hCD H locs I ls hl hpf
    unfold pL_law_306 at hpf
    refine lv_aload_n hx hb dL_law_306 rfl (lv_at hl 2 rfl) ?_
    refine lv_iconst (v := (3 : Int32)) hx hb dL_law_307 (by decide) ?_
    refine lv_iconst (v := (3 : Int32)) hx hb dL_law_308 (by decide) ?_
    refine l_iast X I lR_0 309 dL_law_309 hpf (fun L101 H locs I hpf => ?_)
    refine lv_bipush (v := (6 : Int32)) hx hb dL_law_310 (by decide) ?_
    refine lv_istore (lv' := [(15, .int (6 : Int32)), (0, .ref b9), (1, .ref (g.2.1 0)), (2, .ref (a 0)), (3, .ref (a 1)), (4, .ref (a 2)), (5, .ref (a 3)), (6, .ref (a 4)), (7, .ref (a 5)), (8, .ref (a 6)), (9, .ref (a 7)), (10, .ref (a 8)), (11, .ref (a 9)), (12, .ref (a 10)), (13, .ref (a 11)), (14, .ref (a 12))]) hx hb dL_law_312 hl (by decide) rfl (fun ls hl => ?_)
    exact hC_314 N (6 : Int32) S L101 C D hCD H locs I ls (lv_sub hl [1, 2, 3, 4, 5, 6, 7, 8, 9, 10, 11, 12, 13, 14, 15, 0] rfl) hpf
  have hC_203 : ∀ (n_203 : Nat), ∀ (x15 : Int32) (S : kS) (L : lS) (C D : Nat) (hCD : C ≤ 600074 ∧ D ≤ 7301550) (H : Heap) (locs : List Loc), lV dC dI g a (fun q => s.heap.size ≤ q) s Si S L H locs → ∀ ls : Array Slot, lv_has ls 23 [(0, .ref b9), (1, .ref (g.2.1 0)), (2, .ref (a 0)), (3, .ref (a 1)), (4, .ref (a 2)), (5, .ref (a 3)), (6, .ref (a 4)), (7, .ref (a 5)), (8, .ref (a 6)), (9, .ref (a 7)), (10, .ref (a 8)), (11, .ref (a 9)), (12, .ref (a 10)), (13, .ref (a 11)), (14, .ref (a 12)), (15, .int x15)] → pL_law_203 N n9 xs9 (pL_law_306 N n9 xs9) n_203 x15 S L C D = some (1, Sf, Lf) → W p l e room_1 s m #[Value.ref b9] below meth c H locs C D (lw_Z below #[Value.ref b9] s) (F0 m 203 ls []) := by
    intro n_203
    induction n_203 with
    | zero =>
      intro x15 S L C D hCD H locs I ls hl hpf
      rw [pL_law_203] at hpf
      cases hpf
    | succ n_203 ih_203 =>
      have hC_249 : ∀ (t0 : Int32) (t1 : Int32) (x15 : Int32) (x16 : Int32) (S : kS) (L : lS) (C D : Nat) (hCD : C ≤ 600074 ∧ D ≤ 7301550) (H : Heap) (locs : List Loc), lV dC dI g a (fun q => s.heap.size ≤ q) s Si S L H locs → ∀ ls : Array Slot, lv_has ls 23 [(0, .ref b9), (1, .ref (g.2.1 0)), (2, .ref (a 0)), (3, .ref (a 1)), (4, .ref (a 2)), (5, .ref (a 3)), (6, .ref (a 4)), (7, .ref (a 5)), (8, .ref (a 6)), (9, .ref (a 7)), (10, .ref (a 8)), (11, .ref (a 9)), (12, .ref (a 10)), (13, .ref (a 11)), (14, .ref (a 12)), (15, .int x15), (16, .int x16)] → pL_law_249 N n9 xs9 (pL_law_203 N n9 xs9 (pL_law_306 N n9 xs9) n_203) t0 t1 x15 x16 S L C D = some (1, Sf, Lf) → W p l e room_1 s m #[Value.ref b9] below meth c H locs C D (lw_Z below #[Value.ref b9] s) (F0 m 249 ls [.int t0, .int t1, .ref (a 1)]) := by
        intro t0 t1 x15 x16 S L C D hCD H locs I ls hl hpf
        unfold pL_law_249 at hpf
        refine l_iast X I lR_1 249 dL_law_249 hpf (fun L101 H locs I hpf => ?_)
        refine lv_aload_n hx hb dL_law_250 rfl (lv_at hl 3 rfl) ?_
        refine lv_iconst (v := (3 : Int32)) hx hb dL_law_251 (by decide) ?_
        refine lv_iload hx hb dL_law_252 (lv_at hl 15 rfl) ?_
        refine lv_imul hx hb dL_law_254 ?_
        refine lv_iconst (v := (2 : Int32)) hx hb dL_law_255 (by decide) ?_
        refine lv_iadd hx hb dL_law_256 ?_
        refine lv_iload hx hb dL_law_257 (lv_at hl 16 rfl) ?_
        refine lv_iconst (v := (4 : Int32)) hx hb dL_law_259 (by decide) ?_
        refine lv_ishr hx hb dL_law_260 ?_
        refine lv_bipush (v := (8 : Int32)) hx hb dL_law_261 (by decide) ?_
        refine l_cAI (rest := [.int (((3 : Int32) * x15) + (2 : Int32)), .ref (a 1)]) (As := [.int (x16 >>> ((4 : Int32) &&& 31)), .int (8 : Int32)]) X I fL_low (c_L_low l hlt N (x16 >>> ((4 : Int32) &&& 31)) (8 : Int32)) rfl ⟨Nat.le_of_ble_eq_true rfl, Nat.le_of_ble_eq_true rfl⟩ 263 dL_law_263 rfl hl.1 rfl (Nat.le_of_ble_eq_true rfl) hCD hpf (fun v102 L103 H locs I hpf => ?_)
        refine l_iast X I lR_1 266 dL_law_266 hpf (fun L104 H locs I hpf => ?_)
        refine lv_aload_n hx hb dL_law_267 rfl (lv_at hl 1 rfl) ?_
        refine lv_aload_n hx hb dL_law_268 rfl (lv_at hl 3 rfl) ?_
        refine lv_iconst (v := (3 : Int32)) hx hb dL_law_269 (by decide) ?_
        refine lv_iload hx hb dL_law_270 (lv_at hl 15 rfl) ?_
        refine lv_imul hx hb dL_law_272 ?_
        refine l_iald X I lR_1 273 dL_law_273 hpf (fun hpf => ?_)
        refine lv_aload_n hx hb dL_law_274 rfl (lv_at hl 3 rfl) ?_
        refine lv_iconst (v := (3 : Int32)) hx hb dL_law_275 (by decide) ?_
        refine lv_iload hx hb dL_law_276 (lv_at hl 15 rfl) ?_
        refine lv_imul hx hb dL_law_278 ?_
        refine lv_iconst (v := (1 : Int32)) hx hb dL_law_279 (by decide) ?_
        refine lv_iadd hx hb dL_law_280 ?_
        refine l_iald X I lR_1 281 dL_law_281 hpf (fun hpf => ?_)
        refine lv_aload_n hx hb dL_law_282 rfl (lv_at hl 3 rfl) ?_
        refine lv_iconst (v := (3 : Int32)) hx hb dL_law_283 (by decide) ?_
        refine lv_iload hx hb dL_law_284 (lv_at hl 15 rfl) ?_
        refine lv_imul hx hb dL_law_286 ?_
        refine lv_iconst (v := (2 : Int32)) hx hb dL_law_287 (by decide) ?_
        refine lv_iadd hx hb dL_law_288 ?_
        refine l_iald X I lR_1 289 dL_law_289 hpf (fun hpf => ?_)
        refine l_cX (rest := []) (As := [.int (aI L104 1 ((3 : Int32) * x15).toNatClampNeg), .int (aI L104 1 (((3 : Int32) * x15) + (1 : Int32)).toNatClampNeg), .int (aI L104 1 (((3 : Int32) * x15) + (2 : Int32)).toNatClampNeg)]) X I fX_objectClass (c_X9_objectClass l hlt N (aI L104 1 ((3 : Int32) * x15).toNatClampNeg) (aI L104 1 (((3 : Int32) * x15) + (1 : Int32)).toNatClampNeg) (aI L104 1 (((3 : Int32) * x15) + (2 : Int32)).toNatClampNeg)) ⟨Nat.le_of_ble_eq_true rfl, Nat.le_of_ble_eq_true rfl⟩ 290 dL_law_290 rfl hl.1 ⟨Nat.le_refl _, Nat.le_refl _⟩ rfl (Nat.le_of_ble_eq_true rfl) hpf (fun v105 S106 C107 D108 hCD H locs I hpf => ?_)
        refine lv_iload hx hb dL_law_293 (lv_at hl 15 rfl) ?_
        refine b_icmp_eq hx hb 300 295 dL_law_295 (by decide) hpf (fun hpf => ?_) (fun hpf => ?_)
        · refine m_iinc (w := (1 : Int32)) hx hb (fun y109 => [(15, .int y109), (0, .ref b9), (1, .ref (g.2.1 0)), (2, .ref (a 0)), (3, .ref (a 1)), (4, .ref (a 2)), (5, .ref (a 3)), (6, .ref (a 4)), (7, .ref (a 5)), (8, .ref (a 6)), (9, .ref (a 7)), (10, .ref (a 8)), (11, .ref (a 9)), (12, .ref (a 10)), (13, .ref (a 11)), (14, .ref (a 12)), (16, .int x16)]) 300 dL_law_300 hl (k := 15) rfl (by decide) (by decide) (fun _ => rfl) hpf (fun y109 ls hl hpf => ?_)
          refine lv_goto (tgt := 203) hx hb dL_law_303 (by decide) ?_
          exact ih_203 y109 S106 L104 C107 D108 hCD H locs I ls (lv_sub hl [1, 2, 3, 4, 5, 6, 7, 8, 9, 10, 11, 12, 13, 14, 15, 0] rfl) hpf
        refine lv_iconst (v := (0 : Int32)) hx hb dL_law_298 (by decide) ?_
        exact l_retLaw X I hr 299 dL_law_299 hpf
      intro x15 S L C D hCD H locs I ls hl hpf
      rw [pL_law_203] at hpf
      refine lv_iload hx hb dL_law_203 (lv_at hl 15 rfl) ?_
      refine lv_iconst (v := (3 : Int32)) hx hb dL_law_205 (by decide) ?_
      refine b_icmp_ge hx hb 306 206 dL_law_206 (by decide) hpf (fun hpf => ?_) (fun hpf => ?_)
      · exact hC_306 S L C D hCD H locs I ls (lv_sub hl [0, 1, 2, 3, 4, 5, 6, 7, 8, 9, 10, 11, 12, 13, 14] rfl) hpf
      refine lv_aload_n hx hb dL_law_209 rfl (lv_at hl 0 rfl) ?_
      refine lv_iconst (v := (3 : Int32)) hx hb dL_law_210 (by decide) ?_
      refine lv_iload hx hb dL_law_211 (lv_at hl 15 rfl) ?_
      refine lv_iadd hx hb dL_law_213 ?_
      refine l_cell (rest := []) X I hX hbl hbA 214 dL_law_214 hl.1 (Nat.le_of_ble_eq_true rfl) hCD hpf (fun v101 H locs I hpf => ?_)
      refine lv_istore (lv' := [(16, .int v101), (0, .ref b9), (1, .ref (g.2.1 0)), (2, .ref (a 0)), (3, .ref (a 1)), (4, .ref (a 2)), (5, .ref (a 3)), (6, .ref (a 4)), (7, .ref (a 5)), (8, .ref (a 6)), (9, .ref (a 7)), (10, .ref (a 8)), (11, .ref (a 9)), (12, .ref (a 10)), (13, .ref (a 11)), (14, .ref (a 12)), (15, .int x15)]) hx hb dL_law_217 hl (by decide) rfl (fun ls hl => ?_)
      refine lv_aload_n hx hb dL_law_219 rfl (lv_at hl 4 rfl) ?_
      refine lv_iconst (v := (3 : Int32)) hx hb dL_law_220 (by decide) ?_
      refine lv_iload hx hb dL_law_221 (lv_at hl 16 rfl) ?_
      refine lv_imul hx hb dL_law_223 ?_
      refine lv_iconst (v := (1 : Int32)) hx hb dL_law_224 (by decide) ?_
      refine lv_iadd hx hb dL_law_225 ?_
      refine lv_iload hx hb dL_law_226 (lv_at hl 0 rfl) ?_
      refine lv_iconst (v := (3 : Int32)) hx hb dL_law_228 (by decide) ?_
      refine l_cAI (rest := [.int (((3 : Int32) * x15) + (1 : Int32)), .ref (a 1)]) (As := [.int v101, .int (3 : Int32)]) X I fL_low (c_L_low l hlt N v101 (3 : Int32)) rfl ⟨Nat.le_of_ble_eq_true rfl, Nat.le_of_ble_eq_true rfl⟩ 229 dL_law_229 rfl hl.1 rfl (Nat.le_of_ble_eq_true rfl) hCD hpf (fun v102 L103 H locs I hpf => ?_)
      refine b_if_ne hx hb 248 232 dL_law_232 (by decide) hpf (fun hpf => ?_) (fun hpf => ?_)
      · refine lv_iconst (v := (0 : Int32)) hx hb dL_law_248 (by decide) ?_
        exact hC_249 (0 : Int32) (((3 : Int32) * x15) + (1 : Int32)) x15 v101 S L103 C D hCD H locs I ls (lv_sub hl [1, 2, 3, 4, 5, 6, 7, 8, 9, 10, 11, 12, 13, 14, 15, 16, 0] rfl) hpf
      refine lv_iconst (v := (1 : Int32)) hx hb dL_law_235 (by decide) ?_
      refine lv_iload hx hb dL_law_236 (lv_at hl 0 rfl) ?_
      refine lv_iconst (v := (2 : Int32)) hx hb dL_law_238 (by decide) ?_
      refine lv_ishr hx hb dL_law_239 ?_
      refine lv_iconst (v := (3 : Int32)) hx hb dL_law_240 (by decide) ?_
      refine l_cAI (rest := [.int (1 : Int32), .int (((3 : Int32) * x15) + (1 : Int32)), .ref (a 1)]) (As := [.int (v101 >>> ((2 : Int32) &&& 31)), .int (3 : Int32)]) X I fL_low (c_L_low l hlt N (v101 >>> ((2 : Int32) &&& 31)) (3 : Int32)) rfl ⟨Nat.le_of_ble_eq_true rfl, Nat.le_of_ble_eq_true rfl⟩ 241 dL_law_241 rfl hl.1 rfl (Nat.le_of_ble_eq_true rfl) hCD hpf (fun v104 L105 H locs I hpf => ?_)
      refine lv_ishl hx hb dL_law_244 ?_
      refine lv_goto (tgt := 249) hx hb dL_law_245 (by decide) ?_
      exact hC_249 ((1 : Int32) <<< (v104 &&& 31)) (((3 : Int32) * x15) + (1 : Int32)) x15 v101 S L105 C D hCD H locs I ls (lv_sub hl [1, 2, 3, 4, 5, 6, 7, 8, 9, 10, 11, 12, 13, 14, 15, 16, 0] rfl) hpf
  have hC_196 : ∀ (S : kS) (L : lS) (C D : Nat) (hCD : C ≤ 600074 ∧ D ≤ 7301550) (H : Heap) (locs : List Loc), lV dC dI g a (fun q => s.heap.size ≤ q) s Si S L H locs → ∀ ls : Array Slot, lv_has ls 23 [(0, .ref b9), (1, .ref (g.2.1 0)), (2, .ref (a 0)), (3, .ref (a 1)), (4, .ref (a 2)), (5, .ref (a 3)), (6, .ref (a 4)), (7, .ref (a 5)), (8, .ref (a 6)), (9, .ref (a 7)), (10, .ref (a 8)), (11, .ref (a 9)), (12, .ref (a 10)), (13, .ref (a 11)), (14, .ref (a 12))] → pL_law_196 N n9 xs9 S L C D = some (1, Sf, Lf) → W p l e room_1 s m #[Value.ref b9] below meth c H locs C D (lw_Z below #[Value.ref b9] s) (F0 m 196 ls []) := by
    intro S L C D hCD H locs I ls hl hpf
    unfold pL_law_196 at hpf
    refine lv_aload_n hx hb dL_law_196 rfl (lv_at hl 2 rfl) ?_
    refine lv_iconst (v := (2 : Int32)) hx hb dL_law_197 (by decide) ?_
    refine lv_iconst (v := (3 : Int32)) hx hb dL_law_198 (by decide) ?_
    refine l_iast X I lR_0 199 dL_law_199 hpf (fun L101 H locs I hpf => ?_)
    refine lv_iconst (v := (0 : Int32)) hx hb dL_law_200 (by decide) ?_
    refine lv_istore (lv' := [(15, .int (0 : Int32)), (0, .ref b9), (1, .ref (g.2.1 0)), (2, .ref (a 0)), (3, .ref (a 1)), (4, .ref (a 2)), (5, .ref (a 3)), (6, .ref (a 4)), (7, .ref (a 5)), (8, .ref (a 6)), (9, .ref (a 7)), (10, .ref (a 8)), (11, .ref (a 9)), (12, .ref (a 10)), (13, .ref (a 11)), (14, .ref (a 12))]) hx hb dL_law_201 hl (by decide) rfl (fun ls hl => ?_)
    exact hC_203 N (0 : Int32) S L101 C D hCD H locs I ls (lv_sub hl [1, 2, 3, 4, 5, 6, 7, 8, 9, 10, 11, 12, 13, 14, 15, 0] rfl) hpf
  have hC_90 : ∀ (n_90 : Nat), ∀ (x15 : Int32) (S : kS) (L : lS) (C D : Nat) (hCD : C ≤ 600074 ∧ D ≤ 7301550) (H : Heap) (locs : List Loc), lV dC dI g a (fun q => s.heap.size ≤ q) s Si S L H locs → ∀ ls : Array Slot, lv_has ls 23 [(0, .ref b9), (1, .ref (g.2.1 0)), (2, .ref (a 0)), (3, .ref (a 1)), (4, .ref (a 2)), (5, .ref (a 3)), (6, .ref (a 4)), (7, .ref (a 5)), (8, .ref (a 6)), (9, .ref (a 7)), (10, .ref (a 8)), (11, .ref (a 9)), (12, .ref (a 10)), (13, .ref (a 11)), (14, .ref (a 12)), (15, .int x15)] → pL_law_90 N n9 xs9 (pL_law_196 N n9 xs9) n_90 x15 S L C D = some (1, Sf, Lf) → W p l e room_1 s m #[Value.ref b9] below meth c H locs C D (lw_Z below #[Value.ref b9] s) (F0 m 90 ls []) := by
    intro n_90
    induction n_90 with
    | zero =>
      intro x15 S L C D hCD H locs I ls hl hpf
      rw [pL_law_90] at hpf
      cases hpf
    | succ n_90 ih_90 =>
      have hC_180 : ∀ (t0 : Int32) (t1 : Int32) (x15 : Int32) (S : kS) (L : lS) (C D : Nat) (hCD : C ≤ 600074 ∧ D ≤ 7301550) (H : Heap) (locs : List Loc), lV dC dI g a (fun q => s.heap.size ≤ q) s Si S L H locs → ∀ ls : Array Slot, lv_has ls 23 [(0, .ref b9), (1, .ref (g.2.1 0)), (2, .ref (a 0)), (3, .ref (a 1)), (4, .ref (a 2)), (5, .ref (a 3)), (6, .ref (a 4)), (7, .ref (a 5)), (8, .ref (a 6)), (9, .ref (a 7)), (10, .ref (a 8)), (11, .ref (a 9)), (12, .ref (a 10)), (13, .ref (a 11)), (14, .ref (a 12)), (15, .int x15)] → pL_law_180 N n9 xs9 (pL_law_90 N n9 xs9 (pL_law_196 N n9 xs9) n_90) t0 t1 x15 S L C D = some (1, Sf, Lf) → W p l e room_1 s m #[Value.ref b9] below meth c H locs C D (lw_Z below #[Value.ref b9] s) (F0 m 180 ls [.int t0, .int t1, .ref (g.2.1 0)]) := by
        intro t0 t1 x15 S L C D hCD H locs I ls hl hpf
        unfold pL_law_180 at hpf
        refine l_cX (rest := []) (As := [.int t1, .int t0]) X I fX_attribute (c_X9_attribute l hlt N t1 t0) ⟨Nat.le_of_ble_eq_true rfl, Nat.le_of_ble_eq_true rfl⟩ 180 dL_law_180 rfl hl.1 ⟨Nat.le_refl _, Nat.le_refl _⟩ rfl (Nat.le_of_ble_eq_true rfl) hpf (fun v101 S102 C103 D104 hCD H locs I hpf => ?_)
        refine lv_iload hx hb dL_law_183 (lv_at hl 15 rfl) ?_
        refine b_icmp_eq hx hb 190 185 dL_law_185 (by decide) hpf (fun hpf => ?_) (fun hpf => ?_)
        · refine m_iinc (w := (1 : Int32)) hx hb (fun y105 => [(15, .int y105), (0, .ref b9), (1, .ref (g.2.1 0)), (2, .ref (a 0)), (3, .ref (a 1)), (4, .ref (a 2)), (5, .ref (a 3)), (6, .ref (a 4)), (7, .ref (a 5)), (8, .ref (a 6)), (9, .ref (a 7)), (10, .ref (a 8)), (11, .ref (a 9)), (12, .ref (a 10)), (13, .ref (a 11)), (14, .ref (a 12))]) 190 dL_law_190 hl (k := 15) rfl (by decide) (by decide) (fun _ => rfl) hpf (fun y105 ls hl hpf => ?_)
          refine lv_goto (tgt := 90) hx hb dL_law_193 (by decide) ?_
          exact ih_90 y105 S102 L C103 D104 hCD H locs I ls (lv_sub hl [1, 2, 3, 4, 5, 6, 7, 8, 9, 10, 11, 12, 13, 14, 15, 0] rfl) hpf
        refine lv_iconst (v := (0 : Int32)) hx hb dL_law_188 (by decide) ?_
        exact l_retLaw X I hr 189 dL_law_189 hpf
      have hC_164 : ∀ (t0 : Int32) (x15 : Int32) (S : kS) (L : lS) (C D : Nat) (hCD : C ≤ 600074 ∧ D ≤ 7301550) (H : Heap) (locs : List Loc), lV dC dI g a (fun q => s.heap.size ≤ q) s Si S L H locs → ∀ ls : Array Slot, lv_has ls 23 [(0, .ref b9), (1, .ref (g.2.1 0)), (2, .ref (a 0)), (3, .ref (a 1)), (4, .ref (a 2)), (5, .ref (a 3)), (6, .ref (a 4)), (7, .ref (a 5)), (8, .ref (a 6)), (9, .ref (a 7)), (10, .ref (a 8)), (11, .ref (a 9)), (12, .ref (a 10)), (13, .ref (a 11)), (14, .ref (a 12)), (15, .int x15)] → pL_law_164 N n9 xs9 (pL_law_90 N n9 xs9 (pL_law_196 N n9 xs9) n_90) t0 x15 S L C D = some (1, Sf, Lf) → W p l e room_1 s m #[Value.ref b9] below meth c H locs C D (lw_Z below #[Value.ref b9] s) (F0 m 164 ls [.int t0, .ref (g.2.1 0)]) := by
        intro t0 x15 S L C D hCD H locs I ls hl hpf
        unfold pL_law_164 at hpf
        refine lv_aload_n hx hb dL_law_164 rfl (lv_at hl 2 rfl) ?_
        refine lv_bipush (v := (13 : Int32)) hx hb dL_law_165 (by decide) ?_
        refine lv_iload hx hb dL_law_167 (lv_at hl 15 rfl) ?_
        refine lv_iadd hx hb dL_law_169 ?_
        refine l_iald X I lR_0 170 dL_law_170 hpf (fun hpf => ?_)
        refine lv_iconst (v := (1 : Int32)) hx hb dL_law_171 (by decide) ?_
        refine b_icmp_le hx hb 179 172 dL_law_172 (by decide) hpf (fun hpf => ?_) (fun hpf => ?_)
        · refine lv_iconst (v := (0 : Int32)) hx hb dL_law_179 (by decide) ?_
          exact hC_180 (0 : Int32) t0 x15 S L C D hCD H locs I ls (lv_sub hl [0, 1, 2, 3, 4, 5, 6, 7, 8, 9, 10, 11, 12, 13, 14, 15] rfl) hpf
        refine lv_iconst (v := (1 : Int32)) hx hb dL_law_175 (by decide) ?_
        refine lv_goto (tgt := 180) hx hb dL_law_176 (by decide) ?_
        exact hC_180 (1 : Int32) t0 x15 S L C D hCD H locs I ls (lv_sub hl [0, 1, 2, 3, 4, 5, 6, 7, 8, 9, 10, 11, 12, 13, 14, 15] rfl) hpf
      have hC_144 : ∀ (t0 : Int32) (t1 : Int32) (x15 : Int32) (S : kS) (L : lS) (C D : Nat) (hCD : C ≤ 600074 ∧ D ≤ 7301550) (H : Heap) (locs : List Loc), lV dC dI g a (fun q => s.heap.size ≤ q) s Si S L H locs → ∀ ls : Array Slot, lv_has ls 23 [(0, .ref b9), (1, .ref (g.2.1 0)), (2, .ref (a 0)), (3, .ref (a 1)), (4, .ref (a 2)), (5, .ref (a 3)), (6, .ref (a 4)), (7, .ref (a 5)), (8, .ref (a 6)), (9, .ref (a 7)), (10, .ref (a 8)), (11, .ref (a 9)), (12, .ref (a 10)), (13, .ref (a 11)), (14, .ref (a 12)), (15, .int x15)] → pL_law_144 N n9 xs9 (pL_law_90 N n9 xs9 (pL_law_196 N n9 xs9) n_90) t0 t1 x15 S L C D = some (1, Sf, Lf) → W p l e room_1 s m #[Value.ref b9] below meth c H locs C D (lw_Z below #[Value.ref b9] s) (F0 m 144 ls [.int t0, .int t1, .ref (a 1)]) := by
        intro t0 t1 x15 S L C D hCD H locs I ls hl hpf
        unfold pL_law_144 at hpf
        refine l_iast X I lR_1 144 dL_law_144 hpf (fun L101 H locs I hpf => ?_)
        refine lv_aload_n hx hb dL_law_145 rfl (lv_at hl 1 rfl) ?_
        refine lv_aload_n hx hb dL_law_146 rfl (lv_at hl 2 rfl) ?_
        refine lv_bipush (v := (13 : Int32)) hx hb dL_law_147 (by decide) ?_
        refine lv_iload hx hb dL_law_149 (lv_at hl 15 rfl) ?_
        refine lv_iadd hx hb dL_law_151 ?_
        refine l_iald X I lR_0 152 dL_law_152 hpf (fun hpf => ?_)
        refine lv_iconst (v := (2 : Int32)) hx hb dL_law_153 (by decide) ?_
        refine lv_irem hx hb dL_law_154 (by decide) ?_
        refine lv_iconst (v := (1 : Int32)) hx hb dL_law_155 (by decide) ?_
        refine b_icmp_ne hx hb 163 156 dL_law_156 (by decide) hpf (fun hpf => ?_) (fun hpf => ?_)
        · refine lv_iconst (v := (0 : Int32)) hx hb dL_law_163 (by decide) ?_
          exact hC_164 (0 : Int32) x15 S L101 C D hCD H locs I ls (lv_sub hl [0, 1, 2, 3, 4, 5, 6, 7, 8, 9, 10, 11, 12, 13, 14, 15] rfl) hpf
        refine lv_iconst (v := (1 : Int32)) hx hb dL_law_159 (by decide) ?_
        refine lv_goto (tgt := 164) hx hb dL_law_160 (by decide) ?_
        exact hC_164 (1 : Int32) x15 S L101 C D hCD H locs I ls (lv_sub hl [0, 1, 2, 3, 4, 5, 6, 7, 8, 9, 10, 11, 12, 13, 14, 15] rfl) hpf
      intro x15 S L C D hCD H locs I ls hl hpf
      rw [pL_law_90] at hpf
      refine lv_iload hx hb dL_law_90 (lv_at hl 15 rfl) ?_
      refine lv_iconst (v := (3 : Int32)) hx hb dL_law_92 (by decide) ?_
      refine b_icmp_ge hx hb 196 93 dL_law_93 (by decide) hpf (fun hpf => ?_) (fun hpf => ?_)
      · exact hC_196 S L C D hCD H locs I ls (lv_sub hl [0, 1, 2, 3, 4, 5, 6, 7, 8, 9, 10, 11, 12, 13, 14] rfl) hpf
      refine lv_aload_n hx hb dL_law_96 rfl (lv_at hl 0 rfl) ?_
      refine lv_iload hx hb dL_law_97 (lv_at hl 15 rfl) ?_
      refine l_cell (rest := []) X I hX hbl hbA 99 dL_law_99 hl.1 (Nat.le_of_ble_eq_true rfl) hCD hpf (fun v101 H locs I hpf => ?_)
      refine lv_istore (lv' := [(16, .int v101), (0, .ref b9), (1, .ref (g.2.1 0)), (2, .ref (a 0)), (3, .ref (a 1)), (4, .ref (a 2)), (5, .ref (a 3)), (6, .ref (a 4)), (7, .ref (a 5)), (8, .ref (a 6)), (9, .ref (a 7)), (10, .ref (a 8)), (11, .ref (a 9)), (12, .ref (a 10)), (13, .ref (a 11)), (14, .ref (a 12)), (15, .int x15)]) hx hb dL_law_102 hl (by decide) rfl (fun ls hl => ?_)
      refine lv_aload_n hx hb dL_law_104 rfl (lv_at hl 3 rfl) ?_
      refine lv_bipush (v := (13 : Int32)) hx hb dL_law_105 (by decide) ?_
      refine lv_iload hx hb dL_law_107 (lv_at hl 16 rfl) ?_
      refine lv_iadd hx hb dL_law_109 ?_
      refine lv_iload hx hb dL_law_110 (lv_at hl 0 rfl) ?_
      refine lv_iconst (v := (4 : Int32)) hx hb dL_law_112 (by decide) ?_
      refine l_cAI (rest := [.int ((13 : Int32) + x15), .ref (a 0)]) (As := [.int v101, .int (4 : Int32)]) X I fL_low (c_L_low l hlt N v101 (4 : Int32)) rfl ⟨Nat.le_of_ble_eq_true rfl, Nat.le_of_ble_eq_true rfl⟩ 113 dL_law_113 rfl hl.1 rfl (Nat.le_of_ble_eq_true rfl) hCD hpf (fun v102 L103 H locs I hpf => ?_)
      refine l_iast X I lR_0 116 dL_law_116 hpf (fun L104 H locs I hpf => ?_)
      refine lv_aload_n hx hb dL_law_117 rfl (lv_at hl 4 rfl) ?_
      refine lv_iconst (v := (3 : Int32)) hx hb dL_law_118 (by decide) ?_
      refine lv_iload hx hb dL_law_119 (lv_at hl 16 rfl) ?_
      refine lv_imul hx hb dL_law_121 ?_
      refine lv_iload hx hb dL_law_122 (lv_at hl 16 rfl) ?_
      refine b_if_ne hx hb 131 124 dL_law_124 (by decide) hpf (fun hpf => ?_) (fun hpf => ?_)
      · refine lv_iload hx hb dL_law_131 (lv_at hl 0 rfl) ?_
        refine lv_iconst (v := (2 : Int32)) hx hb dL_law_133 (by decide) ?_
        refine lv_ishr hx hb dL_law_134 ?_
        refine lv_iload hx hb dL_law_135 (lv_at hl 16 rfl) ?_
        refine lv_iconst (v := (1 : Int32)) hx hb dL_law_137 (by decide) ?_
        refine lv_iadd hx hb dL_law_138 ?_
        refine l_cAI (rest := [.int ((3 : Int32) * x15), .ref (a 1)]) (As := [.int (v101 >>> ((2 : Int32) &&& 31)), .int (x15 + (1 : Int32))]) X I fL_low (c_L_low l hlt N (v101 >>> ((2 : Int32) &&& 31)) (x15 + (1 : Int32))) rfl ⟨Nat.le_of_ble_eq_true rfl, Nat.le_of_ble_eq_true rfl⟩ 139 dL_law_139 rfl hl.1 rfl (Nat.le_of_ble_eq_true rfl) hCD hpf (fun v105 L106 H locs I hpf => ?_)
        refine lv_iconst (v := (1 : Int32)) hx hb dL_law_142 (by decide) ?_
        refine lv_isub hx hb dL_law_143 ?_
        exact hC_144 (v105 - (1 : Int32)) ((3 : Int32) * x15) x15 S L106 C D hCD H locs I ls (lv_sub hl [1, 2, 3, 4, 5, 6, 7, 8, 9, 10, 11, 12, 13, 14, 15, 16] rfl) hpf
      refine lv_iconst (v := (-1 : Int32)) hx hb dL_law_127 (by decide) ?_
      refine lv_goto (tgt := 144) hx hb dL_law_128 (by decide) ?_
      exact hC_144 (-1 : Int32) ((3 : Int32) * x15) x15 S L104 C D hCD H locs I ls (lv_sub hl [1, 2, 3, 4, 5, 6, 7, 8, 9, 10, 11, 12, 13, 14, 15, 16] rfl) hpf
  intro S L C D hCD H locs I ls hl hpf
  unfold pL_law at hpf
  refine lv_aload_n hx hb dL_law_83 rfl (lv_at hl 2 rfl) ?_
  refine lv_iconst (v := (0 : Int32)) hx hb dL_law_84 (by decide) ?_
  refine lv_iconst (v := (1 : Int32)) hx hb dL_law_85 (by decide) ?_
  refine l_iast X I lR_0 86 dL_law_86 hpf (fun L101 H locs I hpf => ?_)
  refine lv_iconst (v := (0 : Int32)) hx hb dL_law_87 (by decide) ?_
  refine lv_istore (lv' := [(15, .int (0 : Int32)), (0, .ref b9), (1, .ref (g.2.1 0)), (2, .ref (a 0)), (3, .ref (a 1)), (4, .ref (a 2)), (5, .ref (a 3)), (6, .ref (a 4)), (7, .ref (a 5)), (8, .ref (a 6)), (9, .ref (a 7)), (10, .ref (a 8)), (11, .ref (a 9)), (12, .ref (a 10)), (13, .ref (a 11)), (14, .ref (a 12))]) hx hb dL_law_88 hl (by decide) rfl (fun ls hl => ?_)
  exact hC_90 N (0 : Int32) S L101 C D hCD H locs I ls (lv_sub hl [1, 2, 3, 4, 5, 6, 7, 8, 9, 10, 11, 12, 13, 14, 15, 0] rfl) hpf
