-- the constructor of the reference
def iFs (t : Nat) (a : Nat → Nat) (i : Nat → Int32) : List Value := [.int (i 0), .int (i 1), va_rf (if 0 < t then some (a 2) else none), va_rf (if 1 < t then some (a 3) else none), .int (i 4), va_rf (if 2 < t then some (a 5) else none), va_rf (if 3 < t then some (a 6) else none), va_rf (if 4 < t then some (a 7) else none), .int (i 8), va_rf (if 5 < t then some (a 9) else none), va_rf (if 6 < t then some (a 10) else none), .int (i 11), va_rf (if 7 < t then some (a 12) else none), va_rf (if 8 < t then some (a 13) else none), va_rf (if 9 < t then some (a 14) else none), va_rf (if 10 < t then some (a 15) else none), .int (i 16), va_rf (if 11 < t then some (a 17) else none), va_rf (if 12 < t then some (a 18) else none), va_rf (if 13 < t then some (a 19) else none), va_rf (if 14 < t then some (a 20) else none), .int (i 21), .int (i 22), va_rf (if 15 < t then some (a 23) else none), va_rf (if 16 < t then some (a 24) else none), va_rf (if 17 < t then some (a 25) else none), va_rf (if 18 < t then some (a 26) else none), va_rf (if 19 < t then some (a 27) else none), va_rf (if 20 < t then some (a 28) else none), va_rf (if 21 < t then some (a 29) else none), va_rf (if 22 < t then some (a 30) else none), .int (i 31), va_rf (if 23 < t then some (a 32) else none), va_rf (if 24 < t then some (a 33) else none), va_rf (if 25 < t then some (a 34) else none), va_rf (if 26 < t then some (a 35) else none), va_rf (if 27 < t then some (a 36) else none), .int (i 37), va_rf (if 28 < t then some (a 38) else none), va_rf (if 29 < t then some (a 39) else none), va_rf (if 30 < t then some (a 40) else none), va_rf (if 31 < t then some (a 41) else none), va_rf (if 32 < t then some (a 42) else none), va_rf (if 33 < t then some (a 43) else none), va_rf (if 34 < t then some (a 44) else none), va_rf (if 35 < t then some (a 45) else none), va_rf (if 36 < t then some (a 46) else none), .int (i 47), va_rf (if 37 < t then some (a 48) else none), va_rf (if 38 < t then some (a 49) else none), va_rf (if 39 < t then some (a 50) else none), va_rf (if 40 < t then some (a 51) else none), .int (i 52), va_rf (if 41 < t then some (a 53) else none), .int (i 54), va_rf (if 42 < t then some (a 55) else none), va_rf (if 43 < t then some (a 56) else none), va_rf (if 44 < t then some (a 57) else none), va_rf (if 45 < t then some (a 58) else none), va_rf (if 46 < t then some (a 59) else none), va_rf (if 47 < t then some (a 60) else none), va_rf (if 48 < t then some (a 61) else none), .int (i 62), va_rf (if 49 < t then some (a 63) else none), va_rf (if 50 < t then some (a 64) else none), va_rf (if 51 < t then some (a 65) else none), va_rf (if 52 < t then some (a 66) else none)]
def iW (h : Nat) (cI cZ : ClassId) (t : Nat) (a : Nat → Nat) (i : Nat → Int32) : va_W := (h, .inr (13, iFs t a i)) :: (mCs cI cZ a (fun _ _ => 0)).take t
def iUp (a : Nat → Nat) (k q : Nat) : Nat → Nat := fun j => if j = k then q else a j
/-- the t-th row, of field k, with n places, of ints or of booleans -/
def iOk (t k n : Nat) (z : Bool) : Prop := ∀ (h q : Nat) (cI cZ : ClassId) (a : Nat → Nat) (i : Nat → Int32), (iW h cI cZ t a i ++ ([(q, .inl (bif z then cZ else cI, n, .inl (fun _ => 0)))] : va_W)).set 0 (h, .inr (13, (iFs t a i).set k (.ref q))) = iW h cI cZ (t + 1) (iUp a k q) i
set_option maxRecDepth 100000 in
set_option maxHeartbeats 4000000 in
theorem iOk_0 : iOk 0 2 10 true := fun _ _ _ _ _ _ => rfl
set_option maxRecDepth 100000 in
set_option maxHeartbeats 4000000 in
theorem iOk_1 : iOk 1 3 10 true := fun _ _ _ _ _ _ => rfl
set_option maxRecDepth 100000 in
set_option maxHeartbeats 4000000 in
theorem iOk_2 : iOk 2 5 8 false := fun _ _ _ _ _ _ => rfl
set_option maxRecDepth 100000 in
set_option maxHeartbeats 4000000 in
theorem iOk_3 : iOk 3 6 8 false := fun _ _ _ _ _ _ => rfl
set_option maxRecDepth 100000 in
set_option maxHeartbeats 4000000 in
theorem iOk_4 : iOk 4 7 8 false := fun _ _ _ _ _ _ => rfl
set_option maxRecDepth 100000 in
set_option maxHeartbeats 4000000 in
theorem iOk_5 : iOk 5 9 12 false := fun _ _ _ _ _ _ => rfl
set_option maxRecDepth 100000 in
set_option maxHeartbeats 4000000 in
theorem iOk_6 : iOk 6 10 12 false := fun _ _ _ _ _ _ => rfl
set_option maxRecDepth 100000 in
set_option maxHeartbeats 4000000 in
theorem iOk_7 : iOk 7 12 15 false := fun _ _ _ _ _ _ => rfl
set_option maxRecDepth 100000 in
set_option maxHeartbeats 4000000 in
theorem iOk_8 : iOk 8 13 15 false := fun _ _ _ _ _ _ => rfl
set_option maxRecDepth 100000 in
set_option maxHeartbeats 4000000 in
theorem iOk_9 : iOk 9 14 15 false := fun _ _ _ _ _ _ => rfl
set_option maxRecDepth 100000 in
set_option maxHeartbeats 4000000 in
theorem iOk_10 : iOk 10 15 15 true := fun _ _ _ _ _ _ => rfl
set_option maxRecDepth 100000 in
set_option maxHeartbeats 4000000 in
theorem iOk_11 : iOk 11 17 8 false := fun _ _ _ _ _ _ => rfl
set_option maxRecDepth 100000 in
set_option maxHeartbeats 4000000 in
theorem iOk_12 : iOk 12 18 4 false := fun _ _ _ _ _ _ => rfl
set_option maxRecDepth 100000 in
set_option maxHeartbeats 4000000 in
theorem iOk_13 : iOk 13 19 64 false := fun _ _ _ _ _ _ => rfl
set_option maxRecDepth 100000 in
set_option maxHeartbeats 4000000 in
theorem iOk_14 : iOk 14 20 192 true := fun _ _ _ _ _ _ => rfl
set_option maxRecDepth 100000 in
set_option maxHeartbeats 4000000 in
theorem iOk_15 : iOk 15 23 250 false := fun _ _ _ _ _ _ => rfl
set_option maxRecDepth 100000 in
set_option maxHeartbeats 4000000 in
theorem iOk_16 : iOk 16 24 250 false := fun _ _ _ _ _ _ => rfl
set_option maxRecDepth 100000 in
set_option maxHeartbeats 4000000 in
theorem iOk_17 : iOk 17 25 250 false := fun _ _ _ _ _ _ => rfl
set_option maxRecDepth 100000 in
set_option maxHeartbeats 4000000 in
theorem iOk_18 : iOk 18 26 250 false := fun _ _ _ _ _ _ => rfl
set_option maxRecDepth 100000 in
set_option maxHeartbeats 4000000 in
theorem iOk_19 : iOk 19 27 250 false := fun _ _ _ _ _ _ => rfl
set_option maxRecDepth 100000 in
set_option maxHeartbeats 4000000 in
theorem iOk_20 : iOk 20 28 250 false := fun _ _ _ _ _ _ => rfl
set_option maxRecDepth 100000 in
set_option maxHeartbeats 4000000 in
theorem iOk_21 : iOk 21 29 250 false := fun _ _ _ _ _ _ => rfl
set_option maxRecDepth 100000 in
set_option maxHeartbeats 4000000 in
theorem iOk_22 : iOk 22 30 250 false := fun _ _ _ _ _ _ => rfl
set_option maxRecDepth 100000 in
set_option maxHeartbeats 4000000 in
theorem iOk_23 : iOk 23 32 250 false := fun _ _ _ _ _ _ => rfl
set_option maxRecDepth 100000 in
set_option maxHeartbeats 4000000 in
theorem iOk_24 : iOk 24 33 250 false := fun _ _ _ _ _ _ => rfl
set_option maxRecDepth 100000 in
set_option maxHeartbeats 4000000 in
theorem iOk_25 : iOk 25 34 600 false := fun _ _ _ _ _ _ => rfl
set_option maxRecDepth 100000 in
set_option maxHeartbeats 4000000 in
theorem iOk_26 : iOk 26 35 600 false := fun _ _ _ _ _ _ => rfl
set_option maxRecDepth 100000 in
set_option maxHeartbeats 4000000 in
theorem iOk_27 : iOk 27 36 250 false := fun _ _ _ _ _ _ => rfl
set_option maxRecDepth 100000 in
set_option maxHeartbeats 4000000 in
theorem iOk_28 : iOk 28 38 48 true := fun _ _ _ _ _ _ => rfl
set_option maxRecDepth 100000 in
set_option maxHeartbeats 4000000 in
theorem iOk_29 : iOk 29 39 48 true := fun _ _ _ _ _ _ => rfl
set_option maxRecDepth 100000 in
set_option maxHeartbeats 4000000 in
theorem iOk_30 : iOk 30 40 48 false := fun _ _ _ _ _ _ => rfl
set_option maxRecDepth 100000 in
set_option maxHeartbeats 4000000 in
theorem iOk_31 : iOk 31 41 48 false := fun _ _ _ _ _ _ => rfl
set_option maxRecDepth 100000 in
set_option maxHeartbeats 4000000 in
theorem iOk_32 : iOk 32 42 48 false := fun _ _ _ _ _ _ => rfl
set_option maxRecDepth 100000 in
set_option maxHeartbeats 4000000 in
theorem iOk_33 : iOk 33 43 48 false := fun _ _ _ _ _ _ => rfl
set_option maxRecDepth 100000 in
set_option maxHeartbeats 4000000 in
theorem iOk_34 : iOk 34 44 48 false := fun _ _ _ _ _ _ => rfl
set_option maxRecDepth 100000 in
set_option maxHeartbeats 4000000 in
theorem iOk_35 : iOk 35 45 48 false := fun _ _ _ _ _ _ => rfl
set_option maxRecDepth 100000 in
set_option maxHeartbeats 4000000 in
theorem iOk_36 : iOk 36 46 48 false := fun _ _ _ _ _ _ => rfl
set_option maxRecDepth 100000 in
set_option maxHeartbeats 4000000 in
theorem iOk_37 : iOk 37 48 900 false := fun _ _ _ _ _ _ => rfl
set_option maxRecDepth 100000 in
set_option maxHeartbeats 4000000 in
theorem iOk_38 : iOk 38 49 900 false := fun _ _ _ _ _ _ => rfl
set_option maxRecDepth 100000 in
set_option maxHeartbeats 4000000 in
theorem iOk_39 : iOk 39 50 900 false := fun _ _ _ _ _ _ => rfl
set_option maxRecDepth 100000 in
set_option maxHeartbeats 4000000 in
theorem iOk_40 : iOk 40 51 15840 false := fun _ _ _ _ _ _ => rfl
set_option maxRecDepth 100000 in
set_option maxHeartbeats 4000000 in
theorem iOk_41 : iOk 41 53 192 false := fun _ _ _ _ _ _ => rfl
set_option maxRecDepth 100000 in
set_option maxHeartbeats 4000000 in
theorem iOk_42 : iOk 42 55 400 false := fun _ _ _ _ _ _ => rfl
set_option maxRecDepth 100000 in
set_option maxHeartbeats 4000000 in
theorem iOk_43 : iOk 43 56 192 true := fun _ _ _ _ _ _ => rfl
set_option maxRecDepth 100000 in
set_option maxHeartbeats 4000000 in
theorem iOk_44 : iOk 44 57 48 true := fun _ _ _ _ _ _ => rfl
set_option maxRecDepth 100000 in
set_option maxHeartbeats 4000000 in
theorem iOk_45 : iOk 45 58 48 false := fun _ _ _ _ _ _ => rfl
set_option maxRecDepth 100000 in
set_option maxHeartbeats 4000000 in
theorem iOk_46 : iOk 46 59 48 false := fun _ _ _ _ _ _ => rfl
set_option maxRecDepth 100000 in
set_option maxHeartbeats 4000000 in
theorem iOk_47 : iOk 47 60 48 false := fun _ _ _ _ _ _ => rfl
set_option maxRecDepth 100000 in
set_option maxHeartbeats 4000000 in
theorem iOk_48 : iOk 48 61 48 false := fun _ _ _ _ _ _ => rfl
set_option maxRecDepth 100000 in
set_option maxHeartbeats 4000000 in
theorem iOk_49 : iOk 49 63 900 false := fun _ _ _ _ _ _ => rfl
set_option maxRecDepth 100000 in
set_option maxHeartbeats 4000000 in
theorem iOk_50 : iOk 50 64 900 false := fun _ _ _ _ _ _ => rfl
set_option maxRecDepth 100000 in
set_option maxHeartbeats 4000000 in
theorem iOk_51 : iOk 51 65 900 false := fun _ _ _ _ _ _ => rfl
set_option maxRecDepth 100000 in
set_option maxHeartbeats 4000000 in
theorem iOk_52 : iOk 52 66 15840 false := fun _ _ _ _ _ _ => rfl
theorem iFs_len (t : Nat) (a : Nat → Nat) (i : Nat → Int32) : (iFs t a i).length = 67 := rfl
def jPre (dC : Nat → ClassId) (dI : Nat → Nat → Nat) (cI cZ : ClassId) (sz : Nat) (ws : va_W) : State → Prop := fun U => U.heap.size = sz ∧ va_P (dC, dI) vwCl ws U.heap ∧ va_K (dC, dI) vwCl [(cI, .int), (cZ, .boolean)] U ∧ va_D (fun _ => True) ws
section JW
variable {p : Program} {l : Launch} {e : Env} {R : Room} {s : State} {m : MethodId} {args : Array Value} {below : List Frame} {meth : Method} {c : Code} {H : Heap} {locs : List Loc} {cells slots : Nat} {Q : State → Prop}
variable {cc : ByteArray} {nL : Nat} {ls : Array Slot} {rest : List Value} {dC : Nat → ClassId} {dI : Nat → Nat → Nat} {cI cZ : ClassId} {A : Nat → Prop} {h : Nat} {a : Nat → Nat} {i : Nat → Int32}
theorem jI_eq {D : va_G} {cl : List vw_C} {cA : ClassId} (h : va_K D cl ([(cI, .int), (cZ, .boolean)] ++ [(cA, .int)]) s) : cA = cI := by
  have h1 : s.vm.findClass "[I" = some cI := (h.2 0 (cI, .int) rfl).2
  have h2 : s.vm.findClass "[I" = some cA := (h.2 2 (cA, .int) rfl).2
  exact Option.some.inj (h2.symm.trans h1)
theorem jZ_eq {D : va_G} {cl : List vw_C} {cA : ClassId} (h : va_K D cl ([(cI, .int), (cZ, .boolean)] ++ [(cA, .boolean)]) s) : cA = cZ := by
  have h1 : s.vm.findClass "[Z" = some cZ := (h.2 1 (cZ, .boolean) rfl).2
  have h2 : s.vm.findClass "[Z" = some cA := (h.2 2 (cA, .boolean) rfl).2
  exact Option.some.inj (h2.symm.trans h1)
theorem j_row {t k N index pc2 : Nat} {z : Bool} {n : Int32} (C : mC p s m meth c cc nL args dC dI cI cZ) (hA : ∀ q, s.heap.size ≤ q → A q) (I : nWv dC dI A s (iW h cI cZ t a i) H locs) (hin : meth.name = "<init>") (hO : iOk t k N z) (hk : k < 67) (ty : FieldType) (hty : (bif z then (.array .boolean : FieldType) else .array .int) = ty) (at0 : ArrayType) (hat : (bif z then ArrayType.boolean else ArrayType.int) = at0) (hwa : Cond.arrayClass (newarray.typeOf at0) ∈ wsM) (hl : Cond.fieldLink RX10 index "MasterTreeModel" (TX10 k).2.1 (TX10 k).2.2.1 ∈ wsM) (hX : (TX10 k).1 = "MasterTreeModel") (hfin : (TX10 k).2.2.2 = true) (hpt : parseFieldDescriptor (TX10 k).2.2.1 = some ty) (hn : ¬ n < 0) (hN : n.toNatClampNeg = N) (hb : N * 4 ≤ 536870912) (hcs : cells + 1 ≤ R.cells ∧ slots + N ≤ R.slots) (pc : Nat) (hdg : decode cc pc = .ok (.newarray at0, 2)) (hpc : pc + 2 = pc2) (hdg2 : decode cc pc2 = .ok (.putfield index, 3))
    (kk : ∀ (q : Nat) (H1 : Heap) (locs1 : List Loc), nWv dC dI A s (iW h cI cZ (t + 1) (iUp a k q) i) H1 locs1 → W p l e R s m args below meth c H1 locs1 (cells + 1) (slots + N) Q (F0 m (pc2 + 3) ls rest)) : W p l e R s m args below meth c H locs cells slots Q (F0 m pc ls (.int n :: .ref h :: rest)) := by
  obtain ⟨h1, h2, h3, h4, h5, h6, h7⟩ := C
  subst hpc
  have key : ∀ (q : Nat) (H1 : Heap), nWv dC dI A s (iW h cI cZ t a i ++ [(q, .inl (bif z then cZ else cI, N, .inl (fun _ => 0)))]) H1 locs → W p l e R s m args below meth c H1 locs (cells + 1) (slots + N) Q (F0 m (pc + 2) ls (.ref q :: .ref h :: rest)) := fun q H1 I => by
    refine va_putF (D := (dC, dI)) (ci := 13) (C := RX10) (T := TX10) (N := 67) (own := RX10) h1 h2 h5 kM_lay tyX10 tyX10_ok nmX10 h4 h6 I.1 I.2.1 I.2.2 0 rfl rfl k hk (h5 _ hl) (fun y hy => by rw [hX] at hy; exact hy) hfin hin (by rw [hX]; rfl) hpt (v := .ref q) (by subst hty; cases z <;> rfl) (by subst hty; cases z <;> rfl) (by rw [iFs_len]; exact hk) hdg2 (fun H2 locs1 hP hD hS => ?_)
    rw [hO h q cI cZ a i] at hP hD
    exact kk q H2 locs1 ⟨hP, hD, hS⟩
  cases z with
  | true =>
    subst hat
    refine va_newa (atype := .boolean) (a0 := (N, .inl (fun _ => 0))) (N' := N) h1 h2 (h5 _ hwa) rfl h6 I.1 I.2.1 I.2.2 hA (fun _ => rfl) hn hN (by show N * 1 ≤ 536870912; omega) hcs.1 hcs.2 hdg (fun q cA H1 hK1 hP hD hS => ?_)
    have e := jZ_eq hK1
    subst e
    exact key q H1 ⟨hP, hD, hS⟩
  | false =>
    subst hat
    refine va_newa (atype := .int) (a0 := (N, .inl (fun _ => 0))) (N' := N) h1 h2 (h5 _ hwa) rfl h6 I.1 I.2.1 I.2.2 hA (fun _ => rfl) hn hN hb hcs.1 hcs.2 hdg (fun q cA H1 hK1 hP hD hS => ?_)
    have e := jI_eq hK1
    subst e
    exact key q H1 ⟨hP, hD, hS⟩
theorem j_int {t k index : Nat} {x : Int32} (C : mC p s m meth c cc nL args dC dI cI cZ) (I : nWv dC dI A s (iW h cI cZ t a i) H locs) (X : mInt k) (hs : ∀ v : Int32, (iFs t a i).set k (.int v) = iFs t a (upd i k v)) (hl : Cond.fieldLink RX10 index "MasterTreeModel" (TX10 k).2.1 (TX10 k).2.2.1 ∈ wsM) (pc : Nat) (hdg : decode cc pc = .ok (.putfield index, 3))
    (kk : ∀ (H1 : Heap) (locs1 : List Loc), nWv dC dI A s (iW h cI cZ t a (upd i k x)) H1 locs1 → W p l e R s m args below meth c H1 locs1 cells slots Q (F0 m (pc + 3) ls rest)) : W p l e R s m args below meth c H locs cells slots Q (F0 m pc ls (.int x :: .ref h :: rest)) := by
  obtain ⟨h1, h2, h3, h4, h5, h6, h7⟩ := C
  obtain ⟨x1, x2, x3, x4, x5⟩ := X
  refine va_put (D := (dC, dI)) (ci := 13) (C := RX10) (T := TX10) (N := 67) h1 h2 h5 kM_lay tyX10 tyX10_ok nmX10 h4 h6 I.1 I.2.1 I.2.2 0 rfl rfl k x1 (h5 _ hl) (fun z hz => by rw [x2] at hz; exact hz) x3 x4 (v := .int x) rfl rfl (by rw [iFs_len]; exact x1) hdg (fun H1 locs1 hP hD hS => ?_)
  rw [hs] at hP hD
  exact kk H1 locs1 ⟨hP, hD, hS⟩
theorem j_ret {sz mc ms : Nat} {ws0 ws : va_W} {Po : va_W → Prop} (C : mC p s m meth c cc nL args dC dI cI cZ) (I : nWv dC dI (nA ws0 sz) s ws H locs) (hPo : Po ws) (hr : meth.sig.returnType = none) (hcm : cells ≤ mc ∧ slots ≤ ms) (pc : Nat) (hdg : decode cc pc = .ok (.return_, 1)) :
    W p l e R s m args below meth c H locs cells slots (MQ below (nQ dC dI sz ws0 Po) args s mc ms (nA ws0 sz)) (F0 m pc ls []) :=
  W.widen hcm.1 hcm.2 (W.vret C.1 C.2.1 hr (fun t ht _ => ⟨⟨rfl, ws, hPo, by rw [ht]; exact I.1, I.2.1⟩, I.2.2.F ht⟩) I.2.2.2.2 hdg C.2.2.2.2.2.2)
end JW
/-- a new reference -/
def mS0 : mS := (upd (upd (fun _ => 0) 21 (1)) 37 (-1), fun _ _ => 0)
set_option maxRecDepth 100000 in
set_option maxHeartbeats 40000000 in
theorem c_X10_init (l : Launch) (h : Nat) (dC : Nat → ClassId) (dI : Nat → Nat → Nat) (cI cZ : ClassId) (sz : Nat) : Met l yX10_init (.code yX10_init cX10_init 1 none :: wsM) (xRm 1 53 42882) (va_Pc [.ref h] (jPre dC dI cI cZ sz [(h, .inr (13, [.int 0, .int 0, .null, .null, .int 0, .null, .null, .null, .int 0, .null, .null, .int 0, .null, .null, .null, .null, .int 0, .null, .null, .null, .null, .int 0, .int 0, .null, .null, .null, .null, .null, .null, .null, .null, .int 0, .null, .null, .null, .null, .null, .int 0, .null, .null, .null, .null, .null, .null, .null, .null, .null, .int 0, .null, .null, .null, .null, .int 0, .null, .int 0, .null, .null, .null, .null, .null, .null, .null, .int 0, .null, .null, .null, .null]))])) (nQ dC dI sz [(h, .inr (13, [.int 0, .int 0, .null, .null, .int 0, .null, .null, .null, .int 0, .null, .null, .int 0, .null, .null, .null, .null, .int 0, .null, .null, .null, .null, .int 0, .int 0, .null, .null, .null, .null, .null, .null, .null, .null, .int 0, .null, .null, .null, .null, .null, .int 0, .null, .null, .null, .null, .null, .null, .null, .null, .null, .int 0, .null, .null, .null, .null, .int 0, .null, .int 0, .null, .null, .null, .null, .null, .null, .null, .int 0, .null, .null, .null, .null]))] (fun ws' => ∃ a : Nat → Nat, ws' = mW h cI cZ a mS0)) 53 42882 (nA [(h, .inr (13, [.int 0, .int 0, .null, .null, .int 0, .null, .null, .null, .int 0, .null, .null, .int 0, .null, .null, .null, .null, .int 0, .null, .null, .null, .null, .int 0, .int 0, .null, .null, .null, .null, .null, .null, .null, .null, .int 0, .null, .null, .null, .null, .null, .int 0, .null, .null, .null, .null, .null, .null, .null, .null, .null, .int 0, .null, .null, .null, .null, .int 0, .null, .int 0, .null, .null, .null, .null, .null, .null, .null, .int 0, .null, .null, .null, .null]))] sz) := by
  refine Met.ofW (cc := cX10_init) (maxL := 1) (ret := none) (by decide +kernel) rfl ?_
  intro p e s m args below meth c s₁ B hml hv
  obtain ⟨rfl, hsz, hP, hK, hD0⟩ := hv
  have hts := atoms_spec B.pre
  have hown : s.vm.findClass RX10 = some m.cls := findClass_of_methodNamed B.named
  have hl := lv_entry [.ref h] (n := 1) (Nat.le_of_ble_eq_true rfl)
  rw [lg_entry_eq]
  have C : mC p s m meth c cX10_init 1 _ dC dI cI cZ := ⟨B.exec, B.bytes, hml, hown, mWords hts, hK, B.notSynchronized⟩
  have hr := B.returns
  have hin : meth.name = "<init>" := (name_of_methodNamed B.named B.method).1
  have hx := C.1
  have hb := C.2.1
  have hA : ∀ q, s.heap.size ≤ q → nA [(h, .inr (13, [.int 0, .int 0, .null, .null, .int 0, .null, .null, .null, .int 0, .null, .null, .int 0, .null, .null, .null, .null, .int 0, .null, .null, .null, .null, .int 0, .int 0, .null, .null, .null, .null, .null, .null, .null, .null, .int 0, .null, .null, .null, .null, .null, .int 0, .null, .null, .null, .null, .null, .null, .null, .null, .null, .int 0, .null, .null, .null, .null, .int 0, .null, .int 0, .null, .null, .null, .null, .null, .null, .null, .int 0, .null, .null, .null, .null]))] sz q := fun q hq => Or.inr (by rw [← hsz]; exact hq)
  have I : nWv dC dI (nA [(h, .inr (13, [.int 0, .int 0, .null, .null, .int 0, .null, .null, .null, .int 0, .null, .null, .int 0, .null, .null, .null, .null, .int 0, .null, .null, .null, .null, .int 0, .int 0, .null, .null, .null, .null, .null, .null, .null, .null, .int 0, .null, .null, .null, .null, .null, .int 0, .null, .null, .null, .null, .null, .null, .null, .null, .null, .int 0, .null, .null, .null, .null, .int 0, .null, .int 0, .null, .null, .null, .null, .null, .null, .null, .int 0, .null, .null, .null, .null]))] sz) s (iW h cI cZ 0 (fun _ => 0) (fun _ => 0)) s.heap [] := ⟨hP, va_D_nA sz hD0, va_S.rf⟩
  suffices body : ∀ ls : Array Slot, lv_has ls 1 [(0, .ref h)] → W p l e (xRm 1 53 42882) s m [Value.ref h].toArray below meth c s.heap [] 0 0 (MQ below (nQ dC dI sz [(h, .inr (13, [.int 0, .int 0, .null, .null, .int 0, .null, .null, .null, .int 0, .null, .null, .int 0, .null, .null, .null, .null, .int 0, .null, .null, .null, .null, .int 0, .int 0, .null, .null, .null, .null, .null, .null, .null, .null, .int 0, .null, .null, .null, .null, .null, .int 0, .null, .null, .null, .null, .null, .null, .null, .null, .null, .int 0, .null, .null, .null, .null, .int 0, .null, .int 0, .null, .null, .null, .null, .null, .null, .null, .int 0, .null, .null, .null, .null]))] (fun ws' => ∃ a : Nat → Nat, ws' = mW h cI cZ a mS0)) [Value.ref h].toArray s 53 42882 (nA [(h, .inr (13, [.int 0, .int 0, .null, .null, .int 0, .null, .null, .null, .int 0, .null, .null, .int 0, .null, .null, .null, .null, .int 0, .null, .null, .null, .null, .int 0, .int 0, .null, .null, .null, .null, .null, .null, .null, .null, .int 0, .null, .null, .null, .null, .null, .int 0, .null, .null, .null, .null, .null, .null, .null, .null, .null, .int 0, .null, .null, .null, .null, .int 0, .null, .int 0, .null, .null, .null, .null, .null, .null, .null, .int 0, .null, .null, .null, .null]))] sz)) (F0 m 0 ls []) from body _ hl
  clear hl
  intro ls hl
  revert I
  generalize s.heap = H
  intro I
  refine lv_aload_n hx hb dX10_init_0 rfl (lv_at hl 0 rfl) ?_
  refine W.objInit hx hb C.2.2.2.1 (C.2.2.2.2.1 _ kM_0) (C.2.2.2.2.1 _ kM_1) (C.2.2.2.2.1 _ kM_2) rfl (by rw [C.2.2.1]; exact hl.1) rfl dX10_init_1 (Nat.le_of_ble_eq_true rfl) (Nat.le_of_ble_eq_true rfl) ?_
  refine W.eq (g2 := F0 m 4 ls []) rfl ?_
  refine lv_aload_n hx hb dX10_init_4 rfl (lv_at hl 0 rfl) ?_
  refine lv_bipush (v := (10 : Int32)) hx hb dX10_init_5 (by decide) ?_
  refine j_row C hA I hin iOk_0 (by decide) _ rfl _ rfl kM_3 kM_4 rfl rfl (by decide +kernel) (by decide) rfl (Nat.le_of_ble_eq_true rfl) ⟨Nat.le_of_ble_eq_true rfl, Nat.le_of_ble_eq_true rfl⟩ 7 dX10_init_7 rfl dX10_init_9 (fun q0 H locs I => ?_)
  refine lv_aload_n hx hb dX10_init_12 rfl (lv_at hl 0 rfl) ?_
  refine lv_bipush (v := (10 : Int32)) hx hb dX10_init_13 (by decide) ?_
  refine j_row C hA I hin iOk_1 (by decide) _ rfl _ rfl kM_3 kM_5 rfl rfl (by decide +kernel) (by decide) rfl (Nat.le_of_ble_eq_true rfl) ⟨Nat.le_of_ble_eq_true rfl, Nat.le_of_ble_eq_true rfl⟩ 15 dX10_init_15 rfl dX10_init_17 (fun q1 H locs I => ?_)
  refine lv_aload_n hx hb dX10_init_20 rfl (lv_at hl 0 rfl) ?_
  refine lv_bipush (v := (8 : Int32)) hx hb dX10_init_21 (by decide) ?_
  refine j_row C hA I hin iOk_2 (by decide) _ rfl _ rfl kM_6 kM_7 rfl rfl (by decide +kernel) (by decide) rfl (Nat.le_of_ble_eq_true rfl) ⟨Nat.le_of_ble_eq_true rfl, Nat.le_of_ble_eq_true rfl⟩ 23 dX10_init_23 rfl dX10_init_25 (fun q2 H locs I => ?_)
  refine lv_aload_n hx hb dX10_init_28 rfl (lv_at hl 0 rfl) ?_
  refine lv_bipush (v := (8 : Int32)) hx hb dX10_init_29 (by decide) ?_
  refine j_row C hA I hin iOk_3 (by decide) _ rfl _ rfl kM_6 kM_8 rfl rfl (by decide +kernel) (by decide) rfl (Nat.le_of_ble_eq_true rfl) ⟨Nat.le_of_ble_eq_true rfl, Nat.le_of_ble_eq_true rfl⟩ 31 dX10_init_31 rfl dX10_init_33 (fun q3 H locs I => ?_)
  refine lv_aload_n hx hb dX10_init_36 rfl (lv_at hl 0 rfl) ?_
  refine lv_bipush (v := (8 : Int32)) hx hb dX10_init_37 (by decide) ?_
  refine j_row C hA I hin iOk_4 (by decide) _ rfl _ rfl kM_6 kM_9 rfl rfl (by decide +kernel) (by decide) rfl (Nat.le_of_ble_eq_true rfl) ⟨Nat.le_of_ble_eq_true rfl, Nat.le_of_ble_eq_true rfl⟩ 39 dX10_init_39 rfl dX10_init_41 (fun q4 H locs I => ?_)
  refine lv_aload_n hx hb dX10_init_44 rfl (lv_at hl 0 rfl) ?_
  refine lv_bipush (v := (12 : Int32)) hx hb dX10_init_45 (by decide) ?_
  refine j_row C hA I hin iOk_5 (by decide) _ rfl _ rfl kM_6 kM_10 rfl rfl (by decide +kernel) (by decide) rfl (Nat.le_of_ble_eq_true rfl) ⟨Nat.le_of_ble_eq_true rfl, Nat.le_of_ble_eq_true rfl⟩ 47 dX10_init_47 rfl dX10_init_49 (fun q5 H locs I => ?_)
  refine lv_aload_n hx hb dX10_init_52 rfl (lv_at hl 0 rfl) ?_
  refine lv_bipush (v := (12 : Int32)) hx hb dX10_init_53 (by decide) ?_
  refine j_row C hA I hin iOk_6 (by decide) _ rfl _ rfl kM_6 kM_11 rfl rfl (by decide +kernel) (by decide) rfl (Nat.le_of_ble_eq_true rfl) ⟨Nat.le_of_ble_eq_true rfl, Nat.le_of_ble_eq_true rfl⟩ 55 dX10_init_55 rfl dX10_init_57 (fun q6 H locs I => ?_)
  refine lv_aload_n hx hb dX10_init_60 rfl (lv_at hl 0 rfl) ?_
  refine lv_bipush (v := (15 : Int32)) hx hb dX10_init_61 (by decide) ?_
  refine j_row C hA I hin iOk_7 (by decide) _ rfl _ rfl kM_6 kM_12 rfl rfl (by decide +kernel) (by decide) rfl (Nat.le_of_ble_eq_true rfl) ⟨Nat.le_of_ble_eq_true rfl, Nat.le_of_ble_eq_true rfl⟩ 63 dX10_init_63 rfl dX10_init_65 (fun q7 H locs I => ?_)
  refine lv_aload_n hx hb dX10_init_68 rfl (lv_at hl 0 rfl) ?_
  refine lv_bipush (v := (15 : Int32)) hx hb dX10_init_69 (by decide) ?_
  refine j_row C hA I hin iOk_8 (by decide) _ rfl _ rfl kM_6 kM_13 rfl rfl (by decide +kernel) (by decide) rfl (Nat.le_of_ble_eq_true rfl) ⟨Nat.le_of_ble_eq_true rfl, Nat.le_of_ble_eq_true rfl⟩ 71 dX10_init_71 rfl dX10_init_73 (fun q8 H locs I => ?_)
  refine lv_aload_n hx hb dX10_init_76 rfl (lv_at hl 0 rfl) ?_
  refine lv_bipush (v := (15 : Int32)) hx hb dX10_init_77 (by decide) ?_
  refine j_row C hA I hin iOk_9 (by decide) _ rfl _ rfl kM_6 kM_14 rfl rfl (by decide +kernel) (by decide) rfl (Nat.le_of_ble_eq_true rfl) ⟨Nat.le_of_ble_eq_true rfl, Nat.le_of_ble_eq_true rfl⟩ 79 dX10_init_79 rfl dX10_init_81 (fun q9 H locs I => ?_)
  refine lv_aload_n hx hb dX10_init_84 rfl (lv_at hl 0 rfl) ?_
  refine lv_bipush (v := (15 : Int32)) hx hb dX10_init_85 (by decide) ?_
  refine j_row C hA I hin iOk_10 (by decide) _ rfl _ rfl kM_3 kM_15 rfl rfl (by decide +kernel) (by decide) rfl (Nat.le_of_ble_eq_true rfl) ⟨Nat.le_of_ble_eq_true rfl, Nat.le_of_ble_eq_true rfl⟩ 87 dX10_init_87 rfl dX10_init_89 (fun q10 H locs I => ?_)
  refine lv_aload_n hx hb dX10_init_92 rfl (lv_at hl 0 rfl) ?_
  refine lv_bipush (v := (8 : Int32)) hx hb dX10_init_93 (by decide) ?_
  refine j_row C hA I hin iOk_11 (by decide) _ rfl _ rfl kM_6 kM_16 rfl rfl (by decide +kernel) (by decide) rfl (Nat.le_of_ble_eq_true rfl) ⟨Nat.le_of_ble_eq_true rfl, Nat.le_of_ble_eq_true rfl⟩ 95 dX10_init_95 rfl dX10_init_97 (fun q11 H locs I => ?_)
  refine lv_aload_n hx hb dX10_init_100 rfl (lv_at hl 0 rfl) ?_
  refine lv_iconst (v := (4 : Int32)) hx hb dX10_init_101 (by decide) ?_
  refine j_row C hA I hin iOk_12 (by decide) _ rfl _ rfl kM_6 kM_17 rfl rfl (by decide +kernel) (by decide) rfl (Nat.le_of_ble_eq_true rfl) ⟨Nat.le_of_ble_eq_true rfl, Nat.le_of_ble_eq_true rfl⟩ 102 dX10_init_102 rfl dX10_init_104 (fun q12 H locs I => ?_)
  refine lv_aload_n hx hb dX10_init_107 rfl (lv_at hl 0 rfl) ?_
  refine lv_bipush (v := (64 : Int32)) hx hb dX10_init_108 (by decide) ?_
  refine j_row C hA I hin iOk_13 (by decide) _ rfl _ rfl kM_6 kM_18 rfl rfl (by decide +kernel) (by decide) rfl (Nat.le_of_ble_eq_true rfl) ⟨Nat.le_of_ble_eq_true rfl, Nat.le_of_ble_eq_true rfl⟩ 110 dX10_init_110 rfl dX10_init_112 (fun q13 H locs I => ?_)
  refine lv_aload_n hx hb dX10_init_115 rfl (lv_at hl 0 rfl) ?_
  refine lv_sipush (v := (192 : Int32)) hx hb dX10_init_116 (by decide) ?_
  refine j_row C hA I hin iOk_14 (by decide) _ rfl _ rfl kM_3 kM_19 rfl rfl (by decide +kernel) (by decide) rfl (Nat.le_of_ble_eq_true rfl) ⟨Nat.le_of_ble_eq_true rfl, Nat.le_of_ble_eq_true rfl⟩ 119 dX10_init_119 rfl dX10_init_121 (fun q14 H locs I => ?_)
  refine lv_aload_n hx hb dX10_init_124 rfl (lv_at hl 0 rfl) ?_
  refine lv_iconst (v := (1 : Int32)) hx hb dX10_init_125 (by decide) ?_
  refine j_int C I mInt_21 (fun _ => rfl) kM_20 126 dX10_init_126 (fun H locs I => ?_)
  refine lv_aload_n hx hb dX10_init_129 rfl (lv_at hl 0 rfl) ?_
  refine lv_sipush (v := (250 : Int32)) hx hb dX10_init_130 (by decide) ?_
  refine j_row C hA I hin iOk_15 (by decide) _ rfl _ rfl kM_6 kM_21 rfl rfl (by decide +kernel) (by decide) rfl (Nat.le_of_ble_eq_true rfl) ⟨Nat.le_of_ble_eq_true rfl, Nat.le_of_ble_eq_true rfl⟩ 133 dX10_init_133 rfl dX10_init_135 (fun q15 H locs I => ?_)
  refine lv_aload_n hx hb dX10_init_138 rfl (lv_at hl 0 rfl) ?_
  refine lv_sipush (v := (250 : Int32)) hx hb dX10_init_139 (by decide) ?_
  refine j_row C hA I hin iOk_16 (by decide) _ rfl _ rfl kM_6 kM_22 rfl rfl (by decide +kernel) (by decide) rfl (Nat.le_of_ble_eq_true rfl) ⟨Nat.le_of_ble_eq_true rfl, Nat.le_of_ble_eq_true rfl⟩ 142 dX10_init_142 rfl dX10_init_144 (fun q16 H locs I => ?_)
  refine lv_aload_n hx hb dX10_init_147 rfl (lv_at hl 0 rfl) ?_
  refine lv_sipush (v := (250 : Int32)) hx hb dX10_init_148 (by decide) ?_
  refine j_row C hA I hin iOk_17 (by decide) _ rfl _ rfl kM_6 kM_23 rfl rfl (by decide +kernel) (by decide) rfl (Nat.le_of_ble_eq_true rfl) ⟨Nat.le_of_ble_eq_true rfl, Nat.le_of_ble_eq_true rfl⟩ 151 dX10_init_151 rfl dX10_init_153 (fun q17 H locs I => ?_)
  refine lv_aload_n hx hb dX10_init_156 rfl (lv_at hl 0 rfl) ?_
  refine lv_sipush (v := (250 : Int32)) hx hb dX10_init_157 (by decide) ?_
  refine j_row C hA I hin iOk_18 (by decide) _ rfl _ rfl kM_6 kM_24 rfl rfl (by decide +kernel) (by decide) rfl (Nat.le_of_ble_eq_true rfl) ⟨Nat.le_of_ble_eq_true rfl, Nat.le_of_ble_eq_true rfl⟩ 160 dX10_init_160 rfl dX10_init_162 (fun q18 H locs I => ?_)
  refine lv_aload_n hx hb dX10_init_165 rfl (lv_at hl 0 rfl) ?_
  refine lv_sipush (v := (250 : Int32)) hx hb dX10_init_166 (by decide) ?_
  refine j_row C hA I hin iOk_19 (by decide) _ rfl _ rfl kM_6 kM_25 rfl rfl (by decide +kernel) (by decide) rfl (Nat.le_of_ble_eq_true rfl) ⟨Nat.le_of_ble_eq_true rfl, Nat.le_of_ble_eq_true rfl⟩ 169 dX10_init_169 rfl dX10_init_171 (fun q19 H locs I => ?_)
  refine lv_aload_n hx hb dX10_init_174 rfl (lv_at hl 0 rfl) ?_
  refine lv_sipush (v := (250 : Int32)) hx hb dX10_init_175 (by decide) ?_
  refine j_row C hA I hin iOk_20 (by decide) _ rfl _ rfl kM_6 kM_26 rfl rfl (by decide +kernel) (by decide) rfl (Nat.le_of_ble_eq_true rfl) ⟨Nat.le_of_ble_eq_true rfl, Nat.le_of_ble_eq_true rfl⟩ 178 dX10_init_178 rfl dX10_init_180 (fun q20 H locs I => ?_)
  refine lv_aload_n hx hb dX10_init_183 rfl (lv_at hl 0 rfl) ?_
  refine lv_sipush (v := (250 : Int32)) hx hb dX10_init_184 (by decide) ?_
  refine j_row C hA I hin iOk_21 (by decide) _ rfl _ rfl kM_6 kM_27 rfl rfl (by decide +kernel) (by decide) rfl (Nat.le_of_ble_eq_true rfl) ⟨Nat.le_of_ble_eq_true rfl, Nat.le_of_ble_eq_true rfl⟩ 187 dX10_init_187 rfl dX10_init_189 (fun q21 H locs I => ?_)
  refine lv_aload_n hx hb dX10_init_192 rfl (lv_at hl 0 rfl) ?_
  refine lv_sipush (v := (250 : Int32)) hx hb dX10_init_193 (by decide) ?_
  refine j_row C hA I hin iOk_22 (by decide) _ rfl _ rfl kM_6 kM_28 rfl rfl (by decide +kernel) (by decide) rfl (Nat.le_of_ble_eq_true rfl) ⟨Nat.le_of_ble_eq_true rfl, Nat.le_of_ble_eq_true rfl⟩ 196 dX10_init_196 rfl dX10_init_198 (fun q22 H locs I => ?_)
  refine lv_aload_n hx hb dX10_init_201 rfl (lv_at hl 0 rfl) ?_
  refine lv_sipush (v := (250 : Int32)) hx hb dX10_init_202 (by decide) ?_
  refine j_row C hA I hin iOk_23 (by decide) _ rfl _ rfl kM_6 kM_29 rfl rfl (by decide +kernel) (by decide) rfl (Nat.le_of_ble_eq_true rfl) ⟨Nat.le_of_ble_eq_true rfl, Nat.le_of_ble_eq_true rfl⟩ 205 dX10_init_205 rfl dX10_init_207 (fun q23 H locs I => ?_)
  refine lv_aload_n hx hb dX10_init_210 rfl (lv_at hl 0 rfl) ?_
  refine lv_sipush (v := (250 : Int32)) hx hb dX10_init_211 (by decide) ?_
  refine j_row C hA I hin iOk_24 (by decide) _ rfl _ rfl kM_6 kM_30 rfl rfl (by decide +kernel) (by decide) rfl (Nat.le_of_ble_eq_true rfl) ⟨Nat.le_of_ble_eq_true rfl, Nat.le_of_ble_eq_true rfl⟩ 214 dX10_init_214 rfl dX10_init_216 (fun q24 H locs I => ?_)
  refine lv_aload_n hx hb dX10_init_219 rfl (lv_at hl 0 rfl) ?_
  refine lv_sipush (v := (600 : Int32)) hx hb dX10_init_220 (by decide) ?_
  refine j_row C hA I hin iOk_25 (by decide) _ rfl _ rfl kM_6 kM_31 rfl rfl (by decide +kernel) (by decide) rfl (Nat.le_of_ble_eq_true rfl) ⟨Nat.le_of_ble_eq_true rfl, Nat.le_of_ble_eq_true rfl⟩ 223 dX10_init_223 rfl dX10_init_225 (fun q25 H locs I => ?_)
  refine lv_aload_n hx hb dX10_init_228 rfl (lv_at hl 0 rfl) ?_
  refine lv_sipush (v := (600 : Int32)) hx hb dX10_init_229 (by decide) ?_
  refine j_row C hA I hin iOk_26 (by decide) _ rfl _ rfl kM_6 kM_32 rfl rfl (by decide +kernel) (by decide) rfl (Nat.le_of_ble_eq_true rfl) ⟨Nat.le_of_ble_eq_true rfl, Nat.le_of_ble_eq_true rfl⟩ 232 dX10_init_232 rfl dX10_init_234 (fun q26 H locs I => ?_)
  refine lv_aload_n hx hb dX10_init_237 rfl (lv_at hl 0 rfl) ?_
  refine lv_sipush (v := (250 : Int32)) hx hb dX10_init_238 (by decide) ?_
  refine j_row C hA I hin iOk_27 (by decide) _ rfl _ rfl kM_6 kM_33 rfl rfl (by decide +kernel) (by decide) rfl (Nat.le_of_ble_eq_true rfl) ⟨Nat.le_of_ble_eq_true rfl, Nat.le_of_ble_eq_true rfl⟩ 241 dX10_init_241 rfl dX10_init_243 (fun q27 H locs I => ?_)
  refine lv_aload_n hx hb dX10_init_246 rfl (lv_at hl 0 rfl) ?_
  refine lv_iconst (v := (-1 : Int32)) hx hb dX10_init_247 (by decide) ?_
  refine j_int C I mInt_37 (fun _ => rfl) kM_34 248 dX10_init_248 (fun H locs I => ?_)
  refine lv_aload_n hx hb dX10_init_251 rfl (lv_at hl 0 rfl) ?_
  refine lv_bipush (v := (48 : Int32)) hx hb dX10_init_252 (by decide) ?_
  refine j_row C hA I hin iOk_28 (by decide) _ rfl _ rfl kM_3 kM_35 rfl rfl (by decide +kernel) (by decide) rfl (Nat.le_of_ble_eq_true rfl) ⟨Nat.le_of_ble_eq_true rfl, Nat.le_of_ble_eq_true rfl⟩ 254 dX10_init_254 rfl dX10_init_256 (fun q28 H locs I => ?_)
  refine lv_aload_n hx hb dX10_init_259 rfl (lv_at hl 0 rfl) ?_
  refine lv_bipush (v := (48 : Int32)) hx hb dX10_init_260 (by decide) ?_
  refine j_row C hA I hin iOk_29 (by decide) _ rfl _ rfl kM_3 kM_36 rfl rfl (by decide +kernel) (by decide) rfl (Nat.le_of_ble_eq_true rfl) ⟨Nat.le_of_ble_eq_true rfl, Nat.le_of_ble_eq_true rfl⟩ 262 dX10_init_262 rfl dX10_init_264 (fun q29 H locs I => ?_)
  refine lv_aload_n hx hb dX10_init_267 rfl (lv_at hl 0 rfl) ?_
  refine lv_bipush (v := (48 : Int32)) hx hb dX10_init_268 (by decide) ?_
  refine j_row C hA I hin iOk_30 (by decide) _ rfl _ rfl kM_6 kM_37 rfl rfl (by decide +kernel) (by decide) rfl (Nat.le_of_ble_eq_true rfl) ⟨Nat.le_of_ble_eq_true rfl, Nat.le_of_ble_eq_true rfl⟩ 270 dX10_init_270 rfl dX10_init_272 (fun q30 H locs I => ?_)
  refine lv_aload_n hx hb dX10_init_275 rfl (lv_at hl 0 rfl) ?_
  refine lv_bipush (v := (48 : Int32)) hx hb dX10_init_276 (by decide) ?_
  refine j_row C hA I hin iOk_31 (by decide) _ rfl _ rfl kM_6 kM_38 rfl rfl (by decide +kernel) (by decide) rfl (Nat.le_of_ble_eq_true rfl) ⟨Nat.le_of_ble_eq_true rfl, Nat.le_of_ble_eq_true rfl⟩ 278 dX10_init_278 rfl dX10_init_280 (fun q31 H locs I => ?_)
  refine lv_aload_n hx hb dX10_init_283 rfl (lv_at hl 0 rfl) ?_
  refine lv_bipush (v := (48 : Int32)) hx hb dX10_init_284 (by decide) ?_
  refine j_row C hA I hin iOk_32 (by decide) _ rfl _ rfl kM_6 kM_39 rfl rfl (by decide +kernel) (by decide) rfl (Nat.le_of_ble_eq_true rfl) ⟨Nat.le_of_ble_eq_true rfl, Nat.le_of_ble_eq_true rfl⟩ 286 dX10_init_286 rfl dX10_init_288 (fun q32 H locs I => ?_)
  refine lv_aload_n hx hb dX10_init_291 rfl (lv_at hl 0 rfl) ?_
  refine lv_bipush (v := (48 : Int32)) hx hb dX10_init_292 (by decide) ?_
  refine j_row C hA I hin iOk_33 (by decide) _ rfl _ rfl kM_6 kM_40 rfl rfl (by decide +kernel) (by decide) rfl (Nat.le_of_ble_eq_true rfl) ⟨Nat.le_of_ble_eq_true rfl, Nat.le_of_ble_eq_true rfl⟩ 294 dX10_init_294 rfl dX10_init_296 (fun q33 H locs I => ?_)
  refine lv_aload_n hx hb dX10_init_299 rfl (lv_at hl 0 rfl) ?_
  refine lv_bipush (v := (48 : Int32)) hx hb dX10_init_300 (by decide) ?_
  refine j_row C hA I hin iOk_34 (by decide) _ rfl _ rfl kM_6 kM_41 rfl rfl (by decide +kernel) (by decide) rfl (Nat.le_of_ble_eq_true rfl) ⟨Nat.le_of_ble_eq_true rfl, Nat.le_of_ble_eq_true rfl⟩ 302 dX10_init_302 rfl dX10_init_304 (fun q34 H locs I => ?_)
  refine lv_aload_n hx hb dX10_init_307 rfl (lv_at hl 0 rfl) ?_
  refine lv_bipush (v := (48 : Int32)) hx hb dX10_init_308 (by decide) ?_
  refine j_row C hA I hin iOk_35 (by decide) _ rfl _ rfl kM_6 kM_42 rfl rfl (by decide +kernel) (by decide) rfl (Nat.le_of_ble_eq_true rfl) ⟨Nat.le_of_ble_eq_true rfl, Nat.le_of_ble_eq_true rfl⟩ 310 dX10_init_310 rfl dX10_init_312 (fun q35 H locs I => ?_)
  refine lv_aload_n hx hb dX10_init_315 rfl (lv_at hl 0 rfl) ?_
  refine lv_bipush (v := (48 : Int32)) hx hb dX10_init_316 (by decide) ?_
  refine j_row C hA I hin iOk_36 (by decide) _ rfl _ rfl kM_6 kM_43 rfl rfl (by decide +kernel) (by decide) rfl (Nat.le_of_ble_eq_true rfl) ⟨Nat.le_of_ble_eq_true rfl, Nat.le_of_ble_eq_true rfl⟩ 318 dX10_init_318 rfl dX10_init_320 (fun q36 H locs I => ?_)
  refine lv_aload_n hx hb dX10_init_323 rfl (lv_at hl 0 rfl) ?_
  refine lv_sipush (v := (900 : Int32)) hx hb dX10_init_324 (by decide) ?_
  refine j_row C hA I hin iOk_37 (by decide) _ rfl _ rfl kM_6 kM_44 rfl rfl (by decide +kernel) (by decide) rfl (Nat.le_of_ble_eq_true rfl) ⟨Nat.le_of_ble_eq_true rfl, Nat.le_of_ble_eq_true rfl⟩ 327 dX10_init_327 rfl dX10_init_329 (fun q37 H locs I => ?_)
  refine lv_aload_n hx hb dX10_init_332 rfl (lv_at hl 0 rfl) ?_
  refine lv_sipush (v := (900 : Int32)) hx hb dX10_init_333 (by decide) ?_
  refine j_row C hA I hin iOk_38 (by decide) _ rfl _ rfl kM_6 kM_45 rfl rfl (by decide +kernel) (by decide) rfl (Nat.le_of_ble_eq_true rfl) ⟨Nat.le_of_ble_eq_true rfl, Nat.le_of_ble_eq_true rfl⟩ 336 dX10_init_336 rfl dX10_init_338 (fun q38 H locs I => ?_)
  refine lv_aload_n hx hb dX10_init_341 rfl (lv_at hl 0 rfl) ?_
  refine lv_sipush (v := (900 : Int32)) hx hb dX10_init_342 (by decide) ?_
  refine j_row C hA I hin iOk_39 (by decide) _ rfl _ rfl kM_6 kM_46 rfl rfl (by decide +kernel) (by decide) rfl (Nat.le_of_ble_eq_true rfl) ⟨Nat.le_of_ble_eq_true rfl, Nat.le_of_ble_eq_true rfl⟩ 345 dX10_init_345 rfl dX10_init_347 (fun q39 H locs I => ?_)
  refine lv_aload_n hx hb dX10_init_350 rfl (lv_at hl 0 rfl) ?_
  refine lv_sipush (v := (15840 : Int32)) hx hb dX10_init_351 (by decide) ?_
  refine j_row C hA I hin iOk_40 (by decide) _ rfl _ rfl kM_6 kM_47 rfl rfl (by decide +kernel) (by decide) rfl (Nat.le_of_ble_eq_true rfl) ⟨Nat.le_of_ble_eq_true rfl, Nat.le_of_ble_eq_true rfl⟩ 354 dX10_init_354 rfl dX10_init_356 (fun q40 H locs I => ?_)
  refine lv_aload_n hx hb dX10_init_359 rfl (lv_at hl 0 rfl) ?_
  refine lv_sipush (v := (192 : Int32)) hx hb dX10_init_360 (by decide) ?_
  refine j_row C hA I hin iOk_41 (by decide) _ rfl _ rfl kM_6 kM_48 rfl rfl (by decide +kernel) (by decide) rfl (Nat.le_of_ble_eq_true rfl) ⟨Nat.le_of_ble_eq_true rfl, Nat.le_of_ble_eq_true rfl⟩ 363 dX10_init_363 rfl dX10_init_365 (fun q41 H locs I => ?_)
  refine lv_aload_n hx hb dX10_init_368 rfl (lv_at hl 0 rfl) ?_
  refine lv_sipush (v := (400 : Int32)) hx hb dX10_init_369 (by decide) ?_
  refine j_row C hA I hin iOk_42 (by decide) _ rfl _ rfl kM_6 kM_49 rfl rfl (by decide +kernel) (by decide) rfl (Nat.le_of_ble_eq_true rfl) ⟨Nat.le_of_ble_eq_true rfl, Nat.le_of_ble_eq_true rfl⟩ 372 dX10_init_372 rfl dX10_init_374 (fun q42 H locs I => ?_)
  refine lv_aload_n hx hb dX10_init_377 rfl (lv_at hl 0 rfl) ?_
  refine lv_sipush (v := (192 : Int32)) hx hb dX10_init_378 (by decide) ?_
  refine j_row C hA I hin iOk_43 (by decide) _ rfl _ rfl kM_3 kM_50 rfl rfl (by decide +kernel) (by decide) rfl (Nat.le_of_ble_eq_true rfl) ⟨Nat.le_of_ble_eq_true rfl, Nat.le_of_ble_eq_true rfl⟩ 381 dX10_init_381 rfl dX10_init_383 (fun q43 H locs I => ?_)
  refine lv_aload_n hx hb dX10_init_386 rfl (lv_at hl 0 rfl) ?_
  refine lv_bipush (v := (48 : Int32)) hx hb dX10_init_387 (by decide) ?_
  refine j_row C hA I hin iOk_44 (by decide) _ rfl _ rfl kM_3 kM_51 rfl rfl (by decide +kernel) (by decide) rfl (Nat.le_of_ble_eq_true rfl) ⟨Nat.le_of_ble_eq_true rfl, Nat.le_of_ble_eq_true rfl⟩ 389 dX10_init_389 rfl dX10_init_391 (fun q44 H locs I => ?_)
  refine lv_aload_n hx hb dX10_init_394 rfl (lv_at hl 0 rfl) ?_
  refine lv_bipush (v := (48 : Int32)) hx hb dX10_init_395 (by decide) ?_
  refine j_row C hA I hin iOk_45 (by decide) _ rfl _ rfl kM_6 kM_52 rfl rfl (by decide +kernel) (by decide) rfl (Nat.le_of_ble_eq_true rfl) ⟨Nat.le_of_ble_eq_true rfl, Nat.le_of_ble_eq_true rfl⟩ 397 dX10_init_397 rfl dX10_init_399 (fun q45 H locs I => ?_)
  refine lv_aload_n hx hb dX10_init_402 rfl (lv_at hl 0 rfl) ?_
  refine lv_bipush (v := (48 : Int32)) hx hb dX10_init_403 (by decide) ?_
  refine j_row C hA I hin iOk_46 (by decide) _ rfl _ rfl kM_6 kM_53 rfl rfl (by decide +kernel) (by decide) rfl (Nat.le_of_ble_eq_true rfl) ⟨Nat.le_of_ble_eq_true rfl, Nat.le_of_ble_eq_true rfl⟩ 405 dX10_init_405 rfl dX10_init_407 (fun q46 H locs I => ?_)
  refine lv_aload_n hx hb dX10_init_410 rfl (lv_at hl 0 rfl) ?_
  refine lv_bipush (v := (48 : Int32)) hx hb dX10_init_411 (by decide) ?_
  refine j_row C hA I hin iOk_47 (by decide) _ rfl _ rfl kM_6 kM_54 rfl rfl (by decide +kernel) (by decide) rfl (Nat.le_of_ble_eq_true rfl) ⟨Nat.le_of_ble_eq_true rfl, Nat.le_of_ble_eq_true rfl⟩ 413 dX10_init_413 rfl dX10_init_415 (fun q47 H locs I => ?_)
  refine lv_aload_n hx hb dX10_init_418 rfl (lv_at hl 0 rfl) ?_
  refine lv_bipush (v := (48 : Int32)) hx hb dX10_init_419 (by decide) ?_
  refine j_row C hA I hin iOk_48 (by decide) _ rfl _ rfl kM_6 kM_55 rfl rfl (by decide +kernel) (by decide) rfl (Nat.le_of_ble_eq_true rfl) ⟨Nat.le_of_ble_eq_true rfl, Nat.le_of_ble_eq_true rfl⟩ 421 dX10_init_421 rfl dX10_init_423 (fun q48 H locs I => ?_)
  refine lv_aload_n hx hb dX10_init_426 rfl (lv_at hl 0 rfl) ?_
  refine lv_sipush (v := (900 : Int32)) hx hb dX10_init_427 (by decide) ?_
  refine j_row C hA I hin iOk_49 (by decide) _ rfl _ rfl kM_6 kM_56 rfl rfl (by decide +kernel) (by decide) rfl (Nat.le_of_ble_eq_true rfl) ⟨Nat.le_of_ble_eq_true rfl, Nat.le_of_ble_eq_true rfl⟩ 430 dX10_init_430 rfl dX10_init_432 (fun q49 H locs I => ?_)
  refine lv_aload_n hx hb dX10_init_435 rfl (lv_at hl 0 rfl) ?_
  refine lv_sipush (v := (900 : Int32)) hx hb dX10_init_436 (by decide) ?_
  refine j_row C hA I hin iOk_50 (by decide) _ rfl _ rfl kM_6 kM_57 rfl rfl (by decide +kernel) (by decide) rfl (Nat.le_of_ble_eq_true rfl) ⟨Nat.le_of_ble_eq_true rfl, Nat.le_of_ble_eq_true rfl⟩ 439 dX10_init_439 rfl dX10_init_441 (fun q50 H locs I => ?_)
  refine lv_aload_n hx hb dX10_init_444 rfl (lv_at hl 0 rfl) ?_
  refine lv_sipush (v := (900 : Int32)) hx hb dX10_init_445 (by decide) ?_
  refine j_row C hA I hin iOk_51 (by decide) _ rfl _ rfl kM_6 kM_58 rfl rfl (by decide +kernel) (by decide) rfl (Nat.le_of_ble_eq_true rfl) ⟨Nat.le_of_ble_eq_true rfl, Nat.le_of_ble_eq_true rfl⟩ 448 dX10_init_448 rfl dX10_init_450 (fun q51 H locs I => ?_)
  refine lv_aload_n hx hb dX10_init_453 rfl (lv_at hl 0 rfl) ?_
  refine lv_sipush (v := (15840 : Int32)) hx hb dX10_init_454 (by decide) ?_
  refine j_row C hA I hin iOk_52 (by decide) _ rfl _ rfl kM_6 kM_59 rfl rfl (by decide +kernel) (by decide) rfl (Nat.le_of_ble_eq_true rfl) ⟨Nat.le_of_ble_eq_true rfl, Nat.le_of_ble_eq_true rfl⟩ 457 dX10_init_457 rfl dX10_init_459 (fun q52 H locs I => ?_)
  refine j_ret C I ?_ hr ⟨Nat.le_of_ble_eq_true rfl, Nat.le_of_ble_eq_true rfl⟩ 462 dX10_init_462
  exact ⟨_, rfl⟩
