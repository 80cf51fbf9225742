-- a row of codes is made
theorem va_at_app {ws ws' : va_W} {k : Nat} {q : Nat × va_E} (h : ws[k]? = some q) : (ws ++ ws')[k]? = some q := by
  rw [List.getElem?_append_left (List.getElem?_eq_some_iff.mp h).1]
  exact h
theorem va_at_last {ws : va_W} {q : Nat × va_E} : (ws ++ [q])[ws.length]? = some q := by simp
theorem va_set_last {ws : va_W} {q y : Nat × va_E} : (ws ++ [q]).set ws.length y = ws ++ [y] := by simp
def rV : kG → Nat → Option Value := fun g j => some (.ref (g.2.2.2.1 j))
/-- a new row of codes, of length n -/
def nV (S : kS) (n : Nat) (f : Nat → Int32) : kS := (S.1, S.2.1, S.2.2.1, S.2.2.2.1, kn S, kF S, kC S, km S + 1, va_up (kl S) (km S) n, va_up (kx S) (km S) f, kp S, kE S)
theorem kW_nV (g : kG) (S : kS) (q n : Nat) (f : Nat → Int32) (hC : ∀ k, kC S k ≠ some (km S)) : (kW g S ++ [((q, .inl (g.1 0, n, .inl f)) : Nat × va_E)]).Perm (kW (g.1, g.2.1, g.2.2.1, va_up g.2.2.2.1 (km S) q, g.2.2.2.2) (nV S n f)) := by
  have e1 : kVc g.1 (va_up g.2.2.2.1 (km S) q) (nV S n f) = kVc g.1 g.2.2.2.1 S ++ [((q, .inl (g.1 0, n, .inl f)) : Nat × va_E)] := by
    unfold kVc
    rw [show km (nV S n f) = km S + 1 from rfl, List.range_succ, List.map_append]
    congr 1
    · apply List.map_congr_left
      intro j hj
      have hj' : j ≠ km S := Nat.ne_of_lt (List.mem_range.mp hj)
      show ((va_up g.2.2.2.1 (km S) q j, .inl (g.1 0, va_up (kl S) (km S) n j, .inl (va_up (kx S) (km S) f j))) : Nat × va_E) = _
      simp only [va_up, if_neg hj']
    · show [((va_up g.2.2.2.1 (km S) q (km S), .inl (g.1 0, va_up (kl S) (km S) n (km S), .inl (va_up (kx S) (km S) f (km S)))) : Nat × va_E)] = _
      simp only [va_up_self]
  have e2 : kUc g.2.2.1 (va_up g.2.2.2.1 (km S) q) (nV S n f) = kUc g.2.2.1 g.2.2.2.1 S := by
    unfold kUc
    rw [show kn (nV S n f) = kn S from rfl]
    apply List.map_congr_left
    intro k hk
    have e3 : (kC S k).map (va_up g.2.2.2.1 (km S) q) = (kC S k).map g.2.2.2.1 := by
      cases h : kC S k with
      | none => rfl
      | some j =>
        have : j ≠ km S := fun z => hC k (by rw [h, z])
        simp [va_up, this]
    show ((g.2.2.1 k, .inr (3, [.int (kF S k 0), .int (kF S k 1), .int (kF S k 2), .int (kF S k 3), .int (kF S k 4), va_rf ((kC S k).map (va_up g.2.2.2.1 (km S) q)), .int (kF S k 6), .int (kF S k 7), .int (kF S k 8)])) : Nat × va_E) = _
    rw [e3]
    rfl
  have e4 : kEc g.1 g.2.2.1 g.2.2.2.2 (nV S n f) = kEc g.1 g.2.2.1 g.2.2.2.2 S := rfl
  unfold kW
  show (kFx g.1 g.2.1 S g.2.2.2.2 _ ++ _).Perm (kFx g.1 g.2.1 S g.2.2.2.2 (kUc g.2.2.1 (va_up g.2.2.2.1 (km S) q) (nV S n f) ++ (kVc g.1 (va_up g.2.2.2.1 (km S) q) (nV S n f) ++ kEc g.1 g.2.2.1 g.2.2.2.2 (nV S n f))))
  rw [e1, e2, e4, kFx_app, kFx_app g.1 g.2.1 S g.2.2.2.2 (_ ++ ((_ ++ _) ++ _)), List.append_assoc]
  refine List.Perm.append_left _ ?_
  rw [List.append_assoc, List.append_assoc, List.append_assoc]
  exact List.Perm.append_left _ (List.Perm.append_left _ List.perm_append_comm)
/-- no change has a row of codes that is none yet -/
noncomputable def gVn {γ : Type} (S : kS) (K : Option γ) : Option γ := @ite (Option γ) (∀ k, kC S k ≠ some (km S)) (Classical.propDecidable _) K none
theorem gVn_some {γ : Type} {S : kS} {K : Option γ} {r : γ} (h : gVn S K = some r) : (∀ k, kC S k ≠ some (km S)) ∧ K = some r := by
  unfold gVn at h
  by_cases hc : ∀ k, kC S k ≠ some (km S)
  · rw [if_pos hc] at h; exact ⟨hc, h⟩
  · rw [if_neg hc] at h; cases h
/-- the class of rows of ints is one -/
theorem kA0_nm {D : va_G} {cl : List vw_C} {g : kG} {s : State} (h : va_K D cl (kTy g) s) : s.vm.findClass "[I" = some (g.1 0) := (h.2 0 (g.1 0, .int) rfl).2
theorem kA0_eq {D : va_G} {cl : List vw_C} {g : kG} {s : State} {cA : ClassId} (h : va_K D cl (kTy g ++ [(cA, .int)]) s) : cA = g.1 0 := by
  have h1 : s.vm.findClass "[I" = some (g.1 0) := (h.2 0 (g.1 0, .int) rfl).2
  have h2 : s.vm.findClass "[I" = some cA := (h.2 4 (cA, .int) rfl).2
  exact Option.some.inj (h2.symm.trans h1)
theorem kA3_nm {D : va_G} {cl : List vw_C} {g : kG} {s : State} (h : va_K D cl (kTy g) s) : s.vm.findClass "[Ljava/lang/Object;" = some (g.1 3) := by
  obtain ⟨kA, comp, h1, h2, h3, h4⟩ := (h.2 3 (g.1 3, .object "java/lang/Object") rfl).2
  exact h4
theorem kA3_eq {D : va_G} {cl : List vw_C} {g : kG} {s : State} {cA : ClassId} (h : va_K D cl (kTy g ++ [(cA, .object "java/lang/Object")]) s) : cA = g.1 3 := by
  obtain ⟨kA, comp, h1, h2, h3, h4⟩ := (h.2 3 (g.1 3, .object "java/lang/Object") rfl).2
  obtain ⟨kA', comp', h1', h2', h3', h4'⟩ := (h.2 4 (cA, .object "java/lang/Object") rfl).2
  exact Option.some.inj (h4'.symm.trans h4)
theorem vp_cell_fitI {cA : ClassId} {n : Nat} {f : Nat → Int32} (i : Nat) (v : Value) (h : (vp_cell cA (n, .inl f)).slots[i]? = some v) : fits .int v = true := by
  have hl := (Array.getElem?_eq_some_iff.mp h).1
  have hl2 : i < n := by rw [show vp_cell cA (n, .inl f) = arrV cA n (fun j => .int (f j)) from rfl, arrV_size] at hl; exact hl
  have h2 : (vp_cell cA (n, .inl f)).slots[i]? = some (.int (f i)) := arrV_read cA (fun j => .int (f j)) hl2
  rw [h2] at h
  cases h
  rfl
section RT
variable {p : Program} {l : Launch} {e : Env} {s : State} {m : MethodId} {args : Array Value} {below : List Frame} {meth : Method} {c : Code} {H : Heap} {locs : List Loc} {cells slots : Nat} {R : Room}
variable {cc : ByteArray} {nL : Nat} {ls : Array Slot} {rest : List Value} {dC : Nat → ClassId} {dI : Nat → Nat → Nat} {G g : kG} {A : Nat → Prop} {S S0 Si Sf : kS} {own : String} {γ : Type} {Rg : kG → γ → Option Value} {o : γ ⊕ Nat} {sz MC MS : Nat}
/-- an answer that is a cell -/
theorem x_reta {cC cD : Nat → Nat} {cE a : Nat} {v : γ} {rt : FieldType} (X : kX p s m meth c cc nL args own dC dI (g.1, g.2.1, cC, cD, cE) (kAt g (kn Si) (km Si) (kp Si) sz)) (I : kV dC dI (g.1, g.2.1, cC, cD, cE) (kAt g (kn Si) (km Si) (kp Si) sz) s S0 S H locs) (hc : kGc g cC cE Si S0) (hr : meth.sig.returnType = some rt) (hrt : (∃ n, rt = .object n) ∨ ∃ t, rt = .array t) (hcm : cells ≤ MC ∧ slots ≤ MS) (pc : Nat) (hdg : decode cc pc = .ok (.areturn, 1)) (hRv : Rg (g.1, g.2.1, cC, cD, cE) v = some (.ref a)) (hpf : some ((.inl v : γ ⊕ Nat), S) = some (o, Sf)) :
    W p l e R s m args below meth c H locs cells slots (vx_MQ below (kQx dC dI g sz Si Rg o Sf) (kXx dC dI g sz Si o Sf) args s MC MS (kAt g (kn Si) (km Si) (kp Si) sz)) (F0 m pc ls [.ref a]) := by
  cases hpf
  exact W.widen hcm.1 hcm.2 (vx_ret (W.aret X.1 X.2.1 hr hrt (Or.inr ⟨_, rfl⟩) (fun t ht hW => x_end I hc hRv.symm ht) I.2.2.1.2.2 hdg X.2.2.2.2.2.2.1))
end RT
abbrev cpI (n : Int32) : Prop := n < (0 : Int32) ∨ ¬ n < (12 : Int32) ∨ 12 < n.toNatClampNeg
/-- copyOf(codes, n): the drafted codes' first n -/
noncomputable def pJ7_copyOf_59c91 (N : Nat) (n : Int32) (S : kS) : Option ((Nat ⊕ Nat) × kS) :=
  if n = (12 : Int32) then gVn S (some (.inl (km S), nV S 12 (kA S 6)))
  else if cpI n then none else gVn S (some (.inl (km S), nV S n.toNatClampNeg (va_cpy (kA S 6) (fun _ => 0) 0 0 n.toNatClampNeg)))
set_option maxRecDepth 100000 in
set_option maxHeartbeats 4000000 in
theorem c_J7_copyOf_59c91 (l : Launch) (hlt : l.stackTraces = false) (N : Nat) (x1 : Int32) : kMx l yJ7_copyOf_59c91 cJ7_copyOf_59c91 3 (some (.array .int)) 1 1 12 (fun g => [.ref (g.2.1 6), .int x1]) rV (pJ7_copyOf_59c91 N x1) := by
  refine xStart hlt RJ7 (by decide +kernel) rfl (fun g => [(0, .ref (g.2.1 6)), (1, .int x1)]) (fun _ => Nat.le_of_ble_eq_true rfl) (fun _ => rfl) ?_
  intro dC dI g sz Si o Sf hpf p e s m args below meth c X XX hr H locs I hc ls hl
  have hx := X.1
  have hb := X.2.1
  have h5 := X.2.2.2.2.1
  have h6 := X.2.2.2.2.2.1
  unfold pJ7_copyOf_59c91 at hpf
  refine lv_iload_n hx hb dJ7_copyOf_59c91_0 rfl (lv_at hl 1 rfl) ?_
  refine lv_aload_n hx hb dJ7_copyOf_59c91_1 rfl (lv_at hl 0 rfl) ?_
  refine k_lenI X I kR_6 2 dJ7_copyOf_59c91_2 (12 : Int32) (by decide) ?_
  refine b_icmp_ne hx hb 14 3 dJ7_copyOf_59c91_3 (by decide) hpf (fun hpf => ?_) (fun hpf => ?_)
  · by_cases hg : cpI x1
    · rw [if_pos hg] at hpf; cases hpf
    rw [if_neg hg] at hpf
    have hg1 : ¬ x1 < (0 : Int32) := fun q => hg (Or.inl q)
    have hg2 : x1 < (12 : Int32) := Classical.byContradiction fun q => hg (Or.inr (Or.inl q))
    have hg3 : x1.toNatClampNeg ≤ 12 := Nat.not_lt.mp fun q => hg (Or.inr (Or.inr q))
    obtain ⟨hV, hpf⟩ := gVn_some hpf
    refine lv_iload_n hx hb dJ7_copyOf_59c91_14 rfl (lv_at hl 1 rfl) ?_
    refine va_newa (atype := .int) (a0 := (x1.toNatClampNeg, .inl (fun _ => 0))) (N' := x1.toNatClampNeg) hx hb (h5 _ kC_14) rfl h6 I.1 I.2.1 I.2.2.1 X.2.2.2.2.2.2.2 (fun _ => rfl) hg1 rfl (by show _ * 4 ≤ _; omega) (Nat.le_refl _) (by show 0 + _ ≤ 12; omega) dJ7_copyOf_59c91_15 (fun q cA H1 hK1 hP1 hD1 hS1 => ?_)
    have hcA := kA0_eq hK1
    subst hcA
    refine lv_astore_n (lv' := [(2, .ref q), (0, .ref (g.2.1 6)), (1, .int x1)]) hx hb dJ7_copyOf_59c91_17 rfl hl (by decide) rfl (fun ls hl => ?_)
    refine lv_aload_n hx hb dJ7_copyOf_59c91_18 rfl (lv_at hl 1 rfl) ?_
    refine lv_iconst (v := (0 : Int32)) hx hb dJ7_copyOf_59c91_19 (by decide) ?_
    refine lv_aload_n hx hb dJ7_copyOf_59c91_20 rfl (lv_at hl 0 rfl) ?_
    refine lv_iconst (v := (0 : Int32)) hx hb dJ7_copyOf_59c91_21 (by decide) ?_
    refine lv_aload_n hx hb dJ7_copyOf_59c91_22 rfl (lv_at hl 1 rfl) ?_
    refine va_alen hx hb hK1 hP1 6 0 (va_at_app (kR_6 g Si).1) (ty := .int) rfl (v := (12 : Int32)) (by show Int32.ofNat 12 = 12; decide) dJ7_copyOf_59c91_23 ?_
    refine lv_iload_n hx hb dJ7_copyOf_59c91_24 rfl (lv_at hl 2 rfl) ?_
    refine k_min (d := 1) ⟨Nat.le_refl _, Nat.le_refl _⟩ (by decide) X hl.1 kC_30 kC_31 kC_32 kC_33 25 dJ7_copyOf_59c91_25 (Nat.le_of_ble_eq_true rfl) ⟨Nat.le_refl _, (by show 0 + _ ≤ 12; omega)⟩ ?_
    rw [if_pos hg2]
    have hnf : nativeFrameWords "java/lang/System" "arraycopy" 5 + 11 ≤ 32 := by decide +kernel
    refine va_copyi hx hb (by rw [X.2.2.1]; exact hl.1.symm) X.2.2.2.1 (h5 _ kC_34) (h5 _ kC_35) (h5 _ kC_36) (h5 _ kC_37) hK1 hP1 hD1 hS1 6 (kW g Si).length 0 0 (va_at_app (kR_6 g Si).1) va_at_last (ty := .int) rfl rfl rfl (sp := 0) (dp := 0) (n := x1) (by decide) (by decide) hg1 (by show 0 + _ ≤ 12; omega) (by show 0 + _ ≤ _; omega) (fun i _ => rfl) (by show 1 ≤ 1; exact Nat.le_refl _) (by show 0 + _ ≤ 40; omega) dJ7_copyOf_59c91_28 (fun H2 locs2 hP2 hD2 hS2 => ?_)
    rw [va_set_last] at hP2 hD2
    have hp := kW_nV g Si q x1.toNatClampNeg (va_cpy (kA Si 6) (fun _ => 0) 0 0 x1.toNatClampNeg) hV
    refine lv_aload_n hx hb dJ7_copyOf_59c91_31 rfl (lv_at hl 0 rfl) ?_
    exact x_reta (cD := va_up g.2.2.2.1 (km Si) q) (kX_to X g.2.2.1 (va_up g.2.2.2.1 (km Si) q) g.2.2.2.2) ⟨va_P_of hP2 (fun z hz => hp.mem_iff.mpr hz), va_D_perm hD2 hp, hS2, kSm.rf⟩ ⟨Nat.le_refl _, fun _ _ => rfl, fun h => ⟨h, rfl⟩⟩ hr (Or.inr ⟨_, rfl⟩) ⟨Nat.le_refl _, (by show 0 + _ ≤ 12; omega)⟩ 32 dJ7_copyOf_59c91_32 (by show some (Value.ref (va_up g.2.2.2.1 (km Si) q (km Si))) = _; rw [va_up_self]) hpf
  · obtain ⟨hV, hpf⟩ := gVn_some hpf
    refine lv_aload_n hx hb dJ7_copyOf_59c91_6 rfl (lv_at hl 0 rfl) ?_
    refine va_clone hx hb (by rw [X.2.2.1]; exact hl.1.symm) X.2.2.2.1 (h5 _ kC_24) (h5 _ kC_25) (h5 _ kC_26) (h5 _ kC_27) (h5 _ kC_28) XX.2.2.1.2.2.2.1 h6 I.1 I.2.1 I.2.2.1 X.2.2.2.2.2.2.2 6 0 (kR_6 g Si).1 (ty := .int) rfl (kA0_nm h6) (fun i v h => vp_cell_fitI i v h) (by show 1 ≤ 1; exact Nat.le_refl _) (by show 0 + 14 ≤ 40; decide) (Nat.le_refl _) (Nat.le_refl _) dJ7_copyOf_59c91_7 (fun q H1 hK1 hP1 hD1 hS1 => ?_)
    refine va_castA hx hb X.2.2.2.1 (h5 _ kC_29) hP1 (kW g Si).length va_at_last (kA0_nm h6) dJ7_copyOf_59c91_10 ?_
    have hp := kW_nV g Si q 12 (kA Si 6) hV
    exact x_reta (cD := va_up g.2.2.2.1 (km Si) q) (kX_to X g.2.2.1 (va_up g.2.2.2.1 (km Si) q) g.2.2.2.2) ⟨va_P_of hP1 (fun z hz => hp.mem_iff.mpr hz), va_D_perm hD1 hp, hS1, kSm.rf⟩ ⟨Nat.le_refl _, fun _ _ => rfl, fun h => ⟨h, rfl⟩⟩ hr (Or.inr ⟨_, rfl⟩) ⟨Nat.le_refl _, Nat.le_refl _⟩ 13 dJ7_copyOf_59c91_13 (by show some (Value.ref (va_up g.2.2.2.1 (km Si) q (km Si))) = _; rw [va_up_self]) hpf
