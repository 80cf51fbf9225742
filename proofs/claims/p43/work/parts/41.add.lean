-- the log takes a change
section XR
variable {p : Program} {l : Launch} {e : Env} {s : State} {m : MethodId} {args : Array Value} {below : List Frame} {meth : Method} {c : Code} {H : Heap} {locs : List Loc} {cells slots : Nat} {R : Room}
variable {cc : ByteArray} {nL : Nat} {ls : Array Slot} {rest : List Value} {dC : Nat → ClassId} {dI : Nat → Nat → Nat} {G g : kG} {A : Nat → Prop} {S S0 Si Sf : kS} {own : String} {γ : Type} {Rg : kG → γ → Option Value} {o : γ ⊕ Nat} {sz MC MS : Nat}
theorem x_callL {cC cD : Nat → Nat} {cE : Nat} {α : Type} {y : MethodName} {b : ByteArray} {nl n index d2 d mc ms : Nat} {ret : Option FieldType} {Av : kG → List Value} {Rv : kG → α → Option Value} {f : kS → Option ((α ⊕ Nat) × kS)} {K : α → kS → Option ((γ ⊕ Nat) × kS)} {st0 : List Value} {As : List Value}
    (hR : d ≤ R.frames ∧ 40 * d ≤ R.locals) (X : kX p s m meth c cc nL args own dC dI (g.1, g.2.1, cC, cD, cE) (kAt g (kn Si) (km Si) (kp Si) sz)) (XX : kXX l s c g Si (kAt g (kn Si) (km Si) (kp Si) sz)) (I : kV dC dI (g.1, g.2.1, cC, cD, cE) (kAt g (kn Si) (km Si) (kp Si) sz) s S0 S H locs) (hc : kGc g cC cE Si S0) (F : kFnI own y b nl ret n index) (hcn : y.cls = RJx4a65c) (hM : kMx l y b nl ret d2 mc ms Av Rv f) (hAv : Av (g.1, g.2.1, cC, cD, cE) = .ref (g.2.1 17) :: As) (hd : d2 + 1 ≤ d) (pc : Nat) (hdg : decode cc pc = .ok (.invokevirtual index, 3)) (hn : As.length = n) (hsz : ls.size = nL)
    (hst : st0 = As.reverse ++ .ref (g.2.1 17) :: rest) (hW : (rest.map fun v => v.category).sum ≤ 8) (hcs : cells + mc ≤ R.cells ∧ slots + ms ≤ R.slots) (hcm : cells + mc ≤ MC ∧ slots + ms ≤ MS)
    (hpf : bx (f S) K = some (o, Sf)) (kk : ∀ (v : α) (S1 : kS) (cc2 cd2 : Nat → Nat) (ce2 : Nat) (H1 : Heap) (locs1 : List Loc), kV dC dI (g.1, g.2.1, cc2, cd2, ce2) (kAt g (kn Si) (km Si) (kp Si) sz) s S1 S1 H1 locs1 → kGc g cc2 ce2 Si S1 → kGc (g.1, g.2.1, cC, cD, cE) cc2 ce2 S S1 → K v S1 = some (o, Sf) → W p l e R s m args below meth c H1 locs1 (cells + mc) (slots + ms) (vx_MQ below (kQx dC dI g sz Si Rg o Sf) (kXx dC dI g sz Si o Sf) args s MC MS (kAt g (kn Si) (km Si) (kp Si) sz)) (F0 m (pc + 3) ls ((Rv (g.1, g.2.1, cc2, cd2, ce2) v).toList ++ rest))) :
    W p l e R s m args below meth c H locs cells slots (vx_MQ below (kQx dC dI g sz Si Rg o Sf) (kXx dC dI g sz Si o Sf) args s MC MS (kAt g (kn Si) (km Si) (kp Si) sz)) (F0 m pc ls st0) := by
  obtain ⟨h1, h2, h3, h4, h5, h6, h7, h8⟩ := id X
  obtain ⟨⟨x1, x2, x4, x5, x6⟩, x7, x8⟩ := F
  obtain ⟨w, S1, hf, hk⟩ := bx_some hpf
  exact x_back I.2.2.1.1 X XX I hc hcm hk (vx_runV (Ts := wsC) (own := own) (C := y.cls) (As := As) (rest := rest) ⟨h1, h2, h3, h4, h5⟩ (hM dC dI (g.1, g.2.1, cC, cD, cE) H.size S w S1 hf) ⟨callB_of n h5 (kGoodC x4) rfl rfl rfl (h5 _ x2) (h5 _ x1) x5 (xRoom hR hd x6), h5 _ x7, h5 _ x8⟩ ⟨xBlind, (by rw [hcn]; exact va_recv (q := (RJx4a65c, TJx4a65c, 3)) h6 I.1 rfl (kO_L (g.1, g.2.1, cC, cD, cE) S)), fun U hU hW2 => by rw [hAv]; exact xPre X XX I hc hU hW2⟩ rfl hn hsz hst (lv_room hW) hdg hcs) (fun v cc2 cd2 ce2 H1 locs1 I1 g1 g2 hk1 => kk v S1 cc2 cd2 ce2 H1 locs1 I1 g1 g2 hk1)
end XR
def pLog_rng (i : Int32) (S : kS) : Option (Unit × kS) := if kI S 12 < i then none else if 0 ≤ i then some ((), S) else none
set_option maxRecDepth 100000 in
set_option maxHeartbeats 4000000 in
theorem c_Log_rng (l : Launch) (x1 : Int32) : kMet l yJx4a65c_rangeCheckForAdd_d00df cJx4a65c_rangeCheckForAdd_d00df 2 none 0 (fun g => [.ref (g.2.1 17), .int x1]) rU (pLog_rng x1) := by
  refine kStart RJx4a65c (by decide +kernel) rfl (fun g => [(0, .ref (g.2.1 17)), (1, .int x1)]) (fun _ => Nat.le_of_ble_eq_true rfl) (fun _ => rfl) ?_
  intro dC dI g sz Si r Sf hpf p e s m args below meth c X hr H locs I ls hl
  have hx := X.1
  have hb := X.2.1
  unfold pLog_rng at hpf
  refine lv_iload_n hx hb dJx4a65c_rangeCheckForAdd_d00df_0 rfl (lv_at hl 1 rfl) ?_
  refine lv_aload_n hx hb dJx4a65c_rangeCheckForAdd_d00df_1 rfl (lv_at hl 0 rfl) ?_
  refine k_getL X I 2 (by decide) rfl rfl kC_507 2 dJx4a65c_rangeCheckForAdd_d00df_2 ?_
  refine b_icmp_gt hx hb 12 5 dJx4a65c_rangeCheckForAdd_d00df_5 (by decide) hpf (fun hpf => nomatch hpf) (fun hpf => ?_)
  refine lv_iload_n hx hb dJx4a65c_rangeCheckForAdd_d00df_8 rfl (lv_at hl 1 rfl) ?_
  refine b_if_ge hx hb 25 9 dJx4a65c_rangeCheckForAdd_d00df_9 (by decide) hpf (fun hpf => ?_) (fun hpf => nomatch hpf)
  exact k_retv X I hr 25 dJx4a65c_rangeCheckForAdd_d00df_25 hpf
noncomputable def pGrow0 (S : kS) : Option ((Unit ⊕ Nat) × kS) := bx (pGrow (kI S 12 + 1) S) fun v S1 => some (.inl v, S1)
set_option maxRecDepth 100000 in
set_option maxHeartbeats 4000000 in
theorem c_Log_grow0 (l : Launch) (hlt : l.stackTraces = false) : kMx l yJx4a65c_grow_d5877 cJx4a65c_grow_d5877 1 (some (.array (.object "java/lang/Object"))) 4 1 366 (fun g => [.ref (g.2.1 17)]) rE pGrow0 := by
  refine xStart hlt RJx4a65c (by decide +kernel) rfl (fun g => [(0, .ref (g.2.1 17))]) (fun _ => Nat.le_of_ble_eq_true rfl) (fun _ => rfl) ?_
  intro dC dI g sz Si o Sf hpf p e s m args below meth c X XX hr H locs I hc ls hl
  have hx := X.1
  have hb := X.2.1
  unfold pGrow0 at hpf
  refine lv_aload_n hx hb dJx4a65c_grow_d5877_0 rfl (lv_at hl 0 rfl) ?_
  refine lv_aload_n hx hb dJx4a65c_grow_d5877_1 rfl (lv_at hl 0 rfl) ?_
  refine k_getL X I 2 (by decide) rfl rfl kC_507 2 dJx4a65c_grow_d5877_2 ?_
  refine lv_iconst (v := (1 : Int32)) hx hb dJx4a65c_grow_d5877_5 (by decide) ?_
  refine lv_iadd hx hb dJx4a65c_grow_d5877_6 ?_
  refine x_callL (rest := []) (As := [.int (kI Si 12 + 1)]) (d := 4) ⟨Nat.le_refl _, Nat.le_refl _⟩ X XX I hc fn_Jx4a65c_Jx4a65c_grow_92f84 rfl (c_Log_growN l hlt (kI Si 12 + 1)) rfl (by decide) 7 dJx4a65c_grow_d5877_7 rfl hl.1 rfl (Nat.le_of_ble_eq_true rfl) ⟨Nat.le_refl _, Nat.le_refl _⟩ ⟨Nat.le_refl _, Nat.le_refl _⟩ hpf (fun v S1 cc2 cd2 ce2 H locs I hc hg hpf => ?_)
  exact x_reta (kX_to X cc2 cd2 ce2) I hc hr (Or.inr ⟨_, rfl⟩) ⟨Nat.le_refl _, Nat.le_refl _⟩ 10 dJx4a65c_grow_d5877_10 rfl hpf
/-- what the log's row holds -/
def sEr (S : kS) (f : Nat → Option Nat) : kS := (S.1, S.2.1, S.2.2.1, S.2.2.2.1, kn S, kF S, kC S, km S, kl S, kx S, kp S, f)
theorem kP_E (g : kG) (S : kS) (f : Nat → Option Nat) (hp : kp S ≠ 0) : (kW g S).set (101 + (kn S + km S)) (g.2.2.2.2, .inl (g.1 3, kp S, .inr (.inr (.inr (.inr (fun i => (f i).map g.2.2.1)))))) = kW g (sEr S f) := by
  unfold kW
  have hl : (kUc g.2.2.1 g.2.2.2.1 S).length = kn S := by unfold kUc; simp
  have hl2 : (kVc g.1 g.2.2.2.1 S).length = km S := by unfold kVc; simp
  rw [kFx_set, List.set_append_right _ _ (by rw [hl]; omega), hl, show kn S + km S - kn S = km S by omega, List.set_append_right _ _ (by rw [hl2]; exact Nat.le_refl _), hl2, Nat.sub_self]
  have e1 : kEc g.1 g.2.2.1 g.2.2.2.2 S = [(g.2.2.2.2, .inl (g.1 3, kp S, .inr (.inr (.inr (.inr (fun i => (kE S i).map g.2.2.1))))))] := by unfold kEc; rw [if_neg hp]
  have e2 : kEc g.1 g.2.2.1 g.2.2.2.2 (sEr S f) = [(g.2.2.2.2, .inl (g.1 3, kp S, .inr (.inr (.inr (.inr (fun i => (f i).map g.2.2.1))))))] := by unfold kEc; rw [show kp (sEr S f) = kp S from rfl, if_neg hp]; rfl
  rw [e1, e2]
  rfl
theorem va_cpy_map {α β : Type} (f : Nat → Option α) (h : α → β) (sp dp n : Nat) : va_cpy (fun i => (f i).map h) (fun i => (f i).map h) sp dp n = fun i => (va_cpy f f sp dp n i).map h := by
  funext i
  unfold va_cpy
  split <;> rfl
theorem va_up_map {α β : Type} (f : Nat → Option α) (h : α → β) (i : Nat) (k : α) : va_up (fun i => (f i).map h) i (some (h k)) = fun j => (va_up f i (some k) j).map h := by
  funext j
  unfold va_up
  split <;> rfl
def kOkA (S : kS) (i y : Int32) (k : Nat) : Prop := kp S ≠ 0 ∧ ¬ i < 0 ∧ ¬ i + 1 < 0 ∧ ¬ y - i < 0 ∧ i.toNatClampNeg + (y - i).toNatClampNeg ≤ kp S ∧ (i + 1).toNatClampNeg + (y - i).toNatClampNeg ≤ kp S ∧ ¬ kp S ≤ i.toNatClampNeg ∧ k < kn S ∧ ∀ j, j < (y - i).toNatClampNeg → ∀ q, kE S (i.toNatClampNeg + j) = some q → q < kn S
noncomputable def pLog_add_38 (i y : Int32) (k : Nat) (S : kS) : Option ((Unit ⊕ Nat) × kS) :=
  gP (kOkA S i y k) <| svk (sEr S (va_cpy (kE S) (kE S) i.toNatClampNeg (i + 1).toNatClampNeg (y - i).toNatClampNeg)) fun S1 =>
  svk (sEr S1 (va_up (kE S1) i.toNatClampNeg (some k))) fun S2 =>
  svk (sI S2 12 (y + 1)) fun S3 => some (.inl (), S3)
noncomputable def pLog_add (i : Int32) (k : Nat) (S : kS) : Option ((Unit ⊕ Nat) × kS) :=
  bk (pLog_rng i S) fun _ S1 => svk (sI S1 11 (kI S1 11 + 1)) fun S2 => gP (k < kn S2) <|
  if kI S2 12 = Int32.ofNat (kp S2) then bx (pGrow0 S2) fun _ S3 => pLog_add_38 i (kI S2 12) k S3 else pLog_add_38 i (kI S2 12) k S2
set_option maxRecDepth 100000 in
set_option maxHeartbeats 4000000 in
theorem c_Log_add (l : Launch) (hlt : l.stackTraces = false) (x1 : Int32) (n2 : Nat) : kMx l yJx4a65c_add_7a177 cJx4a65c_add_7a177 5 none 5 1 366 (fun g => [.ref (g.2.1 17), .int x1, .ref (g.2.2.1 n2)]) rU (pLog_add x1 n2) := by
  refine xStart hlt RJx4a65c (by decide +kernel) rfl (fun g => [(0, .ref (g.2.1 17)), (1, .int x1), (2, .ref (g.2.2.1 n2))]) (fun _ => Nat.le_of_ble_eq_true rfl) (fun _ => rfl) ?_
  intro dC dI g sz Si o Sf hpf p e s m args below meth c X XX hr H locs I hc ls hl
  have hx := X.1
  have hb := X.2.1
  have h5 := X.2.2.2.2.1
  have h6 := X.2.2.2.2.2.1
  have hN : kNw s := XX.2.2.1.2.2.2
  unfold pLog_add at hpf
  have hC_38 : ∀ (y : Int32) (cC cD : Nat → Nat) (cE : Nat) (S S0 : kS), n2 < kn Si → kGc g cC cE Si S0 → kX p s m meth c cJx4a65c_add_7a177 5 args RJx4a65c dC dI (g.1, g.2.1, cC, cD, cE) (kAt g (kn Si) (km Si) (kp Si) sz) → ∀ (H : Heap) (locs : List Loc), kV dC dI (g.1, g.2.1, cC, cD, cE) (kAt g (kn Si) (km Si) (kp Si) sz) s S0 S H locs → ∀ ls : Array Slot, lv_has ls 5 [(4, .ref cE), (0, .ref (g.2.1 17)), (1, .int x1), (2, .ref (g.2.2.1 n2)), (3, .int y)] → pLog_add_38 x1 y n2 S = some (o, Sf) → W p l e (xRm 5 1 366) s m args below meth c H locs 1 366 (vx_MQ below (kQx dC dI g sz Si rU o Sf) (kXx dC dI g sz Si o Sf) args s 1 366 (kAt g (kn Si) (km Si) (kp Si) sz)) (F0 m 38 ls []) := by
    intro y cC cD cE S S0 hn2 hc X H locs I ls hl hpf
    unfold pLog_add_38 at hpf
    obtain ⟨⟨o1, o2, o3, o4, o5, o6, o7, o8, o9⟩, hpf⟩ := gP_some hpf
    have hck : cC n2 = g.2.2.1 n2 := (hc.sm I.2.2.2).2.1 n2 hn2
    refine lv_aload hx hb dJx4a65c_add_7a177_38 (lv_at hl 0 rfl) ?_
    refine lv_iload_n hx hb dJx4a65c_add_7a177_40 rfl (lv_at hl 2 rfl) ?_
    refine lv_aload hx hb dJx4a65c_add_7a177_41 (lv_at hl 0 rfl) ?_
    refine lv_iload_n hx hb dJx4a65c_add_7a177_43 rfl (lv_at hl 2 rfl) ?_
    refine lv_iconst (v := (1 : Int32)) hx hb dJx4a65c_add_7a177_44 (by decide) ?_
    refine lv_iadd hx hb dJx4a65c_add_7a177_45 ?_
    refine lv_iload_n hx hb dJx4a65c_add_7a177_46 rfl (lv_at hl 4 rfl) ?_
    refine lv_iload_n hx hb dJx4a65c_add_7a177_47 rfl (lv_at hl 2 rfl) ?_
    refine lv_isub hx hb dJx4a65c_add_7a177_48 ?_
    have hnf : nativeFrameWords "java/lang/System" "arraycopy" 5 + 11 ≤ 32 := by decide +kernel
    refine va_copyM hx hb (by rw [X.2.2.1]; exact hl.1.symm) X.2.2.2.1 (h5 _ kC_542) (h5 _ kC_35) (h5 _ kC_36) (h5 _ kC_37) h6 I.1 I.2.1 I.2.2.1 _ _ 3 3 (kO_E (g.1, g.2.1, cC, cD, cE) S o1) (kO_E (g.1, g.2.1, cC, cD, cE) S o1) rfl rfl o2 o3 o4 o5 o6 (fun i hi y hy => ?_) (by show 1 ≤ 5; decide) (by show 0 + _ ≤ 200; omega) dJx4a65c_add_7a177_49 (fun H1 locs1 hP hD hS => ?_)
    · cases hk : kE S (x1.toNatClampNeg + i) with
      | none => rw [hk] at hy; cases hy
      | some k =>
        rw [hk] at hy
        cases hy
        exact k_anyU (g := (g.1, g.2.1, cC, cD, cE)) (ws := []) h6 (by rw [List.append_nil]; exact I.1) hN (o9 i hi k hk)
    · rw [va_cpy_map (kE S) cC, kP_E (g.1, g.2.1, cC, cD, cE) S _ o1] at hP hD
      refine lv_aload hx hb dJx4a65c_add_7a177_52 (lv_at hl 0 rfl) ?_
      refine lv_iload_n hx hb dJx4a65c_add_7a177_54 rfl (lv_at hl 2 rfl) ?_
      refine lv_aload_n hx hb dJx4a65c_add_7a177_55 rfl (lv_at hl 3 rfl) ?_
      rw [← hck]
      refine va_astqM hx hb h6 hP hD hS _ 3 (kO_E (g.1, g.2.1, cC, cD, cE) (sEr S (va_cpy (kE S) (kE S) x1.toNatClampNeg (x1 + 1).toNatClampNeg (y - x1).toNatClampNeg)) o1) rfl (k_anyU (g := (g.1, g.2.1, cC, cD, cE)) (S := sEr S (va_cpy (kE S) (kE S) x1.toNatClampNeg (x1 + 1).toNatClampNeg (y - x1).toNatClampNeg)) (ws := []) h6 (by rw [List.append_nil]; exact hP) hN o8) (fun h => h.elim o2 o7) dJx4a65c_add_7a177_56 (fun H2 locs2 hP hD hS => ?_)
      rw [va_up_map, kP_E (g.1, g.2.1, cC, cD, cE) (sEr S (va_cpy (kE S) (kE S) x1.toNatClampNeg (x1 + 1).toNatClampNeg (y - x1).toNatClampNeg)) _ o1] at hP hD
      refine lv_aload_n hx hb dJx4a65c_add_7a177_57 rfl (lv_at hl 1 rfl) ?_
      refine lv_iload_n hx hb dJx4a65c_add_7a177_58 rfl (lv_at hl 4 rfl) ?_
      refine lv_iconst (v := (1 : Int32)) hx hb dJx4a65c_add_7a177_59 (by decide) ?_
      refine lv_iadd hx hb dJx4a65c_add_7a177_60 ?_
      have I2 : kV dC dI (g.1, g.2.1, cC, cD, cE) (kAt g (kn Si) (km Si) (kp Si) sz) s S0 (sEr (sEr S (va_cpy (kE S) (kE S) x1.toNatClampNeg (x1 + 1).toNatClampNeg (y - x1).toNatClampNeg)) (va_up (kE (sEr S (va_cpy (kE S) (kE S) x1.toNatClampNeg (x1 + 1).toNatClampNeg (y - x1).toNatClampNeg))) x1.toNatClampNeg (some n2))) H2 locs2 := ⟨hP, hD, hS, kSm.trans (S' := S) ⟨rfl, rfl, rfl⟩ I.2.2.2⟩
      have hpf : svk (sI (sEr (sEr S (va_cpy (kE S) (kE S) x1.toNatClampNeg (x1 + 1).toNatClampNeg (y - x1).toNatClampNeg)) (va_up (kE (sEr S (va_cpy (kE S) (kE S) x1.toNatClampNeg (x1 + 1).toNatClampNeg (y - x1).toNatClampNeg))) x1.toNatClampNeg (some n2))) 12 (y + 1)) (fun S3 => some ((.inl () : Unit ⊕ Nat), S3)) = some (o, Sf) := hpf
      refine k_putL (S' := sI (sEr (sEr S (va_cpy (kE S) (kE S) x1.toNatClampNeg (x1 + 1).toNatClampNeg (y - x1).toNatClampNeg)) (va_up (kE (sEr S (va_cpy (kE S) (kE S) x1.toNatClampNeg (x1 + 1).toNatClampNeg (y - x1).toNatClampNeg))) x1.toNatClampNeg (some n2))) 12 (y + 1)) 2 (by decide) X I2 (fun _ h => h) rfl (by decide +kernel) rfl ⟨rfl, rfl, rfl⟩ kC_507 61 dJx4a65c_add_7a177_61 hpf (fun S1 H locs I hm hpf => ?_)
      exact x_retv X I hc hr ⟨Nat.le_refl _, Nat.le_refl _⟩ 64 dJx4a65c_add_7a177_64 hpf
  refine lv_aload_n hx hb dJx4a65c_add_7a177_0 rfl (lv_at hl 0 rfl) ?_
  refine lv_iload_n hx hb dJx4a65c_add_7a177_1 rfl (lv_at hl 1 rfl) ?_
  refine k_callL (Rv := rU) (rest := []) (As := [.int x1]) (d := 5) ⟨Nat.le_refl _, Nat.le_refl _⟩ X I fn_Jx4a65c_Jx4a65c_rangeCheckForAdd_d00df rfl (c_Log_rng l x1) rfl (by decide) 2 dJx4a65c_add_7a177_2 rfl hl.1 rfl (Nat.le_of_ble_eq_true rfl) ⟨Nat.zero_le _, Nat.zero_le _⟩ hpf (fun v S1 H locs I hm1 hpf => ?_)
  refine lv_aload_n hx hb dJx4a65c_add_7a177_5 rfl (lv_at hl 0 rfl) ?_
  refine lv_dup hx hb dJx4a65c_add_7a177_6 rfl ?_
  refine k_getMod X I kC_540 7 dJx4a65c_add_7a177_7 ?_
  refine lv_iconst (v := (1 : Int32)) hx hb dJx4a65c_add_7a177_10 (by decide) ?_
  refine lv_iadd hx hb dJx4a65c_add_7a177_11 ?_
  refine k_putL (S' := sI S1 11 (kI S1 11 + 1)) 0 (by decide) X I (k_sameMod h5) rfl (by decide +kernel) rfl ⟨rfl, rfl, rfl⟩ kC_540 12 dJx4a65c_add_7a177_12 hpf (fun S2 H locs I hm2 hpf => ?_)
  obtain ⟨hn2, hpf⟩ := gP_some hpf
  have hn2' : n2 < kn Si := by rw [← I.2.2.2.1]; exact hn2
  refine lv_aload_n hx hb dJx4a65c_add_7a177_15 rfl (lv_at hl 0 rfl) ?_
  refine k_getL X I 2 (by decide) rfl rfl kC_507 16 dJx4a65c_add_7a177_16 ?_
  refine lv_dup hx hb dJx4a65c_add_7a177_19 rfl ?_
  refine lv_istore_n (lv' := [(3, .int (kI S2 12)), (0, .ref (g.2.1 17)), (1, .int x1), (2, .ref (g.2.2.1 n2))]) hx hb dJx4a65c_add_7a177_20 rfl hl (by decide) rfl (fun ls hl => ?_)
  refine lv_aload_n hx hb dJx4a65c_add_7a177_21 rfl (lv_at hl 1 rfl) ?_
  refine k_getL X I 1 (by decide) rfl rfl kC_435 22 dJx4a65c_add_7a177_22 ?_
  refine lv_dup hx hb dJx4a65c_add_7a177_25 rfl ?_
  refine lv_astore (lv' := [(4, .ref g.2.2.2.2), (3, .int (kI S2 12)), (0, .ref (g.2.1 17)), (1, .int x1), (2, .ref (g.2.2.1 n2))]) hx hb dJx4a65c_add_7a177_26 hl (by decide) rfl (fun ls hl => ?_)
  refine k_lenE X I (by rw [I.2.2.2.2.2]; exact XX.2.2.2) 28 dJx4a65c_add_7a177_28 ?_
  refine b_icmp_ne hx hb 38 29 dJx4a65c_add_7a177_29 (by decide) hpf (fun hpf => ?_) (fun hpf => ?_)
  · refine W.widen (k := 1) (n := 366) (Nat.zero_le _) (Nat.zero_le _) ?_
    exact hC_38 (kI S2 12) g.2.2.1 g.2.2.2.1 g.2.2.2.2 S2 Si hn2' hc X H locs I ls (lv_sub hl [0, 2, 3, 4, 1] rfl) hpf
  · refine lv_aload_n hx hb dJx4a65c_add_7a177_32 rfl (lv_at hl 2 rfl) ?_
    refine x_callL (rest := []) (As := []) (d := 5) ⟨Nat.le_refl _, Nat.le_refl _⟩ X XX I hc fn_Jx4a65c_Jx4a65c_grow_d5877 rfl (c_Log_grow0 l hlt) rfl (by decide) 33 dJx4a65c_add_7a177_33 rfl hl.1 rfl (Nat.le_of_ble_eq_true rfl) ⟨Nat.le_refl _, Nat.le_refl _⟩ ⟨Nat.le_refl _, Nat.le_refl _⟩ hpf (fun v S3 cc2 cd2 ce2 H locs I hc hg hpf => ?_)
    have X := kX_to X cc2 cd2 ce2
    refine lv_astore (lv' := [(4, .ref ce2), (3, .int (kI S2 12)), (0, .ref (g.2.1 17)), (1, .int x1), (2, .ref (g.2.2.1 n2))]) hx hb dJx4a65c_add_7a177_36 hl (by decide) rfl (fun ls hl => ?_)
    exact hC_38 (kI S2 12) cc2 cd2 ce2 S3 S3 hn2' hc X H locs I ls (lv_sub hl [0, 2, 3, 4, 1] rfl) hpf
