/-! ===== BEGIN words of one list among another's, by their places ===== -/
theorem goodIn_r {big : List Cond} (ws : List Cond) (ps : List Nat) (hp : ws = ps.filterMap (fun i => big[i]?)) (h : ws.all goodWord = true) : GoodIn big ws := by
  intro w hw
  have h1 := List.all_eq_true.mp h w hw
  rw [hp] at hw
  obtain ⟨i, -, hi⟩ := List.mem_filterMap.mp hw
  have hm : w ∈ big := by first | exact List.mem_of_getElem? hi | exact List.getElem?_mem hi
  exact ⟨hm, good_of_word h1⟩
theorem goodIn_app {big a b : List Cond} (ha : GoodIn big a) (hb : GoodIn big b) : GoodIn big (a ++ b) := fun w h => (List.mem_append.mp h).elim (ha w) (hb w)
theorem goodIn_ca {big a b : List Cond} {c : Cond} (ha : GoodIn big (c :: a)) (hb : GoodIn big b) : GoodIn big (c :: (a ++ b)) := fun w h => (List.mem_cons.mp h).elim (fun e => ha w (List.mem_cons.mpr (Or.inl e))) (fun h => (List.mem_append.mp h).elim (fun h => ha w (List.mem_cons.mpr (Or.inr h))) (hb w))
theorem goodIn_sub {big ws : List Cond} (hm : ∀ w ∈ ws, w ∈ big) (h : ws.all goodWord = true) : GoodIn big ws := fun w hw => ⟨hm w hw, good_of_word (List.all_eq_true.mp h w hw)⟩
/-! ===== END ===== -/
def RX0 : String := "MasterTree$Change"
def TX0 : u_T := fun k => match k with
  | 0 => ("MasterTree$Change", "kind", "I", true)
  | 1 => ("MasterTree$Change", "entry", "I", true)
  | 2 => ("MasterTree$Change", "first", "I", true)
  | 3 => ("MasterTree$Change", "second", "I", true)
  | 4 => ("MasterTree$Change", "third", "I", true)
  | 5 => ("MasterTree$Change", "codes", "[I", false)
  | 6 => ("MasterTree$Change", "master", "I", false)
  | 7 => ("MasterTree$Change", "number", "I", false)
  | _ => ("MasterTree$Change", "stamp", "I", false)
def tyX0 : Nat → FieldType := fun k => match k with
  | 0 => .int
  | 1 => .int
  | 2 => .int
  | 3 => .int
  | 4 => .int
  | 5 => .array .int
  | 6 => .int
  | 7 => .int
  | _ => .int
abbrev wsX00 : List Cond := u_ws RX0 TX0 9
theorem nmX0 : ∀ a, a < 9 → ∀ b, b < 9 → a ≠ b → (TX0 a).2.1 ≠ (TX0 b).2.1 := by decide +kernel
theorem tyX0_ok : ∀ k, k < 9 → parseFieldDescriptor (TX0 k).2.2.1 = some (tyX0 k) := by decide +kernel
abbrev cX0_init : ByteArray := prog_2_method_1_code
def yX0_init : MethodName := ⟨RX0, "<init>", "(IIIII)V"⟩
abbrev cX0_rank : ByteArray := prog_2_method_2_code
def yX0_rank : MethodName := ⟨RX0, "rank", "()I"⟩
def RX1 : String := "MasterTree$Drafted"
def TX1 : u_T := fun k => match k with
  | 0 => ("MasterTree$Drafted", "schema", "LMasterTree$Schema;", true)
  | 1 => ("MasterTree$Drafted", "codes", "[I", true)
  | _ => ("MasterTree$Drafted", "count", "I", false)
def tyX1 : Nat → FieldType := fun k => match k with
  | 0 => .object "MasterTree$Schema"
  | 1 => .array .int
  | _ => .int
abbrev wsX10 : List Cond := u_ws RX1 TX1 3
theorem nmX1 : ∀ a, a < 3 → ∀ b, b < 3 → a ≠ b → (TX1 a).2.1 ≠ (TX1 b).2.1 := by decide +kernel
theorem tyX1_ok : ∀ k, k < 3 → parseFieldDescriptor (TX1 k).2.2.1 = some (tyX1 k) := by decide +kernel
abbrev cX1_init : ByteArray := prog_3_method_1_code
def yX1_init : MethodName := ⟨RX1, "<init>", "(LMasterTree$Schema;)V"⟩
abbrev cX1_put : ByteArray := prog_3_method_2_code
def yX1_put : MethodName := ⟨RX1, "put", "(I)I"⟩
abbrev cX1_take : ByteArray := prog_3_method_3_code
def yX1_take : MethodName := ⟨RX1, "take", "()[I"⟩
abbrev cX1_fits : ByteArray := prog_3_method_4_code
def yX1_fits : MethodName := ⟨RX1, "fits", "(I)Z"⟩
abbrev cX1_isMatchedBefore : ByteArray := prog_3_method_5_code
def yX1_isMatchedBefore : MethodName := ⟨RX1, "isMatchedBefore", "(I)Z"⟩
def RX2 : String := "MasterTree$Filter"
def TX2 : u_T := fun k => match k with
  | 0 => ("MasterTree$Filter", "schema", "LMasterTree$Schema;", true)
  | 1 => ("MasterTree$Filter", "kinds", "[I", true)
  | 2 => ("MasterTree$Filter", "lows", "[I", true)
  | 3 => ("MasterTree$Filter", "highs", "[I", true)
  | 4 => ("MasterTree$Filter", "sets", "[J", true)
  | 5 => ("MasterTree$Filter", "parts", "I", false)
  | _ => ("MasterTree$Filter", "filters", "I", false)
def tyX2 : Nat → FieldType := fun k => match k with
  | 0 => .object "MasterTree$Schema"
  | 1 => .array .int
  | 2 => .array .int
  | 3 => .array .int
  | 4 => .array .long
  | 5 => .int
  | _ => .int
abbrev wsX20 : List Cond := u_ws RX2 TX2 7
theorem nmX2 : ∀ a, a < 7 → ∀ b, b < 7 → a ≠ b → (TX2 a).2.1 ≠ (TX2 b).2.1 := by decide +kernel
theorem tyX2_ok : ∀ k, k < 7 → parseFieldDescriptor (TX2 k).2.2.1 = some (tyX2 k) := by decide +kernel
abbrev cX2_init : ByteArray := prog_4_method_1_code
def yX2_init : MethodName := ⟨RX2, "<init>", "(LMasterTree$Schema;)V"⟩
abbrev cX2_clear : ByteArray := prog_4_method_2_code
def yX2_clear : MethodName := ⟨RX2, "clear", "()V"⟩
abbrev cX2_putRange : ByteArray := prog_4_method_3_code
def yX2_putRange : MethodName := ⟨RX2, "putRange", "(III)I"⟩
abbrev cX2_putClass : ByteArray := prog_4_method_4_code
def yX2_putClass : MethodName := ⟨RX2, "putClass", "(I)I"⟩
abbrev cX2_putCombined : ByteArray := prog_4_method_5_code
def yX2_putCombined : MethodName := ⟨RX2, "putCombined", "(Z)I"⟩
abbrev cX2_putNot : ByteArray := prog_4_method_6_code
def yX2_putNot : MethodName := ⟨RX2, "putNot", "()I"⟩
abbrev cX2_put : ByteArray := prog_4_method_7_code
def yX2_put : MethodName := ⟨RX2, "put", "(IIII)I"⟩
abbrev cX2_applies : ByteArray := prog_4_method_8_code
def yX2_applies : MethodName := ⟨RX2, "applies", "(LMasterTree$Tree;I)Z"⟩
abbrev cX2_appliesTo : ByteArray := prog_4_method_9_code
def yX2_appliesTo : MethodName := ⟨RX2, "appliesTo", "(LMasterTree$Tree;)J"⟩
abbrev cX2_setOf : ByteArray := prog_4_method_10_code
def yX2_setOf : MethodName := ⟨RX2, "setOf", "(LMasterTree$Tree;I)J"⟩
def RX3 : String := "MasterTree$Finder"
def TX3 : u_T := fun k => match k with
  | 0 => ("MasterTree$Finder", "masters", "[LMasterTree$Master;", true)
  | 1 => ("MasterTree$Finder", "filter", "LMasterTree$Filter;", true)
  | 2 => ("MasterTree$Finder", "spots", "[I", true)
  | 3 => ("MasterTree$Finder", "count", "I", false)
  | 4 => ("MasterTree$Finder", "met", "[J", true)
  | 5 => ("MasterTree$Finder", "waiting", "[I", true)
  | 6 => ("MasterTree$Finder", "waitingCount", "I", false)
  | _ => ("MasterTree$Finder", "user", "I", false)
def tyX3 : Nat → FieldType := fun k => match k with
  | 0 => .array (.object "MasterTree$Master")
  | 1 => .object "MasterTree$Filter"
  | 2 => .array .int
  | 3 => .int
  | 4 => .array .long
  | 5 => .array .int
  | 6 => .int
  | _ => .int
abbrev wsX30 : List Cond := u_ws RX3 TX3 8
theorem nmX3 : ∀ a, a < 8 → ∀ b, b < 8 → a ≠ b → (TX3 a).2.1 ≠ (TX3 b).2.1 := by decide +kernel
theorem tyX3_ok : ∀ k, k < 8 → parseFieldDescriptor (TX3 k).2.2.1 = some (tyX3 k) := by decide +kernel
abbrev cX3_init : ByteArray := prog_5_method_1_code
def yX3_init : MethodName := ⟨RX3, "<init>", "([LMasterTree$Master;LMasterTree$Filter;)V"⟩
abbrev cX3_byIndex : ByteArray := prog_5_method_2_code
def yX3_byIndex : MethodName := ⟨RX3, "byIndex", "(III)I"⟩
abbrev cX3_isInScope : ByteArray := prog_5_method_3_code
def yX3_isInScope : MethodName := ⟨RX3, "isInScope", "(LMasterTree$Tree;III)Z"⟩
abbrev cX3_byWalk : ByteArray := prog_5_method_4_code
def yX3_byWalk : MethodName := ⟨RX3, "byWalk", "(III)I"⟩
abbrev cX3_byLinks : ByteArray := prog_5_method_5_code
def yX3_byLinks : MethodName := ⟨RX3, "byLinks", "(III)I"⟩
abbrev cX3_arriveFrom : ByteArray := prog_5_method_6_code
def yX3_arriveFrom : MethodName := ⟨RX3, "arriveFrom", "(I)I"⟩
abbrev cX3_lookAt : ByteArray := prog_5_method_7_code
def yX3_lookAt : MethodName := ⟨RX3, "lookAt", "(I)V"⟩
abbrev cX3_awaitChildrenOf : ByteArray := prog_5_method_8_code
def yX3_awaitChildrenOf : MethodName := ⟨RX3, "awaitChildrenOf", "(I)V"⟩
abbrev cX3_keep : ByteArray := prog_5_method_9_code
def yX3_keep : MethodName := ⟨RX3, "keep", "(I)V"⟩
def RX4 : String := "MasterTree$Master"
def TX4 : u_T := fun k => match k with
  | 0 => ("MasterTree$Master", "number", "I", true)
  | 1 => ("MasterTree$Master", "tree", "LMasterTree$Tree;", true)
  | 2 => ("MasterTree$Master", "user", "I", false)
  | 3 => ("MasterTree$Master", "dropped", "J", false)
  | 4 => ("MasterTree$Master", "greatestStamp", "I", false)
  | _ => ("MasterTree$Master", "told", "[I", true)
def tyX4 : Nat → FieldType := fun k => match k with
  | 0 => .int
  | 1 => .object "MasterTree$Tree"
  | 2 => .int
  | 3 => .long
  | 4 => .int
  | _ => .array .int
abbrev wsX40 : List Cond := u_ws RX4 TX4 6
theorem nmX4 : ∀ a, a < 6 → ∀ b, b < 6 → a ≠ b → (TX4 a).2.1 ≠ (TX4 b).2.1 := by decide +kernel
theorem tyX4_ok : ∀ k, k < 6 → parseFieldDescriptor (TX4 k).2.2.1 = some (tyX4 k) := by decide +kernel
abbrev cX4_init : ByteArray := prog_6_method_1_code
def yX4_init : MethodName := ⟨RX4, "<init>", "(ILMasterTree$Tree;)V"⟩
abbrev cX4_toldOf : ByteArray := prog_6_method_2_code
def yX4_toldOf : MethodName := ⟨RX4, "toldOf", "(II)I"⟩
abbrev cX4_isToldThatKnows : ByteArray := prog_6_method_3_code
def yX4_isToldThatKnows : MethodName := ⟨RX4, "isToldThatKnows", "(ILMasterTree$Change;)Z"⟩
abbrev cX4_hasGot : ByteArray := prog_6_method_4_code
def yX4_hasGot : MethodName := ⟨RX4, "hasGot", "(LMasterTree$Change;)Z"⟩
abbrev cX4_sign : ByteArray := prog_6_method_5_code
def yX4_sign : MethodName := ⟨RX4, "sign", "(LMasterTree$Change;)V"⟩
abbrev cX4_learn : ByteArray := prog_6_method_6_code
def yX4_learn : MethodName := ⟨RX4, "learn", "(LMasterTree$Change;)V"⟩
abbrev cX4_talkTo : ByteArray := prog_6_method_7_code
def yX4_talkTo : MethodName := ⟨RX4, "talkTo", "(LMasterTree$Master;)V"⟩
abbrev cX4_marked : ByteArray := prog_6_method_8_code
def yX4_marked : MethodName := ⟨RX4, "marked", "()J"⟩
def RX5 : String := "MasterTree$Numbers"
def TX5 : u_T := fun k => match k with
  | 0 => ("MasterTree$Numbers", "rows", "[I", true)
  | _ => ("MasterTree$Numbers", "size", "I", false)
def tyX5 : Nat → FieldType := fun k => match k with
  | 0 => .array .int
  | _ => .int
abbrev wsX50 : List Cond := u_ws RX5 TX5 2
theorem nmX5 : ∀ a, a < 2 → ∀ b, b < 2 → a ≠ b → (TX5 a).2.1 ≠ (TX5 b).2.1 := by decide +kernel
theorem tyX5_ok : ∀ k, k < 2 → parseFieldDescriptor (TX5 k).2.2.1 = some (tyX5 k) := by decide +kernel
abbrev cX5_init : ByteArray := prog_7_method_1_code
def yX5_init : MethodName := ⟨RX5, "<init>", "(I)V"⟩
abbrev cX5_clear : ByteArray := prog_7_method_2_code
def yX5_clear : MethodName := ⟨RX5, "clear", "()V"⟩
abbrev cX5_indexOf : ByteArray := prog_7_method_3_code
def yX5_indexOf : MethodName := ⟨RX5, "indexOf", "(I)I"⟩
abbrev cX5_countBetween : ByteArray := prog_7_method_4_code
def yX5_countBetween : MethodName := ⟨RX5, "countBetween", "(II)I"⟩
abbrev cX5_at : ByteArray := prog_7_method_5_code
def yX5_at : MethodName := ⟨RX5, "at", "(I)I"⟩
abbrev cX5_put : ByteArray := prog_7_method_6_code
def yX5_put : MethodName := ⟨RX5, "put", "(I)V"⟩
abbrev cX5_dropAt : ByteArray := prog_7_method_7_code
def yX5_dropAt : MethodName := ⟨RX5, "dropAt", "(I)V"⟩
def RX6 : String := "MasterTree$Rules"
def TX6 : u_T := fun k => match k with
  | 0 => ("MasterTree$Rules", "allows", "[J", true)
  | _ => ("MasterTree$Rules", "denies", "[J", true)
def tyX6 : Nat → FieldType := fun k => match k with
  | 0 => .array .long
  | _ => .array .long
abbrev wsX60 : List Cond := u_ws RX6 TX6 2
theorem nmX6 : ∀ a, a < 2 → ∀ b, b < 2 → a ≠ b → (TX6 a).2.1 ≠ (TX6 b).2.1 := by decide +kernel
theorem tyX6_ok : ∀ k, k < 2 → parseFieldDescriptor (TX6 k).2.2.1 = some (tyX6 k) := by decide +kernel
abbrev cX6_init : ByteArray := prog_8_method_1_code
def yX6_init : MethodName := ⟨RX6, "<init>", "()V"⟩
abbrev cX6_slot : ByteArray := prog_8_method_2_code
def yX6_slot : MethodName := ⟨RX6, "slot", "(III)I"⟩
abbrev cX6_clear : ByteArray := prog_8_method_3_code
def yX6_clear : MethodName := ⟨RX6, "clear", "()V"⟩
abbrev cX6_saidOf : ByteArray := prog_8_method_4_code
def yX6_saidOf : MethodName := ⟨RX6, "saidOf", "(II)I"⟩
abbrev cX6_say : ByteArray := prog_8_method_5_code
def yX6_say : MethodName := ⟨RX6, "say", "(III)V"⟩
abbrev cX6_decide : ByteArray := prog_8_method_6_code
def yX6_decide : MethodName := ⟨RX6, "decide", "(IIIIJ)I"⟩
abbrev cX6_decideFor : ByteArray := prog_8_method_8_code
def yX6_decideFor : MethodName := ⟨RX6, "decideFor", "(JJJ)I"⟩
abbrev cX6_bitOf : ByteArray := prog_8_method_9_code
def yX6_bitOf : MethodName := ⟨RX6, "bitOf", "(I)J"⟩
def RX7 : String := "MasterTree$Schema"
def TX7 : u_T := fun k => match k with
  | 0 => ("MasterTree$Schema", "attributes", "I", false)
  | 1 => ("MasterTree$Schema", "classes", "I", false)
  | 2 => ("MasterTree$Schema", "singles", "I", false)
  | 3 => ("MasterTree$Schema", "byTens", "I", false)
  | 4 => ("MasterTree$Schema", "parents", "[I", true)
  | 5 => ("MasterTree$Schema", "required", "[I", true)
  | _ => ("MasterTree$Schema", "allowed", "[I", true)
def tyX7 : Nat → FieldType := fun k => match k with
  | 0 => .int
  | 1 => .int
  | 2 => .int
  | 3 => .int
  | 4 => .array .int
  | 5 => .array .int
  | _ => .array .int
abbrev wsX70 : List Cond := u_ws RX7 TX7 7
theorem nmX7 : ∀ a, a < 7 → ∀ b, b < 7 → a ≠ b → (TX7 a).2.1 ≠ (TX7 b).2.1 := by decide +kernel
theorem tyX7_ok : ∀ k, k < 7 → parseFieldDescriptor (TX7 k).2.2.1 = some (tyX7 k) := by decide +kernel
abbrev cX7_init : ByteArray := prog_9_method_1_code
def yX7_init : MethodName := ⟨RX7, "<init>", "()V"⟩
abbrev cX7_newAttribute : ByteArray := prog_9_method_2_code
def yX7_newAttribute : MethodName := ⟨RX7, "newAttribute", "(ZZ)I"⟩
abbrev cX7_newClass : ByteArray := prog_9_method_3_code
def yX7_newClass : MethodName := ⟨RX7, "newClass", "(III)I"⟩
abbrev cX7_isClass : ByteArray := prog_9_method_4_code
def yX7_isClass : MethodName := ⟨RX7, "isClass", "(I)Z"⟩
abbrev cX7_isSetOfAttributes : ByteArray := prog_9_method_5_code
def yX7_isSetOfAttributes : MethodName := ⟨RX7, "isSetOfAttributes", "(I)Z"⟩
abbrev cX7_requiredBy : ByteArray := prog_9_method_6_code
def yX7_requiredBy : MethodName := ⟨RX7, "requiredBy", "(I)I"⟩
abbrev cX7_allowedBy : ByteArray := prog_9_method_7_code
def yX7_allowedBy : MethodName := ⟨RX7, "allowedBy", "(I)I"⟩
abbrev cX7_isRequired : ByteArray := prog_9_method_8_code
def yX7_isRequired : MethodName := ⟨RX7, "isRequired", "(II)Z"⟩
abbrev cX7_isAllowed : ByteArray := prog_9_method_9_code
def yX7_isAllowed : MethodName := ⟨RX7, "isAllowed", "(II)Z"⟩
abbrev cX7_isSingle : ByteArray := prog_9_method_10_code
def yX7_isSingle : MethodName := ⟨RX7, "isSingle", "(I)Z"⟩
abbrev cX7_isOrBeneath : ByteArray := prog_9_method_11_code
def yX7_isOrBeneath : MethodName := ⟨RX7, "isOrBeneath", "(II)Z"⟩
abbrev cX7_lowest : ByteArray := prog_9_method_12_code
def yX7_lowest : MethodName := ⟨RX7, "lowest", "(II)I"⟩
abbrev cX7_highest : ByteArray := prog_9_method_13_code
def yX7_highest : MethodName := ⟨RX7, "highest", "(II)I"⟩
abbrev cX7_isByTens : ByteArray := prog_9_method_14_code
def yX7_isByTens : MethodName := ⟨RX7, "isByTens", "(I)Z"⟩
def RX8 : String := "MasterTree$Tree"
def TX8 : u_T := fun k => match k with
  | 0 => ("MasterTree$Tree", "names", "[I", true)
  | 1 => ("MasterTree$Tree", "classes", "[I", true)
  | 2 => ("MasterTree$Tree", "links", "[I", true)
  | 3 => ("MasterTree$Tree", "rules", "LMasterTree$Rules;", true)
  | 4 => ("MasterTree$Tree", "schema", "LMasterTree$Schema;", true)
  | 5 => ("MasterTree$Tree", "parents", "[I", true)
  | 6 => ("MasterTree$Tree", "addRanks", "[I", true)
  | 7 => ("MasterTree$Tree", "codesByEntry", "LMasterTree$Numbers;", true)
  | 8 => ("MasterTree$Tree", "entriesByCode", "LMasterTree$Numbers;", true)
  | 9 => ("MasterTree$Tree", "ranked", "LMasterTree$Numbers;", true)
  | 10 => ("MasterTree$Tree", "added", "J", false)
  | _ => ("MasterTree$Tree", "deleted", "J", false)
def tyX8 : Nat → FieldType := fun k => match k with
  | 0 => .array .int
  | 1 => .array .int
  | 2 => .array .int
  | 3 => .object "MasterTree$Rules"
  | 4 => .object "MasterTree$Schema"
  | 5 => .array .int
  | 6 => .array .int
  | 7 => .object "MasterTree$Numbers"
  | 8 => .object "MasterTree$Numbers"
  | 9 => .object "MasterTree$Numbers"
  | 10 => .long
  | _ => .long
abbrev wsX80 : List Cond := u_ws RX8 TX8 12
theorem nmX8 : ∀ a, a < 12 → ∀ b, b < 12 → a ≠ b → (TX8 a).2.1 ≠ (TX8 b).2.1 := by decide +kernel
theorem tyX8_ok : ∀ k, k < 12 → parseFieldDescriptor (TX8 k).2.2.1 = some (tyX8 k) := by decide +kernel
abbrev cX8_init : ByteArray := prog_10_method_1_code
def yX8_init : MethodName := ⟨RX8, "<init>", "(LMasterTree$Schema;)V"⟩
abbrev cX8_clear : ByteArray := prog_10_method_2_code
def yX8_clear : MethodName := ⟨RX8, "clear", "()V"⟩
abbrev cX8_take : ByteArray := prog_10_method_3_code
def yX8_take : MethodName := ⟨RX8, "take", "(LMasterTree$Change;)V"⟩
abbrev cX8_takeAdd : ByteArray := prog_10_method_4_code
def yX8_takeAdd : MethodName := ⟨RX8, "takeAdd", "(LMasterTree$Change;)V"⟩
abbrev cX8_takeValue : ByteArray := prog_10_method_5_code
def yX8_takeValue : MethodName := ⟨RX8, "takeValue", "(III)V"⟩
abbrev cX8_takeRemoval : ByteArray := prog_10_method_6_code
def yX8_takeRemoval : MethodName := ⟨RX8, "takeRemoval", "(III)V"⟩
abbrev cX8_dropValues : ByteArray := prog_10_method_7_code
def yX8_dropValues : MethodName := ⟨RX8, "dropValues", "(IIII)V"⟩
abbrev cX8_living : ByteArray := prog_10_method_8_code
def yX8_living : MethodName := ⟨RX8, "living", "()J"⟩
abbrev cX8_deletedOnes : ByteArray := prog_10_method_9_code
def yX8_deletedOnes : MethodName := ⟨RX8, "deletedOnes", "()J"⟩
abbrev cX8_isLive : ByteArray := prog_10_method_10_code
def yX8_isLive : MethodName := ⟨RX8, "isLive", "(I)Z"⟩
abbrev cX8_comesTo : ByteArray := prog_10_method_11_code
def yX8_comesTo : MethodName := ⟨RX8, "comesTo", "(II)Z"⟩
abbrev cX8_placeOf : ByteArray := prog_10_method_12_code
def yX8_placeOf : MethodName := ⟨RX8, "placeOf", "(I)I"⟩
abbrev cX8_isAtOrBeneath : ByteArray := prog_10_method_13_code
def yX8_isAtOrBeneath : MethodName := ⟨RX8, "isAtOrBeneath", "(II)Z"⟩
abbrev cX8_shownName : ByteArray := prog_10_method_14_code
def yX8_shownName : MethodName := ⟨RX8, "shownName", "(I)I"⟩
abbrev cX8_isShown : ByteArray := prog_10_method_15_code
def yX8_isShown : MethodName := ⟨RX8, "isShown", "(III)Z"⟩
abbrev cX8_childrenAt : ByteArray := prog_10_method_16_code
def yX8_childrenAt : MethodName := ⟨RX8, "childrenAt", "(I)J"⟩
abbrev cX8_rankedAt : ByteArray := prog_10_method_17_code
def yX8_rankedAt : MethodName := ⟨RX8, "rankedAt", "(I)LMasterTree$Numbers;"⟩
abbrev cX8_valuesOf : ByteArray := prog_10_method_18_code
def yX8_valuesOf : MethodName := ⟨RX8, "valuesOf", "(II)I"⟩
abbrev cX8_matching : ByteArray := prog_10_method_19_code
def yX8_matching : MethodName := ⟨RX8, "matching", "(III)I"⟩
abbrev cX8_valuesBetween : ByteArray := prog_10_method_20_code
def yX8_valuesBetween : MethodName := ⟨RX8, "valuesBetween", "(III)I"⟩
abbrev cX8_valueNumbered : ByteArray := prog_10_method_21_code
def yX8_valueNumbered : MethodName := ⟨RX8, "valueNumbered", "(III)I"⟩
abbrev cX8_holdersBetween : ByteArray := prog_10_method_22_code
def yX8_holdersBetween : MethodName := ⟨RX8, "holdersBetween", "(II)J"⟩
abbrev cX8_isIncomplete : ByteArray := prog_10_method_23_code
def yX8_isIncomplete : MethodName := ⟨RX8, "isIncomplete", "(I)Z"⟩
abbrev cX8_grants : ByteArray := prog_10_method_24_code
def yX8_grants : MethodName := ⟨RX8, "grants", "(III)Z"⟩
def RX9 : String := "MasterTree"
def TX9 : u_T := fun k => match k with
  | 0 => ("MasterTree", "schema", "LMasterTree$Schema;", true)
  | 1 => ("MasterTree", "drafted", "LMasterTree$Drafted;", true)
  | 2 => ("MasterTree", "filter", "LMasterTree$Filter;", true)
  | 3 => ("MasterTree", "masters", "[LMasterTree$Master;", true)
  | 4 => ("MasterTree", "finder", "LMasterTree$Finder;", true)
  | 5 => ("MasterTree", "log", "Ljava/util/ArrayList;", true)
  | 6 => ("MasterTree", "anew", "LMasterTree$Tree;", true)
  | _ => ("MasterTree", "entries", "I", false)
def tyX9 : Nat → FieldType := fun k => match k with
  | 0 => .object "MasterTree$Schema"
  | 1 => .object "MasterTree$Drafted"
  | 2 => .object "MasterTree$Filter"
  | 3 => .array (.object "MasterTree$Master")
  | 4 => .object "MasterTree$Finder"
  | 5 => .object "java/util/ArrayList"
  | 6 => .object "MasterTree$Tree"
  | _ => .int
abbrev wsX90 : List Cond := u_ws RX9 TX9 8
theorem nmX9 : ∀ a, a < 8 → ∀ b, b < 8 → a ≠ b → (TX9 a).2.1 ≠ (TX9 b).2.1 := by decide +kernel
theorem tyX9_ok : ∀ k, k < 8 → parseFieldDescriptor (TX9 k).2.2.1 = some (tyX9 k) := by decide +kernel
abbrev cX9_init : ByteArray := prog_1_method_1_code
def yX9_init : MethodName := ⟨RX9, "<init>", "()V"⟩
abbrev cX9_attribute : ByteArray := prog_1_method_2_code
def yX9_attribute : MethodName := ⟨RX9, "attribute", "(ZZ)I"⟩
abbrev cX9_objectClass : ByteArray := prog_1_method_3_code
def yX9_objectClass : MethodName := ⟨RX9, "objectClass", "(III)I"⟩
abbrev cX9_serve : ByteArray := prog_1_method_4_code
def yX9_serve : MethodName := ⟨RX9, "serve", "(II)I"⟩
abbrev cX9_draft : ByteArray := prog_1_method_5_code
def yX9_draft : MethodName := ⟨RX9, "draft", "(II)I"⟩
abbrev cX9_undraft : ByteArray := prog_1_method_6_code
def yX9_undraft : MethodName := ⟨RX9, "undraft", "()I"⟩
abbrev cX9_add : ByteArray := prog_1_method_7_code
def yX9_add : MethodName := ⟨RX9, "add", "(IIII)I"⟩
abbrev cX9_addValue : ByteArray := prog_1_method_8_code
def yX9_addValue : MethodName := ⟨RX9, "addValue", "(IIII)I"⟩
abbrev cX9_removeValue : ByteArray := prog_1_method_9_code
def yX9_removeValue : MethodName := ⟨RX9, "removeValue", "(IIII)I"⟩
abbrev cX9_replace : ByteArray := prog_1_method_10_code
def yX9_replace : MethodName := ⟨RX9, "replace", "(IIII)I"⟩
abbrev cX9_rename : ByteArray := prog_1_method_11_code
def yX9_rename : MethodName := ⟨RX9, "rename", "(III)I"⟩
abbrev cX9_move : ByteArray := prog_1_method_12_code
def yX9_move : MethodName := ⟨RX9, "move", "(III)I"⟩
abbrev cX9_delete : ByteArray := prog_1_method_13_code
def yX9_delete : MethodName := ⟨RX9, "delete", "(II)I"⟩
abbrev cX9_link : ByteArray := prog_1_method_14_code
def yX9_link : MethodName := ⟨RX9, "link", "(III)I"⟩
abbrev cX9_rule : ByteArray := prog_1_method_15_code
def yX9_rule : MethodName := ⟨RX9, "rule", "(IIIIII)I"⟩
abbrev cX9_exchange : ByteArray := prog_1_method_16_code
def yX9_exchange : MethodName := ⟨RX9, "exchange", "(III)I"⟩
abbrev cX9_sweep : ByteArray := prog_1_method_17_code
def yX9_sweep : MethodName := ⟨RX9, "sweep", "(I)I"⟩
abbrev cX9_equal : ByteArray := prog_1_method_18_code
def yX9_equal : MethodName := ⟨RX9, "equal", "(II)I"⟩
abbrev cX9_atLeast : ByteArray := prog_1_method_19_code
def yX9_atLeast : MethodName := ⟨RX9, "atLeast", "(II)I"⟩
abbrev cX9_has : ByteArray := prog_1_method_20_code
def yX9_has : MethodName := ⟨RX9, "has", "(I)I"⟩
abbrev cX9_ofClass : ByteArray := prog_1_method_21_code
def yX9_ofClass : MethodName := ⟨RX9, "ofClass", "(I)I"⟩
abbrev cX9_combine : ByteArray := prog_1_method_22_code
def yX9_combine : MethodName := ⟨RX9, "combine", "(Z)I"⟩
abbrev cX9_not : ByteArray := prog_1_method_23_code
def yX9_not : MethodName := ⟨RX9, "not", "()I"⟩
abbrev cX9_wipe : ByteArray := prog_1_method_24_code
def yX9_wipe : MethodName := ⟨RX9, "wipe", "()I"⟩
abbrev cX9_search : ByteArray := prog_1_method_25_code
def yX9_search : MethodName := ⟨RX9, "search", "(III)I"⟩
abbrev cX9_searchByWalk : ByteArray := prog_1_method_26_code
def yX9_searchByWalk : MethodName := ⟨RX9, "searchByWalk", "(III)I"⟩
abbrev cX9_follow : ByteArray := prog_1_method_27_code
def yX9_follow : MethodName := ⟨RX9, "follow", "(III)I"⟩
abbrev cX9_found : ByteArray := prog_1_method_28_code
def yX9_found : MethodName := ⟨RX9, "found", "(I)I"⟩
abbrev cX9_live : ByteArray := prog_1_method_29_code
def yX9_live : MethodName := ⟨RX9, "live", "(I)I"⟩
abbrev cX9_parentOf : ByteArray := prog_1_method_30_code
def yX9_parentOf : MethodName := ⟨RX9, "parentOf", "(II)I"⟩
abbrev cX9_parentAnew : ByteArray := prog_1_method_31_code
def yX9_parentAnew : MethodName := ⟨RX9, "parentAnew", "(II)I"⟩
abbrev cX9_nameOf : ByteArray := prog_1_method_32_code
def yX9_nameOf : MethodName := ⟨RX9, "nameOf", "(II)I"⟩
abbrev cX9_valueAt : ByteArray := prog_1_method_33_code
def yX9_valueAt : MethodName := ⟨RX9, "valueAt", "(IIII)I"⟩
abbrev cX9_valuesAnew : ByteArray := prog_1_method_34_code
def yX9_valuesAnew : MethodName := ⟨RX9, "valuesAnew", "(III)I"⟩
abbrev cX9_linkOf : ByteArray := prog_1_method_35_code
def yX9_linkOf : MethodName := ⟨RX9, "linkOf", "(II)I"⟩
abbrev cX9_may : ByteArray := prog_1_method_36_code
def yX9_may : MethodName := ⟨RX9, "may", "(IIII)Z"⟩
abbrev cX9_childAt : ByteArray := prog_1_method_37_code
def yX9_childAt : MethodName := ⟨RX9, "childAt", "(III)I"⟩
abbrev cX9_conflicts : ByteArray := prog_1_method_38_code
def yX9_conflicts : MethodName := ⟨RX9, "conflicts", "(II)I"⟩
abbrev cX9_knows : ByteArray := prog_1_method_39_code
def yX9_knows : MethodName := ⟨RX9, "knows", "(II)I"⟩
abbrev cX9_marks : ByteArray := prog_1_method_40_code
def yX9_marks : MethodName := ⟨RX9, "marks", "(I)I"⟩
abbrev cX9_masterAt : ByteArray := prog_1_method_42_code
def yX9_masterAt : MethodName := ⟨RX9, "masterAt", "(I)LMasterTree$Master;"⟩
abbrev cX9_needUser : ByteArray := prog_1_method_43_code
def yX9_needUser : MethodName := ⟨RX9, "needUser", "(I)V"⟩
abbrev cX9_needEntry : ByteArray := prog_1_method_44_code
def yX9_needEntry : MethodName := ⟨RX9, "needEntry", "(LMasterTree$Master;I)V"⟩
abbrev cX9_needChangeable : ByteArray := prog_1_method_45_code
def yX9_needChangeable : MethodName := ⟨RX9, "needChangeable", "(LMasterTree$Master;I)V"⟩
abbrev cX9_needAttribute : ByteArray := prog_1_method_46_code
def yX9_needAttribute : MethodName := ⟨RX9, "needAttribute", "(I)V"⟩
abbrev cX9_needClass : ByteArray := prog_1_method_47_code
def yX9_needClass : MethodName := ⟨RX9, "needClass", "(I)V"⟩
abbrev cX9_needScope : ByteArray := prog_1_method_48_code
def yX9_needScope : MethodName := ⟨RX9, "needScope", "(I)V"⟩
abbrev cX9_needRight : ByteArray := prog_1_method_49_code
def yX9_needRight : MethodName := ⟨RX9, "needRight", "(I)V"⟩
abbrev cX9_needIndex : ByteArray := prog_1_method_50_code
def yX9_needIndex : MethodName := ⟨RX9, "needIndex", "(I)V"⟩
abbrev cX9_needValue : ByteArray := prog_1_method_51_code
def yX9_needValue : MethodName := ⟨RX9, "needValue", "(I)V"⟩
abbrev cX9_needName : ByteArray := prog_1_method_52_code
def yX9_needName : MethodName := ⟨RX9, "needName", "(I)V"⟩
abbrev cX9_need : ByteArray := prog_1_method_53_code
def yX9_need : MethodName := ⟨RX9, "need", "(Z)V"⟩
abbrev cX9_needRoom : ByteArray := prog_1_method_54_code
def yX9_needRoom : MethodName := ⟨RX9, "needRoom", "()V"⟩
abbrev cX9_needWrite : ByteArray := prog_1_method_55_code
def yX9_needWrite : MethodName := ⟨RX9, "needWrite", "(LMasterTree$Master;I)V"⟩
abbrev cX9_needFreeName : ByteArray := prog_1_method_56_code
def yX9_needFreeName : MethodName := ⟨RX9, "needFreeName", "(LMasterTree$Master;III)V"⟩
abbrev cX9_needRoomForFilter : ByteArray := prog_1_method_57_code
def yX9_needRoomForFilter : MethodName := ⟨RX9, "needRoomForFilter", "()V"⟩
abbrev cX9_needSearch : ByteArray := prog_1_method_58_code
def yX9_needSearch : MethodName := ⟨RX9, "needSearch", "(III)V"⟩
abbrev cX9_record : ByteArray := prog_1_method_59_code
def yX9_record : MethodName := ⟨RX9, "record", "(LMasterTree$Master;LMasterTree$Change;)V"⟩
abbrev cX9_redo : ByteArray := prog_1_method_60_code
def yX9_redo : MethodName := ⟨RX9, "redo", "(LMasterTree$Tree;LMasterTree$Master;)V"⟩
abbrev cX9_deletionsKnownBy : ByteArray := prog_1_method_61_code
def yX9_deletionsKnownBy : MethodName := ⟨RX9, "deletionsKnownBy", "(LMasterTree$Master;I)J"⟩
abbrev cX9_isInConflict : ByteArray := prog_1_method_62_code
def yX9_isInConflict : MethodName := ⟨RX9, "isInConflict", "(LMasterTree$Tree;II)Z"⟩
def RX10 : String := "MasterTreeModel"
def TX10 : u_T := fun k => match k with
  | _ => ("", "", "", false)
def tyX10 : Nat → FieldType := fun k => match k with
  | _ => .int
abbrev wsX100 : List Cond := u_ws RX10 TX10 0
theorem nmX10 : ∀ a, a < 0 → ∀ b, b < 0 → a ≠ b → (TX10 a).2.1 ≠ (TX10 b).2.1 := by decide +kernel
theorem tyX10_ok : ∀ k, k < 0 → parseFieldDescriptor (TX10 k).2.2.1 = some (tyX10 k) := by decide +kernel
def RJx145de : String := "java/io/Serializable"
def TJx145de : u_T := fun k => match k with
  | _ => ("", "", "", false)
def tyJx145de : Nat → FieldType := fun k => match k with
  | _ => .int
abbrev wsJx145de0 : List Cond := u_ws RJx145de TJx145de 0
theorem nmJx145de : ∀ a, a < 0 → ∀ b, b < 0 → a ≠ b → (TJx145de a).2.1 ≠ (TJx145de b).2.1 := by decide +kernel
theorem tyJx145de_ok : ∀ k, k < 0 → parseFieldDescriptor (TJx145de k).2.2.1 = some (tyJx145de k) := by decide +kernel
def RJ5 : String := "java/lang/AbstractStringBuilder"
def TJ5 : u_T := fun k => match k with
  | _ => ("", "", "", false)
def tyJ5 : Nat → FieldType := fun k => match k with
  | _ => .int
abbrev wsJ50 : List Cond := u_ws RJ5 TJ5 0
theorem nmJ5 : ∀ a, a < 0 → ∀ b, b < 0 → a ≠ b → (TJ5 a).2.1 ≠ (TJ5 b).2.1 := by decide +kernel
theorem tyJ5_ok : ∀ k, k < 0 → parseFieldDescriptor (TJ5 k).2.2.1 = some (tyJ5 k) := by decide +kernel
abbrev cJ5_init_d00df : ByteArray := prog_14_method_2_code
def yJ5_init_d00df : MethodName := ⟨RJ5, "<init>", "(I)V"⟩
abbrev cJ5_length_8abf5 : ByteArray := prog_14_method_6_code
def yJ5_length_8abf5 : MethodName := ⟨RJ5, "length", "()I"⟩
abbrev cJ5_ensureCapacityInternal_d00df : ByteArray := prog_14_method_9_code
def yJ5_ensureCapacityInternal_d00df : MethodName := ⟨RJ5, "ensureCapacityInternal", "(I)V"⟩
abbrev cJ5_newCapacity_0f7a4 : ByteArray := prog_14_method_10_code
def yJ5_newCapacity_0f7a4 : MethodName := ⟨RJ5, "newCapacity", "(I)I"⟩
abbrev cJ5_inflate_da8c8 : ByteArray := prog_14_method_11_code
def yJ5_inflate_da8c8 : MethodName := ⟨RJ5, "inflate", "()V"⟩
abbrev cJ5_append_cf1ce : ByteArray := prog_14_method_22_code
def yJ5_append_cf1ce : MethodName := ⟨RJ5, "append", "(Ljava/lang/String;)Ljava/lang/AbstractStringBuilder;"⟩
abbrev cJ5_appendNull_278bc : ByteArray := prog_14_method_26_code
def yJ5_appendNull_278bc : MethodName := ⟨RJ5, "appendNull", "()Ljava/lang/AbstractStringBuilder;"⟩
abbrev cJ5_append_c97b9 : ByteArray := prog_14_method_32_code
def yJ5_append_c97b9 : MethodName := ⟨RJ5, "append", "(I)Ljava/lang/AbstractStringBuilder;"⟩
abbrev cJ5_getValue_6d5f1 : ByteArray := prog_14_method_64_code
def yJ5_getValue_6d5f1 : MethodName := ⟨RJ5, "getValue", "()[B"⟩
abbrev cJ5_isLatin1_aae02 : ByteArray := prog_14_method_68_code
def yJ5_isLatin1_aae02 : MethodName := ⟨RJ5, "isLatin1", "()Z"⟩
abbrev cJ5_inflateIfNeededFor_a7421 : ByteArray := prog_14_method_71_code
def yJ5_inflateIfNeededFor_a7421 : MethodName := ⟨RJ5, "inflateIfNeededFor", "(Ljava/lang/String;)V"⟩
abbrev cJ5_putStringAt_47b60 : ByteArray := prog_14_method_73_code
def yJ5_putStringAt_47b60 : MethodName := ⟨RJ5, "putStringAt", "(ILjava/lang/String;)V"⟩
def RJx2cfe8 : String := "java/lang/Appendable"
def TJx2cfe8 : u_T := fun k => match k with
  | _ => ("", "", "", false)
def tyJx2cfe8 : Nat → FieldType := fun k => match k with
  | _ => .int
abbrev wsJx2cfe80 : List Cond := u_ws RJx2cfe8 TJx2cfe8 0
theorem nmJx2cfe8 : ∀ a, a < 0 → ∀ b, b < 0 → a ≠ b → (TJx2cfe8 a).2.1 ≠ (TJx2cfe8 b).2.1 := by decide +kernel
theorem tyJx2cfe8_ok : ∀ k, k < 0 → parseFieldDescriptor (TJx2cfe8 k).2.2.1 = some (tyJx2cfe8 k) := by decide +kernel
def RJx9f9b0 : String := "java/lang/CharSequence"
def TJx9f9b0 : u_T := fun k => match k with
  | _ => ("", "", "", false)
def tyJx9f9b0 : Nat → FieldType := fun k => match k with
  | _ => .int
abbrev wsJx9f9b00 : List Cond := u_ws RJx9f9b0 TJx9f9b0 0
theorem nmJx9f9b0 : ∀ a, a < 0 → ∀ b, b < 0 → a ≠ b → (TJx9f9b0 a).2.1 ≠ (TJx9f9b0 b).2.1 := by decide +kernel
theorem tyJx9f9b0_ok : ∀ k, k < 0 → parseFieldDescriptor (TJx9f9b0 k).2.2.1 = some (tyJx9f9b0 k) := by decide +kernel
def RJx8e188 : String := "java/lang/Cloneable"
def TJx8e188 : u_T := fun k => match k with
  | _ => ("", "", "", false)
def tyJx8e188 : Nat → FieldType := fun k => match k with
  | _ => .int
abbrev wsJx8e1880 : List Cond := u_ws RJx8e188 TJx8e188 0
theorem nmJx8e188 : ∀ a, a < 0 → ∀ b, b < 0 → a ≠ b → (TJx8e188 a).2.1 ≠ (TJx8e188 b).2.1 := by decide +kernel
theorem tyJx8e188_ok : ∀ k, k < 0 → parseFieldDescriptor (TJx8e188 k).2.2.1 = some (tyJx8e188 k) := by decide +kernel
def RJxb160c : String := "java/lang/Comparable"
def TJxb160c : u_T := fun k => match k with
  | _ => ("", "", "", false)
def tyJxb160c : Nat → FieldType := fun k => match k with
  | _ => .int
abbrev wsJxb160c0 : List Cond := u_ws RJxb160c TJxb160c 0
theorem nmJxb160c : ∀ a, a < 0 → ∀ b, b < 0 → a ≠ b → (TJxb160c a).2.1 ≠ (TJxb160c b).2.1 := by decide +kernel
theorem tyJxb160c_ok : ∀ k, k < 0 → parseFieldDescriptor (TJxb160c k).2.2.1 = some (tyJxb160c k) := by decide +kernel
def RJ6 : String := "java/lang/Integer"
def TJ6 : u_T := fun k => match k with
  | _ => ("", "", "", false)
def tyJ6 : Nat → FieldType := fun k => match k with
  | _ => .int
abbrev wsJ60 : List Cond := u_ws RJ6 TJ6 0
theorem nmJ6 : ∀ a, a < 0 → ∀ b, b < 0 → a ≠ b → (TJ6 a).2.1 ≠ (TJ6 b).2.1 := by decide +kernel
theorem tyJ6_ok : ∀ k, k < 0 → parseFieldDescriptor (TJ6 k).2.2.1 = some (tyJ6 k) := by decide +kernel
abbrev cJ6_getChars_ba4f3 : ByteArray := prog_23_method_12_code
def yJ6_getChars_ba4f3 : MethodName := ⟨RJ6, "getChars", "(II[B)I"⟩
abbrev cJ6_stringSize_0f7a4 : ByteArray := prog_23_method_13_code
def yJ6_stringSize_0f7a4 : MethodName := ⟨RJ6, "stringSize", "(I)I"⟩
abbrev cJ6_numberOfTrailingZeros_0f7a4 : ByteArray := prog_23_method_48_code
def yJ6_numberOfTrailingZeros_0f7a4 : MethodName := ⟨RJ6, "numberOfTrailingZeros", "(I)I"⟩
def RJxab1ab : String := "java/lang/Iterable"
def TJxab1ab : u_T := fun k => match k with
  | _ => ("", "", "", false)
def tyJxab1ab : Nat → FieldType := fun k => match k with
  | _ => .int
abbrev wsJxab1ab0 : List Cond := u_ws RJxab1ab TJxab1ab 0
theorem nmJxab1ab : ∀ a, a < 0 → ∀ b, b < 0 → a ≠ b → (TJxab1ab a).2.1 ≠ (TJxab1ab b).2.1 := by decide +kernel
theorem tyJxab1ab_ok : ∀ k, k < 0 → parseFieldDescriptor (TJxab1ab k).2.2.1 = some (tyJxab1ab k) := by decide +kernel
def RJ13 : String := "java/lang/Long"
def TJ13 : u_T := fun k => match k with
  | _ => ("", "", "", false)
def tyJ13 : Nat → FieldType := fun k => match k with
  | _ => .int
abbrev wsJ130 : List Cond := u_ws RJ13 TJ13 0
theorem nmJ13 : ∀ a, a < 0 → ∀ b, b < 0 → a ≠ b → (TJ13 a).2.1 ≠ (TJ13 b).2.1 := by decide +kernel
theorem tyJ13_ok : ∀ k, k < 0 → parseFieldDescriptor (TJ13 k).2.2.1 = some (tyJ13 k) := by decide +kernel
abbrev cJ13_numberOfTrailingZeros_95d88 : ByteArray := prog_25_method_49_code
def yJ13_numberOfTrailingZeros_95d88 : MethodName := ⟨RJ13, "numberOfTrailingZeros", "(J)I"⟩
abbrev cJ13_bitCount_95d88 : ByteArray := prog_25_method_50_code
def yJ13_bitCount_95d88 : MethodName := ⟨RJ13, "bitCount", "(J)I"⟩
def RJ9 : String := "java/lang/Math"
def TJ9 : u_T := fun k => match k with
  | _ => ("", "", "", false)
def tyJ9 : Nat → FieldType := fun k => match k with
  | _ => .int
abbrev wsJ90 : List Cond := u_ws RJ9 TJ9 0
theorem nmJ9 : ∀ a, a < 0 → ∀ b, b < 0 → a ≠ b → (TJ9 a).2.1 ≠ (TJ9 b).2.1 := by decide +kernel
theorem tyJ9_ok : ∀ k, k < 0 → parseFieldDescriptor (TJ9 k).2.2.1 = some (tyJ9 k) := by decide +kernel
abbrev cJ9_max_7cf53 : ByteArray := prog_26_method_65_code
def yJ9_max_7cf53 : MethodName := ⟨RJ9, "max", "(II)I"⟩
abbrev cJ9_min_7cf53 : ByteArray := prog_26_method_69_code
def yJ9_min_7cf53 : MethodName := ⟨RJ9, "min", "(II)I"⟩
def RJxd2413 : String := "java/lang/Number"
def TJxd2413 : u_T := fun k => match k with
  | _ => ("", "", "", false)
def tyJxd2413 : Nat → FieldType := fun k => match k with
  | _ => .int
abbrev wsJxd24130 : List Cond := u_ws RJxd2413 TJxd2413 0
theorem nmJxd2413 : ∀ a, a < 0 → ∀ b, b < 0 → a ≠ b → (TJxd2413 a).2.1 ≠ (TJxd2413 b).2.1 := by decide +kernel
theorem tyJxd2413_ok : ∀ k, k < 0 → parseFieldDescriptor (TJxd2413 k).2.2.1 = some (tyJxd2413 k) := by decide +kernel
def RJ0 : String := "java/lang/String"
def TJ0 : u_T := fun k => match k with
  | 0 => ("java/lang/String", "value", "[B", true)
  | 1 => ("java/lang/String", "coder", "B", true)
  | 2 => ("java/lang/String", "hash", "I", false)
  | _ => ("java/lang/String", "hashIsZero", "Z", false)
def tyJ0 : Nat → FieldType := fun k => match k with
  | 0 => .array .byte
  | 1 => .byte
  | 2 => .int
  | _ => .boolean
abbrev wsJ00 : List Cond := u_ws RJ0 TJ0 4
theorem nmJ0 : ∀ a, a < 4 → ∀ b, b < 4 → a ≠ b → (TJ0 a).2.1 ≠ (TJ0 b).2.1 := by decide +kernel
theorem tyJ0_ok : ∀ k, k < 4 → parseFieldDescriptor (TJ0 k).2.2.1 = some (tyJ0 k) := by decide +kernel
abbrev cJ0_init_81219 : ByteArray := prog_29_method_53_code
def yJ0_init_81219 : MethodName := ⟨RJ0, "<init>", "(Ljava/lang/StringBuilder;)V"⟩
abbrev cJ0_length_8abf5 : ByteArray := prog_29_method_54_code
def yJ0_length_8abf5 : MethodName := ⟨RJ0, "length", "()I"⟩
abbrev cJ0_getBytes_840e7 : ByteArray := prog_29_method_147_code
def yJ0_getBytes_840e7 : MethodName := ⟨RJ0, "getBytes", "([BIB)V"⟩
abbrev cJ0_init_db425 : ByteArray := prog_29_method_150_code
def yJ0_init_db425 : MethodName := ⟨RJ0, "<init>", "(Ljava/lang/AbstractStringBuilder;Ljava/lang/Void;)V"⟩
abbrev cJ0_coder_7d493 : ByteArray := prog_29_method_152_code
def yJ0_coder_7d493 : MethodName := ⟨RJ0, "coder", "()B"⟩
abbrev cJ0_checkBoundsOffCount_cabcc : ByteArray := prog_29_method_157_code
def yJ0_checkBoundsOffCount_cabcc : MethodName := ⟨RJ0, "checkBoundsOffCount", "(III)I"⟩
abbrev cJ0_checkBoundsBeginEnd_23922 : ByteArray := prog_29_method_158_code
def yJ0_checkBoundsBeginEnd_23922 : MethodName := ⟨RJ0, "checkBoundsBeginEnd", "(III)V"⟩
def RJ4 : String := "java/lang/StringBuilder"
def TJ4 : u_T := fun k => match k with
  | 0 => ("java/lang/AbstractStringBuilder", "value", "[B", false)
  | 1 => ("java/lang/AbstractStringBuilder", "coder", "B", false)
  | 2 => ("java/lang/AbstractStringBuilder", "maybeLatin1", "Z", false)
  | _ => ("java/lang/AbstractStringBuilder", "count", "I", false)
def tyJ4 : Nat → FieldType := fun k => match k with
  | 0 => .array .byte
  | 1 => .byte
  | 2 => .boolean
  | _ => .int
abbrev wsJ40 : List Cond := u_ws RJ4 TJ4 4
theorem nmJ4 : ∀ a, a < 4 → ∀ b, b < 4 → a ≠ b → (TJ4 a).2.1 ≠ (TJ4 b).2.1 := by decide +kernel
theorem tyJ4_ok : ∀ k, k < 4 → parseFieldDescriptor (TJ4 k).2.2.1 = some (tyJ4 k) := by decide +kernel
abbrev cJ4_init_da8c8 : ByteArray := prog_30_method_1_code
def yJ4_init_da8c8 : MethodName := ⟨RJ4, "<init>", "()V"⟩
abbrev cJ4_append_15ec4 : ByteArray := prog_30_method_7_code
def yJ4_append_15ec4 : MethodName := ⟨RJ4, "append", "(Ljava/lang/String;)Ljava/lang/StringBuilder;"⟩
abbrev cJ4_append_bf812 : ByteArray := prog_30_method_15_code
def yJ4_append_bf812 : MethodName := ⟨RJ4, "append", "(I)Ljava/lang/StringBuilder;"⟩
abbrev cJ4_toString_0e30d : ByteArray := prog_30_method_42_code
def yJ4_toString_0e30d : MethodName := ⟨RJ4, "toString", "()Ljava/lang/String;"⟩
abbrev cJ4_length_8abf5 : ByteArray := prog_30_method_93_code
def yJ4_length_8abf5 : MethodName := ⟨RJ4, "length", "()I"⟩
def RJ1 : String := "java/lang/StringLatin1"
def TJ1 : u_T := fun k => match k with
  | _ => ("", "", "", false)
def tyJ1 : Nat → FieldType := fun k => match k with
  | _ => .int
abbrev wsJ10 : List Cond := u_ws RJ1 TJ1 0
theorem nmJ1 : ∀ a, a < 0 → ∀ b, b < 0 → a ≠ b → (TJ1 a).2.1 ≠ (TJ1 b).2.1 := by decide +kernel
theorem tyJ1_ok : ∀ k, k < 0 → parseFieldDescriptor (TJ1 k).2.2.1 = some (tyJ1 k) := by decide +kernel
abbrev cJ1_inflate_0e8fd : ByteArray := prog_31_method_50_code
def yJ1_inflate_0e8fd : MethodName := ⟨RJ1, "inflate", "([BI[BII)V"⟩
def RJ2 : String := "java/lang/StringUTF16"
def TJ2 : u_T := fun k => match k with
  | _ => ("", "", "", false)
def tyJ2 : Nat → FieldType := fun k => match k with
  | _ => .int
abbrev wsJ20 : List Cond := u_ws RJ2 TJ2 0
theorem nmJ2 : ∀ a, a < 0 → ∀ b, b < 0 → a ≠ b → (TJ2 a).2.1 ≠ (TJ2 b).2.1 := by decide +kernel
theorem tyJ2_ok : ∀ k, k < 0 → parseFieldDescriptor (TJ2 k).2.2.1 = some (tyJ2 k) := by decide +kernel
abbrev cJ2_newBytesFor_77867 : ByteArray := prog_32_method_2_code
def yJ2_newBytesFor_77867 : MethodName := ⟨RJ2, "newBytesFor", "(I)[B"⟩
abbrev cJ2_newBytesLength_0f7a4 : ByteArray := prog_32_method_3_code
def yJ2_newBytesLength_0f7a4 : MethodName := ⟨RJ2, "newBytesLength", "(I)I"⟩
abbrev cJ2_putChar_b72d1 : ByteArray := prog_32_method_4_code
def yJ2_putChar_b72d1 : MethodName := ⟨RJ2, "putChar", "([BII)V"⟩
abbrev cJ2_getChar_3b067 : ByteArray := prog_32_method_5_code
def yJ2_getChar_3b067 : MethodName := ⟨RJ2, "getChar", "([BI)C"⟩
abbrev cJ2_length_9d52b : ByteArray := prog_32_method_6_code
def yJ2_length_9d52b : MethodName := ⟨RJ2, "length", "([B)I"⟩
abbrev cJ2_coderFromArrayLen_85cad : ByteArray := prog_32_method_15_code
def yJ2_coderFromArrayLen_85cad : MethodName := ⟨RJ2, "coderFromArrayLen", "([BI)B"⟩
abbrev cJ2_compress_39247 : ByteArray := prog_32_method_17_code
def yJ2_compress_39247 : MethodName := ⟨RJ2, "compress", "([BII)[B"⟩
abbrev cJ2_compress_5af95 : ByteArray := prog_32_method_22_code
def yJ2_compress_5af95 : MethodName := ⟨RJ2, "compress", "([BI[BII)I"⟩
abbrev cJ2_getChars_46870 : ByteArray := prog_32_method_77_code
def yJ2_getChars_46870 : MethodName := ⟨RJ2, "getChars", "(III[B)I"⟩
abbrev cJ2_putCharsAt_cd4e5 : ByteArray := prog_32_method_81_code
def yJ2_putCharsAt_cd4e5 : MethodName := ⟨RJ2, "putCharsAt", "([BICCCC)I"⟩
abbrev cJ2_inflate_0e8fd : ByteArray := prog_32_method_86_code
def yJ2_inflate_0e8fd : MethodName := ⟨RJ2, "inflate", "([BI[BII)V"⟩
abbrev cJ2_getChars_ba4f3 : ByteArray := prog_32_method_89_code
def yJ2_getChars_ba4f3 : MethodName := ⟨RJ2, "getChars", "(II[B)I"⟩
abbrev cJ2_checkBoundsBeginEnd_d044e : ByteArray := prog_32_method_93_code
def yJ2_checkBoundsBeginEnd_d044e : MethodName := ⟨RJ2, "checkBoundsBeginEnd", "(II[B)V"⟩
abbrev cJ2_checkBoundsOffCount_d044e : ByteArray := prog_32_method_94_code
def yJ2_checkBoundsOffCount_d044e : MethodName := ⟨RJ2, "checkBoundsOffCount", "(II[B)V"⟩
def RJ10 : String := "java/lang/System"
def TJ10 : u_T := fun k => match k with
  | _ => ("", "", "", false)
def tyJ10 : Nat → FieldType := fun k => match k with
  | _ => .int
abbrev wsJ100 : List Cond := u_ws RJ10 TJ10 0
theorem nmJ10 : ∀ a, a < 0 → ∀ b, b < 0 → a ≠ b → (TJ10 a).2.1 ≠ (TJ10 b).2.1 := by decide +kernel
theorem tyJ10_ok : ∀ k, k < 0 → parseFieldDescriptor (TJ10 k).2.2.1 = some (tyJ10 k) := by decide +kernel
def RJxfd54e : String := "java/lang/constant/Constable"
def TJxfd54e : u_T := fun k => match k with
  | _ => ("", "", "", false)
def tyJxfd54e : Nat → FieldType := fun k => match k with
  | _ => .int
abbrev wsJxfd54e0 : List Cond := u_ws RJxfd54e TJxfd54e 0
theorem nmJxfd54e : ∀ a, a < 0 → ∀ b, b < 0 → a ≠ b → (TJxfd54e a).2.1 ≠ (TJxfd54e b).2.1 := by decide +kernel
theorem tyJxfd54e_ok : ∀ k, k < 0 → parseFieldDescriptor (TJxfd54e k).2.2.1 = some (tyJxfd54e k) := by decide +kernel
def RJx3cf43 : String := "java/lang/constant/ConstantDesc"
def TJx3cf43 : u_T := fun k => match k with
  | _ => ("", "", "", false)
def tyJx3cf43 : Nat → FieldType := fun k => match k with
  | _ => .int
abbrev wsJx3cf430 : List Cond := u_ws RJx3cf43 TJx3cf43 0
theorem nmJx3cf43 : ∀ a, a < 0 → ∀ b, b < 0 → a ≠ b → (TJx3cf43 a).2.1 ≠ (TJx3cf43 b).2.1 := by decide +kernel
theorem tyJx3cf43_ok : ∀ k, k < 0 → parseFieldDescriptor (TJx3cf43 k).2.2.1 = some (tyJx3cf43 k) := by decide +kernel
def RJxa1e45 : String := "java/util/AbstractCollection"
def TJxa1e45 : u_T := fun k => match k with
  | _ => ("", "", "", false)
def tyJxa1e45 : Nat → FieldType := fun k => match k with
  | _ => .int
abbrev wsJxa1e450 : List Cond := u_ws RJxa1e45 TJxa1e45 0
theorem nmJxa1e45 : ∀ a, a < 0 → ∀ b, b < 0 → a ≠ b → (TJxa1e45 a).2.1 ≠ (TJxa1e45 b).2.1 := by decide +kernel
theorem tyJxa1e45_ok : ∀ k, k < 0 → parseFieldDescriptor (TJxa1e45 k).2.2.1 = some (tyJxa1e45 k) := by decide +kernel
abbrev cJxa1e45_init_da8c8 : ByteArray := prog_37_method_1_code
def yJxa1e45_init_da8c8 : MethodName := ⟨RJxa1e45, "<init>", "()V"⟩
def RJxc12de : String := "java/util/AbstractList"
def TJxc12de : u_T := fun k => match k with
  | _ => ("", "", "", false)
def tyJxc12de : Nat → FieldType := fun k => match k with
  | _ => .int
abbrev wsJxc12de0 : List Cond := u_ws RJxc12de TJxc12de 0
theorem nmJxc12de : ∀ a, a < 0 → ∀ b, b < 0 → a ≠ b → (TJxc12de a).2.1 ≠ (TJxc12de b).2.1 := by decide +kernel
theorem tyJxc12de_ok : ∀ k, k < 0 → parseFieldDescriptor (TJxc12de k).2.2.1 = some (tyJxc12de k) := by decide +kernel
abbrev cJxc12de_init_da8c8 : ByteArray := prog_38_method_1_code
def yJxc12de_init_da8c8 : MethodName := ⟨RJxc12de, "<init>", "()V"⟩
def RJx4a65c : String := "java/util/ArrayList"
def TJx4a65c : u_T := fun k => match k with
  | 0 => ("java/util/AbstractList", "modCount", "I", false)
  | 1 => ("java/util/ArrayList", "elementData", "[Ljava/lang/Object;", false)
  | _ => ("java/util/ArrayList", "size", "I", false)
def tyJx4a65c : Nat → FieldType := fun k => match k with
  | 0 => .int
  | 1 => .array (.object "java/lang/Object")
  | _ => .int
abbrev wsJx4a65c0 : List Cond := u_ws RJx4a65c TJx4a65c 3
theorem nmJx4a65c : ∀ a, a < 3 → ∀ b, b < 3 → a ≠ b → (TJx4a65c a).2.1 ≠ (TJx4a65c b).2.1 := by decide +kernel
theorem tyJx4a65c_ok : ∀ k, k < 3 → parseFieldDescriptor (TJx4a65c k).2.2.1 = some (tyJx4a65c k) := by decide +kernel
abbrev cJx4a65c_init_da8c8 : ByteArray := prog_39_method_2_code
def yJx4a65c_init_da8c8 : MethodName := ⟨RJx4a65c, "<init>", "()V"⟩
abbrev cJx4a65c_grow_92f84 : ByteArray := prog_39_method_6_code
def yJx4a65c_grow_92f84 : MethodName := ⟨RJx4a65c, "grow", "(I)[Ljava/lang/Object;"⟩
abbrev cJx4a65c_grow_d5877 : ByteArray := prog_39_method_7_code
def yJx4a65c_grow_d5877 : MethodName := ⟨RJx4a65c, "grow", "()[Ljava/lang/Object;"⟩
abbrev cJx4a65c_size_8abf5 : ByteArray := prog_39_method_8_code
def yJx4a65c_size_8abf5 : MethodName := ⟨RJx4a65c, "size", "()I"⟩
abbrev cJx4a65c_elementData_915e3 : ByteArray := prog_39_method_18_code
def yJx4a65c_elementData_915e3 : MethodName := ⟨RJx4a65c, "elementData", "(I)Ljava/lang/Object;"⟩
abbrev cJx4a65c_get_915e3 : ByteArray := prog_39_method_20_code
def yJx4a65c_get_915e3 : MethodName := ⟨RJx4a65c, "get", "(I)Ljava/lang/Object;"⟩
abbrev cJx4a65c_add_7a177 : ByteArray := prog_39_method_26_code
def yJx4a65c_add_7a177 : MethodName := ⟨RJx4a65c, "add", "(ILjava/lang/Object;)V"⟩
abbrev cJx4a65c_rangeCheckForAdd_d00df : ByteArray := prog_39_method_45_code
def yJx4a65c_rangeCheckForAdd_d00df : MethodName := ⟨RJx4a65c, "rangeCheckForAdd", "(I)V"⟩
abbrev cJx4a65c_outOfBoundsMsg_b52d3 : ByteArray := prog_39_method_46_code
def yJx4a65c_outOfBoundsMsg_b52d3 : MethodName := ⟨RJx4a65c, "outOfBoundsMsg", "(I)Ljava/lang/String;"⟩
def RJ7 : String := "java/util/Arrays"
def TJ7 : u_T := fun k => match k with
  | _ => ("", "", "", false)
def tyJ7 : Nat → FieldType := fun k => match k with
  | _ => .int
abbrev wsJ70 : List Cond := u_ws RJ7 TJ7 0
theorem nmJ7 : ∀ a, a < 0 → ∀ b, b < 0 → a ≠ b → (TJ7 a).2.1 ≠ (TJ7 b).2.1 := by decide +kernel
theorem tyJ7_ok : ∀ k, k < 0 → parseFieldDescriptor (TJ7 k).2.2.1 = some (tyJ7 k) := by decide +kernel
abbrev cJ7_fill_d0a16 : ByteArray := prog_40_method_101_code
def yJ7_fill_d0a16 : MethodName := ⟨RJ7, "fill", "([JJ)V"⟩
abbrev cJ7_fill_53178 : ByteArray := prog_40_method_103_code
def yJ7_fill_53178 : MethodName := ⟨RJ7, "fill", "([II)V"⟩
abbrev cJ7_copyOf_1904c : ByteArray := prog_40_method_119_code
def yJ7_copyOf_1904c : MethodName := ⟨RJ7, "copyOf", "([Ljava/lang/Object;I)[Ljava/lang/Object;"⟩
abbrev cJ7_copyOf_6403c : ByteArray := prog_40_method_120_code
def yJ7_copyOf_6403c : MethodName := ⟨RJ7, "copyOf", "([Ljava/lang/Object;ILjava/lang/Class;)[Ljava/lang/Object;"⟩
abbrev cJ7_copyOf_9075b : ByteArray := prog_40_method_121_code
def yJ7_copyOf_9075b : MethodName := ⟨RJ7, "copyOf", "([BI)[B"⟩
abbrev cJ7_copyOf_59c91 : ByteArray := prog_40_method_123_code
def yJ7_copyOf_59c91 : MethodName := ⟨RJ7, "copyOf", "([II)[I"⟩
abbrev cJ7_checkLength_df160 : ByteArray := prog_40_method_131_code
def yJ7_checkLength_df160 : MethodName := ⟨RJ7, "checkLength", "(II)V"⟩
abbrev cJ7_copyOfRange_39247 : ByteArray := prog_40_method_132_code
def yJ7_copyOfRange_39247 : MethodName := ⟨RJ7, "copyOfRange", "([BII)[B"⟩
abbrev cJ7_copyOfRangeByte_39247 : ByteArray := prog_40_method_133_code
def yJ7_copyOfRangeByte_39247 : MethodName := ⟨RJ7, "copyOfRangeByte", "([BII)[B"⟩
def RJx5ef63 : String := "java/util/Collection"
def TJx5ef63 : u_T := fun k => match k with
  | _ => ("", "", "", false)
def tyJx5ef63 : Nat → FieldType := fun k => match k with
  | _ => .int
abbrev wsJx5ef630 : List Cond := u_ws RJx5ef63 TJx5ef63 0
theorem nmJx5ef63 : ∀ a, a < 0 → ∀ b, b < 0 → a ≠ b → (TJx5ef63 a).2.1 ≠ (TJx5ef63 b).2.1 := by decide +kernel
theorem tyJx5ef63_ok : ∀ k, k < 0 → parseFieldDescriptor (TJx5ef63 k).2.2.1 = some (tyJx5ef63 k) := by decide +kernel
def RJxbd725 : String := "java/util/List"
def TJxbd725 : u_T := fun k => match k with
  | _ => ("", "", "", false)
def tyJxbd725 : Nat → FieldType := fun k => match k with
  | _ => .int
abbrev wsJxbd7250 : List Cond := u_ws RJxbd725 TJxbd725 0
theorem nmJxbd725 : ∀ a, a < 0 → ∀ b, b < 0 → a ≠ b → (TJxbd725 a).2.1 ≠ (TJxbd725 b).2.1 := by decide +kernel
theorem tyJxbd725_ok : ∀ k, k < 0 → parseFieldDescriptor (TJxbd725 k).2.2.1 = some (tyJxbd725 k) := by decide +kernel
def RJ15 : String := "java/util/Objects"
def TJ15 : u_T := fun k => match k with
  | _ => ("", "", "", false)
def tyJ15 : Nat → FieldType := fun k => match k with
  | _ => .int
abbrev wsJ150 : List Cond := u_ws RJ15 TJ15 0
theorem nmJ15 : ∀ a, a < 0 → ∀ b, b < 0 → a ≠ b → (TJ15 a).2.1 ≠ (TJ15 b).2.1 := by decide +kernel
theorem tyJ15_ok : ∀ k, k < 0 → parseFieldDescriptor (TJ15 k).2.2.1 = some (tyJ15 k) := by decide +kernel
abbrev cJ15_checkIndex_7cf53 : ByteArray := prog_43_method_17_code
def yJ15_checkIndex_7cf53 : MethodName := ⟨RJ15, "checkIndex", "(II)I"⟩
def RJxf0a74 : String := "java/util/RandomAccess"
def TJxf0a74 : u_T := fun k => match k with
  | _ => ("", "", "", false)
def tyJxf0a74 : Nat → FieldType := fun k => match k with
  | _ => .int
abbrev wsJxf0a740 : List Cond := u_ws RJxf0a74 TJxf0a74 0
theorem nmJxf0a74 : ∀ a, a < 0 → ∀ b, b < 0 → a ≠ b → (TJxf0a74 a).2.1 ≠ (TJxf0a74 b).2.1 := by decide +kernel
theorem tyJxf0a74_ok : ∀ k, k < 0 → parseFieldDescriptor (TJxf0a74 k).2.2.1 = some (tyJxf0a74 k) := by decide +kernel
def RJxa66e6 : String := "java/util/SequencedCollection"
def TJxa66e6 : u_T := fun k => match k with
  | _ => ("", "", "", false)
def tyJxa66e6 : Nat → FieldType := fun k => match k with
  | _ => .int
abbrev wsJxa66e60 : List Cond := u_ws RJxa66e6 TJxa66e6 0
theorem nmJxa66e6 : ∀ a, a < 0 → ∀ b, b < 0 → a ≠ b → (TJxa66e6 a).2.1 ≠ (TJxa66e6 b).2.1 := by decide +kernel
theorem tyJxa66e6_ok : ∀ k, k < 0 → parseFieldDescriptor (TJxa66e6 k).2.2.1 = some (tyJxa66e6 k) := by decide +kernel
def RJ8 : String := "jdk/internal/util/ArraysSupport"
def TJ8 : u_T := fun k => match k with
  | _ => ("", "", "", false)
def tyJ8 : Nat → FieldType := fun k => match k with
  | _ => .int
abbrev wsJ80 : List Cond := u_ws RJ8 TJ8 0
theorem nmJ8 : ∀ a, a < 0 → ∀ b, b < 0 → a ≠ b → (TJ8 a).2.1 ≠ (TJ8 b).2.1 := by decide +kernel
theorem tyJ8_ok : ∀ k, k < 0 → parseFieldDescriptor (TJ8 k).2.2.1 = some (tyJ8 k) := by decide +kernel
abbrev cJ8_newLength_cabcc : ByteArray := prog_46_method_27_code
def yJ8_newLength_cabcc : MethodName := ⟨RJ8, "newLength", "(III)I"⟩
abbrev cJ8_hugeLength_7cf53 : ByteArray := prog_46_method_28_code
def yJ8_hugeLength_7cf53 : MethodName := ⟨RJ8, "hugeLength", "(II)I"⟩
def RJ3 : String := "jdk/internal/util/Preconditions"
def TJ3 : u_T := fun k => match k with
  | _ => ("", "", "", false)
def tyJ3 : Nat → FieldType := fun k => match k with
  | _ => .int
abbrev wsJ30 : List Cond := u_ws RJ3 TJ3 0
theorem nmJ3 : ∀ a, a < 0 → ∀ b, b < 0 → a ≠ b → (TJ3 a).2.1 ≠ (TJ3 b).2.1 := by decide +kernel
theorem tyJ3_ok : ∀ k, k < 0 → parseFieldDescriptor (TJ3 k).2.2.1 = some (tyJ3 k) := by decide +kernel
abbrev cJ3_checkIndex_8e157 : ByteArray := prog_47_method_11_code
def yJ3_checkIndex_8e157 : MethodName := ⟨RJ3, "checkIndex", "(IILjava/util/function/BiFunction;)I"⟩
abbrev cJ3_checkFromToIndex_8c36e : ByteArray := prog_47_method_12_code
def yJ3_checkFromToIndex_8c36e : MethodName := ⟨RJ3, "checkFromToIndex", "(IIILjava/util/function/BiFunction;)I"⟩
abbrev cJ3_checkFromIndexSize_8c36e : ByteArray := prog_47_method_13_code
def yJ3_checkFromIndexSize_8c36e : MethodName := ⟨RJ3, "checkFromIndexSize", "(IIILjava/util/function/BiFunction;)I"⟩
def RL : String := "MasterTreeLaw"
abbrev cL_cell : ByteArray := method_2_code
def yL_cell : MethodName := ⟨RL, "cell", "([II)I"⟩
abbrev cL_low : ByteArray := method_3_code
def yL_low : MethodName := ⟨RL, "low", "(II)I"⟩
abbrev cL_calls : ByteArray := method_4_code
def yL_calls : MethodName := ⟨RL, "calls", "(LMasterTree;IIIII)I"⟩
abbrev cL_rules : ByteArray := method_5_code
def yL_rules : MethodName := ⟨RL, "rules", "(LMasterTree;IIIIII)I"⟩
abbrev cL_known : ByteArray := method_6_code
def yL_known : MethodName := ⟨RL, "known", "(II[I[I[I)Z"⟩
abbrev cL_match : ByteArray := method_7_code
def yL_match : MethodName := ⟨RL, "match", "(II[I)J"⟩
abbrev cL_put : ByteArray := method_8_code
def yL_put : MethodName := ⟨RL, "put", "(III[I[J)V"⟩
abbrev cL_lays : ByteArray := method_9_code
def yL_lays : MethodName := ⟨RL, "lays", "(I[I[I[I[I[I[I[J[I[I[J)V"⟩
abbrev cL_up : ByteArray := method_10_code
def yL_up : MethodName := ⟨RL, "up", "(II[I)Z"⟩
abbrev cL_last : ByteArray := method_11_code
def yL_last : MethodName := ⟨RL, "last", "(III[I[I[I[I[I[I)I"⟩
abbrev cL_name : ByteArray := method_12_code
def yL_name : MethodName := ⟨RL, "name", "(II[I[I[I[I[I[I)I"⟩
abbrev cL_link : ByteArray := method_13_code
def yL_link : MethodName := ⟨RL, "link", "(II[I[I[I[I[I[I)I"⟩
abbrev cL_place : ByteArray := method_14_code
def yL_place : MethodName := ⟨RL, "place", "(I[I)I"⟩
abbrev cL_born : ByteArray := method_15_code
def yL_born : MethodName := ⟨RL, "born", "(I[I[I)I"⟩
abbrev cL_shown : ByteArray := method_16_code
def yL_shown : MethodName := ⟨RL, "shown", "(II[I[I[I[I[I[I[I)I"⟩
abbrev cL_named : ByteArray := method_17_code
def yL_named : MethodName := ⟨RL, "named", "(IIII[I[I[I[I[I[I[I)Z"⟩
abbrev cL_requires : ByteArray := method_18_code
def yL_requires : MethodName := ⟨RL, "requires", "(I[I)I"⟩
abbrev cL_allows : ByteArray := method_19_code
def yL_allows : MethodName := ⟨RL, "allows", "(I[I)I"⟩
abbrev cL_bits : ByteArray := method_20_code
def yL_bits : MethodName := ⟨RL, "bits", "(J)I"⟩
abbrev cL_says : ByteArray := method_21_code
def yL_says : MethodName := ⟨RL, "says", "(IIIII[I[I[I[I[I[I[I)I"⟩
abbrev cL_sort : ByteArray := method_22_code
def yL_sort : MethodName := ⟨RL, "sort", "(IIIIII[I[I[I[I[I[I[I[I[J)I"⟩
abbrev cL_may : ByteArray := method_23_code
def yL_may : MethodName := ⟨RL, "may", "(IIII[I[I[I[I[I[I[I[I[J)Z"⟩
abbrev cL_makes : ByteArray := method_24_code
def yL_makes : MethodName := ⟨RL, "makes", "(IIIIIJ[I[I[I[I[I[I[J[I)V"⟩
abbrev cL_drafted : ByteArray := method_25_code
def yL_drafted : MethodName := ⟨RL, "drafted", "(I[I[I)Z"⟩
abbrev cL_adds : ByteArray := method_26_code
def yL_adds : MethodName := ⟨RL, "adds", "(LMasterTree;II[I[I[I[I[I[I[I[J[I[I[J)Z"⟩
abbrev cL_values : ByteArray := method_27_code
def yL_values : MethodName := ⟨RL, "values", "(LMasterTree;III[I[I[I[I[I[I[I[J[I[I[J)Z"⟩
abbrev cL_renames : ByteArray := method_28_code
def yL_renames : MethodName := ⟨RL, "renames", "(LMasterTree;II[I[I[I[I[I[I[J[I[I[J)Z"⟩
abbrev cL_moves : ByteArray := method_29_code
def yL_moves : MethodName := ⟨RL, "moves", "(LMasterTree;II[I[I[I[I[I[I[J[I[I[J)Z"⟩
abbrev cL_gone : ByteArray := method_30_code
def yL_gone : MethodName := ⟨RL, "gone", "(III[I[I[I[I[I)Z"⟩
abbrev cL_marks : ByteArray := method_31_code
def yL_marks : MethodName := ⟨RL, "marks", "(I[I[I[I[I[I)I"⟩
abbrev cL_deletes : ByteArray := method_32_code
def yL_deletes : MethodName := ⟨RL, "deletes", "(LMasterTree;II[I[I[I[I[I[I[J[I[I[J)Z"⟩
abbrev cL_links : ByteArray := method_33_code
def yL_links : MethodName := ⟨RL, "links", "(LMasterTree;II[I[I[I[I[I[I[J[I[I[J)Z"⟩
abbrev cL_rule : ByteArray := method_34_code
def yL_rule : MethodName := ⟨RL, "rule", "(LMasterTree;II[I[I[I[I[I[I[J[I[I[J)Z"⟩
abbrev cL_exchanges : ByteArray := method_35_code
def yL_exchanges : MethodName := ⟨RL, "exchanges", "(LMasterTree;I[I[I[I[I)Z"⟩
abbrev cL_sweeps : ByteArray := method_36_code
def yL_sweeps : MethodName := ⟨RL, "sweeps", "(LMasterTree;I[I[I[I[I[I)Z"⟩
abbrev cL_fits : ByteArray := method_37_code
def yL_fits : MethodName := ⟨RL, "fits", "(IIIII[I[I[I[J)Z"⟩
abbrev cL_draws : ByteArray := method_38_code
def yL_draws : MethodName := ⟨RL, "draws", "(LMasterTree;IIII)Z"⟩
abbrev cL_searches : ByteArray := method_39_code
def yL_searches : MethodName := ⟨RL, "searches", "(LMasterTree;II[I[I[I[I[I[I[I[I[I[J)Z"⟩
abbrev cL_arrives : ByteArray := method_40_code
def yL_arrives : MethodName := ⟨RL, "arrives", "(I[I[I[I[I[I[I[I[J[I[I[J)I"⟩
abbrev cL_follows : ByteArray := method_41_code
def yL_follows : MethodName := ⟨RL, "follows", "(LMasterTree;II[I[I[I[I[I[I[I[J[I[I[J[I[I)Z"⟩
abbrev cL_entry : ByteArray := method_42_code
def yL_entry : MethodName := ⟨RL, "entry", "(LMasterTree;III[I[I[I[I[I[I[I[I[I[J)Z"⟩
abbrev cL_master : ByteArray := method_43_code
def yL_master : MethodName := ⟨RL, "master", "(LMasterTree;II[I[I[I[I[I[I[I[I[I[J)Z"⟩
abbrev cL_law : ByteArray := code
def yL_law : MethodName := ⟨RL, "law", "([I)Z"⟩
abbrev vwCl : List vw_C := [(RJ0, TJ0, 4), (RJ4, TJ4, 4), (RJx4a65c, TJx4a65c, 3), (RX0, TX0, 9), (RX1, TX1, 3), (RX2, TX2, 7), (RX3, TX3, 8), (RX4, TX4, 6), (RX5, TX5, 2), (RX6, TX6, 2), (RX7, TX7, 7), (RX8, TX8, 12), (RX9, TX9, 8)]
