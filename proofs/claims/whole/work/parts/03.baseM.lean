def wsM_0 : List Cond := [Cond.methodLink RX10 1 objectInit, Cond.instanceMethod objectInit, Cond.code objectInit ⟨#[0xb1]⟩ 1 none, Cond.arrayClass .boolean, Cond.fieldLink RX10 7 "MasterTreeModel" "single" "[Z", Cond.fieldLink RX10 13 "MasterTreeModel" "tens" "[Z", Cond.arrayClass .int, Cond.fieldLink RX10 16 "MasterTreeModel" "above" "[I", Cond.fieldLink RX10 20 "MasterTreeModel" "requires" "[I", Cond.fieldLink RX10 23 "MasterTreeModel" "allows" "[I", Cond.fieldLink RX10 26 "MasterTreeModel" "draftAttribute" "[I", Cond.fieldLink RX10 29 "MasterTreeModel" "draftValue" "[I", Cond.fieldLink RX10 32 "MasterTreeModel" "part" "[I", Cond.fieldLink RX10 35 "MasterTreeModel" "left" "[I", Cond.fieldLink RX10 38 "MasterTreeModel" "right" "[I", Cond.fieldLink RX10 41 "MasterTreeModel" "truth" "[Z", Cond.fieldLink RX10 44 "MasterTreeModel" "filter" "[I", Cond.fieldLink RX10 47 "MasterTreeModel" "user" "[I", Cond.fieldLink RX10 50 "MasterTreeModel" "view" "[I", Cond.fieldLink RX10 53 "MasterTreeModel" "dropped" "[Z", Cond.fieldLink RX10 56 "MasterTreeModel" "entries" "I", Cond.fieldLink RX10 60 "MasterTreeModel" "stamp" "[I", Cond.fieldLink RX10 63 "MasterTreeModel" "maker" "[I", Cond.fieldLink RX10 66 "MasterTreeModel" "number" "[I"]
def wsM_1 : List Cond := [Cond.fieldLink RX10 69 "MasterTreeModel" "kind" "[I", Cond.fieldLink RX10 72 "MasterTreeModel" "of" "[I", Cond.fieldLink RX10 75 "MasterTreeModel" "one" "[I", Cond.fieldLink RX10 78 "MasterTreeModel" "two" "[I", Cond.fieldLink RX10 81 "MasterTreeModel" "three" "[I", Cond.fieldLink RX10 84 "MasterTreeModel" "from" "[I", Cond.fieldLink RX10 87 "MasterTreeModel" "to" "[I", Cond.fieldLink RX10 90 "MasterTreeModel" "addedAttribute" "[I", Cond.fieldLink RX10 93 "MasterTreeModel" "addedValue" "[I", Cond.fieldLink RX10 96 "MasterTreeModel" "order" "[I", Cond.fieldLink RX10 99 "MasterTreeModel" "laid" "I", Cond.fieldLink RX10 102 "MasterTreeModel" "there" "[Z", Cond.fieldLink RX10 105 "MasterTreeModel" "dead" "[Z", Cond.fieldLink RX10 108 "MasterTreeModel" "klass" "[I", Cond.fieldLink RX10 111 "MasterTreeModel" "parent" "[I", Cond.fieldLink RX10 114 "MasterTreeModel" "name" "[I", Cond.fieldLink RX10 117 "MasterTreeModel" "target" "[I", Cond.fieldLink RX10 120 "MasterTreeModel" "born" "[I", Cond.fieldLink RX10 123 "MasterTreeModel" "place" "[I", Cond.fieldLink RX10 126 "MasterTreeModel" "shown" "[I", Cond.fieldLink RX10 129 "MasterTreeModel" "valueEntry" "[I", Cond.fieldLink RX10 132 "MasterTreeModel" "valueAttribute" "[I", Cond.fieldLink RX10 135 "MasterTreeModel" "valueOf" "[I", Cond.fieldLink RX10 138 "MasterTreeModel" "says" "[I"]
def wsM_2 : List Cond := [Cond.fieldLink RX10 141 "MasterTreeModel" "foundAt" "[I", Cond.fieldLink RX10 144 "MasterTreeModel" "queue" "[I", Cond.fieldLink RX10 147 "MasterTreeModel" "met" "[Z", Cond.fieldLink RX10 150 "MasterTreeModel" "otherLive" "[Z", Cond.fieldLink RX10 153 "MasterTreeModel" "otherKlass" "[I", Cond.fieldLink RX10 156 "MasterTreeModel" "otherPlace" "[I", Cond.fieldLink RX10 159 "MasterTreeModel" "otherShown" "[I", Cond.fieldLink RX10 162 "MasterTreeModel" "otherTarget" "[I", Cond.fieldLink RX10 165 "MasterTreeModel" "otherEntry" "[I", Cond.fieldLink RX10 168 "MasterTreeModel" "otherAttribute" "[I", Cond.fieldLink RX10 171 "MasterTreeModel" "otherOf" "[I", Cond.fieldLink RX10 174 "MasterTreeModel" "otherSays" "[I", Cond.code yX10_init cX10_init 1 none, Cond.code yX10_thrown cX10_thrown 1 (some .int), Cond.fieldLink RX10 177 "MasterTreeModel" "thrown" "I", Cond.code yX10_fails cX10_fails 2 (some .int), Cond.code yX10_in cX10_in 3 (some .boolean), Cond.code yX10_isMaster cX10_isMaster 1 (some .boolean), Cond.methodLink RX10 180 yX10_in, Cond.static yX10_in, Cond.initialized RX10, Cond.code yX10_isAttribute cX10_isAttribute 2 (some .boolean), Cond.fieldLink RX10 184 "MasterTreeModel" "attributes" "I", Cond.code yX10_isClass cX10_isClass 2 (some .boolean)]
def wsM_3 : List Cond := [Cond.fieldLink RX10 187 "MasterTreeModel" "classes" "I", Cond.code yX10_isValue cX10_isValue 1 (some .boolean), Cond.code yX10_key cX10_key 3 (some .int), Cond.code yX10_isKnown cX10_isKnown 3 (some .boolean), Cond.code yX10_drops cX10_drops 8 none, Cond.fieldLink RX10 190 "MasterTreeModel" "values" "I", Cond.methodLink RX10 193 yX10_key, Cond.instanceMethod yX10_key, Cond.selects RX10 yX10_key yX10_key, Cond.code yX10_comes cX10_comes 4 none, Cond.code yX10_takesValue cX10_takesValue 4 none, Cond.methodLink RX10 197 yX10_drops, Cond.instanceMethod yX10_drops, Cond.selects RX10 yX10_drops yX10_drops, Cond.methodLink RX10 201 yX10_comes, Cond.instanceMethod yX10_comes, Cond.selects RX10 yX10_comes yX10_comes, Cond.code yX10_isUp cX10_isUp 4 (some .boolean), Cond.methodLink RX10 205 yX10_takesValue, Cond.instanceMethod yX10_takesValue, Cond.selects RX10 yX10_takesValue yX10_takesValue, Cond.methodLink RX10 208 yX10_isUp, Cond.instanceMethod yX10_isUp, Cond.selects RX10 yX10_isUp yX10_isUp]
def wsM_4 : List Cond := [Cond.code yX10_does cX10_does 5 none, Cond.code yX10_isLive cX10_isLive 2 (some .boolean), Cond.fieldLink RX10 212 "MasterTreeModel" "changes" "I", Cond.methodLink RX10 215 yX10_isKnown, Cond.instanceMethod yX10_isKnown, Cond.selects RX10 yX10_isKnown yX10_isKnown, Cond.methodLink RX10 218 yX10_does, Cond.instanceMethod yX10_does, Cond.selects RX10 yX10_does yX10_does, Cond.methodLink RX10 222 yX10_isLive, Cond.instanceMethod yX10_isLive, Cond.selects RX10 yX10_isLive yX10_isLive, Cond.code yX10_lays cX10_lays 5 none, Cond.methodLink RX10 226 yX10_isMaster, Cond.static yX10_isMaster, Cond.methodLink RX10 229 yX10_lays, Cond.instanceMethod yX10_lays, Cond.selects RX10 yX10_lays yX10_lays, Cond.code yX10_isAt cX10_isAt 3 (some .boolean), Cond.code yX10_countOf cX10_countOf 5 (some .int), Cond.code yX10_hasMatch cX10_hasMatch 6 (some .boolean), Cond.code yX10_isNamed cX10_isNamed 6 (some .boolean), Cond.code yX10_requiredBy cX10_requiredBy 4 (some .int), Cond.code yX10_allowedBy cX10_allowedBy 4 (some .int)]
def wsM_5 : List Cond := [Cond.code yX10_applies cX10_applies 3 (some .boolean), Cond.methodLink RX10 233 yX10_hasMatch, Cond.instanceMethod yX10_hasMatch, Cond.selects RX10 yX10_hasMatch yX10_hasMatch, Cond.methodLink RX10 236 yX10_applies, Cond.instanceMethod yX10_applies, Cond.selects RX10 yX10_applies yX10_applies, Cond.code yX10_decides cX10_decides 12 (some .int), Cond.methodLink RX10 239 yX10_decides, Cond.instanceMethod yX10_decides, Cond.selects RX10 yX10_decides yX10_decides, Cond.code yX10_mayDo cX10_mayDo 7 (some .boolean), Cond.methodLink RX10 243 yX10_mayDo, Cond.instanceMethod yX10_mayDo, Cond.selects RX10 yX10_mayDo yX10_mayDo, Cond.code yX10_mayWrite cX10_mayWrite 3 (some .boolean), Cond.code yX10_makes cX10_makes 10 (some .int), Cond.code yX10_isFull cX10_isFull 1 (some .boolean), Cond.code yX10_attribute cX10_attribute 3 (some .int), Cond.methodLink RX10 246 yX10_fails, Cond.instanceMethod yX10_fails, Cond.selects RX10 yX10_fails yX10_fails, Cond.code yX10_objectClass cX10_objectClass 4 (some .int), Cond.code yX10_serve cX10_serve 4 (some .int)]
def wsM_6 : List Cond := [Cond.code yX10_draft cX10_draft 3 (some .int), Cond.fieldLink RX10 256 "MasterTreeModel" "drafts" "I", Cond.methodLink RX10 250 yX10_isAttribute, Cond.instanceMethod yX10_isAttribute, Cond.selects RX10 yX10_isAttribute yX10_isAttribute, Cond.methodLink RX10 253 yX10_isValue, Cond.static yX10_isValue, Cond.code yX10_undraft cX10_undraft 2 (some .int), Cond.code yX10_isDrafted cX10_isDrafted 7 (some .boolean), Cond.methodLink RX10 259 yX10_allowedBy, Cond.instanceMethod yX10_allowedBy, Cond.selects RX10 yX10_allowedBy yX10_allowedBy, Cond.methodLink RX10 262 yX10_requiredBy, Cond.instanceMethod yX10_requiredBy, Cond.selects RX10 yX10_requiredBy yX10_requiredBy, Cond.fieldLink RX10 288 "MasterTreeModel" "added" "I", Cond.methodLink RX10 265 yX10_isAt, Cond.instanceMethod yX10_isAt, Cond.selects RX10 yX10_isAt yX10_isAt, Cond.methodLink RX10 268 yX10_isClass, Cond.instanceMethod yX10_isClass, Cond.selects RX10 yX10_isClass yX10_isClass, Cond.methodLink RX10 271 yX10_isFull, Cond.instanceMethod yX10_isFull]
def wsM_7 : List Cond := [Cond.selects RX10 yX10_isFull yX10_isFull, Cond.methodLink RX10 275 yX10_mayWrite, Cond.instanceMethod yX10_mayWrite, Cond.selects RX10 yX10_mayWrite yX10_mayWrite, Cond.methodLink RX10 278 yX10_isNamed, Cond.instanceMethod yX10_isNamed, Cond.selects RX10 yX10_isNamed yX10_isNamed, Cond.methodLink RX10 281 yX10_isDrafted, Cond.instanceMethod yX10_isDrafted, Cond.selects RX10 yX10_isDrafted yX10_isDrafted, Cond.methodLink RX10 284 yX10_makes, Cond.instanceMethod yX10_makes, Cond.selects RX10 yX10_makes yX10_makes, Cond.code yX10_add cX10_add 7 (some .int), Cond.code yX10_refuses cX10_refuses 5 (some .int), Cond.methodLink RX10 291 yX10_countOf, Cond.instanceMethod yX10_countOf, Cond.selects RX10 yX10_countOf yX10_countOf, Cond.code yX10_valuesBehind cX10_valuesBehind 4 (some .int), Cond.methodLink RX10 294 yX10_refuses, Cond.instanceMethod yX10_refuses, Cond.selects RX10 yX10_refuses yX10_refuses, Cond.methodLink RX10 297 yX10_valuesBehind, Cond.instanceMethod yX10_valuesBehind]
def wsM_8 : List Cond := [Cond.selects RX10 yX10_valuesBehind yX10_valuesBehind, Cond.code yX10_addValue cX10_addValue 6 (some .int), Cond.code yX10_removeValue cX10_removeValue 7 (some .int), Cond.code yX10_replace cX10_replace 7 (some .int), Cond.code yX10_rename cX10_rename 6 (some .int), Cond.code yX10_move cX10_move 6 (some .int), Cond.code yX10_isEmpty cX10_isEmpty 4 (some .boolean), Cond.code yX10_knowsDeleted cX10_knowsDeleted 6 (some .boolean), Cond.code yX10_isMarked cX10_isMarked 3 (some .boolean), Cond.methodLink RX10 310 yX10_knowsDeleted, Cond.instanceMethod yX10_knowsDeleted, Cond.selects RX10 yX10_knowsDeleted yX10_knowsDeleted, Cond.code yX10_marksOf cX10_marksOf 4 (some .int), Cond.methodLink RX10 313 yX10_isMarked, Cond.instanceMethod yX10_isMarked, Cond.selects RX10 yX10_isMarked yX10_isMarked, Cond.methodLink RX10 301 yX10_isEmpty, Cond.instanceMethod yX10_isEmpty, Cond.selects RX10 yX10_isEmpty yX10_isEmpty, Cond.methodLink RX10 304 yX10_marksOf, Cond.instanceMethod yX10_marksOf, Cond.selects RX10 yX10_marksOf yX10_marksOf, Cond.code yX10_delete cX10_delete 4 (some .int), Cond.code yX10_link cX10_link 7 (some .int)]
def wsM_9 : List Cond := [Cond.code yX10_subjectOf cX10_subjectOf 2 (some .int), Cond.methodLink RX10 307 yX10_subjectOf, Cond.instanceMethod yX10_subjectOf, Cond.selects RX10 yX10_subjectOf yX10_subjectOf, Cond.code yX10_rule cX10_rule 10 (some .int), Cond.code yX10_exchange cX10_exchange 7 (some .int), Cond.code yX10_sweep cX10_sweep 5 (some .int), Cond.code yX10_isCrowded cX10_isCrowded 1 (some .boolean), Cond.fieldLink RX10 316 "MasterTreeModel" "filters" "I", Cond.fieldLink RX10 319 "MasterTreeModel" "parts" "I", Cond.code yX10_puts cX10_puts 4 (some .int), Cond.methodLink RX10 322 yX10_isCrowded, Cond.instanceMethod yX10_isCrowded, Cond.selects RX10 yX10_isCrowded yX10_isCrowded, Cond.methodLink RX10 325 yX10_puts, Cond.instanceMethod yX10_puts, Cond.selects RX10 yX10_puts yX10_puts, Cond.code yX10_equal cX10_equal 3 (some .int), Cond.code yX10_atLeast cX10_atLeast 3 (some .int), Cond.code yX10_has cX10_has 2 (some .int), Cond.code yX10_ofClass cX10_ofClass 2 (some .int), Cond.code yX10_combine cX10_combine 2 (some .int), Cond.code yX10_not cX10_not 1 (some .int), Cond.code yX10_wipe cX10_wipe 2 (some .int)]
def wsM_10 : List Cond := [Cond.code yX10_isClassOf cX10_isClassOf 4 (some .boolean), Cond.code yX10_isAsMuch cX10_isAsMuch 6 (some .boolean), Cond.methodLink RX10 328 yX10_isAsMuch, Cond.instanceMethod yX10_isAsMuch, Cond.selects RX10 yX10_isAsMuch yX10_isAsMuch, Cond.methodLink RX10 331 yX10_isClassOf, Cond.instanceMethod yX10_isClassOf, Cond.selects RX10 yX10_isClassOf yX10_isClassOf, Cond.code yX10_fits cX10_fits 5 (some .boolean), Cond.code yX10_isBeneath cX10_isBeneath 4 (some .boolean), Cond.code yX10_refusesSearch cX10_refusesSearch 4 (some .int), Cond.methodLink RX10 334 yX10_isBeneath, Cond.instanceMethod yX10_isBeneath, Cond.selects RX10 yX10_isBeneath yX10_isBeneath, Cond.methodLink RX10 337 yX10_fits, Cond.instanceMethod yX10_fits, Cond.selects RX10 yX10_fits yX10_fits, Cond.code yX10_isFound cX10_isFound 6 (some .boolean), Cond.fieldLink RX10 343 "MasterTreeModel" "found" "I", Cond.methodLink RX10 340 yX10_refusesSearch, Cond.instanceMethod yX10_refusesSearch, Cond.selects RX10 yX10_refusesSearch yX10_refusesSearch, Cond.methodLink RX10 346 yX10_isFound, Cond.instanceMethod yX10_isFound]
def wsM_11 : List Cond := [Cond.selects RX10 yX10_isFound yX10_isFound, Cond.code yX10_search cX10_search 5 (some .int), Cond.code yX10_searchByWalk cX10_searchByWalk 6 (some .int), Cond.code yX10_arrives cX10_arrives 4 (some .int), Cond.code yX10_looks cX10_looks 3 none, Cond.code yX10_waits cX10_waits 5 none, Cond.fieldLink RX10 350 "MasterTreeModel" "waiting" "I", Cond.methodLink RX10 353 yX10_arrives, Cond.instanceMethod yX10_arrives, Cond.selects RX10 yX10_arrives yX10_arrives, Cond.methodLink RX10 356 yX10_looks, Cond.instanceMethod yX10_looks, Cond.selects RX10 yX10_looks yX10_looks, Cond.methodLink RX10 359 yX10_waits, Cond.instanceMethod yX10_waits, Cond.selects RX10 yX10_waits yX10_waits, Cond.code yX10_follow cX10_follow 6 (some .int), Cond.code yX10_found cX10_found 2 (some .int), Cond.code yX10_live cX10_live 4 (some .int), Cond.code yX10_parentOf cX10_parentOf 3 (some .int), Cond.code yX10_parentAnew cX10_parentAnew 3 (some .int), Cond.code yX10_nameOf cX10_nameOf 3 (some .int), Cond.code yX10_valueAt cX10_valueAt 10 (some .int), Cond.code yX10_valuesAnew cX10_valuesAnew 4 (some .int)]
def wsM_12 : List Cond := [Cond.code yX10_linkOf cX10_linkOf 3 (some .int), Cond.code yX10_may cX10_may 5 (some .boolean), Cond.code yX10_childAt cX10_childAt 10 (some .int), Cond.code yX10_isIncomplete cX10_isIncomplete 4 (some .boolean), Cond.methodLink RX10 362 yX10_isIncomplete, Cond.instanceMethod yX10_isIncomplete, Cond.selects RX10 yX10_isIncomplete yX10_isIncomplete, Cond.code yX10_conflicts cX10_conflicts 6 (some .int), Cond.code yX10_knows cX10_knows 3 (some .int), Cond.code yX10_marks cX10_marks 2 (some .int), Cond.fieldLink RX10 365 "MasterTreeModel" "otherValues" "I", Cond.code yX10_keeps cX10_keeps 2 none, Cond.code yX10_hasSame cX10_hasSame 7 (some .boolean), Cond.methodLink RX10 368 yX10_keeps, Cond.instanceMethod yX10_keeps, Cond.selects RX10 yX10_keeps yX10_keeps, Cond.methodLink RX10 371 yX10_hasSame, Cond.instanceMethod yX10_hasSame, Cond.selects RX10 yX10_hasSame yX10_hasSame, Cond.code yX10_isAlike cX10_isAlike 6 (some .boolean), Cond.methodLink RX10 374 yX10_isAlike, Cond.instanceMethod yX10_isAlike, Cond.selects RX10 yX10_isAlike yX10_isAlike, Cond.code yX10_areAlike cX10_areAlike 3 (some .boolean)]
def wsMa : List Cond := wsM_0 ++ (wsM_1 ++ (wsM_2 ++ (wsM_3 ++ (wsM_4 ++ (wsM_5 ++ (wsM_6 ++ (wsM_7 ++ (wsM_8 ++ (wsM_9 ++ (wsM_10 ++ (wsM_11 ++ (wsM_12))))))))))))
def wsM : List Cond := wsMa ++ wsX100
theorem wsM_good : wsM.all goodWord = true := by decide +kernel
theorem kM_lay : ∀ w ∈ u_ws RX10 TX10 67, w ∈ wsM := fun _ h => List.mem_append_right _ h
theorem kM_0 : (Cond.methodLink RX10 1 objectInit) ∈ wsM := List.mem_of_getElem? (i := 0) rfl
theorem kM_1 : (Cond.instanceMethod objectInit) ∈ wsM := List.mem_of_getElem? (i := 1) rfl
theorem kM_2 : (Cond.code objectInit ⟨#[0xb1]⟩ 1 none) ∈ wsM := List.mem_of_getElem? (i := 2) rfl
theorem kM_3 : (Cond.arrayClass .boolean) ∈ wsM := List.mem_of_getElem? (i := 3) rfl
theorem kM_4 : (Cond.fieldLink RX10 7 "MasterTreeModel" "single" "[Z") ∈ wsM := List.mem_of_getElem? (i := 4) rfl
theorem kM_5 : (Cond.fieldLink RX10 13 "MasterTreeModel" "tens" "[Z") ∈ wsM := List.mem_of_getElem? (i := 5) rfl
theorem kM_6 : (Cond.arrayClass .int) ∈ wsM := List.mem_of_getElem? (i := 6) rfl
theorem kM_7 : (Cond.fieldLink RX10 16 "MasterTreeModel" "above" "[I") ∈ wsM := List.mem_of_getElem? (i := 7) rfl
theorem kM_8 : (Cond.fieldLink RX10 20 "MasterTreeModel" "requires" "[I") ∈ wsM := List.mem_of_getElem? (i := 8) rfl
theorem kM_9 : (Cond.fieldLink RX10 23 "MasterTreeModel" "allows" "[I") ∈ wsM := List.mem_of_getElem? (i := 9) rfl
theorem kM_10 : (Cond.fieldLink RX10 26 "MasterTreeModel" "draftAttribute" "[I") ∈ wsM := List.mem_of_getElem? (i := 10) rfl
theorem kM_11 : (Cond.fieldLink RX10 29 "MasterTreeModel" "draftValue" "[I") ∈ wsM := List.mem_of_getElem? (i := 11) rfl
theorem kM_12 : (Cond.fieldLink RX10 32 "MasterTreeModel" "part" "[I") ∈ wsM := List.mem_of_getElem? (i := 12) rfl
theorem kM_13 : (Cond.fieldLink RX10 35 "MasterTreeModel" "left" "[I") ∈ wsM := List.mem_of_getElem? (i := 13) rfl
theorem kM_14 : (Cond.fieldLink RX10 38 "MasterTreeModel" "right" "[I") ∈ wsM := List.mem_of_getElem? (i := 14) rfl
theorem kM_15 : (Cond.fieldLink RX10 41 "MasterTreeModel" "truth" "[Z") ∈ wsM := List.mem_of_getElem? (i := 15) rfl
theorem kM_16 : (Cond.fieldLink RX10 44 "MasterTreeModel" "filter" "[I") ∈ wsM := List.mem_of_getElem? (i := 16) rfl
theorem kM_17 : (Cond.fieldLink RX10 47 "MasterTreeModel" "user" "[I") ∈ wsM := List.mem_of_getElem? (i := 17) rfl
theorem kM_18 : (Cond.fieldLink RX10 50 "MasterTreeModel" "view" "[I") ∈ wsM := List.mem_of_getElem? (i := 18) rfl
theorem kM_19 : (Cond.fieldLink RX10 53 "MasterTreeModel" "dropped" "[Z") ∈ wsM := List.mem_of_getElem? (i := 19) rfl
theorem kM_20 : (Cond.fieldLink RX10 56 "MasterTreeModel" "entries" "I") ∈ wsM := List.mem_of_getElem? (i := 20) rfl
theorem kM_21 : (Cond.fieldLink RX10 60 "MasterTreeModel" "stamp" "[I") ∈ wsM := List.mem_of_getElem? (i := 21) rfl
theorem kM_22 : (Cond.fieldLink RX10 63 "MasterTreeModel" "maker" "[I") ∈ wsM := List.mem_of_getElem? (i := 22) rfl
theorem kM_23 : (Cond.fieldLink RX10 66 "MasterTreeModel" "number" "[I") ∈ wsM := List.mem_of_getElem? (i := 23) rfl
theorem kM_24 : (Cond.fieldLink RX10 69 "MasterTreeModel" "kind" "[I") ∈ wsM := List.mem_of_getElem? (i := 24) rfl
theorem kM_25 : (Cond.fieldLink RX10 72 "MasterTreeModel" "of" "[I") ∈ wsM := List.mem_of_getElem? (i := 25) rfl
theorem kM_26 : (Cond.fieldLink RX10 75 "MasterTreeModel" "one" "[I") ∈ wsM := List.mem_of_getElem? (i := 26) rfl
theorem kM_27 : (Cond.fieldLink RX10 78 "MasterTreeModel" "two" "[I") ∈ wsM := List.mem_of_getElem? (i := 27) rfl
theorem kM_28 : (Cond.fieldLink RX10 81 "MasterTreeModel" "three" "[I") ∈ wsM := List.mem_of_getElem? (i := 28) rfl
theorem kM_29 : (Cond.fieldLink RX10 84 "MasterTreeModel" "from" "[I") ∈ wsM := List.mem_of_getElem? (i := 29) rfl
theorem kM_30 : (Cond.fieldLink RX10 87 "MasterTreeModel" "to" "[I") ∈ wsM := List.mem_of_getElem? (i := 30) rfl
theorem kM_31 : (Cond.fieldLink RX10 90 "MasterTreeModel" "addedAttribute" "[I") ∈ wsM := List.mem_of_getElem? (i := 31) rfl
theorem kM_32 : (Cond.fieldLink RX10 93 "MasterTreeModel" "addedValue" "[I") ∈ wsM := List.mem_of_getElem? (i := 32) rfl
theorem kM_33 : (Cond.fieldLink RX10 96 "MasterTreeModel" "order" "[I") ∈ wsM := List.mem_of_getElem? (i := 33) rfl
theorem kM_34 : (Cond.fieldLink RX10 99 "MasterTreeModel" "laid" "I") ∈ wsM := List.mem_of_getElem? (i := 34) rfl
theorem kM_35 : (Cond.fieldLink RX10 102 "MasterTreeModel" "there" "[Z") ∈ wsM := List.mem_of_getElem? (i := 35) rfl
theorem kM_36 : (Cond.fieldLink RX10 105 "MasterTreeModel" "dead" "[Z") ∈ wsM := List.mem_of_getElem? (i := 36) rfl
theorem kM_37 : (Cond.fieldLink RX10 108 "MasterTreeModel" "klass" "[I") ∈ wsM := List.mem_of_getElem? (i := 37) rfl
theorem kM_38 : (Cond.fieldLink RX10 111 "MasterTreeModel" "parent" "[I") ∈ wsM := List.mem_of_getElem? (i := 38) rfl
theorem kM_39 : (Cond.fieldLink RX10 114 "MasterTreeModel" "name" "[I") ∈ wsM := List.mem_of_getElem? (i := 39) rfl
theorem kM_40 : (Cond.fieldLink RX10 117 "MasterTreeModel" "target" "[I") ∈ wsM := List.mem_of_getElem? (i := 40) rfl
theorem kM_41 : (Cond.fieldLink RX10 120 "MasterTreeModel" "born" "[I") ∈ wsM := List.mem_of_getElem? (i := 41) rfl
theorem kM_42 : (Cond.fieldLink RX10 123 "MasterTreeModel" "place" "[I") ∈ wsM := List.mem_of_getElem? (i := 42) rfl
theorem kM_43 : (Cond.fieldLink RX10 126 "MasterTreeModel" "shown" "[I") ∈ wsM := List.mem_of_getElem? (i := 43) rfl
theorem kM_44 : (Cond.fieldLink RX10 129 "MasterTreeModel" "valueEntry" "[I") ∈ wsM := List.mem_of_getElem? (i := 44) rfl
theorem kM_45 : (Cond.fieldLink RX10 132 "MasterTreeModel" "valueAttribute" "[I") ∈ wsM := List.mem_of_getElem? (i := 45) rfl
theorem kM_46 : (Cond.fieldLink RX10 135 "MasterTreeModel" "valueOf" "[I") ∈ wsM := List.mem_of_getElem? (i := 46) rfl
theorem kM_47 : (Cond.fieldLink RX10 138 "MasterTreeModel" "says" "[I") ∈ wsM := List.mem_of_getElem? (i := 47) rfl
theorem kM_48 : (Cond.fieldLink RX10 141 "MasterTreeModel" "foundAt" "[I") ∈ wsM := List.mem_of_getElem? (i := 48) rfl
theorem kM_49 : (Cond.fieldLink RX10 144 "MasterTreeModel" "queue" "[I") ∈ wsM := List.mem_of_getElem? (i := 49) rfl
theorem kM_50 : (Cond.fieldLink RX10 147 "MasterTreeModel" "met" "[Z") ∈ wsM := List.mem_of_getElem? (i := 50) rfl
theorem kM_51 : (Cond.fieldLink RX10 150 "MasterTreeModel" "otherLive" "[Z") ∈ wsM := List.mem_of_getElem? (i := 51) rfl
theorem kM_52 : (Cond.fieldLink RX10 153 "MasterTreeModel" "otherKlass" "[I") ∈ wsM := List.mem_of_getElem? (i := 52) rfl
theorem kM_53 : (Cond.fieldLink RX10 156 "MasterTreeModel" "otherPlace" "[I") ∈ wsM := List.mem_of_getElem? (i := 53) rfl
theorem kM_54 : (Cond.fieldLink RX10 159 "MasterTreeModel" "otherShown" "[I") ∈ wsM := List.mem_of_getElem? (i := 54) rfl
theorem kM_55 : (Cond.fieldLink RX10 162 "MasterTreeModel" "otherTarget" "[I") ∈ wsM := List.mem_of_getElem? (i := 55) rfl
theorem kM_56 : (Cond.fieldLink RX10 165 "MasterTreeModel" "otherEntry" "[I") ∈ wsM := List.mem_of_getElem? (i := 56) rfl
theorem kM_57 : (Cond.fieldLink RX10 168 "MasterTreeModel" "otherAttribute" "[I") ∈ wsM := List.mem_of_getElem? (i := 57) rfl
theorem kM_58 : (Cond.fieldLink RX10 171 "MasterTreeModel" "otherOf" "[I") ∈ wsM := List.mem_of_getElem? (i := 58) rfl
theorem kM_59 : (Cond.fieldLink RX10 174 "MasterTreeModel" "otherSays" "[I") ∈ wsM := List.mem_of_getElem? (i := 59) rfl
theorem kM_60 : (Cond.code yX10_init cX10_init 1 none) ∈ wsM := List.mem_of_getElem? (i := 60) rfl
theorem kM_61 : (Cond.code yX10_thrown cX10_thrown 1 (some .int)) ∈ wsM := List.mem_of_getElem? (i := 61) rfl
theorem kM_62 : (Cond.fieldLink RX10 177 "MasterTreeModel" "thrown" "I") ∈ wsM := List.mem_of_getElem? (i := 62) rfl
theorem kM_63 : (Cond.code yX10_fails cX10_fails 2 (some .int)) ∈ wsM := List.mem_of_getElem? (i := 63) rfl
theorem kM_64 : (Cond.code yX10_in cX10_in 3 (some .boolean)) ∈ wsM := List.mem_of_getElem? (i := 64) rfl
theorem kM_65 : (Cond.code yX10_isMaster cX10_isMaster 1 (some .boolean)) ∈ wsM := List.mem_of_getElem? (i := 65) rfl
theorem kM_66 : (Cond.methodLink RX10 180 yX10_in) ∈ wsM := List.mem_of_getElem? (i := 66) rfl
theorem kM_67 : (Cond.static yX10_in) ∈ wsM := List.mem_of_getElem? (i := 67) rfl
theorem kM_68 : (Cond.initialized RX10) ∈ wsM := List.mem_of_getElem? (i := 68) rfl
theorem kM_69 : (Cond.code yX10_isAttribute cX10_isAttribute 2 (some .boolean)) ∈ wsM := List.mem_of_getElem? (i := 69) rfl
theorem kM_70 : (Cond.fieldLink RX10 184 "MasterTreeModel" "attributes" "I") ∈ wsM := List.mem_of_getElem? (i := 70) rfl
theorem kM_71 : (Cond.code yX10_isClass cX10_isClass 2 (some .boolean)) ∈ wsM := List.mem_of_getElem? (i := 71) rfl
theorem kM_72 : (Cond.fieldLink RX10 187 "MasterTreeModel" "classes" "I") ∈ wsM := List.mem_of_getElem? (i := 72) rfl
theorem kM_73 : (Cond.code yX10_isValue cX10_isValue 1 (some .boolean)) ∈ wsM := List.mem_of_getElem? (i := 73) rfl
theorem kM_74 : (Cond.code yX10_key cX10_key 3 (some .int)) ∈ wsM := List.mem_of_getElem? (i := 74) rfl
theorem kM_75 : (Cond.code yX10_isKnown cX10_isKnown 3 (some .boolean)) ∈ wsM := List.mem_of_getElem? (i := 75) rfl
theorem kM_76 : (Cond.code yX10_drops cX10_drops 8 none) ∈ wsM := List.mem_of_getElem? (i := 76) rfl
theorem kM_77 : (Cond.fieldLink RX10 190 "MasterTreeModel" "values" "I") ∈ wsM := List.mem_of_getElem? (i := 77) rfl
theorem kM_78 : (Cond.methodLink RX10 193 yX10_key) ∈ wsM := List.mem_of_getElem? (i := 78) rfl
theorem kM_79 : (Cond.instanceMethod yX10_key) ∈ wsM := List.mem_of_getElem? (i := 79) rfl
theorem kM_80 : (Cond.selects RX10 yX10_key yX10_key) ∈ wsM := List.mem_of_getElem? (i := 80) rfl
theorem kM_81 : (Cond.code yX10_comes cX10_comes 4 none) ∈ wsM := List.mem_of_getElem? (i := 81) rfl
theorem kM_82 : (Cond.code yX10_takesValue cX10_takesValue 4 none) ∈ wsM := List.mem_of_getElem? (i := 82) rfl
theorem kM_83 : (Cond.methodLink RX10 197 yX10_drops) ∈ wsM := List.mem_of_getElem? (i := 83) rfl
theorem kM_84 : (Cond.instanceMethod yX10_drops) ∈ wsM := List.mem_of_getElem? (i := 84) rfl
theorem kM_85 : (Cond.selects RX10 yX10_drops yX10_drops) ∈ wsM := List.mem_of_getElem? (i := 85) rfl
theorem kM_86 : (Cond.methodLink RX10 201 yX10_comes) ∈ wsM := List.mem_of_getElem? (i := 86) rfl
theorem kM_87 : (Cond.instanceMethod yX10_comes) ∈ wsM := List.mem_of_getElem? (i := 87) rfl
theorem kM_88 : (Cond.selects RX10 yX10_comes yX10_comes) ∈ wsM := List.mem_of_getElem? (i := 88) rfl
theorem kM_89 : (Cond.code yX10_isUp cX10_isUp 4 (some .boolean)) ∈ wsM := List.mem_of_getElem? (i := 89) rfl
theorem kM_90 : (Cond.methodLink RX10 205 yX10_takesValue) ∈ wsM := List.mem_of_getElem? (i := 90) rfl
theorem kM_91 : (Cond.instanceMethod yX10_takesValue) ∈ wsM := List.mem_of_getElem? (i := 91) rfl
theorem kM_92 : (Cond.selects RX10 yX10_takesValue yX10_takesValue) ∈ wsM := List.mem_of_getElem? (i := 92) rfl
theorem kM_93 : (Cond.methodLink RX10 208 yX10_isUp) ∈ wsM := List.mem_of_getElem? (i := 93) rfl
theorem kM_94 : (Cond.instanceMethod yX10_isUp) ∈ wsM := List.mem_of_getElem? (i := 94) rfl
theorem kM_95 : (Cond.selects RX10 yX10_isUp yX10_isUp) ∈ wsM := List.mem_of_getElem? (i := 95) rfl
theorem kM_96 : (Cond.code yX10_does cX10_does 5 none) ∈ wsM := List.mem_of_getElem? (i := 96) rfl
theorem kM_97 : (Cond.code yX10_isLive cX10_isLive 2 (some .boolean)) ∈ wsM := List.mem_of_getElem? (i := 97) rfl
theorem kM_98 : (Cond.fieldLink RX10 212 "MasterTreeModel" "changes" "I") ∈ wsM := List.mem_of_getElem? (i := 98) rfl
theorem kM_99 : (Cond.methodLink RX10 215 yX10_isKnown) ∈ wsM := List.mem_of_getElem? (i := 99) rfl
theorem kM_100 : (Cond.instanceMethod yX10_isKnown) ∈ wsM := List.mem_of_getElem? (i := 100) rfl
theorem kM_101 : (Cond.selects RX10 yX10_isKnown yX10_isKnown) ∈ wsM := List.mem_of_getElem? (i := 101) rfl
theorem kM_102 : (Cond.methodLink RX10 218 yX10_does) ∈ wsM := List.mem_of_getElem? (i := 102) rfl
theorem kM_103 : (Cond.instanceMethod yX10_does) ∈ wsM := List.mem_of_getElem? (i := 103) rfl
theorem kM_104 : (Cond.selects RX10 yX10_does yX10_does) ∈ wsM := List.mem_of_getElem? (i := 104) rfl
theorem kM_105 : (Cond.methodLink RX10 222 yX10_isLive) ∈ wsM := List.mem_of_getElem? (i := 105) rfl
theorem kM_106 : (Cond.instanceMethod yX10_isLive) ∈ wsM := List.mem_of_getElem? (i := 106) rfl
theorem kM_107 : (Cond.selects RX10 yX10_isLive yX10_isLive) ∈ wsM := List.mem_of_getElem? (i := 107) rfl
theorem kM_108 : (Cond.code yX10_lays cX10_lays 5 none) ∈ wsM := List.mem_of_getElem? (i := 108) rfl
theorem kM_109 : (Cond.methodLink RX10 226 yX10_isMaster) ∈ wsM := List.mem_of_getElem? (i := 109) rfl
theorem kM_110 : (Cond.static yX10_isMaster) ∈ wsM := List.mem_of_getElem? (i := 110) rfl
theorem kM_111 : (Cond.methodLink RX10 229 yX10_lays) ∈ wsM := List.mem_of_getElem? (i := 111) rfl
theorem kM_112 : (Cond.instanceMethod yX10_lays) ∈ wsM := List.mem_of_getElem? (i := 112) rfl
theorem kM_113 : (Cond.selects RX10 yX10_lays yX10_lays) ∈ wsM := List.mem_of_getElem? (i := 113) rfl
theorem kM_114 : (Cond.code yX10_isAt cX10_isAt 3 (some .boolean)) ∈ wsM := List.mem_of_getElem? (i := 114) rfl
theorem kM_115 : (Cond.code yX10_countOf cX10_countOf 5 (some .int)) ∈ wsM := List.mem_of_getElem? (i := 115) rfl
theorem kM_116 : (Cond.code yX10_hasMatch cX10_hasMatch 6 (some .boolean)) ∈ wsM := List.mem_of_getElem? (i := 116) rfl
theorem kM_117 : (Cond.code yX10_isNamed cX10_isNamed 6 (some .boolean)) ∈ wsM := List.mem_of_getElem? (i := 117) rfl
theorem kM_118 : (Cond.code yX10_requiredBy cX10_requiredBy 4 (some .int)) ∈ wsM := List.mem_of_getElem? (i := 118) rfl
theorem kM_119 : (Cond.code yX10_allowedBy cX10_allowedBy 4 (some .int)) ∈ wsM := List.mem_of_getElem? (i := 119) rfl
theorem kM_120 : (Cond.code yX10_applies cX10_applies 3 (some .boolean)) ∈ wsM := List.mem_of_getElem? (i := 120) rfl
theorem kM_121 : (Cond.methodLink RX10 233 yX10_hasMatch) ∈ wsM := List.mem_of_getElem? (i := 121) rfl
theorem kM_122 : (Cond.instanceMethod yX10_hasMatch) ∈ wsM := List.mem_of_getElem? (i := 122) rfl
theorem kM_123 : (Cond.selects RX10 yX10_hasMatch yX10_hasMatch) ∈ wsM := List.mem_of_getElem? (i := 123) rfl
theorem kM_124 : (Cond.methodLink RX10 236 yX10_applies) ∈ wsM := List.mem_of_getElem? (i := 124) rfl
theorem kM_125 : (Cond.instanceMethod yX10_applies) ∈ wsM := List.mem_of_getElem? (i := 125) rfl
theorem kM_126 : (Cond.selects RX10 yX10_applies yX10_applies) ∈ wsM := List.mem_of_getElem? (i := 126) rfl
theorem kM_127 : (Cond.code yX10_decides cX10_decides 12 (some .int)) ∈ wsM := List.mem_of_getElem? (i := 127) rfl
theorem kM_128 : (Cond.methodLink RX10 239 yX10_decides) ∈ wsM := List.mem_of_getElem? (i := 128) rfl
theorem kM_129 : (Cond.instanceMethod yX10_decides) ∈ wsM := List.mem_of_getElem? (i := 129) rfl
theorem kM_130 : (Cond.selects RX10 yX10_decides yX10_decides) ∈ wsM := List.mem_of_getElem? (i := 130) rfl
theorem kM_131 : (Cond.code yX10_mayDo cX10_mayDo 7 (some .boolean)) ∈ wsM := List.mem_of_getElem? (i := 131) rfl
theorem kM_132 : (Cond.methodLink RX10 243 yX10_mayDo) ∈ wsM := List.mem_of_getElem? (i := 132) rfl
theorem kM_133 : (Cond.instanceMethod yX10_mayDo) ∈ wsM := List.mem_of_getElem? (i := 133) rfl
theorem kM_134 : (Cond.selects RX10 yX10_mayDo yX10_mayDo) ∈ wsM := List.mem_of_getElem? (i := 134) rfl
theorem kM_135 : (Cond.code yX10_mayWrite cX10_mayWrite 3 (some .boolean)) ∈ wsM := List.mem_of_getElem? (i := 135) rfl
theorem kM_136 : (Cond.code yX10_makes cX10_makes 10 (some .int)) ∈ wsM := List.mem_of_getElem? (i := 136) rfl
theorem kM_137 : (Cond.code yX10_isFull cX10_isFull 1 (some .boolean)) ∈ wsM := List.mem_of_getElem? (i := 137) rfl
theorem kM_138 : (Cond.code yX10_attribute cX10_attribute 3 (some .int)) ∈ wsM := List.mem_of_getElem? (i := 138) rfl
theorem kM_139 : (Cond.methodLink RX10 246 yX10_fails) ∈ wsM := List.mem_of_getElem? (i := 139) rfl
theorem kM_140 : (Cond.instanceMethod yX10_fails) ∈ wsM := List.mem_of_getElem? (i := 140) rfl
theorem kM_141 : (Cond.selects RX10 yX10_fails yX10_fails) ∈ wsM := List.mem_of_getElem? (i := 141) rfl
theorem kM_142 : (Cond.code yX10_objectClass cX10_objectClass 4 (some .int)) ∈ wsM := List.mem_of_getElem? (i := 142) rfl
theorem kM_143 : (Cond.code yX10_serve cX10_serve 4 (some .int)) ∈ wsM := List.mem_of_getElem? (i := 143) rfl
theorem kM_144 : (Cond.code yX10_draft cX10_draft 3 (some .int)) ∈ wsM := List.mem_of_getElem? (i := 144) rfl
theorem kM_145 : (Cond.fieldLink RX10 256 "MasterTreeModel" "drafts" "I") ∈ wsM := List.mem_of_getElem? (i := 145) rfl
theorem kM_146 : (Cond.methodLink RX10 250 yX10_isAttribute) ∈ wsM := List.mem_of_getElem? (i := 146) rfl
theorem kM_147 : (Cond.instanceMethod yX10_isAttribute) ∈ wsM := List.mem_of_getElem? (i := 147) rfl
theorem kM_148 : (Cond.selects RX10 yX10_isAttribute yX10_isAttribute) ∈ wsM := List.mem_of_getElem? (i := 148) rfl
theorem kM_149 : (Cond.methodLink RX10 253 yX10_isValue) ∈ wsM := List.mem_of_getElem? (i := 149) rfl
theorem kM_150 : (Cond.static yX10_isValue) ∈ wsM := List.mem_of_getElem? (i := 150) rfl
theorem kM_151 : (Cond.code yX10_undraft cX10_undraft 2 (some .int)) ∈ wsM := List.mem_of_getElem? (i := 151) rfl
theorem kM_152 : (Cond.code yX10_isDrafted cX10_isDrafted 7 (some .boolean)) ∈ wsM := List.mem_of_getElem? (i := 152) rfl
theorem kM_153 : (Cond.methodLink RX10 259 yX10_allowedBy) ∈ wsM := List.mem_of_getElem? (i := 153) rfl
theorem kM_154 : (Cond.instanceMethod yX10_allowedBy) ∈ wsM := List.mem_of_getElem? (i := 154) rfl
theorem kM_155 : (Cond.selects RX10 yX10_allowedBy yX10_allowedBy) ∈ wsM := List.mem_of_getElem? (i := 155) rfl
theorem kM_156 : (Cond.methodLink RX10 262 yX10_requiredBy) ∈ wsM := List.mem_of_getElem? (i := 156) rfl
theorem kM_157 : (Cond.instanceMethod yX10_requiredBy) ∈ wsM := List.mem_of_getElem? (i := 157) rfl
theorem kM_158 : (Cond.selects RX10 yX10_requiredBy yX10_requiredBy) ∈ wsM := List.mem_of_getElem? (i := 158) rfl
theorem kM_159 : (Cond.fieldLink RX10 288 "MasterTreeModel" "added" "I") ∈ wsM := List.mem_of_getElem? (i := 159) rfl
theorem kM_160 : (Cond.methodLink RX10 265 yX10_isAt) ∈ wsM := List.mem_of_getElem? (i := 160) rfl
theorem kM_161 : (Cond.instanceMethod yX10_isAt) ∈ wsM := List.mem_of_getElem? (i := 161) rfl
theorem kM_162 : (Cond.selects RX10 yX10_isAt yX10_isAt) ∈ wsM := List.mem_of_getElem? (i := 162) rfl
theorem kM_163 : (Cond.methodLink RX10 268 yX10_isClass) ∈ wsM := List.mem_of_getElem? (i := 163) rfl
theorem kM_164 : (Cond.instanceMethod yX10_isClass) ∈ wsM := List.mem_of_getElem? (i := 164) rfl
theorem kM_165 : (Cond.selects RX10 yX10_isClass yX10_isClass) ∈ wsM := List.mem_of_getElem? (i := 165) rfl
theorem kM_166 : (Cond.methodLink RX10 271 yX10_isFull) ∈ wsM := List.mem_of_getElem? (i := 166) rfl
theorem kM_167 : (Cond.instanceMethod yX10_isFull) ∈ wsM := List.mem_of_getElem? (i := 167) rfl
theorem kM_168 : (Cond.selects RX10 yX10_isFull yX10_isFull) ∈ wsM := List.mem_of_getElem? (i := 168) rfl
theorem kM_169 : (Cond.methodLink RX10 275 yX10_mayWrite) ∈ wsM := List.mem_of_getElem? (i := 169) rfl
theorem kM_170 : (Cond.instanceMethod yX10_mayWrite) ∈ wsM := List.mem_of_getElem? (i := 170) rfl
theorem kM_171 : (Cond.selects RX10 yX10_mayWrite yX10_mayWrite) ∈ wsM := List.mem_of_getElem? (i := 171) rfl
theorem kM_172 : (Cond.methodLink RX10 278 yX10_isNamed) ∈ wsM := List.mem_of_getElem? (i := 172) rfl
theorem kM_173 : (Cond.instanceMethod yX10_isNamed) ∈ wsM := List.mem_of_getElem? (i := 173) rfl
theorem kM_174 : (Cond.selects RX10 yX10_isNamed yX10_isNamed) ∈ wsM := List.mem_of_getElem? (i := 174) rfl
theorem kM_175 : (Cond.methodLink RX10 281 yX10_isDrafted) ∈ wsM := List.mem_of_getElem? (i := 175) rfl
theorem kM_176 : (Cond.instanceMethod yX10_isDrafted) ∈ wsM := List.mem_of_getElem? (i := 176) rfl
theorem kM_177 : (Cond.selects RX10 yX10_isDrafted yX10_isDrafted) ∈ wsM := List.mem_of_getElem? (i := 177) rfl
theorem kM_178 : (Cond.methodLink RX10 284 yX10_makes) ∈ wsM := List.mem_of_getElem? (i := 178) rfl
theorem kM_179 : (Cond.instanceMethod yX10_makes) ∈ wsM := List.mem_of_getElem? (i := 179) rfl
theorem kM_180 : (Cond.selects RX10 yX10_makes yX10_makes) ∈ wsM := List.mem_of_getElem? (i := 180) rfl
theorem kM_181 : (Cond.code yX10_add cX10_add 7 (some .int)) ∈ wsM := List.mem_of_getElem? (i := 181) rfl
theorem kM_182 : (Cond.code yX10_refuses cX10_refuses 5 (some .int)) ∈ wsM := List.mem_of_getElem? (i := 182) rfl
theorem kM_183 : (Cond.methodLink RX10 291 yX10_countOf) ∈ wsM := List.mem_of_getElem? (i := 183) rfl
theorem kM_184 : (Cond.instanceMethod yX10_countOf) ∈ wsM := List.mem_of_getElem? (i := 184) rfl
theorem kM_185 : (Cond.selects RX10 yX10_countOf yX10_countOf) ∈ wsM := List.mem_of_getElem? (i := 185) rfl
theorem kM_186 : (Cond.code yX10_valuesBehind cX10_valuesBehind 4 (some .int)) ∈ wsM := List.mem_of_getElem? (i := 186) rfl
theorem kM_187 : (Cond.methodLink RX10 294 yX10_refuses) ∈ wsM := List.mem_of_getElem? (i := 187) rfl
theorem kM_188 : (Cond.instanceMethod yX10_refuses) ∈ wsM := List.mem_of_getElem? (i := 188) rfl
theorem kM_189 : (Cond.selects RX10 yX10_refuses yX10_refuses) ∈ wsM := List.mem_of_getElem? (i := 189) rfl
theorem kM_190 : (Cond.methodLink RX10 297 yX10_valuesBehind) ∈ wsM := List.mem_of_getElem? (i := 190) rfl
theorem kM_191 : (Cond.instanceMethod yX10_valuesBehind) ∈ wsM := List.mem_of_getElem? (i := 191) rfl
theorem kM_192 : (Cond.selects RX10 yX10_valuesBehind yX10_valuesBehind) ∈ wsM := List.mem_of_getElem? (i := 192) rfl
theorem kM_193 : (Cond.code yX10_addValue cX10_addValue 6 (some .int)) ∈ wsM := List.mem_of_getElem? (i := 193) rfl
theorem kM_194 : (Cond.code yX10_removeValue cX10_removeValue 7 (some .int)) ∈ wsM := List.mem_of_getElem? (i := 194) rfl
theorem kM_195 : (Cond.code yX10_replace cX10_replace 7 (some .int)) ∈ wsM := List.mem_of_getElem? (i := 195) rfl
theorem kM_196 : (Cond.code yX10_rename cX10_rename 6 (some .int)) ∈ wsM := List.mem_of_getElem? (i := 196) rfl
theorem kM_197 : (Cond.code yX10_move cX10_move 6 (some .int)) ∈ wsM := List.mem_of_getElem? (i := 197) rfl
theorem kM_198 : (Cond.code yX10_isEmpty cX10_isEmpty 4 (some .boolean)) ∈ wsM := List.mem_of_getElem? (i := 198) rfl
theorem kM_199 : (Cond.code yX10_knowsDeleted cX10_knowsDeleted 6 (some .boolean)) ∈ wsM := List.mem_of_getElem? (i := 199) rfl
theorem kM_200 : (Cond.code yX10_isMarked cX10_isMarked 3 (some .boolean)) ∈ wsM := List.mem_of_getElem? (i := 200) rfl
theorem kM_201 : (Cond.methodLink RX10 310 yX10_knowsDeleted) ∈ wsM := List.mem_of_getElem? (i := 201) rfl
theorem kM_202 : (Cond.instanceMethod yX10_knowsDeleted) ∈ wsM := List.mem_of_getElem? (i := 202) rfl
theorem kM_203 : (Cond.selects RX10 yX10_knowsDeleted yX10_knowsDeleted) ∈ wsM := List.mem_of_getElem? (i := 203) rfl
theorem kM_204 : (Cond.code yX10_marksOf cX10_marksOf 4 (some .int)) ∈ wsM := List.mem_of_getElem? (i := 204) rfl
theorem kM_205 : (Cond.methodLink RX10 313 yX10_isMarked) ∈ wsM := List.mem_of_getElem? (i := 205) rfl
theorem kM_206 : (Cond.instanceMethod yX10_isMarked) ∈ wsM := List.mem_of_getElem? (i := 206) rfl
theorem kM_207 : (Cond.selects RX10 yX10_isMarked yX10_isMarked) ∈ wsM := List.mem_of_getElem? (i := 207) rfl
theorem kM_208 : (Cond.methodLink RX10 301 yX10_isEmpty) ∈ wsM := List.mem_of_getElem? (i := 208) rfl
theorem kM_209 : (Cond.instanceMethod yX10_isEmpty) ∈ wsM := List.mem_of_getElem? (i := 209) rfl
theorem kM_210 : (Cond.selects RX10 yX10_isEmpty yX10_isEmpty) ∈ wsM := List.mem_of_getElem? (i := 210) rfl
theorem kM_211 : (Cond.methodLink RX10 304 yX10_marksOf) ∈ wsM := List.mem_of_getElem? (i := 211) rfl
theorem kM_212 : (Cond.instanceMethod yX10_marksOf) ∈ wsM := List.mem_of_getElem? (i := 212) rfl
theorem kM_213 : (Cond.selects RX10 yX10_marksOf yX10_marksOf) ∈ wsM := List.mem_of_getElem? (i := 213) rfl
theorem kM_214 : (Cond.code yX10_delete cX10_delete 4 (some .int)) ∈ wsM := List.mem_of_getElem? (i := 214) rfl
theorem kM_215 : (Cond.code yX10_link cX10_link 7 (some .int)) ∈ wsM := List.mem_of_getElem? (i := 215) rfl
theorem kM_216 : (Cond.code yX10_subjectOf cX10_subjectOf 2 (some .int)) ∈ wsM := List.mem_of_getElem? (i := 216) rfl
theorem kM_217 : (Cond.methodLink RX10 307 yX10_subjectOf) ∈ wsM := List.mem_of_getElem? (i := 217) rfl
theorem kM_218 : (Cond.instanceMethod yX10_subjectOf) ∈ wsM := List.mem_of_getElem? (i := 218) rfl
theorem kM_219 : (Cond.selects RX10 yX10_subjectOf yX10_subjectOf) ∈ wsM := List.mem_of_getElem? (i := 219) rfl
theorem kM_220 : (Cond.code yX10_rule cX10_rule 10 (some .int)) ∈ wsM := List.mem_of_getElem? (i := 220) rfl
theorem kM_221 : (Cond.code yX10_exchange cX10_exchange 7 (some .int)) ∈ wsM := List.mem_of_getElem? (i := 221) rfl
theorem kM_222 : (Cond.code yX10_sweep cX10_sweep 5 (some .int)) ∈ wsM := List.mem_of_getElem? (i := 222) rfl
theorem kM_223 : (Cond.code yX10_isCrowded cX10_isCrowded 1 (some .boolean)) ∈ wsM := List.mem_of_getElem? (i := 223) rfl
theorem kM_224 : (Cond.fieldLink RX10 316 "MasterTreeModel" "filters" "I") ∈ wsM := List.mem_of_getElem? (i := 224) rfl
theorem kM_225 : (Cond.fieldLink RX10 319 "MasterTreeModel" "parts" "I") ∈ wsM := List.mem_of_getElem? (i := 225) rfl
theorem kM_226 : (Cond.code yX10_puts cX10_puts 4 (some .int)) ∈ wsM := List.mem_of_getElem? (i := 226) rfl
theorem kM_227 : (Cond.methodLink RX10 322 yX10_isCrowded) ∈ wsM := List.mem_of_getElem? (i := 227) rfl
theorem kM_228 : (Cond.instanceMethod yX10_isCrowded) ∈ wsM := List.mem_of_getElem? (i := 228) rfl
theorem kM_229 : (Cond.selects RX10 yX10_isCrowded yX10_isCrowded) ∈ wsM := List.mem_of_getElem? (i := 229) rfl
theorem kM_230 : (Cond.methodLink RX10 325 yX10_puts) ∈ wsM := List.mem_of_getElem? (i := 230) rfl
theorem kM_231 : (Cond.instanceMethod yX10_puts) ∈ wsM := List.mem_of_getElem? (i := 231) rfl
theorem kM_232 : (Cond.selects RX10 yX10_puts yX10_puts) ∈ wsM := List.mem_of_getElem? (i := 232) rfl
theorem kM_233 : (Cond.code yX10_equal cX10_equal 3 (some .int)) ∈ wsM := List.mem_of_getElem? (i := 233) rfl
theorem kM_234 : (Cond.code yX10_atLeast cX10_atLeast 3 (some .int)) ∈ wsM := List.mem_of_getElem? (i := 234) rfl
theorem kM_235 : (Cond.code yX10_has cX10_has 2 (some .int)) ∈ wsM := List.mem_of_getElem? (i := 235) rfl
theorem kM_236 : (Cond.code yX10_ofClass cX10_ofClass 2 (some .int)) ∈ wsM := List.mem_of_getElem? (i := 236) rfl
theorem kM_237 : (Cond.code yX10_combine cX10_combine 2 (some .int)) ∈ wsM := List.mem_of_getElem? (i := 237) rfl
theorem kM_238 : (Cond.code yX10_not cX10_not 1 (some .int)) ∈ wsM := List.mem_of_getElem? (i := 238) rfl
theorem kM_239 : (Cond.code yX10_wipe cX10_wipe 2 (some .int)) ∈ wsM := List.mem_of_getElem? (i := 239) rfl
theorem kM_240 : (Cond.code yX10_isClassOf cX10_isClassOf 4 (some .boolean)) ∈ wsM := List.mem_of_getElem? (i := 240) rfl
theorem kM_241 : (Cond.code yX10_isAsMuch cX10_isAsMuch 6 (some .boolean)) ∈ wsM := List.mem_of_getElem? (i := 241) rfl
theorem kM_242 : (Cond.methodLink RX10 328 yX10_isAsMuch) ∈ wsM := List.mem_of_getElem? (i := 242) rfl
theorem kM_243 : (Cond.instanceMethod yX10_isAsMuch) ∈ wsM := List.mem_of_getElem? (i := 243) rfl
theorem kM_244 : (Cond.selects RX10 yX10_isAsMuch yX10_isAsMuch) ∈ wsM := List.mem_of_getElem? (i := 244) rfl
theorem kM_245 : (Cond.methodLink RX10 331 yX10_isClassOf) ∈ wsM := List.mem_of_getElem? (i := 245) rfl
theorem kM_246 : (Cond.instanceMethod yX10_isClassOf) ∈ wsM := List.mem_of_getElem? (i := 246) rfl
theorem kM_247 : (Cond.selects RX10 yX10_isClassOf yX10_isClassOf) ∈ wsM := List.mem_of_getElem? (i := 247) rfl
theorem kM_248 : (Cond.code yX10_fits cX10_fits 5 (some .boolean)) ∈ wsM := List.mem_of_getElem? (i := 248) rfl
theorem kM_249 : (Cond.code yX10_isBeneath cX10_isBeneath 4 (some .boolean)) ∈ wsM := List.mem_of_getElem? (i := 249) rfl
theorem kM_250 : (Cond.code yX10_refusesSearch cX10_refusesSearch 4 (some .int)) ∈ wsM := List.mem_of_getElem? (i := 250) rfl
theorem kM_251 : (Cond.methodLink RX10 334 yX10_isBeneath) ∈ wsM := List.mem_of_getElem? (i := 251) rfl
theorem kM_252 : (Cond.instanceMethod yX10_isBeneath) ∈ wsM := List.mem_of_getElem? (i := 252) rfl
theorem kM_253 : (Cond.selects RX10 yX10_isBeneath yX10_isBeneath) ∈ wsM := List.mem_of_getElem? (i := 253) rfl
theorem kM_254 : (Cond.methodLink RX10 337 yX10_fits) ∈ wsM := List.mem_of_getElem? (i := 254) rfl
theorem kM_255 : (Cond.instanceMethod yX10_fits) ∈ wsM := List.mem_of_getElem? (i := 255) rfl
theorem kM_256 : (Cond.selects RX10 yX10_fits yX10_fits) ∈ wsM := List.mem_of_getElem? (i := 256) rfl
theorem kM_257 : (Cond.code yX10_isFound cX10_isFound 6 (some .boolean)) ∈ wsM := List.mem_of_getElem? (i := 257) rfl
theorem kM_258 : (Cond.fieldLink RX10 343 "MasterTreeModel" "found" "I") ∈ wsM := List.mem_of_getElem? (i := 258) rfl
theorem kM_259 : (Cond.methodLink RX10 340 yX10_refusesSearch) ∈ wsM := List.mem_of_getElem? (i := 259) rfl
theorem kM_260 : (Cond.instanceMethod yX10_refusesSearch) ∈ wsM := List.mem_of_getElem? (i := 260) rfl
theorem kM_261 : (Cond.selects RX10 yX10_refusesSearch yX10_refusesSearch) ∈ wsM := List.mem_of_getElem? (i := 261) rfl
theorem kM_262 : (Cond.methodLink RX10 346 yX10_isFound) ∈ wsM := List.mem_of_getElem? (i := 262) rfl
theorem kM_263 : (Cond.instanceMethod yX10_isFound) ∈ wsM := List.mem_of_getElem? (i := 263) rfl
theorem kM_264 : (Cond.selects RX10 yX10_isFound yX10_isFound) ∈ wsM := List.mem_of_getElem? (i := 264) rfl
theorem kM_265 : (Cond.code yX10_search cX10_search 5 (some .int)) ∈ wsM := List.mem_of_getElem? (i := 265) rfl
theorem kM_266 : (Cond.code yX10_searchByWalk cX10_searchByWalk 6 (some .int)) ∈ wsM := List.mem_of_getElem? (i := 266) rfl
theorem kM_267 : (Cond.code yX10_arrives cX10_arrives 4 (some .int)) ∈ wsM := List.mem_of_getElem? (i := 267) rfl
theorem kM_268 : (Cond.code yX10_looks cX10_looks 3 none) ∈ wsM := List.mem_of_getElem? (i := 268) rfl
theorem kM_269 : (Cond.code yX10_waits cX10_waits 5 none) ∈ wsM := List.mem_of_getElem? (i := 269) rfl
theorem kM_270 : (Cond.fieldLink RX10 350 "MasterTreeModel" "waiting" "I") ∈ wsM := List.mem_of_getElem? (i := 270) rfl
theorem kM_271 : (Cond.methodLink RX10 353 yX10_arrives) ∈ wsM := List.mem_of_getElem? (i := 271) rfl
theorem kM_272 : (Cond.instanceMethod yX10_arrives) ∈ wsM := List.mem_of_getElem? (i := 272) rfl
theorem kM_273 : (Cond.selects RX10 yX10_arrives yX10_arrives) ∈ wsM := List.mem_of_getElem? (i := 273) rfl
theorem kM_274 : (Cond.methodLink RX10 356 yX10_looks) ∈ wsM := List.mem_of_getElem? (i := 274) rfl
theorem kM_275 : (Cond.instanceMethod yX10_looks) ∈ wsM := List.mem_of_getElem? (i := 275) rfl
theorem kM_276 : (Cond.selects RX10 yX10_looks yX10_looks) ∈ wsM := List.mem_of_getElem? (i := 276) rfl
theorem kM_277 : (Cond.methodLink RX10 359 yX10_waits) ∈ wsM := List.mem_of_getElem? (i := 277) rfl
theorem kM_278 : (Cond.instanceMethod yX10_waits) ∈ wsM := List.mem_of_getElem? (i := 278) rfl
theorem kM_279 : (Cond.selects RX10 yX10_waits yX10_waits) ∈ wsM := List.mem_of_getElem? (i := 279) rfl
theorem kM_280 : (Cond.code yX10_follow cX10_follow 6 (some .int)) ∈ wsM := List.mem_of_getElem? (i := 280) rfl
theorem kM_281 : (Cond.code yX10_found cX10_found 2 (some .int)) ∈ wsM := List.mem_of_getElem? (i := 281) rfl
theorem kM_282 : (Cond.code yX10_live cX10_live 4 (some .int)) ∈ wsM := List.mem_of_getElem? (i := 282) rfl
theorem kM_283 : (Cond.code yX10_parentOf cX10_parentOf 3 (some .int)) ∈ wsM := List.mem_of_getElem? (i := 283) rfl
theorem kM_284 : (Cond.code yX10_parentAnew cX10_parentAnew 3 (some .int)) ∈ wsM := List.mem_of_getElem? (i := 284) rfl
theorem kM_285 : (Cond.code yX10_nameOf cX10_nameOf 3 (some .int)) ∈ wsM := List.mem_of_getElem? (i := 285) rfl
theorem kM_286 : (Cond.code yX10_valueAt cX10_valueAt 10 (some .int)) ∈ wsM := List.mem_of_getElem? (i := 286) rfl
theorem kM_287 : (Cond.code yX10_valuesAnew cX10_valuesAnew 4 (some .int)) ∈ wsM := List.mem_of_getElem? (i := 287) rfl
theorem kM_288 : (Cond.code yX10_linkOf cX10_linkOf 3 (some .int)) ∈ wsM := List.mem_of_getElem? (i := 288) rfl
theorem kM_289 : (Cond.code yX10_may cX10_may 5 (some .boolean)) ∈ wsM := List.mem_of_getElem? (i := 289) rfl
theorem kM_290 : (Cond.code yX10_childAt cX10_childAt 10 (some .int)) ∈ wsM := List.mem_of_getElem? (i := 290) rfl
theorem kM_291 : (Cond.code yX10_isIncomplete cX10_isIncomplete 4 (some .boolean)) ∈ wsM := List.mem_of_getElem? (i := 291) rfl
theorem kM_292 : (Cond.methodLink RX10 362 yX10_isIncomplete) ∈ wsM := List.mem_of_getElem? (i := 292) rfl
theorem kM_293 : (Cond.instanceMethod yX10_isIncomplete) ∈ wsM := List.mem_of_getElem? (i := 293) rfl
theorem kM_294 : (Cond.selects RX10 yX10_isIncomplete yX10_isIncomplete) ∈ wsM := List.mem_of_getElem? (i := 294) rfl
theorem kM_295 : (Cond.code yX10_conflicts cX10_conflicts 6 (some .int)) ∈ wsM := List.mem_of_getElem? (i := 295) rfl
theorem kM_296 : (Cond.code yX10_knows cX10_knows 3 (some .int)) ∈ wsM := List.mem_of_getElem? (i := 296) rfl
theorem kM_297 : (Cond.code yX10_marks cX10_marks 2 (some .int)) ∈ wsM := List.mem_of_getElem? (i := 297) rfl
theorem kM_298 : (Cond.fieldLink RX10 365 "MasterTreeModel" "otherValues" "I") ∈ wsM := List.mem_of_getElem? (i := 298) rfl
theorem kM_299 : (Cond.code yX10_keeps cX10_keeps 2 none) ∈ wsM := List.mem_of_getElem? (i := 299) rfl
theorem kM_300 : (Cond.code yX10_hasSame cX10_hasSame 7 (some .boolean)) ∈ wsM := List.mem_of_getElem? (i := 300) rfl
theorem kM_301 : (Cond.methodLink RX10 368 yX10_keeps) ∈ wsM := List.mem_of_getElem? (i := 301) rfl
theorem kM_302 : (Cond.instanceMethod yX10_keeps) ∈ wsM := List.mem_of_getElem? (i := 302) rfl
theorem kM_303 : (Cond.selects RX10 yX10_keeps yX10_keeps) ∈ wsM := List.mem_of_getElem? (i := 303) rfl
theorem kM_304 : (Cond.methodLink RX10 371 yX10_hasSame) ∈ wsM := List.mem_of_getElem? (i := 304) rfl
theorem kM_305 : (Cond.instanceMethod yX10_hasSame) ∈ wsM := List.mem_of_getElem? (i := 305) rfl
theorem kM_306 : (Cond.selects RX10 yX10_hasSame yX10_hasSame) ∈ wsM := List.mem_of_getElem? (i := 306) rfl
theorem kM_307 : (Cond.code yX10_isAlike cX10_isAlike 6 (some .boolean)) ∈ wsM := List.mem_of_getElem? (i := 307) rfl
theorem kM_308 : (Cond.methodLink RX10 374 yX10_isAlike) ∈ wsM := List.mem_of_getElem? (i := 308) rfl
theorem kM_309 : (Cond.instanceMethod yX10_isAlike) ∈ wsM := List.mem_of_getElem? (i := 309) rfl
theorem kM_310 : (Cond.selects RX10 yX10_isAlike yX10_isAlike) ∈ wsM := List.mem_of_getElem? (i := 310) rfl
theorem kM_311 : (Cond.code yX10_areAlike cX10_areAlike 3 (some .boolean)) ∈ wsM := List.mem_of_getElem? (i := 311) rfl
/-- the reference's numbers, and what its rows hold -/
abbrev mS : Type := (Nat → Int32) × (Nat → Nat → Int32)
def mI (S : mS) (k : Nat) (v : Int32) : mS := (upd S.1 k v, S.2)
def mA (S : mS) (k j : Nat) (v : Int32) : mS := (S.1, fun q => if q = k then upd (S.2 k) j v else S.2 q)
def m0 : mS := (fun _ => 0, fun _ _ => 0)
def mFs (a : Nat → Nat) (i : Nat → Int32) : List Value := [.int (i 0), .int (i 1), .ref (a 2), .ref (a 3), .int (i 4), .ref (a 5), .ref (a 6), .ref (a 7), .int (i 8), .ref (a 9), .ref (a 10), .int (i 11), .ref (a 12), .ref (a 13), .ref (a 14), .ref (a 15), .int (i 16), .ref (a 17), .ref (a 18), .ref (a 19), .ref (a 20), .int (i 21), .int (i 22), .ref (a 23), .ref (a 24), .ref (a 25), .ref (a 26), .ref (a 27), .ref (a 28), .ref (a 29), .ref (a 30), .int (i 31), .ref (a 32), .ref (a 33), .ref (a 34), .ref (a 35), .ref (a 36), .int (i 37), .ref (a 38), .ref (a 39), .ref (a 40), .ref (a 41), .ref (a 42), .ref (a 43), .ref (a 44), .ref (a 45), .ref (a 46), .int (i 47), .ref (a 48), .ref (a 49), .ref (a 50), .ref (a 51), .int (i 52), .ref (a 53), .int (i 54), .ref (a 55), .ref (a 56), .ref (a 57), .ref (a 58), .ref (a 59), .ref (a 60), .ref (a 61), .int (i 62), .ref (a 63), .ref (a 64), .ref (a 65), .ref (a 66)]
def mCs (cI cZ : ClassId) (a : Nat → Nat) (M : Nat → Nat → Int32) : va_W := [(a 2, .inl (cZ, 10, .inl (M 2))), (a 3, .inl (cZ, 10, .inl (M 3))), (a 5, .inl (cI, 8, .inl (M 5))), (a 6, .inl (cI, 8, .inl (M 6))), (a 7, .inl (cI, 8, .inl (M 7))), (a 9, .inl (cI, 12, .inl (M 9))), (a 10, .inl (cI, 12, .inl (M 10))), (a 12, .inl (cI, 15, .inl (M 12))), (a 13, .inl (cI, 15, .inl (M 13))), (a 14, .inl (cI, 15, .inl (M 14))), (a 15, .inl (cZ, 15, .inl (M 15))), (a 17, .inl (cI, 8, .inl (M 17))), (a 18, .inl (cI, 4, .inl (M 18))), (a 19, .inl (cI, 64, .inl (M 19))), (a 20, .inl (cZ, 192, .inl (M 20))), (a 23, .inl (cI, 250, .inl (M 23))), (a 24, .inl (cI, 250, .inl (M 24))), (a 25, .inl (cI, 250, .inl (M 25))), (a 26, .inl (cI, 250, .inl (M 26))), (a 27, .inl (cI, 250, .inl (M 27))), (a 28, .inl (cI, 250, .inl (M 28))), (a 29, .inl (cI, 250, .inl (M 29))), (a 30, .inl (cI, 250, .inl (M 30))), (a 32, .inl (cI, 250, .inl (M 32))), (a 33, .inl (cI, 250, .inl (M 33))), (a 34, .inl (cI, 600, .inl (M 34))), (a 35, .inl (cI, 600, .inl (M 35))), (a 36, .inl (cI, 250, .inl (M 36))), (a 38, .inl (cZ, 48, .inl (M 38))), (a 39, .inl (cZ, 48, .inl (M 39))), (a 40, .inl (cI, 48, .inl (M 40))), (a 41, .inl (cI, 48, .inl (M 41))), (a 42, .inl (cI, 48, .inl (M 42))), (a 43, .inl (cI, 48, .inl (M 43))), (a 44, .inl (cI, 48, .inl (M 44))), (a 45, .inl (cI, 48, .inl (M 45))), (a 46, .inl (cI, 48, .inl (M 46))), (a 48, .inl (cI, 900, .inl (M 48))), (a 49, .inl (cI, 900, .inl (M 49))), (a 50, .inl (cI, 900, .inl (M 50))), (a 51, .inl (cI, 15840, .inl (M 51))), (a 53, .inl (cI, 192, .inl (M 53))), (a 55, .inl (cI, 400, .inl (M 55))), (a 56, .inl (cZ, 192, .inl (M 56))), (a 57, .inl (cZ, 48, .inl (M 57))), (a 58, .inl (cI, 48, .inl (M 58))), (a 59, .inl (cI, 48, .inl (M 59))), (a 60, .inl (cI, 48, .inl (M 60))), (a 61, .inl (cI, 48, .inl (M 61))), (a 63, .inl (cI, 900, .inl (M 63))), (a 64, .inl (cI, 900, .inl (M 64))), (a 65, .inl (cI, 900, .inl (M 65))), (a 66, .inl (cI, 15840, .inl (M 66)))]
def mW (h : Nat) (cI cZ : ClassId) (a : Nat → Nat) (S : mS) : va_W := (h, .inr (13, mFs a S.1)) :: mCs cI cZ a S.2
def mInt (k : Nat) : Prop := k < 67 ∧ (TX10 k).1 = "MasterTreeModel" ∧ (TX10 k).2.2.2 = false ∧ parseFieldDescriptor (TX10 k).2.2.1 = some .int ∧ ∀ (a : Nat → Nat) (i : Nat → Int32), (mFs a i)[k]? = some (.int (i k)) ∧ ∀ v : Int32, (mFs a i).set k (.int v) = mFs a (upd i k v)
theorem mInt_0 : mInt 0 := ⟨by decide, rfl, rfl, by decide +kernel, fun _ _ => ⟨rfl, fun _ => rfl⟩⟩
theorem mInt_1 : mInt 1 := ⟨by decide, rfl, rfl, by decide +kernel, fun _ _ => ⟨rfl, fun _ => rfl⟩⟩
theorem mInt_4 : mInt 4 := ⟨by decide, rfl, rfl, by decide +kernel, fun _ _ => ⟨rfl, fun _ => rfl⟩⟩
theorem mInt_8 : mInt 8 := ⟨by decide, rfl, rfl, by decide +kernel, fun _ _ => ⟨rfl, fun _ => rfl⟩⟩
theorem mInt_11 : mInt 11 := ⟨by decide, rfl, rfl, by decide +kernel, fun _ _ => ⟨rfl, fun _ => rfl⟩⟩
theorem mInt_16 : mInt 16 := ⟨by decide, rfl, rfl, by decide +kernel, fun _ _ => ⟨rfl, fun _ => rfl⟩⟩
theorem mInt_21 : mInt 21 := ⟨by decide, rfl, rfl, by decide +kernel, fun _ _ => ⟨rfl, fun _ => rfl⟩⟩
theorem mInt_22 : mInt 22 := ⟨by decide, rfl, rfl, by decide +kernel, fun _ _ => ⟨rfl, fun _ => rfl⟩⟩
theorem mInt_31 : mInt 31 := ⟨by decide, rfl, rfl, by decide +kernel, fun _ _ => ⟨rfl, fun _ => rfl⟩⟩
theorem mInt_37 : mInt 37 := ⟨by decide, rfl, rfl, by decide +kernel, fun _ _ => ⟨rfl, fun _ => rfl⟩⟩
theorem mInt_47 : mInt 47 := ⟨by decide, rfl, rfl, by decide +kernel, fun _ _ => ⟨rfl, fun _ => rfl⟩⟩
theorem mInt_52 : mInt 52 := ⟨by decide, rfl, rfl, by decide +kernel, fun _ _ => ⟨rfl, fun _ => rfl⟩⟩
theorem mInt_54 : mInt 54 := ⟨by decide, rfl, rfl, by decide +kernel, fun _ _ => ⟨rfl, fun _ => rfl⟩⟩
theorem mInt_62 : mInt 62 := ⟨by decide, rfl, rfl, by decide +kernel, fun _ _ => ⟨rfl, fun _ => rfl⟩⟩
def mRef (k : Nat) : Prop := k < 67 ∧ (TX10 k).1 = "MasterTreeModel" ∧ ∀ (a : Nat → Nat) (i : Nat → Int32), (mFs a i)[k]? = some (.ref (a k))
def mArI (k q n : Nat) : Prop := ∀ (h : Nat) (cI cZ : ClassId) (a : Nat → Nat) (S : mS), (mW h cI cZ a S)[q]? = some (a k, .inl (cI, n, .inl (S.2 k))) ∧ ∀ (j : Nat) (v : Int32), (mW h cI cZ a S).set q (a k, .inl (cI, n, .inl (upd (S.2 k) j v))) = mW h cI cZ a (mA S k j v)
def mArZ (k q n : Nat) : Prop := ∀ (h : Nat) (cI cZ : ClassId) (a : Nat → Nat) (S : mS), (mW h cI cZ a S)[q]? = some (a k, .inl (cZ, n, .inl (S.2 k))) ∧ ∀ (j : Nat) (v : Int32), (mW h cI cZ a S).set q (a k, .inl (cZ, n, .inl (upd (S.2 k) j v))) = mW h cI cZ a (mA S k j v)
theorem mRef_2 : mRef 2 := ⟨by decide, rfl, fun _ _ => rfl⟩
theorem mArr_2 : mArZ 2 1 10 := fun _ _ _ _ _ => ⟨rfl, fun _ _ => rfl⟩
theorem mRef_3 : mRef 3 := ⟨by decide, rfl, fun _ _ => rfl⟩
theorem mArr_3 : mArZ 3 2 10 := fun _ _ _ _ _ => ⟨rfl, fun _ _ => rfl⟩
theorem mRef_5 : mRef 5 := ⟨by decide, rfl, fun _ _ => rfl⟩
theorem mArr_5 : mArI 5 3 8 := fun _ _ _ _ _ => ⟨rfl, fun _ _ => rfl⟩
theorem mRef_6 : mRef 6 := ⟨by decide, rfl, fun _ _ => rfl⟩
theorem mArr_6 : mArI 6 4 8 := fun _ _ _ _ _ => ⟨rfl, fun _ _ => rfl⟩
theorem mRef_7 : mRef 7 := ⟨by decide, rfl, fun _ _ => rfl⟩
theorem mArr_7 : mArI 7 5 8 := fun _ _ _ _ _ => ⟨rfl, fun _ _ => rfl⟩
theorem mRef_9 : mRef 9 := ⟨by decide, rfl, fun _ _ => rfl⟩
theorem mArr_9 : mArI 9 6 12 := fun _ _ _ _ _ => ⟨rfl, fun _ _ => rfl⟩
theorem mRef_10 : mRef 10 := ⟨by decide, rfl, fun _ _ => rfl⟩
theorem mArr_10 : mArI 10 7 12 := fun _ _ _ _ _ => ⟨rfl, fun _ _ => rfl⟩
theorem mRef_12 : mRef 12 := ⟨by decide, rfl, fun _ _ => rfl⟩
theorem mArr_12 : mArI 12 8 15 := fun _ _ _ _ _ => ⟨rfl, fun _ _ => rfl⟩
theorem mRef_13 : mRef 13 := ⟨by decide, rfl, fun _ _ => rfl⟩
theorem mArr_13 : mArI 13 9 15 := fun _ _ _ _ _ => ⟨rfl, fun _ _ => rfl⟩
theorem mRef_14 : mRef 14 := ⟨by decide, rfl, fun _ _ => rfl⟩
theorem mArr_14 : mArI 14 10 15 := fun _ _ _ _ _ => ⟨rfl, fun _ _ => rfl⟩
theorem mRef_15 : mRef 15 := ⟨by decide, rfl, fun _ _ => rfl⟩
theorem mArr_15 : mArZ 15 11 15 := fun _ _ _ _ _ => ⟨rfl, fun _ _ => rfl⟩
theorem mRef_17 : mRef 17 := ⟨by decide, rfl, fun _ _ => rfl⟩
theorem mArr_17 : mArI 17 12 8 := fun _ _ _ _ _ => ⟨rfl, fun _ _ => rfl⟩
theorem mRef_18 : mRef 18 := ⟨by decide, rfl, fun _ _ => rfl⟩
theorem mArr_18 : mArI 18 13 4 := fun _ _ _ _ _ => ⟨rfl, fun _ _ => rfl⟩
theorem mRef_19 : mRef 19 := ⟨by decide, rfl, fun _ _ => rfl⟩
theorem mArr_19 : mArI 19 14 64 := fun _ _ _ _ _ => ⟨rfl, fun _ _ => rfl⟩
theorem mRef_20 : mRef 20 := ⟨by decide, rfl, fun _ _ => rfl⟩
theorem mArr_20 : mArZ 20 15 192 := fun _ _ _ _ _ => ⟨rfl, fun _ _ => rfl⟩
theorem mRef_23 : mRef 23 := ⟨by decide, rfl, fun _ _ => rfl⟩
theorem mArr_23 : mArI 23 16 250 := fun _ _ _ _ _ => ⟨rfl, fun _ _ => rfl⟩
theorem mRef_24 : mRef 24 := ⟨by decide, rfl, fun _ _ => rfl⟩
theorem mArr_24 : mArI 24 17 250 := fun _ _ _ _ _ => ⟨rfl, fun _ _ => rfl⟩
theorem mRef_25 : mRef 25 := ⟨by decide, rfl, fun _ _ => rfl⟩
theorem mArr_25 : mArI 25 18 250 := fun _ _ _ _ _ => ⟨rfl, fun _ _ => rfl⟩
theorem mRef_26 : mRef 26 := ⟨by decide, rfl, fun _ _ => rfl⟩
theorem mArr_26 : mArI 26 19 250 := fun _ _ _ _ _ => ⟨rfl, fun _ _ => rfl⟩
theorem mRef_27 : mRef 27 := ⟨by decide, rfl, fun _ _ => rfl⟩
theorem mArr_27 : mArI 27 20 250 := fun _ _ _ _ _ => ⟨rfl, fun _ _ => rfl⟩
theorem mRef_28 : mRef 28 := ⟨by decide, rfl, fun _ _ => rfl⟩
theorem mArr_28 : mArI 28 21 250 := fun _ _ _ _ _ => ⟨rfl, fun _ _ => rfl⟩
theorem mRef_29 : mRef 29 := ⟨by decide, rfl, fun _ _ => rfl⟩
theorem mArr_29 : mArI 29 22 250 := fun _ _ _ _ _ => ⟨rfl, fun _ _ => rfl⟩
theorem mRef_30 : mRef 30 := ⟨by decide, rfl, fun _ _ => rfl⟩
theorem mArr_30 : mArI 30 23 250 := fun _ _ _ _ _ => ⟨rfl, fun _ _ => rfl⟩
theorem mRef_32 : mRef 32 := ⟨by decide, rfl, fun _ _ => rfl⟩
theorem mArr_32 : mArI 32 24 250 := fun _ _ _ _ _ => ⟨rfl, fun _ _ => rfl⟩
theorem mRef_33 : mRef 33 := ⟨by decide, rfl, fun _ _ => rfl⟩
theorem mArr_33 : mArI 33 25 250 := fun _ _ _ _ _ => ⟨rfl, fun _ _ => rfl⟩
theorem mRef_34 : mRef 34 := ⟨by decide, rfl, fun _ _ => rfl⟩
theorem mArr_34 : mArI 34 26 600 := fun _ _ _ _ _ => ⟨rfl, fun _ _ => rfl⟩
theorem mRef_35 : mRef 35 := ⟨by decide, rfl, fun _ _ => rfl⟩
theorem mArr_35 : mArI 35 27 600 := fun _ _ _ _ _ => ⟨rfl, fun _ _ => rfl⟩
theorem mRef_36 : mRef 36 := ⟨by decide, rfl, fun _ _ => rfl⟩
theorem mArr_36 : mArI 36 28 250 := fun _ _ _ _ _ => ⟨rfl, fun _ _ => rfl⟩
theorem mRef_38 : mRef 38 := ⟨by decide, rfl, fun _ _ => rfl⟩
theorem mArr_38 : mArZ 38 29 48 := fun _ _ _ _ _ => ⟨rfl, fun _ _ => rfl⟩
theorem mRef_39 : mRef 39 := ⟨by decide, rfl, fun _ _ => rfl⟩
theorem mArr_39 : mArZ 39 30 48 := fun _ _ _ _ _ => ⟨rfl, fun _ _ => rfl⟩
theorem mRef_40 : mRef 40 := ⟨by decide, rfl, fun _ _ => rfl⟩
theorem mArr_40 : mArI 40 31 48 := fun _ _ _ _ _ => ⟨rfl, fun _ _ => rfl⟩
theorem mRef_41 : mRef 41 := ⟨by decide, rfl, fun _ _ => rfl⟩
theorem mArr_41 : mArI 41 32 48 := fun _ _ _ _ _ => ⟨rfl, fun _ _ => rfl⟩
theorem mRef_42 : mRef 42 := ⟨by decide, rfl, fun _ _ => rfl⟩
theorem mArr_42 : mArI 42 33 48 := fun _ _ _ _ _ => ⟨rfl, fun _ _ => rfl⟩
theorem mRef_43 : mRef 43 := ⟨by decide, rfl, fun _ _ => rfl⟩
theorem mArr_43 : mArI 43 34 48 := fun _ _ _ _ _ => ⟨rfl, fun _ _ => rfl⟩
theorem mRef_44 : mRef 44 := ⟨by decide, rfl, fun _ _ => rfl⟩
theorem mArr_44 : mArI 44 35 48 := fun _ _ _ _ _ => ⟨rfl, fun _ _ => rfl⟩
theorem mRef_45 : mRef 45 := ⟨by decide, rfl, fun _ _ => rfl⟩
theorem mArr_45 : mArI 45 36 48 := fun _ _ _ _ _ => ⟨rfl, fun _ _ => rfl⟩
theorem mRef_46 : mRef 46 := ⟨by decide, rfl, fun _ _ => rfl⟩
theorem mArr_46 : mArI 46 37 48 := fun _ _ _ _ _ => ⟨rfl, fun _ _ => rfl⟩
theorem mRef_48 : mRef 48 := ⟨by decide, rfl, fun _ _ => rfl⟩
theorem mArr_48 : mArI 48 38 900 := fun _ _ _ _ _ => ⟨rfl, fun _ _ => rfl⟩
theorem mRef_49 : mRef 49 := ⟨by decide, rfl, fun _ _ => rfl⟩
theorem mArr_49 : mArI 49 39 900 := fun _ _ _ _ _ => ⟨rfl, fun _ _ => rfl⟩
theorem mRef_50 : mRef 50 := ⟨by decide, rfl, fun _ _ => rfl⟩
theorem mArr_50 : mArI 50 40 900 := fun _ _ _ _ _ => ⟨rfl, fun _ _ => rfl⟩
theorem mRef_51 : mRef 51 := ⟨by decide, rfl, fun _ _ => rfl⟩
theorem mArr_51 : mArI 51 41 15840 := fun _ _ _ _ _ => ⟨rfl, fun _ _ => rfl⟩
theorem mRef_53 : mRef 53 := ⟨by decide, rfl, fun _ _ => rfl⟩
theorem mArr_53 : mArI 53 42 192 := fun _ _ _ _ _ => ⟨rfl, fun _ _ => rfl⟩
theorem mRef_55 : mRef 55 := ⟨by decide, rfl, fun _ _ => rfl⟩
theorem mArr_55 : mArI 55 43 400 := fun _ _ _ _ _ => ⟨rfl, fun _ _ => rfl⟩
theorem mRef_56 : mRef 56 := ⟨by decide, rfl, fun _ _ => rfl⟩
theorem mArr_56 : mArZ 56 44 192 := fun _ _ _ _ _ => ⟨rfl, fun _ _ => rfl⟩
theorem mRef_57 : mRef 57 := ⟨by decide, rfl, fun _ _ => rfl⟩
theorem mArr_57 : mArZ 57 45 48 := fun _ _ _ _ _ => ⟨rfl, fun _ _ => rfl⟩
theorem mRef_58 : mRef 58 := ⟨by decide, rfl, fun _ _ => rfl⟩
theorem mArr_58 : mArI 58 46 48 := fun _ _ _ _ _ => ⟨rfl, fun _ _ => rfl⟩
theorem mRef_59 : mRef 59 := ⟨by decide, rfl, fun _ _ => rfl⟩
theorem mArr_59 : mArI 59 47 48 := fun _ _ _ _ _ => ⟨rfl, fun _ _ => rfl⟩
theorem mRef_60 : mRef 60 := ⟨by decide, rfl, fun _ _ => rfl⟩
theorem mArr_60 : mArI 60 48 48 := fun _ _ _ _ _ => ⟨rfl, fun _ _ => rfl⟩
theorem mRef_61 : mRef 61 := ⟨by decide, rfl, fun _ _ => rfl⟩
theorem mArr_61 : mArI 61 49 48 := fun _ _ _ _ _ => ⟨rfl, fun _ _ => rfl⟩
theorem mRef_63 : mRef 63 := ⟨by decide, rfl, fun _ _ => rfl⟩
theorem mArr_63 : mArI 63 50 900 := fun _ _ _ _ _ => ⟨rfl, fun _ _ => rfl⟩
theorem mRef_64 : mRef 64 := ⟨by decide, rfl, fun _ _ => rfl⟩
theorem mArr_64 : mArI 64 51 900 := fun _ _ _ _ _ => ⟨rfl, fun _ _ => rfl⟩
theorem mRef_65 : mRef 65 := ⟨by decide, rfl, fun _ _ => rfl⟩
theorem mArr_65 : mArI 65 52 900 := fun _ _ _ _ _ => ⟨rfl, fun _ _ => rfl⟩
theorem mRef_66 : mRef 66 := ⟨by decide, rfl, fun _ _ => rfl⟩
theorem mArr_66 : mArI 66 53 15840 := fun _ _ _ _ _ => ⟨rfl, fun _ _ => rfl⟩
theorem mW_adr (h : Nat) (cI cZ : ClassId) (a : Nat → Nat) (S S' : mS) : (mW h cI cZ a S).map (·.1) = (mW h cI cZ a S').map (·.1) := rfl
theorem mW_at {h : Nat} {cI cZ : ClassId} {a : Nat → Nat} {S : mS} (S' : mS) {k : Nat} {q : Nat × va_E} (hk : (mW h cI cZ a S)[k]? = some q) : ∃ e, (mW h cI cZ a S')[k]? = some (q.1, e) := by
  have h1 : ((mW h cI cZ a S).map (·.1))[k]? = some q.1 := by rw [List.getElem?_map, hk]; rfl
  rw [mW_adr h cI cZ a S S', List.getElem?_map] at h1
  cases h2 : (mW h cI cZ a S')[k]? with
  | none => rw [h2] at h1; cases h1
  | some x => rw [h2] at h1; obtain ⟨x1, x2⟩ := x; cases h1; exact ⟨x2, rfl⟩
def mAt (h : Nat) (cI cZ : ClassId) (a : Nat → Nat) (sz : Nat) : Nat → Prop := va_A (mW h cI cZ a m0) sz
theorem mD_to {A : Nat → Prop} {h : Nat} {cI cZ : ClassId} {a : Nat → Nat} {S S' : mS} (hD : va_D A (mW h cI cZ a S)) : va_D A (mW h cI cZ a S') := by
  refine ⟨fun i j p q hi hj hpq => ?_, fun k q hk => ?_⟩
  · obtain ⟨e1, h1⟩ := mW_at S hi
    obtain ⟨e2, h2⟩ := mW_at S hj
    exact hD.1 i j _ _ h1 h2 hpq
  · obtain ⟨e1, h1⟩ := mW_at S hk
    exact hD.2 k (q.1, e1) h1
theorem mD_self {A : Nat → Prop} {h : Nat} {cI cZ : ClassId} {a : Nat → Nat} {S : mS} (sz : Nat) (hD : va_D A (mW h cI cZ a S)) : va_D (mAt h cI cZ a sz) (mW h cI cZ a S) := by
  refine ⟨hD.1, fun k q hk => ?_⟩
  obtain ⟨e1, h1⟩ := mW_at m0 hk
  exact Or.inl ⟨k, e1, h1⟩
theorem mAt_le {h : Nat} {cI cZ : ClassId} {a : Nat → Nat} {n1 n2 : Nat} (hn : n1 ≤ n2) : ∀ q, mAt h cI cZ a n2 q → mAt h cI cZ a n1 q := fun q hq => hq.elim Or.inl (fun h => Or.inr (Nat.le_trans hn h))
/-- where a walk stands: the world, apart, and what is written since the start -/
def mV (dC : Nat → ClassId) (dI : Nat → Nat → Nat) (h : Nat) (cI cZ : ClassId) (a : Nat → Nat) (s : State) (S : mS) (H : Heap) (locs : List Loc) : Prop :=
  va_P (dC, dI) vwCl (mW h cI cZ a S) H ∧ va_D (mAt h cI cZ a s.heap.size) (mW h cI cZ a S) ∧ va_S (mAt h cI cZ a s.heap.size) s.heap H locs
/-- the method that is walked: the machine, its code, the words, the classes -/
def mC (p : Program) (s : State) (m : MethodId) (meth : Method) (c : Code) (cc : ByteArray) (nL : Nat) (args : Array Value) (dC : Nat → ClassId) (dI : Nat → Nat → Nat) (cI cZ : ClassId) : Prop :=
  p.tables.exec = Jvm.exec ∧ c.code = cc ∧ c.maxLocals = nL ∧ s.vm.findClass RX10 = some m.cls ∧ (∀ w ∈ wsM, w.before args s = true) ∧ va_K (dC, dI) vwCl [(cI, .int), (cZ, .boolean)] s ∧ meth.locks = false
-- guards of the pure pictures
def gd {β : Type} (i : Int32) (n : Nat) (k : Option β) : Option β := if i < 0 ∨ n ≤ i.toNatClampNeg then none else k
def nm {β : Type} (x : Int32) (k : Int32 → Option β) : Option β := k x
def sv {β : Type} (S : mS) (k : mS → Option β) : Option β := k S
def bd {β : Type} (o : Option (Int32 × mS)) (k : Int32 → mS → Option β) : Option β := match o with
  | none => none
  | some q => k q.1 q.2
def bs {β : Type} (o : Option Int32) (k : Int32 → Option β) : Option β := match o with
  | none => none
  | some q => k q
/-- a boolean that is answered: 0 or 1 -/
def zr (v : Int32) (S : mS) : Option (Int32 × mS) := if vp_nar .boolean v = v then some (v, S) else none
def zs (v : Int32) : Option Int32 := if vp_nar .boolean v = v then some v else none
theorem gd_some {β : Type} {i : Int32} {n : Nat} {k : Option β} {r : β} (h : gd i n k = some r) : vp_in i n ∧ k = some r := by
  unfold gd at h
  by_cases hc : i < 0 ∨ n ≤ i.toNatClampNeg
  · rw [if_pos hc] at h; cases h
  · rw [if_neg hc] at h; exact ⟨hc, h⟩
theorem bd_some {β : Type} {o : Option (Int32 × mS)} {k : Int32 → mS → Option β} {r : β} (h : bd o k = some r) : ∃ v S, o = some (v, S) ∧ k v S = some r := by
  cases o with
  | none => cases h
  | some q => exact ⟨q.1, q.2, rfl, h⟩
theorem bs_some {β : Type} {o : Option Int32} {k : Int32 → Option β} {r : β} (h : bs o k = some r) : ∃ v, o = some v ∧ k v = some r := by
  cases o with
  | none => cases h
  | some q => exact ⟨q, rfl, h⟩
theorem nar_z {v : Int32} (h : vp_nar .boolean v = v) : narrow .boolean (.int v) = .int v := by
  have h1 : narrow .boolean (.int v) = .int (vp_nar .boolean v) := rfl
  rw [h1, h]
-- contracts
def mRm (d : Nat) : Room := { frames := d, cells := 0, slots := 0, locals := 40 * d }
def mPre (dC : Nat → ClassId) (dI : Nat → Nat → Nat) (h : Nat) (cI cZ : ClassId) (a : Nat → Nat) (sz : Nat) (S : mS) : State → Prop := fun U =>
  U.heap.size = sz ∧ va_P (dC, dI) vwCl (mW h cI cZ a S) U.heap ∧ va_K (dC, dI) vwCl [(cI, .int), (cZ, .boolean)] U ∧ va_D (fun _ => True) (mW h cI cZ a S)
def mPost (dC : Nat → ClassId) (dI : Nat → Nat → Nat) (h : Nat) (cI cZ : ClassId) (a : Nat → Nat) (S : mS) : State → Prop := fun t => va_P (dC, dI) vwCl (mW h cI cZ a S) t.heap
def mQ (dC : Nat → ClassId) (dI : Nat → Nat → Nat) (h : Nat) (cI cZ : ClassId) (a : Nat → Nat) (sz : Nat) (r : Int32) (S : mS) : Array Value → State → Outcome → State → Prop :=
  va_Qi (fun (r2 : Int32) (u : mS) => r2 = r ∧ u = S) (mPost dC dI h cI cZ a) (mAt h cI cZ a sz)
def mQv (dC : Nat → ClassId) (dI : Nat → Nat → Nat) (h : Nat) (cI cZ : ClassId) (a : Nat → Nat) (sz : Nat) (S : mS) : Array Value → State → Outcome → State → Prop :=
  va_Qv (fun (u : mS) => u = S) (mPost dC dI h cI cZ a) (mAt h cI cZ a sz)
/-- an instance method that answers an int (or a boolean) -/
def mMet (l : Launch) (y : MethodName) (b : ByteArray) (nl : Nat) (ret : FieldType) (d : Nat) (As : List Value) (f : mS → Option (Int32 × mS)) : Prop :=
  ∀ (dC : Nat → ClassId) (dI : Nat → Nat → Nat) (h : Nat) (cI cZ : ClassId) (a : Nat → Nat) (sz : Nat) (S : mS) (r : Int32) (S' : mS), f S = some (r, S') →
    Met l y (.code y b nl (some ret) :: wsM) (mRm d) (va_Pc (.ref h :: As) (mPre dC dI h cI cZ a sz S)) (mQ dC dI h cI cZ a sz r S') 0 0 (mAt h cI cZ a sz)
/-- one that answers nothing: its picture answers 0 -/
def mMetV (l : Launch) (y : MethodName) (b : ByteArray) (nl : Nat) (d : Nat) (As : List Value) (f : mS → Option (Int32 × mS)) : Prop :=
  ∀ (dC : Nat → ClassId) (dI : Nat → Nat → Nat) (h : Nat) (cI cZ : ClassId) (a : Nat → Nat) (sz : Nat) (S : mS) (r : Int32) (S' : mS), f S = some (r, S') →
    Met l y (.code y b nl none :: wsM) (mRm d) (va_Pc (.ref h :: As) (mPre dC dI h cI cZ a sz S)) (mQv dC dI h cI cZ a sz S') 0 0 (mAt h cI cZ a sz)
def mQs (r : Int32) : Array Value → State → Outcome → State → Prop := va_Qi (fun (r2 : Int32) (_ : Unit) => r2 = r) (fun _ _ => True) (fun _ => False)
/-- a static one, of numbers alone -/
def mMetS (l : Launch) (y : MethodName) (b : ByteArray) (nl : Nat) (ret : FieldType) (d : Nat) (As : List Value) (f : Option Int32) : Prop :=
  ∀ r : Int32, f = some r → Met l y (.code y b nl (some ret) :: wsM) (mRm d) (va_Pc As (fun _ => True)) (mQs r) 0 0 (fun _ => False)
theorem mWords {w : Cond} {args : Array Value} {s : State} (hts : ∀ x ∈ w :: wsM, x.before args s = true) : ∀ x ∈ wsM, x.before args s = true := fun x hx => hts x (List.mem_cons_of_mem _ hx)
theorem mGoodW {w : Cond} (h : w ∈ wsM) : (w.onTables && w.keeps) = true ∨ ∃ ty, w = .arrayClass ty := good_of_word (List.all_eq_true.mp wsM_good w h)
theorem mGoodIn {ws : List Cond} (h : ∀ w ∈ ws, w ∈ wsM) : GoodIn wsM ws := fun w hw => ⟨h w hw, mGoodW (h w hw)⟩
/-- what is known of a method that is called -/
def mFnI (y : MethodName) (b : ByteArray) (nl : Nat) (ret : Option FieldType) (n index : Nat) : Prop :=
  Cond.methodLink RX10 index y ∈ wsM ∧ Cond.instanceMethod y ∈ wsM ∧ Cond.selects RX10 y y ∈ wsM ∧ Cond.code y b nl ret ∈ wsM ∧ y.cls = RX10 ∧ (parseMethodDescriptor y.desc).map (fun d => d.parameters.length) = some n ∧ nl ≤ 21
def mFnS (y : MethodName) (b : ByteArray) (nl : Nat) (ret : Option FieldType) (n index : Nat) : Prop :=
  Cond.methodLink RX10 index y ∈ wsM ∧ Cond.static y ∈ wsM ∧ Cond.code y b nl ret ∈ wsM ∧ y.cls = RX10 ∧ (parseMethodDescriptor y.desc).map (fun d => d.parameters.length) = some n ∧ nl ≤ 21
theorem RX10_ok : RX10 ≠ "java/lang/invoke/MethodHandle" ∧ RX10 ≠ "java/lang/invoke/VarHandle" := by decide +kernel
theorem kM_ini : Cond.initialized RX10 ∈ wsM := List.mem_of_getElem? (i := 68) rfl
theorem mRoom {d d2 nl : Nat} (hd : d2 + 1 ≤ d) (hn : nl ≤ 21) : (mRm d2).frames + 1 ≤ (mRm d).frames ∧ 8 + (nl + 11) + (mRm d2).locals ≤ (mRm d).locals := by
  show d2 + 1 ≤ d ∧ 8 + (nl + 11) + 40 * d2 ≤ 40 * d
  omega
section MR
variable {p : Program} {l : Launch} {e : Env} {s : State} {m : MethodId} {args : Array Value} {below : List Frame} {meth : Method} {c : Code} {H : Heap} {locs : List Loc} {Q : State → Prop}
variable {cc : ByteArray} {nL : Nat} {ls : Array Slot} {rest : List Value} {dC : Nat → ClassId} {dI : Nat → Nat → Nat} {h : Nat} {cI cZ : ClassId} {a : Nat → Nat} {S : mS} {d : Nat}
theorem m_geti {k : Nat} (C : mC p s m meth c cc nL args dC dI cI cZ) (I : mV dC dI h cI cZ a s S H locs) (X : mInt k) {index : Nat} (hl : Cond.fieldLink RX10 index "MasterTreeModel" (TX10 k).2.1 (TX10 k).2.2.1 ∈ wsM) (pc : Nat) (hdg : decode cc pc = .ok (.getfield index, 3))
    (kk : W p l e (mRm d) s m args below meth c H locs 0 0 Q (F0 m (pc + 3) ls (.int (S.1 k) :: rest))) : W p l e (mRm d) s m args below meth c H locs 0 0 Q (F0 m pc ls (.ref h :: rest)) := by
  obtain ⟨h1, h2, h3, h4, h5, h6, h7⟩ := C
  obtain ⟨x1, x2, x3, x4, x5⟩ := X
  exact va_get (D := (dC, dI)) (ci := 13) (C := RX10) (T := TX10) (N := 67) h1 h2 h5 kM_lay h4 h6 I.1 0 rfl rfl k x1 (h5 _ hl) (fun z hz => by rw [x2] at hz; exact hz) (x5 a S.1).1 hdg kk
theorem m_getr {k : Nat} (C : mC p s m meth c cc nL args dC dI cI cZ) (I : mV dC dI h cI cZ a s S H locs) (X : mRef k) {index : Nat} (hl : Cond.fieldLink RX10 index "MasterTreeModel" (TX10 k).2.1 (TX10 k).2.2.1 ∈ wsM) (pc : Nat) (hdg : decode cc pc = .ok (.getfield index, 3))
    (kk : W p l e (mRm d) s m args below meth c H locs 0 0 Q (F0 m (pc + 3) ls (.ref (a k) :: rest))) : W p l e (mRm d) s m args below meth c H locs 0 0 Q (F0 m pc ls (.ref h :: rest)) := by
  obtain ⟨h1, h2, h3, h4, h5, h6, h7⟩ := C
  obtain ⟨x1, x2, x5⟩ := X
  exact va_get (D := (dC, dI)) (ci := 13) (C := RX10) (T := TX10) (N := 67) h1 h2 h5 kM_lay h4 h6 I.1 0 rfl rfl k x1 (h5 _ hl) (fun z hz => by rw [x2] at hz; exact hz) (x5 a S.1) hdg kk
theorem m_puti {k : Nat} {x : Int32} {β : Type} {K : mS → Option β} {res : β} (C : mC p s m meth c cc nL args dC dI cI cZ) (I : mV dC dI h cI cZ a s S H locs) (X : mInt k) {index : Nat} (hl : Cond.fieldLink RX10 index "MasterTreeModel" (TX10 k).2.1 (TX10 k).2.2.1 ∈ wsM) (pc : Nat) (hdg : decode cc pc = .ok (.putfield index, 3))
    (hpf : sv (mI S k x) K = some res) (kk : ∀ (S1 : mS) (H1 : Heap) (locs1 : List Loc), mV dC dI h cI cZ a s S1 H1 locs1 → K S1 = some res → W p l e (mRm d) s m args below meth c H1 locs1 0 0 Q (F0 m (pc + 3) ls rest)) : W p l e (mRm d) s m args below meth c H locs 0 0 Q (F0 m pc ls (.int x :: .ref h :: rest)) := by
  obtain ⟨h1, h2, h3, h4, h5, h6, h7⟩ := C
  obtain ⟨x1, x2, x3, x4, x5⟩ := X
  refine va_put (D := (dC, dI)) (ci := 13) (C := RX10) (T := TX10) (N := 67) h1 h2 h5 kM_lay tyX10 tyX10_ok nmX10 h4 h6 I.1 I.2.1 I.2.2 0 rfl rfl k x1 (h5 _ hl) (fun z hz => by rw [x2] at hz; exact hz) x3 x4 rfl rfl x1 hdg (fun H1 locs1 hP hD hS => kk (mI S k x) H1 locs1 ⟨?_, mD_to I.2.1, hS⟩ hpf)
  have e1 : (mW h cI cZ a S).set 0 (h, .inr (13, (mFs a S.1).set k (.int x))) = mW h cI cZ a (mI S k x) := by
    rw [(x5 a S.1).2 x]
    rfl
  rw [e1] at hP
  exact hP
theorem m_iald {k q n : Nat} {β : Type} {K : Option β} {res : β} {j : Int32} (C : mC p s m meth c cc nL args dC dI cI cZ) (I : mV dC dI h cI cZ a s S H locs) (X : mArI k q n) (pc : Nat) (hdg : decode cc pc = .ok (.iaload, 1))
    (hpf : gd j n K = some res) (kk : K = some res → W p l e (mRm d) s m args below meth c H locs 0 0 Q (F0 m (pc + 1) ls (.int (S.2 k j.toNatClampNeg) :: rest))) : W p l e (mRm d) s m args below meth c H locs 0 0 Q (F0 m pc ls (.int j :: .ref (a k) :: rest)) := by
  obtain ⟨h1, h2, h3, h4, h5, h6, h7⟩ := C
  obtain ⟨g1, g2⟩ := gd_some hpf
  exact va_iald h1 h2 h6 I.1 q 0 (X h cI cZ a S).1 rfl g1 hdg (kk g2)
theorem m_zald {k q n : Nat} {β : Type} {K : Option β} {res : β} {j : Int32} (C : mC p s m meth c cc nL args dC dI cI cZ) (I : mV dC dI h cI cZ a s S H locs) (X : mArZ k q n) (pc : Nat) (hdg : decode cc pc = .ok (.baload, 1))
    (hpf : gd j n K = some res) (kk : K = some res → W p l e (mRm d) s m args below meth c H locs 0 0 Q (F0 m (pc + 1) ls (.int (S.2 k j.toNatClampNeg) :: rest))) : W p l e (mRm d) s m args below meth c H locs 0 0 Q (F0 m pc ls (.int j :: .ref (a k) :: rest)) := by
  obtain ⟨h1, h2, h3, h4, h5, h6, h7⟩ := C
  obtain ⟨g1, g2⟩ := gd_some hpf
  exact va_zald h1 h2 h6 I.1 q 1 (X h cI cZ a S).1 rfl g1 hdg (kk g2)
theorem m_iast {k q n : Nat} {β : Type} {K : mS → Option β} {res : β} {j x : Int32} (C : mC p s m meth c cc nL args dC dI cI cZ) (I : mV dC dI h cI cZ a s S H locs) (X : mArI k q n) (pc : Nat) (hdg : decode cc pc = .ok (.iastore, 1))
    (hpf : gd j n (sv (mA S k j.toNatClampNeg x) K) = some res) (kk : ∀ (S1 : mS) (H1 : Heap) (locs1 : List Loc), mV dC dI h cI cZ a s S1 H1 locs1 → K S1 = some res → W p l e (mRm d) s m args below meth c H1 locs1 0 0 Q (F0 m (pc + 1) ls rest)) : W p l e (mRm d) s m args below meth c H locs 0 0 Q (F0 m pc ls (.int x :: .int j :: .ref (a k) :: rest)) := by
  obtain ⟨h1, h2, h3, h4, h5, h6, h7⟩ := C
  obtain ⟨g1, g2⟩ := gd_some hpf
  refine va_iast h1 h2 h6 I.1 I.2.1 I.2.2 q 0 (X h cI cZ a S).1 rfl g1 hdg (fun H1 locs1 hP hD hS => kk (mA S k j.toNatClampNeg x) H1 locs1 ⟨?_, mD_to I.2.1, hS⟩ g2)
  rw [(X h cI cZ a S).2] at hP
  exact hP
theorem m_zast {k q n : Nat} {β : Type} {K : mS → Option β} {res : β} {j x : Int32} (C : mC p s m meth c cc nL args dC dI cI cZ) (I : mV dC dI h cI cZ a s S H locs) (X : mArZ k q n) (pc : Nat) (hdg : decode cc pc = .ok (.bastore, 1))
    (hpf : gd j n (sv (mA S k j.toNatClampNeg (vp_nar .boolean x)) K) = some res) (kk : ∀ (S1 : mS) (H1 : Heap) (locs1 : List Loc), mV dC dI h cI cZ a s S1 H1 locs1 → K S1 = some res → W p l e (mRm d) s m args below meth c H1 locs1 0 0 Q (F0 m (pc + 1) ls rest)) : W p l e (mRm d) s m args below meth c H locs 0 0 Q (F0 m pc ls (.int x :: .int j :: .ref (a k) :: rest)) := by
  obtain ⟨h1, h2, h3, h4, h5, h6, h7⟩ := C
  obtain ⟨g1, g2⟩ := gd_some hpf
  refine va_zast h1 h2 h6 I.1 I.2.1 I.2.2 q 1 (X h cI cZ a S).1 rfl g1 hdg (fun H1 locs1 hP hD hS => kk (mA S k j.toNatClampNeg (vp_nar .boolean x)) H1 locs1 ⟨?_, mD_to I.2.1, hS⟩ g2)
  rw [(X h cI cZ a S).2] at hP
  exact hP
theorem m_callI {y : MethodName} {b : ByteArray} {nl n index d2 : Nat} {ret : FieldType} {As : List Value} {f : mS → Option (Int32 × mS)} {β : Type} {K : Int32 → mS → Option β} {res : β} {st0 : List Value}
    (C : mC p s m meth c cc nL args dC dI cI cZ) (I : mV dC dI h cI cZ a s S H locs) (X : mFnI y b nl (some ret) n index) (hM : mMet l y b nl ret d2 As f) (hd : d2 + 1 ≤ d) (pc : Nat) (hdg : decode cc pc = .ok (.invokevirtual index, 3)) (hn : As.length = n) (hsz : ls.size = nL)
    (hst : st0 = As.reverse ++ .ref h :: rest) (hW : (rest.map fun v => v.category).sum ≤ 8)
    (hpf : bd (f S) K = some res) (kk : ∀ (v : Int32) (S1 : mS) (H1 : Heap) (locs1 : List Loc), mV dC dI h cI cZ a s S1 H1 locs1 → K v S1 = some res → W p l e (mRm d) s m args below meth c H1 locs1 0 0 Q (F0 m (pc + 3) ls (.int v :: rest))) : W p l e (mRm d) s m args below meth c H locs 0 0 Q (F0 m pc ls st0) := by
  obtain ⟨h1, h2, h3, h4, h5, h6, h7⟩ := C
  obtain ⟨x1, x2, x3, x4, x5, x6, x7⟩ := X
  obtain ⟨v, S1, hf, hk⟩ := bd_some hpf
  have hG : GoodIn wsM (wsV RX10 index RX10 y (.code y b nl (some ret) :: wsM)) := mGoodIn (fun w hw => by
    rcases List.mem_append.mp hw with hw | hw
    · simp only [List.mem_cons, List.not_mem_nil, or_false] at hw
      rcases hw with rfl | rfl | rfl | rfl
      · exact x1
      · exact x2
      · exact x3
      · exact kM_ini
    · rcases List.mem_cons.mp hw with rfl | hw
      · exact x4
      · exact hw)
  have hS := I.2.2
  refine va_calli (va_runV (Ts := wsM) (own := RX10) (As := As) (rest := rest) ⟨h1, h2, h3, h4, h5⟩ (hM dC dI h cI cZ a H.size S v S1 hf) (cwV n h5 hG rfl rfl rfl ⟨x5, by rw [x5]; exact RX10_ok.1, by rw [x5]; exact RX10_ok.2, x6⟩ (mRoom hd x7)) ⟨fun a2 U g mk q => by obtain ⟨q0, q1, qP, qK, qD⟩ := q; exact ⟨q0, q1, qP, va_K.moved (u := U) (U := U.calling g mk a2) (Vm.Alike.refl U.vm) qK, qD⟩, va_recv h6 I.1 (ci := 13) (q0 := 0) rfl rfl, fun U hU hW2 => ⟨rfl, by rw [hU], by rw [hU]; exact I.1, va_K.moved hW2.alike h6, I.2.1.weaken (fun _ _ _ _ => trivial)⟩⟩ rfl hn hsz hst (lv_room hW) hdg ⟨Nat.zero_le _, Nat.zero_le _⟩) hS (fun q _ hq => mAt_le hS.1 q hq) (fun q hq => mAt_le hS.1 q hq) (fun r u t H1 locs1 ht hvm hw hB hz1 hk1 hS1 => ?_)
  obtain ⟨rfl, rfl⟩ := hw
  have hP1 : va_P (dC, dI) vwCl (mW h cI cZ a u) t.heap := hB
  rw [ht] at hP1
  exact kk r u H1 locs1 ⟨hP1, mD_to I.2.1, hS1⟩ hk
theorem m_callV {y : MethodName} {b : ByteArray} {nl n index d2 : Nat} {As : List Value} {f : mS → Option (Int32 × mS)} {β : Type} {K : Int32 → mS → Option β} {res : β} {st0 : List Value}
    (C : mC p s m meth c cc nL args dC dI cI cZ) (I : mV dC dI h cI cZ a s S H locs) (X : mFnI y b nl none n index) (hM : mMetV l y b nl d2 As f) (hd : d2 + 1 ≤ d) (pc : Nat) (hdg : decode cc pc = .ok (.invokevirtual index, 3)) (hn : As.length = n) (hsz : ls.size = nL)
    (hst : st0 = As.reverse ++ .ref h :: rest) (hW : (rest.map fun v => v.category).sum ≤ 8)
    (hpf : bd (f S) K = some res) (kk : ∀ (v : Int32) (S1 : mS) (H1 : Heap) (locs1 : List Loc), mV dC dI h cI cZ a s S1 H1 locs1 → K v S1 = some res → W p l e (mRm d) s m args below meth c H1 locs1 0 0 Q (F0 m (pc + 3) ls (rest))) : W p l e (mRm d) s m args below meth c H locs 0 0 Q (F0 m pc ls st0) := by
  obtain ⟨h1, h2, h3, h4, h5, h6, h7⟩ := C
  obtain ⟨x1, x2, x3, x4, x5, x6, x7⟩ := X
  obtain ⟨v, S1, hf, hk⟩ := bd_some hpf
  have hG : GoodIn wsM (wsV RX10 index RX10 y (.code y b nl none :: wsM)) := mGoodIn (fun w hw => by
    rcases List.mem_append.mp hw with hw | hw
    · simp only [List.mem_cons, List.not_mem_nil, or_false] at hw
      rcases hw with rfl | rfl | rfl | rfl
      · exact x1
      · exact x2
      · exact x3
      · exact kM_ini
    · rcases List.mem_cons.mp hw with rfl | hw
      · exact x4
      · exact hw)
  have hS := I.2.2
  refine va_callv (va_runV (Ts := wsM) (own := RX10) (As := As) (rest := rest) ⟨h1, h2, h3, h4, h5⟩ (hM dC dI h cI cZ a H.size S v S1 hf) (cwV n h5 hG rfl rfl rfl ⟨x5, by rw [x5]; exact RX10_ok.1, by rw [x5]; exact RX10_ok.2, x6⟩ (mRoom hd x7)) ⟨fun a2 U g mk q => by obtain ⟨q0, q1, qP, qK, qD⟩ := q; exact ⟨q0, q1, qP, va_K.moved (u := U) (U := U.calling g mk a2) (Vm.Alike.refl U.vm) qK, qD⟩, va_recv h6 I.1 (ci := 13) (q0 := 0) rfl rfl, fun U hU hW2 => ⟨rfl, by rw [hU], by rw [hU]; exact I.1, va_K.moved hW2.alike h6, I.2.1.weaken (fun _ _ _ _ => trivial)⟩⟩ rfl hn hsz hst (lv_room hW) hdg ⟨Nat.zero_le _, Nat.zero_le _⟩) hS (fun q _ hq => mAt_le hS.1 q hq) (fun q hq => mAt_le hS.1 q hq) (fun u t H1 locs1 ht hvm hw hB hz1 hk1 hS1 => ?_)
  have hP1 : va_P (dC, dI) vwCl (mW h cI cZ a u) t.heap := hB
  rw [ht, hw] at hP1
  exact kk v S1 H1 locs1 ⟨hP1, mD_to I.2.1, hS1⟩ hk
theorem m_callS {y : MethodName} {b : ByteArray} {nl n index d2 : Nat} {ret : FieldType} {As : List Value} {f : Option Int32} {β : Type} {K : Int32 → Option β} {res : β} {st0 : List Value}
    (C : mC p s m meth c cc nL args dC dI cI cZ) (I : mV dC dI h cI cZ a s S H locs) (X : mFnS y b nl (some ret) n index) (hM : mMetS l y b nl ret d2 As f) (hd : d2 + 1 ≤ d) (pc : Nat) (hdg : decode cc pc = .ok (.invokestatic index, 3)) (hn : As.length = n) (hsz : ls.size = nL)
    (hst : st0 = As.reverse ++ rest) (hW : (rest.map fun v => v.category).sum ≤ 8)
    (hpf : bs f K = some res) (kk : ∀ (v : Int32) (H1 : Heap) (locs1 : List Loc), mV dC dI h cI cZ a s S H1 locs1 → K v = some res → W p l e (mRm d) s m args below meth c H1 locs1 0 0 Q (F0 m (pc + 3) ls (.int v :: rest))) : W p l e (mRm d) s m args below meth c H locs 0 0 Q (F0 m pc ls st0) := by
  obtain ⟨h1, h2, h3, h4, h5, h6, h7⟩ := C
  obtain ⟨x1, x2, x4, x5, x6, x7⟩ := X
  obtain ⟨v, hf, hk⟩ := bs_some hpf
  have hG : GoodIn wsM (wsS RX10 index y (.code y b nl (some ret) :: wsM)) := mGoodIn (fun w hw => by
    rcases List.mem_append.mp hw with hw | hw
    · simp only [List.mem_cons, List.not_mem_nil, or_false] at hw
      rcases hw with rfl | rfl | rfl
      · exact x1
      · exact x2
      · exact kM_ini
    · rcases List.mem_cons.mp hw with rfl | hw
      · exact x4
      · exact hw)
  have hS := I.2.2
  refine va_calli (va_runS (Ts := wsM) (own := RX10) (As := As) (rest := rest) ⟨h1, h2, h3, h4, h5⟩ (hM v hf) (cwS n h5 hG rfl rfl rfl ⟨x5, by rw [x5]; exact RX10_ok.1, by rw [x5]; exact RX10_ok.2, x6⟩ (mRoom hd x7)) ⟨fun a2 U g mk q => q, fun U hU hW2 => ⟨rfl, trivial⟩⟩ rfl hn hsz hst (lv_room hW) hdg ⟨Nat.zero_le _, Nat.zero_le _⟩) hS (fun q _ hq => hq.elim) (fun q hq => hq.elim) (fun r u t H1 locs1 ht hvm hw hB hz1 hk1 hS1 => ?_)
  have hw : r = v := hw
  subst hw
  refine kk r H1 locs1 ⟨I.1.kept (fun k q hq => hk1 q.1 (I.1 k q hq).lt (fun z => z)), I.2.1, hS1⟩ hk
theorem m_reti {v r : Int32} {S' : mS} {sz : Nat} (C : mC p s m meth c cc nL args dC dI cI cZ) (I : mV dC dI h cI cZ a s S H locs) (hr : meth.sig.returnType = some .int) (hz : s.heap.size = sz) (pc : Nat) (hdg : decode cc pc = .ok (.ireturn, 1)) (hpf : some (v, S) = some (r, S')) :
    W p l e (mRm d) s m args below meth c H locs 0 0 (MQ below (mQ dC dI h cI cZ a sz r S') args s 0 0 (mAt h cI cZ a sz)) (F0 m pc ls [.int v]) := by
  cases hpf
  subst hz
  exact W.iret C.1 C.2.1 hr (fun t ht hW => ⟨⟨v, S, rfl, ⟨rfl, rfl⟩, by show va_P _ _ _ t.heap; rw [ht]; exact I.1⟩, I.2.2.F ht⟩) I.2.2.2.2 hdg C.2.2.2.2.2.2
theorem m_retz {v r : Int32} {S' : mS} {sz : Nat} (C : mC p s m meth c cc nL args dC dI cI cZ) (I : mV dC dI h cI cZ a s S H locs) (hr : meth.sig.returnType = some .boolean) (hz : s.heap.size = sz) (pc : Nat) (hdg : decode cc pc = .ok (.ireturn, 1)) (hpf : zr v S = some (r, S')) :
    W p l e (mRm d) s m args below meth c H locs 0 0 (MQ below (mQ dC dI h cI cZ a sz r S') args s 0 0 (mAt h cI cZ a sz)) (F0 m pc ls [.int v]) := by
  unfold zr at hpf
  by_cases hv : vp_nar .boolean v = v
  · rw [if_pos hv] at hpf
    cases hpf
    subst hz
    exact W.zret C.1 C.2.1 hr (nar_z hv) (fun t ht hW => ⟨⟨v, S, rfl, ⟨rfl, rfl⟩, by show va_P _ _ _ t.heap; rw [ht]; exact I.1⟩, I.2.2.F ht⟩) I.2.2.2.2 hdg C.2.2.2.2.2.2
  · rw [if_neg hv] at hpf; cases hpf
theorem m_retv {r : Int32} {S' : mS} {sz : Nat} (C : mC p s m meth c cc nL args dC dI cI cZ) (I : mV dC dI h cI cZ a s S H locs) (hr : meth.sig.returnType = none) (hz : s.heap.size = sz) (pc : Nat) (hdg : decode cc pc = .ok (.return_, 1)) (hpf : some ((0 : Int32), S) = some (r, S')) :
    W p l e (mRm d) s m args below meth c H locs 0 0 (MQ below (mQv dC dI h cI cZ a sz S') args s 0 0 (mAt h cI cZ a sz)) (F0 m pc ls []) := by
  cases hpf
  subst hz
  exact W.vret C.1 C.2.1 hr (fun t ht hW => ⟨⟨S, rfl, rfl, by show va_P _ _ _ t.heap; rw [ht]; exact I.1⟩, I.2.2.F ht⟩) I.2.2.2.2 hdg C.2.2.2.2.2.2
end MR
section MB
variable {p : Program} {l : Launch} {e : Env} {R : Room} {s : State} {m : MethodId} {args : Array Value} {below : List Frame} {meth : Method} {c : Code} {H : Heap} {locs : List Loc} {cells slots : Nat} {Q : State → Prop}
variable {cc : ByteArray} {ls : Array Slot} {rest : List Value} {β : Type} {A B : Option β} {res : β}

theorem b_if_eq (hx : p.tables.exec = Jvm.exec) (hb : c.code = cc) {x : Int32} {off : Int} (tgt : Nat) (pc : Nat) (hdg : decode cc pc = .ok (.ifCond .eq off, 3)) (ht : (pc : Int) + off = (tgt : Int)) (hpf : (if x = 0 then A else B) = some res) (kt : A = some res → W p l e R s m args below meth c H locs cells slots Q (F0 m tgt ls rest)) (kf : B = some res → W p l e R s m args below meth c H locs cells slots Q (F0 m (pc + 3) ls rest)) : W p l e R s m args below meth c H locs cells slots Q (F0 m pc ls (.int x :: rest)) :=
  lv_if_eq hx hb hdg ht (fun q => kt (by rw [if_pos q] at hpf; exact hpf)) (fun q => kf (by rw [if_neg q] at hpf; exact hpf))
theorem b_icmp_eq (hx : p.tables.exec = Jvm.exec) (hb : c.code = cc) {x y : Int32} {off : Int} (tgt : Nat) (pc : Nat) (hdg : decode cc pc = .ok (.if_icmp .eq off, 3)) (ht : (pc : Int) + off = (tgt : Int)) (hpf : (if x = y then A else B) = some res) (kt : A = some res → W p l e R s m args below meth c H locs cells slots Q (F0 m tgt ls rest)) (kf : B = some res → W p l e R s m args below meth c H locs cells slots Q (F0 m (pc + 3) ls rest)) : W p l e R s m args below meth c H locs cells slots Q (F0 m pc ls (.int y :: .int x :: rest)) :=
  lv_icmp_eq hx hb hdg ht (fun q => kt (by rw [if_pos q] at hpf; exact hpf)) (fun q => kf (by rw [if_neg q] at hpf; exact hpf))
theorem b_if_ne (hx : p.tables.exec = Jvm.exec) (hb : c.code = cc) {x : Int32} {off : Int} (tgt : Nat) (pc : Nat) (hdg : decode cc pc = .ok (.ifCond .ne off, 3)) (ht : (pc : Int) + off = (tgt : Int)) (hpf : (if x = 0 then B else A) = some res) (kt : A = some res → W p l e R s m args below meth c H locs cells slots Q (F0 m tgt ls rest)) (kf : B = some res → W p l e R s m args below meth c H locs cells slots Q (F0 m (pc + 3) ls rest)) : W p l e R s m args below meth c H locs cells slots Q (F0 m pc ls (.int x :: rest)) :=
  lv_if_ne hx hb hdg ht (fun q => kt (by rw [if_neg q] at hpf; exact hpf)) (fun q => kf (by rw [if_pos q] at hpf; exact hpf))
theorem b_icmp_ne (hx : p.tables.exec = Jvm.exec) (hb : c.code = cc) {x y : Int32} {off : Int} (tgt : Nat) (pc : Nat) (hdg : decode cc pc = .ok (.if_icmp .ne off, 3)) (ht : (pc : Int) + off = (tgt : Int)) (hpf : (if x = y then B else A) = some res) (kt : A = some res → W p l e R s m args below meth c H locs cells slots Q (F0 m tgt ls rest)) (kf : B = some res → W p l e R s m args below meth c H locs cells slots Q (F0 m (pc + 3) ls rest)) : W p l e R s m args below meth c H locs cells slots Q (F0 m pc ls (.int y :: .int x :: rest)) :=
  lv_icmp_ne hx hb hdg ht (fun q => kt (by rw [if_neg q] at hpf; exact hpf)) (fun q => kf (by rw [if_pos q] at hpf; exact hpf))
theorem b_if_lt (hx : p.tables.exec = Jvm.exec) (hb : c.code = cc) {x : Int32} {off : Int} (tgt : Nat) (pc : Nat) (hdg : decode cc pc = .ok (.ifCond .lt off, 3)) (ht : (pc : Int) + off = (tgt : Int)) (hpf : (if x < 0 then A else B) = some res) (kt : A = some res → W p l e R s m args below meth c H locs cells slots Q (F0 m tgt ls rest)) (kf : B = some res → W p l e R s m args below meth c H locs cells slots Q (F0 m (pc + 3) ls rest)) : W p l e R s m args below meth c H locs cells slots Q (F0 m pc ls (.int x :: rest)) :=
  lv_if_lt hx hb hdg ht (fun q => kt (by rw [if_pos q] at hpf; exact hpf)) (fun q => kf (by rw [if_neg q] at hpf; exact hpf))
theorem b_icmp_lt (hx : p.tables.exec = Jvm.exec) (hb : c.code = cc) {x y : Int32} {off : Int} (tgt : Nat) (pc : Nat) (hdg : decode cc pc = .ok (.if_icmp .lt off, 3)) (ht : (pc : Int) + off = (tgt : Int)) (hpf : (if x < y then A else B) = some res) (kt : A = some res → W p l e R s m args below meth c H locs cells slots Q (F0 m tgt ls rest)) (kf : B = some res → W p l e R s m args below meth c H locs cells slots Q (F0 m (pc + 3) ls rest)) : W p l e R s m args below meth c H locs cells slots Q (F0 m pc ls (.int y :: .int x :: rest)) :=
  lv_icmp_lt hx hb hdg ht (fun q => kt (by rw [if_pos q] at hpf; exact hpf)) (fun q => kf (by rw [if_neg q] at hpf; exact hpf))
theorem b_if_ge (hx : p.tables.exec = Jvm.exec) (hb : c.code = cc) {x : Int32} {off : Int} (tgt : Nat) (pc : Nat) (hdg : decode cc pc = .ok (.ifCond .ge off, 3)) (ht : (pc : Int) + off = (tgt : Int)) (hpf : (if 0 ≤ x then A else B) = some res) (kt : A = some res → W p l e R s m args below meth c H locs cells slots Q (F0 m tgt ls rest)) (kf : B = some res → W p l e R s m args below meth c H locs cells slots Q (F0 m (pc + 3) ls rest)) : W p l e R s m args below meth c H locs cells slots Q (F0 m pc ls (.int x :: rest)) :=
  lv_if_ge hx hb hdg ht (fun q => kt (by rw [if_pos q] at hpf; exact hpf)) (fun q => kf (by rw [if_neg q] at hpf; exact hpf))
theorem b_icmp_ge (hx : p.tables.exec = Jvm.exec) (hb : c.code = cc) {x y : Int32} {off : Int} (tgt : Nat) (pc : Nat) (hdg : decode cc pc = .ok (.if_icmp .ge off, 3)) (ht : (pc : Int) + off = (tgt : Int)) (hpf : (if y ≤ x then A else B) = some res) (kt : A = some res → W p l e R s m args below meth c H locs cells slots Q (F0 m tgt ls rest)) (kf : B = some res → W p l e R s m args below meth c H locs cells slots Q (F0 m (pc + 3) ls rest)) : W p l e R s m args below meth c H locs cells slots Q (F0 m pc ls (.int y :: .int x :: rest)) :=
  lv_icmp_ge hx hb hdg ht (fun q => kt (by rw [if_pos q] at hpf; exact hpf)) (fun q => kf (by rw [if_neg q] at hpf; exact hpf))
theorem b_if_gt (hx : p.tables.exec = Jvm.exec) (hb : c.code = cc) {x : Int32} {off : Int} (tgt : Nat) (pc : Nat) (hdg : decode cc pc = .ok (.ifCond .gt off, 3)) (ht : (pc : Int) + off = (tgt : Int)) (hpf : (if 0 < x then A else B) = some res) (kt : A = some res → W p l e R s m args below meth c H locs cells slots Q (F0 m tgt ls rest)) (kf : B = some res → W p l e R s m args below meth c H locs cells slots Q (F0 m (pc + 3) ls rest)) : W p l e R s m args below meth c H locs cells slots Q (F0 m pc ls (.int x :: rest)) :=
  lv_if_gt hx hb hdg ht (fun q => kt (by rw [if_pos q] at hpf; exact hpf)) (fun q => kf (by rw [if_neg q] at hpf; exact hpf))
theorem b_icmp_gt (hx : p.tables.exec = Jvm.exec) (hb : c.code = cc) {x y : Int32} {off : Int} (tgt : Nat) (pc : Nat) (hdg : decode cc pc = .ok (.if_icmp .gt off, 3)) (ht : (pc : Int) + off = (tgt : Int)) (hpf : (if y < x then A else B) = some res) (kt : A = some res → W p l e R s m args below meth c H locs cells slots Q (F0 m tgt ls rest)) (kf : B = some res → W p l e R s m args below meth c H locs cells slots Q (F0 m (pc + 3) ls rest)) : W p l e R s m args below meth c H locs cells slots Q (F0 m pc ls (.int y :: .int x :: rest)) :=
  lv_icmp_gt hx hb hdg ht (fun q => kt (by rw [if_pos q] at hpf; exact hpf)) (fun q => kf (by rw [if_neg q] at hpf; exact hpf))
theorem b_if_le (hx : p.tables.exec = Jvm.exec) (hb : c.code = cc) {x : Int32} {off : Int} (tgt : Nat) (pc : Nat) (hdg : decode cc pc = .ok (.ifCond .le off, 3)) (ht : (pc : Int) + off = (tgt : Int)) (hpf : (if x ≤ 0 then A else B) = some res) (kt : A = some res → W p l e R s m args below meth c H locs cells slots Q (F0 m tgt ls rest)) (kf : B = some res → W p l e R s m args below meth c H locs cells slots Q (F0 m (pc + 3) ls rest)) : W p l e R s m args below meth c H locs cells slots Q (F0 m pc ls (.int x :: rest)) :=
  lv_if_le hx hb hdg ht (fun q => kt (by rw [if_pos q] at hpf; exact hpf)) (fun q => kf (by rw [if_neg q] at hpf; exact hpf))
theorem b_icmp_le (hx : p.tables.exec = Jvm.exec) (hb : c.code = cc) {x y : Int32} {off : Int} (tgt : Nat) (pc : Nat) (hdg : decode cc pc = .ok (.if_icmp .le off, 3)) (ht : (pc : Int) + off = (tgt : Int)) (hpf : (if x ≤ y then A else B) = some res) (kt : A = some res → W p l e R s m args below meth c H locs cells slots Q (F0 m tgt ls rest)) (kf : B = some res → W p l e R s m args below meth c H locs cells slots Q (F0 m (pc + 3) ls rest)) : W p l e R s m args below meth c H locs cells slots Q (F0 m pc ls (.int y :: .int x :: rest)) :=
  lv_icmp_le hx hb hdg ht (fun q => kt (by rw [if_pos q] at hpf; exact hpf)) (fun q => kf (by rw [if_neg q] at hpf; exact hpf))
end MB
