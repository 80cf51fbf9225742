def wsC_0 : List Cond := [Cond.code yX0_init cX0_init 6 none, Cond.methodLink RX0 3 objectInit, Cond.instanceMethod objectInit, Cond.code objectInit ⟨#[0xb1]⟩ 1 none, Cond.fieldLink RX0 9 "MasterTree$Change" "kind" "I", Cond.fieldLink RX0 15 "MasterTree$Change" "entry" "I", Cond.fieldLink RX0 18 "MasterTree$Change" "first" "I", Cond.fieldLink RX0 21 "MasterTree$Change" "second" "I", Cond.fieldLink RX0 24 "MasterTree$Change" "third" "I", Cond.code yX0_rank cX0_rank 1 (some .int), Cond.fieldLink RX0 27 "MasterTree$Change" "stamp" "I", Cond.fieldLink RX0 30 "MasterTree$Change" "master" "I", Cond.code yX1_init cX1_init 2 none, Cond.methodLink RX1 3 objectInit, Cond.arrayClass .int, Cond.fieldLink RX1 9 "MasterTree$Drafted" "codes" "[I", Cond.fieldLink RX1 15 "MasterTree$Drafted" "schema" "LMasterTree$Schema;", Cond.code yX1_put cX1_put 2 (some .int), Cond.fieldLink RX1 19 "MasterTree$Drafted" "count" "I", Cond.code yX1_take cX1_take 2 (some (.array .int)), Cond.methodLink RX1 23 yJ7_copyOf_59c91, Cond.static yJ7_copyOf_59c91, Cond.initialized RJ7, Cond.code yJ7_copyOf_59c91 cJ7_copyOf_59c91 3 (some (.array .int))]
def wsC_1 : List Cond := [Cond.methodLink RJ7 316 ⟨"[I", "clone", "()Ljava/lang/Object;"⟩, Cond.sameMethod "[I" "java/lang/Object" "clone" "()Ljava/lang/Object;", Cond.native ⟨"java/lang/Object", "clone", "()Ljava/lang/Object;"⟩, Cond.instanceMethod ⟨"java/lang/Object", "clone", "()Ljava/lang/Object;"⟩, Cond.selects "[I" ⟨"[I", "clone", "()Ljava/lang/Object;"⟩ ⟨"java/lang/Object", "clone", "()Ljava/lang/Object;"⟩, Cond.classLink RJ7 317 "[I", Cond.methodLink RJ7 304 Lib.Math.min.name, Cond.static Lib.Math.min.name, Cond.initialized "java/lang/Math", Cond.code Lib.Math.min.name Lib.Math.min.code 2 (some .int), Cond.methodLink RJ7 150 arraycopyName, Cond.native arraycopyName, Cond.static arraycopyName, Cond.initialized "java/lang/System", Cond.code yX7_isClass cX7_isClass 2 (some .boolean), Cond.fieldLink RX7 31 "MasterTree$Schema" "classes" "I", Cond.code yX7_allowedBy cX7_allowedBy 2 (some .int), Cond.fieldLink RX7 18 "MasterTree$Schema" "allowed" "[I", Cond.methodLink RX7 41 yX7_isClass, Cond.instanceMethod yX7_isClass, Cond.selects RX7 yX7_isClass yX7_isClass, Cond.initialized RX7, Cond.code yX7_isAllowed cX7_isAllowed 3 (some .boolean), Cond.methodLink RX7 38 yX7_allowedBy]
def wsC_2 : List Cond := [Cond.instanceMethod yX7_allowedBy, Cond.selects RX7 yX7_allowedBy yX7_allowedBy, Cond.code yX7_isSingle cX7_isSingle 2 (some .boolean), Cond.fieldLink RX7 25 "MasterTree$Schema" "singles" "I", Cond.code yX7_isByTens cX7_isByTens 2 (some .boolean), Cond.fieldLink RX7 28 "MasterTree$Schema" "byTens" "I", Cond.code yX7_lowest cX7_lowest 3 (some .int), Cond.methodLink RX7 45 yX7_isByTens, Cond.instanceMethod yX7_isByTens, Cond.selects RX7 yX7_isByTens yX7_isByTens, Cond.code yX7_highest cX7_highest 3 (some .int), Cond.code yX1_isMatchedBefore cX1_isMatchedBefore 6 (some .boolean), Cond.methodLink RX1 46 yX7_lowest, Cond.instanceMethod yX7_lowest, Cond.selects RX7 yX7_lowest yX7_lowest, Cond.methodLink RX1 50 yX7_highest, Cond.instanceMethod yX7_highest, Cond.selects RX7 yX7_highest yX7_highest, Cond.code yX7_requiredBy cX7_requiredBy 2 (some .int), Cond.fieldLink RX7 15 "MasterTree$Schema" "required" "[I", Cond.methodLink RX1 29 yX7_isAllowed, Cond.instanceMethod yX7_isAllowed, Cond.selects RX7 yX7_isAllowed yX7_isAllowed, Cond.methodLink RX1 35 yX7_isSingle]
def wsC_3 : List Cond := [Cond.instanceMethod yX7_isSingle, Cond.selects RX7 yX7_isSingle yX7_isSingle, Cond.methodLink RX1 39 yX1_isMatchedBefore, Cond.instanceMethod yX1_isMatchedBefore, Cond.selects RX1 yX1_isMatchedBefore yX1_isMatchedBefore, Cond.initialized RX1, Cond.methodLink RX1 42 yX7_requiredBy, Cond.instanceMethod yX7_requiredBy, Cond.selects RX7 yX7_requiredBy yX7_requiredBy, Cond.code yX1_fits cX1_fits 6 (some .boolean), Cond.code yX2_init cX2_init 2 none, Cond.methodLink RX2 3 objectInit, Cond.fieldLink RX2 9 "MasterTree$Filter" "kinds" "[I", Cond.fieldLink RX2 15 "MasterTree$Filter" "lows" "[I", Cond.fieldLink RX2 18 "MasterTree$Filter" "highs" "[I", Cond.arrayClass .long, Cond.fieldLink RX2 21 "MasterTree$Filter" "sets" "[J", Cond.fieldLink RX2 25 "MasterTree$Filter" "schema" "LMasterTree$Schema;", Cond.code yX2_clear cX2_clear 1 none, Cond.fieldLink RX2 29 "MasterTree$Filter" "parts" "I", Cond.fieldLink RX2 33 "MasterTree$Filter" "filters" "I", Cond.code yX2_put cX2_put 5 (some .int), Cond.code yX2_putRange cX2_putRange 4 (some .int), Cond.methodLink RX2 36 yX2_put]
def wsC_4 : List Cond := [Cond.instanceMethod yX2_put, Cond.selects RX2 yX2_put yX2_put, Cond.initialized RX2, Cond.code yX2_putClass cX2_putClass 2 (some .int), Cond.code yX2_putCombined cX2_putCombined 2 (some .int), Cond.code yX2_putNot cX2_putNot 1 (some .int), Cond.code yX5_indexOf cX5_indexOf 4 (some .int), Cond.fieldLink RX5 21 "MasterTree$Numbers" "size" "I", Cond.fieldLink RX5 15 "MasterTree$Numbers" "rows" "[I", Cond.code yX5_countBetween cX5_countBetween 3 (some .int), Cond.methodLink RX5 25 yX5_indexOf, Cond.instanceMethod yX5_indexOf, Cond.selects RX5 yX5_indexOf yX5_indexOf, Cond.initialized RX5, Cond.code yX8_valuesBetween cX8_valuesBetween 4 (some .int), Cond.fieldLink RX8 39 "MasterTree$Tree" "codesByEntry" "LMasterTree$Numbers;", Cond.methodLink RX8 163 yX5_countBetween, Cond.instanceMethod yX5_countBetween, Cond.selects RX5 yX5_countBetween yX5_countBetween, Cond.code yX7_isOrBeneath cX7_isOrBeneath 5 (some .boolean), Cond.fieldLink RX7 9 "MasterTree$Schema" "parents" "[I", Cond.fieldLink RX2 46 "MasterTree$Tree" "classes" "[I", Cond.methodLink RX2 40 yX8_valuesBetween, Cond.instanceMethod yX8_valuesBetween]
def wsC_5 : List Cond := [Cond.selects RX8 yX8_valuesBetween yX8_valuesBetween, Cond.initialized RX8, Cond.methodLink RX2 49 yX7_isOrBeneath, Cond.instanceMethod yX7_isOrBeneath, Cond.selects RX7 yX7_isOrBeneath yX7_isOrBeneath, Cond.code yX2_applies cX2_applies 8 (some .boolean), Cond.code yX5_at cX5_at 2 (some .int), Cond.code yX8_living cX8_living 1 (some .long), Cond.fieldLink RX8 64 "MasterTree$Tree" "added" "J", Cond.fieldLink RX8 68 "MasterTree$Tree" "deleted" "J", Cond.constantLong RX8 144 (-1), Cond.code yX8_holdersBetween cX8_holdersBetween 7 (some .long), Cond.fieldLink RX8 43 "MasterTree$Tree" "entriesByCode" "LMasterTree$Numbers;", Cond.methodLink RX8 134 yX5_indexOf, Cond.methodLink RX8 138 yX5_at, Cond.instanceMethod yX5_at, Cond.selects RX5 yX5_at yX5_at, Cond.methodLink RX8 169 yX8_living, Cond.instanceMethod yX8_living, Cond.selects RX8 yX8_living yX8_living, Cond.code yX8_isLive cX8_isLive 2 (some .boolean), Cond.methodLink RX2 65 yX8_holdersBetween, Cond.instanceMethod yX8_holdersBetween, Cond.selects RX8 yX8_holdersBetween yX8_holdersBetween]
def wsC_6 : List Cond := [Cond.methodLink RX2 69 yX8_isLive, Cond.instanceMethod yX8_isLive, Cond.selects RX8 yX8_isLive yX8_isLive, Cond.code yX2_setOf cX2_setOf 6 (some .long), Cond.constantLong RX2 63 (-1), Cond.methodLink RX2 55 yX2_setOf, Cond.instanceMethod yX2_setOf, Cond.selects RX2 yX2_setOf yX2_setOf, Cond.methodLink RX2 59 yX8_living, Cond.code yX2_appliesTo cX2_appliesTo 6 (some .long), Cond.code yX3_init cX3_init 3 none, Cond.methodLink RX3 3 objectInit, Cond.fieldLink RX3 9 "MasterTree$Finder" "spots" "[I", Cond.fieldLink RX3 15 "MasterTree$Finder" "met" "[J", Cond.fieldLink RX3 19 "MasterTree$Finder" "waiting" "[I", Cond.fieldLink RX3 22 "MasterTree$Finder" "masters" "[LMasterTree$Master;", Cond.fieldLink RX3 26 "MasterTree$Finder" "filter" "LMasterTree$Filter;", Cond.code yX8_placeOf cX8_placeOf 2 (some .int), Cond.fieldLink RX8 28 "MasterTree$Tree" "parents" "[I", Cond.methodLink RX8 146 yX8_isLive, Cond.code yX8_isAtOrBeneath cX8_isAtOrBeneath 5 (some .boolean), Cond.methodLink RX8 149 yX8_placeOf, Cond.instanceMethod yX8_placeOf, Cond.selects RX8 yX8_placeOf yX8_placeOf]
def wsC_7 : List Cond := [Cond.code yX3_isInScope cX3_isInScope 4 (some .boolean), Cond.methodLink RX3 64 yX8_placeOf, Cond.methodLink RX3 68 yX8_isAtOrBeneath, Cond.instanceMethod yX8_isAtOrBeneath, Cond.selects RX8 yX8_isAtOrBeneath yX8_isAtOrBeneath, Cond.code yX6_slot cX6_slot 3 (some .int), Cond.code yX6_decideFor cX6_decideFor 6 (some .int), Cond.code yX6_decide cX6_decide 14 (some .int), Cond.fieldLink RX6 11 "MasterTree$Rules" "allows" "[J", Cond.fieldLink RX6 15 "MasterTree$Rules" "denies" "[J", Cond.constantLong RX6 38 (18014398509481984), Cond.methodLink RX6 30 yX6_slot, Cond.static yX6_slot, Cond.initialized RX6, Cond.methodLink RX6 34 yX6_decideFor, Cond.static yX6_decideFor, Cond.fieldLink RX8 49 "MasterTree$Tree" "schema" "LMasterTree$Schema;", Cond.fieldLink RX8 24 "MasterTree$Tree" "rules" "LMasterTree$Rules;", Cond.methodLink RX8 180 Lib.Math.min.name, Cond.methodLink RX8 124 yX7_lowest, Cond.methodLink RX8 128 yX7_highest, Cond.methodLink RX8 176 yX8_holdersBetween, Cond.methodLink RX8 185 yX6_decide, Cond.instanceMethod yX6_decide]
def wsC_8 : List Cond := [Cond.selects RX6 yX6_decide yX6_decide, Cond.code yX8_grants cX8_grants 9 (some .boolean), Cond.code yX3_keep cX3_keep 2 none, Cond.fieldLink RX3 41 "MasterTree$Finder" "count" "I", Cond.fieldLink RX3 30 "MasterTree$Master" "tree" "LMasterTree$Tree;", Cond.fieldLink RX3 36 "MasterTree$Master" "user" "I", Cond.fieldLink RX3 40 "MasterTree$Finder" "user" "I", Cond.methodLink RX3 44 yX2_appliesTo, Cond.instanceMethod yX2_appliesTo, Cond.selects RX2 yX2_appliesTo yX2_appliesTo, Cond.methodLink RX3 50 yX3_isInScope, Cond.static yX3_isInScope, Cond.initialized RX3, Cond.methodLink RX3 54 yX8_grants, Cond.instanceMethod yX8_grants, Cond.selects RX8 yX8_grants yX8_grants, Cond.methodLink RX3 60 yX3_keep, Cond.instanceMethod yX3_keep, Cond.selects RX3 yX3_keep yX3_keep, Cond.code yX3_byIndex cX3_byIndex 9 (some .int), Cond.code yX8_childrenAt cX8_childrenAt 5 (some .long), Cond.methodLink RX3 72 yX8_childrenAt, Cond.instanceMethod yX8_childrenAt, Cond.selects RX8 yX8_childrenAt yX8_childrenAt]
def wsC_9 : List Cond := [Cond.methodLink RX3 76 yJ13_numberOfTrailingZeros_95d88, Cond.static yJ13_numberOfTrailingZeros_95d88, Cond.initialized RJ13, Cond.code yJ13_numberOfTrailingZeros_95d88 cJ13_numberOfTrailingZeros_95d88 3 (some .int), Cond.methodLink RJ13 311 yJ6_numberOfTrailingZeros_0f7a4, Cond.static yJ6_numberOfTrailingZeros_0f7a4, Cond.initialized RJ6, Cond.code yJ6_numberOfTrailingZeros_0f7a4 cJ6_numberOfTrailingZeros_0f7a4 2 (some .int), Cond.constant RJ6 264 (65536), Cond.methodLink RX3 82 yX2_applies, Cond.instanceMethod yX2_applies, Cond.selects RX2 yX2_applies yX2_applies, Cond.code yX3_byWalk cX3_byWalk 10 (some .int), Cond.code yX3_arriveFrom cX3_arriveFrom 7 (some .int), Cond.fieldLink RX3 108 "MasterTree$Tree" "links" "[I", Cond.methodLink RX3 104 yX8_isLive, Cond.code yX3_lookAt cX3_lookAt 4 none, Cond.code yX5_clear cX5_clear 1 none, Cond.code yX8_shownName cX8_shownName 5 (some .int), Cond.fieldLink RX8 9 "MasterTree$Tree" "names" "[I", Cond.fieldLink RX8 31 "MasterTree$Tree" "addRanks" "[I", Cond.code yX5_put cX5_put 3 none, Cond.methodLink RX5 32 arraycopyName, Cond.methodLink RX5 29 yX5_at]
def wsC_10 : List Cond := [Cond.fieldLink RX8 46 "MasterTree$Tree" "ranked" "LMasterTree$Numbers;", Cond.methodLink RX8 155 yX8_childrenAt, Cond.methodLink RX8 63 yX5_clear, Cond.instanceMethod yX5_clear, Cond.selects RX5 yX5_clear yX5_clear, Cond.methodLink RX8 152 yX8_shownName, Cond.instanceMethod yX8_shownName, Cond.selects RX8 yX8_shownName yX8_shownName, Cond.methodLink RX8 131 yX5_put, Cond.instanceMethod yX5_put, Cond.selects RX5 yX5_put yX5_put, Cond.code yX8_rankedAt cX8_rankedAt 5 (some (.object "MasterTree$Numbers")), Cond.fieldLink RX3 115 "MasterTree$Numbers" "size" "I", Cond.fieldLink RX3 86 "MasterTree$Finder" "waitingCount" "I", Cond.methodLink RX3 111 yX8_rankedAt, Cond.instanceMethod yX8_rankedAt, Cond.selects RX8 yX8_rankedAt yX8_rankedAt, Cond.methodLink RX3 120 yX5_at, Cond.code yX3_awaitChildrenOf cX3_awaitChildrenOf 4 none, Cond.methodLink RX3 89 yJ7_fill_d0a16, Cond.static yJ7_fill_d0a16, Cond.code yJ7_fill_d0a16 cJ7_fill_d0a16 5 none, Cond.methodLink RX3 95 yX3_arriveFrom, Cond.instanceMethod yX3_arriveFrom]
def wsC_11 : List Cond := [Cond.selects RX3 yX3_arriveFrom yX3_arriveFrom, Cond.methodLink RX3 98 yX3_lookAt, Cond.instanceMethod yX3_lookAt, Cond.selects RX3 yX3_lookAt yX3_lookAt, Cond.methodLink RX3 101 yX3_awaitChildrenOf, Cond.instanceMethod yX3_awaitChildrenOf, Cond.selects RX3 yX3_awaitChildrenOf yX3_awaitChildrenOf, Cond.code yX3_byLinks cX3_byLinks 6 (some .int), Cond.code yX4_init cX4_init 3 none, Cond.methodLink RX4 3 objectInit, Cond.fieldLink RX4 9 "MasterTree$Master" "told" "[I", Cond.fieldLink RX4 15 "MasterTree$Master" "number" "I", Cond.fieldLink RX4 19 "MasterTree$Master" "tree" "LMasterTree$Tree;", Cond.code yX4_toldOf cX4_toldOf 3 (some .int), Cond.code yX4_isToldThatKnows cX4_isToldThatKnows 3 (some .boolean), Cond.fieldLink RX4 23 "MasterTree$Change" "master" "I", Cond.fieldLink RX4 32 "MasterTree$Change" "number" "I", Cond.methodLink RX4 28 yX4_toldOf, Cond.instanceMethod yX4_toldOf, Cond.selects RX4 yX4_toldOf yX4_toldOf, Cond.initialized RX4, Cond.code yX4_hasGot cX4_hasGot 2 (some .boolean), Cond.methodLink RX4 33 yX4_isToldThatKnows, Cond.instanceMethod yX4_isToldThatKnows]
def wsC_12 : List Cond := [Cond.selects RX4 yX4_isToldThatKnows yX4_isToldThatKnows, Cond.code yX4_learn cX4_learn 2 none, Cond.fieldLink RX4 37 "MasterTree$Master" "greatestStamp" "I", Cond.fieldLink RX4 40 "MasterTree$Change" "stamp" "I", Cond.methodLink RX4 47 Lib.Math.max.name, Cond.static Lib.Math.max.name, Cond.code Lib.Math.max.name Lib.Math.max.code 2 (some .int), Cond.code yX4_sign cX4_sign 2 none, Cond.methodLink RX4 43 yX4_learn, Cond.instanceMethod yX4_learn, Cond.selects RX4 yX4_learn yX4_learn, Cond.code yX4_talkTo cX4_talkTo 4 none, Cond.code yX8_deletedOnes cX8_deletedOnes 1 (some .long), Cond.code yX4_marked cX4_marked 1 (some .long), Cond.fieldLink RX4 58 "MasterTree$Master" "dropped" "J", Cond.constantLong RX4 62 (-1), Cond.methodLink RX4 52 yX8_deletedOnes, Cond.instanceMethod yX8_deletedOnes, Cond.selects RX8 yX8_deletedOnes yX8_deletedOnes, Cond.code yX5_init cX5_init 2 none, Cond.methodLink RX5 3 objectInit, Cond.methodLink RX5 9 Lib.Math.max.name, Cond.code yX5_dropAt cX5_dropAt 2 none, Cond.code yX6_init cX6_init 1 none]
def wsC_13 : List Cond := [Cond.methodLink RX6 5 objectInit, Cond.code yX6_clear cX6_clear 1 none, Cond.methodLink RX6 18 yJ7_fill_d0a16, Cond.code yX6_bitOf cX6_bitOf 1 (some .long), Cond.code yX6_saidOf cX6_saidOf 5 (some .int), Cond.methodLink RX6 24 yX6_bitOf, Cond.static yX6_bitOf, Cond.code yX6_say cX6_say 6 none, Cond.constantLong RX6 28 (-1), Cond.code yX7_init cX7_init 1 none, Cond.methodLink RX7 3 objectInit, Cond.code yX7_newAttribute cX7_newAttribute 4 (some .int), Cond.fieldLink RX7 21 "MasterTree$Schema" "attributes" "I", Cond.code yX7_newClass cX7_newClass 4 (some .int), Cond.methodLink RX7 34 yX7_requiredBy, Cond.code yX7_isSetOfAttributes cX7_isSetOfAttributes 2 (some .boolean), Cond.code yX7_isRequired cX7_isRequired 3 (some .boolean), Cond.fieldLink RX8 15 "MasterTree$Tree" "classes" "[I", Cond.fieldLink RX8 18 "MasterTree$Tree" "links" "[I", Cond.methodLink RX8 56 yJ7_fill_53178, Cond.static yJ7_fill_53178, Cond.code yJ7_fill_53178 cJ7_fill_53178 4 none, Cond.methodLink RX8 62 yX6_clear, Cond.instanceMethod yX6_clear]
def wsC_14 : List Cond := [Cond.selects RX6 yX6_clear yX6_clear, Cond.code yX8_clear cX8_clear 1 none, Cond.methodLink RX8 3 objectInit, Cond.classLink RX8 21 RX6, Cond.instantiable RX6 2, Cond.classLink RX8 34 RX5, Cond.instantiable RX5 2, Cond.methodLink RX8 23 yX6_init, Cond.instanceMethod yX6_init, Cond.methodLink RX8 36 yX5_init, Cond.instanceMethod yX5_init, Cond.methodLink RX8 53 yX8_clear, Cond.instanceMethod yX8_clear, Cond.selects RX8 yX8_clear yX8_clear, Cond.code yX8_init cX8_init 2 none, Cond.code yX8_dropValues cX8_dropValues 10 none, Cond.methodLink RX8 141 yX5_dropAt, Cond.instanceMethod yX5_dropAt, Cond.selects RX5 yX5_dropAt yX5_dropAt, Cond.methodLink RX8 118 yX7_isSingle, Cond.methodLink RX8 97 yX8_dropValues, Cond.instanceMethod yX8_dropValues, Cond.selects RX8 yX8_dropValues yX8_dropValues, Cond.code yX8_takeValue cX8_takeValue 8 none]
def wsC_15 : List Cond := [Cond.fieldLink RX8 71 "MasterTree$Change" "entry" "I", Cond.fieldLink RX8 84 "MasterTree$Change" "first" "I", Cond.fieldLink RX8 87 "MasterTree$Change" "second" "I", Cond.fieldLink RX8 101 "MasterTree$Change" "third" "I", Cond.fieldLink RX8 115 "MasterTree$Change" "codes" "[I", Cond.methodLink RX8 111 yX0_rank, Cond.instanceMethod yX0_rank, Cond.selects RX0 yX0_rank yX0_rank, Cond.initialized RX0, Cond.methodLink RX8 90 yX8_takeValue, Cond.instanceMethod yX8_takeValue, Cond.selects RX8 yX8_takeValue yX8_takeValue, Cond.code yX8_takeAdd cX8_takeAdd 7 none, Cond.code yX8_takeRemoval cX8_takeRemoval 4 none, Cond.code yX8_comesTo cX8_comesTo 5 (some .boolean), Cond.fieldLink RX8 77 "MasterTree$Change" "kind" "I", Cond.methodLink RX8 80 yX8_takeAdd, Cond.instanceMethod yX8_takeAdd, Cond.selects RX8 yX8_takeAdd yX8_takeAdd, Cond.methodLink RX8 94 yX8_takeRemoval, Cond.instanceMethod yX8_takeRemoval, Cond.selects RX8 yX8_takeRemoval yX8_takeRemoval, Cond.methodLink RX8 104 yX6_say, Cond.instanceMethod yX6_say]
def wsC_16 : List Cond := [Cond.selects RX6 yX6_say yX6_say, Cond.methodLink RX8 107 yX8_comesTo, Cond.instanceMethod yX8_comesTo, Cond.selects RX8 yX8_comesTo yX8_comesTo, Cond.code yX8_take cX8_take 3 none, Cond.code yX8_isShown cX8_isShown 6 (some .boolean), Cond.code yX8_valuesOf cX8_valuesOf 3 (some .int), Cond.methodLink RX8 159 yX8_valuesBetween, Cond.code yX8_matching cX8_matching 6 (some .int), Cond.methodLink RX8 166 yX8_valuesOf, Cond.instanceMethod yX8_valuesOf, Cond.selects RX8 yX8_valuesOf yX8_valuesOf, Cond.code yX8_valueNumbered cX8_valueNumbered 5 (some .int), Cond.methodLink RX8 173 yX7_requiredBy, Cond.code yX8_isIncomplete cX8_isIncomplete 4 (some .boolean), Cond.methodLink RX9 3 objectInit, Cond.classLink RX9 9 RX7, Cond.instantiable RX7 7, Cond.fieldLink RX9 12 "MasterTree" "schema" "LMasterTree$Schema;", Cond.classLink RX9 16 RX1, Cond.instantiable RX1 3, Cond.fieldLink RX9 21 "MasterTree" "drafted" "LMasterTree$Drafted;", Cond.classLink RX9 25 RX2, Cond.instantiable RX2 7]
def wsC_17 : List Cond := [Cond.fieldLink RX9 28 "MasterTree" "filter" "LMasterTree$Filter;", Cond.classLink RX9 32 RX4, Cond.fieldLink RX9 34 "MasterTree" "masters" "[LMasterTree$Master;", Cond.classLink RX9 38 RX3, Cond.instantiable RX3 8, Cond.fieldLink RX9 43 "MasterTree" "finder" "LMasterTree$Finder;", Cond.classLink RX9 47 RJx4a65c, Cond.instantiable RJx4a65c 3, Cond.initialized RJx4a65c, Cond.fieldLink RX9 50 "MasterTree" "log" "Ljava/util/ArrayList;", Cond.classLink RX9 54 RX8, Cond.instantiable RX8 12, Cond.fieldLink RX9 57 "MasterTree" "anew" "LMasterTree$Tree;", Cond.fieldLink RX9 61 "MasterTree" "entries" "I", Cond.instantiable RX4 6, Cond.methodLink RX9 11 yX7_init, Cond.instanceMethod yX7_init, Cond.methodLink RX9 18 yX1_init, Cond.instanceMethod yX1_init, Cond.methodLink RX9 27 yX2_init, Cond.instanceMethod yX2_init, Cond.methodLink RX9 40 yX3_init, Cond.instanceMethod yX3_init, Cond.methodLink RX9 49 yJx4a65c_init_da8c8]
def wsC_18 : List Cond := [Cond.instanceMethod yJx4a65c_init_da8c8, Cond.code yJx4a65c_init_da8c8 cJx4a65c_init_da8c8 1 none, Cond.fieldLink RJx4a65c 39 "java/util/ArrayList" "DEFAULTCAPACITY_EMPTY_ELEMENTDATA" "[Ljava/lang/Object;", Cond.fieldLink RJx4a65c 9 "java/util/ArrayList" "elementData" "[Ljava/lang/Object;", Cond.methodLink RJx4a65c 1 yJxc12de_init_da8c8, Cond.instanceMethod yJxc12de_init_da8c8, Cond.initialized RJxc12de, Cond.code yJxc12de_init_da8c8 cJxc12de_init_da8c8 1 none, Cond.fieldLink RJxc12de 7 "java/util/AbstractList" "modCount" "I", Cond.methodLink RJxc12de 1 yJxa1e45_init_da8c8, Cond.instanceMethod yJxa1e45_init_da8c8, Cond.initialized RJxa1e45, Cond.code yJxa1e45_init_da8c8 cJxa1e45_init_da8c8 1 none, Cond.methodLink RJxa1e45 1 objectInit, Cond.methodLink RX9 56 yX8_init, Cond.instanceMethod yX8_init, Cond.methodLink RX9 65 yX4_init, Cond.instanceMethod yX4_init, Cond.code yX9_init cX9_init 2 none, Cond.code yX9_attribute cX9_attribute 3 (some .int), Cond.classLink RX9 71 "java/lang/IllegalStateException", Cond.initialized "java/lang/IllegalStateException", Cond.fieldLink RX9 68 "MasterTree$Schema" "attributes" "I", Cond.methodLink RX9 78 yX7_newAttribute]
def wsC_19 : List Cond := [Cond.instanceMethod yX7_newAttribute, Cond.selects RX7 yX7_newAttribute yX7_newAttribute, Cond.code yX9_needClass cX9_needClass 2 none, Cond.classLink RX9 90 "java/lang/IndexOutOfBoundsException", Cond.initialized "java/lang/IndexOutOfBoundsException", Cond.methodLink RX9 389 yX7_isClass, Cond.fieldLink RX9 95 "MasterTree$Schema" "classes" "I", Cond.methodLink RX9 82 yX9_needClass, Cond.instanceMethod yX9_needClass, Cond.selects RX9 yX9_needClass yX9_needClass, Cond.initialized RX9, Cond.methodLink RX9 86 yX7_isSetOfAttributes, Cond.instanceMethod yX7_isSetOfAttributes, Cond.selects RX7 yX7_isSetOfAttributes yX7_isSetOfAttributes, Cond.methodLink RX9 100 yX7_newClass, Cond.instanceMethod yX7_newClass, Cond.selects RX7 yX7_newClass yX7_newClass, Cond.code yX9_objectClass cX9_objectClass 4 (some .int), Cond.code yX9_masterAt cX9_masterAt 2 (some (.object "MasterTree$Master")), Cond.code yX9_needUser cX9_needUser 1 none, Cond.code yX9_serve cX9_serve 5 (some .int), Cond.fieldLink RX9 111 "MasterTree$Master" "user" "I", Cond.methodLink RX9 104 yX9_masterAt, Cond.instanceMethod yX9_masterAt]
def wsC_20 : List Cond := [Cond.selects RX9 yX9_masterAt yX9_masterAt, Cond.methodLink RX9 108 yX9_needUser, Cond.static yX9_needUser, Cond.code yX9_needAttribute cX9_needAttribute 2 none, Cond.code yX9_needValue cX9_needValue 1 none, Cond.classLink RX9 233 "java/lang/IllegalArgumentException", Cond.initialized "java/lang/IllegalArgumentException", Cond.fieldLink RX9 120 "MasterTree$Drafted" "count" "I", Cond.methodLink RX9 114 yX9_needAttribute, Cond.instanceMethod yX9_needAttribute, Cond.selects RX9 yX9_needAttribute yX9_needAttribute, Cond.methodLink RX9 117 yX9_needValue, Cond.static yX9_needValue, Cond.methodLink RX9 125 yX1_put, Cond.instanceMethod yX1_put, Cond.selects RX1 yX1_put yX1_put, Cond.code yX9_draft cX9_draft 3 (some .int), Cond.code yX9_undraft cX9_undraft 2 (some .int), Cond.code yX9_needEntry cX9_needEntry 2 none, Cond.fieldLink RX9 176 "MasterTree$Master" "tree" "LMasterTree$Tree;", Cond.methodLink RX9 364 yX8_isLive, Cond.code yX9_needName cX9_needName 1 none, Cond.code yX9_needRoom cX9_needRoom 1 none, Cond.methodLink RX9 252 yJx4a65c_size_8abf5]
def wsC_21 : List Cond := [Cond.instanceMethod yJx4a65c_size_8abf5, Cond.selects RJx4a65c yJx4a65c_size_8abf5 yJx4a65c_size_8abf5, Cond.code yJx4a65c_size_8abf5 cJx4a65c_size_8abf5 1 (some .int), Cond.fieldLink RJx4a65c 48 "java/util/ArrayList" "size" "I", Cond.methodLink RX9 347 yX8_grants, Cond.code yX9_needWrite cX9_needWrite 2 none, Cond.methodLink RX9 410 yX8_isShown, Cond.instanceMethod yX8_isShown, Cond.selects RX8 yX8_isShown yX8_isShown, Cond.code yX9_needFreeName cX9_needFreeName 4 none, Cond.code yX9_need cX9_need 1 none, Cond.classLink RX9 153 "MasterTree$Change", Cond.methodLink RX9 419 yX4_sign, Cond.instanceMethod yX4_sign, Cond.selects RX4 yX4_sign yX4_sign, Cond.methodLink RX9 256 yJx4a65c_get_915e3, Cond.instanceMethod yJx4a65c_get_915e3, Cond.selects RJx4a65c yJx4a65c_get_915e3 yJx4a65c_get_915e3, Cond.code yJx4a65c_get_915e3 cJx4a65c_get_915e3 2 (some (.object "java/lang/Object")), Cond.methodLink RJx4a65c 118 yJ15_checkIndex_7cf53, Cond.static yJ15_checkIndex_7cf53, Cond.initialized RJ15, Cond.code yJ15_checkIndex_7cf53 cJ15_checkIndex_7cf53 2 (some .int), Cond.methodLink RJ15 105 yJ3_checkIndex_8e157]
def wsC_22 : List Cond := [Cond.static yJ3_checkIndex_8e157, Cond.initialized RJ3, Cond.code yJ3_checkIndex_8e157 cJ3_checkIndex_8e157 3 (some .int), Cond.methodLink RJx4a65c 123 yJx4a65c_elementData_915e3, Cond.instanceMethod yJx4a65c_elementData_915e3, Cond.selects RJx4a65c yJx4a65c_elementData_915e3 yJx4a65c_elementData_915e3, Cond.code yJx4a65c_elementData_915e3 cJx4a65c_elementData_915e3 2 (some (.object "java/lang/Object")), Cond.methodLink RX9 422 yX0_rank, Cond.methodLink RX9 425 yJx4a65c_add_7a177, Cond.instanceMethod yJx4a65c_add_7a177, Cond.selects RJx4a65c yJx4a65c_add_7a177 yJx4a65c_add_7a177, Cond.code yJx4a65c_add_7a177 cJx4a65c_add_7a177 5 none, Cond.fieldLink RJx4a65c 63 "java/util/ArrayList" "modCount" "I", Cond.sameField "java/util/ArrayList" "java/util/AbstractList" "modCount" "I", Cond.methodLink RJx4a65c 112 arraycopyName, Cond.methodLink RJx4a65c 135 yJx4a65c_rangeCheckForAdd_d00df, Cond.instanceMethod yJx4a65c_rangeCheckForAdd_d00df, Cond.selects RJx4a65c yJx4a65c_rangeCheckForAdd_d00df yJx4a65c_rangeCheckForAdd_d00df, Cond.code yJx4a65c_rangeCheckForAdd_d00df cJx4a65c_rangeCheckForAdd_d00df 2 none, Cond.methodLink RJx4a65c 129 yJx4a65c_grow_d5877, Cond.instanceMethod yJx4a65c_grow_d5877, Cond.selects RJx4a65c yJx4a65c_grow_d5877 yJx4a65c_grow_d5877, Cond.code yJx4a65c_grow_d5877 cJx4a65c_grow_d5877 1 (some (.array (.object "java/lang/Object"))), Cond.methodLink RJx4a65c 69 yJx4a65c_grow_92f84]
def wsC_23 : List Cond := [Cond.instanceMethod yJx4a65c_grow_92f84, Cond.selects RJx4a65c yJx4a65c_grow_92f84 yJx4a65c_grow_92f84, Cond.code yJx4a65c_grow_92f84 cJx4a65c_grow_92f84 4 (some (.array (.object "java/lang/Object"))), Cond.methodLink RJx4a65c 79 Lib.Math.max.name, Cond.classLink RJx4a65c 7 "java/lang/Object", Cond.methodLink RJx4a65c 73 yJ8_newLength_cabcc, Cond.static yJ8_newLength_cabcc, Cond.initialized RJ8, Cond.code yJ8_newLength_cabcc cJ8_newLength_cabcc 4 (some .int), Cond.methodLink RJ8 194 Lib.Math.max.name, Cond.constant RJ8 200 (2147483639), Cond.methodLink RJ8 201 yJ8_hugeLength_7cf53, Cond.static yJ8_hugeLength_7cf53, Cond.code yJ8_hugeLength_7cf53 cJ8_hugeLength_7cf53 3 (some .int), Cond.methodLink RJx4a65c 66 yJ7_copyOf_1904c, Cond.static yJ7_copyOf_1904c, Cond.code yJ7_copyOf_1904c cJ7_copyOf_1904c 2 (some (.array (.object "java/lang/Object"))), Cond.methodLink RJ7 86 ⟨"java/lang/Object", "getClass", "()Ljava/lang/Class;"⟩, Cond.selects "[Ljava/lang/Object;" ⟨"java/lang/Object", "getClass", "()Ljava/lang/Class;"⟩ ⟨"java/lang/Object", "getClass", "()Ljava/lang/Class;"⟩, Cond.instanceMethod ⟨"java/lang/Object", "getClass", "()Ljava/lang/Class;"⟩, Cond.native ⟨"java/lang/Object", "getClass", "()Ljava/lang/Class;"⟩, Cond.methodLink RJ7 300 yJ7_copyOf_6403c, Cond.static yJ7_copyOf_6403c, Cond.code yJ7_copyOf_6403c cJ7_copyOf_6403c 4 (some (.array (.object "java/lang/Object")))]
def wsC_24 : List Cond := [Cond.classLink RJ7 110 "[Ljava/lang/Object;", Cond.classLink RJ7 2 "java/lang/Object", Cond.methodLink RX9 429 yX8_take, Cond.instanceMethod yX8_take, Cond.selects RX8 yX8_take yX8_take, Cond.code yX9_record cX9_record 4 none, Cond.classLink RX9 153 RX0, Cond.instantiable RX0 9, Cond.fieldLink RX9 162 "MasterTree$Change" "codes" "[I", Cond.fieldLink RX9 170 "MasterTree$Change" "entry" "I", Cond.methodLink RX9 129 yX9_needEntry, Cond.static yX9_needEntry, Cond.methodLink RX9 133 yX9_needName, Cond.static yX9_needName, Cond.methodLink RX9 136 yX9_needRoom, Cond.instanceMethod yX9_needRoom, Cond.selects RX9 yX9_needRoom yX9_needRoom, Cond.methodLink RX9 139 yX9_needWrite, Cond.static yX9_needWrite, Cond.methodLink RX9 142 yX9_needFreeName, Cond.static yX9_needFreeName, Cond.methodLink RX9 146 yX1_fits, Cond.instanceMethod yX1_fits, Cond.selects RX1 yX1_fits yX1_fits]
def wsC_25 : List Cond := [Cond.methodLink RX9 149 yX9_need, Cond.static yX9_need, Cond.methodLink RX9 155 yX0_init, Cond.instanceMethod yX0_init, Cond.methodLink RX9 158 yX1_take, Cond.instanceMethod yX1_take, Cond.selects RX1 yX1_take yX1_take, Cond.methodLink RX9 166 yX9_record, Cond.instanceMethod yX9_record, Cond.selects RX9 yX9_record yX9_record, Cond.code yX9_add cX9_add 7 (some .int), Cond.code yX9_needChangeable cX9_needChangeable 2 none, Cond.fieldLink RX9 179 "MasterTree$Tree" "classes" "[I", Cond.methodLink RX9 173 yX9_needChangeable, Cond.static yX9_needChangeable, Cond.methodLink RX9 181 yX7_isAllowed, Cond.methodLink RX9 185 yX8_matching, Cond.instanceMethod yX8_matching, Cond.selects RX8 yX8_matching yX8_matching, Cond.methodLink RX9 188 yX7_isSingle, Cond.methodLink RX9 191 yX8_valuesOf, Cond.code yX9_addValue cX9_addValue 7 (some .int), Cond.methodLink RX9 195 yX7_isRequired, Cond.instanceMethod yX7_isRequired]
def wsC_26 : List Cond := [Cond.selects RX7 yX7_isRequired yX7_isRequired, Cond.code yX9_removeValue cX9_removeValue 8 (some .int), Cond.code yX9_replace cX9_replace 7 (some .int), Cond.methodLink RX9 198 yX8_placeOf, Cond.methodLink RX9 201 yX8_shownName, Cond.code yX9_rename cX9_rename 6 (some .int), Cond.fieldLink RX9 207 "MasterTree$Tree" "names" "[I", Cond.methodLink RX9 204 yX8_comesTo, Cond.code yX9_move cX9_move 6 (some .int), Cond.methodLink RX9 210 yX8_childrenAt, Cond.methodLink RX9 214 yX4_marked, Cond.instanceMethod yX4_marked, Cond.selects RX4 yX4_marked yX4_marked, Cond.methodLink RX9 218 yJ13_bitCount_95d88, Cond.static yJ13_bitCount_95d88, Cond.code yJ13_bitCount_95d88 cJ13_bitCount_95d88 2 (some .int), Cond.constantLong RJ13 314 (6148914691236517205), Cond.constantLong RJ13 316 (3689348814741910323), Cond.constantLong RJ13 318 (1085102592571150095), Cond.code yX9_delete cX9_delete 4 (some .int), Cond.fieldLink RX9 224 "MasterTree$Tree" "links" "[I", Cond.code yX9_link cX9_link 6 (some .int), Cond.code yX9_needScope cX9_needScope 1 none, Cond.code yX9_needRight cX9_needRight 1 none]
def wsC_27 : List Cond := [Cond.fieldLink RX9 243 "MasterTree$Tree" "rules" "LMasterTree$Rules;", Cond.methodLink RX9 227 yX9_needScope, Cond.static yX9_needScope, Cond.methodLink RX9 230 yX9_needRight, Cond.static yX9_needRight, Cond.methodLink RX9 238 yX6_slot, Cond.methodLink RX9 247 yX6_saidOf, Cond.instanceMethod yX6_saidOf, Cond.selects RX6 yX6_saidOf yX6_saidOf, Cond.code yX9_rule cX9_rule 10 (some .int), Cond.methodLink RX9 431 yX8_clear, Cond.methodLink RX9 260 yX4_hasGot, Cond.instanceMethod yX4_hasGot, Cond.selects RX4 yX4_hasGot yX4_hasGot, Cond.code yX9_redo cX9_redo 5 none, Cond.methodLink RX9 264 yX4_learn, Cond.methodLink RX9 268 yX9_redo, Cond.instanceMethod yX9_redo, Cond.selects RX9 yX9_redo yX9_redo, Cond.methodLink RX9 272 yX4_talkTo, Cond.instanceMethod yX4_talkTo, Cond.selects RX4 yX4_talkTo yX4_talkTo, Cond.code yX9_exchange cX9_exchange 9 (some .int), Cond.fieldLink RX9 432 "MasterTree$Change" "kind" "I"]
def wsC_28 : List Cond := [Cond.methodLink RX9 435 yX4_isToldThatKnows, Cond.code yX9_deletionsKnownBy cX9_deletionsKnownBy 7 (some .long), Cond.fieldLink RX9 280 "MasterTree$Master" "dropped" "J", Cond.methodLink RX9 276 yX9_deletionsKnownBy, Cond.instanceMethod yX9_deletionsKnownBy, Cond.selects RX9 yX9_deletionsKnownBy yX9_deletionsKnownBy, Cond.code yX9_sweep cX9_sweep 6 (some .int), Cond.code yX9_needRoomForFilter cX9_needRoomForFilter 1 none, Cond.fieldLink RX9 299 "MasterTree$Filter" "filters" "I", Cond.fieldLink RX9 302 "MasterTree$Filter" "parts" "I", Cond.methodLink RX9 284 yX9_needRoomForFilter, Cond.instanceMethod yX9_needRoomForFilter, Cond.selects RX9 yX9_needRoomForFilter yX9_needRoomForFilter, Cond.methodLink RX9 287 yX7_lowest, Cond.methodLink RX9 290 yX7_highest, Cond.methodLink RX9 293 yX2_putRange, Cond.instanceMethod yX2_putRange, Cond.selects RX2 yX2_putRange yX2_putRange, Cond.code yX9_equal cX9_equal 3 (some .int), Cond.code yX9_atLeast cX9_atLeast 3 (some .int), Cond.code yX9_has cX9_has 2 (some .int), Cond.methodLink RX9 296 yX2_putClass, Cond.instanceMethod yX2_putClass, Cond.selects RX2 yX2_putClass yX2_putClass]
def wsC_29 : List Cond := [Cond.code yX9_ofClass cX9_ofClass 2 (some .int), Cond.code yX9_combine cX9_combine 2 (some .int), Cond.methodLink RX9 307 yX2_putCombined, Cond.instanceMethod yX2_putCombined, Cond.selects RX2 yX2_putCombined yX2_putCombined, Cond.code yX9_not cX9_not 1 (some .int), Cond.methodLink RX9 313 yX2_putNot, Cond.instanceMethod yX2_putNot, Cond.selects RX2 yX2_putNot yX2_putNot, Cond.code yX9_wipe cX9_wipe 2 (some .int), Cond.methodLink RX9 316 yX2_clear, Cond.instanceMethod yX2_clear, Cond.selects RX2 yX2_clear yX2_clear, Cond.code yX9_needSearch cX9_needSearch 4 none, Cond.methodLink RX9 319 yX9_needSearch, Cond.instanceMethod yX9_needSearch, Cond.selects RX9 yX9_needSearch yX9_needSearch, Cond.methodLink RX9 323 yX3_byIndex, Cond.instanceMethod yX3_byIndex, Cond.selects RX3 yX3_byIndex yX3_byIndex, Cond.code yX9_search cX9_search 4 (some .int), Cond.methodLink RX9 326 yX3_byWalk, Cond.instanceMethod yX3_byWalk, Cond.selects RX3 yX3_byWalk yX3_byWalk]
def wsC_30 : List Cond := [Cond.code yX9_searchByWalk cX9_searchByWalk 4 (some .int), Cond.methodLink RX9 329 yX3_byLinks, Cond.instanceMethod yX3_byLinks, Cond.selects RX3 yX3_byLinks yX3_byLinks, Cond.code yX9_follow cX9_follow 4 (some .int), Cond.code yX9_found cX9_found 2 (some .int), Cond.fieldLink RX9 332 "MasterTree$Finder" "count" "I", Cond.fieldLink RX9 335 "MasterTree$Finder" "spots" "[I", Cond.code yX9_live cX9_live 2 (some .int), Cond.methodLink RX9 338 yX8_living, Cond.code yX9_parentOf cX9_parentOf 4 (some .int), Cond.code yX9_parentAnew cX9_parentAnew 4 (some .int), Cond.code yX9_nameOf cX9_nameOf 4 (some .int), Cond.code yX9_needIndex cX9_needIndex 1 none, Cond.methodLink RX9 341 yX9_needIndex, Cond.static yX9_needIndex, Cond.methodLink RX9 344 yX8_valueNumbered, Cond.instanceMethod yX8_valueNumbered, Cond.selects RX8 yX8_valueNumbered yX8_valueNumbered, Cond.code yX9_valueAt cX9_valueAt 6 (some .int), Cond.code yX9_valuesAnew cX9_valuesAnew 5 (some .int), Cond.code yX9_linkOf cX9_linkOf 4 (some .int), Cond.code yX9_may cX9_may 6 (some .boolean), Cond.fieldLink RX9 355 "MasterTree$Numbers" "size" "I"]
def wsC_31 : List Cond := [Cond.methodLink RX9 351 yX8_rankedAt, Cond.methodLink RX9 359 yX5_at, Cond.code yX9_childAt cX9_childAt 6 (some .int), Cond.methodLink RX9 439 yX8_isIncomplete, Cond.instanceMethod yX8_isIncomplete, Cond.selects RX8 yX8_isIncomplete yX8_isIncomplete, Cond.code yX9_isInConflict cX9_isInConflict 3 (some .boolean), Cond.methodLink RX9 367 yX9_isInConflict, Cond.static yX9_isInConflict, Cond.code yX9_conflicts cX9_conflicts 6 (some .int), Cond.code yX9_knows cX9_knows 4 (some .int), Cond.fieldLink RX9 371 "MasterTree$Master" "number" "I", Cond.methodLink RX9 374 yX4_toldOf, Cond.code yX9_marks cX9_marks 2 (some .int)]
def wsCt_31 : List Cond := wsC_31
def wsCt_30 : List Cond := wsC_30 ++ wsCt_31
def wsCt_29 : List Cond := wsC_29 ++ wsCt_30
def wsCt_28 : List Cond := wsC_28 ++ wsCt_29
def wsCt_27 : List Cond := wsC_27 ++ wsCt_28
def wsCt_26 : List Cond := wsC_26 ++ wsCt_27
def wsCt_25 : List Cond := wsC_25 ++ wsCt_26
def wsCt_24 : List Cond := wsC_24 ++ wsCt_25
def wsCt_23 : List Cond := wsC_23 ++ wsCt_24
def wsCt_22 : List Cond := wsC_22 ++ wsCt_23
def wsCt_21 : List Cond := wsC_21 ++ wsCt_22
def wsCt_20 : List Cond := wsC_20 ++ wsCt_21
def wsCt_19 : List Cond := wsC_19 ++ wsCt_20
def wsCt_18 : List Cond := wsC_18 ++ wsCt_19
def wsCt_17 : List Cond := wsC_17 ++ wsCt_18
def wsCt_16 : List Cond := wsC_16 ++ wsCt_17
def wsCt_15 : List Cond := wsC_15 ++ wsCt_16
def wsCt_14 : List Cond := wsC_14 ++ wsCt_15
def wsCt_13 : List Cond := wsC_13 ++ wsCt_14
def wsCt_12 : List Cond := wsC_12 ++ wsCt_13
def wsCt_11 : List Cond := wsC_11 ++ wsCt_12
def wsCt_10 : List Cond := wsC_10 ++ wsCt_11
def wsCt_9 : List Cond := wsC_9 ++ wsCt_10
def wsCt_8 : List Cond := wsC_8 ++ wsCt_9
def wsCt_7 : List Cond := wsC_7 ++ wsCt_8
def wsCt_6 : List Cond := wsC_6 ++ wsCt_7
def wsCt_5 : List Cond := wsC_5 ++ wsCt_6
def wsCt_4 : List Cond := wsC_4 ++ wsCt_5
def wsCt_3 : List Cond := wsC_3 ++ wsCt_4
def wsCt_2 : List Cond := wsC_2 ++ wsCt_3
def wsCt_1 : List Cond := wsC_1 ++ wsCt_2
def wsCt_0 : List Cond := wsC_0 ++ wsCt_1
abbrev wsCa : List Cond := wsCt_0
def wsCl : List Cond := wsX00 ++ (wsX10 ++ (wsX20 ++ (wsX30 ++ (wsX40 ++ (wsX50 ++ (wsX60 ++ (wsX70 ++ (wsX80 ++ (wsX90 ++ wsJx4a65c0)))))))))
def wsCx : List Cond := (vx_atS RX9 94 "java/lang/IndexOutOfBoundsException" ["java/lang/RuntimeException", "java/lang/Exception"]).filter goodWord ++ (vx_atS RX9 75 "java/lang/IllegalStateException" ["java/lang/RuntimeException", "java/lang/Exception"]).filter goodWord ++ (vx_atS RX9 237 "java/lang/IllegalArgumentException" ["java/lang/RuntimeException", "java/lang/Exception"]).filter goodWord
def wsC : List Cond := wsCa ++ (wsCl ++ wsCx)
theorem wsC_good : wsC.all goodWord = true := by
  have h1 : wsCa.all goodWord = true := by decide +kernel
  have h2 : wsCl.all goodWord = true := by decide +kernel
  have h3 : wsCx.all goodWord = true := by simp [wsCx, List.all_append, List.all_filter]
  simp [wsC, List.all_append, h1, h2, h3]
theorem kCt_0 : ∀ w ∈ wsCt_0, w ∈ wsC := fun w h => List.mem_append_left _ h
theorem kCc_0 : ∀ w ∈ wsC_0, w ∈ wsC := fun w h => kCt_0 w (List.mem_append_left _ h)
theorem kCt_1 : ∀ w ∈ wsCt_1, w ∈ wsC := fun w h => kCt_0 w (List.mem_append_right _ h)
theorem kCc_1 : ∀ w ∈ wsC_1, w ∈ wsC := fun w h => kCt_1 w (List.mem_append_left _ h)
theorem kCt_2 : ∀ w ∈ wsCt_2, w ∈ wsC := fun w h => kCt_1 w (List.mem_append_right _ h)
theorem kCc_2 : ∀ w ∈ wsC_2, w ∈ wsC := fun w h => kCt_2 w (List.mem_append_left _ h)
theorem kCt_3 : ∀ w ∈ wsCt_3, w ∈ wsC := fun w h => kCt_2 w (List.mem_append_right _ h)
theorem kCc_3 : ∀ w ∈ wsC_3, w ∈ wsC := fun w h => kCt_3 w (List.mem_append_left _ h)
theorem kCt_4 : ∀ w ∈ wsCt_4, w ∈ wsC := fun w h => kCt_3 w (List.mem_append_right _ h)
theorem kCc_4 : ∀ w ∈ wsC_4, w ∈ wsC := fun w h => kCt_4 w (List.mem_append_left _ h)
theorem kCt_5 : ∀ w ∈ wsCt_5, w ∈ wsC := fun w h => kCt_4 w (List.mem_append_right _ h)
theorem kCc_5 : ∀ w ∈ wsC_5, w ∈ wsC := fun w h => kCt_5 w (List.mem_append_left _ h)
theorem kCt_6 : ∀ w ∈ wsCt_6, w ∈ wsC := fun w h => kCt_5 w (List.mem_append_right _ h)
theorem kCc_6 : ∀ w ∈ wsC_6, w ∈ wsC := fun w h => kCt_6 w (List.mem_append_left _ h)
theorem kCt_7 : ∀ w ∈ wsCt_7, w ∈ wsC := fun w h => kCt_6 w (List.mem_append_right _ h)
theorem kCc_7 : ∀ w ∈ wsC_7, w ∈ wsC := fun w h => kCt_7 w (List.mem_append_left _ h)
theorem kCt_8 : ∀ w ∈ wsCt_8, w ∈ wsC := fun w h => kCt_7 w (List.mem_append_right _ h)
theorem kCc_8 : ∀ w ∈ wsC_8, w ∈ wsC := fun w h => kCt_8 w (List.mem_append_left _ h)
theorem kCt_9 : ∀ w ∈ wsCt_9, w ∈ wsC := fun w h => kCt_8 w (List.mem_append_right _ h)
theorem kCc_9 : ∀ w ∈ wsC_9, w ∈ wsC := fun w h => kCt_9 w (List.mem_append_left _ h)
theorem kCt_10 : ∀ w ∈ wsCt_10, w ∈ wsC := fun w h => kCt_9 w (List.mem_append_right _ h)
theorem kCc_10 : ∀ w ∈ wsC_10, w ∈ wsC := fun w h => kCt_10 w (List.mem_append_left _ h)
theorem kCt_11 : ∀ w ∈ wsCt_11, w ∈ wsC := fun w h => kCt_10 w (List.mem_append_right _ h)
theorem kCc_11 : ∀ w ∈ wsC_11, w ∈ wsC := fun w h => kCt_11 w (List.mem_append_left _ h)
theorem kCt_12 : ∀ w ∈ wsCt_12, w ∈ wsC := fun w h => kCt_11 w (List.mem_append_right _ h)
theorem kCc_12 : ∀ w ∈ wsC_12, w ∈ wsC := fun w h => kCt_12 w (List.mem_append_left _ h)
theorem kCt_13 : ∀ w ∈ wsCt_13, w ∈ wsC := fun w h => kCt_12 w (List.mem_append_right _ h)
theorem kCc_13 : ∀ w ∈ wsC_13, w ∈ wsC := fun w h => kCt_13 w (List.mem_append_left _ h)
theorem kCt_14 : ∀ w ∈ wsCt_14, w ∈ wsC := fun w h => kCt_13 w (List.mem_append_right _ h)
theorem kCc_14 : ∀ w ∈ wsC_14, w ∈ wsC := fun w h => kCt_14 w (List.mem_append_left _ h)
theorem kCt_15 : ∀ w ∈ wsCt_15, w ∈ wsC := fun w h => kCt_14 w (List.mem_append_right _ h)
theorem kCc_15 : ∀ w ∈ wsC_15, w ∈ wsC := fun w h => kCt_15 w (List.mem_append_left _ h)
theorem kCt_16 : ∀ w ∈ wsCt_16, w ∈ wsC := fun w h => kCt_15 w (List.mem_append_right _ h)
theorem kCc_16 : ∀ w ∈ wsC_16, w ∈ wsC := fun w h => kCt_16 w (List.mem_append_left _ h)
theorem kCt_17 : ∀ w ∈ wsCt_17, w ∈ wsC := fun w h => kCt_16 w (List.mem_append_right _ h)
theorem kCc_17 : ∀ w ∈ wsC_17, w ∈ wsC := fun w h => kCt_17 w (List.mem_append_left _ h)
theorem kCt_18 : ∀ w ∈ wsCt_18, w ∈ wsC := fun w h => kCt_17 w (List.mem_append_right _ h)
theorem kCc_18 : ∀ w ∈ wsC_18, w ∈ wsC := fun w h => kCt_18 w (List.mem_append_left _ h)
theorem kCt_19 : ∀ w ∈ wsCt_19, w ∈ wsC := fun w h => kCt_18 w (List.mem_append_right _ h)
theorem kCc_19 : ∀ w ∈ wsC_19, w ∈ wsC := fun w h => kCt_19 w (List.mem_append_left _ h)
theorem kCt_20 : ∀ w ∈ wsCt_20, w ∈ wsC := fun w h => kCt_19 w (List.mem_append_right _ h)
theorem kCc_20 : ∀ w ∈ wsC_20, w ∈ wsC := fun w h => kCt_20 w (List.mem_append_left _ h)
theorem kCt_21 : ∀ w ∈ wsCt_21, w ∈ wsC := fun w h => kCt_20 w (List.mem_append_right _ h)
theorem kCc_21 : ∀ w ∈ wsC_21, w ∈ wsC := fun w h => kCt_21 w (List.mem_append_left _ h)
theorem kCt_22 : ∀ w ∈ wsCt_22, w ∈ wsC := fun w h => kCt_21 w (List.mem_append_right _ h)
theorem kCc_22 : ∀ w ∈ wsC_22, w ∈ wsC := fun w h => kCt_22 w (List.mem_append_left _ h)
theorem kCt_23 : ∀ w ∈ wsCt_23, w ∈ wsC := fun w h => kCt_22 w (List.mem_append_right _ h)
theorem kCc_23 : ∀ w ∈ wsC_23, w ∈ wsC := fun w h => kCt_23 w (List.mem_append_left _ h)
theorem kCt_24 : ∀ w ∈ wsCt_24, w ∈ wsC := fun w h => kCt_23 w (List.mem_append_right _ h)
theorem kCc_24 : ∀ w ∈ wsC_24, w ∈ wsC := fun w h => kCt_24 w (List.mem_append_left _ h)
theorem kCt_25 : ∀ w ∈ wsCt_25, w ∈ wsC := fun w h => kCt_24 w (List.mem_append_right _ h)
theorem kCc_25 : ∀ w ∈ wsC_25, w ∈ wsC := fun w h => kCt_25 w (List.mem_append_left _ h)
theorem kCt_26 : ∀ w ∈ wsCt_26, w ∈ wsC := fun w h => kCt_25 w (List.mem_append_right _ h)
theorem kCc_26 : ∀ w ∈ wsC_26, w ∈ wsC := fun w h => kCt_26 w (List.mem_append_left _ h)
theorem kCt_27 : ∀ w ∈ wsCt_27, w ∈ wsC := fun w h => kCt_26 w (List.mem_append_right _ h)
theorem kCc_27 : ∀ w ∈ wsC_27, w ∈ wsC := fun w h => kCt_27 w (List.mem_append_left _ h)
theorem kCt_28 : ∀ w ∈ wsCt_28, w ∈ wsC := fun w h => kCt_27 w (List.mem_append_right _ h)
theorem kCc_28 : ∀ w ∈ wsC_28, w ∈ wsC := fun w h => kCt_28 w (List.mem_append_left _ h)
theorem kCt_29 : ∀ w ∈ wsCt_29, w ∈ wsC := fun w h => kCt_28 w (List.mem_append_right _ h)
theorem kCc_29 : ∀ w ∈ wsC_29, w ∈ wsC := fun w h => kCt_29 w (List.mem_append_left _ h)
theorem kCt_30 : ∀ w ∈ wsCt_30, w ∈ wsC := fun w h => kCt_29 w (List.mem_append_right _ h)
theorem kCc_30 : ∀ w ∈ wsC_30, w ∈ wsC := fun w h => kCt_30 w (List.mem_append_left _ h)
theorem kCt_31 : ∀ w ∈ wsCt_31, w ∈ wsC := fun w h => kCt_30 w (List.mem_append_right _ h)
theorem kCc_31 : ∀ w ∈ wsC_31, w ∈ wsC := fun w h => kCt_31 w (h)
theorem kC_0 : (Cond.code yX0_init cX0_init 6 none) ∈ wsC := kCc_0 _ (List.mem_of_getElem? (i := 0) rfl)
theorem kC_1 : (Cond.methodLink RX0 3 objectInit) ∈ wsC := kCc_0 _ (List.mem_of_getElem? (i := 1) rfl)
theorem kC_2 : (Cond.instanceMethod objectInit) ∈ wsC := kCc_0 _ (List.mem_of_getElem? (i := 2) rfl)
theorem kC_3 : (Cond.code objectInit ⟨#[0xb1]⟩ 1 none) ∈ wsC := kCc_0 _ (List.mem_of_getElem? (i := 3) rfl)
theorem kC_4 : (Cond.fieldLink RX0 9 "MasterTree$Change" "kind" "I") ∈ wsC := kCc_0 _ (List.mem_of_getElem? (i := 4) rfl)
theorem kC_5 : (Cond.fieldLink RX0 15 "MasterTree$Change" "entry" "I") ∈ wsC := kCc_0 _ (List.mem_of_getElem? (i := 5) rfl)
theorem kC_6 : (Cond.fieldLink RX0 18 "MasterTree$Change" "first" "I") ∈ wsC := kCc_0 _ (List.mem_of_getElem? (i := 6) rfl)
theorem kC_7 : (Cond.fieldLink RX0 21 "MasterTree$Change" "second" "I") ∈ wsC := kCc_0 _ (List.mem_of_getElem? (i := 7) rfl)
theorem kC_8 : (Cond.fieldLink RX0 24 "MasterTree$Change" "third" "I") ∈ wsC := kCc_0 _ (List.mem_of_getElem? (i := 8) rfl)
theorem kC_9 : (Cond.code yX0_rank cX0_rank 1 (some .int)) ∈ wsC := kCc_0 _ (List.mem_of_getElem? (i := 9) rfl)
theorem kC_10 : (Cond.fieldLink RX0 27 "MasterTree$Change" "stamp" "I") ∈ wsC := kCc_0 _ (List.mem_of_getElem? (i := 10) rfl)
theorem kC_11 : (Cond.fieldLink RX0 30 "MasterTree$Change" "master" "I") ∈ wsC := kCc_0 _ (List.mem_of_getElem? (i := 11) rfl)
theorem kC_12 : (Cond.code yX1_init cX1_init 2 none) ∈ wsC := kCc_0 _ (List.mem_of_getElem? (i := 12) rfl)
theorem kC_13 : (Cond.methodLink RX1 3 objectInit) ∈ wsC := kCc_0 _ (List.mem_of_getElem? (i := 13) rfl)
theorem kC_14 : (Cond.arrayClass .int) ∈ wsC := kCc_0 _ (List.mem_of_getElem? (i := 14) rfl)
theorem kC_15 : (Cond.fieldLink RX1 9 "MasterTree$Drafted" "codes" "[I") ∈ wsC := kCc_0 _ (List.mem_of_getElem? (i := 15) rfl)
theorem kC_16 : (Cond.fieldLink RX1 15 "MasterTree$Drafted" "schema" "LMasterTree$Schema;") ∈ wsC := kCc_0 _ (List.mem_of_getElem? (i := 16) rfl)
theorem kC_17 : (Cond.code yX1_put cX1_put 2 (some .int)) ∈ wsC := kCc_0 _ (List.mem_of_getElem? (i := 17) rfl)
theorem kC_18 : (Cond.fieldLink RX1 19 "MasterTree$Drafted" "count" "I") ∈ wsC := kCc_0 _ (List.mem_of_getElem? (i := 18) rfl)
theorem kC_19 : (Cond.code yX1_take cX1_take 2 (some (.array .int))) ∈ wsC := kCc_0 _ (List.mem_of_getElem? (i := 19) rfl)
theorem kC_20 : (Cond.methodLink RX1 23 yJ7_copyOf_59c91) ∈ wsC := kCc_0 _ (List.mem_of_getElem? (i := 20) rfl)
theorem kC_21 : (Cond.static yJ7_copyOf_59c91) ∈ wsC := kCc_0 _ (List.mem_of_getElem? (i := 21) rfl)
theorem kC_22 : (Cond.initialized RJ7) ∈ wsC := kCc_0 _ (List.mem_of_getElem? (i := 22) rfl)
theorem kC_23 : (Cond.code yJ7_copyOf_59c91 cJ7_copyOf_59c91 3 (some (.array .int))) ∈ wsC := kCc_0 _ (List.mem_of_getElem? (i := 23) rfl)
theorem kC_24 : (Cond.methodLink RJ7 316 ⟨"[I", "clone", "()Ljava/lang/Object;"⟩) ∈ wsC := kCc_1 _ (List.mem_of_getElem? (i := 0) rfl)
theorem kC_25 : (Cond.sameMethod "[I" "java/lang/Object" "clone" "()Ljava/lang/Object;") ∈ wsC := kCc_1 _ (List.mem_of_getElem? (i := 1) rfl)
theorem kC_26 : (Cond.native ⟨"java/lang/Object", "clone", "()Ljava/lang/Object;"⟩) ∈ wsC := kCc_1 _ (List.mem_of_getElem? (i := 2) rfl)
theorem kC_27 : (Cond.instanceMethod ⟨"java/lang/Object", "clone", "()Ljava/lang/Object;"⟩) ∈ wsC := kCc_1 _ (List.mem_of_getElem? (i := 3) rfl)
theorem kC_28 : (Cond.selects "[I" ⟨"[I", "clone", "()Ljava/lang/Object;"⟩ ⟨"java/lang/Object", "clone", "()Ljava/lang/Object;"⟩) ∈ wsC := kCc_1 _ (List.mem_of_getElem? (i := 4) rfl)
theorem kC_29 : (Cond.classLink RJ7 317 "[I") ∈ wsC := kCc_1 _ (List.mem_of_getElem? (i := 5) rfl)
theorem kC_30 : (Cond.methodLink RJ7 304 Lib.Math.min.name) ∈ wsC := kCc_1 _ (List.mem_of_getElem? (i := 6) rfl)
theorem kC_31 : (Cond.static Lib.Math.min.name) ∈ wsC := kCc_1 _ (List.mem_of_getElem? (i := 7) rfl)
theorem kC_32 : (Cond.initialized "java/lang/Math") ∈ wsC := kCc_1 _ (List.mem_of_getElem? (i := 8) rfl)
theorem kC_33 : (Cond.code Lib.Math.min.name Lib.Math.min.code 2 (some .int)) ∈ wsC := kCc_1 _ (List.mem_of_getElem? (i := 9) rfl)
theorem kC_34 : (Cond.methodLink RJ7 150 arraycopyName) ∈ wsC := kCc_1 _ (List.mem_of_getElem? (i := 10) rfl)
theorem kC_35 : (Cond.native arraycopyName) ∈ wsC := kCc_1 _ (List.mem_of_getElem? (i := 11) rfl)
theorem kC_36 : (Cond.static arraycopyName) ∈ wsC := kCc_1 _ (List.mem_of_getElem? (i := 12) rfl)
theorem kC_37 : (Cond.initialized "java/lang/System") ∈ wsC := kCc_1 _ (List.mem_of_getElem? (i := 13) rfl)
theorem kC_38 : (Cond.code yX7_isClass cX7_isClass 2 (some .boolean)) ∈ wsC := kCc_1 _ (List.mem_of_getElem? (i := 14) rfl)
theorem kC_39 : (Cond.fieldLink RX7 31 "MasterTree$Schema" "classes" "I") ∈ wsC := kCc_1 _ (List.mem_of_getElem? (i := 15) rfl)
theorem kC_40 : (Cond.code yX7_allowedBy cX7_allowedBy 2 (some .int)) ∈ wsC := kCc_1 _ (List.mem_of_getElem? (i := 16) rfl)
theorem kC_41 : (Cond.fieldLink RX7 18 "MasterTree$Schema" "allowed" "[I") ∈ wsC := kCc_1 _ (List.mem_of_getElem? (i := 17) rfl)
theorem kC_42 : (Cond.methodLink RX7 41 yX7_isClass) ∈ wsC := kCc_1 _ (List.mem_of_getElem? (i := 18) rfl)
theorem kC_43 : (Cond.instanceMethod yX7_isClass) ∈ wsC := kCc_1 _ (List.mem_of_getElem? (i := 19) rfl)
theorem kC_44 : (Cond.selects RX7 yX7_isClass yX7_isClass) ∈ wsC := kCc_1 _ (List.mem_of_getElem? (i := 20) rfl)
theorem kC_45 : (Cond.initialized RX7) ∈ wsC := kCc_1 _ (List.mem_of_getElem? (i := 21) rfl)
theorem kC_46 : (Cond.code yX7_isAllowed cX7_isAllowed 3 (some .boolean)) ∈ wsC := kCc_1 _ (List.mem_of_getElem? (i := 22) rfl)
theorem kC_47 : (Cond.methodLink RX7 38 yX7_allowedBy) ∈ wsC := kCc_1 _ (List.mem_of_getElem? (i := 23) rfl)
theorem kC_48 : (Cond.instanceMethod yX7_allowedBy) ∈ wsC := kCc_2 _ (List.mem_of_getElem? (i := 0) rfl)
theorem kC_49 : (Cond.selects RX7 yX7_allowedBy yX7_allowedBy) ∈ wsC := kCc_2 _ (List.mem_of_getElem? (i := 1) rfl)
theorem kC_50 : (Cond.code yX7_isSingle cX7_isSingle 2 (some .boolean)) ∈ wsC := kCc_2 _ (List.mem_of_getElem? (i := 2) rfl)
theorem kC_51 : (Cond.fieldLink RX7 25 "MasterTree$Schema" "singles" "I") ∈ wsC := kCc_2 _ (List.mem_of_getElem? (i := 3) rfl)
theorem kC_52 : (Cond.code yX7_isByTens cX7_isByTens 2 (some .boolean)) ∈ wsC := kCc_2 _ (List.mem_of_getElem? (i := 4) rfl)
theorem kC_53 : (Cond.fieldLink RX7 28 "MasterTree$Schema" "byTens" "I") ∈ wsC := kCc_2 _ (List.mem_of_getElem? (i := 5) rfl)
theorem kC_54 : (Cond.code yX7_lowest cX7_lowest 3 (some .int)) ∈ wsC := kCc_2 _ (List.mem_of_getElem? (i := 6) rfl)
theorem kC_55 : (Cond.methodLink RX7 45 yX7_isByTens) ∈ wsC := kCc_2 _ (List.mem_of_getElem? (i := 7) rfl)
theorem kC_56 : (Cond.instanceMethod yX7_isByTens) ∈ wsC := kCc_2 _ (List.mem_of_getElem? (i := 8) rfl)
theorem kC_57 : (Cond.selects RX7 yX7_isByTens yX7_isByTens) ∈ wsC := kCc_2 _ (List.mem_of_getElem? (i := 9) rfl)
theorem kC_58 : (Cond.code yX7_highest cX7_highest 3 (some .int)) ∈ wsC := kCc_2 _ (List.mem_of_getElem? (i := 10) rfl)
theorem kC_59 : (Cond.code yX1_isMatchedBefore cX1_isMatchedBefore 6 (some .boolean)) ∈ wsC := kCc_2 _ (List.mem_of_getElem? (i := 11) rfl)
theorem kC_60 : (Cond.methodLink RX1 46 yX7_lowest) ∈ wsC := kCc_2 _ (List.mem_of_getElem? (i := 12) rfl)
theorem kC_61 : (Cond.instanceMethod yX7_lowest) ∈ wsC := kCc_2 _ (List.mem_of_getElem? (i := 13) rfl)
theorem kC_62 : (Cond.selects RX7 yX7_lowest yX7_lowest) ∈ wsC := kCc_2 _ (List.mem_of_getElem? (i := 14) rfl)
theorem kC_63 : (Cond.methodLink RX1 50 yX7_highest) ∈ wsC := kCc_2 _ (List.mem_of_getElem? (i := 15) rfl)
theorem kC_64 : (Cond.instanceMethod yX7_highest) ∈ wsC := kCc_2 _ (List.mem_of_getElem? (i := 16) rfl)
theorem kC_65 : (Cond.selects RX7 yX7_highest yX7_highest) ∈ wsC := kCc_2 _ (List.mem_of_getElem? (i := 17) rfl)
theorem kC_66 : (Cond.code yX7_requiredBy cX7_requiredBy 2 (some .int)) ∈ wsC := kCc_2 _ (List.mem_of_getElem? (i := 18) rfl)
theorem kC_67 : (Cond.fieldLink RX7 15 "MasterTree$Schema" "required" "[I") ∈ wsC := kCc_2 _ (List.mem_of_getElem? (i := 19) rfl)
theorem kC_68 : (Cond.methodLink RX1 29 yX7_isAllowed) ∈ wsC := kCc_2 _ (List.mem_of_getElem? (i := 20) rfl)
theorem kC_69 : (Cond.instanceMethod yX7_isAllowed) ∈ wsC := kCc_2 _ (List.mem_of_getElem? (i := 21) rfl)
theorem kC_70 : (Cond.selects RX7 yX7_isAllowed yX7_isAllowed) ∈ wsC := kCc_2 _ (List.mem_of_getElem? (i := 22) rfl)
theorem kC_71 : (Cond.methodLink RX1 35 yX7_isSingle) ∈ wsC := kCc_2 _ (List.mem_of_getElem? (i := 23) rfl)
theorem kC_72 : (Cond.instanceMethod yX7_isSingle) ∈ wsC := kCc_3 _ (List.mem_of_getElem? (i := 0) rfl)
theorem kC_73 : (Cond.selects RX7 yX7_isSingle yX7_isSingle) ∈ wsC := kCc_3 _ (List.mem_of_getElem? (i := 1) rfl)
theorem kC_74 : (Cond.methodLink RX1 39 yX1_isMatchedBefore) ∈ wsC := kCc_3 _ (List.mem_of_getElem? (i := 2) rfl)
theorem kC_75 : (Cond.instanceMethod yX1_isMatchedBefore) ∈ wsC := kCc_3 _ (List.mem_of_getElem? (i := 3) rfl)
theorem kC_76 : (Cond.selects RX1 yX1_isMatchedBefore yX1_isMatchedBefore) ∈ wsC := kCc_3 _ (List.mem_of_getElem? (i := 4) rfl)
theorem kC_77 : (Cond.initialized RX1) ∈ wsC := kCc_3 _ (List.mem_of_getElem? (i := 5) rfl)
theorem kC_78 : (Cond.methodLink RX1 42 yX7_requiredBy) ∈ wsC := kCc_3 _ (List.mem_of_getElem? (i := 6) rfl)
theorem kC_79 : (Cond.instanceMethod yX7_requiredBy) ∈ wsC := kCc_3 _ (List.mem_of_getElem? (i := 7) rfl)
theorem kC_80 : (Cond.selects RX7 yX7_requiredBy yX7_requiredBy) ∈ wsC := kCc_3 _ (List.mem_of_getElem? (i := 8) rfl)
theorem kC_81 : (Cond.code yX1_fits cX1_fits 6 (some .boolean)) ∈ wsC := kCc_3 _ (List.mem_of_getElem? (i := 9) rfl)
theorem kC_82 : (Cond.code yX2_init cX2_init 2 none) ∈ wsC := kCc_3 _ (List.mem_of_getElem? (i := 10) rfl)
theorem kC_83 : (Cond.methodLink RX2 3 objectInit) ∈ wsC := kCc_3 _ (List.mem_of_getElem? (i := 11) rfl)
theorem kC_84 : (Cond.fieldLink RX2 9 "MasterTree$Filter" "kinds" "[I") ∈ wsC := kCc_3 _ (List.mem_of_getElem? (i := 12) rfl)
theorem kC_85 : (Cond.fieldLink RX2 15 "MasterTree$Filter" "lows" "[I") ∈ wsC := kCc_3 _ (List.mem_of_getElem? (i := 13) rfl)
theorem kC_86 : (Cond.fieldLink RX2 18 "MasterTree$Filter" "highs" "[I") ∈ wsC := kCc_3 _ (List.mem_of_getElem? (i := 14) rfl)
theorem kC_87 : (Cond.arrayClass .long) ∈ wsC := kCc_3 _ (List.mem_of_getElem? (i := 15) rfl)
theorem kC_88 : (Cond.fieldLink RX2 21 "MasterTree$Filter" "sets" "[J") ∈ wsC := kCc_3 _ (List.mem_of_getElem? (i := 16) rfl)
theorem kC_89 : (Cond.fieldLink RX2 25 "MasterTree$Filter" "schema" "LMasterTree$Schema;") ∈ wsC := kCc_3 _ (List.mem_of_getElem? (i := 17) rfl)
theorem kC_90 : (Cond.code yX2_clear cX2_clear 1 none) ∈ wsC := kCc_3 _ (List.mem_of_getElem? (i := 18) rfl)
theorem kC_91 : (Cond.fieldLink RX2 29 "MasterTree$Filter" "parts" "I") ∈ wsC := kCc_3 _ (List.mem_of_getElem? (i := 19) rfl)
theorem kC_92 : (Cond.fieldLink RX2 33 "MasterTree$Filter" "filters" "I") ∈ wsC := kCc_3 _ (List.mem_of_getElem? (i := 20) rfl)
theorem kC_93 : (Cond.code yX2_put cX2_put 5 (some .int)) ∈ wsC := kCc_3 _ (List.mem_of_getElem? (i := 21) rfl)
theorem kC_94 : (Cond.code yX2_putRange cX2_putRange 4 (some .int)) ∈ wsC := kCc_3 _ (List.mem_of_getElem? (i := 22) rfl)
theorem kC_95 : (Cond.methodLink RX2 36 yX2_put) ∈ wsC := kCc_3 _ (List.mem_of_getElem? (i := 23) rfl)
theorem kC_96 : (Cond.instanceMethod yX2_put) ∈ wsC := kCc_4 _ (List.mem_of_getElem? (i := 0) rfl)
theorem kC_97 : (Cond.selects RX2 yX2_put yX2_put) ∈ wsC := kCc_4 _ (List.mem_of_getElem? (i := 1) rfl)
theorem kC_98 : (Cond.initialized RX2) ∈ wsC := kCc_4 _ (List.mem_of_getElem? (i := 2) rfl)
theorem kC_99 : (Cond.code yX2_putClass cX2_putClass 2 (some .int)) ∈ wsC := kCc_4 _ (List.mem_of_getElem? (i := 3) rfl)
theorem kC_100 : (Cond.code yX2_putCombined cX2_putCombined 2 (some .int)) ∈ wsC := kCc_4 _ (List.mem_of_getElem? (i := 4) rfl)
theorem kC_101 : (Cond.code yX2_putNot cX2_putNot 1 (some .int)) ∈ wsC := kCc_4 _ (List.mem_of_getElem? (i := 5) rfl)
theorem kC_102 : (Cond.code yX5_indexOf cX5_indexOf 4 (some .int)) ∈ wsC := kCc_4 _ (List.mem_of_getElem? (i := 6) rfl)
theorem kC_103 : (Cond.fieldLink RX5 21 "MasterTree$Numbers" "size" "I") ∈ wsC := kCc_4 _ (List.mem_of_getElem? (i := 7) rfl)
theorem kC_104 : (Cond.fieldLink RX5 15 "MasterTree$Numbers" "rows" "[I") ∈ wsC := kCc_4 _ (List.mem_of_getElem? (i := 8) rfl)
theorem kC_105 : (Cond.code yX5_countBetween cX5_countBetween 3 (some .int)) ∈ wsC := kCc_4 _ (List.mem_of_getElem? (i := 9) rfl)
theorem kC_106 : (Cond.methodLink RX5 25 yX5_indexOf) ∈ wsC := kCc_4 _ (List.mem_of_getElem? (i := 10) rfl)
theorem kC_107 : (Cond.instanceMethod yX5_indexOf) ∈ wsC := kCc_4 _ (List.mem_of_getElem? (i := 11) rfl)
theorem kC_108 : (Cond.selects RX5 yX5_indexOf yX5_indexOf) ∈ wsC := kCc_4 _ (List.mem_of_getElem? (i := 12) rfl)
theorem kC_109 : (Cond.initialized RX5) ∈ wsC := kCc_4 _ (List.mem_of_getElem? (i := 13) rfl)
theorem kC_110 : (Cond.code yX8_valuesBetween cX8_valuesBetween 4 (some .int)) ∈ wsC := kCc_4 _ (List.mem_of_getElem? (i := 14) rfl)
theorem kC_111 : (Cond.fieldLink RX8 39 "MasterTree$Tree" "codesByEntry" "LMasterTree$Numbers;") ∈ wsC := kCc_4 _ (List.mem_of_getElem? (i := 15) rfl)
theorem kC_112 : (Cond.methodLink RX8 163 yX5_countBetween) ∈ wsC := kCc_4 _ (List.mem_of_getElem? (i := 16) rfl)
theorem kC_113 : (Cond.instanceMethod yX5_countBetween) ∈ wsC := kCc_4 _ (List.mem_of_getElem? (i := 17) rfl)
theorem kC_114 : (Cond.selects RX5 yX5_countBetween yX5_countBetween) ∈ wsC := kCc_4 _ (List.mem_of_getElem? (i := 18) rfl)
theorem kC_115 : (Cond.code yX7_isOrBeneath cX7_isOrBeneath 5 (some .boolean)) ∈ wsC := kCc_4 _ (List.mem_of_getElem? (i := 19) rfl)
theorem kC_116 : (Cond.fieldLink RX7 9 "MasterTree$Schema" "parents" "[I") ∈ wsC := kCc_4 _ (List.mem_of_getElem? (i := 20) rfl)
theorem kC_117 : (Cond.fieldLink RX2 46 "MasterTree$Tree" "classes" "[I") ∈ wsC := kCc_4 _ (List.mem_of_getElem? (i := 21) rfl)
theorem kC_118 : (Cond.methodLink RX2 40 yX8_valuesBetween) ∈ wsC := kCc_4 _ (List.mem_of_getElem? (i := 22) rfl)
theorem kC_119 : (Cond.instanceMethod yX8_valuesBetween) ∈ wsC := kCc_4 _ (List.mem_of_getElem? (i := 23) rfl)
theorem kC_120 : (Cond.selects RX8 yX8_valuesBetween yX8_valuesBetween) ∈ wsC := kCc_5 _ (List.mem_of_getElem? (i := 0) rfl)
theorem kC_121 : (Cond.initialized RX8) ∈ wsC := kCc_5 _ (List.mem_of_getElem? (i := 1) rfl)
theorem kC_122 : (Cond.methodLink RX2 49 yX7_isOrBeneath) ∈ wsC := kCc_5 _ (List.mem_of_getElem? (i := 2) rfl)
theorem kC_123 : (Cond.instanceMethod yX7_isOrBeneath) ∈ wsC := kCc_5 _ (List.mem_of_getElem? (i := 3) rfl)
theorem kC_124 : (Cond.selects RX7 yX7_isOrBeneath yX7_isOrBeneath) ∈ wsC := kCc_5 _ (List.mem_of_getElem? (i := 4) rfl)
theorem kC_125 : (Cond.code yX2_applies cX2_applies 8 (some .boolean)) ∈ wsC := kCc_5 _ (List.mem_of_getElem? (i := 5) rfl)
theorem kC_126 : (Cond.code yX5_at cX5_at 2 (some .int)) ∈ wsC := kCc_5 _ (List.mem_of_getElem? (i := 6) rfl)
theorem kC_127 : (Cond.code yX8_living cX8_living 1 (some .long)) ∈ wsC := kCc_5 _ (List.mem_of_getElem? (i := 7) rfl)
theorem kC_128 : (Cond.fieldLink RX8 64 "MasterTree$Tree" "added" "J") ∈ wsC := kCc_5 _ (List.mem_of_getElem? (i := 8) rfl)
theorem kC_129 : (Cond.fieldLink RX8 68 "MasterTree$Tree" "deleted" "J") ∈ wsC := kCc_5 _ (List.mem_of_getElem? (i := 9) rfl)
theorem kC_130 : (Cond.constantLong RX8 144 (-1)) ∈ wsC := kCc_5 _ (List.mem_of_getElem? (i := 10) rfl)
theorem kC_131 : (Cond.code yX8_holdersBetween cX8_holdersBetween 7 (some .long)) ∈ wsC := kCc_5 _ (List.mem_of_getElem? (i := 11) rfl)
theorem kC_132 : (Cond.fieldLink RX8 43 "MasterTree$Tree" "entriesByCode" "LMasterTree$Numbers;") ∈ wsC := kCc_5 _ (List.mem_of_getElem? (i := 12) rfl)
theorem kC_133 : (Cond.methodLink RX8 134 yX5_indexOf) ∈ wsC := kCc_5 _ (List.mem_of_getElem? (i := 13) rfl)
theorem kC_134 : (Cond.methodLink RX8 138 yX5_at) ∈ wsC := kCc_5 _ (List.mem_of_getElem? (i := 14) rfl)
theorem kC_135 : (Cond.instanceMethod yX5_at) ∈ wsC := kCc_5 _ (List.mem_of_getElem? (i := 15) rfl)
theorem kC_136 : (Cond.selects RX5 yX5_at yX5_at) ∈ wsC := kCc_5 _ (List.mem_of_getElem? (i := 16) rfl)
theorem kC_137 : (Cond.methodLink RX8 169 yX8_living) ∈ wsC := kCc_5 _ (List.mem_of_getElem? (i := 17) rfl)
theorem kC_138 : (Cond.instanceMethod yX8_living) ∈ wsC := kCc_5 _ (List.mem_of_getElem? (i := 18) rfl)
theorem kC_139 : (Cond.selects RX8 yX8_living yX8_living) ∈ wsC := kCc_5 _ (List.mem_of_getElem? (i := 19) rfl)
theorem kC_140 : (Cond.code yX8_isLive cX8_isLive 2 (some .boolean)) ∈ wsC := kCc_5 _ (List.mem_of_getElem? (i := 20) rfl)
theorem kC_141 : (Cond.methodLink RX2 65 yX8_holdersBetween) ∈ wsC := kCc_5 _ (List.mem_of_getElem? (i := 21) rfl)
theorem kC_142 : (Cond.instanceMethod yX8_holdersBetween) ∈ wsC := kCc_5 _ (List.mem_of_getElem? (i := 22) rfl)
theorem kC_143 : (Cond.selects RX8 yX8_holdersBetween yX8_holdersBetween) ∈ wsC := kCc_5 _ (List.mem_of_getElem? (i := 23) rfl)
theorem kC_144 : (Cond.methodLink RX2 69 yX8_isLive) ∈ wsC := kCc_6 _ (List.mem_of_getElem? (i := 0) rfl)
theorem kC_145 : (Cond.instanceMethod yX8_isLive) ∈ wsC := kCc_6 _ (List.mem_of_getElem? (i := 1) rfl)
theorem kC_146 : (Cond.selects RX8 yX8_isLive yX8_isLive) ∈ wsC := kCc_6 _ (List.mem_of_getElem? (i := 2) rfl)
theorem kC_147 : (Cond.code yX2_setOf cX2_setOf 6 (some .long)) ∈ wsC := kCc_6 _ (List.mem_of_getElem? (i := 3) rfl)
theorem kC_148 : (Cond.constantLong RX2 63 (-1)) ∈ wsC := kCc_6 _ (List.mem_of_getElem? (i := 4) rfl)
theorem kC_149 : (Cond.methodLink RX2 55 yX2_setOf) ∈ wsC := kCc_6 _ (List.mem_of_getElem? (i := 5) rfl)
theorem kC_150 : (Cond.instanceMethod yX2_setOf) ∈ wsC := kCc_6 _ (List.mem_of_getElem? (i := 6) rfl)
theorem kC_151 : (Cond.selects RX2 yX2_setOf yX2_setOf) ∈ wsC := kCc_6 _ (List.mem_of_getElem? (i := 7) rfl)
theorem kC_152 : (Cond.methodLink RX2 59 yX8_living) ∈ wsC := kCc_6 _ (List.mem_of_getElem? (i := 8) rfl)
theorem kC_153 : (Cond.code yX2_appliesTo cX2_appliesTo 6 (some .long)) ∈ wsC := kCc_6 _ (List.mem_of_getElem? (i := 9) rfl)
theorem kC_154 : (Cond.code yX3_init cX3_init 3 none) ∈ wsC := kCc_6 _ (List.mem_of_getElem? (i := 10) rfl)
theorem kC_155 : (Cond.methodLink RX3 3 objectInit) ∈ wsC := kCc_6 _ (List.mem_of_getElem? (i := 11) rfl)
theorem kC_156 : (Cond.fieldLink RX3 9 "MasterTree$Finder" "spots" "[I") ∈ wsC := kCc_6 _ (List.mem_of_getElem? (i := 12) rfl)
theorem kC_157 : (Cond.fieldLink RX3 15 "MasterTree$Finder" "met" "[J") ∈ wsC := kCc_6 _ (List.mem_of_getElem? (i := 13) rfl)
theorem kC_158 : (Cond.fieldLink RX3 19 "MasterTree$Finder" "waiting" "[I") ∈ wsC := kCc_6 _ (List.mem_of_getElem? (i := 14) rfl)
theorem kC_159 : (Cond.fieldLink RX3 22 "MasterTree$Finder" "masters" "[LMasterTree$Master;") ∈ wsC := kCc_6 _ (List.mem_of_getElem? (i := 15) rfl)
theorem kC_160 : (Cond.fieldLink RX3 26 "MasterTree$Finder" "filter" "LMasterTree$Filter;") ∈ wsC := kCc_6 _ (List.mem_of_getElem? (i := 16) rfl)
theorem kC_161 : (Cond.code yX8_placeOf cX8_placeOf 2 (some .int)) ∈ wsC := kCc_6 _ (List.mem_of_getElem? (i := 17) rfl)
theorem kC_162 : (Cond.fieldLink RX8 28 "MasterTree$Tree" "parents" "[I") ∈ wsC := kCc_6 _ (List.mem_of_getElem? (i := 18) rfl)
theorem kC_163 : (Cond.methodLink RX8 146 yX8_isLive) ∈ wsC := kCc_6 _ (List.mem_of_getElem? (i := 19) rfl)
theorem kC_164 : (Cond.code yX8_isAtOrBeneath cX8_isAtOrBeneath 5 (some .boolean)) ∈ wsC := kCc_6 _ (List.mem_of_getElem? (i := 20) rfl)
theorem kC_165 : (Cond.methodLink RX8 149 yX8_placeOf) ∈ wsC := kCc_6 _ (List.mem_of_getElem? (i := 21) rfl)
theorem kC_166 : (Cond.instanceMethod yX8_placeOf) ∈ wsC := kCc_6 _ (List.mem_of_getElem? (i := 22) rfl)
theorem kC_167 : (Cond.selects RX8 yX8_placeOf yX8_placeOf) ∈ wsC := kCc_6 _ (List.mem_of_getElem? (i := 23) rfl)
theorem kC_168 : (Cond.code yX3_isInScope cX3_isInScope 4 (some .boolean)) ∈ wsC := kCc_7 _ (List.mem_of_getElem? (i := 0) rfl)
theorem kC_169 : (Cond.methodLink RX3 64 yX8_placeOf) ∈ wsC := kCc_7 _ (List.mem_of_getElem? (i := 1) rfl)
theorem kC_170 : (Cond.methodLink RX3 68 yX8_isAtOrBeneath) ∈ wsC := kCc_7 _ (List.mem_of_getElem? (i := 2) rfl)
theorem kC_171 : (Cond.instanceMethod yX8_isAtOrBeneath) ∈ wsC := kCc_7 _ (List.mem_of_getElem? (i := 3) rfl)
theorem kC_172 : (Cond.selects RX8 yX8_isAtOrBeneath yX8_isAtOrBeneath) ∈ wsC := kCc_7 _ (List.mem_of_getElem? (i := 4) rfl)
theorem kC_173 : (Cond.code yX6_slot cX6_slot 3 (some .int)) ∈ wsC := kCc_7 _ (List.mem_of_getElem? (i := 5) rfl)
theorem kC_174 : (Cond.code yX6_decideFor cX6_decideFor 6 (some .int)) ∈ wsC := kCc_7 _ (List.mem_of_getElem? (i := 6) rfl)
theorem kC_175 : (Cond.code yX6_decide cX6_decide 14 (some .int)) ∈ wsC := kCc_7 _ (List.mem_of_getElem? (i := 7) rfl)
theorem kC_176 : (Cond.fieldLink RX6 11 "MasterTree$Rules" "allows" "[J") ∈ wsC := kCc_7 _ (List.mem_of_getElem? (i := 8) rfl)
theorem kC_177 : (Cond.fieldLink RX6 15 "MasterTree$Rules" "denies" "[J") ∈ wsC := kCc_7 _ (List.mem_of_getElem? (i := 9) rfl)
theorem kC_178 : (Cond.constantLong RX6 38 (18014398509481984)) ∈ wsC := kCc_7 _ (List.mem_of_getElem? (i := 10) rfl)
theorem kC_179 : (Cond.methodLink RX6 30 yX6_slot) ∈ wsC := kCc_7 _ (List.mem_of_getElem? (i := 11) rfl)
theorem kC_180 : (Cond.static yX6_slot) ∈ wsC := kCc_7 _ (List.mem_of_getElem? (i := 12) rfl)
theorem kC_181 : (Cond.initialized RX6) ∈ wsC := kCc_7 _ (List.mem_of_getElem? (i := 13) rfl)
theorem kC_182 : (Cond.methodLink RX6 34 yX6_decideFor) ∈ wsC := kCc_7 _ (List.mem_of_getElem? (i := 14) rfl)
theorem kC_183 : (Cond.static yX6_decideFor) ∈ wsC := kCc_7 _ (List.mem_of_getElem? (i := 15) rfl)
theorem kC_184 : (Cond.fieldLink RX8 49 "MasterTree$Tree" "schema" "LMasterTree$Schema;") ∈ wsC := kCc_7 _ (List.mem_of_getElem? (i := 16) rfl)
theorem kC_185 : (Cond.fieldLink RX8 24 "MasterTree$Tree" "rules" "LMasterTree$Rules;") ∈ wsC := kCc_7 _ (List.mem_of_getElem? (i := 17) rfl)
theorem kC_186 : (Cond.methodLink RX8 180 Lib.Math.min.name) ∈ wsC := kCc_7 _ (List.mem_of_getElem? (i := 18) rfl)
theorem kC_187 : (Cond.methodLink RX8 124 yX7_lowest) ∈ wsC := kCc_7 _ (List.mem_of_getElem? (i := 19) rfl)
theorem kC_188 : (Cond.methodLink RX8 128 yX7_highest) ∈ wsC := kCc_7 _ (List.mem_of_getElem? (i := 20) rfl)
theorem kC_189 : (Cond.methodLink RX8 176 yX8_holdersBetween) ∈ wsC := kCc_7 _ (List.mem_of_getElem? (i := 21) rfl)
theorem kC_190 : (Cond.methodLink RX8 185 yX6_decide) ∈ wsC := kCc_7 _ (List.mem_of_getElem? (i := 22) rfl)
theorem kC_191 : (Cond.instanceMethod yX6_decide) ∈ wsC := kCc_7 _ (List.mem_of_getElem? (i := 23) rfl)
theorem kC_192 : (Cond.selects RX6 yX6_decide yX6_decide) ∈ wsC := kCc_8 _ (List.mem_of_getElem? (i := 0) rfl)
theorem kC_193 : (Cond.code yX8_grants cX8_grants 9 (some .boolean)) ∈ wsC := kCc_8 _ (List.mem_of_getElem? (i := 1) rfl)
theorem kC_194 : (Cond.code yX3_keep cX3_keep 2 none) ∈ wsC := kCc_8 _ (List.mem_of_getElem? (i := 2) rfl)
theorem kC_195 : (Cond.fieldLink RX3 41 "MasterTree$Finder" "count" "I") ∈ wsC := kCc_8 _ (List.mem_of_getElem? (i := 3) rfl)
theorem kC_196 : (Cond.fieldLink RX3 30 "MasterTree$Master" "tree" "LMasterTree$Tree;") ∈ wsC := kCc_8 _ (List.mem_of_getElem? (i := 4) rfl)
theorem kC_197 : (Cond.fieldLink RX3 36 "MasterTree$Master" "user" "I") ∈ wsC := kCc_8 _ (List.mem_of_getElem? (i := 5) rfl)
theorem kC_198 : (Cond.fieldLink RX3 40 "MasterTree$Finder" "user" "I") ∈ wsC := kCc_8 _ (List.mem_of_getElem? (i := 6) rfl)
theorem kC_199 : (Cond.methodLink RX3 44 yX2_appliesTo) ∈ wsC := kCc_8 _ (List.mem_of_getElem? (i := 7) rfl)
theorem kC_200 : (Cond.instanceMethod yX2_appliesTo) ∈ wsC := kCc_8 _ (List.mem_of_getElem? (i := 8) rfl)
theorem kC_201 : (Cond.selects RX2 yX2_appliesTo yX2_appliesTo) ∈ wsC := kCc_8 _ (List.mem_of_getElem? (i := 9) rfl)
theorem kC_202 : (Cond.methodLink RX3 50 yX3_isInScope) ∈ wsC := kCc_8 _ (List.mem_of_getElem? (i := 10) rfl)
theorem kC_203 : (Cond.static yX3_isInScope) ∈ wsC := kCc_8 _ (List.mem_of_getElem? (i := 11) rfl)
theorem kC_204 : (Cond.initialized RX3) ∈ wsC := kCc_8 _ (List.mem_of_getElem? (i := 12) rfl)
theorem kC_205 : (Cond.methodLink RX3 54 yX8_grants) ∈ wsC := kCc_8 _ (List.mem_of_getElem? (i := 13) rfl)
theorem kC_206 : (Cond.instanceMethod yX8_grants) ∈ wsC := kCc_8 _ (List.mem_of_getElem? (i := 14) rfl)
theorem kC_207 : (Cond.selects RX8 yX8_grants yX8_grants) ∈ wsC := kCc_8 _ (List.mem_of_getElem? (i := 15) rfl)
theorem kC_208 : (Cond.methodLink RX3 60 yX3_keep) ∈ wsC := kCc_8 _ (List.mem_of_getElem? (i := 16) rfl)
theorem kC_209 : (Cond.instanceMethod yX3_keep) ∈ wsC := kCc_8 _ (List.mem_of_getElem? (i := 17) rfl)
theorem kC_210 : (Cond.selects RX3 yX3_keep yX3_keep) ∈ wsC := kCc_8 _ (List.mem_of_getElem? (i := 18) rfl)
theorem kC_211 : (Cond.code yX3_byIndex cX3_byIndex 9 (some .int)) ∈ wsC := kCc_8 _ (List.mem_of_getElem? (i := 19) rfl)
theorem kC_212 : (Cond.code yX8_childrenAt cX8_childrenAt 5 (some .long)) ∈ wsC := kCc_8 _ (List.mem_of_getElem? (i := 20) rfl)
theorem kC_213 : (Cond.methodLink RX3 72 yX8_childrenAt) ∈ wsC := kCc_8 _ (List.mem_of_getElem? (i := 21) rfl)
theorem kC_214 : (Cond.instanceMethod yX8_childrenAt) ∈ wsC := kCc_8 _ (List.mem_of_getElem? (i := 22) rfl)
theorem kC_215 : (Cond.selects RX8 yX8_childrenAt yX8_childrenAt) ∈ wsC := kCc_8 _ (List.mem_of_getElem? (i := 23) rfl)
theorem kC_216 : (Cond.methodLink RX3 76 yJ13_numberOfTrailingZeros_95d88) ∈ wsC := kCc_9 _ (List.mem_of_getElem? (i := 0) rfl)
theorem kC_217 : (Cond.static yJ13_numberOfTrailingZeros_95d88) ∈ wsC := kCc_9 _ (List.mem_of_getElem? (i := 1) rfl)
theorem kC_218 : (Cond.initialized RJ13) ∈ wsC := kCc_9 _ (List.mem_of_getElem? (i := 2) rfl)
theorem kC_219 : (Cond.code yJ13_numberOfTrailingZeros_95d88 cJ13_numberOfTrailingZeros_95d88 3 (some .int)) ∈ wsC := kCc_9 _ (List.mem_of_getElem? (i := 3) rfl)
theorem kC_220 : (Cond.methodLink RJ13 311 yJ6_numberOfTrailingZeros_0f7a4) ∈ wsC := kCc_9 _ (List.mem_of_getElem? (i := 4) rfl)
theorem kC_221 : (Cond.static yJ6_numberOfTrailingZeros_0f7a4) ∈ wsC := kCc_9 _ (List.mem_of_getElem? (i := 5) rfl)
theorem kC_222 : (Cond.initialized RJ6) ∈ wsC := kCc_9 _ (List.mem_of_getElem? (i := 6) rfl)
theorem kC_223 : (Cond.code yJ6_numberOfTrailingZeros_0f7a4 cJ6_numberOfTrailingZeros_0f7a4 2 (some .int)) ∈ wsC := kCc_9 _ (List.mem_of_getElem? (i := 7) rfl)
theorem kC_224 : (Cond.constant RJ6 264 (65536)) ∈ wsC := kCc_9 _ (List.mem_of_getElem? (i := 8) rfl)
theorem kC_225 : (Cond.methodLink RX3 82 yX2_applies) ∈ wsC := kCc_9 _ (List.mem_of_getElem? (i := 9) rfl)
theorem kC_226 : (Cond.instanceMethod yX2_applies) ∈ wsC := kCc_9 _ (List.mem_of_getElem? (i := 10) rfl)
theorem kC_227 : (Cond.selects RX2 yX2_applies yX2_applies) ∈ wsC := kCc_9 _ (List.mem_of_getElem? (i := 11) rfl)
theorem kC_228 : (Cond.code yX3_byWalk cX3_byWalk 10 (some .int)) ∈ wsC := kCc_9 _ (List.mem_of_getElem? (i := 12) rfl)
theorem kC_229 : (Cond.code yX3_arriveFrom cX3_arriveFrom 7 (some .int)) ∈ wsC := kCc_9 _ (List.mem_of_getElem? (i := 13) rfl)
theorem kC_230 : (Cond.fieldLink RX3 108 "MasterTree$Tree" "links" "[I") ∈ wsC := kCc_9 _ (List.mem_of_getElem? (i := 14) rfl)
theorem kC_231 : (Cond.methodLink RX3 104 yX8_isLive) ∈ wsC := kCc_9 _ (List.mem_of_getElem? (i := 15) rfl)
theorem kC_232 : (Cond.code yX3_lookAt cX3_lookAt 4 none) ∈ wsC := kCc_9 _ (List.mem_of_getElem? (i := 16) rfl)
theorem kC_233 : (Cond.code yX5_clear cX5_clear 1 none) ∈ wsC := kCc_9 _ (List.mem_of_getElem? (i := 17) rfl)
theorem kC_234 : (Cond.code yX8_shownName cX8_shownName 5 (some .int)) ∈ wsC := kCc_9 _ (List.mem_of_getElem? (i := 18) rfl)
theorem kC_235 : (Cond.fieldLink RX8 9 "MasterTree$Tree" "names" "[I") ∈ wsC := kCc_9 _ (List.mem_of_getElem? (i := 19) rfl)
theorem kC_236 : (Cond.fieldLink RX8 31 "MasterTree$Tree" "addRanks" "[I") ∈ wsC := kCc_9 _ (List.mem_of_getElem? (i := 20) rfl)
theorem kC_237 : (Cond.code yX5_put cX5_put 3 none) ∈ wsC := kCc_9 _ (List.mem_of_getElem? (i := 21) rfl)
theorem kC_238 : (Cond.methodLink RX5 32 arraycopyName) ∈ wsC := kCc_9 _ (List.mem_of_getElem? (i := 22) rfl)
theorem kC_239 : (Cond.methodLink RX5 29 yX5_at) ∈ wsC := kCc_9 _ (List.mem_of_getElem? (i := 23) rfl)
theorem kC_240 : (Cond.fieldLink RX8 46 "MasterTree$Tree" "ranked" "LMasterTree$Numbers;") ∈ wsC := kCc_10 _ (List.mem_of_getElem? (i := 0) rfl)
theorem kC_241 : (Cond.methodLink RX8 155 yX8_childrenAt) ∈ wsC := kCc_10 _ (List.mem_of_getElem? (i := 1) rfl)
theorem kC_242 : (Cond.methodLink RX8 63 yX5_clear) ∈ wsC := kCc_10 _ (List.mem_of_getElem? (i := 2) rfl)
theorem kC_243 : (Cond.instanceMethod yX5_clear) ∈ wsC := kCc_10 _ (List.mem_of_getElem? (i := 3) rfl)
theorem kC_244 : (Cond.selects RX5 yX5_clear yX5_clear) ∈ wsC := kCc_10 _ (List.mem_of_getElem? (i := 4) rfl)
theorem kC_245 : (Cond.methodLink RX8 152 yX8_shownName) ∈ wsC := kCc_10 _ (List.mem_of_getElem? (i := 5) rfl)
theorem kC_246 : (Cond.instanceMethod yX8_shownName) ∈ wsC := kCc_10 _ (List.mem_of_getElem? (i := 6) rfl)
theorem kC_247 : (Cond.selects RX8 yX8_shownName yX8_shownName) ∈ wsC := kCc_10 _ (List.mem_of_getElem? (i := 7) rfl)
theorem kC_248 : (Cond.methodLink RX8 131 yX5_put) ∈ wsC := kCc_10 _ (List.mem_of_getElem? (i := 8) rfl)
theorem kC_249 : (Cond.instanceMethod yX5_put) ∈ wsC := kCc_10 _ (List.mem_of_getElem? (i := 9) rfl)
theorem kC_250 : (Cond.selects RX5 yX5_put yX5_put) ∈ wsC := kCc_10 _ (List.mem_of_getElem? (i := 10) rfl)
theorem kC_251 : (Cond.code yX8_rankedAt cX8_rankedAt 5 (some (.object "MasterTree$Numbers"))) ∈ wsC := kCc_10 _ (List.mem_of_getElem? (i := 11) rfl)
theorem kC_252 : (Cond.fieldLink RX3 115 "MasterTree$Numbers" "size" "I") ∈ wsC := kCc_10 _ (List.mem_of_getElem? (i := 12) rfl)
theorem kC_253 : (Cond.fieldLink RX3 86 "MasterTree$Finder" "waitingCount" "I") ∈ wsC := kCc_10 _ (List.mem_of_getElem? (i := 13) rfl)
theorem kC_254 : (Cond.methodLink RX3 111 yX8_rankedAt) ∈ wsC := kCc_10 _ (List.mem_of_getElem? (i := 14) rfl)
theorem kC_255 : (Cond.instanceMethod yX8_rankedAt) ∈ wsC := kCc_10 _ (List.mem_of_getElem? (i := 15) rfl)
theorem kC_256 : (Cond.selects RX8 yX8_rankedAt yX8_rankedAt) ∈ wsC := kCc_10 _ (List.mem_of_getElem? (i := 16) rfl)
theorem kC_257 : (Cond.methodLink RX3 120 yX5_at) ∈ wsC := kCc_10 _ (List.mem_of_getElem? (i := 17) rfl)
theorem kC_258 : (Cond.code yX3_awaitChildrenOf cX3_awaitChildrenOf 4 none) ∈ wsC := kCc_10 _ (List.mem_of_getElem? (i := 18) rfl)
theorem kC_259 : (Cond.methodLink RX3 89 yJ7_fill_d0a16) ∈ wsC := kCc_10 _ (List.mem_of_getElem? (i := 19) rfl)
theorem kC_260 : (Cond.static yJ7_fill_d0a16) ∈ wsC := kCc_10 _ (List.mem_of_getElem? (i := 20) rfl)
theorem kC_261 : (Cond.code yJ7_fill_d0a16 cJ7_fill_d0a16 5 none) ∈ wsC := kCc_10 _ (List.mem_of_getElem? (i := 21) rfl)
theorem kC_262 : (Cond.methodLink RX3 95 yX3_arriveFrom) ∈ wsC := kCc_10 _ (List.mem_of_getElem? (i := 22) rfl)
theorem kC_263 : (Cond.instanceMethod yX3_arriveFrom) ∈ wsC := kCc_10 _ (List.mem_of_getElem? (i := 23) rfl)
theorem kC_264 : (Cond.selects RX3 yX3_arriveFrom yX3_arriveFrom) ∈ wsC := kCc_11 _ (List.mem_of_getElem? (i := 0) rfl)
theorem kC_265 : (Cond.methodLink RX3 98 yX3_lookAt) ∈ wsC := kCc_11 _ (List.mem_of_getElem? (i := 1) rfl)
theorem kC_266 : (Cond.instanceMethod yX3_lookAt) ∈ wsC := kCc_11 _ (List.mem_of_getElem? (i := 2) rfl)
theorem kC_267 : (Cond.selects RX3 yX3_lookAt yX3_lookAt) ∈ wsC := kCc_11 _ (List.mem_of_getElem? (i := 3) rfl)
theorem kC_268 : (Cond.methodLink RX3 101 yX3_awaitChildrenOf) ∈ wsC := kCc_11 _ (List.mem_of_getElem? (i := 4) rfl)
theorem kC_269 : (Cond.instanceMethod yX3_awaitChildrenOf) ∈ wsC := kCc_11 _ (List.mem_of_getElem? (i := 5) rfl)
theorem kC_270 : (Cond.selects RX3 yX3_awaitChildrenOf yX3_awaitChildrenOf) ∈ wsC := kCc_11 _ (List.mem_of_getElem? (i := 6) rfl)
theorem kC_271 : (Cond.code yX3_byLinks cX3_byLinks 6 (some .int)) ∈ wsC := kCc_11 _ (List.mem_of_getElem? (i := 7) rfl)
theorem kC_272 : (Cond.code yX4_init cX4_init 3 none) ∈ wsC := kCc_11 _ (List.mem_of_getElem? (i := 8) rfl)
theorem kC_273 : (Cond.methodLink RX4 3 objectInit) ∈ wsC := kCc_11 _ (List.mem_of_getElem? (i := 9) rfl)
theorem kC_274 : (Cond.fieldLink RX4 9 "MasterTree$Master" "told" "[I") ∈ wsC := kCc_11 _ (List.mem_of_getElem? (i := 10) rfl)
theorem kC_275 : (Cond.fieldLink RX4 15 "MasterTree$Master" "number" "I") ∈ wsC := kCc_11 _ (List.mem_of_getElem? (i := 11) rfl)
theorem kC_276 : (Cond.fieldLink RX4 19 "MasterTree$Master" "tree" "LMasterTree$Tree;") ∈ wsC := kCc_11 _ (List.mem_of_getElem? (i := 12) rfl)
theorem kC_277 : (Cond.code yX4_toldOf cX4_toldOf 3 (some .int)) ∈ wsC := kCc_11 _ (List.mem_of_getElem? (i := 13) rfl)
theorem kC_278 : (Cond.code yX4_isToldThatKnows cX4_isToldThatKnows 3 (some .boolean)) ∈ wsC := kCc_11 _ (List.mem_of_getElem? (i := 14) rfl)
theorem kC_279 : (Cond.fieldLink RX4 23 "MasterTree$Change" "master" "I") ∈ wsC := kCc_11 _ (List.mem_of_getElem? (i := 15) rfl)
theorem kC_280 : (Cond.fieldLink RX4 32 "MasterTree$Change" "number" "I") ∈ wsC := kCc_11 _ (List.mem_of_getElem? (i := 16) rfl)
theorem kC_281 : (Cond.methodLink RX4 28 yX4_toldOf) ∈ wsC := kCc_11 _ (List.mem_of_getElem? (i := 17) rfl)
theorem kC_282 : (Cond.instanceMethod yX4_toldOf) ∈ wsC := kCc_11 _ (List.mem_of_getElem? (i := 18) rfl)
theorem kC_283 : (Cond.selects RX4 yX4_toldOf yX4_toldOf) ∈ wsC := kCc_11 _ (List.mem_of_getElem? (i := 19) rfl)
theorem kC_284 : (Cond.initialized RX4) ∈ wsC := kCc_11 _ (List.mem_of_getElem? (i := 20) rfl)
theorem kC_285 : (Cond.code yX4_hasGot cX4_hasGot 2 (some .boolean)) ∈ wsC := kCc_11 _ (List.mem_of_getElem? (i := 21) rfl)
theorem kC_286 : (Cond.methodLink RX4 33 yX4_isToldThatKnows) ∈ wsC := kCc_11 _ (List.mem_of_getElem? (i := 22) rfl)
theorem kC_287 : (Cond.instanceMethod yX4_isToldThatKnows) ∈ wsC := kCc_11 _ (List.mem_of_getElem? (i := 23) rfl)
theorem kC_288 : (Cond.selects RX4 yX4_isToldThatKnows yX4_isToldThatKnows) ∈ wsC := kCc_12 _ (List.mem_of_getElem? (i := 0) rfl)
theorem kC_289 : (Cond.code yX4_learn cX4_learn 2 none) ∈ wsC := kCc_12 _ (List.mem_of_getElem? (i := 1) rfl)
theorem kC_290 : (Cond.fieldLink RX4 37 "MasterTree$Master" "greatestStamp" "I") ∈ wsC := kCc_12 _ (List.mem_of_getElem? (i := 2) rfl)
theorem kC_291 : (Cond.fieldLink RX4 40 "MasterTree$Change" "stamp" "I") ∈ wsC := kCc_12 _ (List.mem_of_getElem? (i := 3) rfl)
theorem kC_292 : (Cond.methodLink RX4 47 Lib.Math.max.name) ∈ wsC := kCc_12 _ (List.mem_of_getElem? (i := 4) rfl)
theorem kC_293 : (Cond.static Lib.Math.max.name) ∈ wsC := kCc_12 _ (List.mem_of_getElem? (i := 5) rfl)
theorem kC_294 : (Cond.code Lib.Math.max.name Lib.Math.max.code 2 (some .int)) ∈ wsC := kCc_12 _ (List.mem_of_getElem? (i := 6) rfl)
theorem kC_295 : (Cond.code yX4_sign cX4_sign 2 none) ∈ wsC := kCc_12 _ (List.mem_of_getElem? (i := 7) rfl)
theorem kC_296 : (Cond.methodLink RX4 43 yX4_learn) ∈ wsC := kCc_12 _ (List.mem_of_getElem? (i := 8) rfl)
theorem kC_297 : (Cond.instanceMethod yX4_learn) ∈ wsC := kCc_12 _ (List.mem_of_getElem? (i := 9) rfl)
theorem kC_298 : (Cond.selects RX4 yX4_learn yX4_learn) ∈ wsC := kCc_12 _ (List.mem_of_getElem? (i := 10) rfl)
theorem kC_299 : (Cond.code yX4_talkTo cX4_talkTo 4 none) ∈ wsC := kCc_12 _ (List.mem_of_getElem? (i := 11) rfl)
theorem kC_300 : (Cond.code yX8_deletedOnes cX8_deletedOnes 1 (some .long)) ∈ wsC := kCc_12 _ (List.mem_of_getElem? (i := 12) rfl)
theorem kC_301 : (Cond.code yX4_marked cX4_marked 1 (some .long)) ∈ wsC := kCc_12 _ (List.mem_of_getElem? (i := 13) rfl)
theorem kC_302 : (Cond.fieldLink RX4 58 "MasterTree$Master" "dropped" "J") ∈ wsC := kCc_12 _ (List.mem_of_getElem? (i := 14) rfl)
theorem kC_303 : (Cond.constantLong RX4 62 (-1)) ∈ wsC := kCc_12 _ (List.mem_of_getElem? (i := 15) rfl)
theorem kC_304 : (Cond.methodLink RX4 52 yX8_deletedOnes) ∈ wsC := kCc_12 _ (List.mem_of_getElem? (i := 16) rfl)
theorem kC_305 : (Cond.instanceMethod yX8_deletedOnes) ∈ wsC := kCc_12 _ (List.mem_of_getElem? (i := 17) rfl)
theorem kC_306 : (Cond.selects RX8 yX8_deletedOnes yX8_deletedOnes) ∈ wsC := kCc_12 _ (List.mem_of_getElem? (i := 18) rfl)
theorem kC_307 : (Cond.code yX5_init cX5_init 2 none) ∈ wsC := kCc_12 _ (List.mem_of_getElem? (i := 19) rfl)
theorem kC_308 : (Cond.methodLink RX5 3 objectInit) ∈ wsC := kCc_12 _ (List.mem_of_getElem? (i := 20) rfl)
theorem kC_309 : (Cond.methodLink RX5 9 Lib.Math.max.name) ∈ wsC := kCc_12 _ (List.mem_of_getElem? (i := 21) rfl)
theorem kC_310 : (Cond.code yX5_dropAt cX5_dropAt 2 none) ∈ wsC := kCc_12 _ (List.mem_of_getElem? (i := 22) rfl)
theorem kC_311 : (Cond.code yX6_init cX6_init 1 none) ∈ wsC := kCc_12 _ (List.mem_of_getElem? (i := 23) rfl)
theorem kC_312 : (Cond.methodLink RX6 5 objectInit) ∈ wsC := kCc_13 _ (List.mem_of_getElem? (i := 0) rfl)
theorem kC_313 : (Cond.code yX6_clear cX6_clear 1 none) ∈ wsC := kCc_13 _ (List.mem_of_getElem? (i := 1) rfl)
theorem kC_314 : (Cond.methodLink RX6 18 yJ7_fill_d0a16) ∈ wsC := kCc_13 _ (List.mem_of_getElem? (i := 2) rfl)
theorem kC_315 : (Cond.code yX6_bitOf cX6_bitOf 1 (some .long)) ∈ wsC := kCc_13 _ (List.mem_of_getElem? (i := 3) rfl)
theorem kC_316 : (Cond.code yX6_saidOf cX6_saidOf 5 (some .int)) ∈ wsC := kCc_13 _ (List.mem_of_getElem? (i := 4) rfl)
theorem kC_317 : (Cond.methodLink RX6 24 yX6_bitOf) ∈ wsC := kCc_13 _ (List.mem_of_getElem? (i := 5) rfl)
theorem kC_318 : (Cond.static yX6_bitOf) ∈ wsC := kCc_13 _ (List.mem_of_getElem? (i := 6) rfl)
theorem kC_319 : (Cond.code yX6_say cX6_say 6 none) ∈ wsC := kCc_13 _ (List.mem_of_getElem? (i := 7) rfl)
theorem kC_320 : (Cond.constantLong RX6 28 (-1)) ∈ wsC := kCc_13 _ (List.mem_of_getElem? (i := 8) rfl)
theorem kC_321 : (Cond.code yX7_init cX7_init 1 none) ∈ wsC := kCc_13 _ (List.mem_of_getElem? (i := 9) rfl)
theorem kC_322 : (Cond.methodLink RX7 3 objectInit) ∈ wsC := kCc_13 _ (List.mem_of_getElem? (i := 10) rfl)
theorem kC_323 : (Cond.code yX7_newAttribute cX7_newAttribute 4 (some .int)) ∈ wsC := kCc_13 _ (List.mem_of_getElem? (i := 11) rfl)
theorem kC_324 : (Cond.fieldLink RX7 21 "MasterTree$Schema" "attributes" "I") ∈ wsC := kCc_13 _ (List.mem_of_getElem? (i := 12) rfl)
theorem kC_325 : (Cond.code yX7_newClass cX7_newClass 4 (some .int)) ∈ wsC := kCc_13 _ (List.mem_of_getElem? (i := 13) rfl)
theorem kC_326 : (Cond.methodLink RX7 34 yX7_requiredBy) ∈ wsC := kCc_13 _ (List.mem_of_getElem? (i := 14) rfl)
theorem kC_327 : (Cond.code yX7_isSetOfAttributes cX7_isSetOfAttributes 2 (some .boolean)) ∈ wsC := kCc_13 _ (List.mem_of_getElem? (i := 15) rfl)
theorem kC_328 : (Cond.code yX7_isRequired cX7_isRequired 3 (some .boolean)) ∈ wsC := kCc_13 _ (List.mem_of_getElem? (i := 16) rfl)
theorem kC_329 : (Cond.fieldLink RX8 15 "MasterTree$Tree" "classes" "[I") ∈ wsC := kCc_13 _ (List.mem_of_getElem? (i := 17) rfl)
theorem kC_330 : (Cond.fieldLink RX8 18 "MasterTree$Tree" "links" "[I") ∈ wsC := kCc_13 _ (List.mem_of_getElem? (i := 18) rfl)
theorem kC_331 : (Cond.methodLink RX8 56 yJ7_fill_53178) ∈ wsC := kCc_13 _ (List.mem_of_getElem? (i := 19) rfl)
theorem kC_332 : (Cond.static yJ7_fill_53178) ∈ wsC := kCc_13 _ (List.mem_of_getElem? (i := 20) rfl)
theorem kC_333 : (Cond.code yJ7_fill_53178 cJ7_fill_53178 4 none) ∈ wsC := kCc_13 _ (List.mem_of_getElem? (i := 21) rfl)
theorem kC_334 : (Cond.methodLink RX8 62 yX6_clear) ∈ wsC := kCc_13 _ (List.mem_of_getElem? (i := 22) rfl)
theorem kC_335 : (Cond.instanceMethod yX6_clear) ∈ wsC := kCc_13 _ (List.mem_of_getElem? (i := 23) rfl)
theorem kC_336 : (Cond.selects RX6 yX6_clear yX6_clear) ∈ wsC := kCc_14 _ (List.mem_of_getElem? (i := 0) rfl)
theorem kC_337 : (Cond.code yX8_clear cX8_clear 1 none) ∈ wsC := kCc_14 _ (List.mem_of_getElem? (i := 1) rfl)
theorem kC_338 : (Cond.methodLink RX8 3 objectInit) ∈ wsC := kCc_14 _ (List.mem_of_getElem? (i := 2) rfl)
theorem kC_339 : (Cond.classLink RX8 21 RX6) ∈ wsC := kCc_14 _ (List.mem_of_getElem? (i := 3) rfl)
theorem kC_340 : (Cond.instantiable RX6 2) ∈ wsC := kCc_14 _ (List.mem_of_getElem? (i := 4) rfl)
theorem kC_341 : (Cond.classLink RX8 34 RX5) ∈ wsC := kCc_14 _ (List.mem_of_getElem? (i := 5) rfl)
theorem kC_342 : (Cond.instantiable RX5 2) ∈ wsC := kCc_14 _ (List.mem_of_getElem? (i := 6) rfl)
theorem kC_343 : (Cond.methodLink RX8 23 yX6_init) ∈ wsC := kCc_14 _ (List.mem_of_getElem? (i := 7) rfl)
theorem kC_344 : (Cond.instanceMethod yX6_init) ∈ wsC := kCc_14 _ (List.mem_of_getElem? (i := 8) rfl)
theorem kC_345 : (Cond.methodLink RX8 36 yX5_init) ∈ wsC := kCc_14 _ (List.mem_of_getElem? (i := 9) rfl)
theorem kC_346 : (Cond.instanceMethod yX5_init) ∈ wsC := kCc_14 _ (List.mem_of_getElem? (i := 10) rfl)
theorem kC_347 : (Cond.methodLink RX8 53 yX8_clear) ∈ wsC := kCc_14 _ (List.mem_of_getElem? (i := 11) rfl)
theorem kC_348 : (Cond.instanceMethod yX8_clear) ∈ wsC := kCc_14 _ (List.mem_of_getElem? (i := 12) rfl)
theorem kC_349 : (Cond.selects RX8 yX8_clear yX8_clear) ∈ wsC := kCc_14 _ (List.mem_of_getElem? (i := 13) rfl)
theorem kC_350 : (Cond.code yX8_init cX8_init 2 none) ∈ wsC := kCc_14 _ (List.mem_of_getElem? (i := 14) rfl)
theorem kC_351 : (Cond.code yX8_dropValues cX8_dropValues 10 none) ∈ wsC := kCc_14 _ (List.mem_of_getElem? (i := 15) rfl)
theorem kC_352 : (Cond.methodLink RX8 141 yX5_dropAt) ∈ wsC := kCc_14 _ (List.mem_of_getElem? (i := 16) rfl)
theorem kC_353 : (Cond.instanceMethod yX5_dropAt) ∈ wsC := kCc_14 _ (List.mem_of_getElem? (i := 17) rfl)
theorem kC_354 : (Cond.selects RX5 yX5_dropAt yX5_dropAt) ∈ wsC := kCc_14 _ (List.mem_of_getElem? (i := 18) rfl)
theorem kC_355 : (Cond.methodLink RX8 118 yX7_isSingle) ∈ wsC := kCc_14 _ (List.mem_of_getElem? (i := 19) rfl)
theorem kC_356 : (Cond.methodLink RX8 97 yX8_dropValues) ∈ wsC := kCc_14 _ (List.mem_of_getElem? (i := 20) rfl)
theorem kC_357 : (Cond.instanceMethod yX8_dropValues) ∈ wsC := kCc_14 _ (List.mem_of_getElem? (i := 21) rfl)
theorem kC_358 : (Cond.selects RX8 yX8_dropValues yX8_dropValues) ∈ wsC := kCc_14 _ (List.mem_of_getElem? (i := 22) rfl)
theorem kC_359 : (Cond.code yX8_takeValue cX8_takeValue 8 none) ∈ wsC := kCc_14 _ (List.mem_of_getElem? (i := 23) rfl)
theorem kC_360 : (Cond.fieldLink RX8 71 "MasterTree$Change" "entry" "I") ∈ wsC := kCc_15 _ (List.mem_of_getElem? (i := 0) rfl)
theorem kC_361 : (Cond.fieldLink RX8 84 "MasterTree$Change" "first" "I") ∈ wsC := kCc_15 _ (List.mem_of_getElem? (i := 1) rfl)
theorem kC_362 : (Cond.fieldLink RX8 87 "MasterTree$Change" "second" "I") ∈ wsC := kCc_15 _ (List.mem_of_getElem? (i := 2) rfl)
theorem kC_363 : (Cond.fieldLink RX8 101 "MasterTree$Change" "third" "I") ∈ wsC := kCc_15 _ (List.mem_of_getElem? (i := 3) rfl)
theorem kC_364 : (Cond.fieldLink RX8 115 "MasterTree$Change" "codes" "[I") ∈ wsC := kCc_15 _ (List.mem_of_getElem? (i := 4) rfl)
theorem kC_365 : (Cond.methodLink RX8 111 yX0_rank) ∈ wsC := kCc_15 _ (List.mem_of_getElem? (i := 5) rfl)
theorem kC_366 : (Cond.instanceMethod yX0_rank) ∈ wsC := kCc_15 _ (List.mem_of_getElem? (i := 6) rfl)
theorem kC_367 : (Cond.selects RX0 yX0_rank yX0_rank) ∈ wsC := kCc_15 _ (List.mem_of_getElem? (i := 7) rfl)
theorem kC_368 : (Cond.initialized RX0) ∈ wsC := kCc_15 _ (List.mem_of_getElem? (i := 8) rfl)
theorem kC_369 : (Cond.methodLink RX8 90 yX8_takeValue) ∈ wsC := kCc_15 _ (List.mem_of_getElem? (i := 9) rfl)
theorem kC_370 : (Cond.instanceMethod yX8_takeValue) ∈ wsC := kCc_15 _ (List.mem_of_getElem? (i := 10) rfl)
theorem kC_371 : (Cond.selects RX8 yX8_takeValue yX8_takeValue) ∈ wsC := kCc_15 _ (List.mem_of_getElem? (i := 11) rfl)
theorem kC_372 : (Cond.code yX8_takeAdd cX8_takeAdd 7 none) ∈ wsC := kCc_15 _ (List.mem_of_getElem? (i := 12) rfl)
theorem kC_373 : (Cond.code yX8_takeRemoval cX8_takeRemoval 4 none) ∈ wsC := kCc_15 _ (List.mem_of_getElem? (i := 13) rfl)
theorem kC_374 : (Cond.code yX8_comesTo cX8_comesTo 5 (some .boolean)) ∈ wsC := kCc_15 _ (List.mem_of_getElem? (i := 14) rfl)
theorem kC_375 : (Cond.fieldLink RX8 77 "MasterTree$Change" "kind" "I") ∈ wsC := kCc_15 _ (List.mem_of_getElem? (i := 15) rfl)
theorem kC_376 : (Cond.methodLink RX8 80 yX8_takeAdd) ∈ wsC := kCc_15 _ (List.mem_of_getElem? (i := 16) rfl)
theorem kC_377 : (Cond.instanceMethod yX8_takeAdd) ∈ wsC := kCc_15 _ (List.mem_of_getElem? (i := 17) rfl)
theorem kC_378 : (Cond.selects RX8 yX8_takeAdd yX8_takeAdd) ∈ wsC := kCc_15 _ (List.mem_of_getElem? (i := 18) rfl)
theorem kC_379 : (Cond.methodLink RX8 94 yX8_takeRemoval) ∈ wsC := kCc_15 _ (List.mem_of_getElem? (i := 19) rfl)
theorem kC_380 : (Cond.instanceMethod yX8_takeRemoval) ∈ wsC := kCc_15 _ (List.mem_of_getElem? (i := 20) rfl)
theorem kC_381 : (Cond.selects RX8 yX8_takeRemoval yX8_takeRemoval) ∈ wsC := kCc_15 _ (List.mem_of_getElem? (i := 21) rfl)
theorem kC_382 : (Cond.methodLink RX8 104 yX6_say) ∈ wsC := kCc_15 _ (List.mem_of_getElem? (i := 22) rfl)
theorem kC_383 : (Cond.instanceMethod yX6_say) ∈ wsC := kCc_15 _ (List.mem_of_getElem? (i := 23) rfl)
theorem kC_384 : (Cond.selects RX6 yX6_say yX6_say) ∈ wsC := kCc_16 _ (List.mem_of_getElem? (i := 0) rfl)
theorem kC_385 : (Cond.methodLink RX8 107 yX8_comesTo) ∈ wsC := kCc_16 _ (List.mem_of_getElem? (i := 1) rfl)
theorem kC_386 : (Cond.instanceMethod yX8_comesTo) ∈ wsC := kCc_16 _ (List.mem_of_getElem? (i := 2) rfl)
theorem kC_387 : (Cond.selects RX8 yX8_comesTo yX8_comesTo) ∈ wsC := kCc_16 _ (List.mem_of_getElem? (i := 3) rfl)
theorem kC_388 : (Cond.code yX8_take cX8_take 3 none) ∈ wsC := kCc_16 _ (List.mem_of_getElem? (i := 4) rfl)
theorem kC_389 : (Cond.code yX8_isShown cX8_isShown 6 (some .boolean)) ∈ wsC := kCc_16 _ (List.mem_of_getElem? (i := 5) rfl)
theorem kC_390 : (Cond.code yX8_valuesOf cX8_valuesOf 3 (some .int)) ∈ wsC := kCc_16 _ (List.mem_of_getElem? (i := 6) rfl)
theorem kC_391 : (Cond.methodLink RX8 159 yX8_valuesBetween) ∈ wsC := kCc_16 _ (List.mem_of_getElem? (i := 7) rfl)
theorem kC_392 : (Cond.code yX8_matching cX8_matching 6 (some .int)) ∈ wsC := kCc_16 _ (List.mem_of_getElem? (i := 8) rfl)
theorem kC_393 : (Cond.methodLink RX8 166 yX8_valuesOf) ∈ wsC := kCc_16 _ (List.mem_of_getElem? (i := 9) rfl)
theorem kC_394 : (Cond.instanceMethod yX8_valuesOf) ∈ wsC := kCc_16 _ (List.mem_of_getElem? (i := 10) rfl)
theorem kC_395 : (Cond.selects RX8 yX8_valuesOf yX8_valuesOf) ∈ wsC := kCc_16 _ (List.mem_of_getElem? (i := 11) rfl)
theorem kC_396 : (Cond.code yX8_valueNumbered cX8_valueNumbered 5 (some .int)) ∈ wsC := kCc_16 _ (List.mem_of_getElem? (i := 12) rfl)
theorem kC_397 : (Cond.methodLink RX8 173 yX7_requiredBy) ∈ wsC := kCc_16 _ (List.mem_of_getElem? (i := 13) rfl)
theorem kC_398 : (Cond.code yX8_isIncomplete cX8_isIncomplete 4 (some .boolean)) ∈ wsC := kCc_16 _ (List.mem_of_getElem? (i := 14) rfl)
theorem kC_399 : (Cond.methodLink RX9 3 objectInit) ∈ wsC := kCc_16 _ (List.mem_of_getElem? (i := 15) rfl)
theorem kC_400 : (Cond.classLink RX9 9 RX7) ∈ wsC := kCc_16 _ (List.mem_of_getElem? (i := 16) rfl)
theorem kC_401 : (Cond.instantiable RX7 7) ∈ wsC := kCc_16 _ (List.mem_of_getElem? (i := 17) rfl)
theorem kC_402 : (Cond.fieldLink RX9 12 "MasterTree" "schema" "LMasterTree$Schema;") ∈ wsC := kCc_16 _ (List.mem_of_getElem? (i := 18) rfl)
theorem kC_403 : (Cond.classLink RX9 16 RX1) ∈ wsC := kCc_16 _ (List.mem_of_getElem? (i := 19) rfl)
theorem kC_404 : (Cond.instantiable RX1 3) ∈ wsC := kCc_16 _ (List.mem_of_getElem? (i := 20) rfl)
theorem kC_405 : (Cond.fieldLink RX9 21 "MasterTree" "drafted" "LMasterTree$Drafted;") ∈ wsC := kCc_16 _ (List.mem_of_getElem? (i := 21) rfl)
theorem kC_406 : (Cond.classLink RX9 25 RX2) ∈ wsC := kCc_16 _ (List.mem_of_getElem? (i := 22) rfl)
theorem kC_407 : (Cond.instantiable RX2 7) ∈ wsC := kCc_16 _ (List.mem_of_getElem? (i := 23) rfl)
theorem kC_408 : (Cond.fieldLink RX9 28 "MasterTree" "filter" "LMasterTree$Filter;") ∈ wsC := kCc_17 _ (List.mem_of_getElem? (i := 0) rfl)
theorem kC_409 : (Cond.classLink RX9 32 RX4) ∈ wsC := kCc_17 _ (List.mem_of_getElem? (i := 1) rfl)
theorem kC_410 : (Cond.fieldLink RX9 34 "MasterTree" "masters" "[LMasterTree$Master;") ∈ wsC := kCc_17 _ (List.mem_of_getElem? (i := 2) rfl)
theorem kC_411 : (Cond.classLink RX9 38 RX3) ∈ wsC := kCc_17 _ (List.mem_of_getElem? (i := 3) rfl)
theorem kC_412 : (Cond.instantiable RX3 8) ∈ wsC := kCc_17 _ (List.mem_of_getElem? (i := 4) rfl)
theorem kC_413 : (Cond.fieldLink RX9 43 "MasterTree" "finder" "LMasterTree$Finder;") ∈ wsC := kCc_17 _ (List.mem_of_getElem? (i := 5) rfl)
theorem kC_414 : (Cond.classLink RX9 47 RJx4a65c) ∈ wsC := kCc_17 _ (List.mem_of_getElem? (i := 6) rfl)
theorem kC_415 : (Cond.instantiable RJx4a65c 3) ∈ wsC := kCc_17 _ (List.mem_of_getElem? (i := 7) rfl)
theorem kC_416 : (Cond.initialized RJx4a65c) ∈ wsC := kCc_17 _ (List.mem_of_getElem? (i := 8) rfl)
theorem kC_417 : (Cond.fieldLink RX9 50 "MasterTree" "log" "Ljava/util/ArrayList;") ∈ wsC := kCc_17 _ (List.mem_of_getElem? (i := 9) rfl)
theorem kC_418 : (Cond.classLink RX9 54 RX8) ∈ wsC := kCc_17 _ (List.mem_of_getElem? (i := 10) rfl)
theorem kC_419 : (Cond.instantiable RX8 12) ∈ wsC := kCc_17 _ (List.mem_of_getElem? (i := 11) rfl)
theorem kC_420 : (Cond.fieldLink RX9 57 "MasterTree" "anew" "LMasterTree$Tree;") ∈ wsC := kCc_17 _ (List.mem_of_getElem? (i := 12) rfl)
theorem kC_421 : (Cond.fieldLink RX9 61 "MasterTree" "entries" "I") ∈ wsC := kCc_17 _ (List.mem_of_getElem? (i := 13) rfl)
theorem kC_422 : (Cond.instantiable RX4 6) ∈ wsC := kCc_17 _ (List.mem_of_getElem? (i := 14) rfl)
theorem kC_423 : (Cond.methodLink RX9 11 yX7_init) ∈ wsC := kCc_17 _ (List.mem_of_getElem? (i := 15) rfl)
theorem kC_424 : (Cond.instanceMethod yX7_init) ∈ wsC := kCc_17 _ (List.mem_of_getElem? (i := 16) rfl)
theorem kC_425 : (Cond.methodLink RX9 18 yX1_init) ∈ wsC := kCc_17 _ (List.mem_of_getElem? (i := 17) rfl)
theorem kC_426 : (Cond.instanceMethod yX1_init) ∈ wsC := kCc_17 _ (List.mem_of_getElem? (i := 18) rfl)
theorem kC_427 : (Cond.methodLink RX9 27 yX2_init) ∈ wsC := kCc_17 _ (List.mem_of_getElem? (i := 19) rfl)
theorem kC_428 : (Cond.instanceMethod yX2_init) ∈ wsC := kCc_17 _ (List.mem_of_getElem? (i := 20) rfl)
theorem kC_429 : (Cond.methodLink RX9 40 yX3_init) ∈ wsC := kCc_17 _ (List.mem_of_getElem? (i := 21) rfl)
theorem kC_430 : (Cond.instanceMethod yX3_init) ∈ wsC := kCc_17 _ (List.mem_of_getElem? (i := 22) rfl)
theorem kC_431 : (Cond.methodLink RX9 49 yJx4a65c_init_da8c8) ∈ wsC := kCc_17 _ (List.mem_of_getElem? (i := 23) rfl)
theorem kC_432 : (Cond.instanceMethod yJx4a65c_init_da8c8) ∈ wsC := kCc_18 _ (List.mem_of_getElem? (i := 0) rfl)
theorem kC_433 : (Cond.code yJx4a65c_init_da8c8 cJx4a65c_init_da8c8 1 none) ∈ wsC := kCc_18 _ (List.mem_of_getElem? (i := 1) rfl)
theorem kC_434 : (Cond.fieldLink RJx4a65c 39 "java/util/ArrayList" "DEFAULTCAPACITY_EMPTY_ELEMENTDATA" "[Ljava/lang/Object;") ∈ wsC := kCc_18 _ (List.mem_of_getElem? (i := 2) rfl)
theorem kC_435 : (Cond.fieldLink RJx4a65c 9 "java/util/ArrayList" "elementData" "[Ljava/lang/Object;") ∈ wsC := kCc_18 _ (List.mem_of_getElem? (i := 3) rfl)
theorem kC_436 : (Cond.methodLink RJx4a65c 1 yJxc12de_init_da8c8) ∈ wsC := kCc_18 _ (List.mem_of_getElem? (i := 4) rfl)
theorem kC_437 : (Cond.instanceMethod yJxc12de_init_da8c8) ∈ wsC := kCc_18 _ (List.mem_of_getElem? (i := 5) rfl)
theorem kC_438 : (Cond.initialized RJxc12de) ∈ wsC := kCc_18 _ (List.mem_of_getElem? (i := 6) rfl)
theorem kC_439 : (Cond.code yJxc12de_init_da8c8 cJxc12de_init_da8c8 1 none) ∈ wsC := kCc_18 _ (List.mem_of_getElem? (i := 7) rfl)
theorem kC_440 : (Cond.fieldLink RJxc12de 7 "java/util/AbstractList" "modCount" "I") ∈ wsC := kCc_18 _ (List.mem_of_getElem? (i := 8) rfl)
theorem kC_441 : (Cond.methodLink RJxc12de 1 yJxa1e45_init_da8c8) ∈ wsC := kCc_18 _ (List.mem_of_getElem? (i := 9) rfl)
theorem kC_442 : (Cond.instanceMethod yJxa1e45_init_da8c8) ∈ wsC := kCc_18 _ (List.mem_of_getElem? (i := 10) rfl)
theorem kC_443 : (Cond.initialized RJxa1e45) ∈ wsC := kCc_18 _ (List.mem_of_getElem? (i := 11) rfl)
theorem kC_444 : (Cond.code yJxa1e45_init_da8c8 cJxa1e45_init_da8c8 1 none) ∈ wsC := kCc_18 _ (List.mem_of_getElem? (i := 12) rfl)
theorem kC_445 : (Cond.methodLink RJxa1e45 1 objectInit) ∈ wsC := kCc_18 _ (List.mem_of_getElem? (i := 13) rfl)
theorem kC_446 : (Cond.methodLink RX9 56 yX8_init) ∈ wsC := kCc_18 _ (List.mem_of_getElem? (i := 14) rfl)
theorem kC_447 : (Cond.instanceMethod yX8_init) ∈ wsC := kCc_18 _ (List.mem_of_getElem? (i := 15) rfl)
theorem kC_448 : (Cond.methodLink RX9 65 yX4_init) ∈ wsC := kCc_18 _ (List.mem_of_getElem? (i := 16) rfl)
theorem kC_449 : (Cond.instanceMethod yX4_init) ∈ wsC := kCc_18 _ (List.mem_of_getElem? (i := 17) rfl)
theorem kC_450 : (Cond.code yX9_init cX9_init 2 none) ∈ wsC := kCc_18 _ (List.mem_of_getElem? (i := 18) rfl)
theorem kC_451 : (Cond.code yX9_attribute cX9_attribute 3 (some .int)) ∈ wsC := kCc_18 _ (List.mem_of_getElem? (i := 19) rfl)
theorem kC_452 : (Cond.classLink RX9 71 "java/lang/IllegalStateException") ∈ wsC := kCc_18 _ (List.mem_of_getElem? (i := 20) rfl)
theorem kC_453 : (Cond.initialized "java/lang/IllegalStateException") ∈ wsC := kCc_18 _ (List.mem_of_getElem? (i := 21) rfl)
theorem kC_454 : (Cond.fieldLink RX9 68 "MasterTree$Schema" "attributes" "I") ∈ wsC := kCc_18 _ (List.mem_of_getElem? (i := 22) rfl)
theorem kC_455 : (Cond.methodLink RX9 78 yX7_newAttribute) ∈ wsC := kCc_18 _ (List.mem_of_getElem? (i := 23) rfl)
theorem kC_456 : (Cond.instanceMethod yX7_newAttribute) ∈ wsC := kCc_19 _ (List.mem_of_getElem? (i := 0) rfl)
theorem kC_457 : (Cond.selects RX7 yX7_newAttribute yX7_newAttribute) ∈ wsC := kCc_19 _ (List.mem_of_getElem? (i := 1) rfl)
theorem kC_458 : (Cond.code yX9_needClass cX9_needClass 2 none) ∈ wsC := kCc_19 _ (List.mem_of_getElem? (i := 2) rfl)
theorem kC_459 : (Cond.classLink RX9 90 "java/lang/IndexOutOfBoundsException") ∈ wsC := kCc_19 _ (List.mem_of_getElem? (i := 3) rfl)
theorem kC_460 : (Cond.initialized "java/lang/IndexOutOfBoundsException") ∈ wsC := kCc_19 _ (List.mem_of_getElem? (i := 4) rfl)
theorem kC_461 : (Cond.methodLink RX9 389 yX7_isClass) ∈ wsC := kCc_19 _ (List.mem_of_getElem? (i := 5) rfl)
theorem kC_462 : (Cond.fieldLink RX9 95 "MasterTree$Schema" "classes" "I") ∈ wsC := kCc_19 _ (List.mem_of_getElem? (i := 6) rfl)
theorem kC_463 : (Cond.methodLink RX9 82 yX9_needClass) ∈ wsC := kCc_19 _ (List.mem_of_getElem? (i := 7) rfl)
theorem kC_464 : (Cond.instanceMethod yX9_needClass) ∈ wsC := kCc_19 _ (List.mem_of_getElem? (i := 8) rfl)
theorem kC_465 : (Cond.selects RX9 yX9_needClass yX9_needClass) ∈ wsC := kCc_19 _ (List.mem_of_getElem? (i := 9) rfl)
theorem kC_466 : (Cond.initialized RX9) ∈ wsC := kCc_19 _ (List.mem_of_getElem? (i := 10) rfl)
theorem kC_467 : (Cond.methodLink RX9 86 yX7_isSetOfAttributes) ∈ wsC := kCc_19 _ (List.mem_of_getElem? (i := 11) rfl)
theorem kC_468 : (Cond.instanceMethod yX7_isSetOfAttributes) ∈ wsC := kCc_19 _ (List.mem_of_getElem? (i := 12) rfl)
theorem kC_469 : (Cond.selects RX7 yX7_isSetOfAttributes yX7_isSetOfAttributes) ∈ wsC := kCc_19 _ (List.mem_of_getElem? (i := 13) rfl)
theorem kC_470 : (Cond.methodLink RX9 100 yX7_newClass) ∈ wsC := kCc_19 _ (List.mem_of_getElem? (i := 14) rfl)
theorem kC_471 : (Cond.instanceMethod yX7_newClass) ∈ wsC := kCc_19 _ (List.mem_of_getElem? (i := 15) rfl)
theorem kC_472 : (Cond.selects RX7 yX7_newClass yX7_newClass) ∈ wsC := kCc_19 _ (List.mem_of_getElem? (i := 16) rfl)
theorem kC_473 : (Cond.code yX9_objectClass cX9_objectClass 4 (some .int)) ∈ wsC := kCc_19 _ (List.mem_of_getElem? (i := 17) rfl)
theorem kC_474 : (Cond.code yX9_masterAt cX9_masterAt 2 (some (.object "MasterTree$Master"))) ∈ wsC := kCc_19 _ (List.mem_of_getElem? (i := 18) rfl)
theorem kC_475 : (Cond.code yX9_needUser cX9_needUser 1 none) ∈ wsC := kCc_19 _ (List.mem_of_getElem? (i := 19) rfl)
theorem kC_476 : (Cond.code yX9_serve cX9_serve 5 (some .int)) ∈ wsC := kCc_19 _ (List.mem_of_getElem? (i := 20) rfl)
theorem kC_477 : (Cond.fieldLink RX9 111 "MasterTree$Master" "user" "I") ∈ wsC := kCc_19 _ (List.mem_of_getElem? (i := 21) rfl)
theorem kC_478 : (Cond.methodLink RX9 104 yX9_masterAt) ∈ wsC := kCc_19 _ (List.mem_of_getElem? (i := 22) rfl)
theorem kC_479 : (Cond.instanceMethod yX9_masterAt) ∈ wsC := kCc_19 _ (List.mem_of_getElem? (i := 23) rfl)
theorem kC_480 : (Cond.selects RX9 yX9_masterAt yX9_masterAt) ∈ wsC := kCc_20 _ (List.mem_of_getElem? (i := 0) rfl)
theorem kC_481 : (Cond.methodLink RX9 108 yX9_needUser) ∈ wsC := kCc_20 _ (List.mem_of_getElem? (i := 1) rfl)
theorem kC_482 : (Cond.static yX9_needUser) ∈ wsC := kCc_20 _ (List.mem_of_getElem? (i := 2) rfl)
theorem kC_483 : (Cond.code yX9_needAttribute cX9_needAttribute 2 none) ∈ wsC := kCc_20 _ (List.mem_of_getElem? (i := 3) rfl)
theorem kC_484 : (Cond.code yX9_needValue cX9_needValue 1 none) ∈ wsC := kCc_20 _ (List.mem_of_getElem? (i := 4) rfl)
theorem kC_485 : (Cond.classLink RX9 233 "java/lang/IllegalArgumentException") ∈ wsC := kCc_20 _ (List.mem_of_getElem? (i := 5) rfl)
theorem kC_486 : (Cond.initialized "java/lang/IllegalArgumentException") ∈ wsC := kCc_20 _ (List.mem_of_getElem? (i := 6) rfl)
theorem kC_487 : (Cond.fieldLink RX9 120 "MasterTree$Drafted" "count" "I") ∈ wsC := kCc_20 _ (List.mem_of_getElem? (i := 7) rfl)
theorem kC_488 : (Cond.methodLink RX9 114 yX9_needAttribute) ∈ wsC := kCc_20 _ (List.mem_of_getElem? (i := 8) rfl)
theorem kC_489 : (Cond.instanceMethod yX9_needAttribute) ∈ wsC := kCc_20 _ (List.mem_of_getElem? (i := 9) rfl)
theorem kC_490 : (Cond.selects RX9 yX9_needAttribute yX9_needAttribute) ∈ wsC := kCc_20 _ (List.mem_of_getElem? (i := 10) rfl)
theorem kC_491 : (Cond.methodLink RX9 117 yX9_needValue) ∈ wsC := kCc_20 _ (List.mem_of_getElem? (i := 11) rfl)
theorem kC_492 : (Cond.static yX9_needValue) ∈ wsC := kCc_20 _ (List.mem_of_getElem? (i := 12) rfl)
theorem kC_493 : (Cond.methodLink RX9 125 yX1_put) ∈ wsC := kCc_20 _ (List.mem_of_getElem? (i := 13) rfl)
theorem kC_494 : (Cond.instanceMethod yX1_put) ∈ wsC := kCc_20 _ (List.mem_of_getElem? (i := 14) rfl)
theorem kC_495 : (Cond.selects RX1 yX1_put yX1_put) ∈ wsC := kCc_20 _ (List.mem_of_getElem? (i := 15) rfl)
theorem kC_496 : (Cond.code yX9_draft cX9_draft 3 (some .int)) ∈ wsC := kCc_20 _ (List.mem_of_getElem? (i := 16) rfl)
theorem kC_497 : (Cond.code yX9_undraft cX9_undraft 2 (some .int)) ∈ wsC := kCc_20 _ (List.mem_of_getElem? (i := 17) rfl)
theorem kC_498 : (Cond.code yX9_needEntry cX9_needEntry 2 none) ∈ wsC := kCc_20 _ (List.mem_of_getElem? (i := 18) rfl)
theorem kC_499 : (Cond.fieldLink RX9 176 "MasterTree$Master" "tree" "LMasterTree$Tree;") ∈ wsC := kCc_20 _ (List.mem_of_getElem? (i := 19) rfl)
theorem kC_500 : (Cond.methodLink RX9 364 yX8_isLive) ∈ wsC := kCc_20 _ (List.mem_of_getElem? (i := 20) rfl)
theorem kC_501 : (Cond.code yX9_needName cX9_needName 1 none) ∈ wsC := kCc_20 _ (List.mem_of_getElem? (i := 21) rfl)
theorem kC_502 : (Cond.code yX9_needRoom cX9_needRoom 1 none) ∈ wsC := kCc_20 _ (List.mem_of_getElem? (i := 22) rfl)
theorem kC_503 : (Cond.methodLink RX9 252 yJx4a65c_size_8abf5) ∈ wsC := kCc_20 _ (List.mem_of_getElem? (i := 23) rfl)
theorem kC_504 : (Cond.instanceMethod yJx4a65c_size_8abf5) ∈ wsC := kCc_21 _ (List.mem_of_getElem? (i := 0) rfl)
theorem kC_505 : (Cond.selects RJx4a65c yJx4a65c_size_8abf5 yJx4a65c_size_8abf5) ∈ wsC := kCc_21 _ (List.mem_of_getElem? (i := 1) rfl)
theorem kC_506 : (Cond.code yJx4a65c_size_8abf5 cJx4a65c_size_8abf5 1 (some .int)) ∈ wsC := kCc_21 _ (List.mem_of_getElem? (i := 2) rfl)
theorem kC_507 : (Cond.fieldLink RJx4a65c 48 "java/util/ArrayList" "size" "I") ∈ wsC := kCc_21 _ (List.mem_of_getElem? (i := 3) rfl)
theorem kC_508 : (Cond.methodLink RX9 347 yX8_grants) ∈ wsC := kCc_21 _ (List.mem_of_getElem? (i := 4) rfl)
theorem kC_509 : (Cond.code yX9_needWrite cX9_needWrite 2 none) ∈ wsC := kCc_21 _ (List.mem_of_getElem? (i := 5) rfl)
theorem kC_510 : (Cond.methodLink RX9 410 yX8_isShown) ∈ wsC := kCc_21 _ (List.mem_of_getElem? (i := 6) rfl)
theorem kC_511 : (Cond.instanceMethod yX8_isShown) ∈ wsC := kCc_21 _ (List.mem_of_getElem? (i := 7) rfl)
theorem kC_512 : (Cond.selects RX8 yX8_isShown yX8_isShown) ∈ wsC := kCc_21 _ (List.mem_of_getElem? (i := 8) rfl)
theorem kC_513 : (Cond.code yX9_needFreeName cX9_needFreeName 4 none) ∈ wsC := kCc_21 _ (List.mem_of_getElem? (i := 9) rfl)
theorem kC_514 : (Cond.code yX9_need cX9_need 1 none) ∈ wsC := kCc_21 _ (List.mem_of_getElem? (i := 10) rfl)
theorem kC_515 : (Cond.classLink RX9 153 "MasterTree$Change") ∈ wsC := kCc_21 _ (List.mem_of_getElem? (i := 11) rfl)
theorem kC_516 : (Cond.methodLink RX9 419 yX4_sign) ∈ wsC := kCc_21 _ (List.mem_of_getElem? (i := 12) rfl)
theorem kC_517 : (Cond.instanceMethod yX4_sign) ∈ wsC := kCc_21 _ (List.mem_of_getElem? (i := 13) rfl)
theorem kC_518 : (Cond.selects RX4 yX4_sign yX4_sign) ∈ wsC := kCc_21 _ (List.mem_of_getElem? (i := 14) rfl)
theorem kC_519 : (Cond.methodLink RX9 256 yJx4a65c_get_915e3) ∈ wsC := kCc_21 _ (List.mem_of_getElem? (i := 15) rfl)
theorem kC_520 : (Cond.instanceMethod yJx4a65c_get_915e3) ∈ wsC := kCc_21 _ (List.mem_of_getElem? (i := 16) rfl)
theorem kC_521 : (Cond.selects RJx4a65c yJx4a65c_get_915e3 yJx4a65c_get_915e3) ∈ wsC := kCc_21 _ (List.mem_of_getElem? (i := 17) rfl)
theorem kC_522 : (Cond.code yJx4a65c_get_915e3 cJx4a65c_get_915e3 2 (some (.object "java/lang/Object"))) ∈ wsC := kCc_21 _ (List.mem_of_getElem? (i := 18) rfl)
theorem kC_523 : (Cond.methodLink RJx4a65c 118 yJ15_checkIndex_7cf53) ∈ wsC := kCc_21 _ (List.mem_of_getElem? (i := 19) rfl)
theorem kC_524 : (Cond.static yJ15_checkIndex_7cf53) ∈ wsC := kCc_21 _ (List.mem_of_getElem? (i := 20) rfl)
theorem kC_525 : (Cond.initialized RJ15) ∈ wsC := kCc_21 _ (List.mem_of_getElem? (i := 21) rfl)
theorem kC_526 : (Cond.code yJ15_checkIndex_7cf53 cJ15_checkIndex_7cf53 2 (some .int)) ∈ wsC := kCc_21 _ (List.mem_of_getElem? (i := 22) rfl)
theorem kC_527 : (Cond.methodLink RJ15 105 yJ3_checkIndex_8e157) ∈ wsC := kCc_21 _ (List.mem_of_getElem? (i := 23) rfl)
theorem kC_528 : (Cond.static yJ3_checkIndex_8e157) ∈ wsC := kCc_22 _ (List.mem_of_getElem? (i := 0) rfl)
theorem kC_529 : (Cond.initialized RJ3) ∈ wsC := kCc_22 _ (List.mem_of_getElem? (i := 1) rfl)
theorem kC_530 : (Cond.code yJ3_checkIndex_8e157 cJ3_checkIndex_8e157 3 (some .int)) ∈ wsC := kCc_22 _ (List.mem_of_getElem? (i := 2) rfl)
theorem kC_531 : (Cond.methodLink RJx4a65c 123 yJx4a65c_elementData_915e3) ∈ wsC := kCc_22 _ (List.mem_of_getElem? (i := 3) rfl)
theorem kC_532 : (Cond.instanceMethod yJx4a65c_elementData_915e3) ∈ wsC := kCc_22 _ (List.mem_of_getElem? (i := 4) rfl)
theorem kC_533 : (Cond.selects RJx4a65c yJx4a65c_elementData_915e3 yJx4a65c_elementData_915e3) ∈ wsC := kCc_22 _ (List.mem_of_getElem? (i := 5) rfl)
theorem kC_534 : (Cond.code yJx4a65c_elementData_915e3 cJx4a65c_elementData_915e3 2 (some (.object "java/lang/Object"))) ∈ wsC := kCc_22 _ (List.mem_of_getElem? (i := 6) rfl)
theorem kC_535 : (Cond.methodLink RX9 422 yX0_rank) ∈ wsC := kCc_22 _ (List.mem_of_getElem? (i := 7) rfl)
theorem kC_536 : (Cond.methodLink RX9 425 yJx4a65c_add_7a177) ∈ wsC := kCc_22 _ (List.mem_of_getElem? (i := 8) rfl)
theorem kC_537 : (Cond.instanceMethod yJx4a65c_add_7a177) ∈ wsC := kCc_22 _ (List.mem_of_getElem? (i := 9) rfl)
theorem kC_538 : (Cond.selects RJx4a65c yJx4a65c_add_7a177 yJx4a65c_add_7a177) ∈ wsC := kCc_22 _ (List.mem_of_getElem? (i := 10) rfl)
theorem kC_539 : (Cond.code yJx4a65c_add_7a177 cJx4a65c_add_7a177 5 none) ∈ wsC := kCc_22 _ (List.mem_of_getElem? (i := 11) rfl)
theorem kC_540 : (Cond.fieldLink RJx4a65c 63 "java/util/ArrayList" "modCount" "I") ∈ wsC := kCc_22 _ (List.mem_of_getElem? (i := 12) rfl)
theorem kC_541 : (Cond.sameField "java/util/ArrayList" "java/util/AbstractList" "modCount" "I") ∈ wsC := kCc_22 _ (List.mem_of_getElem? (i := 13) rfl)
theorem kC_542 : (Cond.methodLink RJx4a65c 112 arraycopyName) ∈ wsC := kCc_22 _ (List.mem_of_getElem? (i := 14) rfl)
theorem kC_543 : (Cond.methodLink RJx4a65c 135 yJx4a65c_rangeCheckForAdd_d00df) ∈ wsC := kCc_22 _ (List.mem_of_getElem? (i := 15) rfl)
theorem kC_544 : (Cond.instanceMethod yJx4a65c_rangeCheckForAdd_d00df) ∈ wsC := kCc_22 _ (List.mem_of_getElem? (i := 16) rfl)
theorem kC_545 : (Cond.selects RJx4a65c yJx4a65c_rangeCheckForAdd_d00df yJx4a65c_rangeCheckForAdd_d00df) ∈ wsC := kCc_22 _ (List.mem_of_getElem? (i := 17) rfl)
theorem kC_546 : (Cond.code yJx4a65c_rangeCheckForAdd_d00df cJx4a65c_rangeCheckForAdd_d00df 2 none) ∈ wsC := kCc_22 _ (List.mem_of_getElem? (i := 18) rfl)
theorem kC_547 : (Cond.methodLink RJx4a65c 129 yJx4a65c_grow_d5877) ∈ wsC := kCc_22 _ (List.mem_of_getElem? (i := 19) rfl)
theorem kC_548 : (Cond.instanceMethod yJx4a65c_grow_d5877) ∈ wsC := kCc_22 _ (List.mem_of_getElem? (i := 20) rfl)
theorem kC_549 : (Cond.selects RJx4a65c yJx4a65c_grow_d5877 yJx4a65c_grow_d5877) ∈ wsC := kCc_22 _ (List.mem_of_getElem? (i := 21) rfl)
theorem kC_550 : (Cond.code yJx4a65c_grow_d5877 cJx4a65c_grow_d5877 1 (some (.array (.object "java/lang/Object")))) ∈ wsC := kCc_22 _ (List.mem_of_getElem? (i := 22) rfl)
theorem kC_551 : (Cond.methodLink RJx4a65c 69 yJx4a65c_grow_92f84) ∈ wsC := kCc_22 _ (List.mem_of_getElem? (i := 23) rfl)
theorem kC_552 : (Cond.instanceMethod yJx4a65c_grow_92f84) ∈ wsC := kCc_23 _ (List.mem_of_getElem? (i := 0) rfl)
theorem kC_553 : (Cond.selects RJx4a65c yJx4a65c_grow_92f84 yJx4a65c_grow_92f84) ∈ wsC := kCc_23 _ (List.mem_of_getElem? (i := 1) rfl)
theorem kC_554 : (Cond.code yJx4a65c_grow_92f84 cJx4a65c_grow_92f84 4 (some (.array (.object "java/lang/Object")))) ∈ wsC := kCc_23 _ (List.mem_of_getElem? (i := 2) rfl)
theorem kC_555 : (Cond.methodLink RJx4a65c 79 Lib.Math.max.name) ∈ wsC := kCc_23 _ (List.mem_of_getElem? (i := 3) rfl)
theorem kC_556 : (Cond.classLink RJx4a65c 7 "java/lang/Object") ∈ wsC := kCc_23 _ (List.mem_of_getElem? (i := 4) rfl)
theorem kC_557 : (Cond.methodLink RJx4a65c 73 yJ8_newLength_cabcc) ∈ wsC := kCc_23 _ (List.mem_of_getElem? (i := 5) rfl)
theorem kC_558 : (Cond.static yJ8_newLength_cabcc) ∈ wsC := kCc_23 _ (List.mem_of_getElem? (i := 6) rfl)
theorem kC_559 : (Cond.initialized RJ8) ∈ wsC := kCc_23 _ (List.mem_of_getElem? (i := 7) rfl)
theorem kC_560 : (Cond.code yJ8_newLength_cabcc cJ8_newLength_cabcc 4 (some .int)) ∈ wsC := kCc_23 _ (List.mem_of_getElem? (i := 8) rfl)
theorem kC_561 : (Cond.methodLink RJ8 194 Lib.Math.max.name) ∈ wsC := kCc_23 _ (List.mem_of_getElem? (i := 9) rfl)
theorem kC_562 : (Cond.constant RJ8 200 (2147483639)) ∈ wsC := kCc_23 _ (List.mem_of_getElem? (i := 10) rfl)
theorem kC_563 : (Cond.methodLink RJ8 201 yJ8_hugeLength_7cf53) ∈ wsC := kCc_23 _ (List.mem_of_getElem? (i := 11) rfl)
theorem kC_564 : (Cond.static yJ8_hugeLength_7cf53) ∈ wsC := kCc_23 _ (List.mem_of_getElem? (i := 12) rfl)
theorem kC_565 : (Cond.code yJ8_hugeLength_7cf53 cJ8_hugeLength_7cf53 3 (some .int)) ∈ wsC := kCc_23 _ (List.mem_of_getElem? (i := 13) rfl)
theorem kC_566 : (Cond.methodLink RJx4a65c 66 yJ7_copyOf_1904c) ∈ wsC := kCc_23 _ (List.mem_of_getElem? (i := 14) rfl)
theorem kC_567 : (Cond.static yJ7_copyOf_1904c) ∈ wsC := kCc_23 _ (List.mem_of_getElem? (i := 15) rfl)
theorem kC_568 : (Cond.code yJ7_copyOf_1904c cJ7_copyOf_1904c 2 (some (.array (.object "java/lang/Object")))) ∈ wsC := kCc_23 _ (List.mem_of_getElem? (i := 16) rfl)
theorem kC_569 : (Cond.methodLink RJ7 86 ⟨"java/lang/Object", "getClass", "()Ljava/lang/Class;"⟩) ∈ wsC := kCc_23 _ (List.mem_of_getElem? (i := 17) rfl)
theorem kC_570 : (Cond.selects "[Ljava/lang/Object;" ⟨"java/lang/Object", "getClass", "()Ljava/lang/Class;"⟩ ⟨"java/lang/Object", "getClass", "()Ljava/lang/Class;"⟩) ∈ wsC := kCc_23 _ (List.mem_of_getElem? (i := 18) rfl)
theorem kC_571 : (Cond.instanceMethod ⟨"java/lang/Object", "getClass", "()Ljava/lang/Class;"⟩) ∈ wsC := kCc_23 _ (List.mem_of_getElem? (i := 19) rfl)
theorem kC_572 : (Cond.native ⟨"java/lang/Object", "getClass", "()Ljava/lang/Class;"⟩) ∈ wsC := kCc_23 _ (List.mem_of_getElem? (i := 20) rfl)
theorem kC_573 : (Cond.methodLink RJ7 300 yJ7_copyOf_6403c) ∈ wsC := kCc_23 _ (List.mem_of_getElem? (i := 21) rfl)
theorem kC_574 : (Cond.static yJ7_copyOf_6403c) ∈ wsC := kCc_23 _ (List.mem_of_getElem? (i := 22) rfl)
theorem kC_575 : (Cond.code yJ7_copyOf_6403c cJ7_copyOf_6403c 4 (some (.array (.object "java/lang/Object")))) ∈ wsC := kCc_23 _ (List.mem_of_getElem? (i := 23) rfl)
theorem kC_576 : (Cond.classLink RJ7 110 "[Ljava/lang/Object;") ∈ wsC := kCc_24 _ (List.mem_of_getElem? (i := 0) rfl)
theorem kC_577 : (Cond.classLink RJ7 2 "java/lang/Object") ∈ wsC := kCc_24 _ (List.mem_of_getElem? (i := 1) rfl)
theorem kC_578 : (Cond.methodLink RX9 429 yX8_take) ∈ wsC := kCc_24 _ (List.mem_of_getElem? (i := 2) rfl)
theorem kC_579 : (Cond.instanceMethod yX8_take) ∈ wsC := kCc_24 _ (List.mem_of_getElem? (i := 3) rfl)
theorem kC_580 : (Cond.selects RX8 yX8_take yX8_take) ∈ wsC := kCc_24 _ (List.mem_of_getElem? (i := 4) rfl)
theorem kC_581 : (Cond.code yX9_record cX9_record 4 none) ∈ wsC := kCc_24 _ (List.mem_of_getElem? (i := 5) rfl)
theorem kC_582 : (Cond.classLink RX9 153 RX0) ∈ wsC := kCc_24 _ (List.mem_of_getElem? (i := 6) rfl)
theorem kC_583 : (Cond.instantiable RX0 9) ∈ wsC := kCc_24 _ (List.mem_of_getElem? (i := 7) rfl)
theorem kC_584 : (Cond.fieldLink RX9 162 "MasterTree$Change" "codes" "[I") ∈ wsC := kCc_24 _ (List.mem_of_getElem? (i := 8) rfl)
theorem kC_585 : (Cond.fieldLink RX9 170 "MasterTree$Change" "entry" "I") ∈ wsC := kCc_24 _ (List.mem_of_getElem? (i := 9) rfl)
theorem kC_586 : (Cond.methodLink RX9 129 yX9_needEntry) ∈ wsC := kCc_24 _ (List.mem_of_getElem? (i := 10) rfl)
theorem kC_587 : (Cond.static yX9_needEntry) ∈ wsC := kCc_24 _ (List.mem_of_getElem? (i := 11) rfl)
theorem kC_588 : (Cond.methodLink RX9 133 yX9_needName) ∈ wsC := kCc_24 _ (List.mem_of_getElem? (i := 12) rfl)
theorem kC_589 : (Cond.static yX9_needName) ∈ wsC := kCc_24 _ (List.mem_of_getElem? (i := 13) rfl)
theorem kC_590 : (Cond.methodLink RX9 136 yX9_needRoom) ∈ wsC := kCc_24 _ (List.mem_of_getElem? (i := 14) rfl)
theorem kC_591 : (Cond.instanceMethod yX9_needRoom) ∈ wsC := kCc_24 _ (List.mem_of_getElem? (i := 15) rfl)
theorem kC_592 : (Cond.selects RX9 yX9_needRoom yX9_needRoom) ∈ wsC := kCc_24 _ (List.mem_of_getElem? (i := 16) rfl)
theorem kC_593 : (Cond.methodLink RX9 139 yX9_needWrite) ∈ wsC := kCc_24 _ (List.mem_of_getElem? (i := 17) rfl)
theorem kC_594 : (Cond.static yX9_needWrite) ∈ wsC := kCc_24 _ (List.mem_of_getElem? (i := 18) rfl)
theorem kC_595 : (Cond.methodLink RX9 142 yX9_needFreeName) ∈ wsC := kCc_24 _ (List.mem_of_getElem? (i := 19) rfl)
theorem kC_596 : (Cond.static yX9_needFreeName) ∈ wsC := kCc_24 _ (List.mem_of_getElem? (i := 20) rfl)
theorem kC_597 : (Cond.methodLink RX9 146 yX1_fits) ∈ wsC := kCc_24 _ (List.mem_of_getElem? (i := 21) rfl)
theorem kC_598 : (Cond.instanceMethod yX1_fits) ∈ wsC := kCc_24 _ (List.mem_of_getElem? (i := 22) rfl)
theorem kC_599 : (Cond.selects RX1 yX1_fits yX1_fits) ∈ wsC := kCc_24 _ (List.mem_of_getElem? (i := 23) rfl)
theorem kC_600 : (Cond.methodLink RX9 149 yX9_need) ∈ wsC := kCc_25 _ (List.mem_of_getElem? (i := 0) rfl)
theorem kC_601 : (Cond.static yX9_need) ∈ wsC := kCc_25 _ (List.mem_of_getElem? (i := 1) rfl)
theorem kC_602 : (Cond.methodLink RX9 155 yX0_init) ∈ wsC := kCc_25 _ (List.mem_of_getElem? (i := 2) rfl)
theorem kC_603 : (Cond.instanceMethod yX0_init) ∈ wsC := kCc_25 _ (List.mem_of_getElem? (i := 3) rfl)
theorem kC_604 : (Cond.methodLink RX9 158 yX1_take) ∈ wsC := kCc_25 _ (List.mem_of_getElem? (i := 4) rfl)
theorem kC_605 : (Cond.instanceMethod yX1_take) ∈ wsC := kCc_25 _ (List.mem_of_getElem? (i := 5) rfl)
theorem kC_606 : (Cond.selects RX1 yX1_take yX1_take) ∈ wsC := kCc_25 _ (List.mem_of_getElem? (i := 6) rfl)
theorem kC_607 : (Cond.methodLink RX9 166 yX9_record) ∈ wsC := kCc_25 _ (List.mem_of_getElem? (i := 7) rfl)
theorem kC_608 : (Cond.instanceMethod yX9_record) ∈ wsC := kCc_25 _ (List.mem_of_getElem? (i := 8) rfl)
theorem kC_609 : (Cond.selects RX9 yX9_record yX9_record) ∈ wsC := kCc_25 _ (List.mem_of_getElem? (i := 9) rfl)
theorem kC_610 : (Cond.code yX9_add cX9_add 7 (some .int)) ∈ wsC := kCc_25 _ (List.mem_of_getElem? (i := 10) rfl)
theorem kC_611 : (Cond.code yX9_needChangeable cX9_needChangeable 2 none) ∈ wsC := kCc_25 _ (List.mem_of_getElem? (i := 11) rfl)
theorem kC_612 : (Cond.fieldLink RX9 179 "MasterTree$Tree" "classes" "[I") ∈ wsC := kCc_25 _ (List.mem_of_getElem? (i := 12) rfl)
theorem kC_613 : (Cond.methodLink RX9 173 yX9_needChangeable) ∈ wsC := kCc_25 _ (List.mem_of_getElem? (i := 13) rfl)
theorem kC_614 : (Cond.static yX9_needChangeable) ∈ wsC := kCc_25 _ (List.mem_of_getElem? (i := 14) rfl)
theorem kC_615 : (Cond.methodLink RX9 181 yX7_isAllowed) ∈ wsC := kCc_25 _ (List.mem_of_getElem? (i := 15) rfl)
theorem kC_616 : (Cond.methodLink RX9 185 yX8_matching) ∈ wsC := kCc_25 _ (List.mem_of_getElem? (i := 16) rfl)
theorem kC_617 : (Cond.instanceMethod yX8_matching) ∈ wsC := kCc_25 _ (List.mem_of_getElem? (i := 17) rfl)
theorem kC_618 : (Cond.selects RX8 yX8_matching yX8_matching) ∈ wsC := kCc_25 _ (List.mem_of_getElem? (i := 18) rfl)
theorem kC_619 : (Cond.methodLink RX9 188 yX7_isSingle) ∈ wsC := kCc_25 _ (List.mem_of_getElem? (i := 19) rfl)
theorem kC_620 : (Cond.methodLink RX9 191 yX8_valuesOf) ∈ wsC := kCc_25 _ (List.mem_of_getElem? (i := 20) rfl)
theorem kC_621 : (Cond.code yX9_addValue cX9_addValue 7 (some .int)) ∈ wsC := kCc_25 _ (List.mem_of_getElem? (i := 21) rfl)
theorem kC_622 : (Cond.methodLink RX9 195 yX7_isRequired) ∈ wsC := kCc_25 _ (List.mem_of_getElem? (i := 22) rfl)
theorem kC_623 : (Cond.instanceMethod yX7_isRequired) ∈ wsC := kCc_25 _ (List.mem_of_getElem? (i := 23) rfl)
theorem kC_624 : (Cond.selects RX7 yX7_isRequired yX7_isRequired) ∈ wsC := kCc_26 _ (List.mem_of_getElem? (i := 0) rfl)
theorem kC_625 : (Cond.code yX9_removeValue cX9_removeValue 8 (some .int)) ∈ wsC := kCc_26 _ (List.mem_of_getElem? (i := 1) rfl)
theorem kC_626 : (Cond.code yX9_replace cX9_replace 7 (some .int)) ∈ wsC := kCc_26 _ (List.mem_of_getElem? (i := 2) rfl)
theorem kC_627 : (Cond.methodLink RX9 198 yX8_placeOf) ∈ wsC := kCc_26 _ (List.mem_of_getElem? (i := 3) rfl)
theorem kC_628 : (Cond.methodLink RX9 201 yX8_shownName) ∈ wsC := kCc_26 _ (List.mem_of_getElem? (i := 4) rfl)
theorem kC_629 : (Cond.code yX9_rename cX9_rename 6 (some .int)) ∈ wsC := kCc_26 _ (List.mem_of_getElem? (i := 5) rfl)
theorem kC_630 : (Cond.fieldLink RX9 207 "MasterTree$Tree" "names" "[I") ∈ wsC := kCc_26 _ (List.mem_of_getElem? (i := 6) rfl)
theorem kC_631 : (Cond.methodLink RX9 204 yX8_comesTo) ∈ wsC := kCc_26 _ (List.mem_of_getElem? (i := 7) rfl)
theorem kC_632 : (Cond.code yX9_move cX9_move 6 (some .int)) ∈ wsC := kCc_26 _ (List.mem_of_getElem? (i := 8) rfl)
theorem kC_633 : (Cond.methodLink RX9 210 yX8_childrenAt) ∈ wsC := kCc_26 _ (List.mem_of_getElem? (i := 9) rfl)
theorem kC_634 : (Cond.methodLink RX9 214 yX4_marked) ∈ wsC := kCc_26 _ (List.mem_of_getElem? (i := 10) rfl)
theorem kC_635 : (Cond.instanceMethod yX4_marked) ∈ wsC := kCc_26 _ (List.mem_of_getElem? (i := 11) rfl)
theorem kC_636 : (Cond.selects RX4 yX4_marked yX4_marked) ∈ wsC := kCc_26 _ (List.mem_of_getElem? (i := 12) rfl)
theorem kC_637 : (Cond.methodLink RX9 218 yJ13_bitCount_95d88) ∈ wsC := kCc_26 _ (List.mem_of_getElem? (i := 13) rfl)
theorem kC_638 : (Cond.static yJ13_bitCount_95d88) ∈ wsC := kCc_26 _ (List.mem_of_getElem? (i := 14) rfl)
theorem kC_639 : (Cond.code yJ13_bitCount_95d88 cJ13_bitCount_95d88 2 (some .int)) ∈ wsC := kCc_26 _ (List.mem_of_getElem? (i := 15) rfl)
theorem kC_640 : (Cond.constantLong RJ13 314 (6148914691236517205)) ∈ wsC := kCc_26 _ (List.mem_of_getElem? (i := 16) rfl)
theorem kC_641 : (Cond.constantLong RJ13 316 (3689348814741910323)) ∈ wsC := kCc_26 _ (List.mem_of_getElem? (i := 17) rfl)
theorem kC_642 : (Cond.constantLong RJ13 318 (1085102592571150095)) ∈ wsC := kCc_26 _ (List.mem_of_getElem? (i := 18) rfl)
theorem kC_643 : (Cond.code yX9_delete cX9_delete 4 (some .int)) ∈ wsC := kCc_26 _ (List.mem_of_getElem? (i := 19) rfl)
theorem kC_644 : (Cond.fieldLink RX9 224 "MasterTree$Tree" "links" "[I") ∈ wsC := kCc_26 _ (List.mem_of_getElem? (i := 20) rfl)
theorem kC_645 : (Cond.code yX9_link cX9_link 6 (some .int)) ∈ wsC := kCc_26 _ (List.mem_of_getElem? (i := 21) rfl)
theorem kC_646 : (Cond.code yX9_needScope cX9_needScope 1 none) ∈ wsC := kCc_26 _ (List.mem_of_getElem? (i := 22) rfl)
theorem kC_647 : (Cond.code yX9_needRight cX9_needRight 1 none) ∈ wsC := kCc_26 _ (List.mem_of_getElem? (i := 23) rfl)
theorem kC_648 : (Cond.fieldLink RX9 243 "MasterTree$Tree" "rules" "LMasterTree$Rules;") ∈ wsC := kCc_27 _ (List.mem_of_getElem? (i := 0) rfl)
theorem kC_649 : (Cond.methodLink RX9 227 yX9_needScope) ∈ wsC := kCc_27 _ (List.mem_of_getElem? (i := 1) rfl)
theorem kC_650 : (Cond.static yX9_needScope) ∈ wsC := kCc_27 _ (List.mem_of_getElem? (i := 2) rfl)
theorem kC_651 : (Cond.methodLink RX9 230 yX9_needRight) ∈ wsC := kCc_27 _ (List.mem_of_getElem? (i := 3) rfl)
theorem kC_652 : (Cond.static yX9_needRight) ∈ wsC := kCc_27 _ (List.mem_of_getElem? (i := 4) rfl)
theorem kC_653 : (Cond.methodLink RX9 238 yX6_slot) ∈ wsC := kCc_27 _ (List.mem_of_getElem? (i := 5) rfl)
theorem kC_654 : (Cond.methodLink RX9 247 yX6_saidOf) ∈ wsC := kCc_27 _ (List.mem_of_getElem? (i := 6) rfl)
theorem kC_655 : (Cond.instanceMethod yX6_saidOf) ∈ wsC := kCc_27 _ (List.mem_of_getElem? (i := 7) rfl)
theorem kC_656 : (Cond.selects RX6 yX6_saidOf yX6_saidOf) ∈ wsC := kCc_27 _ (List.mem_of_getElem? (i := 8) rfl)
theorem kC_657 : (Cond.code yX9_rule cX9_rule 10 (some .int)) ∈ wsC := kCc_27 _ (List.mem_of_getElem? (i := 9) rfl)
theorem kC_658 : (Cond.methodLink RX9 431 yX8_clear) ∈ wsC := kCc_27 _ (List.mem_of_getElem? (i := 10) rfl)
theorem kC_659 : (Cond.methodLink RX9 260 yX4_hasGot) ∈ wsC := kCc_27 _ (List.mem_of_getElem? (i := 11) rfl)
theorem kC_660 : (Cond.instanceMethod yX4_hasGot) ∈ wsC := kCc_27 _ (List.mem_of_getElem? (i := 12) rfl)
theorem kC_661 : (Cond.selects RX4 yX4_hasGot yX4_hasGot) ∈ wsC := kCc_27 _ (List.mem_of_getElem? (i := 13) rfl)
theorem kC_662 : (Cond.code yX9_redo cX9_redo 5 none) ∈ wsC := kCc_27 _ (List.mem_of_getElem? (i := 14) rfl)
theorem kC_663 : (Cond.methodLink RX9 264 yX4_learn) ∈ wsC := kCc_27 _ (List.mem_of_getElem? (i := 15) rfl)
theorem kC_664 : (Cond.methodLink RX9 268 yX9_redo) ∈ wsC := kCc_27 _ (List.mem_of_getElem? (i := 16) rfl)
theorem kC_665 : (Cond.instanceMethod yX9_redo) ∈ wsC := kCc_27 _ (List.mem_of_getElem? (i := 17) rfl)
theorem kC_666 : (Cond.selects RX9 yX9_redo yX9_redo) ∈ wsC := kCc_27 _ (List.mem_of_getElem? (i := 18) rfl)
theorem kC_667 : (Cond.methodLink RX9 272 yX4_talkTo) ∈ wsC := kCc_27 _ (List.mem_of_getElem? (i := 19) rfl)
theorem kC_668 : (Cond.instanceMethod yX4_talkTo) ∈ wsC := kCc_27 _ (List.mem_of_getElem? (i := 20) rfl)
theorem kC_669 : (Cond.selects RX4 yX4_talkTo yX4_talkTo) ∈ wsC := kCc_27 _ (List.mem_of_getElem? (i := 21) rfl)
theorem kC_670 : (Cond.code yX9_exchange cX9_exchange 9 (some .int)) ∈ wsC := kCc_27 _ (List.mem_of_getElem? (i := 22) rfl)
theorem kC_671 : (Cond.fieldLink RX9 432 "MasterTree$Change" "kind" "I") ∈ wsC := kCc_27 _ (List.mem_of_getElem? (i := 23) rfl)
theorem kC_672 : (Cond.methodLink RX9 435 yX4_isToldThatKnows) ∈ wsC := kCc_28 _ (List.mem_of_getElem? (i := 0) rfl)
theorem kC_673 : (Cond.code yX9_deletionsKnownBy cX9_deletionsKnownBy 7 (some .long)) ∈ wsC := kCc_28 _ (List.mem_of_getElem? (i := 1) rfl)
theorem kC_674 : (Cond.fieldLink RX9 280 "MasterTree$Master" "dropped" "J") ∈ wsC := kCc_28 _ (List.mem_of_getElem? (i := 2) rfl)
theorem kC_675 : (Cond.methodLink RX9 276 yX9_deletionsKnownBy) ∈ wsC := kCc_28 _ (List.mem_of_getElem? (i := 3) rfl)
theorem kC_676 : (Cond.instanceMethod yX9_deletionsKnownBy) ∈ wsC := kCc_28 _ (List.mem_of_getElem? (i := 4) rfl)
theorem kC_677 : (Cond.selects RX9 yX9_deletionsKnownBy yX9_deletionsKnownBy) ∈ wsC := kCc_28 _ (List.mem_of_getElem? (i := 5) rfl)
theorem kC_678 : (Cond.code yX9_sweep cX9_sweep 6 (some .int)) ∈ wsC := kCc_28 _ (List.mem_of_getElem? (i := 6) rfl)
theorem kC_679 : (Cond.code yX9_needRoomForFilter cX9_needRoomForFilter 1 none) ∈ wsC := kCc_28 _ (List.mem_of_getElem? (i := 7) rfl)
theorem kC_680 : (Cond.fieldLink RX9 299 "MasterTree$Filter" "filters" "I") ∈ wsC := kCc_28 _ (List.mem_of_getElem? (i := 8) rfl)
theorem kC_681 : (Cond.fieldLink RX9 302 "MasterTree$Filter" "parts" "I") ∈ wsC := kCc_28 _ (List.mem_of_getElem? (i := 9) rfl)
theorem kC_682 : (Cond.methodLink RX9 284 yX9_needRoomForFilter) ∈ wsC := kCc_28 _ (List.mem_of_getElem? (i := 10) rfl)
theorem kC_683 : (Cond.instanceMethod yX9_needRoomForFilter) ∈ wsC := kCc_28 _ (List.mem_of_getElem? (i := 11) rfl)
theorem kC_684 : (Cond.selects RX9 yX9_needRoomForFilter yX9_needRoomForFilter) ∈ wsC := kCc_28 _ (List.mem_of_getElem? (i := 12) rfl)
theorem kC_685 : (Cond.methodLink RX9 287 yX7_lowest) ∈ wsC := kCc_28 _ (List.mem_of_getElem? (i := 13) rfl)
theorem kC_686 : (Cond.methodLink RX9 290 yX7_highest) ∈ wsC := kCc_28 _ (List.mem_of_getElem? (i := 14) rfl)
theorem kC_687 : (Cond.methodLink RX9 293 yX2_putRange) ∈ wsC := kCc_28 _ (List.mem_of_getElem? (i := 15) rfl)
theorem kC_688 : (Cond.instanceMethod yX2_putRange) ∈ wsC := kCc_28 _ (List.mem_of_getElem? (i := 16) rfl)
theorem kC_689 : (Cond.selects RX2 yX2_putRange yX2_putRange) ∈ wsC := kCc_28 _ (List.mem_of_getElem? (i := 17) rfl)
theorem kC_690 : (Cond.code yX9_equal cX9_equal 3 (some .int)) ∈ wsC := kCc_28 _ (List.mem_of_getElem? (i := 18) rfl)
theorem kC_691 : (Cond.code yX9_atLeast cX9_atLeast 3 (some .int)) ∈ wsC := kCc_28 _ (List.mem_of_getElem? (i := 19) rfl)
theorem kC_692 : (Cond.code yX9_has cX9_has 2 (some .int)) ∈ wsC := kCc_28 _ (List.mem_of_getElem? (i := 20) rfl)
theorem kC_693 : (Cond.methodLink RX9 296 yX2_putClass) ∈ wsC := kCc_28 _ (List.mem_of_getElem? (i := 21) rfl)
theorem kC_694 : (Cond.instanceMethod yX2_putClass) ∈ wsC := kCc_28 _ (List.mem_of_getElem? (i := 22) rfl)
theorem kC_695 : (Cond.selects RX2 yX2_putClass yX2_putClass) ∈ wsC := kCc_28 _ (List.mem_of_getElem? (i := 23) rfl)
theorem kC_696 : (Cond.code yX9_ofClass cX9_ofClass 2 (some .int)) ∈ wsC := kCc_29 _ (List.mem_of_getElem? (i := 0) rfl)
theorem kC_697 : (Cond.code yX9_combine cX9_combine 2 (some .int)) ∈ wsC := kCc_29 _ (List.mem_of_getElem? (i := 1) rfl)
theorem kC_698 : (Cond.methodLink RX9 307 yX2_putCombined) ∈ wsC := kCc_29 _ (List.mem_of_getElem? (i := 2) rfl)
theorem kC_699 : (Cond.instanceMethod yX2_putCombined) ∈ wsC := kCc_29 _ (List.mem_of_getElem? (i := 3) rfl)
theorem kC_700 : (Cond.selects RX2 yX2_putCombined yX2_putCombined) ∈ wsC := kCc_29 _ (List.mem_of_getElem? (i := 4) rfl)
theorem kC_701 : (Cond.code yX9_not cX9_not 1 (some .int)) ∈ wsC := kCc_29 _ (List.mem_of_getElem? (i := 5) rfl)
theorem kC_702 : (Cond.methodLink RX9 313 yX2_putNot) ∈ wsC := kCc_29 _ (List.mem_of_getElem? (i := 6) rfl)
theorem kC_703 : (Cond.instanceMethod yX2_putNot) ∈ wsC := kCc_29 _ (List.mem_of_getElem? (i := 7) rfl)
theorem kC_704 : (Cond.selects RX2 yX2_putNot yX2_putNot) ∈ wsC := kCc_29 _ (List.mem_of_getElem? (i := 8) rfl)
theorem kC_705 : (Cond.code yX9_wipe cX9_wipe 2 (some .int)) ∈ wsC := kCc_29 _ (List.mem_of_getElem? (i := 9) rfl)
theorem kC_706 : (Cond.methodLink RX9 316 yX2_clear) ∈ wsC := kCc_29 _ (List.mem_of_getElem? (i := 10) rfl)
theorem kC_707 : (Cond.instanceMethod yX2_clear) ∈ wsC := kCc_29 _ (List.mem_of_getElem? (i := 11) rfl)
theorem kC_708 : (Cond.selects RX2 yX2_clear yX2_clear) ∈ wsC := kCc_29 _ (List.mem_of_getElem? (i := 12) rfl)
theorem kC_709 : (Cond.code yX9_needSearch cX9_needSearch 4 none) ∈ wsC := kCc_29 _ (List.mem_of_getElem? (i := 13) rfl)
theorem kC_710 : (Cond.methodLink RX9 319 yX9_needSearch) ∈ wsC := kCc_29 _ (List.mem_of_getElem? (i := 14) rfl)
theorem kC_711 : (Cond.instanceMethod yX9_needSearch) ∈ wsC := kCc_29 _ (List.mem_of_getElem? (i := 15) rfl)
theorem kC_712 : (Cond.selects RX9 yX9_needSearch yX9_needSearch) ∈ wsC := kCc_29 _ (List.mem_of_getElem? (i := 16) rfl)
theorem kC_713 : (Cond.methodLink RX9 323 yX3_byIndex) ∈ wsC := kCc_29 _ (List.mem_of_getElem? (i := 17) rfl)
theorem kC_714 : (Cond.instanceMethod yX3_byIndex) ∈ wsC := kCc_29 _ (List.mem_of_getElem? (i := 18) rfl)
theorem kC_715 : (Cond.selects RX3 yX3_byIndex yX3_byIndex) ∈ wsC := kCc_29 _ (List.mem_of_getElem? (i := 19) rfl)
theorem kC_716 : (Cond.code yX9_search cX9_search 4 (some .int)) ∈ wsC := kCc_29 _ (List.mem_of_getElem? (i := 20) rfl)
theorem kC_717 : (Cond.methodLink RX9 326 yX3_byWalk) ∈ wsC := kCc_29 _ (List.mem_of_getElem? (i := 21) rfl)
theorem kC_718 : (Cond.instanceMethod yX3_byWalk) ∈ wsC := kCc_29 _ (List.mem_of_getElem? (i := 22) rfl)
theorem kC_719 : (Cond.selects RX3 yX3_byWalk yX3_byWalk) ∈ wsC := kCc_29 _ (List.mem_of_getElem? (i := 23) rfl)
theorem kC_720 : (Cond.code yX9_searchByWalk cX9_searchByWalk 4 (some .int)) ∈ wsC := kCc_30 _ (List.mem_of_getElem? (i := 0) rfl)
theorem kC_721 : (Cond.methodLink RX9 329 yX3_byLinks) ∈ wsC := kCc_30 _ (List.mem_of_getElem? (i := 1) rfl)
theorem kC_722 : (Cond.instanceMethod yX3_byLinks) ∈ wsC := kCc_30 _ (List.mem_of_getElem? (i := 2) rfl)
theorem kC_723 : (Cond.selects RX3 yX3_byLinks yX3_byLinks) ∈ wsC := kCc_30 _ (List.mem_of_getElem? (i := 3) rfl)
theorem kC_724 : (Cond.code yX9_follow cX9_follow 4 (some .int)) ∈ wsC := kCc_30 _ (List.mem_of_getElem? (i := 4) rfl)
theorem kC_725 : (Cond.code yX9_found cX9_found 2 (some .int)) ∈ wsC := kCc_30 _ (List.mem_of_getElem? (i := 5) rfl)
theorem kC_726 : (Cond.fieldLink RX9 332 "MasterTree$Finder" "count" "I") ∈ wsC := kCc_30 _ (List.mem_of_getElem? (i := 6) rfl)
theorem kC_727 : (Cond.fieldLink RX9 335 "MasterTree$Finder" "spots" "[I") ∈ wsC := kCc_30 _ (List.mem_of_getElem? (i := 7) rfl)
theorem kC_728 : (Cond.code yX9_live cX9_live 2 (some .int)) ∈ wsC := kCc_30 _ (List.mem_of_getElem? (i := 8) rfl)
theorem kC_729 : (Cond.methodLink RX9 338 yX8_living) ∈ wsC := kCc_30 _ (List.mem_of_getElem? (i := 9) rfl)
theorem kC_730 : (Cond.code yX9_parentOf cX9_parentOf 4 (some .int)) ∈ wsC := kCc_30 _ (List.mem_of_getElem? (i := 10) rfl)
theorem kC_731 : (Cond.code yX9_parentAnew cX9_parentAnew 4 (some .int)) ∈ wsC := kCc_30 _ (List.mem_of_getElem? (i := 11) rfl)
theorem kC_732 : (Cond.code yX9_nameOf cX9_nameOf 4 (some .int)) ∈ wsC := kCc_30 _ (List.mem_of_getElem? (i := 12) rfl)
theorem kC_733 : (Cond.code yX9_needIndex cX9_needIndex 1 none) ∈ wsC := kCc_30 _ (List.mem_of_getElem? (i := 13) rfl)
theorem kC_734 : (Cond.methodLink RX9 341 yX9_needIndex) ∈ wsC := kCc_30 _ (List.mem_of_getElem? (i := 14) rfl)
theorem kC_735 : (Cond.static yX9_needIndex) ∈ wsC := kCc_30 _ (List.mem_of_getElem? (i := 15) rfl)
theorem kC_736 : (Cond.methodLink RX9 344 yX8_valueNumbered) ∈ wsC := kCc_30 _ (List.mem_of_getElem? (i := 16) rfl)
theorem kC_737 : (Cond.instanceMethod yX8_valueNumbered) ∈ wsC := kCc_30 _ (List.mem_of_getElem? (i := 17) rfl)
theorem kC_738 : (Cond.selects RX8 yX8_valueNumbered yX8_valueNumbered) ∈ wsC := kCc_30 _ (List.mem_of_getElem? (i := 18) rfl)
theorem kC_739 : (Cond.code yX9_valueAt cX9_valueAt 6 (some .int)) ∈ wsC := kCc_30 _ (List.mem_of_getElem? (i := 19) rfl)
theorem kC_740 : (Cond.code yX9_valuesAnew cX9_valuesAnew 5 (some .int)) ∈ wsC := kCc_30 _ (List.mem_of_getElem? (i := 20) rfl)
theorem kC_741 : (Cond.code yX9_linkOf cX9_linkOf 4 (some .int)) ∈ wsC := kCc_30 _ (List.mem_of_getElem? (i := 21) rfl)
theorem kC_742 : (Cond.code yX9_may cX9_may 6 (some .boolean)) ∈ wsC := kCc_30 _ (List.mem_of_getElem? (i := 22) rfl)
theorem kC_743 : (Cond.fieldLink RX9 355 "MasterTree$Numbers" "size" "I") ∈ wsC := kCc_30 _ (List.mem_of_getElem? (i := 23) rfl)
theorem kC_744 : (Cond.methodLink RX9 351 yX8_rankedAt) ∈ wsC := kCc_31 _ (List.mem_of_getElem? (i := 0) rfl)
theorem kC_745 : (Cond.methodLink RX9 359 yX5_at) ∈ wsC := kCc_31 _ (List.mem_of_getElem? (i := 1) rfl)
theorem kC_746 : (Cond.code yX9_childAt cX9_childAt 6 (some .int)) ∈ wsC := kCc_31 _ (List.mem_of_getElem? (i := 2) rfl)
theorem kC_747 : (Cond.methodLink RX9 439 yX8_isIncomplete) ∈ wsC := kCc_31 _ (List.mem_of_getElem? (i := 3) rfl)
theorem kC_748 : (Cond.instanceMethod yX8_isIncomplete) ∈ wsC := kCc_31 _ (List.mem_of_getElem? (i := 4) rfl)
theorem kC_749 : (Cond.selects RX8 yX8_isIncomplete yX8_isIncomplete) ∈ wsC := kCc_31 _ (List.mem_of_getElem? (i := 5) rfl)
theorem kC_750 : (Cond.code yX9_isInConflict cX9_isInConflict 3 (some .boolean)) ∈ wsC := kCc_31 _ (List.mem_of_getElem? (i := 6) rfl)
theorem kC_751 : (Cond.methodLink RX9 367 yX9_isInConflict) ∈ wsC := kCc_31 _ (List.mem_of_getElem? (i := 7) rfl)
theorem kC_752 : (Cond.static yX9_isInConflict) ∈ wsC := kCc_31 _ (List.mem_of_getElem? (i := 8) rfl)
theorem kC_753 : (Cond.code yX9_conflicts cX9_conflicts 6 (some .int)) ∈ wsC := kCc_31 _ (List.mem_of_getElem? (i := 9) rfl)
theorem kC_754 : (Cond.code yX9_knows cX9_knows 4 (some .int)) ∈ wsC := kCc_31 _ (List.mem_of_getElem? (i := 10) rfl)
theorem kC_755 : (Cond.fieldLink RX9 371 "MasterTree$Master" "number" "I") ∈ wsC := kCc_31 _ (List.mem_of_getElem? (i := 11) rfl)
theorem kC_756 : (Cond.methodLink RX9 374 yX4_toldOf) ∈ wsC := kCc_31 _ (List.mem_of_getElem? (i := 12) rfl)
theorem kC_757 : (Cond.code yX9_marks cX9_marks 2 (some .int)) ∈ wsC := kCc_31 _ (List.mem_of_getElem? (i := 13) rfl)
def kCl (ci : Nat) (Cn : String) (T : u_T) (NN : Nat) : Prop := vwCl[ci]? = some (Cn, T, NN) ∧ (∀ w ∈ u_ws Cn T NN, w ∈ wsC) ∧ ∀ k, k < NN → (T k).1 = Cn
theorem kCl_0 : kCl 3 RX0 TX0 9 := ⟨rfl, fun _ h => List.mem_append_right _ (List.mem_append_left _ (List.mem_append_left _ h)), by decide +kernel⟩
theorem kCl_1 : kCl 4 RX1 TX1 3 := ⟨rfl, fun _ h => List.mem_append_right _ (List.mem_append_left _ (List.mem_append_right _ (List.mem_append_left _ h))), by decide +kernel⟩
theorem kCl_2 : kCl 5 RX2 TX2 7 := ⟨rfl, fun _ h => List.mem_append_right _ (List.mem_append_left _ (List.mem_append_right _ (List.mem_append_right _ (List.mem_append_left _ h)))), by decide +kernel⟩
theorem kCl_3 : kCl 6 RX3 TX3 8 := ⟨rfl, fun _ h => List.mem_append_right _ (List.mem_append_left _ (List.mem_append_right _ (List.mem_append_right _ (List.mem_append_right _ (List.mem_append_left _ h))))), by decide +kernel⟩
theorem kCl_4 : kCl 7 RX4 TX4 6 := ⟨rfl, fun _ h => List.mem_append_right _ (List.mem_append_left _ (List.mem_append_right _ (List.mem_append_right _ (List.mem_append_right _ (List.mem_append_right _ (List.mem_append_left _ h)))))), by decide +kernel⟩
theorem kCl_5 : kCl 8 RX5 TX5 2 := ⟨rfl, fun _ h => List.mem_append_right _ (List.mem_append_left _ (List.mem_append_right _ (List.mem_append_right _ (List.mem_append_right _ (List.mem_append_right _ (List.mem_append_right _ (List.mem_append_left _ h))))))), by decide +kernel⟩
theorem kCl_6 : kCl 9 RX6 TX6 2 := ⟨rfl, fun _ h => List.mem_append_right _ (List.mem_append_left _ (List.mem_append_right _ (List.mem_append_right _ (List.mem_append_right _ (List.mem_append_right _ (List.mem_append_right _ (List.mem_append_right _ (List.mem_append_left _ h)))))))), by decide +kernel⟩
theorem kCl_7 : kCl 10 RX7 TX7 7 := ⟨rfl, fun _ h => List.mem_append_right _ (List.mem_append_left _ (List.mem_append_right _ (List.mem_append_right _ (List.mem_append_right _ (List.mem_append_right _ (List.mem_append_right _ (List.mem_append_right _ (List.mem_append_right _ (List.mem_append_left _ h))))))))), by decide +kernel⟩
theorem kCl_8 : kCl 11 RX8 TX8 12 := ⟨rfl, fun _ h => List.mem_append_right _ (List.mem_append_left _ (List.mem_append_right _ (List.mem_append_right _ (List.mem_append_right _ (List.mem_append_right _ (List.mem_append_right _ (List.mem_append_right _ (List.mem_append_right _ (List.mem_append_right _ (List.mem_append_left _ h)))))))))), by decide +kernel⟩
theorem kCl_9 : kCl 12 RX9 TX9 8 := ⟨rfl, fun _ h => List.mem_append_right _ (List.mem_append_left _ (List.mem_append_right _ (List.mem_append_right _ (List.mem_append_right _ (List.mem_append_right _ (List.mem_append_right _ (List.mem_append_right _ (List.mem_append_right _ (List.mem_append_right _ (List.mem_append_right _ (List.mem_append_left _ h))))))))))), by decide +kernel⟩
/-- the class's numbers: ints, longs, int rows, long rows by their cells; the changes (how many, their ints, their codes), the rows of codes (how many, lengths, what they hold), the log's row (length, changes) -/
abbrev kD : Type := Nat × (Nat → Nat → Int32) × (Nat → Option Nat) × Nat × (Nat → Nat) × (Nat → Nat → Int32) × Nat × (Nat → Option Nat)
abbrev kS : Type := (Nat → Int32) × (Nat → Int64) × (Nat → Nat → Int32) × (Nat → Nat → Int64) × kD
def kI (S : kS) : Nat → Int32 := S.1
def kL (S : kS) : Nat → Int64 := S.2.1
def kA (S : kS) : Nat → Nat → Int32 := S.2.2.1
def kJ (S : kS) : Nat → Nat → Int64 := S.2.2.2.1
def kn (S : kS) : Nat := S.2.2.2.2.1
def kF (S : kS) : Nat → Nat → Int32 := S.2.2.2.2.2.1
def kC (S : kS) : Nat → Option Nat := S.2.2.2.2.2.2.1
def km (S : kS) : Nat := S.2.2.2.2.2.2.2.1
def kl (S : kS) : Nat → Nat := S.2.2.2.2.2.2.2.2.1
def kx (S : kS) : Nat → Nat → Int32 := S.2.2.2.2.2.2.2.2.2.1
def kp (S : kS) : Nat := S.2.2.2.2.2.2.2.2.2.2.1
def kE (S : kS) : Nat → Option Nat := S.2.2.2.2.2.2.2.2.2.2.2
def k2u {α : Type} (f : Nat → Nat → α) (i j : Nat) (v : α) : Nat → Nat → α := fun q r => if q = i then (if r = j then v else f i r) else f q r
def sI (S : kS) (k : Nat) (v : Int32) : kS := (upd S.1 k v, S.2)
def sL (S : kS) (k : Nat) (v : Int64) : kS := (S.1, vp_updL S.2.1 k v, S.2.2)
def sA (S : kS) (c j : Nat) (v : Int32) : kS := (S.1, S.2.1, (fun q => if q = c then upd (S.2.2.1 c) j v else S.2.2.1 q), S.2.2.2)
def sJ (S : kS) (c j : Nat) (v : Int64) : kS := (S.1, S.2.1, S.2.2.1, (fun q => if q = c then vp_updL (S.2.2.2.1 c) j v else S.2.2.2.1 q), S.2.2.2.2)
/-- a whole row of ints, of longs -/
def sAr (S : kS) (c : Nat) (f : Nat → Int32) : kS := (S.1, S.2.1, (fun q => if q = c then f else S.2.2.1 q), S.2.2.2)
def sJr (S : kS) (c : Nat) (f : Nat → Int64) : kS := (S.1, S.2.1, S.2.2.1, (fun q => if q = c then f else S.2.2.2.1 q), S.2.2.2.2)
/-- an int of a change -/
def sF (S : kS) (k f : Nat) (v : Int32) : kS := (S.1, S.2.1, S.2.2.1, S.2.2.2.1, S.2.2.2.2.1, k2u S.2.2.2.2.2.1 k f v, S.2.2.2.2.2.2)
def kTf (ca : Nat → Nat) (S : kS) (t : Nat) : List Value := [.ref (ca (26 + 15 * t + 1)), .ref (ca (26 + 15 * t + 2)), .ref (ca (26 + 15 * t + 3)), .ref (ca (26 + 15 * t + 6)), .ref (ca 1), .ref (ca (26 + 15 * t + 4)), .ref (ca (26 + 15 * t + 5)), .ref (ca (26 + 15 * t + 9 + 2 * 0)), .ref (ca (26 + 15 * t + 9 + 2 * 1)), .ref (ca (26 + 15 * t + 9 + 2 * 2)), .long (kL S (8 + 2 * t)), .long (kL S (9 + 2 * t))]
def kNf (ca : Nat → Nat) (S : kS) (t j : Nat) : List Value := [.ref (ca (26 + 15 * t + 10 + 2 * j)), .int (kI S (40 + 3 * t + j))]
def kRf (ca : Nat → Nat) (t : Nat) : List Value := [.ref (ca (26 + 15 * t + 7)), .ref (ca (26 + 15 * t + 8))]
def kMf (ca : Nat → Nat) (S : kS) (k : Nat) : List Value := [.int (kI S (16 + 4 * k)), .ref (ca (26 + 15 * k)), .int (kI S (17 + 4 * k)), .long (kL S k), .int (kI S (18 + 4 * k)), .ref (ca (19 + 2 * k))]
def kXf (ca : Nat → Nat) (S : kS) : List Value := [.ref (ca 1), .ref (ca 5), .ref (ca 7), .ref (ca 12), .ref (ca 13), .ref (ca 17), .ref (ca (26 + 15 * 4)), .int (kI S 0)]
def kHf (ca : Nat → Nat) (S : kS) : List Value := [.int (kI S 1), .int (kI S 2), .int (kI S 3), .int (kI S 4), .ref (ca 2), .ref (ca 3), .ref (ca 4)]
def kGf (ca : Nat → Nat) (S : kS) : List Value := [.ref (ca 1), .ref (ca 6), .int (kI S 5)]
def kPf (ca : Nat → Nat) (S : kS) : List Value := [.ref (ca 1), .ref (ca 8), .ref (ca 9), .ref (ca 10), .ref (ca 11), .int (kI S 6), .int (kI S 7)]
def kQf (ca : Nat → Nat) (S : kS) : List Value := [.ref (ca 12), .ref (ca 7), .ref (ca 14), .int (kI S 8), .ref (ca 15), .ref (ca 16), .int (kI S 9), .int (kI S 10)]
def kLf (S : kS) (ce : Nat) : List Value := [.int (kI S 11), .ref ce, .int (kI S 12)]
def kUf (cd : Nat → Nat) (S : kS) (k : Nat) : List Value := [.int (kF S k 0), .int (kF S k 1), .int (kF S k 2), .int (kF S k 3), .int (kF S k 4), va_rf ((kC S k).map cd), .int (kF S k 6), .int (kF S k 7), .int (kF S k 8)]
def kIr (gA : Nat → ClassId) (ca : Nat → Nat) (S : kS) (c n : Nat) : Nat × va_E := (ca c, .inl (gA 0, n, .inl (kA S c)))
def kJr (gA : Nat → ClassId) (ca : Nat → Nat) (S : kS) (c n : Nat) : Nat × va_E := (ca c, .inl (gA 1, n, .inr (.inl (kJ S c))))
def kTc (gA : Nat → ClassId) (ca : Nat → Nat) (S : kS) (t : Nat) (r : va_W) : va_W := (ca (26 + 15 * t), .inr (11, kTf ca S t)) :: kIr gA ca S (26 + 15 * t + 1) 48 :: kIr gA ca S (26 + 15 * t + 2) 48 :: kIr gA ca S (26 + 15 * t + 3) 48 :: kIr gA ca S (26 + 15 * t + 4) 48 :: kIr gA ca S (26 + 15 * t + 5) 48 :: (ca (26 + 15 * t + 6), .inr (9, kRf ca t)) :: kJr gA ca S (26 + 15 * t + 7) 288 :: kJr gA ca S (26 + 15 * t + 8) 288 :: (ca (26 + 15 * t + 9 + 2 * 0), .inr (8, kNf ca S t 0)) :: kIr gA ca S (26 + 15 * t + 10 + 2 * 0) 826 :: (ca (26 + 15 * t + 9 + 2 * 1), .inr (8, kNf ca S t 1)) :: kIr gA ca S (26 + 15 * t + 10 + 2 * 1) 826 :: (ca (26 + 15 * t + 9 + 2 * 2), .inr (8, kNf ca S t 2)) :: kIr gA ca S (26 + 15 * t + 10 + 2 * 2) 48 :: r
def kFx (gA : Nat → ClassId) (ca : Nat → Nat) (S : kS) (ce : Nat) (r : va_W) : va_W := (ca 0, .inr (12, kXf ca S)) :: (ca 1, .inr (10, kHf ca S)) :: kIr gA ca S 2 8 :: kIr gA ca S 3 8 :: kIr gA ca S 4 8 :: (ca 5, .inr (4, kGf ca S)) :: kIr gA ca S 6 12 :: (ca 7, .inr (5, kPf ca S)) :: kIr gA ca S 8 15 :: kIr gA ca S 9 15 :: kIr gA ca S 10 15 :: kJr gA ca S 11 8 :: (ca 12, .inl (gA 2, 4, .inr (.inr (.inr (.inr (fun j => some (ca (18 + 2 * j)))))))) :: (ca 13, .inr (6, kQf ca S)) :: kIr gA ca S 14 192 :: kJr gA ca S 15 4 :: kIr gA ca S 16 192 :: (ca 17, .inr (2, kLf S ce)) :: (ca (18 + 2 * 0), .inr (7, kMf ca S 0)) :: kIr gA ca S (19 + 2 * 0) 16 :: (ca (18 + 2 * 1), .inr (7, kMf ca S 1)) :: kIr gA ca S (19 + 2 * 1) 16 :: (ca (18 + 2 * 2), .inr (7, kMf ca S 2)) :: kIr gA ca S (19 + 2 * 2) 16 :: (ca (18 + 2 * 3), .inr (7, kMf ca S 3)) :: kIr gA ca S (19 + 2 * 3) 16 :: kTc gA ca S 0 (kTc gA ca S 1 (kTc gA ca S 2 (kTc gA ca S 3 (kTc gA ca S 4 r))))
def kUc (cc cd : Nat → Nat) (S : kS) : va_W := (List.range (kn S)).map (fun k => (cc k, .inr (3, kUf cd S k)))
def kVc (gA : Nat → ClassId) (cd : Nat → Nat) (S : kS) : va_W := (List.range (km S)).map (fun j => (cd j, .inl (gA 0, kl S j, .inl (kx S j))))
def kEc (gA : Nat → ClassId) (cc : Nat → Nat) (ce : Nat) (S : kS) : va_W := if kp S = 0 then [] else [(ce, .inl (gA 3, kp S, .inr (.inr (.inr (.inr (fun i => (kE S i).map cc))))))]
/-- the addresses: the fixed cells, the changes, the rows of codes, the log's row; the classes of rows -/
abbrev kG : Type := (Nat → ClassId) × (Nat → Nat) × (Nat → Nat) × (Nat → Nat) × Nat
def kW (g : kG) (S : kS) : va_W := kFx g.1 g.2.1 S g.2.2.2.2 (kUc g.2.2.1 g.2.2.2.1 S ++ (kVc g.1 g.2.2.2.1 S ++ kEc g.1 g.2.2.1 g.2.2.2.2 S))
def kTy (g : kG) : List (ClassId × FieldType) := [(g.1 0, .int), (g.1 1, .long), (g.1 2, .object "MasterTree$Master"), (g.1 3, .object "java/lang/Object")]
theorem kO_X (g : kG) (S : kS) : (kW g S)[0]? = some (g.2.1 (0), .inr (12, kXf g.2.1 S)) := rfl
theorem kO_H (g : kG) (S : kS) : (kW g S)[1]? = some (g.2.1 (1), .inr (10, kHf g.2.1 S)) := rfl
theorem kO_G (g : kG) (S : kS) : (kW g S)[5]? = some (g.2.1 (5), .inr (4, kGf g.2.1 S)) := rfl
theorem kO_P (g : kG) (S : kS) : (kW g S)[7]? = some (g.2.1 (7), .inr (5, kPf g.2.1 S)) := rfl
theorem kO_Q (g : kG) (S : kS) : (kW g S)[13]? = some (g.2.1 (13), .inr (6, kQf g.2.1 S)) := rfl
theorem kO_L (g : kG) (S : kS) : (kW g S)[17]? = some (g.2.1 (17), .inr (2, kLf S g.2.2.2.2)) := rfl
theorem kO_T (g : kG) (S : kS) : ∀ (t : Nat) (ht : t < 5), (kW g S)[26 + 15 * t]? = some (g.2.1 (26 + 15 * t), .inr (11, kTf g.2.1 S t)) := fun t ht => match t, ht with
  | 0, _ => rfl
  | 1, _ => rfl
  | 2, _ => rfl
  | 3, _ => rfl
  | 4, _ => rfl
theorem kO_R (g : kG) (S : kS) : ∀ (t : Nat) (ht : t < 5), (kW g S)[26 + 15 * t + 6]? = some (g.2.1 (26 + 15 * t + 6), .inr (9, kRf g.2.1 t)) := fun t ht => match t, ht with
  | 0, _ => rfl
  | 1, _ => rfl
  | 2, _ => rfl
  | 3, _ => rfl
  | 4, _ => rfl
theorem kO_M (g : kG) (S : kS) : ∀ (k : Nat) (hk : k < 4), (kW g S)[18 + 2 * k]? = some (g.2.1 (18 + 2 * k), .inr (7, kMf g.2.1 S k)) := fun k hk => match k, hk with
  | 0, _ => rfl
  | 1, _ => rfl
  | 2, _ => rfl
  | 3, _ => rfl
theorem kO_N (g : kG) (S : kS) : ∀ (t : Nat) (j : Nat) (ht : t < 5) (hj : j < 3), (kW g S)[26 + 15 * t + 9 + 2 * j]? = some (g.2.1 (26 + 15 * t + 9 + 2 * j), .inr (8, kNf g.2.1 S t j)) := fun t j ht hj => match t, j, ht, hj with
  | 0, 0, _, _ => rfl
  | 0, 1, _, _ => rfl
  | 0, 2, _, _ => rfl
  | 1, 0, _, _ => rfl
  | 1, 1, _, _ => rfl
  | 1, 2, _, _ => rfl
  | 2, 0, _, _ => rfl
  | 2, 1, _, _ => rfl
  | 2, 2, _, _ => rfl
  | 3, 0, _, _ => rfl
  | 3, 1, _, _ => rfl
  | 3, 2, _, _ => rfl
  | 4, 0, _, _ => rfl
  | 4, 1, _, _ => rfl
  | 4, 2, _, _ => rfl
def kArI (c n : Nat) : Prop := ∀ (g : kG) (S : kS), (kW g S)[c]? = some (g.2.1 c, .inl (g.1 0, n, .inl (kA S c))) ∧ ∀ f : Nat → Int32, (kW g S).set c (g.2.1 c, .inl (g.1 0, n, .inl f)) = kW g (sAr S c f)
def kArJ (c n : Nat) : Prop := ∀ (g : kG) (S : kS), (kW g S)[c]? = some (g.2.1 c, .inl (g.1 1, n, .inr (.inl (kJ S c)))) ∧ ∀ f : Nat → Int64, (kW g S).set c (g.2.1 c, .inl (g.1 1, n, .inr (.inl f))) = kW g (sJr S c f)
theorem kR_2 : kArI 2 8 := fun _ _ => ⟨rfl, fun _ => rfl⟩
theorem kR_3 : kArI 3 8 := fun _ _ => ⟨rfl, fun _ => rfl⟩
theorem kR_4 : kArI 4 8 := fun _ _ => ⟨rfl, fun _ => rfl⟩
theorem kR_6 : kArI 6 12 := fun _ _ => ⟨rfl, fun _ => rfl⟩
theorem kR_8 : kArI 8 15 := fun _ _ => ⟨rfl, fun _ => rfl⟩
theorem kR_9 : kArI 9 15 := fun _ _ => ⟨rfl, fun _ => rfl⟩
theorem kR_10 : kArI 10 15 := fun _ _ => ⟨rfl, fun _ => rfl⟩
theorem kR_14 : kArI 14 192 := fun _ _ => ⟨rfl, fun _ => rfl⟩
theorem kR_16 : kArI 16 192 := fun _ _ => ⟨rfl, fun _ => rfl⟩
theorem kR_11 : kArJ 11 8 := fun _ _ => ⟨rfl, fun _ => rfl⟩
theorem kR_15 : kArJ 15 4 := fun _ _ => ⟨rfl, fun _ => rfl⟩
theorem kR_told : ∀ (k : Nat) (hk : k < 4), kArI (19 + 2 * k) 16 := fun k hk => match k, hk with
  | 0, _ => fun _ _ => ⟨rfl, fun _ => rfl⟩
  | 1, _ => fun _ _ => ⟨rfl, fun _ => rfl⟩
  | 2, _ => fun _ _ => ⟨rfl, fun _ => rfl⟩
  | 3, _ => fun _ _ => ⟨rfl, fun _ => rfl⟩
theorem kR_T1 : ∀ (t : Nat) (ht : t < 5), kArI (26 + 15 * t + 1) 48 := fun t ht => match t, ht with
  | 0, _ => fun _ _ => ⟨rfl, fun _ => rfl⟩
  | 1, _ => fun _ _ => ⟨rfl, fun _ => rfl⟩
  | 2, _ => fun _ _ => ⟨rfl, fun _ => rfl⟩
  | 3, _ => fun _ _ => ⟨rfl, fun _ => rfl⟩
  | 4, _ => fun _ _ => ⟨rfl, fun _ => rfl⟩
theorem kR_T2 : ∀ (t : Nat) (ht : t < 5), kArI (26 + 15 * t + 2) 48 := fun t ht => match t, ht with
  | 0, _ => fun _ _ => ⟨rfl, fun _ => rfl⟩
  | 1, _ => fun _ _ => ⟨rfl, fun _ => rfl⟩
  | 2, _ => fun _ _ => ⟨rfl, fun _ => rfl⟩
  | 3, _ => fun _ _ => ⟨rfl, fun _ => rfl⟩
  | 4, _ => fun _ _ => ⟨rfl, fun _ => rfl⟩
theorem kR_T3 : ∀ (t : Nat) (ht : t < 5), kArI (26 + 15 * t + 3) 48 := fun t ht => match t, ht with
  | 0, _ => fun _ _ => ⟨rfl, fun _ => rfl⟩
  | 1, _ => fun _ _ => ⟨rfl, fun _ => rfl⟩
  | 2, _ => fun _ _ => ⟨rfl, fun _ => rfl⟩
  | 3, _ => fun _ _ => ⟨rfl, fun _ => rfl⟩
  | 4, _ => fun _ _ => ⟨rfl, fun _ => rfl⟩
theorem kR_T4 : ∀ (t : Nat) (ht : t < 5), kArI (26 + 15 * t + 4) 48 := fun t ht => match t, ht with
  | 0, _ => fun _ _ => ⟨rfl, fun _ => rfl⟩
  | 1, _ => fun _ _ => ⟨rfl, fun _ => rfl⟩
  | 2, _ => fun _ _ => ⟨rfl, fun _ => rfl⟩
  | 3, _ => fun _ _ => ⟨rfl, fun _ => rfl⟩
  | 4, _ => fun _ _ => ⟨rfl, fun _ => rfl⟩
theorem kR_T5 : ∀ (t : Nat) (ht : t < 5), kArI (26 + 15 * t + 5) 48 := fun t ht => match t, ht with
  | 0, _ => fun _ _ => ⟨rfl, fun _ => rfl⟩
  | 1, _ => fun _ _ => ⟨rfl, fun _ => rfl⟩
  | 2, _ => fun _ _ => ⟨rfl, fun _ => rfl⟩
  | 3, _ => fun _ _ => ⟨rfl, fun _ => rfl⟩
  | 4, _ => fun _ _ => ⟨rfl, fun _ => rfl⟩
theorem kR_T7 : ∀ (t : Nat) (ht : t < 5), kArJ (26 + 15 * t + 7) 288 := fun t ht => match t, ht with
  | 0, _ => fun _ _ => ⟨rfl, fun _ => rfl⟩
  | 1, _ => fun _ _ => ⟨rfl, fun _ => rfl⟩
  | 2, _ => fun _ _ => ⟨rfl, fun _ => rfl⟩
  | 3, _ => fun _ _ => ⟨rfl, fun _ => rfl⟩
  | 4, _ => fun _ _ => ⟨rfl, fun _ => rfl⟩
theorem kR_T8 : ∀ (t : Nat) (ht : t < 5), kArJ (26 + 15 * t + 8) 288 := fun t ht => match t, ht with
  | 0, _ => fun _ _ => ⟨rfl, fun _ => rfl⟩
  | 1, _ => fun _ _ => ⟨rfl, fun _ => rfl⟩
  | 2, _ => fun _ _ => ⟨rfl, fun _ => rfl⟩
  | 3, _ => fun _ _ => ⟨rfl, fun _ => rfl⟩
  | 4, _ => fun _ _ => ⟨rfl, fun _ => rfl⟩
def kNl (j : Nat) : Nat := if j = 2 then 48 else 826
theorem kR_N : ∀ (t : Nat) (j : Nat) (ht : t < 5) (hj : j < 3), kArI (26 + 15 * t + 10 + 2 * j) (kNl j) := fun t j ht hj => match t, j, ht, hj with
  | 0, 0, _, _ => fun _ _ => ⟨rfl, fun _ => rfl⟩
  | 0, 1, _, _ => fun _ _ => ⟨rfl, fun _ => rfl⟩
  | 0, 2, _, _ => fun _ _ => ⟨rfl, fun _ => rfl⟩
  | 1, 0, _, _ => fun _ _ => ⟨rfl, fun _ => rfl⟩
  | 1, 1, _, _ => fun _ _ => ⟨rfl, fun _ => rfl⟩
  | 1, 2, _, _ => fun _ _ => ⟨rfl, fun _ => rfl⟩
  | 2, 0, _, _ => fun _ _ => ⟨rfl, fun _ => rfl⟩
  | 2, 1, _, _ => fun _ _ => ⟨rfl, fun _ => rfl⟩
  | 2, 2, _, _ => fun _ _ => ⟨rfl, fun _ => rfl⟩
  | 3, 0, _, _ => fun _ _ => ⟨rfl, fun _ => rfl⟩
  | 3, 1, _, _ => fun _ _ => ⟨rfl, fun _ => rfl⟩
  | 3, 2, _, _ => fun _ _ => ⟨rfl, fun _ => rfl⟩
  | 4, 0, _, _ => fun _ _ => ⟨rfl, fun _ => rfl⟩
  | 4, 1, _, _ => fun _ _ => ⟨rfl, fun _ => rfl⟩
  | 4, 2, _, _ => fun _ _ => ⟨rfl, fun _ => rfl⟩
theorem kP_X7 : ∀ (g : kG) (S : kS) (v : Int32), (kW g S).set (0) (g.2.1 (0), .inr (12, (kXf g.2.1 S).set 7 (.int v))) = kW g (sI S 0 v) := fun _ _ _ => rfl
theorem kP_H0 : ∀ (g : kG) (S : kS) (v : Int32), (kW g S).set (1) (g.2.1 (1), .inr (10, (kHf g.2.1 S).set 0 (.int v))) = kW g (sI S 1 v) := fun _ _ _ => rfl
theorem kP_H1 : ∀ (g : kG) (S : kS) (v : Int32), (kW g S).set (1) (g.2.1 (1), .inr (10, (kHf g.2.1 S).set 1 (.int v))) = kW g (sI S 2 v) := fun _ _ _ => rfl
theorem kP_H2 : ∀ (g : kG) (S : kS) (v : Int32), (kW g S).set (1) (g.2.1 (1), .inr (10, (kHf g.2.1 S).set 2 (.int v))) = kW g (sI S 3 v) := fun _ _ _ => rfl
theorem kP_H3 : ∀ (g : kG) (S : kS) (v : Int32), (kW g S).set (1) (g.2.1 (1), .inr (10, (kHf g.2.1 S).set 3 (.int v))) = kW g (sI S 4 v) := fun _ _ _ => rfl
theorem kP_G2 : ∀ (g : kG) (S : kS) (v : Int32), (kW g S).set (5) (g.2.1 (5), .inr (4, (kGf g.2.1 S).set 2 (.int v))) = kW g (sI S 5 v) := fun _ _ _ => rfl
theorem kP_P5 : ∀ (g : kG) (S : kS) (v : Int32), (kW g S).set (7) (g.2.1 (7), .inr (5, (kPf g.2.1 S).set 5 (.int v))) = kW g (sI S 6 v) := fun _ _ _ => rfl
theorem kP_P6 : ∀ (g : kG) (S : kS) (v : Int32), (kW g S).set (7) (g.2.1 (7), .inr (5, (kPf g.2.1 S).set 6 (.int v))) = kW g (sI S 7 v) := fun _ _ _ => rfl
theorem kP_Q3 : ∀ (g : kG) (S : kS) (v : Int32), (kW g S).set (13) (g.2.1 (13), .inr (6, (kQf g.2.1 S).set 3 (.int v))) = kW g (sI S 8 v) := fun _ _ _ => rfl
theorem kP_Q6 : ∀ (g : kG) (S : kS) (v : Int32), (kW g S).set (13) (g.2.1 (13), .inr (6, (kQf g.2.1 S).set 6 (.int v))) = kW g (sI S 9 v) := fun _ _ _ => rfl
theorem kP_Q7 : ∀ (g : kG) (S : kS) (v : Int32), (kW g S).set (13) (g.2.1 (13), .inr (6, (kQf g.2.1 S).set 7 (.int v))) = kW g (sI S 10 v) := fun _ _ _ => rfl
theorem kP_M2 : ∀ (k : Nat) (hk : k < 4), ∀ (g : kG) (S : kS) (v : Int32), (kW g S).set (18 + 2 * k) (g.2.1 (18 + 2 * k), .inr (7, (kMf g.2.1 S k).set 2 (.int v))) = kW g (sI S (17 + 4 * k) v) := fun k hk => match k, hk with
  | 0, _ => fun _ _ _ => rfl
  | 1, _ => fun _ _ _ => rfl
  | 2, _ => fun _ _ _ => rfl
  | 3, _ => fun _ _ _ => rfl
theorem kP_M4 : ∀ (k : Nat) (hk : k < 4), ∀ (g : kG) (S : kS) (v : Int32), (kW g S).set (18 + 2 * k) (g.2.1 (18 + 2 * k), .inr (7, (kMf g.2.1 S k).set 4 (.int v))) = kW g (sI S (18 + 4 * k) v) := fun k hk => match k, hk with
  | 0, _ => fun _ _ _ => rfl
  | 1, _ => fun _ _ _ => rfl
  | 2, _ => fun _ _ _ => rfl
  | 3, _ => fun _ _ _ => rfl
theorem kP_M3 : ∀ (k : Nat) (hk : k < 4), ∀ (g : kG) (S : kS) (v : Int64), (kW g S).set (18 + 2 * k) (g.2.1 (18 + 2 * k), .inr (7, (kMf g.2.1 S k).set 3 (.long v))) = kW g (sL S k v) := fun k hk => match k, hk with
  | 0, _ => fun _ _ _ => rfl
  | 1, _ => fun _ _ _ => rfl
  | 2, _ => fun _ _ _ => rfl
  | 3, _ => fun _ _ _ => rfl
theorem kP_T10 : ∀ (t : Nat) (ht : t < 5), ∀ (g : kG) (S : kS) (v : Int64), (kW g S).set (26 + 15 * t) (g.2.1 (26 + 15 * t), .inr (11, (kTf g.2.1 S t).set 10 (.long v))) = kW g (sL S (8 + 2 * t) v) := fun t ht => match t, ht with
  | 0, _ => fun _ _ _ => rfl
  | 1, _ => fun _ _ _ => rfl
  | 2, _ => fun _ _ _ => rfl
  | 3, _ => fun _ _ _ => rfl
  | 4, _ => fun _ _ _ => rfl
theorem kP_T11 : ∀ (t : Nat) (ht : t < 5), ∀ (g : kG) (S : kS) (v : Int64), (kW g S).set (26 + 15 * t) (g.2.1 (26 + 15 * t), .inr (11, (kTf g.2.1 S t).set 11 (.long v))) = kW g (sL S (9 + 2 * t) v) := fun t ht => match t, ht with
  | 0, _ => fun _ _ _ => rfl
  | 1, _ => fun _ _ _ => rfl
  | 2, _ => fun _ _ _ => rfl
  | 3, _ => fun _ _ _ => rfl
  | 4, _ => fun _ _ _ => rfl
theorem kP_N1 : ∀ (t : Nat) (j : Nat) (ht : t < 5) (hj : j < 3), ∀ (g : kG) (S : kS) (v : Int32), (kW g S).set (26 + 15 * t + 9 + 2 * j) (g.2.1 (26 + 15 * t + 9 + 2 * j), .inr (8, (kNf g.2.1 S t j).set 1 (.int v))) = kW g (sI S (40 + 3 * t + j) v) := fun t j ht hj => match t, j, ht, hj with
  | 0, 0, _, _ => fun _ _ _ => rfl
  | 0, 1, _, _ => fun _ _ _ => rfl
  | 0, 2, _, _ => fun _ _ _ => rfl
  | 1, 0, _, _ => fun _ _ _ => rfl
  | 1, 1, _, _ => fun _ _ _ => rfl
  | 1, 2, _, _ => fun _ _ _ => rfl
  | 2, 0, _, _ => fun _ _ _ => rfl
  | 2, 1, _, _ => fun _ _ _ => rfl
  | 2, 2, _, _ => fun _ _ _ => rfl
  | 3, 0, _, _ => fun _ _ _ => rfl
  | 3, 1, _, _ => fun _ _ _ => rfl
  | 3, 2, _, _ => fun _ _ _ => rfl
  | 4, 0, _, _ => fun _ _ _ => rfl
  | 4, 1, _, _ => fun _ _ _ => rfl
  | 4, 2, _, _ => fun _ _ _ => rfl
