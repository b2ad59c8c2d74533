/-! contracts in one shape, calls in one row -/
section LIB
abbrev oX0 (q_a : Nat) (q_b : Nat) (q_size : Int32) (q_touches : Int32) (q_one : Int32) : va_E := .inr (0, [.ref q_a, .ref q_b, .int q_size, .int q_touches, .int q_one])
abbrev oX1 (q_steps : Nat) (q_known : Int32) : va_E := .inr (1, [.ref q_steps, .int q_known])
abbrev oX2 (q_history : Nat) (q_packed : Int64) (q_kept : Int32) : va_E := .inr (2, [.ref q_history, .long q_packed, .int q_kept])
abbrev oX3 (q_forgotten : Int32) (q_touches : Int32) (q_trapped : Int32) (q_one : Int32) (q_date : Int32) : va_E := .inr (3, [.int q_forgotten, .int q_touches, .int q_trapped, .int q_one, .int q_date])
abbrev oX4 (q_days : Nat) (q_books : Nat) (q_there : Nat) (q_size : Int32) : va_E := .inr (4, [.ref q_days, .ref q_books, .ref q_there, .int q_size])
abbrev oX5 (q_bytes : Nat) (q_length : Int32) (q_place : Int32) (q_token : Int32) (q_begin : Int32) (q_value : Int32) : va_E := .inr (5, [.ref q_bytes, .int q_length, .int q_place, .int q_token, .int q_begin, .int q_value])
abbrev oX6 (q_ranked : Nat) (q_tens : Nat) (q_size : Int32) (q_trapped : Int32) : va_E := .inr (6, [.ref q_ranked, .ref q_tens, .int q_size, .int q_trapped])
abbrev oX7 (q_text : Nat) (q_draft : Nat) (q_told : Nat) (q_now : Nat) (q_history : Nat) (q_firstImage : Nat) (q_secondImage : Nat) (q_seen : Nat) (q_ways : Nat) (q_traced : Int64) : va_E := .inr (7, [.ref q_text, .ref q_draft, .ref q_told, .ref q_now, .ref q_history, .ref q_firstImage, .ref q_secondImage, .ref q_seen, .ref q_ways, .long q_traced])
abbrev oX8 (q_trace : Int64) (q_text : Nat) (q_typed : Int32) (q_books : Nat) (q_numberA : Nat) (q_numberB : Nat) (q_draftTouches : Nat) (q_draftOne : Int32) (q_oneTold : Int32) (q_at : Int32) (q_start : Int32) (q_sort : Int32) (q_value : Int32) (q_fault : Int32) (q_now : Nat) (q_isKept : Nat) (q_near : Nat) (q_seenDays : Nat) (q_seenBook : Nat) (q_seenIs : Nat) (q_seen : Int32) (q_sets : Int32) (q_inEach : Int32) (q_inSome : Int32) : va_E := .inr (8, [.long q_trace, .ref q_text, .int q_typed, .ref q_books, .ref q_numberA, .ref q_numberB, .ref q_draftTouches, .int q_draftOne, .int q_oneTold, .int q_at, .int q_start, .int q_sort, .int q_value, .int q_fault, .ref q_now, .ref q_isKept, .ref q_near, .ref q_seenDays, .ref q_seenBook, .ref q_seenIs, .int q_seen, .int q_sets, .int q_inEach, .int q_inSome])
def lc_10 : Int64 := 10
def lc_11 : Int64 := 11
def lc_100 : Int64 := 100
def lc_101 : Int64 := 101
def lc_1000 : Int64 := 1000
def lc_1011 : Int64 := 1011
def lc_10000 : Int64 := 10000
def lc_10101 : Int64 := 10101
def lc_100000 : Int64 := 100000
def lc_100001 : Int64 := 100001
/-- all words that the walks use -/
def VT_0 : List Cond := [Cond.fieldLink RX0 22 "CarriedOne$Books" "size" "I",
  Cond.fieldLink RX0 25 "CarriedOne$Books" "touches" "I",
  Cond.fieldLink RX0 18 "CarriedOne$Books" "one" "I",
  Cond.fieldLink RX0 9 "CarriedOne$Books" "a" "[I",
  Cond.fieldLink RX0 15 "CarriedOne$Books" "b" "[I",
  Cond.fieldLink RX1 15 "CarriedOne$History" "known" "I",
  Cond.fieldLink RX1 9 "CarriedOne$History" "steps" "[J",
  Cond.methodLink RX1 19 arraycopyName,
  Cond.native arraycopyName,
  Cond.static arraycopyName,
  Cond.initialized "java/lang/System",
  Cond.fieldLink RX3 28 "CarriedOne$Now" "date" "I",
  Cond.fieldLink RX3 9 "CarriedOne$Now" "one" "I",
  Cond.fieldLink RX3 24 "CarriedOne$Now" "trapped" "I",
  Cond.fieldLink RX3 23 "CarriedOne$Now" "touches" "I",
  Cond.fieldLink RX3 15 "CarriedOne$Now" "forgotten" "I",
  Cond.initialized RX3,
  Cond.code yX3_packed cX3_packed 3 (some .long),
  Cond.instanceMethod yX3_packed,
  Cond.selects RX3 yX3_packed yX3_packed,
  Cond.fieldLink RX2 22 "CarriedOne$Image" "packed" "J",
  Cond.fieldLink RX2 10 "CarriedOne$Image" "history" "LCarriedOne$History;",
  Cond.initialized RX1,
  Cond.code yX1_copyFrom cX1_copyFrom 2 none,
  Cond.instanceMethod yX1_copyFrom,
  Cond.selects RX1 yX1_copyFrom yX1_copyFrom,
  Cond.fieldLink RX2 29 "CarriedOne$Image" "kept" "Z",
  Cond.code yX3_lowest cX3_lowest 3 (some .int),
  Cond.methodLink RX3 31 yX3_lowest,
  Cond.static yX3_lowest,
  Cond.code yX3_unpack cX3_unpack 5 none,
  Cond.instanceMethod yX3_unpack]
def VT_1 : List Cond := [Cond.selects RX3 yX3_unpack yX3_unpack,
  Cond.fieldLink RX4 22 "CarriedOne$Seen" "size" "I",
  Cond.fieldLink RX4 9 "CarriedOne$Seen" "days" "[I",
  Cond.fieldLink RX4 15 "CarriedOne$Seen" "books" "[I",
  Cond.fieldLink RX4 18 "CarriedOne$Seen" "there" "[Z",
  Cond.fieldLink RX5 15 "CarriedOne$Text" "length" "I",
  Cond.fieldLink RX5 9 "CarriedOne$Text" "bytes" "[I",
  Cond.fieldLink RX5 19 "CarriedOne$Text" "place" "I",
  Cond.fieldLink RX5 71 "CarriedOne$Text" "begin" "I",
  Cond.initialized RX7,
  Cond.code yX7_within cX7_within 3 (some .boolean),
  Cond.static yX7_within,
  Cond.fieldLink RX5 25 "CarriedOne$Text" "token" "I",
  Cond.initialized RX5,
  Cond.code yX5_stepOverAll cX5_stepOverAll 3 none,
  Cond.methodLink RX5 78 yX5_stepOverAll,
  Cond.instanceMethod yX5_stepOverAll,
  Cond.selects RX5 yX5_stepOverAll yX5_stepOverAll,
  Cond.code yX5_isNumber cX5_isNumber 3 (some .boolean),
  Cond.methodLink RX5 81 yX5_isNumber,
  Cond.instanceMethod yX5_isNumber,
  Cond.selects RX5 yX5_isNumber yX5_isNumber,
  Cond.fieldLink RX5 32 "CarriedOne$Text" "value" "I",
  Cond.code yX5_valueOfFigures cX5_valueOfFigures 3 (some .int),
  Cond.methodLink RX5 84 yX5_valueOfFigures,
  Cond.instanceMethod yX5_valueOfFigures,
  Cond.selects RX5 yX5_valueOfFigures yX5_valueOfFigures,
  Cond.code yX5_step cX5_step 2 none,
  Cond.methodLink RX5 22 yX5_step,
  Cond.instanceMethod yX5_step,
  Cond.selects RX5 yX5_step yX5_step,
  Cond.code yX5_readNumber cX5_readNumber 2 (some .boolean)]
def VT_2 : List Cond := [Cond.methodLink RX5 49 yX5_readNumber,
  Cond.instanceMethod yX5_readNumber,
  Cond.selects RX5 yX5_readNumber yX5_readNumber,
  Cond.initialized RX0,
  Cond.code yX0_append cX0_append 3 none,
  Cond.instanceMethod yX0_append,
  Cond.selects RX0 yX0_append yX0_append,
  Cond.code yX5_readSemicolon cX5_readSemicolon 1 (some .boolean),
  Cond.methodLink RX5 57 yX5_readSemicolon,
  Cond.instanceMethod yX5_readSemicolon,
  Cond.selects RX5 yX5_readSemicolon yX5_readSemicolon,
  Cond.code yX7_touchBit cX7_touchBit 4 (some .int),
  Cond.static yX7_touchBit,
  Cond.code yX5_readBook cX5_readBook 3 (some .boolean),
  Cond.methodLink RX5 35 yX5_readBook,
  Cond.instanceMethod yX5_readBook,
  Cond.selects RX5 yX5_readBook yX5_readBook,
  Cond.code yX5_readOne cX5_readOne 2 (some .boolean),
  Cond.methodLink RX5 41 yX5_readOne,
  Cond.instanceMethod yX5_readOne,
  Cond.selects RX5 yX5_readOne yX5_readOne,
  Cond.code yX5_readTouch cX5_readTouch 3 (some .boolean),
  Cond.methodLink RX5 38 yX5_readTouch,
  Cond.instanceMethod yX5_readTouch,
  Cond.selects RX5 yX5_readTouch yX5_readTouch,
  Cond.code yX5_readItem cX5_readItem 2 (some .boolean),
  Cond.methodLink RX5 28 yX5_readItem,
  Cond.instanceMethod yX5_readItem,
  Cond.selects RX5 yX5_readItem yX5_readItem,
  Cond.fieldLink RX6 18 "CarriedOne$Ways" "size" "I",
  Cond.fieldLink RX6 15 "CarriedOne$Ways" "tens" "[I",
  Cond.fieldLink RX6 9 "CarriedOne$Ways" "ranked" "[I"]
def VT_3 : List Cond := [Cond.fieldLink RX6 22 "CarriedOne$Ways" "trapped" "I",
  Cond.initialized RX6,
  Cond.code yX6_goesTo cX6_goesTo 5 (some .int),
  Cond.methodLink RX6 29 yX6_goesTo,
  Cond.instanceMethod yX6_goesTo,
  Cond.selects RX6 yX6_goesTo yX6_goesTo,
  Cond.code yX6_walk cX6_walk 6 (some .int),
  Cond.methodLink RX6 32 yX6_walk,
  Cond.instanceMethod yX6_walk,
  Cond.selects RX6 yX6_walk yX6_walk,
  Cond.methodLink RX7 64 yX7_within,
  Cond.fieldLink RX7 10 "CarriedOne" "text" "LCarriedOne$Text;",
  Cond.code yX5_append cX5_append 2 (some .boolean),
  Cond.instanceMethod yX5_append,
  Cond.selects RX5 yX5_append yX5_append,
  Cond.fieldLink RX7 19 "CarriedOne" "draft" "LCarriedOne$Books;",
  Cond.code yX0_empty cX0_empty 1 none,
  Cond.instanceMethod yX0_empty,
  Cond.selects RX0 yX0_empty yX0_empty,
  Cond.code yX5_readItems cX5_readItems 3 (some .int),
  Cond.instanceMethod yX5_readItems,
  Cond.selects RX5 yX5_readItems yX5_readItems,
  Cond.fieldLink RX7 23 "CarriedOne" "told" "LCarriedOne$Books;",
  Cond.code yX0_copyFrom cX0_copyFrom 3 none,
  Cond.instanceMethod yX0_copyFrom,
  Cond.selects RX0 yX0_copyFrom yX0_copyFrom,
  Cond.fieldLink RX7 29 "CarriedOne" "now" "LCarriedOne$Now;",
  Cond.code yX3_begin cX3_begin 2 none,
  Cond.instanceMethod yX3_begin,
  Cond.selects RX3 yX3_begin yX3_begin,
  Cond.fieldLink RX7 36 "CarriedOne" "history" "LCarriedOne$History;",
  Cond.fieldLink RX7 43 "CarriedOne" "firstImage" "LCarriedOne$Image;"]
def VT_4 : List Cond := [Cond.fieldLink RX7 47 "CarriedOne" "secondImage" "LCarriedOne$Image;",
  Cond.fieldLink RX7 53 "CarriedOne" "seen" "LCarriedOne$Seen;",
  Cond.code yX3_forgottenIn cX3_forgottenIn 2 (some .int),
  Cond.instanceMethod yX3_forgottenIn,
  Cond.selects RX3 yX3_forgottenIn yX3_forgottenIn,
  Cond.code yX0_sum cX0_sum 2 (some .int),
  Cond.instanceMethod yX0_sum,
  Cond.selects RX0 yX0_sum yX0_sum,
  Cond.code yX7_written cX7_written 3 (some .int),
  Cond.methodLink RX7 112 yX7_written,
  Cond.instanceMethod yX7_written,
  Cond.selects RX7 yX7_written yX7_written,
  Cond.methodLink RX7 145 yX7_touchBit,
  Cond.code yX7_isBook cX7_isBook 2 (some .boolean),
  Cond.methodLink RX7 102 yX7_isBook,
  Cond.instanceMethod yX7_isBook,
  Cond.selects RX7 yX7_isBook yX7_isBook,
  Cond.code yX7_shown cX7_shown 2 (some .int),
  Cond.methodLink RX7 116 yX7_shown,
  Cond.instanceMethod yX7_shown,
  Cond.selects RX7 yX7_shown yX7_shown,
  Cond.code yX0_carries cX0_carries 4 (some .int),
  Cond.instanceMethod yX0_carries,
  Cond.selects RX0 yX0_carries yX0_carries,
  Cond.code yX7_neighbours cX7_neighbours 4 (some .int),
  Cond.methodLink RX7 125 yX7_neighbours,
  Cond.instanceMethod yX7_neighbours,
  Cond.selects RX7 yX7_neighbours yX7_neighbours,
  Cond.code yX3_isTrap cX3_isTrap 2 (some .boolean),
  Cond.instanceMethod yX3_isTrap,
  Cond.selects RX3 yX3_isTrap yX3_isTrap,
  Cond.code yX1_append cX1_append 3 none]
def VT_5 : List Cond := [Cond.instanceMethod yX1_append,
  Cond.selects RX1 yX1_append yX1_append,
  Cond.code yX7_remember cX7_remember 1 none,
  Cond.methodLink RX7 131 yX7_remember,
  Cond.instanceMethod yX7_remember,
  Cond.selects RX7 yX7_remember yX7_remember,
  Cond.constant RJ6 265 (1431655765),
  Cond.constant RJ6 266 (858993459),
  Cond.constant RJ6 267 (252645135),
  Cond.initialized RJ6,
  Cond.code yJ6_bitCount_0f7a4 cJ6_bitCount_0f7a4 1 (some .int),
  Cond.methodLink RX7 137 yJ6_bitCount_0f7a4,
  Cond.static yJ6_bitCount_0f7a4,
  Cond.fieldLink RX7 60 "CarriedOne" "ways" "LCarriedOne$Ways;",
  Cond.code yX7_tensOf cX7_tensOf 1 (some .int),
  Cond.methodLink RX7 293 yX7_tensOf,
  Cond.static yX7_tensOf,
  Cond.code yX6_rank cX6_rank 4 none,
  Cond.instanceMethod yX6_rank,
  Cond.selects RX6 yX6_rank yX6_rank,
  Cond.code yX7_isSomewhere cX7_isSomewhere 1 (some .boolean),
  Cond.methodLink RX7 158 yX7_isSomewhere,
  Cond.instanceMethod yX7_isSomewhere,
  Cond.selects RX7 yX7_isSomewhere yX7_isSomewhere,
  Cond.code yX7_waysNow cX7_waysNow 2 (some (.object "CarriedOne$Ways")),
  Cond.methodLink RX7 162 yX7_waysNow,
  Cond.instanceMethod yX7_waysNow,
  Cond.selects RX7 yX7_waysNow yX7_waysNow,
  Cond.code yX1_takeLatest cX1_takeLatest 1 (some .long),
  Cond.instanceMethod yX1_takeLatest,
  Cond.selects RX1 yX1_takeLatest yX1_takeLatest,
  Cond.code yX7_divides cX7_divides 2 (some .boolean)]
def VT_6 : List Cond := [Cond.methodLink RX7 282 yX7_divides,
  Cond.static yX7_divides,
  Cond.code yX7_shownTogether cX7_shownTogether 3 (some .int),
  Cond.methodLink RX7 177 yX7_shownTogether,
  Cond.instanceMethod yX7_shownTogether,
  Cond.selects RX7 yX7_shownTogether yX7_shownTogether,
  Cond.code yX7_summedTogether cX7_summedTogether 3 (some .int),
  Cond.methodLink RX7 181 yX7_summedTogether,
  Cond.instanceMethod yX7_summedTogether,
  Cond.selects RX7 yX7_summedTogether yX7_summedTogether,
  Cond.code yX7_notDividedBy cX7_notDividedBy 4 (some .int),
  Cond.methodLink RX7 184 yX7_notDividedBy,
  Cond.instanceMethod yX7_notDividedBy,
  Cond.selects RX7 yX7_notDividedBy yX7_notDividedBy,
  Cond.code yX6_lengthOfRound cX6_lengthOfRound 6 (some .int),
  Cond.instanceMethod yX6_lengthOfRound,
  Cond.selects RX6 yX6_lengthOfRound yX6_lengthOfRound,
  Cond.code yX6_daysToRound cX6_daysToRound 7 (some .int),
  Cond.instanceMethod yX6_daysToRound,
  Cond.selects RX6 yX6_daysToRound yX6_daysToRound,
  Cond.code yX7_lures cX7_lures 4 (some .boolean),
  Cond.methodLink RX7 300 yX7_lures,
  Cond.instanceMethod yX7_lures,
  Cond.selects RX7 yX7_lures yX7_lures,
  Cond.code yX7_firstSingleLure cX7_firstSingleLure 4 (some .int),
  Cond.methodLink RX7 303 yX7_firstSingleLure,
  Cond.instanceMethod yX7_firstSingleLure,
  Cond.selects RX7 yX7_firstSingleLure yX7_firstSingleLure,
  Cond.code yX7_firstDoubleLure cX7_firstDoubleLure 6 (some .int),
  Cond.methodLink RX7 306 yX7_firstDoubleLure,
  Cond.instanceMethod yX7_firstDoubleLure,
  Cond.selects RX7 yX7_firstDoubleLure yX7_firstDoubleLure]
def VT_7 : List Cond := [Cond.code yX7_fewestMoreTouches cX7_fewestMoreTouches 4 (some .int),
  Cond.methodLink RX7 198 yX7_fewestMoreTouches,
  Cond.instanceMethod yX7_fewestMoreTouches,
  Cond.selects RX7 yX7_fewestMoreTouches yX7_fewestMoreTouches,
  Cond.code yJ6_lowestOneBit_0f7a4 cJ6_lowestOneBit_0f7a4 1 (some .int),
  Cond.methodLink RX7 201 yJ6_lowestOneBit_0f7a4,
  Cond.static yJ6_lowestOneBit_0f7a4,
  Cond.code yX7_twoOf cX7_twoOf 3 (some .int),
  Cond.methodLink RX7 204 yX7_twoOf,
  Cond.static yX7_twoOf,
  Cond.constant RJ6 264 (65536),
  Cond.code yJ6_numberOfTrailingZeros_0f7a4 cJ6_numberOfTrailingZeros_0f7a4 2 (some .int),
  Cond.methodLink RX7 351 yJ6_numberOfTrailingZeros_0f7a4,
  Cond.static yJ6_numberOfTrailingZeros_0f7a4,
  Cond.constant RX7 315 (32768),
  Cond.code yX6_comesTo cX6_comesTo 6 (some .boolean),
  Cond.instanceMethod yX6_comesTo,
  Cond.selects RX6 yX6_comesTo yX6_comesTo,
  Cond.code yX7_nextOfSameSize cX7_nextOfSameSize 3 (some .int),
  Cond.methodLink RX7 316 yX7_nextOfSameSize,
  Cond.static yX7_nextOfSameSize,
  Cond.code yX7_leastCut cX7_leastCut 6 (some .int),
  Cond.methodLink RX7 312 yX7_leastCut,
  Cond.instanceMethod yX7_leastCut,
  Cond.selects RX7 yX7_leastCut yX7_leastCut,
  Cond.code yX7_fewestTouchesToCut cX7_fewestTouchesToCut 4 (some .int),
  Cond.methodLink RX7 207 yX7_fewestTouchesToCut,
  Cond.instanceMethod yX7_fewestTouchesToCut,
  Cond.selects RX7 yX7_fewestTouchesToCut yX7_fewestTouchesToCut,
  Cond.code yX7_choose cX7_choose 4 (some .int),
  Cond.methodLink RX7 319 yX7_choose,
  Cond.static yX7_choose]
def VT_8 : List Cond := [Cond.code yX7_power cX7_power 4 (some .int),
  Cond.methodLink RX7 213 yX7_power,
  Cond.static yX7_power,
  Cond.code yX7_chancesOf cX7_chancesOf 6 (some .int),
  Cond.methodLink RX7 210 yX7_chancesOf,
  Cond.instanceMethod yX7_chancesOf,
  Cond.selects RX7 yX7_chancesOf yX7_chancesOf,
  Cond.code yX7_greatestDivisor cX7_greatestDivisor 6 (some .int),
  Cond.methodLink RX7 216 yX7_greatestDivisor,
  Cond.static yX7_greatestDivisor,
  Cond.methodLink RX7 219 Lib.Math.max.name,
  Cond.static Lib.Math.max.name,
  Cond.initialized "java/lang/Math",
  Cond.code Lib.Math.max.name Lib.Math.max.code 2 (some .int),
  Cond.initialized RX4,
  Cond.code yX4_append cX4_append 4 (some .boolean),
  Cond.instanceMethod yX4_append,
  Cond.selects RX4 yX4_append yX4_append,
  Cond.code yX7_fitsFrom cX7_fitsFrom 4 (some .boolean),
  Cond.methodLink RX7 227 yX7_fitsFrom,
  Cond.instanceMethod yX7_fitsFrom,
  Cond.selects RX7 yX7_fitsFrom yX7_fitsFrom,
  Cond.code yX7_number cX7_number 3 (some .int),
  Cond.methodLink RX7 332 yX7_number,
  Cond.static yX7_number,
  Cond.code yX7_hiddenMisreading cX7_hiddenMisreading 3 (some .int),
  Cond.methodLink RX7 335 yX7_hiddenMisreading,
  Cond.static yX7_hiddenMisreading,
  Cond.code yX7_hiddenMisreadings cX7_hiddenMisreadings 5 (some .int),
  Cond.methodLink RX7 230 yX7_hiddenMisreadings,
  Cond.static yX7_hiddenMisreadings,
  Cond.code yX7_waysToLack cX7_waysToLack 3 (some .int)]
def VT_9 : List Cond := [Cond.methodLink RX7 338 yX7_waysToLack,
  Cond.static yX7_waysToLack,
  Cond.code yX7_setsWithout cX7_setsWithout 6 (some .int),
  Cond.methodLink RX7 233 yX7_setsWithout,
  Cond.instanceMethod yX7_setsWithout,
  Cond.selects RX7 yX7_setsWithout yX7_setsWithout,
  Cond.code yX7_booksInEachSet cX7_booksInEachSet 3 (some .int),
  Cond.methodLink RX7 236 yX7_booksInEachSet,
  Cond.instanceMethod yX7_booksInEachSet,
  Cond.selects RX7 yX7_booksInEachSet yX7_booksInEachSet,
  Cond.code yX7_booksInSomeSet cX7_booksInSomeSet 4 (some .int),
  Cond.methodLink RX7 239 yX7_booksInSomeSet,
  Cond.instanceMethod yX7_booksInSomeSet,
  Cond.selects RX7 yX7_booksInSomeSet yX7_booksInSomeSet,
  Cond.code yJ6_numberOfLeadingZeros_0f7a4 cJ6_numberOfLeadingZeros_0f7a4 2 (some .int),
  Cond.methodLink RX7 242 yJ6_numberOfLeadingZeros_0f7a4,
  Cond.static yJ6_numberOfLeadingZeros_0f7a4,
  Cond.fieldLink RX7 275 "CarriedOne" "traced" "J",
  Cond.constantLong RX7 341 (10),
  Cond.code yX7_markOfBook cX7_markOfBook 2 (some .int),
  Cond.methodLink RX7 246 yX7_markOfBook,
  Cond.instanceMethod yX7_markOfBook,
  Cond.selects RX7 yX7_markOfBook yX7_markOfBook,
  Cond.constantLong RX7 343 (100),
  Cond.constantLong RX7 345 (1000),
  Cond.code yX7_markOfRates cX7_markOfRates 2 (some .int),
  Cond.methodLink RX7 249 yX7_markOfRates,
  Cond.instanceMethod yX7_markOfRates,
  Cond.selects RX7 yX7_markOfRates yX7_markOfRates,
  Cond.constantLong RX7 347 (10000),
  Cond.code yX7_markOfTrain cX7_markOfTrain 2 (some .int),
  Cond.methodLink RX7 252 yX7_markOfTrain]
def VT_10 : List Cond := [Cond.instanceMethod yX7_markOfTrain,
  Cond.selects RX7 yX7_markOfTrain yX7_markOfTrain,
  Cond.constantLong RX7 349 (100000),
  Cond.code yX7_markOfLedger cX7_markOfLedger 2 (some .int),
  Cond.methodLink RX7 255 yX7_markOfLedger,
  Cond.instanceMethod yX7_markOfLedger,
  Cond.selects RX7 yX7_markOfLedger yX7_markOfLedger,
  Cond.code yX7_markOfShop cX7_markOfShop 2 (some .int),
  Cond.methodLink RX7 258 yX7_markOfShop,
  Cond.instanceMethod yX7_markOfShop,
  Cond.selects RX7 yX7_markOfShop yX7_markOfShop,
  Cond.code yX7_markOfChoir cX7_markOfChoir 2 (some .int),
  Cond.methodLink RX7 261 yX7_markOfChoir,
  Cond.instanceMethod yX7_markOfChoir,
  Cond.selects RX7 yX7_markOfChoir yX7_markOfChoir,
  Cond.constant RX7 245 (-1000000),
  Cond.initialized RX8,
  Cond.code yX8_in cX8_in 3 (some .boolean),
  Cond.methodLink RX8 51 yX8_in,
  Cond.static yX8_in,
  Cond.fieldLink RX8 55 "CarriedOneModel" "typed" "I",
  Cond.fieldLink RX8 7 "CarriedOneModel" "text" "[B",
  Cond.fieldLink RX8 59 "CarriedOneModel" "at" "I",
  Cond.code yX8_here cX8_here 1 (some .int),
  Cond.methodLink RX8 62 yX8_here,
  Cond.instanceMethod yX8_here,
  Cond.selects RX8 yX8_here yX8_here,
  Cond.fieldLink RX8 66 "CarriedOneModel" "start" "I",
  Cond.fieldLink RX8 69 "CarriedOneModel" "value" "I",
  Cond.fieldLink RX8 72 "CarriedOneModel" "sort" "I",
  Cond.fieldLink RX8 75 "CarriedOneModel" "fault" "I",
  Cond.code yX8_step cX8_step 2 none]
def VT_11 : List Cond := [Cond.methodLink RX8 78 yX8_step,
  Cond.instanceMethod yX8_step,
  Cond.selects RX8 yX8_step yX8_step,
  Cond.code yX8_due cX8_due 3 (some .int),
  Cond.methodLink RX8 81 yX8_due,
  Cond.instanceMethod yX8_due,
  Cond.selects RX8 yX8_due yX8_due,
  Cond.fieldLink RX8 85 "CarriedOneModel" "oneTold" "Z",
  Cond.fieldLink RX8 13 "CarriedOneModel" "books" "[I",
  Cond.code yX8_number cX8_number 3 (some .int),
  Cond.methodLink RX8 89 yX8_number,
  Cond.instanceMethod yX8_number,
  Cond.selects RX8 yX8_number yX8_number,
  Cond.fieldLink RX8 93 "CarriedOneModel" "draftOne" "I",
  Cond.fieldLink RX8 23 "CarriedOneModel" "draftTouches" "[I",
  Cond.fieldLink RX8 17 "CarriedOneModel" "numberA" "[I",
  Cond.fieldLink RX8 20 "CarriedOneModel" "numberB" "[I",
  Cond.fieldLink RX8 26 "CarriedOneModel" "now" "[I",
  Cond.fieldLink RX8 96 "CarriedOneModel" "seen" "I",
  Cond.fieldLink RX8 29 "CarriedOneModel" "isKept" "[Z",
  Cond.code yX8_plain cX8_plain 2 none,
  Cond.methodLink RX8 45 yX8_plain,
  Cond.instanceMethod yX8_plain,
  Cond.selects RX8 yX8_plain yX8_plain,
  Cond.code yX8_mayBe cX8_mayBe 2 (some .boolean),
  Cond.methodLink RX8 99 yX8_mayBe,
  Cond.instanceMethod yX8_mayBe,
  Cond.selects RX8 yX8_mayBe yX8_mayBe,
  Cond.code yX8_readRow cX8_readRow 4 none,
  Cond.methodLink RX8 103 yX8_readRow,
  Cond.instanceMethod yX8_readRow,
  Cond.selects RX8 yX8_readRow yX8_readRow]
def VT_12 : List Cond := [Cond.code yX8_takeDraft cX8_takeDraft 2 none,
  Cond.methodLink RX8 48 yX8_takeDraft,
  Cond.instanceMethod yX8_takeDraft,
  Cond.selects RX8 yX8_takeDraft yX8_takeDraft,
  Cond.code yX8_figure cX8_figure 4 (some .int),
  Cond.methodLink RX8 107 yX8_figure,
  Cond.static yX8_figure,
  Cond.code yX8_sum cX8_sum 2 (some .int),
  Cond.methodLink RX8 110 yX8_sum,
  Cond.instanceMethod yX8_sum,
  Cond.selects RX8 yX8_sum yX8_sum,
  Cond.code yX8_written cX8_written 3 (some .int),
  Cond.methodLink RX8 114 yX8_written,
  Cond.instanceMethod yX8_written,
  Cond.selects RX8 yX8_written yX8_written,
  Cond.code yX8_manyOf cX8_manyOf 3 (some .int),
  Cond.methodLink RX8 117 yX8_manyOf,
  Cond.static yX8_manyOf,
  Cond.code yX8_isBook cX8_isBook 2 (some .boolean),
  Cond.methodLink RX8 120 yX8_isBook,
  Cond.instanceMethod yX8_isBook,
  Cond.selects RX8 yX8_isBook yX8_isBook,
  Cond.code yX8_shown cX8_shown 2 (some .int),
  Cond.methodLink RX8 123 yX8_shown,
  Cond.instanceMethod yX8_shown,
  Cond.selects RX8 yX8_shown yX8_shown,
  Cond.code yX8_carries cX8_carries 4 (some .int),
  Cond.methodLink RX8 126 yX8_carries,
  Cond.instanceMethod yX8_carries,
  Cond.selects RX8 yX8_carries yX8_carries,
  Cond.code yX8_know cX8_know 2 none,
  Cond.methodLink RX8 129 yX8_know]
def VT_13 : List Cond := [Cond.instanceMethod yX8_know,
  Cond.selects RX8 yX8_know yX8_know,
  Cond.code yX8_touches cX8_touches 3 (some .int),
  Cond.methodLink RX8 132 yX8_touches,
  Cond.instanceMethod yX8_touches,
  Cond.selects RX8 yX8_touches yX8_touches,
  Cond.fieldLink RX8 33 "CarriedOneModel" "near" "[I",
  Cond.code yX8_tens cX8_tens 1 (some .int),
  Cond.methodLink RX8 135 yX8_tens,
  Cond.static yX8_tens,
  Cond.code yX8_goesTo cX8_goesTo 6 (some .int),
  Cond.methodLink RX8 138 yX8_goesTo,
  Cond.instanceMethod yX8_goesTo,
  Cond.selects RX8 yX8_goesTo yX8_goesTo,
  Cond.code yX8_takeNear cX8_takeNear 2 none,
  Cond.methodLink RX8 141 yX8_takeNear,
  Cond.instanceMethod yX8_takeNear,
  Cond.selects RX8 yX8_takeNear yX8_takeNear,
  Cond.code yX8_goesIn cX8_goesIn 5 (some .int),
  Cond.methodLink RX8 144 yX8_goesIn,
  Cond.instanceMethod yX8_goesIn,
  Cond.selects RX8 yX8_goesIn yX8_goesIn,
  Cond.code yX8_turn cX8_turn 3 none,
  Cond.methodLink RX8 147 yX8_turn,
  Cond.instanceMethod yX8_turn,
  Cond.selects RX8 yX8_turn yX8_turn,
  Cond.code yX8_isLured cX8_isLured 5 (some .boolean),
  Cond.methodLink RX8 151 yX8_isLured,
  Cond.instanceMethod yX8_isLured,
  Cond.selects RX8 yX8_isLured yX8_isLured,
  Cond.code yX8_isLess cX8_isLess 2 (some .boolean),
  Cond.methodLink RX8 155 yX8_isLess]
def VT_14 : List Cond := [Cond.instanceMethod yX8_isLess,
  Cond.selects RX8 yX8_isLess yX8_isLess,
  Cond.code yX8_told cX8_told 1 (some .int),
  Cond.methodLink RX8 158 yX8_told,
  Cond.static yX8_told,
  Cond.code yX8_touching cX8_touching 5 (some .int),
  Cond.methodLink RX8 161 yX8_touching,
  Cond.instanceMethod yX8_touching,
  Cond.selects RX8 yX8_touching yX8_touching,
  Cond.code yX8_layApart cX8_layApart 5 none,
  Cond.methodLink RX8 164 yX8_layApart,
  Cond.instanceMethod yX8_layApart,
  Cond.selects RX8 yX8_layApart yX8_layApart,
  Cond.code yX8_everComes cX8_everComes 5 (some .boolean),
  Cond.methodLink RX8 167 yX8_everComes,
  Cond.instanceMethod yX8_everComes,
  Cond.selects RX8 yX8_everComes yX8_everComes,
  Cond.code yX8_part cX8_part 6 (some .int),
  Cond.methodLink RX8 170 yX8_part,
  Cond.static yX8_part,
  Cond.fieldLink RX8 36 "CarriedOneModel" "seenDays" "[I",
  Cond.fieldLink RX8 39 "CarriedOneModel" "seenBook" "[I",
  Cond.fieldLink RX8 42 "CarriedOneModel" "seenIs" "[I",
  Cond.code yX8_isHidden cX8_isHidden 2 (some .int),
  Cond.methodLink RX8 174 yX8_isHidden,
  Cond.static yX8_isHidden,
  Cond.fieldLink RX8 177 "CarriedOneModel" "sets" "I",
  Cond.fieldLink RX8 180 "CarriedOneModel" "inEach" "I",
  Cond.fieldLink RX8 183 "CarriedOneModel" "inSome" "I",
  Cond.code yX8_now cX8_now 8 (some .int),
  Cond.methodLink RX8 186 yX8_now,
  Cond.instanceMethod yX8_now]
def VT_15 : List Cond := [Cond.selects RX8 yX8_now yX8_now,
  Cond.code yX8_look cX8_look 8 none,
  Cond.methodLink RX8 188 yX8_look,
  Cond.instanceMethod yX8_look,
  Cond.selects RX8 yX8_look yX8_look,
  Cond.constant RX8 191 (-1000000),
  Cond.fieldLink RX8 192 "CarriedOneModel" "trace" "J",
  Cond.constantLong RX8 196 (11),
  Cond.constantLong RX8 198 (101),
  Cond.constantLong RX8 200 (1011),
  Cond.constantLong RX8 202 (10101),
  Cond.constantLong RX8 204 (100001),
  Cond.code yX7_imageOf cX7_imageOf 2 (some (.object "CarriedOne$Image")),
  Cond.methodLink RX7 264 yX7_imageOf,
  Cond.instanceMethod yX7_imageOf,
  Cond.selects RX7 yX7_imageOf yX7_imageOf,
  Cond.initialized RX2,
  Cond.code yX2_fill cX2_fill 3 none,
  Cond.instanceMethod yX2_fill,
  Cond.selects RX2 yX2_fill yX2_fill,
  Cond.code yX2_restore cX2_restore 3 none,
  Cond.instanceMethod yX2_restore,
  Cond.selects RX2 yX2_restore yX2_restore,
  Cond.methodLink RX5 3 objectInit,
  Cond.instanceMethod objectInit,
  Cond.code objectInit ⟨#[0xb1]⟩ 1 none,
  Cond.arrayClass .int,
  Cond.methodLink RX0 3 objectInit,
  Cond.methodLink RX3 3 objectInit,
  Cond.methodLink RX1 3 objectInit,
  Cond.arrayClass .long,
  Cond.methodLink RX2 1 objectInit]
def VT_16 : List Cond := [Cond.classLink RX2 7 RX1,
  Cond.instantiable RX1 2,
  Cond.code yX1_init cX1_init 1 none,
  Cond.instanceMethod yX1_init,
  Cond.methodLink RX4 3 objectInit,
  Cond.arrayClass .boolean,
  Cond.methodLink RX6 3 objectInit,
  Cond.methodLink RX7 1 objectInit,
  Cond.classLink RX7 7 RX5,
  Cond.instantiable RX5 6,
  Cond.code yX5_init cX5_init 1 none,
  Cond.instanceMethod yX5_init,
  Cond.classLink RX7 16 RX0,
  Cond.instantiable RX0 5,
  Cond.code yX0_init cX0_init 1 none,
  Cond.instanceMethod yX0_init,
  Cond.classLink RX7 26 RX3,
  Cond.instantiable RX3 5,
  Cond.code yX3_init cX3_init 1 none,
  Cond.instanceMethod yX3_init,
  Cond.classLink RX7 33 RX1,
  Cond.classLink RX7 40 RX2,
  Cond.instantiable RX2 3,
  Cond.code yX2_init cX2_init 1 none,
  Cond.instanceMethod yX2_init,
  Cond.classLink RX7 50 RX4,
  Cond.instantiable RX4 4,
  Cond.code yX4_init cX4_init 1 none,
  Cond.instanceMethod yX4_init,
  Cond.classLink RX7 57 RX6,
  Cond.instantiable RX6 4,
  Cond.code yX6_init cX6_init 1 none]
def VT_17 : List Cond := [Cond.instanceMethod yX6_init,
  Cond.methodLink RX8 1 objectInit,
  Cond.arrayClass .byte]
def VT : List Cond := wsX00 ++ (wsX10 ++ (wsX20 ++ (wsX30 ++ (wsX40 ++ (wsX50 ++ (wsX60 ++ (wsX70 ++ (wsX80 ++ (VT_0 ++ (VT_1 ++ (VT_2 ++ (VT_3 ++ (VT_4 ++ (VT_5 ++ (VT_6 ++ (VT_7 ++ (VT_8 ++ (VT_9 ++ (VT_10 ++ (VT_11 ++ (VT_12 ++ (VT_13 ++ (VT_14 ++ (VT_15 ++ (VT_16 ++ (VT_17))))))))))))))))))))))))))
theorem inU0 : ∀ w ∈ wsX00, w ∈ VT := fun _ h => List.mem_append_left _ h
theorem inU1 : ∀ w ∈ wsX10, w ∈ VT := fun _ h => List.mem_append_right _ (List.mem_append_left _ h)
theorem inU2 : ∀ w ∈ wsX20, w ∈ VT := fun _ h => List.mem_append_right _ (List.mem_append_right _ (List.mem_append_left _ h))
theorem inU3 : ∀ w ∈ wsX30, w ∈ VT := fun _ h => List.mem_append_right _ (List.mem_append_right _ (List.mem_append_right _ (List.mem_append_left _ h)))
theorem inU4 : ∀ w ∈ wsX40, w ∈ VT := fun _ h => List.mem_append_right _ (List.mem_append_right _ (List.mem_append_right _ (List.mem_append_right _ (List.mem_append_left _ h))))
theorem inU5 : ∀ w ∈ wsX50, w ∈ VT := fun _ h => List.mem_append_right _ (List.mem_append_right _ (List.mem_append_right _ (List.mem_append_right _ (List.mem_append_right _ (List.mem_append_left _ h)))))
theorem inU6 : ∀ w ∈ wsX60, w ∈ VT := fun _ h => List.mem_append_right _ (List.mem_append_right _ (List.mem_append_right _ (List.mem_append_right _ (List.mem_append_right _ (List.mem_append_right _ (List.mem_append_left _ h))))))
theorem inU7 : ∀ w ∈ wsX70, w ∈ VT := fun _ h => List.mem_append_right _ (List.mem_append_right _ (List.mem_append_right _ (List.mem_append_right _ (List.mem_append_right _ (List.mem_append_right _ (List.mem_append_right _ (List.mem_append_left _ h)))))))
theorem inU8 : ∀ w ∈ wsX80, w ∈ VT := fun _ h => List.mem_append_right _ (List.mem_append_right _ (List.mem_append_right _ (List.mem_append_right _ (List.mem_append_right _ (List.mem_append_right _ (List.mem_append_right _ (List.mem_append_right _ (List.mem_append_left _ h))))))))
theorem inV0 : ∀ w ∈ VT_0, w ∈ VT := fun _ h => List.mem_append_right _ (List.mem_append_right _ (List.mem_append_right _ (List.mem_append_right _ (List.mem_append_right _ (List.mem_append_right _ (List.mem_append_right _ (List.mem_append_right _ (List.mem_append_right _ (List.mem_append_left _ h)))))))))
theorem inV1 : ∀ w ∈ VT_1, w ∈ VT := fun _ h => List.mem_append_right _ (List.mem_append_right _ (List.mem_append_right _ (List.mem_append_right _ (List.mem_append_right _ (List.mem_append_right _ (List.mem_append_right _ (List.mem_append_right _ (List.mem_append_right _ (List.mem_append_right _ (List.mem_append_left _ h))))))))))
theorem inV2 : ∀ w ∈ VT_2, w ∈ VT := fun _ h => List.mem_append_right _ (List.mem_append_right _ (List.mem_append_right _ (List.mem_append_right _ (List.mem_append_right _ (List.mem_append_right _ (List.mem_append_right _ (List.mem_append_right _ (List.mem_append_right _ (List.mem_append_right _ (List.mem_append_right _ (List.mem_append_left _ h)))))))))))
theorem inV3 : ∀ w ∈ VT_3, w ∈ VT := fun _ h => List.mem_append_right _ (List.mem_append_right _ (List.mem_append_right _ (List.mem_append_right _ (List.mem_append_right _ (List.mem_append_right _ (List.mem_append_right _ (List.mem_append_right _ (List.mem_append_right _ (List.mem_append_right _ (List.mem_append_right _ (List.mem_append_right _ (List.mem_append_left _ h))))))))))))
theorem inV4 : ∀ w ∈ VT_4, w ∈ VT := fun _ h => List.mem_append_right _ (List.mem_append_right _ (List.mem_append_right _ (List.mem_append_right _ (List.mem_append_right _ (List.mem_append_right _ (List.mem_append_right _ (List.mem_append_right _ (List.mem_append_right _ (List.mem_append_right _ (List.mem_append_right _ (List.mem_append_right _ (List.mem_append_right _ (List.mem_append_left _ h)))))))))))))
theorem inV5 : ∀ w ∈ VT_5, w ∈ VT := fun _ h => List.mem_append_right _ (List.mem_append_right _ (List.mem_append_right _ (List.mem_append_right _ (List.mem_append_right _ (List.mem_append_right _ (List.mem_append_right _ (List.mem_append_right _ (List.mem_append_right _ (List.mem_append_right _ (List.mem_append_right _ (List.mem_append_right _ (List.mem_append_right _ (List.mem_append_right _ (List.mem_append_left _ h))))))))))))))
theorem inV6 : ∀ w ∈ VT_6, w ∈ VT := fun _ h => List.mem_append_right _ (List.mem_append_right _ (List.mem_append_right _ (List.mem_append_right _ (List.mem_append_right _ (List.mem_append_right _ (List.mem_append_right _ (List.mem_append_right _ (List.mem_append_right _ (List.mem_append_right _ (List.mem_append_right _ (List.mem_append_right _ (List.mem_append_right _ (List.mem_append_right _ (List.mem_append_right _ (List.mem_append_left _ h)))))))))))))))
theorem inV7 : ∀ w ∈ VT_7, w ∈ VT := fun _ h => List.mem_append_right _ (List.mem_append_right _ (List.mem_append_right _ (List.mem_append_right _ (List.mem_append_right _ (List.mem_append_right _ (List.mem_append_right _ (List.mem_append_right _ (List.mem_append_right _ (List.mem_append_right _ (List.mem_append_right _ (List.mem_append_right _ (List.mem_append_right _ (List.mem_append_right _ (List.mem_append_right _ (List.mem_append_right _ (List.mem_append_left _ h))))))))))))))))
theorem inV8 : ∀ w ∈ VT_8, w ∈ VT := fun _ h => List.mem_append_right _ (List.mem_append_right _ (List.mem_append_right _ (List.mem_append_right _ (List.mem_append_right _ (List.mem_append_right _ (List.mem_append_right _ (List.mem_append_right _ (List.mem_append_right _ (List.mem_append_right _ (List.mem_append_right _ (List.mem_append_right _ (List.mem_append_right _ (List.mem_append_right _ (List.mem_append_right _ (List.mem_append_right _ (List.mem_append_right _ (List.mem_append_left _ h)))))))))))))))))
theorem inV9 : ∀ w ∈ VT_9, w ∈ VT := fun _ h => List.mem_append_right _ (List.mem_append_right _ (List.mem_append_right _ (List.mem_append_right _ (List.mem_append_right _ (List.mem_append_right _ (List.mem_append_right _ (List.mem_append_right _ (List.mem_append_right _ (List.mem_append_right _ (List.mem_append_right _ (List.mem_append_right _ (List.mem_append_right _ (List.mem_append_right _ (List.mem_append_right _ (List.mem_append_right _ (List.mem_append_right _ (List.mem_append_right _ (List.mem_append_left _ h))))))))))))))))))
theorem inV10 : ∀ w ∈ VT_10, w ∈ VT := fun _ h => List.mem_append_right _ (List.mem_append_right _ (List.mem_append_right _ (List.mem_append_right _ (List.mem_append_right _ (List.mem_append_right _ (List.mem_append_right _ (List.mem_append_right _ (List.mem_append_right _ (List.mem_append_right _ (List.mem_append_right _ (List.mem_append_right _ (List.mem_append_right _ (List.mem_append_right _ (List.mem_append_right _ (List.mem_append_right _ (List.mem_append_right _ (List.mem_append_right _ (List.mem_append_right _ (List.mem_append_left _ h)))))))))))))))))))
theorem inV11 : ∀ w ∈ VT_11, w ∈ VT := fun _ h => List.mem_append_right _ (List.mem_append_right _ (List.mem_append_right _ (List.mem_append_right _ (List.mem_append_right _ (List.mem_append_right _ (List.mem_append_right _ (List.mem_append_right _ (List.mem_append_right _ (List.mem_append_right _ (List.mem_append_right _ (List.mem_append_right _ (List.mem_append_right _ (List.mem_append_right _ (List.mem_append_right _ (List.mem_append_right _ (List.mem_append_right _ (List.mem_append_right _ (List.mem_append_right _ (List.mem_append_right _ (List.mem_append_left _ h))))))))))))))))))))
theorem inV12 : ∀ w ∈ VT_12, w ∈ VT := fun _ h => List.mem_append_right _ (List.mem_append_right _ (List.mem_append_right _ (List.mem_append_right _ (List.mem_append_right _ (List.mem_append_right _ (List.mem_append_right _ (List.mem_append_right _ (List.mem_append_right _ (List.mem_append_right _ (List.mem_append_right _ (List.mem_append_right _ (List.mem_append_right _ (List.mem_append_right _ (List.mem_append_right _ (List.mem_append_right _ (List.mem_append_right _ (List.mem_append_right _ (List.mem_append_right _ (List.mem_append_right _ (List.mem_append_right _ (List.mem_append_left _ h)))))))))))))))))))))
theorem inV13 : ∀ w ∈ VT_13, w ∈ VT := fun _ h => List.mem_append_right _ (List.mem_append_right _ (List.mem_append_right _ (List.mem_append_right _ (List.mem_append_right _ (List.mem_append_right _ (List.mem_append_right _ (List.mem_append_right _ (List.mem_append_right _ (List.mem_append_right _ (List.mem_append_right _ (List.mem_append_right _ (List.mem_append_right _ (List.mem_append_right _ (List.mem_append_right _ (List.mem_append_right _ (List.mem_append_right _ (List.mem_append_right _ (List.mem_append_right _ (List.mem_append_right _ (List.mem_append_right _ (List.mem_append_right _ (List.mem_append_left _ h))))))))))))))))))))))
theorem inV14 : ∀ w ∈ VT_14, w ∈ VT := fun _ h => List.mem_append_right _ (List.mem_append_right _ (List.mem_append_right _ (List.mem_append_right _ (List.mem_append_right _ (List.mem_append_right _ (List.mem_append_right _ (List.mem_append_right _ (List.mem_append_right _ (List.mem_append_right _ (List.mem_append_right _ (List.mem_append_right _ (List.mem_append_right _ (List.mem_append_right _ (List.mem_append_right _ (List.mem_append_right _ (List.mem_append_right _ (List.mem_append_right _ (List.mem_append_right _ (List.mem_append_right _ (List.mem_append_right _ (List.mem_append_right _ (List.mem_append_right _ (List.mem_append_left _ h)))))))))))))))))))))))
theorem inV15 : ∀ w ∈ VT_15, w ∈ VT := fun _ h => List.mem_append_right _ (List.mem_append_right _ (List.mem_append_right _ (List.mem_append_right _ (List.mem_append_right _ (List.mem_append_right _ (List.mem_append_right _ (List.mem_append_right _ (List.mem_append_right _ (List.mem_append_right _ (List.mem_append_right _ (List.mem_append_right _ (List.mem_append_right _ (List.mem_append_right _ (List.mem_append_right _ (List.mem_append_right _ (List.mem_append_right _ (List.mem_append_right _ (List.mem_append_right _ (List.mem_append_right _ (List.mem_append_right _ (List.mem_append_right _ (List.mem_append_right _ (List.mem_append_right _ (List.mem_append_left _ h))))))))))))))))))))))))
theorem inV16 : ∀ w ∈ VT_16, w ∈ VT := fun _ h => List.mem_append_right _ (List.mem_append_right _ (List.mem_append_right _ (List.mem_append_right _ (List.mem_append_right _ (List.mem_append_right _ (List.mem_append_right _ (List.mem_append_right _ (List.mem_append_right _ (List.mem_append_right _ (List.mem_append_right _ (List.mem_append_right _ (List.mem_append_right _ (List.mem_append_right _ (List.mem_append_right _ (List.mem_append_right _ (List.mem_append_right _ (List.mem_append_right _ (List.mem_append_right _ (List.mem_append_right _ (List.mem_append_right _ (List.mem_append_right _ (List.mem_append_right _ (List.mem_append_right _ (List.mem_append_right _ (List.mem_append_left _ h)))))))))))))))))))))))))
theorem inV17 : ∀ w ∈ VT_17, w ∈ VT := fun _ h => List.mem_append_right _ (List.mem_append_right _ (List.mem_append_right _ (List.mem_append_right _ (List.mem_append_right _ (List.mem_append_right _ (List.mem_append_right _ (List.mem_append_right _ (List.mem_append_right _ (List.mem_append_right _ (List.mem_append_right _ (List.mem_append_right _ (List.mem_append_right _ (List.mem_append_right _ (List.mem_append_right _ (List.mem_append_right _ (List.mem_append_right _ (List.mem_append_right _ (List.mem_append_right _ (List.mem_append_right _ (List.mem_append_right _ (List.mem_append_right _ (List.mem_append_right _ (List.mem_append_right _ (List.mem_append_right _ (List.mem_append_right _ (h))))))))))))))))))))))))))
theorem tw_0 : (Cond.fieldLink RX0 22 "CarriedOne$Books" "size" "I") ∈ VT := inV0 _ (List.mem_of_getElem? (i := 0) rfl)
theorem tw_1 : (Cond.fieldLink RX0 25 "CarriedOne$Books" "touches" "I") ∈ VT := inV0 _ (List.mem_of_getElem? (i := 1) rfl)
theorem tw_2 : (Cond.fieldLink RX0 18 "CarriedOne$Books" "one" "I") ∈ VT := inV0 _ (List.mem_of_getElem? (i := 2) rfl)
theorem tw_3 : (Cond.fieldLink RX0 9 "CarriedOne$Books" "a" "[I") ∈ VT := inV0 _ (List.mem_of_getElem? (i := 3) rfl)
theorem tw_4 : (Cond.fieldLink RX0 15 "CarriedOne$Books" "b" "[I") ∈ VT := inV0 _ (List.mem_of_getElem? (i := 4) rfl)
theorem tw_5 : (Cond.fieldLink RX1 15 "CarriedOne$History" "known" "I") ∈ VT := inV0 _ (List.mem_of_getElem? (i := 5) rfl)
theorem tw_6 : (Cond.fieldLink RX1 9 "CarriedOne$History" "steps" "[J") ∈ VT := inV0 _ (List.mem_of_getElem? (i := 6) rfl)
theorem tw_7 : (Cond.methodLink RX1 19 arraycopyName) ∈ VT := inV0 _ (List.mem_of_getElem? (i := 7) rfl)
theorem tw_8 : (Cond.native arraycopyName) ∈ VT := inV0 _ (List.mem_of_getElem? (i := 8) rfl)
theorem tw_9 : (Cond.static arraycopyName) ∈ VT := inV0 _ (List.mem_of_getElem? (i := 9) rfl)
theorem tw_10 : (Cond.initialized "java/lang/System") ∈ VT := inV0 _ (List.mem_of_getElem? (i := 10) rfl)
theorem tw_11 : (Cond.fieldLink RX3 28 "CarriedOne$Now" "date" "I") ∈ VT := inV0 _ (List.mem_of_getElem? (i := 11) rfl)
theorem tw_12 : (Cond.fieldLink RX3 9 "CarriedOne$Now" "one" "I") ∈ VT := inV0 _ (List.mem_of_getElem? (i := 12) rfl)
theorem tw_13 : (Cond.fieldLink RX3 24 "CarriedOne$Now" "trapped" "I") ∈ VT := inV0 _ (List.mem_of_getElem? (i := 13) rfl)
theorem tw_14 : (Cond.fieldLink RX3 23 "CarriedOne$Now" "touches" "I") ∈ VT := inV0 _ (List.mem_of_getElem? (i := 14) rfl)
theorem tw_15 : (Cond.fieldLink RX3 15 "CarriedOne$Now" "forgotten" "I") ∈ VT := inV0 _ (List.mem_of_getElem? (i := 15) rfl)
theorem tw_16 : (Cond.initialized RX3) ∈ VT := inV0 _ (List.mem_of_getElem? (i := 16) rfl)
theorem tw_17 : (Cond.code yX3_packed cX3_packed 3 (some .long)) ∈ VT := inV0 _ (List.mem_of_getElem? (i := 17) rfl)
theorem tw_18 : (Cond.instanceMethod yX3_packed) ∈ VT := inV0 _ (List.mem_of_getElem? (i := 18) rfl)
theorem tw_19 : (Cond.selects RX3 yX3_packed yX3_packed) ∈ VT := inV0 _ (List.mem_of_getElem? (i := 19) rfl)
theorem tw_20 : (Cond.fieldLink RX2 22 "CarriedOne$Image" "packed" "J") ∈ VT := inV0 _ (List.mem_of_getElem? (i := 20) rfl)
theorem tw_21 : (Cond.fieldLink RX2 10 "CarriedOne$Image" "history" "LCarriedOne$History;") ∈ VT := inV0 _ (List.mem_of_getElem? (i := 21) rfl)
theorem tw_22 : (Cond.initialized RX1) ∈ VT := inV0 _ (List.mem_of_getElem? (i := 22) rfl)
theorem tw_23 : (Cond.code yX1_copyFrom cX1_copyFrom 2 none) ∈ VT := inV0 _ (List.mem_of_getElem? (i := 23) rfl)
theorem tw_24 : (Cond.instanceMethod yX1_copyFrom) ∈ VT := inV0 _ (List.mem_of_getElem? (i := 24) rfl)
theorem tw_25 : (Cond.selects RX1 yX1_copyFrom yX1_copyFrom) ∈ VT := inV0 _ (List.mem_of_getElem? (i := 25) rfl)
theorem tw_26 : (Cond.fieldLink RX2 29 "CarriedOne$Image" "kept" "Z") ∈ VT := inV0 _ (List.mem_of_getElem? (i := 26) rfl)
theorem tw_27 : (Cond.code yX3_lowest cX3_lowest 3 (some .int)) ∈ VT := inV0 _ (List.mem_of_getElem? (i := 27) rfl)
theorem tw_28 : (Cond.methodLink RX3 31 yX3_lowest) ∈ VT := inV0 _ (List.mem_of_getElem? (i := 28) rfl)
theorem tw_29 : (Cond.static yX3_lowest) ∈ VT := inV0 _ (List.mem_of_getElem? (i := 29) rfl)
theorem tw_30 : (Cond.code yX3_unpack cX3_unpack 5 none) ∈ VT := inV0 _ (List.mem_of_getElem? (i := 30) rfl)
theorem tw_31 : (Cond.instanceMethod yX3_unpack) ∈ VT := inV0 _ (List.mem_of_getElem? (i := 31) rfl)
theorem tw_32 : (Cond.selects RX3 yX3_unpack yX3_unpack) ∈ VT := inV1 _ (List.mem_of_getElem? (i := 0) rfl)
theorem tw_33 : (Cond.fieldLink RX4 22 "CarriedOne$Seen" "size" "I") ∈ VT := inV1 _ (List.mem_of_getElem? (i := 1) rfl)
theorem tw_34 : (Cond.fieldLink RX4 9 "CarriedOne$Seen" "days" "[I") ∈ VT := inV1 _ (List.mem_of_getElem? (i := 2) rfl)
theorem tw_35 : (Cond.fieldLink RX4 15 "CarriedOne$Seen" "books" "[I") ∈ VT := inV1 _ (List.mem_of_getElem? (i := 3) rfl)
theorem tw_36 : (Cond.fieldLink RX4 18 "CarriedOne$Seen" "there" "[Z") ∈ VT := inV1 _ (List.mem_of_getElem? (i := 4) rfl)
theorem tw_37 : (Cond.fieldLink RX5 15 "CarriedOne$Text" "length" "I") ∈ VT := inV1 _ (List.mem_of_getElem? (i := 5) rfl)
theorem tw_38 : (Cond.fieldLink RX5 9 "CarriedOne$Text" "bytes" "[I") ∈ VT := inV1 _ (List.mem_of_getElem? (i := 6) rfl)
theorem tw_39 : (Cond.fieldLink RX5 19 "CarriedOne$Text" "place" "I") ∈ VT := inV1 _ (List.mem_of_getElem? (i := 7) rfl)
theorem tw_40 : (Cond.fieldLink RX5 71 "CarriedOne$Text" "begin" "I") ∈ VT := inV1 _ (List.mem_of_getElem? (i := 8) rfl)
theorem tw_41 : (Cond.initialized RX7) ∈ VT := inV1 _ (List.mem_of_getElem? (i := 9) rfl)
theorem tw_42 : (Cond.code yX7_within cX7_within 3 (some .boolean)) ∈ VT := inV1 _ (List.mem_of_getElem? (i := 10) rfl)
theorem tw_43 : (Cond.static yX7_within) ∈ VT := inV1 _ (List.mem_of_getElem? (i := 11) rfl)
theorem tw_44 : (Cond.fieldLink RX5 25 "CarriedOne$Text" "token" "I") ∈ VT := inV1 _ (List.mem_of_getElem? (i := 12) rfl)
theorem tw_45 : (Cond.initialized RX5) ∈ VT := inV1 _ (List.mem_of_getElem? (i := 13) rfl)
theorem tw_46 : (Cond.code yX5_stepOverAll cX5_stepOverAll 3 none) ∈ VT := inV1 _ (List.mem_of_getElem? (i := 14) rfl)
theorem tw_47 : (Cond.methodLink RX5 78 yX5_stepOverAll) ∈ VT := inV1 _ (List.mem_of_getElem? (i := 15) rfl)
theorem tw_48 : (Cond.instanceMethod yX5_stepOverAll) ∈ VT := inV1 _ (List.mem_of_getElem? (i := 16) rfl)
theorem tw_49 : (Cond.selects RX5 yX5_stepOverAll yX5_stepOverAll) ∈ VT := inV1 _ (List.mem_of_getElem? (i := 17) rfl)
theorem tw_50 : (Cond.code yX5_isNumber cX5_isNumber 3 (some .boolean)) ∈ VT := inV1 _ (List.mem_of_getElem? (i := 18) rfl)
theorem tw_51 : (Cond.methodLink RX5 81 yX5_isNumber) ∈ VT := inV1 _ (List.mem_of_getElem? (i := 19) rfl)
theorem tw_52 : (Cond.instanceMethod yX5_isNumber) ∈ VT := inV1 _ (List.mem_of_getElem? (i := 20) rfl)
theorem tw_53 : (Cond.selects RX5 yX5_isNumber yX5_isNumber) ∈ VT := inV1 _ (List.mem_of_getElem? (i := 21) rfl)
theorem tw_54 : (Cond.fieldLink RX5 32 "CarriedOne$Text" "value" "I") ∈ VT := inV1 _ (List.mem_of_getElem? (i := 22) rfl)
theorem tw_55 : (Cond.code yX5_valueOfFigures cX5_valueOfFigures 3 (some .int)) ∈ VT := inV1 _ (List.mem_of_getElem? (i := 23) rfl)
theorem tw_56 : (Cond.methodLink RX5 84 yX5_valueOfFigures) ∈ VT := inV1 _ (List.mem_of_getElem? (i := 24) rfl)
theorem tw_57 : (Cond.instanceMethod yX5_valueOfFigures) ∈ VT := inV1 _ (List.mem_of_getElem? (i := 25) rfl)
theorem tw_58 : (Cond.selects RX5 yX5_valueOfFigures yX5_valueOfFigures) ∈ VT := inV1 _ (List.mem_of_getElem? (i := 26) rfl)
theorem tw_59 : (Cond.code yX5_step cX5_step 2 none) ∈ VT := inV1 _ (List.mem_of_getElem? (i := 27) rfl)
theorem tw_60 : (Cond.methodLink RX5 22 yX5_step) ∈ VT := inV1 _ (List.mem_of_getElem? (i := 28) rfl)
theorem tw_61 : (Cond.instanceMethod yX5_step) ∈ VT := inV1 _ (List.mem_of_getElem? (i := 29) rfl)
theorem tw_62 : (Cond.selects RX5 yX5_step yX5_step) ∈ VT := inV1 _ (List.mem_of_getElem? (i := 30) rfl)
theorem tw_63 : (Cond.code yX5_readNumber cX5_readNumber 2 (some .boolean)) ∈ VT := inV1 _ (List.mem_of_getElem? (i := 31) rfl)
theorem tw_64 : (Cond.methodLink RX5 49 yX5_readNumber) ∈ VT := inV2 _ (List.mem_of_getElem? (i := 0) rfl)
theorem tw_65 : (Cond.instanceMethod yX5_readNumber) ∈ VT := inV2 _ (List.mem_of_getElem? (i := 1) rfl)
theorem tw_66 : (Cond.selects RX5 yX5_readNumber yX5_readNumber) ∈ VT := inV2 _ (List.mem_of_getElem? (i := 2) rfl)
theorem tw_67 : (Cond.initialized RX0) ∈ VT := inV2 _ (List.mem_of_getElem? (i := 3) rfl)
theorem tw_68 : (Cond.code yX0_append cX0_append 3 none) ∈ VT := inV2 _ (List.mem_of_getElem? (i := 4) rfl)
theorem tw_69 : (Cond.instanceMethod yX0_append) ∈ VT := inV2 _ (List.mem_of_getElem? (i := 5) rfl)
theorem tw_70 : (Cond.selects RX0 yX0_append yX0_append) ∈ VT := inV2 _ (List.mem_of_getElem? (i := 6) rfl)
theorem tw_71 : (Cond.code yX5_readSemicolon cX5_readSemicolon 1 (some .boolean)) ∈ VT := inV2 _ (List.mem_of_getElem? (i := 7) rfl)
theorem tw_72 : (Cond.methodLink RX5 57 yX5_readSemicolon) ∈ VT := inV2 _ (List.mem_of_getElem? (i := 8) rfl)
theorem tw_73 : (Cond.instanceMethod yX5_readSemicolon) ∈ VT := inV2 _ (List.mem_of_getElem? (i := 9) rfl)
theorem tw_74 : (Cond.selects RX5 yX5_readSemicolon yX5_readSemicolon) ∈ VT := inV2 _ (List.mem_of_getElem? (i := 10) rfl)
theorem tw_75 : (Cond.code yX7_touchBit cX7_touchBit 4 (some .int)) ∈ VT := inV2 _ (List.mem_of_getElem? (i := 11) rfl)
theorem tw_76 : (Cond.static yX7_touchBit) ∈ VT := inV2 _ (List.mem_of_getElem? (i := 12) rfl)
theorem tw_77 : (Cond.code yX5_readBook cX5_readBook 3 (some .boolean)) ∈ VT := inV2 _ (List.mem_of_getElem? (i := 13) rfl)
theorem tw_78 : (Cond.methodLink RX5 35 yX5_readBook) ∈ VT := inV2 _ (List.mem_of_getElem? (i := 14) rfl)
theorem tw_79 : (Cond.instanceMethod yX5_readBook) ∈ VT := inV2 _ (List.mem_of_getElem? (i := 15) rfl)
theorem tw_80 : (Cond.selects RX5 yX5_readBook yX5_readBook) ∈ VT := inV2 _ (List.mem_of_getElem? (i := 16) rfl)
theorem tw_81 : (Cond.code yX5_readOne cX5_readOne 2 (some .boolean)) ∈ VT := inV2 _ (List.mem_of_getElem? (i := 17) rfl)
theorem tw_82 : (Cond.methodLink RX5 41 yX5_readOne) ∈ VT := inV2 _ (List.mem_of_getElem? (i := 18) rfl)
theorem tw_83 : (Cond.instanceMethod yX5_readOne) ∈ VT := inV2 _ (List.mem_of_getElem? (i := 19) rfl)
theorem tw_84 : (Cond.selects RX5 yX5_readOne yX5_readOne) ∈ VT := inV2 _ (List.mem_of_getElem? (i := 20) rfl)
theorem tw_85 : (Cond.code yX5_readTouch cX5_readTouch 3 (some .boolean)) ∈ VT := inV2 _ (List.mem_of_getElem? (i := 21) rfl)
theorem tw_86 : (Cond.methodLink RX5 38 yX5_readTouch) ∈ VT := inV2 _ (List.mem_of_getElem? (i := 22) rfl)
theorem tw_87 : (Cond.instanceMethod yX5_readTouch) ∈ VT := inV2 _ (List.mem_of_getElem? (i := 23) rfl)
theorem tw_88 : (Cond.selects RX5 yX5_readTouch yX5_readTouch) ∈ VT := inV2 _ (List.mem_of_getElem? (i := 24) rfl)
theorem tw_89 : (Cond.code yX5_readItem cX5_readItem 2 (some .boolean)) ∈ VT := inV2 _ (List.mem_of_getElem? (i := 25) rfl)
theorem tw_90 : (Cond.methodLink RX5 28 yX5_readItem) ∈ VT := inV2 _ (List.mem_of_getElem? (i := 26) rfl)
theorem tw_91 : (Cond.instanceMethod yX5_readItem) ∈ VT := inV2 _ (List.mem_of_getElem? (i := 27) rfl)
theorem tw_92 : (Cond.selects RX5 yX5_readItem yX5_readItem) ∈ VT := inV2 _ (List.mem_of_getElem? (i := 28) rfl)
theorem tw_93 : (Cond.fieldLink RX6 18 "CarriedOne$Ways" "size" "I") ∈ VT := inV2 _ (List.mem_of_getElem? (i := 29) rfl)
theorem tw_94 : (Cond.fieldLink RX6 15 "CarriedOne$Ways" "tens" "[I") ∈ VT := inV2 _ (List.mem_of_getElem? (i := 30) rfl)
theorem tw_95 : (Cond.fieldLink RX6 9 "CarriedOne$Ways" "ranked" "[I") ∈ VT := inV2 _ (List.mem_of_getElem? (i := 31) rfl)
theorem tw_96 : (Cond.fieldLink RX6 22 "CarriedOne$Ways" "trapped" "I") ∈ VT := inV3 _ (List.mem_of_getElem? (i := 0) rfl)
theorem tw_97 : (Cond.initialized RX6) ∈ VT := inV3 _ (List.mem_of_getElem? (i := 1) rfl)
theorem tw_98 : (Cond.code yX6_goesTo cX6_goesTo 5 (some .int)) ∈ VT := inV3 _ (List.mem_of_getElem? (i := 2) rfl)
theorem tw_99 : (Cond.methodLink RX6 29 yX6_goesTo) ∈ VT := inV3 _ (List.mem_of_getElem? (i := 3) rfl)
theorem tw_100 : (Cond.instanceMethod yX6_goesTo) ∈ VT := inV3 _ (List.mem_of_getElem? (i := 4) rfl)
theorem tw_101 : (Cond.selects RX6 yX6_goesTo yX6_goesTo) ∈ VT := inV3 _ (List.mem_of_getElem? (i := 5) rfl)
theorem tw_102 : (Cond.code yX6_walk cX6_walk 6 (some .int)) ∈ VT := inV3 _ (List.mem_of_getElem? (i := 6) rfl)
theorem tw_103 : (Cond.methodLink RX6 32 yX6_walk) ∈ VT := inV3 _ (List.mem_of_getElem? (i := 7) rfl)
theorem tw_104 : (Cond.instanceMethod yX6_walk) ∈ VT := inV3 _ (List.mem_of_getElem? (i := 8) rfl)
theorem tw_105 : (Cond.selects RX6 yX6_walk yX6_walk) ∈ VT := inV3 _ (List.mem_of_getElem? (i := 9) rfl)
theorem tw_106 : (Cond.methodLink RX7 64 yX7_within) ∈ VT := inV3 _ (List.mem_of_getElem? (i := 10) rfl)
theorem tw_107 : (Cond.fieldLink RX7 10 "CarriedOne" "text" "LCarriedOne$Text;") ∈ VT := inV3 _ (List.mem_of_getElem? (i := 11) rfl)
theorem tw_108 : (Cond.code yX5_append cX5_append 2 (some .boolean)) ∈ VT := inV3 _ (List.mem_of_getElem? (i := 12) rfl)
theorem tw_109 : (Cond.instanceMethod yX5_append) ∈ VT := inV3 _ (List.mem_of_getElem? (i := 13) rfl)
theorem tw_110 : (Cond.selects RX5 yX5_append yX5_append) ∈ VT := inV3 _ (List.mem_of_getElem? (i := 14) rfl)
theorem tw_111 : (Cond.fieldLink RX7 19 "CarriedOne" "draft" "LCarriedOne$Books;") ∈ VT := inV3 _ (List.mem_of_getElem? (i := 15) rfl)
theorem tw_112 : (Cond.code yX0_empty cX0_empty 1 none) ∈ VT := inV3 _ (List.mem_of_getElem? (i := 16) rfl)
theorem tw_113 : (Cond.instanceMethod yX0_empty) ∈ VT := inV3 _ (List.mem_of_getElem? (i := 17) rfl)
theorem tw_114 : (Cond.selects RX0 yX0_empty yX0_empty) ∈ VT := inV3 _ (List.mem_of_getElem? (i := 18) rfl)
theorem tw_115 : (Cond.code yX5_readItems cX5_readItems 3 (some .int)) ∈ VT := inV3 _ (List.mem_of_getElem? (i := 19) rfl)
theorem tw_116 : (Cond.instanceMethod yX5_readItems) ∈ VT := inV3 _ (List.mem_of_getElem? (i := 20) rfl)
theorem tw_117 : (Cond.selects RX5 yX5_readItems yX5_readItems) ∈ VT := inV3 _ (List.mem_of_getElem? (i := 21) rfl)
theorem tw_118 : (Cond.fieldLink RX7 23 "CarriedOne" "told" "LCarriedOne$Books;") ∈ VT := inV3 _ (List.mem_of_getElem? (i := 22) rfl)
theorem tw_119 : (Cond.code yX0_copyFrom cX0_copyFrom 3 none) ∈ VT := inV3 _ (List.mem_of_getElem? (i := 23) rfl)
theorem tw_120 : (Cond.instanceMethod yX0_copyFrom) ∈ VT := inV3 _ (List.mem_of_getElem? (i := 24) rfl)
theorem tw_121 : (Cond.selects RX0 yX0_copyFrom yX0_copyFrom) ∈ VT := inV3 _ (List.mem_of_getElem? (i := 25) rfl)
theorem tw_122 : (Cond.fieldLink RX7 29 "CarriedOne" "now" "LCarriedOne$Now;") ∈ VT := inV3 _ (List.mem_of_getElem? (i := 26) rfl)
theorem tw_123 : (Cond.code yX3_begin cX3_begin 2 none) ∈ VT := inV3 _ (List.mem_of_getElem? (i := 27) rfl)
theorem tw_124 : (Cond.instanceMethod yX3_begin) ∈ VT := inV3 _ (List.mem_of_getElem? (i := 28) rfl)
theorem tw_125 : (Cond.selects RX3 yX3_begin yX3_begin) ∈ VT := inV3 _ (List.mem_of_getElem? (i := 29) rfl)
theorem tw_126 : (Cond.fieldLink RX7 36 "CarriedOne" "history" "LCarriedOne$History;") ∈ VT := inV3 _ (List.mem_of_getElem? (i := 30) rfl)
theorem tw_127 : (Cond.fieldLink RX7 43 "CarriedOne" "firstImage" "LCarriedOne$Image;") ∈ VT := inV3 _ (List.mem_of_getElem? (i := 31) rfl)
theorem tw_128 : (Cond.fieldLink RX7 47 "CarriedOne" "secondImage" "LCarriedOne$Image;") ∈ VT := inV4 _ (List.mem_of_getElem? (i := 0) rfl)
theorem tw_129 : (Cond.fieldLink RX7 53 "CarriedOne" "seen" "LCarriedOne$Seen;") ∈ VT := inV4 _ (List.mem_of_getElem? (i := 1) rfl)
theorem tw_130 : (Cond.code yX3_forgottenIn cX3_forgottenIn 2 (some .int)) ∈ VT := inV4 _ (List.mem_of_getElem? (i := 2) rfl)
theorem tw_131 : (Cond.instanceMethod yX3_forgottenIn) ∈ VT := inV4 _ (List.mem_of_getElem? (i := 3) rfl)
theorem tw_132 : (Cond.selects RX3 yX3_forgottenIn yX3_forgottenIn) ∈ VT := inV4 _ (List.mem_of_getElem? (i := 4) rfl)
theorem tw_133 : (Cond.code yX0_sum cX0_sum 2 (some .int)) ∈ VT := inV4 _ (List.mem_of_getElem? (i := 5) rfl)
theorem tw_134 : (Cond.instanceMethod yX0_sum) ∈ VT := inV4 _ (List.mem_of_getElem? (i := 6) rfl)
theorem tw_135 : (Cond.selects RX0 yX0_sum yX0_sum) ∈ VT := inV4 _ (List.mem_of_getElem? (i := 7) rfl)
theorem tw_136 : (Cond.code yX7_written cX7_written 3 (some .int)) ∈ VT := inV4 _ (List.mem_of_getElem? (i := 8) rfl)
theorem tw_137 : (Cond.methodLink RX7 112 yX7_written) ∈ VT := inV4 _ (List.mem_of_getElem? (i := 9) rfl)
theorem tw_138 : (Cond.instanceMethod yX7_written) ∈ VT := inV4 _ (List.mem_of_getElem? (i := 10) rfl)
theorem tw_139 : (Cond.selects RX7 yX7_written yX7_written) ∈ VT := inV4 _ (List.mem_of_getElem? (i := 11) rfl)
theorem tw_140 : (Cond.methodLink RX7 145 yX7_touchBit) ∈ VT := inV4 _ (List.mem_of_getElem? (i := 12) rfl)
theorem tw_141 : (Cond.code yX7_isBook cX7_isBook 2 (some .boolean)) ∈ VT := inV4 _ (List.mem_of_getElem? (i := 13) rfl)
theorem tw_142 : (Cond.methodLink RX7 102 yX7_isBook) ∈ VT := inV4 _ (List.mem_of_getElem? (i := 14) rfl)
theorem tw_143 : (Cond.instanceMethod yX7_isBook) ∈ VT := inV4 _ (List.mem_of_getElem? (i := 15) rfl)
theorem tw_144 : (Cond.selects RX7 yX7_isBook yX7_isBook) ∈ VT := inV4 _ (List.mem_of_getElem? (i := 16) rfl)
theorem tw_145 : (Cond.code yX7_shown cX7_shown 2 (some .int)) ∈ VT := inV4 _ (List.mem_of_getElem? (i := 17) rfl)
theorem tw_146 : (Cond.methodLink RX7 116 yX7_shown) ∈ VT := inV4 _ (List.mem_of_getElem? (i := 18) rfl)
theorem tw_147 : (Cond.instanceMethod yX7_shown) ∈ VT := inV4 _ (List.mem_of_getElem? (i := 19) rfl)
theorem tw_148 : (Cond.selects RX7 yX7_shown yX7_shown) ∈ VT := inV4 _ (List.mem_of_getElem? (i := 20) rfl)
theorem tw_149 : (Cond.code yX0_carries cX0_carries 4 (some .int)) ∈ VT := inV4 _ (List.mem_of_getElem? (i := 21) rfl)
theorem tw_150 : (Cond.instanceMethod yX0_carries) ∈ VT := inV4 _ (List.mem_of_getElem? (i := 22) rfl)
theorem tw_151 : (Cond.selects RX0 yX0_carries yX0_carries) ∈ VT := inV4 _ (List.mem_of_getElem? (i := 23) rfl)
theorem tw_152 : (Cond.code yX7_neighbours cX7_neighbours 4 (some .int)) ∈ VT := inV4 _ (List.mem_of_getElem? (i := 24) rfl)
theorem tw_153 : (Cond.methodLink RX7 125 yX7_neighbours) ∈ VT := inV4 _ (List.mem_of_getElem? (i := 25) rfl)
theorem tw_154 : (Cond.instanceMethod yX7_neighbours) ∈ VT := inV4 _ (List.mem_of_getElem? (i := 26) rfl)
theorem tw_155 : (Cond.selects RX7 yX7_neighbours yX7_neighbours) ∈ VT := inV4 _ (List.mem_of_getElem? (i := 27) rfl)
theorem tw_156 : (Cond.code yX3_isTrap cX3_isTrap 2 (some .boolean)) ∈ VT := inV4 _ (List.mem_of_getElem? (i := 28) rfl)
theorem tw_157 : (Cond.instanceMethod yX3_isTrap) ∈ VT := inV4 _ (List.mem_of_getElem? (i := 29) rfl)
theorem tw_158 : (Cond.selects RX3 yX3_isTrap yX3_isTrap) ∈ VT := inV4 _ (List.mem_of_getElem? (i := 30) rfl)
theorem tw_159 : (Cond.code yX1_append cX1_append 3 none) ∈ VT := inV4 _ (List.mem_of_getElem? (i := 31) rfl)
theorem tw_160 : (Cond.instanceMethod yX1_append) ∈ VT := inV5 _ (List.mem_of_getElem? (i := 0) rfl)
theorem tw_161 : (Cond.selects RX1 yX1_append yX1_append) ∈ VT := inV5 _ (List.mem_of_getElem? (i := 1) rfl)
theorem tw_162 : (Cond.code yX7_remember cX7_remember 1 none) ∈ VT := inV5 _ (List.mem_of_getElem? (i := 2) rfl)
theorem tw_163 : (Cond.methodLink RX7 131 yX7_remember) ∈ VT := inV5 _ (List.mem_of_getElem? (i := 3) rfl)
theorem tw_164 : (Cond.instanceMethod yX7_remember) ∈ VT := inV5 _ (List.mem_of_getElem? (i := 4) rfl)
theorem tw_165 : (Cond.selects RX7 yX7_remember yX7_remember) ∈ VT := inV5 _ (List.mem_of_getElem? (i := 5) rfl)
theorem tw_166 : (Cond.constant RJ6 265 (1431655765)) ∈ VT := inV5 _ (List.mem_of_getElem? (i := 6) rfl)
theorem tw_167 : (Cond.constant RJ6 266 (858993459)) ∈ VT := inV5 _ (List.mem_of_getElem? (i := 7) rfl)
theorem tw_168 : (Cond.constant RJ6 267 (252645135)) ∈ VT := inV5 _ (List.mem_of_getElem? (i := 8) rfl)
theorem tw_169 : (Cond.initialized RJ6) ∈ VT := inV5 _ (List.mem_of_getElem? (i := 9) rfl)
theorem tw_170 : (Cond.code yJ6_bitCount_0f7a4 cJ6_bitCount_0f7a4 1 (some .int)) ∈ VT := inV5 _ (List.mem_of_getElem? (i := 10) rfl)
theorem tw_171 : (Cond.methodLink RX7 137 yJ6_bitCount_0f7a4) ∈ VT := inV5 _ (List.mem_of_getElem? (i := 11) rfl)
theorem tw_172 : (Cond.static yJ6_bitCount_0f7a4) ∈ VT := inV5 _ (List.mem_of_getElem? (i := 12) rfl)
theorem tw_173 : (Cond.fieldLink RX7 60 "CarriedOne" "ways" "LCarriedOne$Ways;") ∈ VT := inV5 _ (List.mem_of_getElem? (i := 13) rfl)
theorem tw_174 : (Cond.code yX7_tensOf cX7_tensOf 1 (some .int)) ∈ VT := inV5 _ (List.mem_of_getElem? (i := 14) rfl)
theorem tw_175 : (Cond.methodLink RX7 293 yX7_tensOf) ∈ VT := inV5 _ (List.mem_of_getElem? (i := 15) rfl)
theorem tw_176 : (Cond.static yX7_tensOf) ∈ VT := inV5 _ (List.mem_of_getElem? (i := 16) rfl)
theorem tw_177 : (Cond.code yX6_rank cX6_rank 4 none) ∈ VT := inV5 _ (List.mem_of_getElem? (i := 17) rfl)
theorem tw_178 : (Cond.instanceMethod yX6_rank) ∈ VT := inV5 _ (List.mem_of_getElem? (i := 18) rfl)
theorem tw_179 : (Cond.selects RX6 yX6_rank yX6_rank) ∈ VT := inV5 _ (List.mem_of_getElem? (i := 19) rfl)
theorem tw_180 : (Cond.code yX7_isSomewhere cX7_isSomewhere 1 (some .boolean)) ∈ VT := inV5 _ (List.mem_of_getElem? (i := 20) rfl)
theorem tw_181 : (Cond.methodLink RX7 158 yX7_isSomewhere) ∈ VT := inV5 _ (List.mem_of_getElem? (i := 21) rfl)
theorem tw_182 : (Cond.instanceMethod yX7_isSomewhere) ∈ VT := inV5 _ (List.mem_of_getElem? (i := 22) rfl)
theorem tw_183 : (Cond.selects RX7 yX7_isSomewhere yX7_isSomewhere) ∈ VT := inV5 _ (List.mem_of_getElem? (i := 23) rfl)
theorem tw_184 : (Cond.code yX7_waysNow cX7_waysNow 2 (some (.object "CarriedOne$Ways"))) ∈ VT := inV5 _ (List.mem_of_getElem? (i := 24) rfl)
theorem tw_185 : (Cond.methodLink RX7 162 yX7_waysNow) ∈ VT := inV5 _ (List.mem_of_getElem? (i := 25) rfl)
theorem tw_186 : (Cond.instanceMethod yX7_waysNow) ∈ VT := inV5 _ (List.mem_of_getElem? (i := 26) rfl)
theorem tw_187 : (Cond.selects RX7 yX7_waysNow yX7_waysNow) ∈ VT := inV5 _ (List.mem_of_getElem? (i := 27) rfl)
theorem tw_188 : (Cond.code yX1_takeLatest cX1_takeLatest 1 (some .long)) ∈ VT := inV5 _ (List.mem_of_getElem? (i := 28) rfl)
theorem tw_189 : (Cond.instanceMethod yX1_takeLatest) ∈ VT := inV5 _ (List.mem_of_getElem? (i := 29) rfl)
theorem tw_190 : (Cond.selects RX1 yX1_takeLatest yX1_takeLatest) ∈ VT := inV5 _ (List.mem_of_getElem? (i := 30) rfl)
theorem tw_191 : (Cond.code yX7_divides cX7_divides 2 (some .boolean)) ∈ VT := inV5 _ (List.mem_of_getElem? (i := 31) rfl)
theorem tw_192 : (Cond.methodLink RX7 282 yX7_divides) ∈ VT := inV6 _ (List.mem_of_getElem? (i := 0) rfl)
theorem tw_193 : (Cond.static yX7_divides) ∈ VT := inV6 _ (List.mem_of_getElem? (i := 1) rfl)
theorem tw_194 : (Cond.code yX7_shownTogether cX7_shownTogether 3 (some .int)) ∈ VT := inV6 _ (List.mem_of_getElem? (i := 2) rfl)
theorem tw_195 : (Cond.methodLink RX7 177 yX7_shownTogether) ∈ VT := inV6 _ (List.mem_of_getElem? (i := 3) rfl)
theorem tw_196 : (Cond.instanceMethod yX7_shownTogether) ∈ VT := inV6 _ (List.mem_of_getElem? (i := 4) rfl)
theorem tw_197 : (Cond.selects RX7 yX7_shownTogether yX7_shownTogether) ∈ VT := inV6 _ (List.mem_of_getElem? (i := 5) rfl)
theorem tw_198 : (Cond.code yX7_summedTogether cX7_summedTogether 3 (some .int)) ∈ VT := inV6 _ (List.mem_of_getElem? (i := 6) rfl)
theorem tw_199 : (Cond.methodLink RX7 181 yX7_summedTogether) ∈ VT := inV6 _ (List.mem_of_getElem? (i := 7) rfl)
theorem tw_200 : (Cond.instanceMethod yX7_summedTogether) ∈ VT := inV6 _ (List.mem_of_getElem? (i := 8) rfl)
theorem tw_201 : (Cond.selects RX7 yX7_summedTogether yX7_summedTogether) ∈ VT := inV6 _ (List.mem_of_getElem? (i := 9) rfl)
theorem tw_202 : (Cond.code yX7_notDividedBy cX7_notDividedBy 4 (some .int)) ∈ VT := inV6 _ (List.mem_of_getElem? (i := 10) rfl)
theorem tw_203 : (Cond.methodLink RX7 184 yX7_notDividedBy) ∈ VT := inV6 _ (List.mem_of_getElem? (i := 11) rfl)
theorem tw_204 : (Cond.instanceMethod yX7_notDividedBy) ∈ VT := inV6 _ (List.mem_of_getElem? (i := 12) rfl)
theorem tw_205 : (Cond.selects RX7 yX7_notDividedBy yX7_notDividedBy) ∈ VT := inV6 _ (List.mem_of_getElem? (i := 13) rfl)
theorem tw_206 : (Cond.code yX6_lengthOfRound cX6_lengthOfRound 6 (some .int)) ∈ VT := inV6 _ (List.mem_of_getElem? (i := 14) rfl)
theorem tw_207 : (Cond.instanceMethod yX6_lengthOfRound) ∈ VT := inV6 _ (List.mem_of_getElem? (i := 15) rfl)
theorem tw_208 : (Cond.selects RX6 yX6_lengthOfRound yX6_lengthOfRound) ∈ VT := inV6 _ (List.mem_of_getElem? (i := 16) rfl)
theorem tw_209 : (Cond.code yX6_daysToRound cX6_daysToRound 7 (some .int)) ∈ VT := inV6 _ (List.mem_of_getElem? (i := 17) rfl)
theorem tw_210 : (Cond.instanceMethod yX6_daysToRound) ∈ VT := inV6 _ (List.mem_of_getElem? (i := 18) rfl)
theorem tw_211 : (Cond.selects RX6 yX6_daysToRound yX6_daysToRound) ∈ VT := inV6 _ (List.mem_of_getElem? (i := 19) rfl)
theorem tw_212 : (Cond.code yX7_lures cX7_lures 4 (some .boolean)) ∈ VT := inV6 _ (List.mem_of_getElem? (i := 20) rfl)
theorem tw_213 : (Cond.methodLink RX7 300 yX7_lures) ∈ VT := inV6 _ (List.mem_of_getElem? (i := 21) rfl)
theorem tw_214 : (Cond.instanceMethod yX7_lures) ∈ VT := inV6 _ (List.mem_of_getElem? (i := 22) rfl)
theorem tw_215 : (Cond.selects RX7 yX7_lures yX7_lures) ∈ VT := inV6 _ (List.mem_of_getElem? (i := 23) rfl)
theorem tw_216 : (Cond.code yX7_firstSingleLure cX7_firstSingleLure 4 (some .int)) ∈ VT := inV6 _ (List.mem_of_getElem? (i := 24) rfl)
theorem tw_217 : (Cond.methodLink RX7 303 yX7_firstSingleLure) ∈ VT := inV6 _ (List.mem_of_getElem? (i := 25) rfl)
theorem tw_218 : (Cond.instanceMethod yX7_firstSingleLure) ∈ VT := inV6 _ (List.mem_of_getElem? (i := 26) rfl)
theorem tw_219 : (Cond.selects RX7 yX7_firstSingleLure yX7_firstSingleLure) ∈ VT := inV6 _ (List.mem_of_getElem? (i := 27) rfl)
theorem tw_220 : (Cond.code yX7_firstDoubleLure cX7_firstDoubleLure 6 (some .int)) ∈ VT := inV6 _ (List.mem_of_getElem? (i := 28) rfl)
theorem tw_221 : (Cond.methodLink RX7 306 yX7_firstDoubleLure) ∈ VT := inV6 _ (List.mem_of_getElem? (i := 29) rfl)
theorem tw_222 : (Cond.instanceMethod yX7_firstDoubleLure) ∈ VT := inV6 _ (List.mem_of_getElem? (i := 30) rfl)
theorem tw_223 : (Cond.selects RX7 yX7_firstDoubleLure yX7_firstDoubleLure) ∈ VT := inV6 _ (List.mem_of_getElem? (i := 31) rfl)
theorem tw_224 : (Cond.code yX7_fewestMoreTouches cX7_fewestMoreTouches 4 (some .int)) ∈ VT := inV7 _ (List.mem_of_getElem? (i := 0) rfl)
theorem tw_225 : (Cond.methodLink RX7 198 yX7_fewestMoreTouches) ∈ VT := inV7 _ (List.mem_of_getElem? (i := 1) rfl)
theorem tw_226 : (Cond.instanceMethod yX7_fewestMoreTouches) ∈ VT := inV7 _ (List.mem_of_getElem? (i := 2) rfl)
theorem tw_227 : (Cond.selects RX7 yX7_fewestMoreTouches yX7_fewestMoreTouches) ∈ VT := inV7 _ (List.mem_of_getElem? (i := 3) rfl)
theorem tw_228 : (Cond.code yJ6_lowestOneBit_0f7a4 cJ6_lowestOneBit_0f7a4 1 (some .int)) ∈ VT := inV7 _ (List.mem_of_getElem? (i := 4) rfl)
theorem tw_229 : (Cond.methodLink RX7 201 yJ6_lowestOneBit_0f7a4) ∈ VT := inV7 _ (List.mem_of_getElem? (i := 5) rfl)
theorem tw_230 : (Cond.static yJ6_lowestOneBit_0f7a4) ∈ VT := inV7 _ (List.mem_of_getElem? (i := 6) rfl)
theorem tw_231 : (Cond.code yX7_twoOf cX7_twoOf 3 (some .int)) ∈ VT := inV7 _ (List.mem_of_getElem? (i := 7) rfl)
theorem tw_232 : (Cond.methodLink RX7 204 yX7_twoOf) ∈ VT := inV7 _ (List.mem_of_getElem? (i := 8) rfl)
theorem tw_233 : (Cond.static yX7_twoOf) ∈ VT := inV7 _ (List.mem_of_getElem? (i := 9) rfl)
theorem tw_234 : (Cond.constant RJ6 264 (65536)) ∈ VT := inV7 _ (List.mem_of_getElem? (i := 10) rfl)
theorem tw_235 : (Cond.code yJ6_numberOfTrailingZeros_0f7a4 cJ6_numberOfTrailingZeros_0f7a4 2 (some .int)) ∈ VT := inV7 _ (List.mem_of_getElem? (i := 11) rfl)
theorem tw_236 : (Cond.methodLink RX7 351 yJ6_numberOfTrailingZeros_0f7a4) ∈ VT := inV7 _ (List.mem_of_getElem? (i := 12) rfl)
theorem tw_237 : (Cond.static yJ6_numberOfTrailingZeros_0f7a4) ∈ VT := inV7 _ (List.mem_of_getElem? (i := 13) rfl)
theorem tw_238 : (Cond.constant RX7 315 (32768)) ∈ VT := inV7 _ (List.mem_of_getElem? (i := 14) rfl)
theorem tw_239 : (Cond.code yX6_comesTo cX6_comesTo 6 (some .boolean)) ∈ VT := inV7 _ (List.mem_of_getElem? (i := 15) rfl)
theorem tw_240 : (Cond.instanceMethod yX6_comesTo) ∈ VT := inV7 _ (List.mem_of_getElem? (i := 16) rfl)
theorem tw_241 : (Cond.selects RX6 yX6_comesTo yX6_comesTo) ∈ VT := inV7 _ (List.mem_of_getElem? (i := 17) rfl)
theorem tw_242 : (Cond.code yX7_nextOfSameSize cX7_nextOfSameSize 3 (some .int)) ∈ VT := inV7 _ (List.mem_of_getElem? (i := 18) rfl)
theorem tw_243 : (Cond.methodLink RX7 316 yX7_nextOfSameSize) ∈ VT := inV7 _ (List.mem_of_getElem? (i := 19) rfl)
theorem tw_244 : (Cond.static yX7_nextOfSameSize) ∈ VT := inV7 _ (List.mem_of_getElem? (i := 20) rfl)
theorem tw_245 : (Cond.code yX7_leastCut cX7_leastCut 6 (some .int)) ∈ VT := inV7 _ (List.mem_of_getElem? (i := 21) rfl)
theorem tw_246 : (Cond.methodLink RX7 312 yX7_leastCut) ∈ VT := inV7 _ (List.mem_of_getElem? (i := 22) rfl)
theorem tw_247 : (Cond.instanceMethod yX7_leastCut) ∈ VT := inV7 _ (List.mem_of_getElem? (i := 23) rfl)
theorem tw_248 : (Cond.selects RX7 yX7_leastCut yX7_leastCut) ∈ VT := inV7 _ (List.mem_of_getElem? (i := 24) rfl)
theorem tw_249 : (Cond.code yX7_fewestTouchesToCut cX7_fewestTouchesToCut 4 (some .int)) ∈ VT := inV7 _ (List.mem_of_getElem? (i := 25) rfl)
theorem tw_250 : (Cond.methodLink RX7 207 yX7_fewestTouchesToCut) ∈ VT := inV7 _ (List.mem_of_getElem? (i := 26) rfl)
theorem tw_251 : (Cond.instanceMethod yX7_fewestTouchesToCut) ∈ VT := inV7 _ (List.mem_of_getElem? (i := 27) rfl)
theorem tw_252 : (Cond.selects RX7 yX7_fewestTouchesToCut yX7_fewestTouchesToCut) ∈ VT := inV7 _ (List.mem_of_getElem? (i := 28) rfl)
theorem tw_253 : (Cond.code yX7_choose cX7_choose 4 (some .int)) ∈ VT := inV7 _ (List.mem_of_getElem? (i := 29) rfl)
theorem tw_254 : (Cond.methodLink RX7 319 yX7_choose) ∈ VT := inV7 _ (List.mem_of_getElem? (i := 30) rfl)
theorem tw_255 : (Cond.static yX7_choose) ∈ VT := inV7 _ (List.mem_of_getElem? (i := 31) rfl)
theorem tw_256 : (Cond.code yX7_power cX7_power 4 (some .int)) ∈ VT := inV8 _ (List.mem_of_getElem? (i := 0) rfl)
theorem tw_257 : (Cond.methodLink RX7 213 yX7_power) ∈ VT := inV8 _ (List.mem_of_getElem? (i := 1) rfl)
theorem tw_258 : (Cond.static yX7_power) ∈ VT := inV8 _ (List.mem_of_getElem? (i := 2) rfl)
theorem tw_259 : (Cond.code yX7_chancesOf cX7_chancesOf 6 (some .int)) ∈ VT := inV8 _ (List.mem_of_getElem? (i := 3) rfl)
theorem tw_260 : (Cond.methodLink RX7 210 yX7_chancesOf) ∈ VT := inV8 _ (List.mem_of_getElem? (i := 4) rfl)
theorem tw_261 : (Cond.instanceMethod yX7_chancesOf) ∈ VT := inV8 _ (List.mem_of_getElem? (i := 5) rfl)
theorem tw_262 : (Cond.selects RX7 yX7_chancesOf yX7_chancesOf) ∈ VT := inV8 _ (List.mem_of_getElem? (i := 6) rfl)
theorem tw_263 : (Cond.code yX7_greatestDivisor cX7_greatestDivisor 6 (some .int)) ∈ VT := inV8 _ (List.mem_of_getElem? (i := 7) rfl)
theorem tw_264 : (Cond.methodLink RX7 216 yX7_greatestDivisor) ∈ VT := inV8 _ (List.mem_of_getElem? (i := 8) rfl)
theorem tw_265 : (Cond.static yX7_greatestDivisor) ∈ VT := inV8 _ (List.mem_of_getElem? (i := 9) rfl)
theorem tw_266 : (Cond.methodLink RX7 219 Lib.Math.max.name) ∈ VT := inV8 _ (List.mem_of_getElem? (i := 10) rfl)
theorem tw_267 : (Cond.static Lib.Math.max.name) ∈ VT := inV8 _ (List.mem_of_getElem? (i := 11) rfl)
theorem tw_268 : (Cond.initialized "java/lang/Math") ∈ VT := inV8 _ (List.mem_of_getElem? (i := 12) rfl)
theorem tw_269 : (Cond.code Lib.Math.max.name Lib.Math.max.code 2 (some .int)) ∈ VT := inV8 _ (List.mem_of_getElem? (i := 13) rfl)
theorem tw_270 : (Cond.initialized RX4) ∈ VT := inV8 _ (List.mem_of_getElem? (i := 14) rfl)
theorem tw_271 : (Cond.code yX4_append cX4_append 4 (some .boolean)) ∈ VT := inV8 _ (List.mem_of_getElem? (i := 15) rfl)
theorem tw_272 : (Cond.instanceMethod yX4_append) ∈ VT := inV8 _ (List.mem_of_getElem? (i := 16) rfl)
theorem tw_273 : (Cond.selects RX4 yX4_append yX4_append) ∈ VT := inV8 _ (List.mem_of_getElem? (i := 17) rfl)
theorem tw_274 : (Cond.code yX7_fitsFrom cX7_fitsFrom 4 (some .boolean)) ∈ VT := inV8 _ (List.mem_of_getElem? (i := 18) rfl)
theorem tw_275 : (Cond.methodLink RX7 227 yX7_fitsFrom) ∈ VT := inV8 _ (List.mem_of_getElem? (i := 19) rfl)
theorem tw_276 : (Cond.instanceMethod yX7_fitsFrom) ∈ VT := inV8 _ (List.mem_of_getElem? (i := 20) rfl)
theorem tw_277 : (Cond.selects RX7 yX7_fitsFrom yX7_fitsFrom) ∈ VT := inV8 _ (List.mem_of_getElem? (i := 21) rfl)
theorem tw_278 : (Cond.code yX7_number cX7_number 3 (some .int)) ∈ VT := inV8 _ (List.mem_of_getElem? (i := 22) rfl)
theorem tw_279 : (Cond.methodLink RX7 332 yX7_number) ∈ VT := inV8 _ (List.mem_of_getElem? (i := 23) rfl)
theorem tw_280 : (Cond.static yX7_number) ∈ VT := inV8 _ (List.mem_of_getElem? (i := 24) rfl)
theorem tw_281 : (Cond.code yX7_hiddenMisreading cX7_hiddenMisreading 3 (some .int)) ∈ VT := inV8 _ (List.mem_of_getElem? (i := 25) rfl)
theorem tw_282 : (Cond.methodLink RX7 335 yX7_hiddenMisreading) ∈ VT := inV8 _ (List.mem_of_getElem? (i := 26) rfl)
theorem tw_283 : (Cond.static yX7_hiddenMisreading) ∈ VT := inV8 _ (List.mem_of_getElem? (i := 27) rfl)
theorem tw_284 : (Cond.code yX7_hiddenMisreadings cX7_hiddenMisreadings 5 (some .int)) ∈ VT := inV8 _ (List.mem_of_getElem? (i := 28) rfl)
theorem tw_285 : (Cond.methodLink RX7 230 yX7_hiddenMisreadings) ∈ VT := inV8 _ (List.mem_of_getElem? (i := 29) rfl)
theorem tw_286 : (Cond.static yX7_hiddenMisreadings) ∈ VT := inV8 _ (List.mem_of_getElem? (i := 30) rfl)
theorem tw_287 : (Cond.code yX7_waysToLack cX7_waysToLack 3 (some .int)) ∈ VT := inV8 _ (List.mem_of_getElem? (i := 31) rfl)
theorem tw_288 : (Cond.methodLink RX7 338 yX7_waysToLack) ∈ VT := inV9 _ (List.mem_of_getElem? (i := 0) rfl)
theorem tw_289 : (Cond.static yX7_waysToLack) ∈ VT := inV9 _ (List.mem_of_getElem? (i := 1) rfl)
theorem tw_290 : (Cond.code yX7_setsWithout cX7_setsWithout 6 (some .int)) ∈ VT := inV9 _ (List.mem_of_getElem? (i := 2) rfl)
theorem tw_291 : (Cond.methodLink RX7 233 yX7_setsWithout) ∈ VT := inV9 _ (List.mem_of_getElem? (i := 3) rfl)
theorem tw_292 : (Cond.instanceMethod yX7_setsWithout) ∈ VT := inV9 _ (List.mem_of_getElem? (i := 4) rfl)
theorem tw_293 : (Cond.selects RX7 yX7_setsWithout yX7_setsWithout) ∈ VT := inV9 _ (List.mem_of_getElem? (i := 5) rfl)
theorem tw_294 : (Cond.code yX7_booksInEachSet cX7_booksInEachSet 3 (some .int)) ∈ VT := inV9 _ (List.mem_of_getElem? (i := 6) rfl)
theorem tw_295 : (Cond.methodLink RX7 236 yX7_booksInEachSet) ∈ VT := inV9 _ (List.mem_of_getElem? (i := 7) rfl)
theorem tw_296 : (Cond.instanceMethod yX7_booksInEachSet) ∈ VT := inV9 _ (List.mem_of_getElem? (i := 8) rfl)
theorem tw_297 : (Cond.selects RX7 yX7_booksInEachSet yX7_booksInEachSet) ∈ VT := inV9 _ (List.mem_of_getElem? (i := 9) rfl)
theorem tw_298 : (Cond.code yX7_booksInSomeSet cX7_booksInSomeSet 4 (some .int)) ∈ VT := inV9 _ (List.mem_of_getElem? (i := 10) rfl)
theorem tw_299 : (Cond.methodLink RX7 239 yX7_booksInSomeSet) ∈ VT := inV9 _ (List.mem_of_getElem? (i := 11) rfl)
theorem tw_300 : (Cond.instanceMethod yX7_booksInSomeSet) ∈ VT := inV9 _ (List.mem_of_getElem? (i := 12) rfl)
theorem tw_301 : (Cond.selects RX7 yX7_booksInSomeSet yX7_booksInSomeSet) ∈ VT := inV9 _ (List.mem_of_getElem? (i := 13) rfl)
theorem tw_302 : (Cond.code yJ6_numberOfLeadingZeros_0f7a4 cJ6_numberOfLeadingZeros_0f7a4 2 (some .int)) ∈ VT := inV9 _ (List.mem_of_getElem? (i := 14) rfl)
theorem tw_303 : (Cond.methodLink RX7 242 yJ6_numberOfLeadingZeros_0f7a4) ∈ VT := inV9 _ (List.mem_of_getElem? (i := 15) rfl)
theorem tw_304 : (Cond.static yJ6_numberOfLeadingZeros_0f7a4) ∈ VT := inV9 _ (List.mem_of_getElem? (i := 16) rfl)
theorem tw_305 : (Cond.fieldLink RX7 275 "CarriedOne" "traced" "J") ∈ VT := inV9 _ (List.mem_of_getElem? (i := 17) rfl)
theorem tw_306 : (Cond.constantLong RX7 341 (10)) ∈ VT := inV9 _ (List.mem_of_getElem? (i := 18) rfl)
theorem tw_307 : (Cond.code yX7_markOfBook cX7_markOfBook 2 (some .int)) ∈ VT := inV9 _ (List.mem_of_getElem? (i := 19) rfl)
theorem tw_308 : (Cond.methodLink RX7 246 yX7_markOfBook) ∈ VT := inV9 _ (List.mem_of_getElem? (i := 20) rfl)
theorem tw_309 : (Cond.instanceMethod yX7_markOfBook) ∈ VT := inV9 _ (List.mem_of_getElem? (i := 21) rfl)
theorem tw_310 : (Cond.selects RX7 yX7_markOfBook yX7_markOfBook) ∈ VT := inV9 _ (List.mem_of_getElem? (i := 22) rfl)
theorem tw_311 : (Cond.constantLong RX7 343 (100)) ∈ VT := inV9 _ (List.mem_of_getElem? (i := 23) rfl)
theorem tw_312 : (Cond.constantLong RX7 345 (1000)) ∈ VT := inV9 _ (List.mem_of_getElem? (i := 24) rfl)
theorem tw_313 : (Cond.code yX7_markOfRates cX7_markOfRates 2 (some .int)) ∈ VT := inV9 _ (List.mem_of_getElem? (i := 25) rfl)
theorem tw_314 : (Cond.methodLink RX7 249 yX7_markOfRates) ∈ VT := inV9 _ (List.mem_of_getElem? (i := 26) rfl)
theorem tw_315 : (Cond.instanceMethod yX7_markOfRates) ∈ VT := inV9 _ (List.mem_of_getElem? (i := 27) rfl)
theorem tw_316 : (Cond.selects RX7 yX7_markOfRates yX7_markOfRates) ∈ VT := inV9 _ (List.mem_of_getElem? (i := 28) rfl)
theorem tw_317 : (Cond.constantLong RX7 347 (10000)) ∈ VT := inV9 _ (List.mem_of_getElem? (i := 29) rfl)
theorem tw_318 : (Cond.code yX7_markOfTrain cX7_markOfTrain 2 (some .int)) ∈ VT := inV9 _ (List.mem_of_getElem? (i := 30) rfl)
theorem tw_319 : (Cond.methodLink RX7 252 yX7_markOfTrain) ∈ VT := inV9 _ (List.mem_of_getElem? (i := 31) rfl)
theorem tw_320 : (Cond.instanceMethod yX7_markOfTrain) ∈ VT := inV10 _ (List.mem_of_getElem? (i := 0) rfl)
theorem tw_321 : (Cond.selects RX7 yX7_markOfTrain yX7_markOfTrain) ∈ VT := inV10 _ (List.mem_of_getElem? (i := 1) rfl)
theorem tw_322 : (Cond.constantLong RX7 349 (100000)) ∈ VT := inV10 _ (List.mem_of_getElem? (i := 2) rfl)
theorem tw_323 : (Cond.code yX7_markOfLedger cX7_markOfLedger 2 (some .int)) ∈ VT := inV10 _ (List.mem_of_getElem? (i := 3) rfl)
theorem tw_324 : (Cond.methodLink RX7 255 yX7_markOfLedger) ∈ VT := inV10 _ (List.mem_of_getElem? (i := 4) rfl)
theorem tw_325 : (Cond.instanceMethod yX7_markOfLedger) ∈ VT := inV10 _ (List.mem_of_getElem? (i := 5) rfl)
theorem tw_326 : (Cond.selects RX7 yX7_markOfLedger yX7_markOfLedger) ∈ VT := inV10 _ (List.mem_of_getElem? (i := 6) rfl)
theorem tw_327 : (Cond.code yX7_markOfShop cX7_markOfShop 2 (some .int)) ∈ VT := inV10 _ (List.mem_of_getElem? (i := 7) rfl)
theorem tw_328 : (Cond.methodLink RX7 258 yX7_markOfShop) ∈ VT := inV10 _ (List.mem_of_getElem? (i := 8) rfl)
theorem tw_329 : (Cond.instanceMethod yX7_markOfShop) ∈ VT := inV10 _ (List.mem_of_getElem? (i := 9) rfl)
theorem tw_330 : (Cond.selects RX7 yX7_markOfShop yX7_markOfShop) ∈ VT := inV10 _ (List.mem_of_getElem? (i := 10) rfl)
theorem tw_331 : (Cond.code yX7_markOfChoir cX7_markOfChoir 2 (some .int)) ∈ VT := inV10 _ (List.mem_of_getElem? (i := 11) rfl)
theorem tw_332 : (Cond.methodLink RX7 261 yX7_markOfChoir) ∈ VT := inV10 _ (List.mem_of_getElem? (i := 12) rfl)
theorem tw_333 : (Cond.instanceMethod yX7_markOfChoir) ∈ VT := inV10 _ (List.mem_of_getElem? (i := 13) rfl)
theorem tw_334 : (Cond.selects RX7 yX7_markOfChoir yX7_markOfChoir) ∈ VT := inV10 _ (List.mem_of_getElem? (i := 14) rfl)
theorem tw_335 : (Cond.constant RX7 245 (-1000000)) ∈ VT := inV10 _ (List.mem_of_getElem? (i := 15) rfl)
theorem tw_336 : (Cond.initialized RX8) ∈ VT := inV10 _ (List.mem_of_getElem? (i := 16) rfl)
theorem tw_337 : (Cond.code yX8_in cX8_in 3 (some .boolean)) ∈ VT := inV10 _ (List.mem_of_getElem? (i := 17) rfl)
theorem tw_338 : (Cond.methodLink RX8 51 yX8_in) ∈ VT := inV10 _ (List.mem_of_getElem? (i := 18) rfl)
theorem tw_339 : (Cond.static yX8_in) ∈ VT := inV10 _ (List.mem_of_getElem? (i := 19) rfl)
theorem tw_340 : (Cond.fieldLink RX8 55 "CarriedOneModel" "typed" "I") ∈ VT := inV10 _ (List.mem_of_getElem? (i := 20) rfl)
theorem tw_341 : (Cond.fieldLink RX8 7 "CarriedOneModel" "text" "[B") ∈ VT := inV10 _ (List.mem_of_getElem? (i := 21) rfl)
theorem tw_342 : (Cond.fieldLink RX8 59 "CarriedOneModel" "at" "I") ∈ VT := inV10 _ (List.mem_of_getElem? (i := 22) rfl)
theorem tw_343 : (Cond.code yX8_here cX8_here 1 (some .int)) ∈ VT := inV10 _ (List.mem_of_getElem? (i := 23) rfl)
theorem tw_344 : (Cond.methodLink RX8 62 yX8_here) ∈ VT := inV10 _ (List.mem_of_getElem? (i := 24) rfl)
theorem tw_345 : (Cond.instanceMethod yX8_here) ∈ VT := inV10 _ (List.mem_of_getElem? (i := 25) rfl)
theorem tw_346 : (Cond.selects RX8 yX8_here yX8_here) ∈ VT := inV10 _ (List.mem_of_getElem? (i := 26) rfl)
theorem tw_347 : (Cond.fieldLink RX8 66 "CarriedOneModel" "start" "I") ∈ VT := inV10 _ (List.mem_of_getElem? (i := 27) rfl)
theorem tw_348 : (Cond.fieldLink RX8 69 "CarriedOneModel" "value" "I") ∈ VT := inV10 _ (List.mem_of_getElem? (i := 28) rfl)
theorem tw_349 : (Cond.fieldLink RX8 72 "CarriedOneModel" "sort" "I") ∈ VT := inV10 _ (List.mem_of_getElem? (i := 29) rfl)
theorem tw_350 : (Cond.fieldLink RX8 75 "CarriedOneModel" "fault" "I") ∈ VT := inV10 _ (List.mem_of_getElem? (i := 30) rfl)
theorem tw_351 : (Cond.code yX8_step cX8_step 2 none) ∈ VT := inV10 _ (List.mem_of_getElem? (i := 31) rfl)
theorem tw_352 : (Cond.methodLink RX8 78 yX8_step) ∈ VT := inV11 _ (List.mem_of_getElem? (i := 0) rfl)
theorem tw_353 : (Cond.instanceMethod yX8_step) ∈ VT := inV11 _ (List.mem_of_getElem? (i := 1) rfl)
theorem tw_354 : (Cond.selects RX8 yX8_step yX8_step) ∈ VT := inV11 _ (List.mem_of_getElem? (i := 2) rfl)
theorem tw_355 : (Cond.code yX8_due cX8_due 3 (some .int)) ∈ VT := inV11 _ (List.mem_of_getElem? (i := 3) rfl)
theorem tw_356 : (Cond.methodLink RX8 81 yX8_due) ∈ VT := inV11 _ (List.mem_of_getElem? (i := 4) rfl)
theorem tw_357 : (Cond.instanceMethod yX8_due) ∈ VT := inV11 _ (List.mem_of_getElem? (i := 5) rfl)
theorem tw_358 : (Cond.selects RX8 yX8_due yX8_due) ∈ VT := inV11 _ (List.mem_of_getElem? (i := 6) rfl)
theorem tw_359 : (Cond.fieldLink RX8 85 "CarriedOneModel" "oneTold" "Z") ∈ VT := inV11 _ (List.mem_of_getElem? (i := 7) rfl)
theorem tw_360 : (Cond.fieldLink RX8 13 "CarriedOneModel" "books" "[I") ∈ VT := inV11 _ (List.mem_of_getElem? (i := 8) rfl)
theorem tw_361 : (Cond.code yX8_number cX8_number 3 (some .int)) ∈ VT := inV11 _ (List.mem_of_getElem? (i := 9) rfl)
theorem tw_362 : (Cond.methodLink RX8 89 yX8_number) ∈ VT := inV11 _ (List.mem_of_getElem? (i := 10) rfl)
theorem tw_363 : (Cond.instanceMethod yX8_number) ∈ VT := inV11 _ (List.mem_of_getElem? (i := 11) rfl)
theorem tw_364 : (Cond.selects RX8 yX8_number yX8_number) ∈ VT := inV11 _ (List.mem_of_getElem? (i := 12) rfl)
theorem tw_365 : (Cond.fieldLink RX8 93 "CarriedOneModel" "draftOne" "I") ∈ VT := inV11 _ (List.mem_of_getElem? (i := 13) rfl)
theorem tw_366 : (Cond.fieldLink RX8 23 "CarriedOneModel" "draftTouches" "[I") ∈ VT := inV11 _ (List.mem_of_getElem? (i := 14) rfl)
theorem tw_367 : (Cond.fieldLink RX8 17 "CarriedOneModel" "numberA" "[I") ∈ VT := inV11 _ (List.mem_of_getElem? (i := 15) rfl)
theorem tw_368 : (Cond.fieldLink RX8 20 "CarriedOneModel" "numberB" "[I") ∈ VT := inV11 _ (List.mem_of_getElem? (i := 16) rfl)
theorem tw_369 : (Cond.fieldLink RX8 26 "CarriedOneModel" "now" "[I") ∈ VT := inV11 _ (List.mem_of_getElem? (i := 17) rfl)
theorem tw_370 : (Cond.fieldLink RX8 96 "CarriedOneModel" "seen" "I") ∈ VT := inV11 _ (List.mem_of_getElem? (i := 18) rfl)
theorem tw_371 : (Cond.fieldLink RX8 29 "CarriedOneModel" "isKept" "[Z") ∈ VT := inV11 _ (List.mem_of_getElem? (i := 19) rfl)
theorem tw_372 : (Cond.code yX8_plain cX8_plain 2 none) ∈ VT := inV11 _ (List.mem_of_getElem? (i := 20) rfl)
theorem tw_373 : (Cond.methodLink RX8 45 yX8_plain) ∈ VT := inV11 _ (List.mem_of_getElem? (i := 21) rfl)
theorem tw_374 : (Cond.instanceMethod yX8_plain) ∈ VT := inV11 _ (List.mem_of_getElem? (i := 22) rfl)
theorem tw_375 : (Cond.selects RX8 yX8_plain yX8_plain) ∈ VT := inV11 _ (List.mem_of_getElem? (i := 23) rfl)
theorem tw_376 : (Cond.code yX8_mayBe cX8_mayBe 2 (some .boolean)) ∈ VT := inV11 _ (List.mem_of_getElem? (i := 24) rfl)
theorem tw_377 : (Cond.methodLink RX8 99 yX8_mayBe) ∈ VT := inV11 _ (List.mem_of_getElem? (i := 25) rfl)
theorem tw_378 : (Cond.instanceMethod yX8_mayBe) ∈ VT := inV11 _ (List.mem_of_getElem? (i := 26) rfl)
theorem tw_379 : (Cond.selects RX8 yX8_mayBe yX8_mayBe) ∈ VT := inV11 _ (List.mem_of_getElem? (i := 27) rfl)
theorem tw_380 : (Cond.code yX8_readRow cX8_readRow 4 none) ∈ VT := inV11 _ (List.mem_of_getElem? (i := 28) rfl)
theorem tw_381 : (Cond.methodLink RX8 103 yX8_readRow) ∈ VT := inV11 _ (List.mem_of_getElem? (i := 29) rfl)
theorem tw_382 : (Cond.instanceMethod yX8_readRow) ∈ VT := inV11 _ (List.mem_of_getElem? (i := 30) rfl)
theorem tw_383 : (Cond.selects RX8 yX8_readRow yX8_readRow) ∈ VT := inV11 _ (List.mem_of_getElem? (i := 31) rfl)
theorem tw_384 : (Cond.code yX8_takeDraft cX8_takeDraft 2 none) ∈ VT := inV12 _ (List.mem_of_getElem? (i := 0) rfl)
theorem tw_385 : (Cond.methodLink RX8 48 yX8_takeDraft) ∈ VT := inV12 _ (List.mem_of_getElem? (i := 1) rfl)
theorem tw_386 : (Cond.instanceMethod yX8_takeDraft) ∈ VT := inV12 _ (List.mem_of_getElem? (i := 2) rfl)
theorem tw_387 : (Cond.selects RX8 yX8_takeDraft yX8_takeDraft) ∈ VT := inV12 _ (List.mem_of_getElem? (i := 3) rfl)
theorem tw_388 : (Cond.code yX8_figure cX8_figure 4 (some .int)) ∈ VT := inV12 _ (List.mem_of_getElem? (i := 4) rfl)
theorem tw_389 : (Cond.methodLink RX8 107 yX8_figure) ∈ VT := inV12 _ (List.mem_of_getElem? (i := 5) rfl)
theorem tw_390 : (Cond.static yX8_figure) ∈ VT := inV12 _ (List.mem_of_getElem? (i := 6) rfl)
theorem tw_391 : (Cond.code yX8_sum cX8_sum 2 (some .int)) ∈ VT := inV12 _ (List.mem_of_getElem? (i := 7) rfl)
theorem tw_392 : (Cond.methodLink RX8 110 yX8_sum) ∈ VT := inV12 _ (List.mem_of_getElem? (i := 8) rfl)
theorem tw_393 : (Cond.instanceMethod yX8_sum) ∈ VT := inV12 _ (List.mem_of_getElem? (i := 9) rfl)
theorem tw_394 : (Cond.selects RX8 yX8_sum yX8_sum) ∈ VT := inV12 _ (List.mem_of_getElem? (i := 10) rfl)
theorem tw_395 : (Cond.code yX8_written cX8_written 3 (some .int)) ∈ VT := inV12 _ (List.mem_of_getElem? (i := 11) rfl)
theorem tw_396 : (Cond.methodLink RX8 114 yX8_written) ∈ VT := inV12 _ (List.mem_of_getElem? (i := 12) rfl)
theorem tw_397 : (Cond.instanceMethod yX8_written) ∈ VT := inV12 _ (List.mem_of_getElem? (i := 13) rfl)
theorem tw_398 : (Cond.selects RX8 yX8_written yX8_written) ∈ VT := inV12 _ (List.mem_of_getElem? (i := 14) rfl)
theorem tw_399 : (Cond.code yX8_manyOf cX8_manyOf 3 (some .int)) ∈ VT := inV12 _ (List.mem_of_getElem? (i := 15) rfl)
theorem tw_400 : (Cond.methodLink RX8 117 yX8_manyOf) ∈ VT := inV12 _ (List.mem_of_getElem? (i := 16) rfl)
theorem tw_401 : (Cond.static yX8_manyOf) ∈ VT := inV12 _ (List.mem_of_getElem? (i := 17) rfl)
theorem tw_402 : (Cond.code yX8_isBook cX8_isBook 2 (some .boolean)) ∈ VT := inV12 _ (List.mem_of_getElem? (i := 18) rfl)
theorem tw_403 : (Cond.methodLink RX8 120 yX8_isBook) ∈ VT := inV12 _ (List.mem_of_getElem? (i := 19) rfl)
theorem tw_404 : (Cond.instanceMethod yX8_isBook) ∈ VT := inV12 _ (List.mem_of_getElem? (i := 20) rfl)
theorem tw_405 : (Cond.selects RX8 yX8_isBook yX8_isBook) ∈ VT := inV12 _ (List.mem_of_getElem? (i := 21) rfl)
theorem tw_406 : (Cond.code yX8_shown cX8_shown 2 (some .int)) ∈ VT := inV12 _ (List.mem_of_getElem? (i := 22) rfl)
theorem tw_407 : (Cond.methodLink RX8 123 yX8_shown) ∈ VT := inV12 _ (List.mem_of_getElem? (i := 23) rfl)
theorem tw_408 : (Cond.instanceMethod yX8_shown) ∈ VT := inV12 _ (List.mem_of_getElem? (i := 24) rfl)
theorem tw_409 : (Cond.selects RX8 yX8_shown yX8_shown) ∈ VT := inV12 _ (List.mem_of_getElem? (i := 25) rfl)
theorem tw_410 : (Cond.code yX8_carries cX8_carries 4 (some .int)) ∈ VT := inV12 _ (List.mem_of_getElem? (i := 26) rfl)
theorem tw_411 : (Cond.methodLink RX8 126 yX8_carries) ∈ VT := inV12 _ (List.mem_of_getElem? (i := 27) rfl)
theorem tw_412 : (Cond.instanceMethod yX8_carries) ∈ VT := inV12 _ (List.mem_of_getElem? (i := 28) rfl)
theorem tw_413 : (Cond.selects RX8 yX8_carries yX8_carries) ∈ VT := inV12 _ (List.mem_of_getElem? (i := 29) rfl)
theorem tw_414 : (Cond.code yX8_know cX8_know 2 none) ∈ VT := inV12 _ (List.mem_of_getElem? (i := 30) rfl)
theorem tw_415 : (Cond.methodLink RX8 129 yX8_know) ∈ VT := inV12 _ (List.mem_of_getElem? (i := 31) rfl)
theorem tw_416 : (Cond.instanceMethod yX8_know) ∈ VT := inV13 _ (List.mem_of_getElem? (i := 0) rfl)
theorem tw_417 : (Cond.selects RX8 yX8_know yX8_know) ∈ VT := inV13 _ (List.mem_of_getElem? (i := 1) rfl)
theorem tw_418 : (Cond.code yX8_touches cX8_touches 3 (some .int)) ∈ VT := inV13 _ (List.mem_of_getElem? (i := 2) rfl)
theorem tw_419 : (Cond.methodLink RX8 132 yX8_touches) ∈ VT := inV13 _ (List.mem_of_getElem? (i := 3) rfl)
theorem tw_420 : (Cond.instanceMethod yX8_touches) ∈ VT := inV13 _ (List.mem_of_getElem? (i := 4) rfl)
theorem tw_421 : (Cond.selects RX8 yX8_touches yX8_touches) ∈ VT := inV13 _ (List.mem_of_getElem? (i := 5) rfl)
theorem tw_422 : (Cond.fieldLink RX8 33 "CarriedOneModel" "near" "[I") ∈ VT := inV13 _ (List.mem_of_getElem? (i := 6) rfl)
theorem tw_423 : (Cond.code yX8_tens cX8_tens 1 (some .int)) ∈ VT := inV13 _ (List.mem_of_getElem? (i := 7) rfl)
theorem tw_424 : (Cond.methodLink RX8 135 yX8_tens) ∈ VT := inV13 _ (List.mem_of_getElem? (i := 8) rfl)
theorem tw_425 : (Cond.static yX8_tens) ∈ VT := inV13 _ (List.mem_of_getElem? (i := 9) rfl)
theorem tw_426 : (Cond.code yX8_goesTo cX8_goesTo 6 (some .int)) ∈ VT := inV13 _ (List.mem_of_getElem? (i := 10) rfl)
theorem tw_427 : (Cond.methodLink RX8 138 yX8_goesTo) ∈ VT := inV13 _ (List.mem_of_getElem? (i := 11) rfl)
theorem tw_428 : (Cond.instanceMethod yX8_goesTo) ∈ VT := inV13 _ (List.mem_of_getElem? (i := 12) rfl)
theorem tw_429 : (Cond.selects RX8 yX8_goesTo yX8_goesTo) ∈ VT := inV13 _ (List.mem_of_getElem? (i := 13) rfl)
theorem tw_430 : (Cond.code yX8_takeNear cX8_takeNear 2 none) ∈ VT := inV13 _ (List.mem_of_getElem? (i := 14) rfl)
theorem tw_431 : (Cond.methodLink RX8 141 yX8_takeNear) ∈ VT := inV13 _ (List.mem_of_getElem? (i := 15) rfl)
theorem tw_432 : (Cond.instanceMethod yX8_takeNear) ∈ VT := inV13 _ (List.mem_of_getElem? (i := 16) rfl)
theorem tw_433 : (Cond.selects RX8 yX8_takeNear yX8_takeNear) ∈ VT := inV13 _ (List.mem_of_getElem? (i := 17) rfl)
theorem tw_434 : (Cond.code yX8_goesIn cX8_goesIn 5 (some .int)) ∈ VT := inV13 _ (List.mem_of_getElem? (i := 18) rfl)
theorem tw_435 : (Cond.methodLink RX8 144 yX8_goesIn) ∈ VT := inV13 _ (List.mem_of_getElem? (i := 19) rfl)
theorem tw_436 : (Cond.instanceMethod yX8_goesIn) ∈ VT := inV13 _ (List.mem_of_getElem? (i := 20) rfl)
theorem tw_437 : (Cond.selects RX8 yX8_goesIn yX8_goesIn) ∈ VT := inV13 _ (List.mem_of_getElem? (i := 21) rfl)
theorem tw_438 : (Cond.code yX8_turn cX8_turn 3 none) ∈ VT := inV13 _ (List.mem_of_getElem? (i := 22) rfl)
theorem tw_439 : (Cond.methodLink RX8 147 yX8_turn) ∈ VT := inV13 _ (List.mem_of_getElem? (i := 23) rfl)
theorem tw_440 : (Cond.instanceMethod yX8_turn) ∈ VT := inV13 _ (List.mem_of_getElem? (i := 24) rfl)
theorem tw_441 : (Cond.selects RX8 yX8_turn yX8_turn) ∈ VT := inV13 _ (List.mem_of_getElem? (i := 25) rfl)
theorem tw_442 : (Cond.code yX8_isLured cX8_isLured 5 (some .boolean)) ∈ VT := inV13 _ (List.mem_of_getElem? (i := 26) rfl)
theorem tw_443 : (Cond.methodLink RX8 151 yX8_isLured) ∈ VT := inV13 _ (List.mem_of_getElem? (i := 27) rfl)
theorem tw_444 : (Cond.instanceMethod yX8_isLured) ∈ VT := inV13 _ (List.mem_of_getElem? (i := 28) rfl)
theorem tw_445 : (Cond.selects RX8 yX8_isLured yX8_isLured) ∈ VT := inV13 _ (List.mem_of_getElem? (i := 29) rfl)
theorem tw_446 : (Cond.code yX8_isLess cX8_isLess 2 (some .boolean)) ∈ VT := inV13 _ (List.mem_of_getElem? (i := 30) rfl)
theorem tw_447 : (Cond.methodLink RX8 155 yX8_isLess) ∈ VT := inV13 _ (List.mem_of_getElem? (i := 31) rfl)
theorem tw_448 : (Cond.instanceMethod yX8_isLess) ∈ VT := inV14 _ (List.mem_of_getElem? (i := 0) rfl)
theorem tw_449 : (Cond.selects RX8 yX8_isLess yX8_isLess) ∈ VT := inV14 _ (List.mem_of_getElem? (i := 1) rfl)
theorem tw_450 : (Cond.code yX8_told cX8_told 1 (some .int)) ∈ VT := inV14 _ (List.mem_of_getElem? (i := 2) rfl)
theorem tw_451 : (Cond.methodLink RX8 158 yX8_told) ∈ VT := inV14 _ (List.mem_of_getElem? (i := 3) rfl)
theorem tw_452 : (Cond.static yX8_told) ∈ VT := inV14 _ (List.mem_of_getElem? (i := 4) rfl)
theorem tw_453 : (Cond.code yX8_touching cX8_touching 5 (some .int)) ∈ VT := inV14 _ (List.mem_of_getElem? (i := 5) rfl)
theorem tw_454 : (Cond.methodLink RX8 161 yX8_touching) ∈ VT := inV14 _ (List.mem_of_getElem? (i := 6) rfl)
theorem tw_455 : (Cond.instanceMethod yX8_touching) ∈ VT := inV14 _ (List.mem_of_getElem? (i := 7) rfl)
theorem tw_456 : (Cond.selects RX8 yX8_touching yX8_touching) ∈ VT := inV14 _ (List.mem_of_getElem? (i := 8) rfl)
theorem tw_457 : (Cond.code yX8_layApart cX8_layApart 5 none) ∈ VT := inV14 _ (List.mem_of_getElem? (i := 9) rfl)
theorem tw_458 : (Cond.methodLink RX8 164 yX8_layApart) ∈ VT := inV14 _ (List.mem_of_getElem? (i := 10) rfl)
theorem tw_459 : (Cond.instanceMethod yX8_layApart) ∈ VT := inV14 _ (List.mem_of_getElem? (i := 11) rfl)
theorem tw_460 : (Cond.selects RX8 yX8_layApart yX8_layApart) ∈ VT := inV14 _ (List.mem_of_getElem? (i := 12) rfl)
theorem tw_461 : (Cond.code yX8_everComes cX8_everComes 5 (some .boolean)) ∈ VT := inV14 _ (List.mem_of_getElem? (i := 13) rfl)
theorem tw_462 : (Cond.methodLink RX8 167 yX8_everComes) ∈ VT := inV14 _ (List.mem_of_getElem? (i := 14) rfl)
theorem tw_463 : (Cond.instanceMethod yX8_everComes) ∈ VT := inV14 _ (List.mem_of_getElem? (i := 15) rfl)
theorem tw_464 : (Cond.selects RX8 yX8_everComes yX8_everComes) ∈ VT := inV14 _ (List.mem_of_getElem? (i := 16) rfl)
theorem tw_465 : (Cond.code yX8_part cX8_part 6 (some .int)) ∈ VT := inV14 _ (List.mem_of_getElem? (i := 17) rfl)
theorem tw_466 : (Cond.methodLink RX8 170 yX8_part) ∈ VT := inV14 _ (List.mem_of_getElem? (i := 18) rfl)
theorem tw_467 : (Cond.static yX8_part) ∈ VT := inV14 _ (List.mem_of_getElem? (i := 19) rfl)
theorem tw_468 : (Cond.fieldLink RX8 36 "CarriedOneModel" "seenDays" "[I") ∈ VT := inV14 _ (List.mem_of_getElem? (i := 20) rfl)
theorem tw_469 : (Cond.fieldLink RX8 39 "CarriedOneModel" "seenBook" "[I") ∈ VT := inV14 _ (List.mem_of_getElem? (i := 21) rfl)
theorem tw_470 : (Cond.fieldLink RX8 42 "CarriedOneModel" "seenIs" "[I") ∈ VT := inV14 _ (List.mem_of_getElem? (i := 22) rfl)
theorem tw_471 : (Cond.code yX8_isHidden cX8_isHidden 2 (some .int)) ∈ VT := inV14 _ (List.mem_of_getElem? (i := 23) rfl)
theorem tw_472 : (Cond.methodLink RX8 174 yX8_isHidden) ∈ VT := inV14 _ (List.mem_of_getElem? (i := 24) rfl)
theorem tw_473 : (Cond.static yX8_isHidden) ∈ VT := inV14 _ (List.mem_of_getElem? (i := 25) rfl)
theorem tw_474 : (Cond.fieldLink RX8 177 "CarriedOneModel" "sets" "I") ∈ VT := inV14 _ (List.mem_of_getElem? (i := 26) rfl)
theorem tw_475 : (Cond.fieldLink RX8 180 "CarriedOneModel" "inEach" "I") ∈ VT := inV14 _ (List.mem_of_getElem? (i := 27) rfl)
theorem tw_476 : (Cond.fieldLink RX8 183 "CarriedOneModel" "inSome" "I") ∈ VT := inV14 _ (List.mem_of_getElem? (i := 28) rfl)
theorem tw_477 : (Cond.code yX8_now cX8_now 8 (some .int)) ∈ VT := inV14 _ (List.mem_of_getElem? (i := 29) rfl)
theorem tw_478 : (Cond.methodLink RX8 186 yX8_now) ∈ VT := inV14 _ (List.mem_of_getElem? (i := 30) rfl)
theorem tw_479 : (Cond.instanceMethod yX8_now) ∈ VT := inV14 _ (List.mem_of_getElem? (i := 31) rfl)
theorem tw_480 : (Cond.selects RX8 yX8_now yX8_now) ∈ VT := inV15 _ (List.mem_of_getElem? (i := 0) rfl)
theorem tw_481 : (Cond.code yX8_look cX8_look 8 none) ∈ VT := inV15 _ (List.mem_of_getElem? (i := 1) rfl)
theorem tw_482 : (Cond.methodLink RX8 188 yX8_look) ∈ VT := inV15 _ (List.mem_of_getElem? (i := 2) rfl)
theorem tw_483 : (Cond.instanceMethod yX8_look) ∈ VT := inV15 _ (List.mem_of_getElem? (i := 3) rfl)
theorem tw_484 : (Cond.selects RX8 yX8_look yX8_look) ∈ VT := inV15 _ (List.mem_of_getElem? (i := 4) rfl)
theorem tw_485 : (Cond.constant RX8 191 (-1000000)) ∈ VT := inV15 _ (List.mem_of_getElem? (i := 5) rfl)
theorem tw_486 : (Cond.fieldLink RX8 192 "CarriedOneModel" "trace" "J") ∈ VT := inV15 _ (List.mem_of_getElem? (i := 6) rfl)
theorem tw_487 : (Cond.constantLong RX8 196 (11)) ∈ VT := inV15 _ (List.mem_of_getElem? (i := 7) rfl)
theorem tw_488 : (Cond.constantLong RX8 198 (101)) ∈ VT := inV15 _ (List.mem_of_getElem? (i := 8) rfl)
theorem tw_489 : (Cond.constantLong RX8 200 (1011)) ∈ VT := inV15 _ (List.mem_of_getElem? (i := 9) rfl)
theorem tw_490 : (Cond.constantLong RX8 202 (10101)) ∈ VT := inV15 _ (List.mem_of_getElem? (i := 10) rfl)
theorem tw_491 : (Cond.constantLong RX8 204 (100001)) ∈ VT := inV15 _ (List.mem_of_getElem? (i := 11) rfl)
theorem tw_492 : (Cond.code yX7_imageOf cX7_imageOf 2 (some (.object "CarriedOne$Image"))) ∈ VT := inV15 _ (List.mem_of_getElem? (i := 12) rfl)
theorem tw_493 : (Cond.methodLink RX7 264 yX7_imageOf) ∈ VT := inV15 _ (List.mem_of_getElem? (i := 13) rfl)
theorem tw_494 : (Cond.instanceMethod yX7_imageOf) ∈ VT := inV15 _ (List.mem_of_getElem? (i := 14) rfl)
theorem tw_495 : (Cond.selects RX7 yX7_imageOf yX7_imageOf) ∈ VT := inV15 _ (List.mem_of_getElem? (i := 15) rfl)
theorem tw_496 : (Cond.initialized RX2) ∈ VT := inV15 _ (List.mem_of_getElem? (i := 16) rfl)
theorem tw_497 : (Cond.code yX2_fill cX2_fill 3 none) ∈ VT := inV15 _ (List.mem_of_getElem? (i := 17) rfl)
theorem tw_498 : (Cond.instanceMethod yX2_fill) ∈ VT := inV15 _ (List.mem_of_getElem? (i := 18) rfl)
theorem tw_499 : (Cond.selects RX2 yX2_fill yX2_fill) ∈ VT := inV15 _ (List.mem_of_getElem? (i := 19) rfl)
theorem tw_500 : (Cond.code yX2_restore cX2_restore 3 none) ∈ VT := inV15 _ (List.mem_of_getElem? (i := 20) rfl)
theorem tw_501 : (Cond.instanceMethod yX2_restore) ∈ VT := inV15 _ (List.mem_of_getElem? (i := 21) rfl)
theorem tw_502 : (Cond.selects RX2 yX2_restore yX2_restore) ∈ VT := inV15 _ (List.mem_of_getElem? (i := 22) rfl)
theorem tw_503 : (Cond.methodLink RX5 3 objectInit) ∈ VT := inV15 _ (List.mem_of_getElem? (i := 23) rfl)
theorem tw_504 : (Cond.instanceMethod objectInit) ∈ VT := inV15 _ (List.mem_of_getElem? (i := 24) rfl)
theorem tw_505 : (Cond.code objectInit ⟨#[0xb1]⟩ 1 none) ∈ VT := inV15 _ (List.mem_of_getElem? (i := 25) rfl)
theorem tw_506 : (Cond.arrayClass .int) ∈ VT := inV15 _ (List.mem_of_getElem? (i := 26) rfl)
theorem tw_507 : (Cond.methodLink RX0 3 objectInit) ∈ VT := inV15 _ (List.mem_of_getElem? (i := 27) rfl)
theorem tw_508 : (Cond.methodLink RX3 3 objectInit) ∈ VT := inV15 _ (List.mem_of_getElem? (i := 28) rfl)
theorem tw_509 : (Cond.methodLink RX1 3 objectInit) ∈ VT := inV15 _ (List.mem_of_getElem? (i := 29) rfl)
theorem tw_510 : (Cond.arrayClass .long) ∈ VT := inV15 _ (List.mem_of_getElem? (i := 30) rfl)
theorem tw_511 : (Cond.methodLink RX2 1 objectInit) ∈ VT := inV15 _ (List.mem_of_getElem? (i := 31) rfl)
theorem tw_512 : (Cond.classLink RX2 7 RX1) ∈ VT := inV16 _ (List.mem_of_getElem? (i := 0) rfl)
theorem tw_513 : (Cond.instantiable RX1 2) ∈ VT := inV16 _ (List.mem_of_getElem? (i := 1) rfl)
theorem tw_514 : (Cond.code yX1_init cX1_init 1 none) ∈ VT := inV16 _ (List.mem_of_getElem? (i := 2) rfl)
theorem tw_515 : (Cond.instanceMethod yX1_init) ∈ VT := inV16 _ (List.mem_of_getElem? (i := 3) rfl)
theorem tw_516 : (Cond.methodLink RX4 3 objectInit) ∈ VT := inV16 _ (List.mem_of_getElem? (i := 4) rfl)
theorem tw_517 : (Cond.arrayClass .boolean) ∈ VT := inV16 _ (List.mem_of_getElem? (i := 5) rfl)
theorem tw_518 : (Cond.methodLink RX6 3 objectInit) ∈ VT := inV16 _ (List.mem_of_getElem? (i := 6) rfl)
theorem tw_519 : (Cond.methodLink RX7 1 objectInit) ∈ VT := inV16 _ (List.mem_of_getElem? (i := 7) rfl)
theorem tw_520 : (Cond.classLink RX7 7 RX5) ∈ VT := inV16 _ (List.mem_of_getElem? (i := 8) rfl)
theorem tw_521 : (Cond.instantiable RX5 6) ∈ VT := inV16 _ (List.mem_of_getElem? (i := 9) rfl)
theorem tw_522 : (Cond.code yX5_init cX5_init 1 none) ∈ VT := inV16 _ (List.mem_of_getElem? (i := 10) rfl)
theorem tw_523 : (Cond.instanceMethod yX5_init) ∈ VT := inV16 _ (List.mem_of_getElem? (i := 11) rfl)
theorem tw_524 : (Cond.classLink RX7 16 RX0) ∈ VT := inV16 _ (List.mem_of_getElem? (i := 12) rfl)
theorem tw_525 : (Cond.instantiable RX0 5) ∈ VT := inV16 _ (List.mem_of_getElem? (i := 13) rfl)
theorem tw_526 : (Cond.code yX0_init cX0_init 1 none) ∈ VT := inV16 _ (List.mem_of_getElem? (i := 14) rfl)
theorem tw_527 : (Cond.instanceMethod yX0_init) ∈ VT := inV16 _ (List.mem_of_getElem? (i := 15) rfl)
theorem tw_528 : (Cond.classLink RX7 26 RX3) ∈ VT := inV16 _ (List.mem_of_getElem? (i := 16) rfl)
theorem tw_529 : (Cond.instantiable RX3 5) ∈ VT := inV16 _ (List.mem_of_getElem? (i := 17) rfl)
theorem tw_530 : (Cond.code yX3_init cX3_init 1 none) ∈ VT := inV16 _ (List.mem_of_getElem? (i := 18) rfl)
theorem tw_531 : (Cond.instanceMethod yX3_init) ∈ VT := inV16 _ (List.mem_of_getElem? (i := 19) rfl)
theorem tw_532 : (Cond.classLink RX7 33 RX1) ∈ VT := inV16 _ (List.mem_of_getElem? (i := 20) rfl)
theorem tw_533 : (Cond.classLink RX7 40 RX2) ∈ VT := inV16 _ (List.mem_of_getElem? (i := 21) rfl)
theorem tw_534 : (Cond.instantiable RX2 3) ∈ VT := inV16 _ (List.mem_of_getElem? (i := 22) rfl)
theorem tw_535 : (Cond.code yX2_init cX2_init 1 none) ∈ VT := inV16 _ (List.mem_of_getElem? (i := 23) rfl)
theorem tw_536 : (Cond.instanceMethod yX2_init) ∈ VT := inV16 _ (List.mem_of_getElem? (i := 24) rfl)
theorem tw_537 : (Cond.classLink RX7 50 RX4) ∈ VT := inV16 _ (List.mem_of_getElem? (i := 25) rfl)
theorem tw_538 : (Cond.instantiable RX4 4) ∈ VT := inV16 _ (List.mem_of_getElem? (i := 26) rfl)
theorem tw_539 : (Cond.code yX4_init cX4_init 1 none) ∈ VT := inV16 _ (List.mem_of_getElem? (i := 27) rfl)
theorem tw_540 : (Cond.instanceMethod yX4_init) ∈ VT := inV16 _ (List.mem_of_getElem? (i := 28) rfl)
theorem tw_541 : (Cond.classLink RX7 57 RX6) ∈ VT := inV16 _ (List.mem_of_getElem? (i := 29) rfl)
theorem tw_542 : (Cond.instantiable RX6 4) ∈ VT := inV16 _ (List.mem_of_getElem? (i := 30) rfl)
theorem tw_543 : (Cond.code yX6_init cX6_init 1 none) ∈ VT := inV16 _ (List.mem_of_getElem? (i := 31) rfl)
theorem tw_544 : (Cond.instanceMethod yX6_init) ∈ VT := inV17 _ (List.mem_of_getElem? (i := 0) rfl)
theorem tw_545 : (Cond.methodLink RX8 1 objectInit) ∈ VT := inV17 _ (List.mem_of_getElem? (i := 1) rfl)
theorem tw_546 : (Cond.arrayClass .byte) ∈ VT := inV17 _ (List.mem_of_getElem? (i := 2) rfl)
theorem hd_X0_empty : yX0_empty.cls = RX0 ∧ yX0_empty.cls ≠ "java/lang/invoke/MethodHandle" ∧ yX0_empty.cls ≠ "java/lang/invoke/VarHandle" ∧ (parseMethodDescriptor yX0_empty.desc).map (fun d => d.parameters.length) = some 0 := by decide +kernel
theorem hd_X0_copyFrom : yX0_copyFrom.cls = RX0 ∧ yX0_copyFrom.cls ≠ "java/lang/invoke/MethodHandle" ∧ yX0_copyFrom.cls ≠ "java/lang/invoke/VarHandle" ∧ (parseMethodDescriptor yX0_copyFrom.desc).map (fun d => d.parameters.length) = some 1 := by decide +kernel
theorem hd_X0_append : yX0_append.cls = RX0 ∧ yX0_append.cls ≠ "java/lang/invoke/MethodHandle" ∧ yX0_append.cls ≠ "java/lang/invoke/VarHandle" ∧ (parseMethodDescriptor yX0_append.desc).map (fun d => d.parameters.length) = some 2 := by decide +kernel
theorem hd_X0_sum : yX0_sum.cls = RX0 ∧ yX0_sum.cls ≠ "java/lang/invoke/MethodHandle" ∧ yX0_sum.cls ≠ "java/lang/invoke/VarHandle" ∧ (parseMethodDescriptor yX0_sum.desc).map (fun d => d.parameters.length) = some 1 := by decide +kernel
theorem hd_X0_carries : yX0_carries.cls = RX0 ∧ yX0_carries.cls ≠ "java/lang/invoke/MethodHandle" ∧ yX0_carries.cls ≠ "java/lang/invoke/VarHandle" ∧ (parseMethodDescriptor yX0_carries.desc).map (fun d => d.parameters.length) = some 1 := by decide +kernel
theorem hd_X1_append : yX1_append.cls = RX1 ∧ yX1_append.cls ≠ "java/lang/invoke/MethodHandle" ∧ yX1_append.cls ≠ "java/lang/invoke/VarHandle" ∧ (parseMethodDescriptor yX1_append.desc).map (fun d => d.parameters.length) = some 1 := by decide +kernel
theorem hd_X1_takeLatest : yX1_takeLatest.cls = RX1 ∧ yX1_takeLatest.cls ≠ "java/lang/invoke/MethodHandle" ∧ yX1_takeLatest.cls ≠ "java/lang/invoke/VarHandle" ∧ (parseMethodDescriptor yX1_takeLatest.desc).map (fun d => d.parameters.length) = some 0 := by decide +kernel
theorem hd_X1_copyFrom : yX1_copyFrom.cls = RX1 ∧ yX1_copyFrom.cls ≠ "java/lang/invoke/MethodHandle" ∧ yX1_copyFrom.cls ≠ "java/lang/invoke/VarHandle" ∧ (parseMethodDescriptor yX1_copyFrom.desc).map (fun d => d.parameters.length) = some 1 := by decide +kernel
theorem hd_X3_packed : yX3_packed.cls = RX3 ∧ yX3_packed.cls ≠ "java/lang/invoke/MethodHandle" ∧ yX3_packed.cls ≠ "java/lang/invoke/VarHandle" ∧ (parseMethodDescriptor yX3_packed.desc).map (fun d => d.parameters.length) = some 0 := by decide +kernel
theorem hd_X2_fill : yX2_fill.cls = RX2 ∧ yX2_fill.cls ≠ "java/lang/invoke/MethodHandle" ∧ yX2_fill.cls ≠ "java/lang/invoke/VarHandle" ∧ (parseMethodDescriptor yX2_fill.desc).map (fun d => d.parameters.length) = some 2 := by decide +kernel
theorem hd_X3_lowest : yX3_lowest.cls = RX3 ∧ yX3_lowest.cls ≠ "java/lang/invoke/MethodHandle" ∧ yX3_lowest.cls ≠ "java/lang/invoke/VarHandle" ∧ (parseMethodDescriptor yX3_lowest.desc).map (fun d => d.parameters.length) = some 2 := by decide +kernel
theorem hd_X3_unpack : yX3_unpack.cls = RX3 ∧ yX3_unpack.cls ≠ "java/lang/invoke/MethodHandle" ∧ yX3_unpack.cls ≠ "java/lang/invoke/VarHandle" ∧ (parseMethodDescriptor yX3_unpack.desc).map (fun d => d.parameters.length) = some 1 := by decide +kernel
theorem hd_X2_restore : yX2_restore.cls = RX2 ∧ yX2_restore.cls ≠ "java/lang/invoke/MethodHandle" ∧ yX2_restore.cls ≠ "java/lang/invoke/VarHandle" ∧ (parseMethodDescriptor yX2_restore.desc).map (fun d => d.parameters.length) = some 2 := by decide +kernel
theorem hd_X3_begin : yX3_begin.cls = RX3 ∧ yX3_begin.cls ≠ "java/lang/invoke/MethodHandle" ∧ yX3_begin.cls ≠ "java/lang/invoke/VarHandle" ∧ (parseMethodDescriptor yX3_begin.desc).map (fun d => d.parameters.length) = some 1 := by decide +kernel
theorem hd_X3_forgottenIn : yX3_forgottenIn.cls = RX3 ∧ yX3_forgottenIn.cls ≠ "java/lang/invoke/MethodHandle" ∧ yX3_forgottenIn.cls ≠ "java/lang/invoke/VarHandle" ∧ (parseMethodDescriptor yX3_forgottenIn.desc).map (fun d => d.parameters.length) = some 1 := by decide +kernel
theorem hd_X3_isTrap : yX3_isTrap.cls = RX3 ∧ yX3_isTrap.cls ≠ "java/lang/invoke/MethodHandle" ∧ yX3_isTrap.cls ≠ "java/lang/invoke/VarHandle" ∧ (parseMethodDescriptor yX3_isTrap.desc).map (fun d => d.parameters.length) = some 1 := by decide +kernel
theorem hd_X4_append : yX4_append.cls = RX4 ∧ yX4_append.cls ≠ "java/lang/invoke/MethodHandle" ∧ yX4_append.cls ≠ "java/lang/invoke/VarHandle" ∧ (parseMethodDescriptor yX4_append.desc).map (fun d => d.parameters.length) = some 3 := by decide +kernel
theorem hd_X5_append : yX5_append.cls = RX5 ∧ yX5_append.cls ≠ "java/lang/invoke/MethodHandle" ∧ yX5_append.cls ≠ "java/lang/invoke/VarHandle" ∧ (parseMethodDescriptor yX5_append.desc).map (fun d => d.parameters.length) = some 1 := by decide +kernel
theorem hd_X7_within : yX7_within.cls = RX7 ∧ yX7_within.cls ≠ "java/lang/invoke/MethodHandle" ∧ yX7_within.cls ≠ "java/lang/invoke/VarHandle" ∧ (parseMethodDescriptor yX7_within.desc).map (fun d => d.parameters.length) = some 3 := by decide +kernel
theorem hd_X5_stepOverAll : yX5_stepOverAll.cls = RX5 ∧ yX5_stepOverAll.cls ≠ "java/lang/invoke/MethodHandle" ∧ yX5_stepOverAll.cls ≠ "java/lang/invoke/VarHandle" ∧ (parseMethodDescriptor yX5_stepOverAll.desc).map (fun d => d.parameters.length) = some 2 := by decide +kernel
theorem hd_X5_isNumber : yX5_isNumber.cls = RX5 ∧ yX5_isNumber.cls ≠ "java/lang/invoke/MethodHandle" ∧ yX5_isNumber.cls ≠ "java/lang/invoke/VarHandle" ∧ (parseMethodDescriptor yX5_isNumber.desc).map (fun d => d.parameters.length) = some 1 := by decide +kernel
theorem hd_X5_valueOfFigures : yX5_valueOfFigures.cls = RX5 ∧ yX5_valueOfFigures.cls ≠ "java/lang/invoke/MethodHandle" ∧ yX5_valueOfFigures.cls ≠ "java/lang/invoke/VarHandle" ∧ (parseMethodDescriptor yX5_valueOfFigures.desc).map (fun d => d.parameters.length) = some 0 := by decide +kernel
theorem hd_X5_step : yX5_step.cls = RX5 ∧ yX5_step.cls ≠ "java/lang/invoke/MethodHandle" ∧ yX5_step.cls ≠ "java/lang/invoke/VarHandle" ∧ (parseMethodDescriptor yX5_step.desc).map (fun d => d.parameters.length) = some 0 := by decide +kernel
theorem hd_X5_readNumber : yX5_readNumber.cls = RX5 ∧ yX5_readNumber.cls ≠ "java/lang/invoke/MethodHandle" ∧ yX5_readNumber.cls ≠ "java/lang/invoke/VarHandle" ∧ (parseMethodDescriptor yX5_readNumber.desc).map (fun d => d.parameters.length) = some 1 := by decide +kernel
theorem hd_X5_readSemicolon : yX5_readSemicolon.cls = RX5 ∧ yX5_readSemicolon.cls ≠ "java/lang/invoke/MethodHandle" ∧ yX5_readSemicolon.cls ≠ "java/lang/invoke/VarHandle" ∧ (parseMethodDescriptor yX5_readSemicolon.desc).map (fun d => d.parameters.length) = some 0 := by decide +kernel
theorem hd_X5_readBook : yX5_readBook.cls = RX5 ∧ yX5_readBook.cls ≠ "java/lang/invoke/MethodHandle" ∧ yX5_readBook.cls ≠ "java/lang/invoke/VarHandle" ∧ (parseMethodDescriptor yX5_readBook.desc).map (fun d => d.parameters.length) = some 1 := by decide +kernel
theorem hd_X7_touchBit : yX7_touchBit.cls = RX7 ∧ yX7_touchBit.cls ≠ "java/lang/invoke/MethodHandle" ∧ yX7_touchBit.cls ≠ "java/lang/invoke/VarHandle" ∧ (parseMethodDescriptor yX7_touchBit.desc).map (fun d => d.parameters.length) = some 2 := by decide +kernel
theorem hd_X5_readTouch : yX5_readTouch.cls = RX5 ∧ yX5_readTouch.cls ≠ "java/lang/invoke/MethodHandle" ∧ yX5_readTouch.cls ≠ "java/lang/invoke/VarHandle" ∧ (parseMethodDescriptor yX5_readTouch.desc).map (fun d => d.parameters.length) = some 1 := by decide +kernel
theorem hd_X5_readOne : yX5_readOne.cls = RX5 ∧ yX5_readOne.cls ≠ "java/lang/invoke/MethodHandle" ∧ yX5_readOne.cls ≠ "java/lang/invoke/VarHandle" ∧ (parseMethodDescriptor yX5_readOne.desc).map (fun d => d.parameters.length) = some 1 := by decide +kernel
theorem hd_X5_readItem : yX5_readItem.cls = RX5 ∧ yX5_readItem.cls ≠ "java/lang/invoke/MethodHandle" ∧ yX5_readItem.cls ≠ "java/lang/invoke/VarHandle" ∧ (parseMethodDescriptor yX5_readItem.desc).map (fun d => d.parameters.length) = some 1 := by decide +kernel
theorem hd_X5_readItems : yX5_readItems.cls = RX5 ∧ yX5_readItems.cls ≠ "java/lang/invoke/MethodHandle" ∧ yX5_readItems.cls ≠ "java/lang/invoke/VarHandle" ∧ (parseMethodDescriptor yX5_readItems.desc).map (fun d => d.parameters.length) = some 1 := by decide +kernel
theorem hd_X6_rank : yX6_rank.cls = RX6 ∧ yX6_rank.cls ≠ "java/lang/invoke/MethodHandle" ∧ yX6_rank.cls ≠ "java/lang/invoke/VarHandle" ∧ (parseMethodDescriptor yX6_rank.desc).map (fun d => d.parameters.length) = some 2 := by decide +kernel
theorem hd_X6_goesTo : yX6_goesTo.cls = RX6 ∧ yX6_goesTo.cls ≠ "java/lang/invoke/MethodHandle" ∧ yX6_goesTo.cls ≠ "java/lang/invoke/VarHandle" ∧ (parseMethodDescriptor yX6_goesTo.desc).map (fun d => d.parameters.length) = some 2 := by decide +kernel
theorem hd_X6_walk : yX6_walk.cls = RX6 ∧ yX6_walk.cls ≠ "java/lang/invoke/MethodHandle" ∧ yX6_walk.cls ≠ "java/lang/invoke/VarHandle" ∧ (parseMethodDescriptor yX6_walk.desc).map (fun d => d.parameters.length) = some 3 := by decide +kernel
theorem hd_X6_comesTo : yX6_comesTo.cls = RX6 ∧ yX6_comesTo.cls ≠ "java/lang/invoke/MethodHandle" ∧ yX6_comesTo.cls ≠ "java/lang/invoke/VarHandle" ∧ (parseMethodDescriptor yX6_comesTo.desc).map (fun d => d.parameters.length) = some 3 := by decide +kernel
theorem hd_X6_lengthOfRound : yX6_lengthOfRound.cls = RX6 ∧ yX6_lengthOfRound.cls ≠ "java/lang/invoke/MethodHandle" ∧ yX6_lengthOfRound.cls ≠ "java/lang/invoke/VarHandle" ∧ (parseMethodDescriptor yX6_lengthOfRound.desc).map (fun d => d.parameters.length) = some 2 := by decide +kernel
theorem hd_X6_daysToRound : yX6_daysToRound.cls = RX6 ∧ yX6_daysToRound.cls ≠ "java/lang/invoke/MethodHandle" ∧ yX6_daysToRound.cls ≠ "java/lang/invoke/VarHandle" ∧ (parseMethodDescriptor yX6_daysToRound.desc).map (fun d => d.parameters.length) = some 3 := by decide +kernel
theorem hd_X7_type : yX7_type.cls = RX7 ∧ yX7_type.cls ≠ "java/lang/invoke/MethodHandle" ∧ yX7_type.cls ≠ "java/lang/invoke/VarHandle" ∧ (parseMethodDescriptor yX7_type.desc).map (fun d => d.parameters.length) = some 1 := by decide +kernel
theorem hd_X7_clear : yX7_clear.cls = RX7 ∧ yX7_clear.cls ≠ "java/lang/invoke/MethodHandle" ∧ yX7_clear.cls ≠ "java/lang/invoke/VarHandle" ∧ (parseMethodDescriptor yX7_clear.desc).map (fun d => d.parameters.length) = some 0 := by decide +kernel
theorem hd_X7_books : yX7_books.cls = RX7 ∧ yX7_books.cls ≠ "java/lang/invoke/MethodHandle" ∧ yX7_books.cls ≠ "java/lang/invoke/VarHandle" ∧ (parseMethodDescriptor yX7_books.desc).map (fun d => d.parameters.length) = some 0 := by decide +kernel
theorem hd_X7_isBook : yX7_isBook.cls = RX7 ∧ yX7_isBook.cls ≠ "java/lang/invoke/MethodHandle" ∧ yX7_isBook.cls ≠ "java/lang/invoke/VarHandle" ∧ (parseMethodDescriptor yX7_isBook.desc).map (fun d => d.parameters.length) = some 1 := by decide +kernel
theorem hd_X7_written : yX7_written.cls = RX7 ∧ yX7_written.cls ≠ "java/lang/invoke/MethodHandle" ∧ yX7_written.cls ≠ "java/lang/invoke/VarHandle" ∧ (parseMethodDescriptor yX7_written.desc).map (fun d => d.parameters.length) = some 1 := by decide +kernel
theorem hd_X7_shown : yX7_shown.cls = RX7 ∧ yX7_shown.cls ≠ "java/lang/invoke/MethodHandle" ∧ yX7_shown.cls ≠ "java/lang/invoke/VarHandle" ∧ (parseMethodDescriptor yX7_shown.desc).map (fun d => d.parameters.length) = some 1 := by decide +kernel
theorem hd_X7_neighbours : yX7_neighbours.cls = RX7 ∧ yX7_neighbours.cls ≠ "java/lang/invoke/MethodHandle" ∧ yX7_neighbours.cls ≠ "java/lang/invoke/VarHandle" ∧ (parseMethodDescriptor yX7_neighbours.desc).map (fun d => d.parameters.length) = some 1 := by decide +kernel
theorem hd_X7_book : yX7_book.cls = RX7 ∧ yX7_book.cls ≠ "java/lang/invoke/MethodHandle" ∧ yX7_book.cls ≠ "java/lang/invoke/VarHandle" ∧ (parseMethodDescriptor yX7_book.desc).map (fun d => d.parameters.length) = some 2 := by decide +kernel
theorem hd_X7_remember : yX7_remember.cls = RX7 ∧ yX7_remember.cls ≠ "java/lang/invoke/MethodHandle" ∧ yX7_remember.cls ≠ "java/lang/invoke/VarHandle" ∧ (parseMethodDescriptor yX7_remember.desc).map (fun d => d.parameters.length) = some 0 := by decide +kernel
theorem hd_X7_forgets : yX7_forgets.cls = RX7 ∧ yX7_forgets.cls ≠ "java/lang/invoke/MethodHandle" ∧ yX7_forgets.cls ≠ "java/lang/invoke/VarHandle" ∧ (parseMethodDescriptor yX7_forgets.desc).map (fun d => d.parameters.length) = some 2 := by decide +kernel
theorem hd_J6_bitCount_0f7a4 : yJ6_bitCount_0f7a4.cls = RJ6 ∧ yJ6_bitCount_0f7a4.cls ≠ "java/lang/invoke/MethodHandle" ∧ yJ6_bitCount_0f7a4.cls ≠ "java/lang/invoke/VarHandle" ∧ (parseMethodDescriptor yJ6_bitCount_0f7a4.desc).map (fun d => d.parameters.length) = some 1 := by decide +kernel
theorem hd_X7_rights : yX7_rights.cls = RX7 ∧ yX7_rights.cls ≠ "java/lang/invoke/MethodHandle" ∧ yX7_rights.cls ≠ "java/lang/invoke/VarHandle" ∧ (parseMethodDescriptor yX7_rights.desc).map (fun d => d.parameters.length) = some 1 := by decide +kernel
theorem hd_X7_puts : yX7_puts.cls = RX7 ∧ yX7_puts.cls ≠ "java/lang/invoke/MethodHandle" ∧ yX7_puts.cls ≠ "java/lang/invoke/VarHandle" ∧ (parseMethodDescriptor yX7_puts.desc).map (fun d => d.parameters.length) = some 1 := by decide +kernel
theorem hd_X7_lays : yX7_lays.cls = RX7 ∧ yX7_lays.cls ≠ "java/lang/invoke/MethodHandle" ∧ yX7_lays.cls ≠ "java/lang/invoke/VarHandle" ∧ (parseMethodDescriptor yX7_lays.desc).map (fun d => d.parameters.length) = some 3 := by decide +kernel
theorem hd_X7_traps : yX7_traps.cls = RX7 ∧ yX7_traps.cls ≠ "java/lang/invoke/MethodHandle" ∧ yX7_traps.cls ≠ "java/lang/invoke/VarHandle" ∧ (parseMethodDescriptor yX7_traps.desc).map (fun d => d.parameters.length) = some 2 := by decide +kernel
theorem hd_X7_isSomewhere : yX7_isSomewhere.cls = RX7 ∧ yX7_isSomewhere.cls ≠ "java/lang/invoke/MethodHandle" ∧ yX7_isSomewhere.cls ≠ "java/lang/invoke/VarHandle" ∧ (parseMethodDescriptor yX7_isSomewhere.desc).map (fun d => d.parameters.length) = some 0 := by decide +kernel
theorem hd_X7_tensOf : yX7_tensOf.cls = RX7 ∧ yX7_tensOf.cls ≠ "java/lang/invoke/MethodHandle" ∧ yX7_tensOf.cls ≠ "java/lang/invoke/VarHandle" ∧ (parseMethodDescriptor yX7_tensOf.desc).map (fun d => d.parameters.length) = some 1 := by decide +kernel
theorem hd_X7_waysNow : yX7_waysNow.cls = RX7 ∧ yX7_waysNow.cls ≠ "java/lang/invoke/MethodHandle" ∧ yX7_waysNow.cls ≠ "java/lang/invoke/VarHandle" ∧ (parseMethodDescriptor yX7_waysNow.desc).map (fun d => d.parameters.length) = some 0 := by decide +kernel
theorem hd_X7_day : yX7_day.cls = RX7 ∧ yX7_day.cls ≠ "java/lang/invoke/MethodHandle" ∧ yX7_day.cls ≠ "java/lang/invoke/VarHandle" ∧ (parseMethodDescriptor yX7_day.desc).map (fun d => d.parameters.length) = some 0 := by decide +kernel
theorem hd_X7_undo : yX7_undo.cls = RX7 ∧ yX7_undo.cls ≠ "java/lang/invoke/MethodHandle" ∧ yX7_undo.cls ≠ "java/lang/invoke/VarHandle" ∧ (parseMethodDescriptor yX7_undo.desc).map (fun d => d.parameters.length) = some 0 := by decide +kernel
theorem hd_X7_shownTogether : yX7_shownTogether.cls = RX7 ∧ yX7_shownTogether.cls ≠ "java/lang/invoke/MethodHandle" ∧ yX7_shownTogether.cls ≠ "java/lang/invoke/VarHandle" ∧ (parseMethodDescriptor yX7_shownTogether.desc).map (fun d => d.parameters.length) = some 0 := by decide +kernel
theorem hd_X7_summedTogether : yX7_summedTogether.cls = RX7 ∧ yX7_summedTogether.cls ≠ "java/lang/invoke/MethodHandle" ∧ yX7_summedTogether.cls ≠ "java/lang/invoke/VarHandle" ∧ (parseMethodDescriptor yX7_summedTogether.desc).map (fun d => d.parameters.length) = some 0 := by decide +kernel
theorem hd_X7_divides : yX7_divides.cls = RX7 ∧ yX7_divides.cls ≠ "java/lang/invoke/MethodHandle" ∧ yX7_divides.cls ≠ "java/lang/invoke/VarHandle" ∧ (parseMethodDescriptor yX7_divides.desc).map (fun d => d.parameters.length) = some 2 := by decide +kernel
theorem hd_X7_notDividedBy : yX7_notDividedBy.cls = RX7 ∧ yX7_notDividedBy.cls ≠ "java/lang/invoke/MethodHandle" ∧ yX7_notDividedBy.cls ≠ "java/lang/invoke/VarHandle" ∧ (parseMethodDescriptor yX7_notDividedBy.desc).map (fun d => d.parameters.length) = some 1 := by decide +kernel
theorem hd_X7_now : yX7_now.cls = RX7 ∧ yX7_now.cls ≠ "java/lang/invoke/MethodHandle" ∧ yX7_now.cls ≠ "java/lang/invoke/VarHandle" ∧ (parseMethodDescriptor yX7_now.desc).map (fun d => d.parameters.length) = some 1 := by decide +kernel
theorem hd_X7_inDays : yX7_inDays.cls = RX7 ∧ yX7_inDays.cls ≠ "java/lang/invoke/MethodHandle" ∧ yX7_inDays.cls ≠ "java/lang/invoke/VarHandle" ∧ (parseMethodDescriptor yX7_inDays.desc).map (fun d => d.parameters.length) = some 1 := by decide +kernel
theorem hd_X7_round : yX7_round.cls = RX7 ∧ yX7_round.cls ≠ "java/lang/invoke/MethodHandle" ∧ yX7_round.cls ≠ "java/lang/invoke/VarHandle" ∧ (parseMethodDescriptor yX7_round.desc).map (fun d => d.parameters.length) = some 1 := by decide +kernel
theorem hd_X7_from : yX7_from.cls = RX7 ∧ yX7_from.cls ≠ "java/lang/invoke/MethodHandle" ∧ yX7_from.cls ≠ "java/lang/invoke/VarHandle" ∧ (parseMethodDescriptor yX7_from.desc).map (fun d => d.parameters.length) = some 2 := by decide +kernel
theorem hd_X7_lures : yX7_lures.cls = RX7 ∧ yX7_lures.cls ≠ "java/lang/invoke/MethodHandle" ∧ yX7_lures.cls ≠ "java/lang/invoke/VarHandle" ∧ (parseMethodDescriptor yX7_lures.desc).map (fun d => d.parameters.length) = some 3 := by decide +kernel
theorem hd_X7_firstSingleLure : yX7_firstSingleLure.cls = RX7 ∧ yX7_firstSingleLure.cls ≠ "java/lang/invoke/MethodHandle" ∧ yX7_firstSingleLure.cls ≠ "java/lang/invoke/VarHandle" ∧ (parseMethodDescriptor yX7_firstSingleLure.desc).map (fun d => d.parameters.length) = some 2 := by decide +kernel
theorem hd_X7_firstDoubleLure : yX7_firstDoubleLure.cls = RX7 ∧ yX7_firstDoubleLure.cls ≠ "java/lang/invoke/MethodHandle" ∧ yX7_firstDoubleLure.cls ≠ "java/lang/invoke/VarHandle" ∧ (parseMethodDescriptor yX7_firstDoubleLure.desc).map (fun d => d.parameters.length) = some 2 := by decide +kernel
theorem hd_X7_fewestMoreTouches : yX7_fewestMoreTouches.cls = RX7 ∧ yX7_fewestMoreTouches.cls ≠ "java/lang/invoke/MethodHandle" ∧ yX7_fewestMoreTouches.cls ≠ "java/lang/invoke/VarHandle" ∧ (parseMethodDescriptor yX7_fewestMoreTouches.desc).map (fun d => d.parameters.length) = some 2 := by decide +kernel
theorem hd_J6_lowestOneBit_0f7a4 : yJ6_lowestOneBit_0f7a4.cls = RJ6 ∧ yJ6_lowestOneBit_0f7a4.cls ≠ "java/lang/invoke/MethodHandle" ∧ yJ6_lowestOneBit_0f7a4.cls ≠ "java/lang/invoke/VarHandle" ∧ (parseMethodDescriptor yJ6_lowestOneBit_0f7a4.desc).map (fun d => d.parameters.length) = some 1 := by decide +kernel
theorem hd_X7_twoOf : yX7_twoOf.cls = RX7 ∧ yX7_twoOf.cls ≠ "java/lang/invoke/MethodHandle" ∧ yX7_twoOf.cls ≠ "java/lang/invoke/VarHandle" ∧ (parseMethodDescriptor yX7_twoOf.desc).map (fun d => d.parameters.length) = some 1 := by decide +kernel
theorem hd_X7_lure : yX7_lure.cls = RX7 ∧ yX7_lure.cls ≠ "java/lang/invoke/MethodHandle" ∧ yX7_lure.cls ≠ "java/lang/invoke/VarHandle" ∧ (parseMethodDescriptor yX7_lure.desc).map (fun d => d.parameters.length) = some 3 := by decide +kernel
theorem hd_J6_numberOfTrailingZeros_0f7a4 : yJ6_numberOfTrailingZeros_0f7a4.cls = RJ6 ∧ yJ6_numberOfTrailingZeros_0f7a4.cls ≠ "java/lang/invoke/MethodHandle" ∧ yJ6_numberOfTrailingZeros_0f7a4.cls ≠ "java/lang/invoke/VarHandle" ∧ (parseMethodDescriptor yJ6_numberOfTrailingZeros_0f7a4.desc).map (fun d => d.parameters.length) = some 1 := by decide +kernel
theorem hd_X7_nextOfSameSize : yX7_nextOfSameSize.cls = RX7 ∧ yX7_nextOfSameSize.cls ≠ "java/lang/invoke/MethodHandle" ∧ yX7_nextOfSameSize.cls ≠ "java/lang/invoke/VarHandle" ∧ (parseMethodDescriptor yX7_nextOfSameSize.desc).map (fun d => d.parameters.length) = some 1 := by decide +kernel
theorem hd_X7_leastCut : yX7_leastCut.cls = RX7 ∧ yX7_leastCut.cls ≠ "java/lang/invoke/MethodHandle" ∧ yX7_leastCut.cls ≠ "java/lang/invoke/VarHandle" ∧ (parseMethodDescriptor yX7_leastCut.desc).map (fun d => d.parameters.length) = some 2 := by decide +kernel
theorem hd_X7_fewestTouchesToCut : yX7_fewestTouchesToCut.cls = RX7 ∧ yX7_fewestTouchesToCut.cls ≠ "java/lang/invoke/MethodHandle" ∧ yX7_fewestTouchesToCut.cls ≠ "java/lang/invoke/VarHandle" ∧ (parseMethodDescriptor yX7_fewestTouchesToCut.desc).map (fun d => d.parameters.length) = some 1 := by decide +kernel
theorem hd_X7_cut : yX7_cut.cls = RX7 ∧ yX7_cut.cls ≠ "java/lang/invoke/MethodHandle" ∧ yX7_cut.cls ≠ "java/lang/invoke/VarHandle" ∧ (parseMethodDescriptor yX7_cut.desc).map (fun d => d.parameters.length) = some 1 := by decide +kernel
theorem hd_X7_choose : yX7_choose.cls = RX7 ∧ yX7_choose.cls ≠ "java/lang/invoke/MethodHandle" ∧ yX7_choose.cls ≠ "java/lang/invoke/VarHandle" ∧ (parseMethodDescriptor yX7_choose.desc).map (fun d => d.parameters.length) = some 2 := by decide +kernel
theorem hd_X7_power : yX7_power.cls = RX7 ∧ yX7_power.cls ≠ "java/lang/invoke/MethodHandle" ∧ yX7_power.cls ≠ "java/lang/invoke/VarHandle" ∧ (parseMethodDescriptor yX7_power.desc).map (fun d => d.parameters.length) = some 2 := by decide +kernel
theorem hd_X7_chancesOf : yX7_chancesOf.cls = RX7 ∧ yX7_chancesOf.cls ≠ "java/lang/invoke/MethodHandle" ∧ yX7_chancesOf.cls ≠ "java/lang/invoke/VarHandle" ∧ (parseMethodDescriptor yX7_chancesOf.desc).map (fun d => d.parameters.length) = some 3 := by decide +kernel
theorem hd_X7_greatestDivisor : yX7_greatestDivisor.cls = RX7 ∧ yX7_greatestDivisor.cls ≠ "java/lang/invoke/MethodHandle" ∧ yX7_greatestDivisor.cls ≠ "java/lang/invoke/VarHandle" ∧ (parseMethodDescriptor yX7_greatestDivisor.desc).map (fun d => d.parameters.length) = some 2 := by decide +kernel
theorem hd_X7_odds : yX7_odds.cls = RX7 ∧ yX7_odds.cls ≠ "java/lang/invoke/MethodHandle" ∧ yX7_odds.cls ≠ "java/lang/invoke/VarHandle" ∧ (parseMethodDescriptor yX7_odds.desc).map (fun d => d.parameters.length) = some 4 := by decide +kernel
theorem hd_X7_saw : yX7_saw.cls = RX7 ∧ yX7_saw.cls ≠ "java/lang/invoke/MethodHandle" ∧ yX7_saw.cls ≠ "java/lang/invoke/VarHandle" ∧ (parseMethodDescriptor yX7_saw.desc).map (fun d => d.parameters.length) = some 3 := by decide +kernel
theorem hd_X7_forget : yX7_forget.cls = RX7 ∧ yX7_forget.cls ≠ "java/lang/invoke/MethodHandle" ∧ yX7_forget.cls ≠ "java/lang/invoke/VarHandle" ∧ (parseMethodDescriptor yX7_forget.desc).map (fun d => d.parameters.length) = some 0 := by decide +kernel
theorem hd_X7_fitsFrom : yX7_fitsFrom.cls = RX7 ∧ yX7_fitsFrom.cls ≠ "java/lang/invoke/MethodHandle" ∧ yX7_fitsFrom.cls ≠ "java/lang/invoke/VarHandle" ∧ (parseMethodDescriptor yX7_fitsFrom.desc).map (fun d => d.parameters.length) = some 1 := by decide +kernel
theorem hd_X7_fits : yX7_fits.cls = RX7 ∧ yX7_fits.cls ≠ "java/lang/invoke/MethodHandle" ∧ yX7_fits.cls ≠ "java/lang/invoke/VarHandle" ∧ (parseMethodDescriptor yX7_fits.desc).map (fun d => d.parameters.length) = some 0 := by decide +kernel
theorem hd_X7_number : yX7_number.cls = RX7 ∧ yX7_number.cls ≠ "java/lang/invoke/MethodHandle" ∧ yX7_number.cls ≠ "java/lang/invoke/VarHandle" ∧ (parseMethodDescriptor yX7_number.desc).map (fun d => d.parameters.length) = some 3 := by decide +kernel
theorem hd_X7_hiddenMisreading : yX7_hiddenMisreading.cls = RX7 ∧ yX7_hiddenMisreading.cls ≠ "java/lang/invoke/MethodHandle" ∧ yX7_hiddenMisreading.cls ≠ "java/lang/invoke/VarHandle" ∧ (parseMethodDescriptor yX7_hiddenMisreading.desc).map (fun d => d.parameters.length) = some 3 := by decide +kernel
theorem hd_X7_hiddenMisreadings : yX7_hiddenMisreadings.cls = RX7 ∧ yX7_hiddenMisreadings.cls ≠ "java/lang/invoke/MethodHandle" ∧ yX7_hiddenMisreadings.cls ≠ "java/lang/invoke/VarHandle" ∧ (parseMethodDescriptor yX7_hiddenMisreadings.desc).map (fun d => d.parameters.length) = some 2 := by decide +kernel
theorem hd_X7_hidden : yX7_hidden.cls = RX7 ∧ yX7_hidden.cls ≠ "java/lang/invoke/MethodHandle" ∧ yX7_hidden.cls ≠ "java/lang/invoke/VarHandle" ∧ (parseMethodDescriptor yX7_hidden.desc).map (fun d => d.parameters.length) = some 2 := by decide +kernel
theorem hd_X7_waysToLack : yX7_waysToLack.cls = RX7 ∧ yX7_waysToLack.cls ≠ "java/lang/invoke/MethodHandle" ∧ yX7_waysToLack.cls ≠ "java/lang/invoke/VarHandle" ∧ (parseMethodDescriptor yX7_waysToLack.desc).map (fun d => d.parameters.length) = some 3 := by decide +kernel
theorem hd_X7_setsWithout : yX7_setsWithout.cls = RX7 ∧ yX7_setsWithout.cls ≠ "java/lang/invoke/MethodHandle" ∧ yX7_setsWithout.cls ≠ "java/lang/invoke/VarHandle" ∧ (parseMethodDescriptor yX7_setsWithout.desc).map (fun d => d.parameters.length) = some 1 := by decide +kernel
theorem hd_X7_booksInEachSet : yX7_booksInEachSet.cls = RX7 ∧ yX7_booksInEachSet.cls ≠ "java/lang/invoke/MethodHandle" ∧ yX7_booksInEachSet.cls ≠ "java/lang/invoke/VarHandle" ∧ (parseMethodDescriptor yX7_booksInEachSet.desc).map (fun d => d.parameters.length) = some 0 := by decide +kernel
theorem hd_X7_booksInSomeSet : yX7_booksInSomeSet.cls = RX7 ∧ yX7_booksInSomeSet.cls ≠ "java/lang/invoke/MethodHandle" ∧ yX7_booksInSomeSet.cls ≠ "java/lang/invoke/VarHandle" ∧ (parseMethodDescriptor yX7_booksInSomeSet.desc).map (fun d => d.parameters.length) = some 0 := by decide +kernel
theorem hd_X7_why : yX7_why.cls = RX7 ∧ yX7_why.cls ≠ "java/lang/invoke/MethodHandle" ∧ yX7_why.cls ≠ "java/lang/invoke/VarHandle" ∧ (parseMethodDescriptor yX7_why.desc).map (fun d => d.parameters.length) = some 1 := by decide +kernel
theorem hd_J6_numberOfLeadingZeros_0f7a4 : yJ6_numberOfLeadingZeros_0f7a4.cls = RJ6 ∧ yJ6_numberOfLeadingZeros_0f7a4.cls ≠ "java/lang/invoke/MethodHandle" ∧ yJ6_numberOfLeadingZeros_0f7a4.cls ≠ "java/lang/invoke/VarHandle" ∧ (parseMethodDescriptor yJ6_numberOfLeadingZeros_0f7a4.desc).map (fun d => d.parameters.length) = some 1 := by decide +kernel
theorem hd_X7_proofs : yX7_proofs.cls = RX7 ∧ yX7_proofs.cls ≠ "java/lang/invoke/MethodHandle" ∧ yX7_proofs.cls ≠ "java/lang/invoke/VarHandle" ∧ (parseMethodDescriptor yX7_proofs.desc).map (fun d => d.parameters.length) = some 1 := by decide +kernel
theorem hd_X7_markOfBook : yX7_markOfBook.cls = RX7 ∧ yX7_markOfBook.cls ≠ "java/lang/invoke/MethodHandle" ∧ yX7_markOfBook.cls ≠ "java/lang/invoke/VarHandle" ∧ (parseMethodDescriptor yX7_markOfBook.desc).map (fun d => d.parameters.length) = some 1 := by decide +kernel
theorem hd_X7_markOfRates : yX7_markOfRates.cls = RX7 ∧ yX7_markOfRates.cls ≠ "java/lang/invoke/MethodHandle" ∧ yX7_markOfRates.cls ≠ "java/lang/invoke/VarHandle" ∧ (parseMethodDescriptor yX7_markOfRates.desc).map (fun d => d.parameters.length) = some 1 := by decide +kernel
theorem hd_X7_markOfTrain : yX7_markOfTrain.cls = RX7 ∧ yX7_markOfTrain.cls ≠ "java/lang/invoke/MethodHandle" ∧ yX7_markOfTrain.cls ≠ "java/lang/invoke/VarHandle" ∧ (parseMethodDescriptor yX7_markOfTrain.desc).map (fun d => d.parameters.length) = some 1 := by decide +kernel
theorem hd_X7_markOfLedger : yX7_markOfLedger.cls = RX7 ∧ yX7_markOfLedger.cls ≠ "java/lang/invoke/MethodHandle" ∧ yX7_markOfLedger.cls ≠ "java/lang/invoke/VarHandle" ∧ (parseMethodDescriptor yX7_markOfLedger.desc).map (fun d => d.parameters.length) = some 1 := by decide +kernel
theorem hd_X7_markOfShop : yX7_markOfShop.cls = RX7 ∧ yX7_markOfShop.cls ≠ "java/lang/invoke/MethodHandle" ∧ yX7_markOfShop.cls ≠ "java/lang/invoke/VarHandle" ∧ (parseMethodDescriptor yX7_markOfShop.desc).map (fun d => d.parameters.length) = some 1 := by decide +kernel
theorem hd_X7_markOfChoir : yX7_markOfChoir.cls = RX7 ∧ yX7_markOfChoir.cls ≠ "java/lang/invoke/MethodHandle" ∧ yX7_markOfChoir.cls ≠ "java/lang/invoke/VarHandle" ∧ (parseMethodDescriptor yX7_markOfChoir.desc).map (fun d => d.parameters.length) = some 1 := by decide +kernel
theorem hd_X7_mark : yX7_mark.cls = RX7 ∧ yX7_mark.cls ≠ "java/lang/invoke/MethodHandle" ∧ yX7_mark.cls ≠ "java/lang/invoke/VarHandle" ∧ (parseMethodDescriptor yX7_mark.desc).map (fun d => d.parameters.length) = some 2 := by decide +kernel
theorem hd_X7_count : yX7_count.cls = RX7 ∧ yX7_count.cls ≠ "java/lang/invoke/MethodHandle" ∧ yX7_count.cls ≠ "java/lang/invoke/VarHandle" ∧ (parseMethodDescriptor yX7_count.desc).map (fun d => d.parameters.length) = some 1 := by decide +kernel
theorem hd_X7_trace : yX7_trace.cls = RX7 ∧ yX7_trace.cls ≠ "java/lang/invoke/MethodHandle" ∧ yX7_trace.cls ≠ "java/lang/invoke/VarHandle" ∧ (parseMethodDescriptor yX7_trace.desc).map (fun d => d.parameters.length) = some 0 := by decide +kernel
theorem hd_X8_in : yX8_in.cls = RX8 ∧ yX8_in.cls ≠ "java/lang/invoke/MethodHandle" ∧ yX8_in.cls ≠ "java/lang/invoke/VarHandle" ∧ (parseMethodDescriptor yX8_in.desc).map (fun d => d.parameters.length) = some 3 := by decide +kernel
theorem hd_X8_type : yX8_type.cls = RX8 ∧ yX8_type.cls ≠ "java/lang/invoke/MethodHandle" ∧ yX8_type.cls ≠ "java/lang/invoke/VarHandle" ∧ (parseMethodDescriptor yX8_type.desc).map (fun d => d.parameters.length) = some 1 := by decide +kernel
theorem hd_X8_clear : yX8_clear.cls = RX8 ∧ yX8_clear.cls ≠ "java/lang/invoke/MethodHandle" ∧ yX8_clear.cls ≠ "java/lang/invoke/VarHandle" ∧ (parseMethodDescriptor yX8_clear.desc).map (fun d => d.parameters.length) = some 0 := by decide +kernel
theorem hd_X8_here : yX8_here.cls = RX8 ∧ yX8_here.cls ≠ "java/lang/invoke/MethodHandle" ∧ yX8_here.cls ≠ "java/lang/invoke/VarHandle" ∧ (parseMethodDescriptor yX8_here.desc).map (fun d => d.parameters.length) = some 0 := by decide +kernel
theorem hd_X8_step : yX8_step.cls = RX8 ∧ yX8_step.cls ≠ "java/lang/invoke/MethodHandle" ∧ yX8_step.cls ≠ "java/lang/invoke/VarHandle" ∧ (parseMethodDescriptor yX8_step.desc).map (fun d => d.parameters.length) = some 0 := by decide +kernel
theorem hd_X8_due : yX8_due.cls = RX8 ∧ yX8_due.cls ≠ "java/lang/invoke/MethodHandle" ∧ yX8_due.cls ≠ "java/lang/invoke/VarHandle" ∧ (parseMethodDescriptor yX8_due.desc).map (fun d => d.parameters.length) = some 1 := by decide +kernel
theorem hd_X8_number : yX8_number.cls = RX8 ∧ yX8_number.cls ≠ "java/lang/invoke/MethodHandle" ∧ yX8_number.cls ≠ "java/lang/invoke/VarHandle" ∧ (parseMethodDescriptor yX8_number.desc).map (fun d => d.parameters.length) = some 2 := by decide +kernel
theorem hd_X8_mayBe : yX8_mayBe.cls = RX8 ∧ yX8_mayBe.cls ≠ "java/lang/invoke/MethodHandle" ∧ yX8_mayBe.cls ≠ "java/lang/invoke/VarHandle" ∧ (parseMethodDescriptor yX8_mayBe.desc).map (fun d => d.parameters.length) = some 1 := by decide +kernel
theorem hd_X8_readRow : yX8_readRow.cls = RX8 ∧ yX8_readRow.cls ≠ "java/lang/invoke/MethodHandle" ∧ yX8_readRow.cls ≠ "java/lang/invoke/VarHandle" ∧ (parseMethodDescriptor yX8_readRow.desc).map (fun d => d.parameters.length) = some 1 := by decide +kernel
theorem hd_X8_plain : yX8_plain.cls = RX8 ∧ yX8_plain.cls ≠ "java/lang/invoke/MethodHandle" ∧ yX8_plain.cls ≠ "java/lang/invoke/VarHandle" ∧ (parseMethodDescriptor yX8_plain.desc).map (fun d => d.parameters.length) = some 0 := by decide +kernel
theorem hd_X8_takeDraft : yX8_takeDraft.cls = RX8 ∧ yX8_takeDraft.cls ≠ "java/lang/invoke/MethodHandle" ∧ yX8_takeDraft.cls ≠ "java/lang/invoke/VarHandle" ∧ (parseMethodDescriptor yX8_takeDraft.desc).map (fun d => d.parameters.length) = some 0 := by decide +kernel
theorem hd_X8_books : yX8_books.cls = RX8 ∧ yX8_books.cls ≠ "java/lang/invoke/MethodHandle" ∧ yX8_books.cls ≠ "java/lang/invoke/VarHandle" ∧ (parseMethodDescriptor yX8_books.desc).map (fun d => d.parameters.length) = some 0 := by decide +kernel
theorem hd_X8_isBook : yX8_isBook.cls = RX8 ∧ yX8_isBook.cls ≠ "java/lang/invoke/MethodHandle" ∧ yX8_isBook.cls ≠ "java/lang/invoke/VarHandle" ∧ (parseMethodDescriptor yX8_isBook.desc).map (fun d => d.parameters.length) = some 1 := by decide +kernel
theorem hd_X8_figure : yX8_figure.cls = RX8 ∧ yX8_figure.cls ≠ "java/lang/invoke/MethodHandle" ∧ yX8_figure.cls ≠ "java/lang/invoke/VarHandle" ∧ (parseMethodDescriptor yX8_figure.desc).map (fun d => d.parameters.length) = some 2 := by decide +kernel
theorem hd_X8_carries : yX8_carries.cls = RX8 ∧ yX8_carries.cls ≠ "java/lang/invoke/MethodHandle" ∧ yX8_carries.cls ≠ "java/lang/invoke/VarHandle" ∧ (parseMethodDescriptor yX8_carries.desc).map (fun d => d.parameters.length) = some 1 := by decide +kernel
theorem hd_X8_sum : yX8_sum.cls = RX8 ∧ yX8_sum.cls ≠ "java/lang/invoke/MethodHandle" ∧ yX8_sum.cls ≠ "java/lang/invoke/VarHandle" ∧ (parseMethodDescriptor yX8_sum.desc).map (fun d => d.parameters.length) = some 1 := by decide +kernel
theorem hd_X8_written : yX8_written.cls = RX8 ∧ yX8_written.cls ≠ "java/lang/invoke/MethodHandle" ∧ yX8_written.cls ≠ "java/lang/invoke/VarHandle" ∧ (parseMethodDescriptor yX8_written.desc).map (fun d => d.parameters.length) = some 1 := by decide +kernel
theorem hd_X8_shown : yX8_shown.cls = RX8 ∧ yX8_shown.cls ≠ "java/lang/invoke/MethodHandle" ∧ yX8_shown.cls ≠ "java/lang/invoke/VarHandle" ∧ (parseMethodDescriptor yX8_shown.desc).map (fun d => d.parameters.length) = some 1 := by decide +kernel
theorem hd_X8_tens : yX8_tens.cls = RX8 ∧ yX8_tens.cls ≠ "java/lang/invoke/MethodHandle" ∧ yX8_tens.cls ≠ "java/lang/invoke/VarHandle" ∧ (parseMethodDescriptor yX8_tens.desc).map (fun d => d.parameters.length) = some 1 := by decide +kernel
theorem hd_X8_manyOf : yX8_manyOf.cls = RX8 ∧ yX8_manyOf.cls ≠ "java/lang/invoke/MethodHandle" ∧ yX8_manyOf.cls ≠ "java/lang/invoke/VarHandle" ∧ (parseMethodDescriptor yX8_manyOf.desc).map (fun d => d.parameters.length) = some 1 := by decide +kernel
theorem hd_X8_touches : yX8_touches.cls = RX8 ∧ yX8_touches.cls ≠ "java/lang/invoke/MethodHandle" ∧ yX8_touches.cls ≠ "java/lang/invoke/VarHandle" ∧ (parseMethodDescriptor yX8_touches.desc).map (fun d => d.parameters.length) = some 0 := by decide +kernel
theorem hd_X8_book : yX8_book.cls = RX8 ∧ yX8_book.cls ≠ "java/lang/invoke/MethodHandle" ∧ yX8_book.cls ≠ "java/lang/invoke/VarHandle" ∧ (parseMethodDescriptor yX8_book.desc).map (fun d => d.parameters.length) = some 2 := by decide +kernel
theorem hd_X8_know : yX8_know.cls = RX8 ∧ yX8_know.cls ≠ "java/lang/invoke/MethodHandle" ∧ yX8_know.cls ≠ "java/lang/invoke/VarHandle" ∧ (parseMethodDescriptor yX8_know.desc).map (fun d => d.parameters.length) = some 0 := by decide +kernel
theorem hd_X8_forgets : yX8_forgets.cls = RX8 ∧ yX8_forgets.cls ≠ "java/lang/invoke/MethodHandle" ∧ yX8_forgets.cls ≠ "java/lang/invoke/VarHandle" ∧ (parseMethodDescriptor yX8_forgets.desc).map (fun d => d.parameters.length) = some 2 := by decide +kernel
theorem hd_X8_rights : yX8_rights.cls = RX8 ∧ yX8_rights.cls ≠ "java/lang/invoke/MethodHandle" ∧ yX8_rights.cls ≠ "java/lang/invoke/VarHandle" ∧ (parseMethodDescriptor yX8_rights.desc).map (fun d => d.parameters.length) = some 1 := by decide +kernel
theorem hd_X8_puts : yX8_puts.cls = RX8 ∧ yX8_puts.cls ≠ "java/lang/invoke/MethodHandle" ∧ yX8_puts.cls ≠ "java/lang/invoke/VarHandle" ∧ (parseMethodDescriptor yX8_puts.desc).map (fun d => d.parameters.length) = some 1 := by decide +kernel
theorem hd_X8_lays : yX8_lays.cls = RX8 ∧ yX8_lays.cls ≠ "java/lang/invoke/MethodHandle" ∧ yX8_lays.cls ≠ "java/lang/invoke/VarHandle" ∧ (parseMethodDescriptor yX8_lays.desc).map (fun d => d.parameters.length) = some 3 := by decide +kernel
theorem hd_X8_traps : yX8_traps.cls = RX8 ∧ yX8_traps.cls ≠ "java/lang/invoke/MethodHandle" ∧ yX8_traps.cls ≠ "java/lang/invoke/VarHandle" ∧ (parseMethodDescriptor yX8_traps.desc).map (fun d => d.parameters.length) = some 2 := by decide +kernel
theorem hd_X8_takeNear : yX8_takeNear.cls = RX8 ∧ yX8_takeNear.cls ≠ "java/lang/invoke/MethodHandle" ∧ yX8_takeNear.cls ≠ "java/lang/invoke/VarHandle" ∧ (parseMethodDescriptor yX8_takeNear.desc).map (fun d => d.parameters.length) = some 0 := by decide +kernel
theorem hd_X8_goesTo : yX8_goesTo.cls = RX8 ∧ yX8_goesTo.cls ≠ "java/lang/invoke/MethodHandle" ∧ yX8_goesTo.cls ≠ "java/lang/invoke/VarHandle" ∧ (parseMethodDescriptor yX8_goesTo.desc).map (fun d => d.parameters.length) = some 1 := by decide +kernel
theorem hd_X8_goesIn : yX8_goesIn.cls = RX8 ∧ yX8_goesIn.cls ≠ "java/lang/invoke/MethodHandle" ∧ yX8_goesIn.cls ≠ "java/lang/invoke/VarHandle" ∧ (parseMethodDescriptor yX8_goesIn.desc).map (fun d => d.parameters.length) = some 2 := by decide +kernel
theorem hd_X8_day : yX8_day.cls = RX8 ∧ yX8_day.cls ≠ "java/lang/invoke/MethodHandle" ∧ yX8_day.cls ≠ "java/lang/invoke/VarHandle" ∧ (parseMethodDescriptor yX8_day.desc).map (fun d => d.parameters.length) = some 0 := by decide +kernel
theorem hd_X8_undo : yX8_undo.cls = RX8 ∧ yX8_undo.cls ≠ "java/lang/invoke/MethodHandle" ∧ yX8_undo.cls ≠ "java/lang/invoke/VarHandle" ∧ (parseMethodDescriptor yX8_undo.desc).map (fun d => d.parameters.length) = some 0 := by decide +kernel
theorem hd_X8_now : yX8_now.cls = RX8 ∧ yX8_now.cls ≠ "java/lang/invoke/MethodHandle" ∧ yX8_now.cls ≠ "java/lang/invoke/VarHandle" ∧ (parseMethodDescriptor yX8_now.desc).map (fun d => d.parameters.length) = some 1 := by decide +kernel
theorem hd_X8_inDays : yX8_inDays.cls = RX8 ∧ yX8_inDays.cls ≠ "java/lang/invoke/MethodHandle" ∧ yX8_inDays.cls ≠ "java/lang/invoke/VarHandle" ∧ (parseMethodDescriptor yX8_inDays.desc).map (fun d => d.parameters.length) = some 1 := by decide +kernel
theorem hd_X8_round : yX8_round.cls = RX8 ∧ yX8_round.cls ≠ "java/lang/invoke/MethodHandle" ∧ yX8_round.cls ≠ "java/lang/invoke/VarHandle" ∧ (parseMethodDescriptor yX8_round.desc).map (fun d => d.parameters.length) = some 1 := by decide +kernel
theorem hd_X8_from : yX8_from.cls = RX8 ∧ yX8_from.cls ≠ "java/lang/invoke/MethodHandle" ∧ yX8_from.cls ≠ "java/lang/invoke/VarHandle" ∧ (parseMethodDescriptor yX8_from.desc).map (fun d => d.parameters.length) = some 2 := by decide +kernel
theorem hd_X8_turn : yX8_turn.cls = RX8 ∧ yX8_turn.cls ≠ "java/lang/invoke/MethodHandle" ∧ yX8_turn.cls ≠ "java/lang/invoke/VarHandle" ∧ (parseMethodDescriptor yX8_turn.desc).map (fun d => d.parameters.length) = some 2 := by decide +kernel
theorem hd_X8_isLess : yX8_isLess.cls = RX8 ∧ yX8_isLess.cls ≠ "java/lang/invoke/MethodHandle" ∧ yX8_isLess.cls ≠ "java/lang/invoke/VarHandle" ∧ (parseMethodDescriptor yX8_isLess.desc).map (fun d => d.parameters.length) = some 1 := by decide +kernel
theorem hd_X8_isLured : yX8_isLured.cls = RX8 ∧ yX8_isLured.cls ≠ "java/lang/invoke/MethodHandle" ∧ yX8_isLured.cls ≠ "java/lang/invoke/VarHandle" ∧ (parseMethodDescriptor yX8_isLured.desc).map (fun d => d.parameters.length) = some 4 := by decide +kernel
theorem hd_X8_told : yX8_told.cls = RX8 ∧ yX8_told.cls ≠ "java/lang/invoke/MethodHandle" ∧ yX8_told.cls ≠ "java/lang/invoke/VarHandle" ∧ (parseMethodDescriptor yX8_told.desc).map (fun d => d.parameters.length) = some 1 := by decide +kernel
theorem hd_X8_lure : yX8_lure.cls = RX8 ∧ yX8_lure.cls ≠ "java/lang/invoke/MethodHandle" ∧ yX8_lure.cls ≠ "java/lang/invoke/VarHandle" ∧ (parseMethodDescriptor yX8_lure.desc).map (fun d => d.parameters.length) = some 3 := by decide +kernel
theorem hd_X8_touching : yX8_touching.cls = RX8 ∧ yX8_touching.cls ≠ "java/lang/invoke/MethodHandle" ∧ yX8_touching.cls ≠ "java/lang/invoke/VarHandle" ∧ (parseMethodDescriptor yX8_touching.desc).map (fun d => d.parameters.length) = some 0 := by decide +kernel
theorem hd_X8_layApart : yX8_layApart.cls = RX8 ∧ yX8_layApart.cls ≠ "java/lang/invoke/MethodHandle" ∧ yX8_layApart.cls ≠ "java/lang/invoke/VarHandle" ∧ (parseMethodDescriptor yX8_layApart.desc).map (fun d => d.parameters.length) = some 1 := by decide +kernel
theorem hd_X8_everComes : yX8_everComes.cls = RX8 ∧ yX8_everComes.cls ≠ "java/lang/invoke/MethodHandle" ∧ yX8_everComes.cls ≠ "java/lang/invoke/VarHandle" ∧ (parseMethodDescriptor yX8_everComes.desc).map (fun d => d.parameters.length) = some 1 := by decide +kernel
theorem hd_X8_cut : yX8_cut.cls = RX8 ∧ yX8_cut.cls ≠ "java/lang/invoke/MethodHandle" ∧ yX8_cut.cls ≠ "java/lang/invoke/VarHandle" ∧ (parseMethodDescriptor yX8_cut.desc).map (fun d => d.parameters.length) = some 1 := by decide +kernel
theorem hd_X8_part : yX8_part.cls = RX8 ∧ yX8_part.cls ≠ "java/lang/invoke/MethodHandle" ∧ yX8_part.cls ≠ "java/lang/invoke/VarHandle" ∧ (parseMethodDescriptor yX8_part.desc).map (fun d => d.parameters.length) = some 3 := by decide +kernel
theorem hd_X8_odds : yX8_odds.cls = RX8 ∧ yX8_odds.cls ≠ "java/lang/invoke/MethodHandle" ∧ yX8_odds.cls ≠ "java/lang/invoke/VarHandle" ∧ (parseMethodDescriptor yX8_odds.desc).map (fun d => d.parameters.length) = some 4 := by decide +kernel
theorem hd_X8_saw : yX8_saw.cls = RX8 ∧ yX8_saw.cls ≠ "java/lang/invoke/MethodHandle" ∧ yX8_saw.cls ≠ "java/lang/invoke/VarHandle" ∧ (parseMethodDescriptor yX8_saw.desc).map (fun d => d.parameters.length) = some 3 := by decide +kernel
theorem hd_X8_forget : yX8_forget.cls = RX8 ∧ yX8_forget.cls ≠ "java/lang/invoke/MethodHandle" ∧ yX8_forget.cls ≠ "java/lang/invoke/VarHandle" ∧ (parseMethodDescriptor yX8_forget.desc).map (fun d => d.parameters.length) = some 0 := by decide +kernel
theorem hd_X8_fits : yX8_fits.cls = RX8 ∧ yX8_fits.cls ≠ "java/lang/invoke/MethodHandle" ∧ yX8_fits.cls ≠ "java/lang/invoke/VarHandle" ∧ (parseMethodDescriptor yX8_fits.desc).map (fun d => d.parameters.length) = some 0 := by decide +kernel
theorem hd_X8_isHidden : yX8_isHidden.cls = RX8 ∧ yX8_isHidden.cls ≠ "java/lang/invoke/MethodHandle" ∧ yX8_isHidden.cls ≠ "java/lang/invoke/VarHandle" ∧ (parseMethodDescriptor yX8_isHidden.desc).map (fun d => d.parameters.length) = some 2 := by decide +kernel
theorem hd_X8_hidden : yX8_hidden.cls = RX8 ∧ yX8_hidden.cls ≠ "java/lang/invoke/MethodHandle" ∧ yX8_hidden.cls ≠ "java/lang/invoke/VarHandle" ∧ (parseMethodDescriptor yX8_hidden.desc).map (fun d => d.parameters.length) = some 2 := by decide +kernel
theorem hd_X8_look : yX8_look.cls = RX8 ∧ yX8_look.cls ≠ "java/lang/invoke/MethodHandle" ∧ yX8_look.cls ≠ "java/lang/invoke/VarHandle" ∧ (parseMethodDescriptor yX8_look.desc).map (fun d => d.parameters.length) = some 2 := by decide +kernel
theorem hd_X8_why : yX8_why.cls = RX8 ∧ yX8_why.cls ≠ "java/lang/invoke/MethodHandle" ∧ yX8_why.cls ≠ "java/lang/invoke/VarHandle" ∧ (parseMethodDescriptor yX8_why.desc).map (fun d => d.parameters.length) = some 1 := by decide +kernel
theorem hd_X8_proofs : yX8_proofs.cls = RX8 ∧ yX8_proofs.cls ≠ "java/lang/invoke/MethodHandle" ∧ yX8_proofs.cls ≠ "java/lang/invoke/VarHandle" ∧ (parseMethodDescriptor yX8_proofs.desc).map (fun d => d.parameters.length) = some 1 := by decide +kernel
theorem hd_X8_mark : yX8_mark.cls = RX8 ∧ yX8_mark.cls ≠ "java/lang/invoke/MethodHandle" ∧ yX8_mark.cls ≠ "java/lang/invoke/VarHandle" ∧ (parseMethodDescriptor yX8_mark.desc).map (fun d => d.parameters.length) = some 2 := by decide +kernel
theorem hd_X8_keep : yX8_keep.cls = RX8 ∧ yX8_keep.cls ≠ "java/lang/invoke/MethodHandle" ∧ yX8_keep.cls ≠ "java/lang/invoke/VarHandle" ∧ (parseMethodDescriptor yX8_keep.desc).map (fun d => d.parameters.length) = some 1 := by decide +kernel
theorem hd_X8_back : yX8_back.cls = RX8 ∧ yX8_back.cls ≠ "java/lang/invoke/MethodHandle" ∧ yX8_back.cls ≠ "java/lang/invoke/VarHandle" ∧ (parseMethodDescriptor yX8_back.desc).map (fun d => d.parameters.length) = some 1 := by decide +kernel
theorem hd_X8_count : yX8_count.cls = RX8 ∧ yX8_count.cls ≠ "java/lang/invoke/MethodHandle" ∧ yX8_count.cls ≠ "java/lang/invoke/VarHandle" ∧ (parseMethodDescriptor yX8_count.desc).map (fun d => d.parameters.length) = some 1 := by decide +kernel
theorem hd_X8_trace : yX8_trace.cls = RX8 ∧ yX8_trace.cls ≠ "java/lang/invoke/MethodHandle" ∧ yX8_trace.cls ≠ "java/lang/invoke/VarHandle" ∧ (parseMethodDescriptor yX8_trace.desc).map (fun d => d.parameters.length) = some 0 := by decide +kernel
theorem hd_X7_imageOf : yX7_imageOf.cls = RX7 ∧ yX7_imageOf.cls ≠ "java/lang/invoke/MethodHandle" ∧ yX7_imageOf.cls ≠ "java/lang/invoke/VarHandle" ∧ (parseMethodDescriptor yX7_imageOf.desc).map (fun d => d.parameters.length) = some 1 := by decide +kernel
theorem hd_X7_keep : yX7_keep.cls = RX7 ∧ yX7_keep.cls ≠ "java/lang/invoke/MethodHandle" ∧ yX7_keep.cls ≠ "java/lang/invoke/VarHandle" ∧ (parseMethodDescriptor yX7_keep.desc).map (fun d => d.parameters.length) = some 1 := by decide +kernel
theorem hd_X7_back : yX7_back.cls = RX7 ∧ yX7_back.cls ≠ "java/lang/invoke/MethodHandle" ∧ yX7_back.cls ≠ "java/lang/invoke/VarHandle" ∧ (parseMethodDescriptor yX7_back.desc).map (fun d => d.parameters.length) = some 1 := by decide +kernel
theorem hd_X0_init : yX0_init.cls = RX0 ∧ yX0_init.cls ≠ "java/lang/invoke/MethodHandle" ∧ yX0_init.cls ≠ "java/lang/invoke/VarHandle" ∧ (parseMethodDescriptor yX0_init.desc).map (fun d => d.parameters.length) = some 0 := by decide +kernel
theorem hd_X1_init : yX1_init.cls = RX1 ∧ yX1_init.cls ≠ "java/lang/invoke/MethodHandle" ∧ yX1_init.cls ≠ "java/lang/invoke/VarHandle" ∧ (parseMethodDescriptor yX1_init.desc).map (fun d => d.parameters.length) = some 0 := by decide +kernel
theorem hd_X2_init : yX2_init.cls = RX2 ∧ yX2_init.cls ≠ "java/lang/invoke/MethodHandle" ∧ yX2_init.cls ≠ "java/lang/invoke/VarHandle" ∧ (parseMethodDescriptor yX2_init.desc).map (fun d => d.parameters.length) = some 0 := by decide +kernel
theorem hd_X3_init : yX3_init.cls = RX3 ∧ yX3_init.cls ≠ "java/lang/invoke/MethodHandle" ∧ yX3_init.cls ≠ "java/lang/invoke/VarHandle" ∧ (parseMethodDescriptor yX3_init.desc).map (fun d => d.parameters.length) = some 0 := by decide +kernel
theorem hd_X4_init : yX4_init.cls = RX4 ∧ yX4_init.cls ≠ "java/lang/invoke/MethodHandle" ∧ yX4_init.cls ≠ "java/lang/invoke/VarHandle" ∧ (parseMethodDescriptor yX4_init.desc).map (fun d => d.parameters.length) = some 0 := by decide +kernel
theorem hd_X5_init : yX5_init.cls = RX5 ∧ yX5_init.cls ≠ "java/lang/invoke/MethodHandle" ∧ yX5_init.cls ≠ "java/lang/invoke/VarHandle" ∧ (parseMethodDescriptor yX5_init.desc).map (fun d => d.parameters.length) = some 0 := by decide +kernel
theorem hd_X6_init : yX6_init.cls = RX6 ∧ yX6_init.cls ≠ "java/lang/invoke/MethodHandle" ∧ yX6_init.cls ≠ "java/lang/invoke/VarHandle" ∧ (parseMethodDescriptor yX6_init.desc).map (fun d => d.parameters.length) = some 0 := by decide +kernel
theorem hd_X7_init : yX7_init.cls = RX7 ∧ yX7_init.cls ≠ "java/lang/invoke/MethodHandle" ∧ yX7_init.cls ≠ "java/lang/invoke/VarHandle" ∧ (parseMethodDescriptor yX7_init.desc).map (fun d => d.parameters.length) = some 0 := by decide +kernel
theorem hd_X8_init : yX8_init.cls = RX8 ∧ yX8_init.cls ≠ "java/lang/invoke/MethodHandle" ∧ yX8_init.cls ≠ "java/lang/invoke/VarHandle" ∧ (parseMethodDescriptor yX8_init.desc).map (fun d => d.parameters.length) = some 0 := by decide +kernel
theorem vt_good : ∀ w ∈ VT, goodWord w = true := List.all_eq_true.mp (by decide +kernel)
theorem vgi {ws : List Cond} (h : ∀ w ∈ ws, w ∈ VT) : GoodIn VT ws := fun w hw => ⟨h w hw, good_of_word (vt_good w (h w hw))⟩
theorem vcons {c : Cond} (h : c ∈ VT) : ∀ w ∈ c :: VT, w ∈ VT := fun w hw => (List.mem_cons.mp hw).elim (fun e => e ▸ h) id
abbrev vTy (cI cJ cB cZ : ClassId) : List (ClassId × FieldType) := [(cI, .int), (cJ, .long), (cB, .byte), (cZ, .boolean)]
/-- the words on members of nest mates -/
def vNest : List Cond := [
  Cond.methodLinkNest RX7 9 yX5_init "CarriedOne",
  Cond.fieldLinkNest "CarriedOne" 72 "CarriedOne$Text" "length" "I" "CarriedOne",
  Cond.fieldLinkNest "CarriedOne" 83 "CarriedOne$Text" "begin" "I" "CarriedOne",
  Cond.methodLinkNest RX7 18 yX0_init "CarriedOne",
  Cond.fieldLinkNest "CarriedOne" 105 "CarriedOne$Books" "a" "[I" "CarriedOne",
  Cond.fieldLinkNest "CarriedOne" 109 "CarriedOne$Books" "b" "[I" "CarriedOne",
  Cond.fieldLinkNest "CarriedOne$Text" 44 "CarriedOne$Books" "size" "I" "CarriedOne",
  Cond.fieldLinkNest "CarriedOne" 197 "CarriedOne$Books" "size" "I" "CarriedOne",
  Cond.fieldLinkNest "CarriedOne$Now" 18 "CarriedOne$Books" "touches" "I" "CarriedOne",
  Cond.fieldLinkNest "CarriedOne$Text" 61 "CarriedOne$Books" "touches" "I" "CarriedOne",
  Cond.fieldLinkNest "CarriedOne$Now" 27 "CarriedOne$Books" "one" "I" "CarriedOne",
  Cond.fieldLinkNest "CarriedOne$Text" 68 "CarriedOne$Books" "one" "I" "CarriedOne",
  Cond.methodLinkNest RX7 28 yX3_init "CarriedOne",
  Cond.fieldLinkNest "CarriedOne" 134 "CarriedOne$Now" "forgotten" "I" "CarriedOne",
  Cond.fieldLinkNest "CarriedOne" 149 "CarriedOne$Now" "touches" "I" "CarriedOne",
  Cond.fieldLinkNest "CarriedOne" 152 "CarriedOne$Now" "trapped" "I" "CarriedOne",
  Cond.fieldLinkNest "CarriedOne" 142 "CarriedOne$Now" "one" "I" "CarriedOne",
  Cond.fieldLinkNest "CarriedOne" 155 "CarriedOne$Now" "date" "I" "CarriedOne",
  Cond.methodLinkNest RX7 35 yX1_init "CarriedOne",
  Cond.fieldLinkNest "CarriedOne" 92 "CarriedOne$History" "known" "I" "CarriedOne",
  Cond.methodLinkNest RX7 42 yX2_init "CarriedOne",
  Cond.methodLinkNest RX2 9 yX1_init "CarriedOne",
  Cond.fieldLinkNest "CarriedOne" 95 "CarriedOne$Image" "kept" "Z" "CarriedOne",
  Cond.methodLinkNest RX7 52 yX4_init "CarriedOne",
  Cond.fieldLinkNest "CarriedOne" 322 "CarriedOne$Seen" "days" "[I" "CarriedOne",
  Cond.fieldLinkNest "CarriedOne" 325 "CarriedOne$Seen" "books" "[I" "CarriedOne",
  Cond.fieldLinkNest "CarriedOne" 328 "CarriedOne$Seen" "there" "[Z" "CarriedOne",
  Cond.fieldLinkNest "CarriedOne" 99 "CarriedOne$Seen" "size" "I" "CarriedOne",
  Cond.methodLinkNest RX7 59 yX6_init "CarriedOne",
  Cond.fieldLinkNest "CarriedOne" 291 "CarriedOne$Ways" "size" "I" "CarriedOne",
  Cond.fieldLinkNest "CarriedOne" 292 "CarriedOne$Ways" "trapped" "I" "CarriedOne",
  Cond.methodLinkNest RX7 68 yX5_append "CarriedOne",
  Cond.methodLinkNest RX7 76 yX0_empty "CarriedOne",
  Cond.methodLinkNest RX7 79 yX5_readItems "CarriedOne",
  Cond.methodLinkNest RX5 74 yX7_within "CarriedOne",
  Cond.methodLinkNest RX5 53 yX0_append "CarriedOne",
  Cond.methodLinkNest RX5 64 yX7_touchBit "CarriedOne",
  Cond.methodLinkNest RX7 86 yX0_copyFrom "CarriedOne",
  Cond.methodLinkNest RX7 90 yX3_begin "CarriedOne",
  Cond.methodLinkNest RX7 122 yX3_forgottenIn "CarriedOne",
  Cond.methodLinkNest RX7 279 yX0_sum "CarriedOne",
  Cond.methodLinkNest RX7 119 yX0_carries "CarriedOne",
  Cond.methodLinkNest RX7 128 yX3_isTrap "CarriedOne",
  Cond.methodLinkNest RX7 286 yX3_packed "CarriedOne",
  Cond.methodLinkNest RX7 289 yX1_append "CarriedOne",
  Cond.methodLinkNest RX7 296 yX6_rank "CarriedOne",
  Cond.methodLinkNest RX7 166 yX6_goesTo "CarriedOne",
  Cond.methodLinkNest RX6 25 yX7_touchBit "CarriedOne",
  Cond.methodLinkNest RX7 169 yX1_takeLatest "CarriedOne",
  Cond.methodLinkNest RX7 173 yX3_unpack "CarriedOne",
  Cond.methodLinkNest RX7 187 yX6_walk "CarriedOne",
  Cond.methodLinkNest RX7 191 yX6_lengthOfRound "CarriedOne",
  Cond.methodLinkNest RX7 194 yX6_daysToRound "CarriedOne",
  Cond.methodLinkNest RX7 309 yX6_comesTo "CarriedOne",
  Cond.methodLinkNest RX7 224 yX4_append "CarriedOne",
  Cond.methodLinkNest RX7 268 yX2_fill "CarriedOne",
  Cond.methodLinkNest RX2 16 yX3_packed "CarriedOne",
  Cond.methodLinkNest RX2 25 yX1_copyFrom "CarriedOne",
  Cond.methodLinkNest RX7 272 yX2_restore "CarriedOne",
  Cond.methodLinkNest RX2 33 yX3_unpack "CarriedOne"]
def vNestW : Cond → Bool
  | .fieldLinkNest .. => true
  | .methodLinkNest .. => true
  | _ => false
theorem vNest_ok : ∀ w ∈ vNest, vNestW w = true := List.all_eq_true.mp (by decide +kernel)
theorem vNestW_warm {w : Cond} (hw : vNestW w = true) {s U : State} (hW : s.WarmedH U.vm) (h : va_Nw w s) : va_Nw w U := by
  cases w <;> first | exact va_Nw.warmF hW h | exact va_Nw.warmM hW h | cases hw
theorem vNestW_tab {w : Cond} (hw : vNestW w = true) : w.onTables = true := by
  cases w <;> first | rfl | cases hw
def vNl (U : State) : Prop := ∀ w ∈ vNest, va_Nw w U
theorem vNl.warm {s U : State} (h : vNl s) (hW : s.WarmedH U.vm) : vNl U := fun w hw => vNestW_warm (vNest_ok w hw) hW (h w hw)
theorem vNl.same {u U : State} (h : vNl u) (e : u.vm = U.vm) : vNl U := fun w hw => va_Nw.same (vNestW_tab (vNest_ok w hw)) e (h w hw)
/-- what holds at a method's start, at its end -/
def vPre (D : va_G) (tys : List (ClassId × FieldType)) (ws : va_W) (sz : Nat) (U : State) : Prop := U.heap.size = sz ∧ va_P D vwCl ws U.heap ∧ va_K D vwCl tys U ∧ va_D (fun _ => True) ws ∧ vNl U
def vPost (D : va_G) (tys : List (ClassId × FieldType)) (A : Nat → Prop) (ws : va_W) (t : State) : Prop := va_P D vwCl ws t.heap ∧ va_K D vwCl tys t ∧ va_D A ws
theorem vPre_blind {D : va_G} {tys : List (ClassId × FieldType)} {ws : va_W} {sz : Nat} {av : List Value} : FrameBlind (va_Pc av (vPre D tys ws sz)) := by
  intro a U g mk q
  obtain ⟨q0, q1, qP, qK, qD, qN⟩ := q
  exact ⟨q0, q1, qP, va_K.moved (u := U) (U := U.calling g mk a) (Vm.Alike.refl U.vm) qK, qD, qN.same rfl⟩
theorem vPre_of {D : va_G} {tys : List (ClassId × FieldType)} {ws wc : va_W} {A : Nat → Prop} {s : State} {H : Heap} (hK : va_K D vwCl tys s) (hN : vNl s) (hP : va_P D vwCl ws H) (hD : va_D A ws) (isC : List Nat) (hC : isC.map (fun i => ws[i]?) = wc.map some) (hn : va_nd isC = true) :
    ∀ U : State, U.heap = H → s.WarmedH U.vm → vPre D tys wc H.size U := by
  intro U hU hW
  have hPc : va_P D vwCl wc H := by
    intro k q hk
    have h1 : (isC.map (fun i => ws[i]?))[k]? = some (some q) := by rw [hC, List.getElem?_map, hk]; rfl
    rw [List.getElem?_map] at h1
    cases hi : isC[k]? with
    | none => rw [hi] at h1; cases h1
    | some i => rw [hi] at h1; exact hP i q (Option.some.inj h1)
  exact ⟨by rw [hU], by rw [hU]; exact hPc, va_K.moved hW.alike hK, (hD.sub isC hn hC).weaken (fun _ _ _ _ => trivial), hN.warm hW⟩
/-- the places isC of a world, written anew -/
def vset : va_W → List Nat → va_W → va_W
  | ws, [], _ => ws
  | ws, _ :: _, [] => ws
  | ws, i :: is, x :: xs => vset (ws.set i x) is xs
theorem vset_nil (ws xs : va_W) : vset ws [] xs = ws := by
  cases xs <;> simp only [vset]
theorem vset_get : ∀ (is : List Nat) (xs ws : va_W), is.length = xs.length → va_nd is = true → (∀ i ∈ is, i < ws.length) → ∀ k : Nat, (∃ j : Nat, is[j]? = some k ∧ (vset ws is xs)[k]? = xs[j]?) ∨ (k ∉ is ∧ (vset ws is xs)[k]? = ws[k]?)
  | [], xs, ws, _, _, _, k => Or.inr ⟨by simp, by rw [vset_nil]⟩
  | i :: is, [], ws, h, _, _, k => by simp at h
  | i :: is, x :: xs, ws, h, hn, hl, k => by
    simp only [va_nd, Bool.and_eq_true, decide_eq_true_eq] at hn
    have ih := vset_get is xs (ws.set i x) (by simpa using h) hn.2 (fun a ha => by rw [List.length_set]; exact hl a (List.mem_cons_of_mem _ ha)) k
    show (∃ j : Nat, (i :: is)[j]? = some k ∧ (vset (ws.set i x) is xs)[k]? = (x :: xs)[j]?) ∨ (k ∉ i :: is ∧ (vset (ws.set i x) is xs)[k]? = ws[k]?)
    rcases ih with ⟨j, h1, h2⟩ | ⟨h1, h2⟩
    · exact Or.inl ⟨j + 1, by rw [List.getElem?_cons_succ]; exact h1, by rw [List.getElem?_cons_succ]; exact h2⟩
    · by_cases hk : k = i
      · subst hk
        refine Or.inl ⟨0, rfl, ?_⟩
        rw [h2, List.getElem?_set_self (hl k List.mem_cons_self)]
        rfl
      · refine Or.inr ⟨by simp [hk, h1], ?_⟩
        rw [h2, List.getElem?_set_ne (Ne.symm hk)]
theorem vset_len : ∀ (is : List Nat) (xs ws : va_W), (vset ws is xs).length = ws.length
  | [], _, ws => by rw [vset_nil]
  | _ :: _, [], ws => rfl
  | i :: is, x :: xs, ws => by
    show (vset (ws.set i x) is xs).length = ws.length
    rw [vset_len is xs (ws.set i x), List.length_set]
theorem vset_ok {A : Nat → Prop} {D : va_G} {ws wc wc' ws2 : va_W} {H H1 : Heap} (hP : va_P D vwCl ws H) (hD : va_D A ws) (isC : List Nat) (hC : isC.map (fun i => ws[i]?) = wc.map some) (hn : va_nd isC = true) (hadr : wc'.map Prod.fst = wc.map Prod.fst) (hset : vset ws isC wc' = ws2)
    (hk : ∀ q : Nat, q < H.size → ¬ va_A wc H.size q → H1[q]? = H[q]?) (hP1 : va_P D vwCl wc' H1) : va_P D vwCl ws2 H1 ∧ va_D A ws2 := by
  subst hset
  have hlen : isC.length = wc'.length := by
    have h1 := congrArg List.length hC
    have h2 := congrArg List.length hadr
    simp only [List.length_map] at h1 h2
    omega
  have at' : ∀ (j : Nat) (i : Nat), isC[j]? = some i → ∃ q, ws[i]? = some q ∧ wc[j]? = some q := by
    intro j i hi
    have h1 : (isC.map (fun i => ws[i]?))[j]? = some (ws[i]?) := by rw [List.getElem?_map, hi]; rfl
    rw [hC, List.getElem?_map] at h1
    cases hw : wc[j]? with
    | none => rw [hw] at h1; cases h1
    | some q => rw [hw] at h1; exact ⟨q, (Option.some.inj h1).symm, rfl⟩
  have hl : ∀ i ∈ isC, i < ws.length := by
    intro i hi
    obtain ⟨j, hj⟩ := List.getElem?_of_mem hi
    obtain ⟨q, hq, -⟩ := at' j i hj
    exact (List.getElem?_eq_some_iff.mp hq).1
  have adr : ∀ (j : Nat) (x : Nat × va_E), wc'[j]? = some x → ∃ y, wc[j]? = some y ∧ y.1 = x.1 := by
    intro j x hx
    have h1 : (wc'.map Prod.fst)[j]? = some x.1 := by rw [List.getElem?_map, hx]; rfl
    rw [hadr, List.getElem?_map] at h1
    cases hw : wc[j]? with
    | none => rw [hw] at h1; cases h1
    | some y => rw [hw] at h1; exact ⟨y, rfl, Option.some.inj h1⟩
  have key := vset_get isC wc' ws hlen hn hl
  constructor
  · intro k q hq
    rcases key k with ⟨j, h1, h2⟩ | ⟨h1, h2⟩
    · rw [h2] at hq
      exact hP1 j q hq
    · rw [h2] at hq
      have hlt := (hP k q hq).lt
      refine (hP k q hq).kept (hk q.1 hlt fun h => ?_)
      rcases h with ⟨k2, e, h⟩ | h
      · have h3 : (isC.map (fun i => ws[i]?))[k2]? = some (some (q.1, e)) := by rw [hC, List.getElem?_map, h]; rfl
        rw [List.getElem?_map] at h3
        cases hi : isC[k2]? with
        | none => rw [hi] at h3; cases h3
        | some i =>
          rw [hi] at h3
          have hij := hD.1 k i q (q.1, e) hq (Option.some.inj h3) rfl
          subst hij
          exact h1 (List.mem_of_getElem? hi)
      · omega
  · have same : ∀ (k : Nat) (q : Nat × va_E), (vset ws isC wc')[k]? = some q → ∃ q0, ws[k]? = some q0 ∧ q0.1 = q.1 := by
      intro k q hq
      rcases key k with ⟨j, h1, h2⟩ | ⟨h1, h2⟩
      · rw [h2] at hq
        obtain ⟨y, hy, e⟩ := adr j q hq
        obtain ⟨q2, h3, h4⟩ := at' j k h1
        rw [hy] at h4
        cases h4
        exact ⟨y, h3, e⟩
      · rw [h2] at hq
        exact ⟨q, hq, rfl⟩
    refine ⟨fun i j x y hi hj hxy => ?_, fun k q hq => ?_⟩
    · obtain ⟨x0, h1, h2⟩ := same i x hi
      obtain ⟨y0, h3, h4⟩ := same j y hj
      exact hD.1 i j x0 y0 h1 h3 (by rw [h2, h4, hxy])
    · obtain ⟨q0, h1, h2⟩ := same k q hq
      rw [← h2]
      exact hD.2 k q0 h1
theorem vset_same : ∀ (is : List Nat) (xs ws : va_W), is.map (fun i => ws[i]?) = xs.map some → vset ws is xs = ws
  | [], _, _, _ => vset_nil _ _
  | _ :: _, [], _, _ => rfl
  | i :: is, x :: xs, ws, h => by
    simp only [List.map_cons, List.cons.injEq] at h
    obtain ⟨h1, h2⟩ := h
    have e : ws.set i x = ws := by
      apply List.ext_getElem?
      intro k
      by_cases hk : k = i
      · subst hk
        rw [List.getElem?_set_self (List.getElem?_eq_some_iff.mp h1).1, h1]
      · rw [List.getElem?_set_ne (Ne.symm hk)]
    show vset (ws.set i x) is xs = ws
    rw [e]
    exact vset_same is xs ws h2
section CONTRACT
variable (l : Launch) (y : MethodName) (wsc : List Cond) (rm : Room) (D : va_G) (tys : List (ClassId × FieldType)) (av : List Value) (ws ws' : va_W)
def Ki (r : Int32) : Prop := ∀ sz : Nat, Met l y wsc rm (va_Pc av (vPre D tys ws sz)) (va_Qi (fun r' (_ : Unit) => r' = r) (fun _ t => vPost D tys (va_A ws sz) ws' t) (va_A ws sz)) 0 0 (va_A ws sz)
def Kz (r : Int32) : Prop := ∀ sz : Nat, Met l y wsc rm (va_Pc av (vPre D tys ws sz)) (va_Qi (fun r' (_ : Unit) => r' = r ∧ (r' = 0 ∨ r' = 1)) (fun _ t => vPost D tys (va_A ws sz) ws' t) (va_A ws sz)) 0 0 (va_A ws sz)
def Kl (r : Int64) : Prop := ∀ sz : Nat, Met l y wsc rm (va_Pc av (vPre D tys ws sz)) (va_Ql (fun r' (_ : Unit) => r' = r) (fun _ t => vPost D tys (va_A ws sz) ws' t) (va_A ws sz)) 0 0 (va_A ws sz)
def Kv : Prop := ∀ sz : Nat, Met l y wsc rm (va_Pc av (vPre D tys ws sz)) (va_Qv (fun (_ : Unit) => True) (fun _ t => vPost D tys (va_A ws sz) ws' t) (va_A ws sz)) 0 0 (va_A ws sz)
def Kr (r : Nat) : Prop := ∀ sz : Nat, Met l y wsc rm (va_Pc av (vPre D tys ws sz)) (va_Qr (fun (_ : Unit) => True) (fun _ a t => a = r ∧ vPost D tys (va_A ws sz) ws' t) (va_A ws sz)) 0 0 (va_A ws sz)
def Kc {S : Type} (mc ms : Nat) (B : S → va_W) : Prop := ∀ sz : Nat, Met l y wsc rm (va_Pc av (vPre D tys ws sz)) (va_Qv (fun (_ : S) => True) (fun u t => vPost D tys (va_A ws sz) (B u) t) (va_A ws sz)) mc ms (va_A ws sz)
end CONTRACT
def vEc {S : Type} (below : List Frame) (D : va_G) (tys : List (ClassId × FieldType)) (A : Nat → Prop) (args : Array Value) (s : State) (mc ms : Nat) (B : S → va_W) : State → Prop := MQ below (va_Qv (fun (_ : S) => True) (fun u t => vPost D tys A (B u) t) A) args s mc ms A
/-- what stands all through a method's body -/
def vC (p : Program) (s : State) (m : MethodId) (args : Array Value) (meth : Method) (c : Code) (cc : ByteArray) (maxL : Nat) (ret : Option FieldType) (own : String) (D : va_G) (tys : List (ClassId × FieldType)) (A : Nat → Prop) : Prop :=
  p.tables.exec = Jvm.exec ∧ c.code = cc ∧ meth.sig.returnType = ret ∧ c.maxLocals = maxL ∧ (∀ w ∈ VT, w.before args s = true) ∧ s.vm.findClass own = some m.cls ∧ meth.locks = false ∧ va_K D vwCl tys s ∧ vNl s ∧ ∀ q : Nat, s.heap.size ≤ q → A q
/-- the body's end -/
def vEi (below : List Frame) (D : va_G) (tys : List (ClassId × FieldType)) (A : Nat → Prop) (args : Array Value) (s : State) (ws' : va_W) (r : Int32) : State → Prop := MQ below (va_Qi (fun r' (_ : Unit) => r' = r) (fun _ t => vPost D tys A ws' t) A) args s 0 0 A
def vEz (below : List Frame) (D : va_G) (tys : List (ClassId × FieldType)) (A : Nat → Prop) (args : Array Value) (s : State) (ws' : va_W) (r : Int32) : State → Prop := MQ below (va_Qi (fun r' (_ : Unit) => r' = r ∧ (r' = 0 ∨ r' = 1)) (fun _ t => vPost D tys A ws' t) A) args s 0 0 A
def vEl (below : List Frame) (D : va_G) (tys : List (ClassId × FieldType)) (A : Nat → Prop) (args : Array Value) (s : State) (ws' : va_W) (r : Int64) : State → Prop := MQ below (va_Ql (fun r' (_ : Unit) => r' = r) (fun _ t => vPost D tys A ws' t) A) args s 0 0 A
def vEv (below : List Frame) (D : va_G) (tys : List (ClassId × FieldType)) (A : Nat → Prop) (args : Array Value) (s : State) (ws' : va_W) : State → Prop := MQ below (va_Qv (fun (_ : Unit) => True) (fun _ t => vPost D tys A ws' t) A) args s 0 0 A
def vEr (below : List Frame) (D : va_G) (tys : List (ClassId × FieldType)) (A : Nat → Prop) (args : Array Value) (s : State) (ws' : va_W) (r : Nat) : State → Prop := MQ below (va_Qr (fun (_ : Unit) => True) (fun _ a t => a = r ∧ vPost D tys A ws' t) A) args s 0 0 A
section BODY
variable {l : Launch} {y : MethodName} {rm : Room} {D : va_G} {tys : List (ClassId × FieldType)} {av : List Value} {ws ws' : va_W} {cc : ByteArray} {maxL : Nat}
theorem vbody {ret : Option FieldType} {rm : Room} {p : Program} {e : Env} {s : State} {m : MethodId} {args : Array Value} {below : List Frame} {meth : Method} {c : Code} {s₁ : State} (B : BodyLoose p l y (headSpec (Cond.code y cc maxL ret :: VT) rm) cc maxL ret e s m args below meth c s₁) (hml : c.maxLocals = maxL) {sz : Nat} (hv : va_Pc av (vPre D tys ws sz) args s) :
    args = av.toArray ∧ sz = s.heap.size ∧ va_P D vwCl ws s.heap ∧ va_D (va_A ws sz) ws ∧ vC p s m args meth c cc maxL ret y.cls D tys (va_A ws sz) := by
  obtain ⟨rfl, hsz, hP, hK, hD0, hN⟩ := hv
  exact ⟨rfl, hsz.symm, hP, hD0.self, B.exec, B.bytes, B.returns, hml, fun w hw => atoms_spec (ws := Cond.code y cc maxL ret :: VT) B.pre w (List.mem_cons_of_mem _ hw), findClass_of_methodNamed B.named, B.notSynchronized, hK, hN, fun q h => Or.inr (by omega)⟩
theorem Ki.mk {r : Int32} {ret : Option FieldType} (hy : plainName y.cls = true) (hle : (lg_sl av).length ≤ maxL)
    (body : ∀ (p : Program) (e : Env) (s : State) (m : MethodId) (args : Array Value) (below : List Frame) (meth : Method) (c : Code) (A : Nat → Prop) (Q : State → Prop) (H : Heap) (locs : List Loc), vC p s m args meth c cc maxL ret y.cls D tys A → Q = vEi below D tys A args s ws' r → va_P D vwCl ws H → va_D A ws → va_S A s.heap H locs →
      ∀ ls : Array Slot, lv_has ls maxL (lv_args 0 av) → W p l e rm s m args below meth c H locs 0 0 Q (F0 m 0 ls [])) : Ki l y (Cond.code y cc maxL ret :: VT) rm D tys av ws ws' r := by
  intro sz
  refine Met.ofW (cc := cc) (maxL := maxL) (ret := ret) hy rfl ?_
  intro p e s m args below meth c s₁ B hml hv
  obtain ⟨rfl, rfl, hP, hD, C⟩ := vbody B hml hv
  have hl := lv_entry av hle
  rw [lg_entry_eq]
  exact body p e s m _ below meth c _ _ _ _ C rfl hP hD va_S.rf _ hl
theorem Kz.mk {r : Int32} {ret : Option FieldType} (hy : plainName y.cls = true) (hle : (lg_sl av).length ≤ maxL)
    (body : ∀ (p : Program) (e : Env) (s : State) (m : MethodId) (args : Array Value) (below : List Frame) (meth : Method) (c : Code) (A : Nat → Prop) (Q : State → Prop) (H : Heap) (locs : List Loc), vC p s m args meth c cc maxL ret y.cls D tys A → Q = vEz below D tys A args s ws' r → va_P D vwCl ws H → va_D A ws → va_S A s.heap H locs →
      ∀ ls : Array Slot, lv_has ls maxL (lv_args 0 av) → W p l e rm s m args below meth c H locs 0 0 Q (F0 m 0 ls [])) : Kz l y (Cond.code y cc maxL ret :: VT) rm D tys av ws ws' r := by
  intro sz
  refine Met.ofW (cc := cc) (maxL := maxL) (ret := ret) hy rfl ?_
  intro p e s m args below meth c s₁ B hml hv
  obtain ⟨rfl, rfl, hP, hD, C⟩ := vbody B hml hv
  have hl := lv_entry av hle
  rw [lg_entry_eq]
  exact body p e s m _ below meth c _ _ _ _ C rfl hP hD va_S.rf _ hl
theorem Kl.mk {r : Int64} {ret : Option FieldType} (hy : plainName y.cls = true) (hle : (lg_sl av).length ≤ maxL)
    (body : ∀ (p : Program) (e : Env) (s : State) (m : MethodId) (args : Array Value) (below : List Frame) (meth : Method) (c : Code) (A : Nat → Prop) (Q : State → Prop) (H : Heap) (locs : List Loc), vC p s m args meth c cc maxL ret y.cls D tys A → Q = vEl below D tys A args s ws' r → va_P D vwCl ws H → va_D A ws → va_S A s.heap H locs →
      ∀ ls : Array Slot, lv_has ls maxL (lv_args 0 av) → W p l e rm s m args below meth c H locs 0 0 Q (F0 m 0 ls [])) : Kl l y (Cond.code y cc maxL ret :: VT) rm D tys av ws ws' r := by
  intro sz
  refine Met.ofW (cc := cc) (maxL := maxL) (ret := ret) hy rfl ?_
  intro p e s m args below meth c s₁ B hml hv
  obtain ⟨rfl, rfl, hP, hD, C⟩ := vbody B hml hv
  have hl := lv_entry av hle
  rw [lg_entry_eq]
  exact body p e s m _ below meth c _ _ _ _ C rfl hP hD va_S.rf _ hl
theorem Kv.mk {ret : Option FieldType} (hy : plainName y.cls = true) (hle : (lg_sl av).length ≤ maxL)
    (body : ∀ (p : Program) (e : Env) (s : State) (m : MethodId) (args : Array Value) (below : List Frame) (meth : Method) (c : Code) (A : Nat → Prop) (Q : State → Prop) (H : Heap) (locs : List Loc), vC p s m args meth c cc maxL ret y.cls D tys A → Q = vEv below D tys A args s ws' → va_P D vwCl ws H → va_D A ws → va_S A s.heap H locs →
      ∀ ls : Array Slot, lv_has ls maxL (lv_args 0 av) → W p l e rm s m args below meth c H locs 0 0 Q (F0 m 0 ls [])) : Kv l y (Cond.code y cc maxL ret :: VT) rm D tys av ws ws' := by
  intro sz
  refine Met.ofW (cc := cc) (maxL := maxL) (ret := ret) hy rfl ?_
  intro p e s m args below meth c s₁ B hml hv
  obtain ⟨rfl, rfl, hP, hD, C⟩ := vbody B hml hv
  have hl := lv_entry av hle
  rw [lg_entry_eq]
  exact body p e s m _ below meth c _ _ _ _ C rfl hP hD va_S.rf _ hl
theorem Kr.mk {r : Nat} {ret : Option FieldType} (hy : plainName y.cls = true) (hle : (lg_sl av).length ≤ maxL)
    (body : ∀ (p : Program) (e : Env) (s : State) (m : MethodId) (args : Array Value) (below : List Frame) (meth : Method) (c : Code) (A : Nat → Prop) (Q : State → Prop) (H : Heap) (locs : List Loc), vC p s m args meth c cc maxL ret y.cls D tys A → Q = vEr below D tys A args s ws' r → va_P D vwCl ws H → va_D A ws → va_S A s.heap H locs →
      ∀ ls : Array Slot, lv_has ls maxL (lv_args 0 av) → W p l e rm s m args below meth c H locs 0 0 Q (F0 m 0 ls [])) : Kr l y (Cond.code y cc maxL ret :: VT) rm D tys av ws ws' r := by
  intro sz
  refine Met.ofW (cc := cc) (maxL := maxL) (ret := ret) hy rfl ?_
  intro p e s m args below meth c s₁ B hml hv
  obtain ⟨rfl, rfl, hP, hD, C⟩ := vbody B hml hv
  have hl := lv_entry av hle
  rw [lg_entry_eq]
  exact body p e s m _ below meth c _ _ _ _ C rfl hP hD va_S.rf _ hl
theorem Kc.mk {S : Type} {mc ms : Nat} {B : S → va_W} {ret : Option FieldType} (hy : plainName y.cls = true) (hle : (lg_sl av).length ≤ maxL)
    (body : ∀ (p : Program) (e : Env) (s : State) (m : MethodId) (args : Array Value) (below : List Frame) (meth : Method) (c : Code) (A : Nat → Prop) (Q : State → Prop) (H : Heap) (locs : List Loc), vC p s m args meth c cc maxL ret y.cls D tys A → meth.name = y.name → Q = vEc below D tys A args s mc ms B → va_P D vwCl ws H → va_D A ws → va_S A s.heap H locs →
      ∀ ls : Array Slot, lv_has ls maxL (lv_args 0 av) → W p l e rm s m args below meth c H locs 0 0 Q (F0 m 0 ls [])) : Kc l y (Cond.code y cc maxL ret :: VT) rm D tys av ws mc ms B := by
  intro sz
  refine Met.ofW (cc := cc) (maxL := maxL) (ret := ret) hy rfl ?_
  intro p e s m args below meth c s₁ B hml hv
  have hnm := (name_of_methodNamed B.named B.method).1
  obtain ⟨rfl, rfl, hP, hD, C⟩ := vbody B hml hv
  have hl := lv_entry av hle
  rw [lg_entry_eq]
  exact body p e s m _ below meth c _ _ _ _ C hnm rfl hP hD va_S.rf _ hl
end BODY
section WALK
variable {p : Program} {l : Launch} {e : Env} {R : Room} {s : State} {m : MethodId} {args : Array Value} {below : List Frame} {meth : Method} {c : Code} {H : Heap} {locs : List Loc} {cells slots : Nat} {Q : State → Prop}
variable {cc : ByteArray} {maxL : Nat} {own : String} {D : va_G} {tys : List (ClassId × FieldType)} {A : Nat → Prop} {ws wc wc' ws2 : va_W} {H0 : Heap} {pc : Nat} {ls : Array Slot} {st0 rest : List Value}
theorem vnar_z {r : Int32} (h : r = 0 ∨ r = 1) : narrow .boolean (.int r) = .int r := by
  rcases h with rfl | rfl <;> rfl
theorem vret_i {r : Int32} {ws' : va_W} (C : vC p s m args meth c cc maxL (some .int) own D tys A) (hP : va_P D vwCl ws' H) (hD : va_D A ws') (hS : va_S A s.heap H locs) (hdg : decode cc pc = .ok (.ireturn, 1)) : W p l e R s m args below meth c H locs 0 0 (vEi below D tys A args s ws' r) (F0 m pc ls [.int r]) := by
  obtain ⟨hx, hb, hr, hml, hts, hown, hlocks, hK, hN, hA⟩ := C
  exact W.iret hx hb hr (fun t ht hW => ⟨⟨r, (), rfl, rfl, by rw [ht]; exact hP, va_K.moved hW.alike hK, hD⟩, hS.F ht⟩) hS.2.2 hdg
theorem vret_z {r : Int32} {ws' : va_W} (C : vC p s m args meth c cc maxL (some .boolean) own D tys A) (hP : va_P D vwCl ws' H) (hD : va_D A ws') (hS : va_S A s.heap H locs) (hdg : decode cc pc = .ok (.ireturn, 1)) (hz : r = 0 ∨ r = 1) : W p l e R s m args below meth c H locs 0 0 (vEz below D tys A args s ws' r) (F0 m pc ls [.int r]) := by
  obtain ⟨hx, hb, hr, hml, hts, hown, hlocks, hK, hN, hA⟩ := C
  exact W.zret hx hb hr (vnar_z hz) (fun t ht hW => ⟨⟨r, (), rfl, ⟨rfl, hz⟩, by rw [ht]; exact hP, va_K.moved hW.alike hK, hD⟩, hS.F ht⟩) hS.2.2 hdg
theorem vret_l {r : Int64} {ws' : va_W} (C : vC p s m args meth c cc maxL (some .long) own D tys A) (hP : va_P D vwCl ws' H) (hD : va_D A ws') (hS : va_S A s.heap H locs) (hdg : decode cc pc = .ok (.lreturn, 1)) : W p l e R s m args below meth c H locs 0 0 (vEl below D tys A args s ws' r) (F0 m pc ls [.long r]) := by
  obtain ⟨hx, hb, hr, hml, hts, hown, hlocks, hK, hN, hA⟩ := C
  exact W.lret hx hb hr (fun t ht hW => ⟨⟨r, (), rfl, rfl, by rw [ht]; exact hP, va_K.moved hW.alike hK, hD⟩, hS.F ht⟩) hS.2.2 hdg
theorem vret_v {ws' : va_W} (C : vC p s m args meth c cc maxL none own D tys A) (hP : va_P D vwCl ws' H) (hD : va_D A ws') (hS : va_S A s.heap H locs) (hdg : decode cc pc = .ok (.return_, 1)) : W p l e R s m args below meth c H locs 0 0 (vEv below D tys A args s ws') (F0 m pc ls []) := by
  obtain ⟨hx, hb, hr, hml, hts, hown, hlocks, hK, hN, hA⟩ := C
  exact W.vret hx hb hr (fun t ht hW => ⟨⟨(), rfl, trivial, by rw [ht]; exact hP, va_K.moved hW.alike hK, hD⟩, hS.F ht⟩) hS.2.2 hdg
theorem vret_r {r : Nat} {ws' : va_W} {C0 : String} (C : vC p s m args meth c cc maxL (some (.object C0)) own D tys A) (hP : va_P D vwCl ws' H) (hD : va_D A ws') (hS : va_S A s.heap H locs) (hdg : decode cc pc = .ok (.areturn, 1)) : W p l e R s m args below meth c H locs 0 0 (vEr below D tys A args s ws' r) (F0 m pc ls [.ref r]) := by
  obtain ⟨hx, hb, hr, hml, hts, hown, hlocks, hK, hN, hA⟩ := C
  exact W.aret hx hb hr (Or.inl ⟨_, rfl⟩) (Or.inr ⟨_, rfl⟩) (fun t ht hW => ⟨⟨(), r, rfl, trivial, rfl, by rw [ht]; exact hP, va_K.moved hW.alike hK, hD⟩, hS.F ht⟩) hS.2.2 hdg
theorem vpreV {C : String} {T : u_T} {N ci q0 : Nat} {fs : List Value} {b : Nat} {As : List Value} (hK : va_K D vwCl tys s) (hN : vNl s) (hP : va_P D vwCl ws H) (hD : va_D A ws) (isC : List Nat) (hC : isC.map (fun i => ws[i]?) = wc.map some) (hn : va_nd isC = true) (hc : vwCl[ci]? = some (C, T, N)) (he : ws[q0]? = some (b, .inr (ci, fs))) :
    PreV s H C b (va_Pc (.ref b :: As) (vPre D tys wc H.size)) As :=
  ⟨vPre_blind, va_recv hK hP hc he, fun U hU hW => ⟨rfl, vPre_of hK hN hP hD isC hC hn U hU hW⟩⟩
theorem vpreS {As : List Value} (hK : va_K D vwCl tys s) (hN : vNl s) (hP : va_P D vwCl ws H) (hD : va_D A ws) (isC : List Nat) (hC : isC.map (fun i => ws[i]?) = wc.map some) (hn : va_nd isC = true) :
    PreS s H (va_Pc As (vPre D tys wc H.size)) As :=
  ⟨vPre_blind, fun U hU hW => ⟨rfl, vPre_of hK hN hP hD isC hC hn U hU hW⟩⟩
section CW
variable {C : String} {index : Nat} {y : MethodName} {bytes : ByteArray} {maxL1 n : Nat} {ret : Option FieldType} {rm : Room}
theorem vcwV (hts : ∀ w ∈ VT, w.before args s = true) (h1 : Cond.methodLink own index y ∈ VT) (h2 : Cond.instanceMethod y ∈ VT) (h3 : Cond.selects C y y ∈ VT) (h4 : Cond.initialized C ∈ VT) (h5 : Cond.code y bytes maxL1 ret ∈ VT)
    (hd : y.cls = C ∧ y.cls ≠ "java/lang/invoke/MethodHandle" ∧ y.cls ≠ "java/lang/invoke/VarHandle" ∧ (parseMethodDescriptor y.desc).map (fun d => d.parameters.length) = some n) (hrc : rm.cells = 0) (hrs : rm.slots = 0) (hR : rm.frames + 1 ≤ R.frames ∧ 8 + (maxL1 + 11) + rm.locals ≤ R.locals) :
    CallW R s args own C index y bytes maxL1 ret (Cond.code y bytes maxL1 ret :: VT) rm 0 0 n := by
  refine cwV n hts (vgi fun w hw => ?_) rfl hrc hrs hd hR
  rcases List.mem_append.mp hw with h | h
  · simp only [List.mem_cons, List.not_mem_nil, or_false] at h
    rcases h with rfl | rfl | rfl | rfl
    · exact h1
    · exact h2
    · exact h3
    · exact h4
  · exact vcons h5 w h
theorem vcwS (hts : ∀ w ∈ VT, w.before args s = true) (h1 : Cond.methodLink own index y ∈ VT) (h2 : Cond.static y ∈ VT) (h4 : Cond.initialized y.cls ∈ VT) (h5 : Cond.code y bytes maxL1 ret ∈ VT)
    (hd : y.cls = C ∧ y.cls ≠ "java/lang/invoke/MethodHandle" ∧ y.cls ≠ "java/lang/invoke/VarHandle" ∧ (parseMethodDescriptor y.desc).map (fun d => d.parameters.length) = some n) (hrc : rm.cells = 0) (hrs : rm.slots = 0) (hR : rm.frames + 1 ≤ R.frames ∧ 8 + (maxL1 + 11) + rm.locals ≤ R.locals) :
    CallB R s args own index y bytes maxL1 ret (Cond.code y bytes maxL1 ret :: VT) rm 0 0 n ∧ (Cond.static y).before args s = true := by
  refine va_cwS n hts (vgi fun w hw => ?_) rfl hrc hrs hd.2 hR
  rcases List.mem_append.mp hw with h | h
  · simp only [List.mem_cons, List.not_mem_nil, or_false] at h
    rcases h with rfl | rfl | rfl
    · exact h1
    · exact h2
    · exact h4
  · exact vcons h5 w h
theorem vcwVN {host : String} (hts : ∀ w ∈ VT, w.before args s = true) (h1 : va_Nw (.methodLinkNest own index y host) s) (h2 : Cond.instanceMethod y ∈ VT) (h3 : Cond.selects C y y ∈ VT) (h4 : Cond.initialized C ∈ VT) (h5 : Cond.code y bytes maxL1 ret ∈ VT)
    (hd : y.cls = C ∧ y.cls ≠ "java/lang/invoke/MethodHandle" ∧ y.cls ≠ "java/lang/invoke/VarHandle" ∧ (parseMethodDescriptor y.desc).map (fun d => d.parameters.length) = some n) (hrc : rm.cells = 0) (hrs : rm.slots = 0) (hR : rm.frames + 1 ≤ R.frames ∧ 8 + (maxL1 + 11) + rm.locals ≤ R.locals) :
    va_CN R s args own index y host bytes maxL1 ret (Cond.code y bytes maxL1 ret :: VT) rm 0 0 n ∧ (Cond.instanceMethod y).before args s = true ∧ (Cond.selects C y y).before args s = true :=
  ⟨va_cnB n hts (vgi (vcons h5)) rfl hrc hrs h1 (hts _ (hd.1 ▸ h4)) hd.2 hR, hts _ h2, hts _ h3⟩
theorem vcwSN {host : String} (hts : ∀ w ∈ VT, w.before args s = true) (h1 : va_Nw (.methodLinkNest own index y host) s) (h2 : Cond.static y ∈ VT) (h4 : Cond.initialized C ∈ VT) (h5 : Cond.code y bytes maxL1 ret ∈ VT)
    (hd : y.cls = C ∧ y.cls ≠ "java/lang/invoke/MethodHandle" ∧ y.cls ≠ "java/lang/invoke/VarHandle" ∧ (parseMethodDescriptor y.desc).map (fun d => d.parameters.length) = some n) (hrc : rm.cells = 0) (hrs : rm.slots = 0) (hR : rm.frames + 1 ≤ R.frames ∧ 8 + (maxL1 + 11) + rm.locals ≤ R.locals) :
    va_CN R s args own index y host bytes maxL1 ret (Cond.code y bytes maxL1 ret :: VT) rm 0 0 n ∧ (Cond.static y).before args s = true ∧ True :=
  ⟨va_cnB n hts (vgi (vcons h5)) rfl hrc hrs h1 (hts _ (hd.1 ▸ h4)) hd.2 hR, hts _ h2, trivial⟩
end CW
section CALL
variable (isC : List Nat)
theorem vk_i {r : Int32} {a : Array Value} (hr : va_Run p l e R s m args below meth c H locs cells slots 0 0 (F0 m pc ls st0) rest ((va_Qi (fun r' (_ : Unit) => r' = r) (fun _ t => vPost D tys (va_A wc H.size) wc' t) (va_A wc H.size)) a) (va_A wc H.size))
    (hA : ∀ q : Nat, H0.size ≤ q → A q) (hP : va_P D vwCl ws H) (hD : va_D A ws) (hS : va_S A H0 H locs) (hC : isC.map (fun i => ws[i]?) = wc.map some) (hn : va_nd isC = true) (hadr : wc'.map Prod.fst = wc.map Prod.fst) (hset : vset ws isC wc' = ws2)
    (kk : ∀ (H1 : Heap) (locs1 : List Loc), va_P D vwCl ws2 H1 → va_D A ws2 → va_S A H0 H1 locs1 → W p l e R s m args below meth c H1 locs1 cells slots Q (F0 m (pc + 3) ls (.int r :: rest))) : W p l e R s m args below meth c H locs cells slots Q (F0 m pc ls st0) := by
  have hFc := va_free (wc := wc) hD hS hA isC hC
  refine va_calli hr hS (fun q _ h => hFc q h) hFc (fun r1 u t H1 locs1 ht hvm hw hB hz1 hk1 hS => ?_)
  subst hw
  obtain ⟨hP1, -, -⟩ := hB
  rw [ht] at hP1
  obtain ⟨hP, hD⟩ := vset_ok hP hD isC hC hn hadr hset hk1 hP1
  exact kk H1 locs1 hP hD hS
theorem vk_i0 {r : Int32} {a : Array Value} (hr : va_Run p l e R s m args below meth c H locs cells slots 0 0 (F0 m pc ls st0) rest ((va_Qi (fun r' (_ : Unit) => r' = r) (fun _ t => vPost D tys (va_A wc H.size) wc t) (va_A wc H.size)) a) (va_A wc H.size))
    (hA : ∀ q : Nat, H0.size ≤ q → A q) (hP : va_P D vwCl ws H) (hD : va_D A ws) (hS : va_S A H0 H locs) (hC : isC.map (fun i => ws[i]?) = wc.map some) (hn : va_nd isC = true)
    (kk : ∀ (H1 : Heap) (locs1 : List Loc), va_P D vwCl ws H1 → va_D A ws → va_S A H0 H1 locs1 → W p l e R s m args below meth c H1 locs1 cells slots Q (F0 m (pc + 3) ls (.int r :: rest))) : W p l e R s m args below meth c H locs cells slots Q (F0 m pc ls st0) :=
  vk_i isC hr hA hP hD hS hC hn rfl (vset_same isC wc ws hC) kk
theorem vk_z {r : Int32} {a : Array Value} (hr : va_Run p l e R s m args below meth c H locs cells slots 0 0 (F0 m pc ls st0) rest ((va_Qi (fun r' (_ : Unit) => r' = r ∧ (r' = 0 ∨ r' = 1)) (fun _ t => vPost D tys (va_A wc H.size) wc' t) (va_A wc H.size)) a) (va_A wc H.size))
    (hA : ∀ q : Nat, H0.size ≤ q → A q) (hP : va_P D vwCl ws H) (hD : va_D A ws) (hS : va_S A H0 H locs) (hC : isC.map (fun i => ws[i]?) = wc.map some) (hn : va_nd isC = true) (hadr : wc'.map Prod.fst = wc.map Prod.fst) (hset : vset ws isC wc' = ws2)
    (kk : (hz : r = 0 ∨ r = 1) → ∀ (H1 : Heap) (locs1 : List Loc), va_P D vwCl ws2 H1 → va_D A ws2 → va_S A H0 H1 locs1 → W p l e R s m args below meth c H1 locs1 cells slots Q (F0 m (pc + 3) ls (.int r :: rest))) : W p l e R s m args below meth c H locs cells slots Q (F0 m pc ls st0) := by
  have hFc := va_free (wc := wc) hD hS hA isC hC
  refine va_calli hr hS (fun q _ h => hFc q h) hFc (fun r1 u t H1 locs1 ht hvm hw hB hz1 hk1 hS => ?_)
  obtain ⟨hw, hz⟩ := hw
  subst hw
  obtain ⟨hP1, -, -⟩ := hB
  rw [ht] at hP1
  obtain ⟨hP, hD⟩ := vset_ok hP hD isC hC hn hadr hset hk1 hP1
  exact kk hz H1 locs1 hP hD hS
theorem vk_z0 {r : Int32} {a : Array Value} (hr : va_Run p l e R s m args below meth c H locs cells slots 0 0 (F0 m pc ls st0) rest ((va_Qi (fun r' (_ : Unit) => r' = r ∧ (r' = 0 ∨ r' = 1)) (fun _ t => vPost D tys (va_A wc H.size) wc t) (va_A wc H.size)) a) (va_A wc H.size))
    (hA : ∀ q : Nat, H0.size ≤ q → A q) (hP : va_P D vwCl ws H) (hD : va_D A ws) (hS : va_S A H0 H locs) (hC : isC.map (fun i => ws[i]?) = wc.map some) (hn : va_nd isC = true)
    (kk : (hz : r = 0 ∨ r = 1) → ∀ (H1 : Heap) (locs1 : List Loc), va_P D vwCl ws H1 → va_D A ws → va_S A H0 H1 locs1 → W p l e R s m args below meth c H1 locs1 cells slots Q (F0 m (pc + 3) ls (.int r :: rest))) : W p l e R s m args below meth c H locs cells slots Q (F0 m pc ls st0) :=
  vk_z isC hr hA hP hD hS hC hn rfl (vset_same isC wc ws hC) kk
theorem vk_l {r : Int64} {a : Array Value} (hr : va_Run p l e R s m args below meth c H locs cells slots 0 0 (F0 m pc ls st0) rest ((va_Ql (fun r' (_ : Unit) => r' = r) (fun _ t => vPost D tys (va_A wc H.size) wc' t) (va_A wc H.size)) a) (va_A wc H.size))
    (hA : ∀ q : Nat, H0.size ≤ q → A q) (hP : va_P D vwCl ws H) (hD : va_D A ws) (hS : va_S A H0 H locs) (hC : isC.map (fun i => ws[i]?) = wc.map some) (hn : va_nd isC = true) (hadr : wc'.map Prod.fst = wc.map Prod.fst) (hset : vset ws isC wc' = ws2)
    (kk : ∀ (H1 : Heap) (locs1 : List Loc), va_P D vwCl ws2 H1 → va_D A ws2 → va_S A H0 H1 locs1 → W p l e R s m args below meth c H1 locs1 cells slots Q (F0 m (pc + 3) ls (.long r :: rest))) : W p l e R s m args below meth c H locs cells slots Q (F0 m pc ls st0) := by
  have hFc := va_free (wc := wc) hD hS hA isC hC
  refine va_calll hr hS (fun q _ h => hFc q h) hFc (fun r1 u t H1 locs1 ht hvm hw hB hz1 hk1 hS => ?_)
  subst hw
  obtain ⟨hP1, -, -⟩ := hB
  rw [ht] at hP1
  obtain ⟨hP, hD⟩ := vset_ok hP hD isC hC hn hadr hset hk1 hP1
  exact kk H1 locs1 hP hD hS
theorem vk_l0 {r : Int64} {a : Array Value} (hr : va_Run p l e R s m args below meth c H locs cells slots 0 0 (F0 m pc ls st0) rest ((va_Ql (fun r' (_ : Unit) => r' = r) (fun _ t => vPost D tys (va_A wc H.size) wc t) (va_A wc H.size)) a) (va_A wc H.size))
    (hA : ∀ q : Nat, H0.size ≤ q → A q) (hP : va_P D vwCl ws H) (hD : va_D A ws) (hS : va_S A H0 H locs) (hC : isC.map (fun i => ws[i]?) = wc.map some) (hn : va_nd isC = true)
    (kk : ∀ (H1 : Heap) (locs1 : List Loc), va_P D vwCl ws H1 → va_D A ws → va_S A H0 H1 locs1 → W p l e R s m args below meth c H1 locs1 cells slots Q (F0 m (pc + 3) ls (.long r :: rest))) : W p l e R s m args below meth c H locs cells slots Q (F0 m pc ls st0) :=
  vk_l isC hr hA hP hD hS hC hn rfl (vset_same isC wc ws hC) kk
theorem vk_v {a : Array Value} (hr : va_Run p l e R s m args below meth c H locs cells slots 0 0 (F0 m pc ls st0) rest ((va_Qv (fun (_ : Unit) => True) (fun _ t => vPost D tys (va_A wc H.size) wc' t) (va_A wc H.size)) a) (va_A wc H.size))
    (hA : ∀ q : Nat, H0.size ≤ q → A q) (hP : va_P D vwCl ws H) (hD : va_D A ws) (hS : va_S A H0 H locs) (hC : isC.map (fun i => ws[i]?) = wc.map some) (hn : va_nd isC = true) (hadr : wc'.map Prod.fst = wc.map Prod.fst) (hset : vset ws isC wc' = ws2)
    (kk : ∀ (H1 : Heap) (locs1 : List Loc), va_P D vwCl ws2 H1 → va_D A ws2 → va_S A H0 H1 locs1 → W p l e R s m args below meth c H1 locs1 cells slots Q (F0 m (pc + 3) ls (rest))) : W p l e R s m args below meth c H locs cells slots Q (F0 m pc ls st0) := by
  have hFc := va_free (wc := wc) hD hS hA isC hC
  refine va_callv hr hS (fun q _ h => hFc q h) hFc (fun u t H1 locs1 ht hvm hw hB hz1 hk1 hS => ?_)
  obtain ⟨hP1, -, -⟩ := hB
  rw [ht] at hP1
  obtain ⟨hP, hD⟩ := vset_ok hP hD isC hC hn hadr hset hk1 hP1
  exact kk H1 locs1 hP hD hS
theorem vk_v0 {a : Array Value} (hr : va_Run p l e R s m args below meth c H locs cells slots 0 0 (F0 m pc ls st0) rest ((va_Qv (fun (_ : Unit) => True) (fun _ t => vPost D tys (va_A wc H.size) wc t) (va_A wc H.size)) a) (va_A wc H.size))
    (hA : ∀ q : Nat, H0.size ≤ q → A q) (hP : va_P D vwCl ws H) (hD : va_D A ws) (hS : va_S A H0 H locs) (hC : isC.map (fun i => ws[i]?) = wc.map some) (hn : va_nd isC = true)
    (kk : ∀ (H1 : Heap) (locs1 : List Loc), va_P D vwCl ws H1 → va_D A ws → va_S A H0 H1 locs1 → W p l e R s m args below meth c H1 locs1 cells slots Q (F0 m (pc + 3) ls (rest))) : W p l e R s m args below meth c H locs cells slots Q (F0 m pc ls st0) :=
  vk_v isC hr hA hP hD hS hC hn rfl (vset_same isC wc ws hC) kk
theorem vk_r {r : Nat} {a : Array Value} (hr : va_Run p l e R s m args below meth c H locs cells slots 0 0 (F0 m pc ls st0) rest ((va_Qr (fun (_ : Unit) => True) (fun _ a t => a = r ∧ vPost D tys (va_A wc H.size) wc' t) (va_A wc H.size)) a) (va_A wc H.size))
    (hA : ∀ q : Nat, H0.size ≤ q → A q) (hP : va_P D vwCl ws H) (hD : va_D A ws) (hS : va_S A H0 H locs) (hC : isC.map (fun i => ws[i]?) = wc.map some) (hn : va_nd isC = true) (hadr : wc'.map Prod.fst = wc.map Prod.fst) (hset : vset ws isC wc' = ws2)
    (kk : ∀ (H1 : Heap) (locs1 : List Loc), va_P D vwCl ws2 H1 → va_D A ws2 → va_S A H0 H1 locs1 → W p l e R s m args below meth c H1 locs1 cells slots Q (F0 m (pc + 3) ls (.ref r :: rest))) : W p l e R s m args below meth c H locs cells slots Q (F0 m pc ls st0) := by
  have hFc := va_free (wc := wc) hD hS hA isC hC
  refine va_callr hr hS (fun q _ h => hFc q h) hFc (fun u r1 t H1 locs1 ht hvm hw hB hz1 hk1 hS => ?_)
  obtain ⟨hw, hP1, -, -⟩ := hB
  subst hw
  rw [ht] at hP1
  obtain ⟨hP, hD⟩ := vset_ok hP hD isC hC hn hadr hset hk1 hP1
  exact kk H1 locs1 hP hD hS
theorem vk_r0 {r : Nat} {a : Array Value} (hr : va_Run p l e R s m args below meth c H locs cells slots 0 0 (F0 m pc ls st0) rest ((va_Qr (fun (_ : Unit) => True) (fun _ a t => a = r ∧ vPost D tys (va_A wc H.size) wc t) (va_A wc H.size)) a) (va_A wc H.size))
    (hA : ∀ q : Nat, H0.size ≤ q → A q) (hP : va_P D vwCl ws H) (hD : va_D A ws) (hS : va_S A H0 H locs) (hC : isC.map (fun i => ws[i]?) = wc.map some) (hn : va_nd isC = true)
    (kk : ∀ (H1 : Heap) (locs1 : List Loc), va_P D vwCl ws H1 → va_D A ws → va_S A H0 H1 locs1 → W p l e R s m args below meth c H1 locs1 cells slots Q (F0 m (pc + 3) ls (.ref r :: rest))) : W p l e R s m args below meth c H locs cells slots Q (F0 m pc ls st0) :=
  vk_r isC hr hA hP hD hS hC hn rfl (vset_same isC wc ws hC) kk
theorem vk_c {S : Type} {B : S → va_W} {mc ms : Nat} {a : Array Value} (isR : List Nat) {wr : va_W} (hr : va_Run p l e R s m args below meth c H locs cells slots mc ms (F0 m pc ls st0) rest (va_Qv (fun (_ : S) => True) (fun u t => vPost D tys (va_A wc H.size) (B u) t) (va_A wc H.size) a) (va_A wc H.size))
    (hA : ∀ q : Nat, H0.size ≤ q → A q) (hP : va_P D vwCl ws H) (hD : va_D A ws) (hS : va_S A H0 H locs) (hC : isC.map (fun i => ws[i]?) = wc.map some) (hR : isR.map (fun i => ws[i]?) = wr.map some) (hn : va_nd isR = true) (hdis : ∀ i ∈ isR, i ∉ isC)
    (kk : ∀ (u : S) (H1 : Heap) (locs1 : List Loc), va_P D vwCl (wr ++ B u) H1 → va_D A (wr ++ B u) → va_S A H0 H1 locs1 → W p l e R s m args below meth c H1 locs1 (cells + mc) (slots + ms) Q (F0 m (pc + 3) ls rest)) : W p l e R s m args below meth c H locs cells slots Q (F0 m pc ls st0) := by
  have hFc := va_free (wc := wc) hD hS hA isC hC
  refine va_callv hr hS (fun q _ h => hFc q h) hFc (fun u t H1 locs1 ht hvm hw hB hz1 hk1 hS => ?_)
  obtain ⟨hP1, -, hD1⟩ := hB
  rw [ht] at hP1
  obtain ⟨hP, hD⟩ := va_join hP hD isC isR hC hR hn hdis hk1 hFc hP1 hD1
  exact kk u H1 locs1 hP hD hS
end CALL
theorem vra {U : State} {c1 c2 : ClassId} {ty : FieldType} (h1 : va_RA U c1 ty) (h2 : va_RA U c2 ty) (hp : ∀ C, ty ≠ .object C) : c1 = c2 := by
  cases ty <;> first | exact absurd rfl (hp _) | exact Option.some.inj (Eq.trans (Eq.symm h1) h2)
theorem vnewa {atype : ArrayType} {t0 : Nat} {cA0 : ClassId} {ty : FieldType} (hexec : p.tables.exec = Jvm.exec) (hb : c.code = cc) (harr : (Cond.arrayClass (newarray.typeOf atype)).before args s = true) (hty : newarray.typeOf atype = ty) (ht : tys[t0]? = some (cA0, ty)) (hp : ∀ C, ty ≠ .object C) (hK : va_K D vwCl tys s) (hP : va_P D vwCl ws H) (hD : va_D A ws) (hS : va_S A H0 H locs) (hA : ∀ q, H0.size ≤ q → A q)
    {n : Int32} {N' : Nat} {a0 : vp_A} (ha : ∀ cA : ClassId, vp_cell cA a0 = arrV cA N' (fun _ => defaultValue ty)) (hn : ¬ n < 0) (hN : n.toNatClampNeg = N') (hbytes : N' * componentBytes ty ≤ 536870912) (hcells : cells + 1 ≤ R.cells) (hslots : slots + N' ≤ R.slots) (hdg : decode cc pc = .ok (.newarray atype, 2))
    (kk : ∀ (q : Nat) (H1 : Heap), va_P D vwCl (ws ++ [(q, .inl (cA0, a0))]) H1 → va_D A (ws ++ [(q, .inl (cA0, a0))]) → va_S A H0 H1 locs →
      W p l e R s m args below meth c H1 locs (cells + 1) (slots + N') Q (F0 m (pc + 2) ls (.ref q :: rest))) : W p l e R s m args below meth c H locs cells slots Q (F0 m pc ls (.int n :: rest)) := by
  refine va_newa hexec hb harr hty hK hP hD hS hA ha hn hN hbytes hcells hslots hdg (fun q cA H1 hK1 hP1 hD1 hS1 => ?_)
  have e1 : cA = cA0 := vra (hK1.2 tys.length (cA, ty) (by simp)).2 (hK.2 t0 _ ht).2 hp
  subst e1
  exact kk q H1 hP1 hD1 hS1
theorem vret_c {S : Type} {B : S → va_W} {mc ms : Nat} {u : S} (C : vC p s m args meth c cc maxL none own D tys A) (hP : va_P D vwCl (B u) H) (hD : va_D A (B u)) (hS : va_S A s.heap H locs) (hdg : decode cc pc = .ok (.return_, 1)) : W p l e R s m args below meth c H locs mc ms (vEc below D tys A args s mc ms B) (F0 m pc ls []) := by
  obtain ⟨hx, hb, hr, hml, hts, hown, hlocks, hK, hN, hA⟩ := C
  exact W.vret hx hb hr (fun t ht hW => ⟨⟨u, rfl, trivial, by rw [ht]; exact hP, va_K.moved hW.alike hK, hD⟩, hS.F ht⟩) hS.2.2 hdg
end WALK
/-! the decompiled functions' checks: an index, a divisor -/
def vin (i : Int32) (n : Nat) : Bool := decide (0 ≤ i.toInt) && decide (i.toInt < n)
theorem vin_in {i : Int32} {n : Nat} (h : vin i n = true) : vp_in i n := by
  simp only [vin, Bool.and_eq_true, decide_eq_true_eq] at h
  exact vp_in_iff.mpr h
def vg {α : Type} (i : Int32) (n : Nat) (k : Option α) : Option α := if vin i n = true then k else none
theorem vg_some {α : Type} {i : Int32} {n : Nat} {k : Option α} {r : α} (h : vg i n k = some r) : vp_in i n ∧ k = some r := by
  unfold vg at h
  split at h
  · exact ⟨vin_in (by assumption), h⟩
  · cases h
def vz {α : Type} (d : Int32) (k : Option α) : Option α := if d = 0 then none else k
theorem vz_some {α : Type} {d : Int32} {k : Option α} {r : α} (h : vz d k = some r) : ¬ d = 0 ∧ k = some r := by
  unfold vz at h
  split at h
  · cases h
  · exact ⟨by assumption, h⟩
theorem vbd {α β : Type} {x : Option α} {f : α → Option β} {r : β} (h : x.bind f = some r) : ∃ a, x = some a ∧ f a = some r := Option.bind_eq_some_iff.mp h
theorem vif_t {α : Type} {c : Prop} {d : Decidable c} {a b r : α} (hc : c) (h : @ite α c d a b = r) : a = r := by rw [if_pos hc] at h; exact h
theorem vif_f {α : Type} {c : Prop} {d : Decidable c} {a b r : α} (hc : ¬ c) (h : @ite α c d a b = r) : b = r := by rw [if_neg hc] at h; exact h
def vlet {α β : Type} (v : α) (k : α → β) : β := k v
theorem vlet_ex {α β : Type} {v : α} {k : α → β} {r : β} (h : vlet v k = r) : ∃ t, t = v ∧ k t = r := ⟨v, rfl, h⟩
theorem vb_some {α : Type} {x : Int32} {k : Option α} {r : α} (h : (if x = 0 ∨ x = 1 then k else none) = some r) : (x = 0 ∨ x = 1) ∧ k = some r := by
  split at h
  · exact ⟨by assumption, h⟩
  · cases h
theorem vne_toInt {x k : Int32} (h : ¬ x = k) : x.toInt ≠ k.toInt := fun e => h (Int32.toInt_inj.mp e)
theorem vtab_out {x : Int32} {lo hi : Int} (f : ∀ k : Int, lo ≤ k → k ≤ hi → x.toInt ≠ k) : x.toInt < lo ∨ hi < x.toInt := by
  by_cases h1 : x.toInt < lo
  · exact Or.inl h1
  · by_cases h2 : hi < x.toInt
    · exact Or.inr h2
    · exact absurd rfl (f x.toInt (by omega) (by omega))
theorem vlook_out {x : Int32} {d : Int} : ∀ {ps : List (Int × Int)}, (∀ q ∈ ps, x.toInt ≠ q.1) → Op.lookupswitch.offset ps d x.toInt = d
  | [], _ => rfl
  | q :: ps, h => by
    have h1 := h q List.mem_cons_self
    have h2 := vlook_out (d := d) (ps := ps) fun q hq => h q (List.mem_cons_of_mem _ hq)
    simp only [Op.lookupswitch.offset] at h2 ⊢
    simp [Ne.symm h1, h2]
theorem nm_0 {s : State} (hN : vNl s) : va_Nw (Cond.methodLinkNest RX7 9 yX5_init "CarriedOne") s := hN _ (List.mem_of_getElem? (i := 0) rfl)
theorem nw_1 {s : State} {args : Array Value} (hN : vNl s) : (Cond.fieldLinkNest "CarriedOne" 72 "CarriedOne$Text" "length" "I" "CarriedOne").before args s = true := va_Nw.use rfl (hN _ (List.mem_of_getElem? (i := 1) rfl))
theorem nw_2 {s : State} {args : Array Value} (hN : vNl s) : (Cond.fieldLinkNest "CarriedOne" 83 "CarriedOne$Text" "begin" "I" "CarriedOne").before args s = true := va_Nw.use rfl (hN _ (List.mem_of_getElem? (i := 2) rfl))
theorem nm_3 {s : State} (hN : vNl s) : va_Nw (Cond.methodLinkNest RX7 18 yX0_init "CarriedOne") s := hN _ (List.mem_of_getElem? (i := 3) rfl)
theorem nw_4 {s : State} {args : Array Value} (hN : vNl s) : (Cond.fieldLinkNest "CarriedOne" 105 "CarriedOne$Books" "a" "[I" "CarriedOne").before args s = true := va_Nw.use rfl (hN _ (List.mem_of_getElem? (i := 4) rfl))
theorem nw_5 {s : State} {args : Array Value} (hN : vNl s) : (Cond.fieldLinkNest "CarriedOne" 109 "CarriedOne$Books" "b" "[I" "CarriedOne").before args s = true := va_Nw.use rfl (hN _ (List.mem_of_getElem? (i := 5) rfl))
theorem nw_6 {s : State} {args : Array Value} (hN : vNl s) : (Cond.fieldLinkNest "CarriedOne$Text" 44 "CarriedOne$Books" "size" "I" "CarriedOne").before args s = true := va_Nw.use rfl (hN _ (List.mem_of_getElem? (i := 6) rfl))
theorem nw_7 {s : State} {args : Array Value} (hN : vNl s) : (Cond.fieldLinkNest "CarriedOne" 197 "CarriedOne$Books" "size" "I" "CarriedOne").before args s = true := va_Nw.use rfl (hN _ (List.mem_of_getElem? (i := 7) rfl))
theorem nw_8 {s : State} {args : Array Value} (hN : vNl s) : (Cond.fieldLinkNest "CarriedOne$Now" 18 "CarriedOne$Books" "touches" "I" "CarriedOne").before args s = true := va_Nw.use rfl (hN _ (List.mem_of_getElem? (i := 8) rfl))
theorem nw_9 {s : State} {args : Array Value} (hN : vNl s) : (Cond.fieldLinkNest "CarriedOne$Text" 61 "CarriedOne$Books" "touches" "I" "CarriedOne").before args s = true := va_Nw.use rfl (hN _ (List.mem_of_getElem? (i := 9) rfl))
theorem nw_10 {s : State} {args : Array Value} (hN : vNl s) : (Cond.fieldLinkNest "CarriedOne$Now" 27 "CarriedOne$Books" "one" "I" "CarriedOne").before args s = true := va_Nw.use rfl (hN _ (List.mem_of_getElem? (i := 10) rfl))
theorem nw_11 {s : State} {args : Array Value} (hN : vNl s) : (Cond.fieldLinkNest "CarriedOne$Text" 68 "CarriedOne$Books" "one" "I" "CarriedOne").before args s = true := va_Nw.use rfl (hN _ (List.mem_of_getElem? (i := 11) rfl))
theorem nm_12 {s : State} (hN : vNl s) : va_Nw (Cond.methodLinkNest RX7 28 yX3_init "CarriedOne") s := hN _ (List.mem_of_getElem? (i := 12) rfl)
theorem nw_13 {s : State} {args : Array Value} (hN : vNl s) : (Cond.fieldLinkNest "CarriedOne" 134 "CarriedOne$Now" "forgotten" "I" "CarriedOne").before args s = true := va_Nw.use rfl (hN _ (List.mem_of_getElem? (i := 13) rfl))
theorem nw_14 {s : State} {args : Array Value} (hN : vNl s) : (Cond.fieldLinkNest "CarriedOne" 149 "CarriedOne$Now" "touches" "I" "CarriedOne").before args s = true := va_Nw.use rfl (hN _ (List.mem_of_getElem? (i := 14) rfl))
theorem nw_15 {s : State} {args : Array Value} (hN : vNl s) : (Cond.fieldLinkNest "CarriedOne" 152 "CarriedOne$Now" "trapped" "I" "CarriedOne").before args s = true := va_Nw.use rfl (hN _ (List.mem_of_getElem? (i := 15) rfl))
theorem nw_16 {s : State} {args : Array Value} (hN : vNl s) : (Cond.fieldLinkNest "CarriedOne" 142 "CarriedOne$Now" "one" "I" "CarriedOne").before args s = true := va_Nw.use rfl (hN _ (List.mem_of_getElem? (i := 16) rfl))
theorem nw_17 {s : State} {args : Array Value} (hN : vNl s) : (Cond.fieldLinkNest "CarriedOne" 155 "CarriedOne$Now" "date" "I" "CarriedOne").before args s = true := va_Nw.use rfl (hN _ (List.mem_of_getElem? (i := 17) rfl))
theorem nm_18 {s : State} (hN : vNl s) : va_Nw (Cond.methodLinkNest RX7 35 yX1_init "CarriedOne") s := hN _ (List.mem_of_getElem? (i := 18) rfl)
theorem nw_19 {s : State} {args : Array Value} (hN : vNl s) : (Cond.fieldLinkNest "CarriedOne" 92 "CarriedOne$History" "known" "I" "CarriedOne").before args s = true := va_Nw.use rfl (hN _ (List.mem_of_getElem? (i := 19) rfl))
theorem nm_20 {s : State} (hN : vNl s) : va_Nw (Cond.methodLinkNest RX7 42 yX2_init "CarriedOne") s := hN _ (List.mem_of_getElem? (i := 20) rfl)
theorem nm_21 {s : State} (hN : vNl s) : va_Nw (Cond.methodLinkNest RX2 9 yX1_init "CarriedOne") s := hN _ (List.mem_of_getElem? (i := 21) rfl)
theorem nw_22 {s : State} {args : Array Value} (hN : vNl s) : (Cond.fieldLinkNest "CarriedOne" 95 "CarriedOne$Image" "kept" "Z" "CarriedOne").before args s = true := va_Nw.use rfl (hN _ (List.mem_of_getElem? (i := 22) rfl))
theorem nm_23 {s : State} (hN : vNl s) : va_Nw (Cond.methodLinkNest RX7 52 yX4_init "CarriedOne") s := hN _ (List.mem_of_getElem? (i := 23) rfl)
theorem nw_24 {s : State} {args : Array Value} (hN : vNl s) : (Cond.fieldLinkNest "CarriedOne" 322 "CarriedOne$Seen" "days" "[I" "CarriedOne").before args s = true := va_Nw.use rfl (hN _ (List.mem_of_getElem? (i := 24) rfl))
theorem nw_25 {s : State} {args : Array Value} (hN : vNl s) : (Cond.fieldLinkNest "CarriedOne" 325 "CarriedOne$Seen" "books" "[I" "CarriedOne").before args s = true := va_Nw.use rfl (hN _ (List.mem_of_getElem? (i := 25) rfl))
theorem nw_26 {s : State} {args : Array Value} (hN : vNl s) : (Cond.fieldLinkNest "CarriedOne" 328 "CarriedOne$Seen" "there" "[Z" "CarriedOne").before args s = true := va_Nw.use rfl (hN _ (List.mem_of_getElem? (i := 26) rfl))
theorem nw_27 {s : State} {args : Array Value} (hN : vNl s) : (Cond.fieldLinkNest "CarriedOne" 99 "CarriedOne$Seen" "size" "I" "CarriedOne").before args s = true := va_Nw.use rfl (hN _ (List.mem_of_getElem? (i := 27) rfl))
theorem nm_28 {s : State} (hN : vNl s) : va_Nw (Cond.methodLinkNest RX7 59 yX6_init "CarriedOne") s := hN _ (List.mem_of_getElem? (i := 28) rfl)
theorem nw_29 {s : State} {args : Array Value} (hN : vNl s) : (Cond.fieldLinkNest "CarriedOne" 291 "CarriedOne$Ways" "size" "I" "CarriedOne").before args s = true := va_Nw.use rfl (hN _ (List.mem_of_getElem? (i := 29) rfl))
theorem nw_30 {s : State} {args : Array Value} (hN : vNl s) : (Cond.fieldLinkNest "CarriedOne" 292 "CarriedOne$Ways" "trapped" "I" "CarriedOne").before args s = true := va_Nw.use rfl (hN _ (List.mem_of_getElem? (i := 30) rfl))
theorem nm_31 {s : State} (hN : vNl s) : va_Nw (Cond.methodLinkNest RX7 68 yX5_append "CarriedOne") s := hN _ (List.mem_of_getElem? (i := 31) rfl)
theorem nm_32 {s : State} (hN : vNl s) : va_Nw (Cond.methodLinkNest RX7 76 yX0_empty "CarriedOne") s := hN _ (List.mem_of_getElem? (i := 32) rfl)
theorem nm_33 {s : State} (hN : vNl s) : va_Nw (Cond.methodLinkNest RX7 79 yX5_readItems "CarriedOne") s := hN _ (List.mem_of_getElem? (i := 33) rfl)
theorem nm_34 {s : State} (hN : vNl s) : va_Nw (Cond.methodLinkNest RX5 74 yX7_within "CarriedOne") s := hN _ (List.mem_of_getElem? (i := 34) rfl)
theorem nm_35 {s : State} (hN : vNl s) : va_Nw (Cond.methodLinkNest RX5 53 yX0_append "CarriedOne") s := hN _ (List.mem_of_getElem? (i := 35) rfl)
theorem nm_36 {s : State} (hN : vNl s) : va_Nw (Cond.methodLinkNest RX5 64 yX7_touchBit "CarriedOne") s := hN _ (List.mem_of_getElem? (i := 36) rfl)
theorem nm_37 {s : State} (hN : vNl s) : va_Nw (Cond.methodLinkNest RX7 86 yX0_copyFrom "CarriedOne") s := hN _ (List.mem_of_getElem? (i := 37) rfl)
theorem nm_38 {s : State} (hN : vNl s) : va_Nw (Cond.methodLinkNest RX7 90 yX3_begin "CarriedOne") s := hN _ (List.mem_of_getElem? (i := 38) rfl)
theorem nm_39 {s : State} (hN : vNl s) : va_Nw (Cond.methodLinkNest RX7 122 yX3_forgottenIn "CarriedOne") s := hN _ (List.mem_of_getElem? (i := 39) rfl)
theorem nm_40 {s : State} (hN : vNl s) : va_Nw (Cond.methodLinkNest RX7 279 yX0_sum "CarriedOne") s := hN _ (List.mem_of_getElem? (i := 40) rfl)
theorem nm_41 {s : State} (hN : vNl s) : va_Nw (Cond.methodLinkNest RX7 119 yX0_carries "CarriedOne") s := hN _ (List.mem_of_getElem? (i := 41) rfl)
theorem nm_42 {s : State} (hN : vNl s) : va_Nw (Cond.methodLinkNest RX7 128 yX3_isTrap "CarriedOne") s := hN _ (List.mem_of_getElem? (i := 42) rfl)
theorem nm_43 {s : State} (hN : vNl s) : va_Nw (Cond.methodLinkNest RX7 286 yX3_packed "CarriedOne") s := hN _ (List.mem_of_getElem? (i := 43) rfl)
theorem nm_44 {s : State} (hN : vNl s) : va_Nw (Cond.methodLinkNest RX7 289 yX1_append "CarriedOne") s := hN _ (List.mem_of_getElem? (i := 44) rfl)
theorem nm_45 {s : State} (hN : vNl s) : va_Nw (Cond.methodLinkNest RX7 296 yX6_rank "CarriedOne") s := hN _ (List.mem_of_getElem? (i := 45) rfl)
theorem nm_46 {s : State} (hN : vNl s) : va_Nw (Cond.methodLinkNest RX7 166 yX6_goesTo "CarriedOne") s := hN _ (List.mem_of_getElem? (i := 46) rfl)
theorem nm_47 {s : State} (hN : vNl s) : va_Nw (Cond.methodLinkNest RX6 25 yX7_touchBit "CarriedOne") s := hN _ (List.mem_of_getElem? (i := 47) rfl)
theorem nm_48 {s : State} (hN : vNl s) : va_Nw (Cond.methodLinkNest RX7 169 yX1_takeLatest "CarriedOne") s := hN _ (List.mem_of_getElem? (i := 48) rfl)
theorem nm_49 {s : State} (hN : vNl s) : va_Nw (Cond.methodLinkNest RX7 173 yX3_unpack "CarriedOne") s := hN _ (List.mem_of_getElem? (i := 49) rfl)
theorem nm_50 {s : State} (hN : vNl s) : va_Nw (Cond.methodLinkNest RX7 187 yX6_walk "CarriedOne") s := hN _ (List.mem_of_getElem? (i := 50) rfl)
theorem nm_51 {s : State} (hN : vNl s) : va_Nw (Cond.methodLinkNest RX7 191 yX6_lengthOfRound "CarriedOne") s := hN _ (List.mem_of_getElem? (i := 51) rfl)
theorem nm_52 {s : State} (hN : vNl s) : va_Nw (Cond.methodLinkNest RX7 194 yX6_daysToRound "CarriedOne") s := hN _ (List.mem_of_getElem? (i := 52) rfl)
theorem nm_53 {s : State} (hN : vNl s) : va_Nw (Cond.methodLinkNest RX7 309 yX6_comesTo "CarriedOne") s := hN _ (List.mem_of_getElem? (i := 53) rfl)
theorem nm_54 {s : State} (hN : vNl s) : va_Nw (Cond.methodLinkNest RX7 224 yX4_append "CarriedOne") s := hN _ (List.mem_of_getElem? (i := 54) rfl)
theorem nm_55 {s : State} (hN : vNl s) : va_Nw (Cond.methodLinkNest RX7 268 yX2_fill "CarriedOne") s := hN _ (List.mem_of_getElem? (i := 55) rfl)
theorem nm_56 {s : State} (hN : vNl s) : va_Nw (Cond.methodLinkNest RX2 16 yX3_packed "CarriedOne") s := hN _ (List.mem_of_getElem? (i := 56) rfl)
theorem nm_57 {s : State} (hN : vNl s) : va_Nw (Cond.methodLinkNest RX2 25 yX1_copyFrom "CarriedOne") s := hN _ (List.mem_of_getElem? (i := 57) rfl)
theorem nm_58 {s : State} (hN : vNl s) : va_Nw (Cond.methodLinkNest RX7 272 yX2_restore "CarriedOne") s := hN _ (List.mem_of_getElem? (i := 58) rfl)
theorem nm_59 {s : State} (hN : vNl s) : va_Nw (Cond.methodLinkNest RX2 33 yX3_unpack "CarriedOne") s := hN _ (List.mem_of_getElem? (i := 59) rfl)
end LIB
