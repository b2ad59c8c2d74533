-- ===== PART A: goes FIRST, ahead of the names: the tables' words, and 'selects' of the private methods out of them =====
/-- a private method of a class that the tables say can be made, by its rows of tables_1 -/
def lw_okq (q : MethodName × Nat) : Prop := (q.1.cls ≠ "java/lang/invoke/MethodHandle" ∧ q.1.cls ≠ "java/lang/invoke/VarHandle") ∧ Cond.instantiable q.1.cls q.2 ∈ tables_1 ∧ Cond.privateMethod q.1 ∈ tables_1 ∧ Cond.instanceMethod q.1 ∈ tables_1
theorem lw_p0 : lw_okq (⟨"CarriedOne$Text", "append", "(I)Z"⟩, 6) := ⟨⟨by decide +kernel, by decide +kernel⟩, List.mem_of_getElem? (i := 22) (by decide +kernel), List.mem_of_getElem? (i := 224) (by decide +kernel), List.mem_of_getElem? (i := 225) (by decide +kernel)⟩
theorem lw_p1 : lw_okq (⟨"CarriedOne$Books", "empty", "()V"⟩, 5) := ⟨⟨by decide +kernel, by decide +kernel⟩, List.mem_of_getElem? (i := 50) (by decide +kernel), List.mem_of_getElem? (i := 236) (by decide +kernel), List.mem_of_getElem? (i := 237) (by decide +kernel)⟩
theorem lw_p2 : lw_okq (⟨"CarriedOne$Text", "readItems", "(LCarriedOne$Books;)I"⟩, 6) := ⟨⟨by decide +kernel, by decide +kernel⟩, List.mem_of_getElem? (i := 22) (by decide +kernel), List.mem_of_getElem? (i := 240) (by decide +kernel), List.mem_of_getElem? (i := 241) (by decide +kernel)⟩
theorem lw_p3 : lw_okq (⟨"CarriedOne$Text", "step", "()V"⟩, 6) := ⟨⟨by decide +kernel, by decide +kernel⟩, List.mem_of_getElem? (i := 22) (by decide +kernel), List.mem_of_getElem? (i := 244) (by decide +kernel), List.mem_of_getElem? (i := 245) (by decide +kernel)⟩
theorem lw_p4 : lw_okq (⟨"CarriedOne$Text", "stepOverAll", "(II)V"⟩, 6) := ⟨⟨by decide +kernel, by decide +kernel⟩, List.mem_of_getElem? (i := 22) (by decide +kernel), List.mem_of_getElem? (i := 249) (by decide +kernel), List.mem_of_getElem? (i := 250) (by decide +kernel)⟩
theorem lw_p5 : lw_okq (⟨"CarriedOne$Text", "isNumber", "(I)Z"⟩, 6) := ⟨⟨by decide +kernel, by decide +kernel⟩, List.mem_of_getElem? (i := 22) (by decide +kernel), List.mem_of_getElem? (i := 253) (by decide +kernel), List.mem_of_getElem? (i := 254) (by decide +kernel)⟩
theorem lw_p6 : lw_okq (⟨"CarriedOne$Text", "valueOfFigures", "()I"⟩, 6) := ⟨⟨by decide +kernel, by decide +kernel⟩, List.mem_of_getElem? (i := 22) (by decide +kernel), List.mem_of_getElem? (i := 257) (by decide +kernel), List.mem_of_getElem? (i := 258) (by decide +kernel)⟩
theorem lw_p7 : lw_okq (⟨"CarriedOne$Text", "readItem", "(LCarriedOne$Books;)Z"⟩, 6) := ⟨⟨by decide +kernel, by decide +kernel⟩, List.mem_of_getElem? (i := 22) (by decide +kernel), List.mem_of_getElem? (i := 261) (by decide +kernel), List.mem_of_getElem? (i := 262) (by decide +kernel)⟩
theorem lw_p8 : lw_okq (⟨"CarriedOne$Text", "readBook", "(LCarriedOne$Books;)Z"⟩, 6) := ⟨⟨by decide +kernel, by decide +kernel⟩, List.mem_of_getElem? (i := 22) (by decide +kernel), List.mem_of_getElem? (i := 265) (by decide +kernel), List.mem_of_getElem? (i := 266) (by decide +kernel)⟩
theorem lw_p9 : lw_okq (⟨"CarriedOne$Text", "readNumber", "(I)Z"⟩, 6) := ⟨⟨by decide +kernel, by decide +kernel⟩, List.mem_of_getElem? (i := 22) (by decide +kernel), List.mem_of_getElem? (i := 269) (by decide +kernel), List.mem_of_getElem? (i := 270) (by decide +kernel)⟩
theorem lw_p10 : lw_okq (⟨"CarriedOne$Books", "append", "(II)V"⟩, 5) := ⟨⟨by decide +kernel, by decide +kernel⟩, List.mem_of_getElem? (i := 50) (by decide +kernel), List.mem_of_getElem? (i := 273) (by decide +kernel), List.mem_of_getElem? (i := 274) (by decide +kernel)⟩
theorem lw_p11 : lw_okq (⟨"CarriedOne$Text", "readSemicolon", "()Z"⟩, 6) := ⟨⟨by decide +kernel, by decide +kernel⟩, List.mem_of_getElem? (i := 22) (by decide +kernel), List.mem_of_getElem? (i := 277) (by decide +kernel), List.mem_of_getElem? (i := 278) (by decide +kernel)⟩
theorem lw_p12 : lw_okq (⟨"CarriedOne$Text", "readTouch", "(LCarriedOne$Books;)Z"⟩, 6) := ⟨⟨by decide +kernel, by decide +kernel⟩, List.mem_of_getElem? (i := 22) (by decide +kernel), List.mem_of_getElem? (i := 281) (by decide +kernel), List.mem_of_getElem? (i := 282) (by decide +kernel)⟩
theorem lw_p13 : lw_okq (⟨"CarriedOne$Text", "readOne", "(LCarriedOne$Books;)Z"⟩, 6) := ⟨⟨by decide +kernel, by decide +kernel⟩, List.mem_of_getElem? (i := 22) (by decide +kernel), List.mem_of_getElem? (i := 288) (by decide +kernel), List.mem_of_getElem? (i := 289) (by decide +kernel)⟩
theorem lw_p14 : lw_okq (⟨"CarriedOne$Books", "copyFrom", "(LCarriedOne$Books;)V"⟩, 5) := ⟨⟨by decide +kernel, by decide +kernel⟩, List.mem_of_getElem? (i := 50) (by decide +kernel), List.mem_of_getElem? (i := 292) (by decide +kernel), List.mem_of_getElem? (i := 293) (by decide +kernel)⟩
theorem lw_p15 : lw_okq (⟨"CarriedOne$Now", "begin", "(LCarriedOne$Books;)V"⟩, 5) := ⟨⟨by decide +kernel, by decide +kernel⟩, List.mem_of_getElem? (i := 80) (by decide +kernel), List.mem_of_getElem? (i := 296) (by decide +kernel), List.mem_of_getElem? (i := 297) (by decide +kernel)⟩
def lw_privs_1 : List (MethodName × Nat) := [(⟨"CarriedOne$Text", "append", "(I)Z"⟩, 6), (⟨"CarriedOne$Books", "empty", "()V"⟩, 5), (⟨"CarriedOne$Text", "readItems", "(LCarriedOne$Books;)I"⟩, 6), (⟨"CarriedOne$Text", "step", "()V"⟩, 6), (⟨"CarriedOne$Text", "stepOverAll", "(II)V"⟩, 6), (⟨"CarriedOne$Text", "isNumber", "(I)Z"⟩, 6), (⟨"CarriedOne$Text", "valueOfFigures", "()I"⟩, 6), (⟨"CarriedOne$Text", "readItem", "(LCarriedOne$Books;)Z"⟩, 6), (⟨"CarriedOne$Text", "readBook", "(LCarriedOne$Books;)Z"⟩, 6), (⟨"CarriedOne$Text", "readNumber", "(I)Z"⟩, 6), (⟨"CarriedOne$Books", "append", "(II)V"⟩, 5), (⟨"CarriedOne$Text", "readSemicolon", "()Z"⟩, 6), (⟨"CarriedOne$Text", "readTouch", "(LCarriedOne$Books;)Z"⟩, 6), (⟨"CarriedOne$Text", "readOne", "(LCarriedOne$Books;)Z"⟩, 6), (⟨"CarriedOne$Books", "copyFrom", "(LCarriedOne$Books;)V"⟩, 5), (⟨"CarriedOne$Now", "begin", "(LCarriedOne$Books;)V"⟩, 5)]
theorem lw_r1 : ∀ q ∈ lw_privs_1, lw_okq q := List.forall_mem_cons.mpr ⟨lw_p0, List.forall_mem_cons.mpr ⟨lw_p1, List.forall_mem_cons.mpr ⟨lw_p2, List.forall_mem_cons.mpr ⟨lw_p3, List.forall_mem_cons.mpr ⟨lw_p4, List.forall_mem_cons.mpr ⟨lw_p5, List.forall_mem_cons.mpr ⟨lw_p6, List.forall_mem_cons.mpr ⟨lw_p7, List.forall_mem_cons.mpr ⟨lw_p8, List.forall_mem_cons.mpr ⟨lw_p9, List.forall_mem_cons.mpr ⟨lw_p10, List.forall_mem_cons.mpr ⟨lw_p11, List.forall_mem_cons.mpr ⟨lw_p12, List.forall_mem_cons.mpr ⟨lw_p13, List.forall_mem_cons.mpr ⟨lw_p14, List.forall_mem_cons.mpr ⟨lw_p15, fun _ h => absurd h List.not_mem_nil⟩⟩⟩⟩⟩⟩⟩⟩⟩⟩⟩⟩⟩⟩⟩⟩
theorem lw_p16 : lw_okq (⟨"CarriedOne", "isBook", "(I)Z"⟩, 10) := ⟨⟨by decide +kernel, by decide +kernel⟩, List.mem_of_getElem? (i := 14) (by decide +kernel), List.mem_of_getElem? (i := 304) (by decide +kernel), List.mem_of_getElem? (i := 305) (by decide +kernel)⟩
theorem lw_p17 : lw_okq (⟨"CarriedOne", "written", "(I)I"⟩, 10) := ⟨⟨by decide +kernel, by decide +kernel⟩, List.mem_of_getElem? (i := 14) (by decide +kernel), List.mem_of_getElem? (i := 308) (by decide +kernel), List.mem_of_getElem? (i := 309) (by decide +kernel)⟩
theorem lw_p18 : lw_okq (⟨"CarriedOne$Now", "forgottenIn", "(I)I"⟩, 5) := ⟨⟨by decide +kernel, by decide +kernel⟩, List.mem_of_getElem? (i := 80) (by decide +kernel), List.mem_of_getElem? (i := 312) (by decide +kernel), List.mem_of_getElem? (i := 313) (by decide +kernel)⟩
theorem lw_p19 : lw_okq (⟨"CarriedOne$Books", "sum", "(I)I"⟩, 5) := ⟨⟨by decide +kernel, by decide +kernel⟩, List.mem_of_getElem? (i := 50) (by decide +kernel), List.mem_of_getElem? (i := 316) (by decide +kernel), List.mem_of_getElem? (i := 317) (by decide +kernel)⟩
theorem lw_p20 : lw_okq (⟨"CarriedOne", "shown", "(I)I"⟩, 10) := ⟨⟨by decide +kernel, by decide +kernel⟩, List.mem_of_getElem? (i := 14) (by decide +kernel), List.mem_of_getElem? (i := 320) (by decide +kernel), List.mem_of_getElem? (i := 321) (by decide +kernel)⟩
theorem lw_p21 : lw_okq (⟨"CarriedOne$Books", "carries", "(I)I"⟩, 5) := ⟨⟨by decide +kernel, by decide +kernel⟩, List.mem_of_getElem? (i := 50) (by decide +kernel), List.mem_of_getElem? (i := 324) (by decide +kernel), List.mem_of_getElem? (i := 325) (by decide +kernel)⟩
theorem lw_p22 : lw_okq (⟨"CarriedOne", "neighbours", "(I)I"⟩, 10) := ⟨⟨by decide +kernel, by decide +kernel⟩, List.mem_of_getElem? (i := 14) (by decide +kernel), List.mem_of_getElem? (i := 328) (by decide +kernel), List.mem_of_getElem? (i := 329) (by decide +kernel)⟩
theorem lw_p23 : lw_okq (⟨"CarriedOne$Now", "isTrap", "(I)Z"⟩, 5) := ⟨⟨by decide +kernel, by decide +kernel⟩, List.mem_of_getElem? (i := 80) (by decide +kernel), List.mem_of_getElem? (i := 333) (by decide +kernel), List.mem_of_getElem? (i := 334) (by decide +kernel)⟩
theorem lw_p24 : lw_okq (⟨"CarriedOne", "remember", "()V"⟩, 10) := ⟨⟨by decide +kernel, by decide +kernel⟩, List.mem_of_getElem? (i := 14) (by decide +kernel), List.mem_of_getElem? (i := 341) (by decide +kernel), List.mem_of_getElem? (i := 342) (by decide +kernel)⟩
theorem lw_p25 : lw_okq (⟨"CarriedOne$Now", "packed", "()J"⟩, 5) := ⟨⟨by decide +kernel, by decide +kernel⟩, List.mem_of_getElem? (i := 80) (by decide +kernel), List.mem_of_getElem? (i := 345) (by decide +kernel), List.mem_of_getElem? (i := 346) (by decide +kernel)⟩
theorem lw_p26 : lw_okq (⟨"CarriedOne$History", "append", "(J)V"⟩, 2) := ⟨⟨by decide +kernel, by decide +kernel⟩, List.mem_of_getElem? (i := 107) (by decide +kernel), List.mem_of_getElem? (i := 349) (by decide +kernel), List.mem_of_getElem? (i := 350) (by decide +kernel)⟩
theorem lw_p27 : lw_okq (⟨"CarriedOne", "isSomewhere", "()Z"⟩, 10) := ⟨⟨by decide +kernel, by decide +kernel⟩, List.mem_of_getElem? (i := 14) (by decide +kernel), List.mem_of_getElem? (i := 382) (by decide +kernel), List.mem_of_getElem? (i := 383) (by decide +kernel)⟩
theorem lw_p28 : lw_okq (⟨"CarriedOne", "waysNow", "()LCarriedOne$Ways;"⟩, 10) := ⟨⟨by decide +kernel, by decide +kernel⟩, List.mem_of_getElem? (i := 14) (by decide +kernel), List.mem_of_getElem? (i := 386) (by decide +kernel), List.mem_of_getElem? (i := 387) (by decide +kernel)⟩
theorem lw_p29 : lw_okq (⟨"CarriedOne$Ways", "rank", "(II)V"⟩, 4) := ⟨⟨by decide +kernel, by decide +kernel⟩, List.mem_of_getElem? (i := 165) (by decide +kernel), List.mem_of_getElem? (i := 393) (by decide +kernel), List.mem_of_getElem? (i := 394) (by decide +kernel)⟩
theorem lw_p30 : lw_okq (⟨"CarriedOne$Ways", "goesTo", "(II)I"⟩, 4) := ⟨⟨by decide +kernel, by decide +kernel⟩, List.mem_of_getElem? (i := 165) (by decide +kernel), List.mem_of_getElem? (i := 397) (by decide +kernel), List.mem_of_getElem? (i := 398) (by decide +kernel)⟩
theorem lw_p31 : lw_okq (⟨"CarriedOne$History", "takeLatest", "()J"⟩, 2) := ⟨⟨by decide +kernel, by decide +kernel⟩, List.mem_of_getElem? (i := 107) (by decide +kernel), List.mem_of_getElem? (i := 406) (by decide +kernel), List.mem_of_getElem? (i := 407) (by decide +kernel)⟩
def lw_privs_2 : List (MethodName × Nat) := [(⟨"CarriedOne", "isBook", "(I)Z"⟩, 10), (⟨"CarriedOne", "written", "(I)I"⟩, 10), (⟨"CarriedOne$Now", "forgottenIn", "(I)I"⟩, 5), (⟨"CarriedOne$Books", "sum", "(I)I"⟩, 5), (⟨"CarriedOne", "shown", "(I)I"⟩, 10), (⟨"CarriedOne$Books", "carries", "(I)I"⟩, 5), (⟨"CarriedOne", "neighbours", "(I)I"⟩, 10), (⟨"CarriedOne$Now", "isTrap", "(I)Z"⟩, 5), (⟨"CarriedOne", "remember", "()V"⟩, 10), (⟨"CarriedOne$Now", "packed", "()J"⟩, 5), (⟨"CarriedOne$History", "append", "(J)V"⟩, 2), (⟨"CarriedOne", "isSomewhere", "()Z"⟩, 10), (⟨"CarriedOne", "waysNow", "()LCarriedOne$Ways;"⟩, 10), (⟨"CarriedOne$Ways", "rank", "(II)V"⟩, 4), (⟨"CarriedOne$Ways", "goesTo", "(II)I"⟩, 4), (⟨"CarriedOne$History", "takeLatest", "()J"⟩, 2)]
theorem lw_r2 : ∀ q ∈ lw_privs_2, lw_okq q := List.forall_mem_cons.mpr ⟨lw_p16, List.forall_mem_cons.mpr ⟨lw_p17, List.forall_mem_cons.mpr ⟨lw_p18, List.forall_mem_cons.mpr ⟨lw_p19, List.forall_mem_cons.mpr ⟨lw_p20, List.forall_mem_cons.mpr ⟨lw_p21, List.forall_mem_cons.mpr ⟨lw_p22, List.forall_mem_cons.mpr ⟨lw_p23, List.forall_mem_cons.mpr ⟨lw_p24, List.forall_mem_cons.mpr ⟨lw_p25, List.forall_mem_cons.mpr ⟨lw_p26, List.forall_mem_cons.mpr ⟨lw_p27, List.forall_mem_cons.mpr ⟨lw_p28, List.forall_mem_cons.mpr ⟨lw_p29, List.forall_mem_cons.mpr ⟨lw_p30, List.forall_mem_cons.mpr ⟨lw_p31, fun _ h => absurd h List.not_mem_nil⟩⟩⟩⟩⟩⟩⟩⟩⟩⟩⟩⟩⟩⟩⟩⟩
theorem lw_p32 : lw_okq (⟨"CarriedOne$Now", "unpack", "(J)V"⟩, 5) := ⟨⟨by decide +kernel, by decide +kernel⟩, List.mem_of_getElem? (i := 80) (by decide +kernel), List.mem_of_getElem? (i := 410) (by decide +kernel), List.mem_of_getElem? (i := 411) (by decide +kernel)⟩
theorem lw_p33 : lw_okq (⟨"CarriedOne", "shownTogether", "()I"⟩, 10) := ⟨⟨by decide +kernel, by decide +kernel⟩, List.mem_of_getElem? (i := 14) (by decide +kernel), List.mem_of_getElem? (i := 421) (by decide +kernel), List.mem_of_getElem? (i := 422) (by decide +kernel)⟩
theorem lw_p34 : lw_okq (⟨"CarriedOne", "summedTogether", "()I"⟩, 10) := ⟨⟨by decide +kernel, by decide +kernel⟩, List.mem_of_getElem? (i := 14) (by decide +kernel), List.mem_of_getElem? (i := 425) (by decide +kernel), List.mem_of_getElem? (i := 426) (by decide +kernel)⟩
theorem lw_p35 : lw_okq (⟨"CarriedOne", "notDividedBy", "(I)I"⟩, 10) := ⟨⟨by decide +kernel, by decide +kernel⟩, List.mem_of_getElem? (i := 14) (by decide +kernel), List.mem_of_getElem? (i := 429) (by decide +kernel), List.mem_of_getElem? (i := 430) (by decide +kernel)⟩
theorem lw_p36 : lw_okq (⟨"CarriedOne$Ways", "walk", "(III)I"⟩, 4) := ⟨⟨by decide +kernel, by decide +kernel⟩, List.mem_of_getElem? (i := 165) (by decide +kernel), List.mem_of_getElem? (i := 440) (by decide +kernel), List.mem_of_getElem? (i := 441) (by decide +kernel)⟩
theorem lw_p37 : lw_okq (⟨"CarriedOne$Ways", "lengthOfRound", "(II)I"⟩, 4) := ⟨⟨by decide +kernel, by decide +kernel⟩, List.mem_of_getElem? (i := 165) (by decide +kernel), List.mem_of_getElem? (i := 449) (by decide +kernel), List.mem_of_getElem? (i := 450) (by decide +kernel)⟩
theorem lw_p38 : lw_okq (⟨"CarriedOne$Ways", "daysToRound", "(III)I"⟩, 4) := ⟨⟨by decide +kernel, by decide +kernel⟩, List.mem_of_getElem? (i := 165) (by decide +kernel), List.mem_of_getElem? (i := 454) (by decide +kernel), List.mem_of_getElem? (i := 455) (by decide +kernel)⟩
theorem lw_p39 : lw_okq (⟨"CarriedOne", "fewestMoreTouches", "(II)I"⟩, 10) := ⟨⟨by decide +kernel, by decide +kernel⟩, List.mem_of_getElem? (i := 14) (by decide +kernel), List.mem_of_getElem? (i := 466) (by decide +kernel), List.mem_of_getElem? (i := 467) (by decide +kernel)⟩
theorem lw_p40 : lw_okq (⟨"CarriedOne", "lures", "(III)Z"⟩, 10) := ⟨⟨by decide +kernel, by decide +kernel⟩, List.mem_of_getElem? (i := 14) (by decide +kernel), List.mem_of_getElem? (i := 470) (by decide +kernel), List.mem_of_getElem? (i := 471) (by decide +kernel)⟩
theorem lw_p41 : lw_okq (⟨"CarriedOne", "firstSingleLure", "(II)I"⟩, 10) := ⟨⟨by decide +kernel, by decide +kernel⟩, List.mem_of_getElem? (i := 14) (by decide +kernel), List.mem_of_getElem? (i := 474) (by decide +kernel), List.mem_of_getElem? (i := 475) (by decide +kernel)⟩
theorem lw_p42 : lw_okq (⟨"CarriedOne", "firstDoubleLure", "(II)I"⟩, 10) := ⟨⟨by decide +kernel, by decide +kernel⟩, List.mem_of_getElem? (i := 14) (by decide +kernel), List.mem_of_getElem? (i := 478) (by decide +kernel), List.mem_of_getElem? (i := 479) (by decide +kernel)⟩
theorem lw_p43 : lw_okq (⟨"CarriedOne", "fewestTouchesToCut", "(I)I"⟩, 10) := ⟨⟨by decide +kernel, by decide +kernel⟩, List.mem_of_getElem? (i := 14) (by decide +kernel), List.mem_of_getElem? (i := 492) (by decide +kernel), List.mem_of_getElem? (i := 493) (by decide +kernel)⟩
theorem lw_p44 : lw_okq (⟨"CarriedOne$Ways", "comesTo", "(III)Z"⟩, 4) := ⟨⟨by decide +kernel, by decide +kernel⟩, List.mem_of_getElem? (i := 165) (by decide +kernel), List.mem_of_getElem? (i := 496) (by decide +kernel), List.mem_of_getElem? (i := 497) (by decide +kernel)⟩
theorem lw_p45 : lw_okq (⟨"CarriedOne", "leastCut", "(II)I"⟩, 10) := ⟨⟨by decide +kernel, by decide +kernel⟩, List.mem_of_getElem? (i := 14) (by decide +kernel), List.mem_of_getElem? (i := 500) (by decide +kernel), List.mem_of_getElem? (i := 501) (by decide +kernel)⟩
theorem lw_p46 : lw_okq (⟨"CarriedOne", "chancesOf", "(III)I"⟩, 10) := ⟨⟨by decide +kernel, by decide +kernel⟩, List.mem_of_getElem? (i := 14) (by decide +kernel), List.mem_of_getElem? (i := 516) (by decide +kernel), List.mem_of_getElem? (i := 517) (by decide +kernel)⟩
theorem lw_p47 : lw_okq (⟨"CarriedOne$Seen", "append", "(IIZ)Z"⟩, 4) := ⟨⟨by decide +kernel, by decide +kernel⟩, List.mem_of_getElem? (i := 141) (by decide +kernel), List.mem_of_getElem? (i := 536) (by decide +kernel), List.mem_of_getElem? (i := 537) (by decide +kernel)⟩
def lw_privs_3 : List (MethodName × Nat) := [(⟨"CarriedOne$Now", "unpack", "(J)V"⟩, 5), (⟨"CarriedOne", "shownTogether", "()I"⟩, 10), (⟨"CarriedOne", "summedTogether", "()I"⟩, 10), (⟨"CarriedOne", "notDividedBy", "(I)I"⟩, 10), (⟨"CarriedOne$Ways", "walk", "(III)I"⟩, 4), (⟨"CarriedOne$Ways", "lengthOfRound", "(II)I"⟩, 4), (⟨"CarriedOne$Ways", "daysToRound", "(III)I"⟩, 4), (⟨"CarriedOne", "fewestMoreTouches", "(II)I"⟩, 10), (⟨"CarriedOne", "lures", "(III)Z"⟩, 10), (⟨"CarriedOne", "firstSingleLure", "(II)I"⟩, 10), (⟨"CarriedOne", "firstDoubleLure", "(II)I"⟩, 10), (⟨"CarriedOne", "fewestTouchesToCut", "(I)I"⟩, 10), (⟨"CarriedOne$Ways", "comesTo", "(III)Z"⟩, 4), (⟨"CarriedOne", "leastCut", "(II)I"⟩, 10), (⟨"CarriedOne", "chancesOf", "(III)I"⟩, 10), (⟨"CarriedOne$Seen", "append", "(IIZ)Z"⟩, 4)]
theorem lw_r3 : ∀ q ∈ lw_privs_3, lw_okq q := List.forall_mem_cons.mpr ⟨lw_p32, List.forall_mem_cons.mpr ⟨lw_p33, List.forall_mem_cons.mpr ⟨lw_p34, List.forall_mem_cons.mpr ⟨lw_p35, List.forall_mem_cons.mpr ⟨lw_p36, List.forall_mem_cons.mpr ⟨lw_p37, List.forall_mem_cons.mpr ⟨lw_p38, List.forall_mem_cons.mpr ⟨lw_p39, List.forall_mem_cons.mpr ⟨lw_p40, List.forall_mem_cons.mpr ⟨lw_p41, List.forall_mem_cons.mpr ⟨lw_p42, List.forall_mem_cons.mpr ⟨lw_p43, List.forall_mem_cons.mpr ⟨lw_p44, List.forall_mem_cons.mpr ⟨lw_p45, List.forall_mem_cons.mpr ⟨lw_p46, List.forall_mem_cons.mpr ⟨lw_p47, fun _ h => absurd h List.not_mem_nil⟩⟩⟩⟩⟩⟩⟩⟩⟩⟩⟩⟩⟩⟩⟩⟩
theorem lw_p48 : lw_okq (⟨"CarriedOne", "fitsFrom", "(I)Z"⟩, 10) := ⟨⟨by decide +kernel, by decide +kernel⟩, List.mem_of_getElem? (i := 14) (by decide +kernel), List.mem_of_getElem? (i := 548) (by decide +kernel), List.mem_of_getElem? (i := 549) (by decide +kernel)⟩
theorem lw_p49 : lw_okq (⟨"CarriedOne", "setsWithout", "(I)I"⟩, 10) := ⟨⟨by decide +kernel, by decide +kernel⟩, List.mem_of_getElem? (i := 14) (by decide +kernel), List.mem_of_getElem? (i := 569) (by decide +kernel), List.mem_of_getElem? (i := 570) (by decide +kernel)⟩
theorem lw_p50 : lw_okq (⟨"CarriedOne", "booksInEachSet", "()I"⟩, 10) := ⟨⟨by decide +kernel, by decide +kernel⟩, List.mem_of_getElem? (i := 14) (by decide +kernel), List.mem_of_getElem? (i := 576) (by decide +kernel), List.mem_of_getElem? (i := 577) (by decide +kernel)⟩
theorem lw_p51 : lw_okq (⟨"CarriedOne", "booksInSomeSet", "()I"⟩, 10) := ⟨⟨by decide +kernel, by decide +kernel⟩, List.mem_of_getElem? (i := 14) (by decide +kernel), List.mem_of_getElem? (i := 580) (by decide +kernel), List.mem_of_getElem? (i := 581) (by decide +kernel)⟩
theorem lw_p52 : lw_okq (⟨"CarriedOne", "markOfBook", "(I)I"⟩, 10) := ⟨⟨by decide +kernel, by decide +kernel⟩, List.mem_of_getElem? (i := 14) (by decide +kernel), List.mem_of_getElem? (i := 596) (by decide +kernel), List.mem_of_getElem? (i := 597) (by decide +kernel)⟩
theorem lw_p53 : lw_okq (⟨"CarriedOne", "markOfRates", "(I)I"⟩, 10) := ⟨⟨by decide +kernel, by decide +kernel⟩, List.mem_of_getElem? (i := 14) (by decide +kernel), List.mem_of_getElem? (i := 600) (by decide +kernel), List.mem_of_getElem? (i := 601) (by decide +kernel)⟩
theorem lw_p54 : lw_okq (⟨"CarriedOne", "markOfTrain", "(I)I"⟩, 10) := ⟨⟨by decide +kernel, by decide +kernel⟩, List.mem_of_getElem? (i := 14) (by decide +kernel), List.mem_of_getElem? (i := 605) (by decide +kernel), List.mem_of_getElem? (i := 606) (by decide +kernel)⟩
theorem lw_p55 : lw_okq (⟨"CarriedOne", "markOfLedger", "(I)I"⟩, 10) := ⟨⟨by decide +kernel, by decide +kernel⟩, List.mem_of_getElem? (i := 14) (by decide +kernel), List.mem_of_getElem? (i := 610) (by decide +kernel), List.mem_of_getElem? (i := 611) (by decide +kernel)⟩
theorem lw_p56 : lw_okq (⟨"CarriedOne", "markOfShop", "(I)I"⟩, 10) := ⟨⟨by decide +kernel, by decide +kernel⟩, List.mem_of_getElem? (i := 14) (by decide +kernel), List.mem_of_getElem? (i := 615) (by decide +kernel), List.mem_of_getElem? (i := 616) (by decide +kernel)⟩
theorem lw_p57 : lw_okq (⟨"CarriedOne", "markOfChoir", "(I)I"⟩, 10) := ⟨⟨by decide +kernel, by decide +kernel⟩, List.mem_of_getElem? (i := 14) (by decide +kernel), List.mem_of_getElem? (i := 620) (by decide +kernel), List.mem_of_getElem? (i := 621) (by decide +kernel)⟩
theorem lw_p58 : lw_okq (⟨"CarriedOne", "imageOf", "(I)LCarriedOne$Image;"⟩, 10) := ⟨⟨by decide +kernel, by decide +kernel⟩, List.mem_of_getElem? (i := 14) (by decide +kernel), List.mem_of_getElem? (i := 629) (by decide +kernel), List.mem_of_getElem? (i := 630) (by decide +kernel)⟩
theorem lw_p59 : lw_okq (⟨"CarriedOne$Image", "fill", "(LCarriedOne$Now;LCarriedOne$History;)V"⟩, 3) := ⟨⟨by decide +kernel, by decide +kernel⟩, List.mem_of_getElem? (i := 122) (by decide +kernel), List.mem_of_getElem? (i := 633) (by decide +kernel), List.mem_of_getElem? (i := 634) (by decide +kernel)⟩
theorem lw_p60 : lw_okq (⟨"CarriedOne$History", "copyFrom", "(LCarriedOne$History;)V"⟩, 2) := ⟨⟨by decide +kernel, by decide +kernel⟩, List.mem_of_getElem? (i := 107) (by decide +kernel), List.mem_of_getElem? (i := 638) (by decide +kernel), List.mem_of_getElem? (i := 639) (by decide +kernel)⟩
theorem lw_p61 : lw_okq (⟨"CarriedOne$Image", "restore", "(LCarriedOne$Now;LCarriedOne$History;)V"⟩, 3) := ⟨⟨by decide +kernel, by decide +kernel⟩, List.mem_of_getElem? (i := 122) (by decide +kernel), List.mem_of_getElem? (i := 646) (by decide +kernel), List.mem_of_getElem? (i := 647) (by decide +kernel)⟩
theorem lw_p62 : lw_okq (⟨"CarriedOneModel", "plain", "()V"⟩, 24) := ⟨⟨by decide +kernel, by decide +kernel⟩, List.mem_of_getElem? (i := 659) (by decide +kernel), List.mem_of_getElem? (i := 665) (by decide +kernel), List.mem_of_getElem? (i := 666) (by decide +kernel)⟩
theorem lw_p63 : lw_okq (⟨"CarriedOneModel", "takeDraft", "()V"⟩, 24) := ⟨⟨by decide +kernel, by decide +kernel⟩, List.mem_of_getElem? (i := 659) (by decide +kernel), List.mem_of_getElem? (i := 669) (by decide +kernel), List.mem_of_getElem? (i := 670) (by decide +kernel)⟩
def lw_privs_4 : List (MethodName × Nat) := [(⟨"CarriedOne", "fitsFrom", "(I)Z"⟩, 10), (⟨"CarriedOne", "setsWithout", "(I)I"⟩, 10), (⟨"CarriedOne", "booksInEachSet", "()I"⟩, 10), (⟨"CarriedOne", "booksInSomeSet", "()I"⟩, 10), (⟨"CarriedOne", "markOfBook", "(I)I"⟩, 10), (⟨"CarriedOne", "markOfRates", "(I)I"⟩, 10), (⟨"CarriedOne", "markOfTrain", "(I)I"⟩, 10), (⟨"CarriedOne", "markOfLedger", "(I)I"⟩, 10), (⟨"CarriedOne", "markOfShop", "(I)I"⟩, 10), (⟨"CarriedOne", "markOfChoir", "(I)I"⟩, 10), (⟨"CarriedOne", "imageOf", "(I)LCarriedOne$Image;"⟩, 10), (⟨"CarriedOne$Image", "fill", "(LCarriedOne$Now;LCarriedOne$History;)V"⟩, 3), (⟨"CarriedOne$History", "copyFrom", "(LCarriedOne$History;)V"⟩, 2), (⟨"CarriedOne$Image", "restore", "(LCarriedOne$Now;LCarriedOne$History;)V"⟩, 3), (⟨"CarriedOneModel", "plain", "()V"⟩, 24), (⟨"CarriedOneModel", "takeDraft", "()V"⟩, 24)]
theorem lw_r4 : ∀ q ∈ lw_privs_4, lw_okq q := List.forall_mem_cons.mpr ⟨lw_p48, List.forall_mem_cons.mpr ⟨lw_p49, List.forall_mem_cons.mpr ⟨lw_p50, List.forall_mem_cons.mpr ⟨lw_p51, List.forall_mem_cons.mpr ⟨lw_p52, List.forall_mem_cons.mpr ⟨lw_p53, List.forall_mem_cons.mpr ⟨lw_p54, List.forall_mem_cons.mpr ⟨lw_p55, List.forall_mem_cons.mpr ⟨lw_p56, List.forall_mem_cons.mpr ⟨lw_p57, List.forall_mem_cons.mpr ⟨lw_p58, List.forall_mem_cons.mpr ⟨lw_p59, List.forall_mem_cons.mpr ⟨lw_p60, List.forall_mem_cons.mpr ⟨lw_p61, List.forall_mem_cons.mpr ⟨lw_p62, List.forall_mem_cons.mpr ⟨lw_p63, fun _ h => absurd h List.not_mem_nil⟩⟩⟩⟩⟩⟩⟩⟩⟩⟩⟩⟩⟩⟩⟩⟩
theorem lw_p64 : lw_okq (⟨"CarriedOneModel", "step", "()V"⟩, 24) := ⟨⟨by decide +kernel, by decide +kernel⟩, List.mem_of_getElem? (i := 659) (by decide +kernel), List.mem_of_getElem? (i := 762) (by decide +kernel), List.mem_of_getElem? (i := 763) (by decide +kernel)⟩
theorem lw_p65 : lw_okq (⟨"CarriedOneModel", "here", "()I"⟩, 24) := ⟨⟨by decide +kernel, by decide +kernel⟩, List.mem_of_getElem? (i := 659) (by decide +kernel), List.mem_of_getElem? (i := 766) (by decide +kernel), List.mem_of_getElem? (i := 767) (by decide +kernel)⟩
theorem lw_p66 : lw_okq (⟨"CarriedOneModel", "mayBe", "(I)Z"⟩, 24) := ⟨⟨by decide +kernel, by decide +kernel⟩, List.mem_of_getElem? (i := 659) (by decide +kernel), List.mem_of_getElem? (i := 770) (by decide +kernel), List.mem_of_getElem? (i := 771) (by decide +kernel)⟩
theorem lw_p67 : lw_okq (⟨"CarriedOneModel", "due", "(Z)I"⟩, 24) := ⟨⟨by decide +kernel, by decide +kernel⟩, List.mem_of_getElem? (i := 659) (by decide +kernel), List.mem_of_getElem? (i := 774) (by decide +kernel), List.mem_of_getElem? (i := 775) (by decide +kernel)⟩
theorem lw_p68 : lw_okq (⟨"CarriedOneModel", "readRow", "(I)V"⟩, 24) := ⟨⟨by decide +kernel, by decide +kernel⟩, List.mem_of_getElem? (i := 659) (by decide +kernel), List.mem_of_getElem? (i := 778) (by decide +kernel), List.mem_of_getElem? (i := 779) (by decide +kernel)⟩
theorem lw_p69 : lw_okq (⟨"CarriedOneModel", "number", "(II)I"⟩, 24) := ⟨⟨by decide +kernel, by decide +kernel⟩, List.mem_of_getElem? (i := 659) (by decide +kernel), List.mem_of_getElem? (i := 782) (by decide +kernel), List.mem_of_getElem? (i := 783) (by decide +kernel)⟩
theorem lw_p70 : lw_okq (⟨"CarriedOneModel", "isBook", "(I)Z"⟩, 24) := ⟨⟨by decide +kernel, by decide +kernel⟩, List.mem_of_getElem? (i := 659) (by decide +kernel), List.mem_of_getElem? (i := 790) (by decide +kernel), List.mem_of_getElem? (i := 791) (by decide +kernel)⟩
theorem lw_p71 : lw_okq (⟨"CarriedOneModel", "written", "(I)I"⟩, 24) := ⟨⟨by decide +kernel, by decide +kernel⟩, List.mem_of_getElem? (i := 659) (by decide +kernel), List.mem_of_getElem? (i := 794) (by decide +kernel), List.mem_of_getElem? (i := 795) (by decide +kernel)⟩
theorem lw_p72 : lw_okq (⟨"CarriedOneModel", "sum", "(I)I"⟩, 24) := ⟨⟨by decide +kernel, by decide +kernel⟩, List.mem_of_getElem? (i := 659) (by decide +kernel), List.mem_of_getElem? (i := 798) (by decide +kernel), List.mem_of_getElem? (i := 799) (by decide +kernel)⟩
theorem lw_p73 : lw_okq (⟨"CarriedOneModel", "shown", "(I)I"⟩, 24) := ⟨⟨by decide +kernel, by decide +kernel⟩, List.mem_of_getElem? (i := 659) (by decide +kernel), List.mem_of_getElem? (i := 802) (by decide +kernel), List.mem_of_getElem? (i := 803) (by decide +kernel)⟩
theorem lw_p74 : lw_okq (⟨"CarriedOneModel", "carries", "(I)I"⟩, 24) := ⟨⟨by decide +kernel, by decide +kernel⟩, List.mem_of_getElem? (i := 659) (by decide +kernel), List.mem_of_getElem? (i := 806) (by decide +kernel), List.mem_of_getElem? (i := 807) (by decide +kernel)⟩
theorem lw_p75 : lw_okq (⟨"CarriedOneModel", "know", "()V"⟩, 24) := ⟨⟨by decide +kernel, by decide +kernel⟩, List.mem_of_getElem? (i := 659) (by decide +kernel), List.mem_of_getElem? (i := 817) (by decide +kernel), List.mem_of_getElem? (i := 818) (by decide +kernel)⟩
theorem lw_p76 : lw_okq (⟨"CarriedOneModel", "touches", "()I"⟩, 24) := ⟨⟨by decide +kernel, by decide +kernel⟩, List.mem_of_getElem? (i := 659) (by decide +kernel), List.mem_of_getElem? (i := 836) (by decide +kernel), List.mem_of_getElem? (i := 837) (by decide +kernel)⟩
theorem lw_p77 : lw_okq (⟨"CarriedOneModel", "takeNear", "()V"⟩, 24) := ⟨⟨by decide +kernel, by decide +kernel⟩, List.mem_of_getElem? (i := 659) (by decide +kernel), List.mem_of_getElem? (i := 848) (by decide +kernel), List.mem_of_getElem? (i := 849) (by decide +kernel)⟩
theorem lw_p78 : lw_okq (⟨"CarriedOneModel", "goesTo", "(I)I"⟩, 24) := ⟨⟨by decide +kernel, by decide +kernel⟩, List.mem_of_getElem? (i := 659) (by decide +kernel), List.mem_of_getElem? (i := 852) (by decide +kernel), List.mem_of_getElem? (i := 853) (by decide +kernel)⟩
theorem lw_p79 : lw_okq (⟨"CarriedOneModel", "goesIn", "(II)I"⟩, 24) := ⟨⟨by decide +kernel, by decide +kernel⟩, List.mem_of_getElem? (i := 659) (by decide +kernel), List.mem_of_getElem? (i := 871) (by decide +kernel), List.mem_of_getElem? (i := 872) (by decide +kernel)⟩
def lw_privs_5 : List (MethodName × Nat) := [(⟨"CarriedOneModel", "step", "()V"⟩, 24), (⟨"CarriedOneModel", "here", "()I"⟩, 24), (⟨"CarriedOneModel", "mayBe", "(I)Z"⟩, 24), (⟨"CarriedOneModel", "due", "(Z)I"⟩, 24), (⟨"CarriedOneModel", "readRow", "(I)V"⟩, 24), (⟨"CarriedOneModel", "number", "(II)I"⟩, 24), (⟨"CarriedOneModel", "isBook", "(I)Z"⟩, 24), (⟨"CarriedOneModel", "written", "(I)I"⟩, 24), (⟨"CarriedOneModel", "sum", "(I)I"⟩, 24), (⟨"CarriedOneModel", "shown", "(I)I"⟩, 24), (⟨"CarriedOneModel", "carries", "(I)I"⟩, 24), (⟨"CarriedOneModel", "know", "()V"⟩, 24), (⟨"CarriedOneModel", "touches", "()I"⟩, 24), (⟨"CarriedOneModel", "takeNear", "()V"⟩, 24), (⟨"CarriedOneModel", "goesTo", "(I)I"⟩, 24), (⟨"CarriedOneModel", "goesIn", "(II)I"⟩, 24)]
theorem lw_r5 : ∀ q ∈ lw_privs_5, lw_okq q := List.forall_mem_cons.mpr ⟨lw_p64, List.forall_mem_cons.mpr ⟨lw_p65, List.forall_mem_cons.mpr ⟨lw_p66, List.forall_mem_cons.mpr ⟨lw_p67, List.forall_mem_cons.mpr ⟨lw_p68, List.forall_mem_cons.mpr ⟨lw_p69, List.forall_mem_cons.mpr ⟨lw_p70, List.forall_mem_cons.mpr ⟨lw_p71, List.forall_mem_cons.mpr ⟨lw_p72, List.forall_mem_cons.mpr ⟨lw_p73, List.forall_mem_cons.mpr ⟨lw_p74, List.forall_mem_cons.mpr ⟨lw_p75, List.forall_mem_cons.mpr ⟨lw_p76, List.forall_mem_cons.mpr ⟨lw_p77, List.forall_mem_cons.mpr ⟨lw_p78, List.forall_mem_cons.mpr ⟨lw_p79, fun _ h => absurd h List.not_mem_nil⟩⟩⟩⟩⟩⟩⟩⟩⟩⟩⟩⟩⟩⟩⟩⟩
theorem lw_p80 : lw_okq (⟨"CarriedOneModel", "isLured", "(IIII)Z"⟩, 24) := ⟨⟨by decide +kernel, by decide +kernel⟩, List.mem_of_getElem? (i := 659) (by decide +kernel), List.mem_of_getElem? (i := 887) (by decide +kernel), List.mem_of_getElem? (i := 888) (by decide +kernel)⟩
theorem lw_p81 : lw_okq (⟨"CarriedOneModel", "turn", "(II)V"⟩, 24) := ⟨⟨by decide +kernel, by decide +kernel⟩, List.mem_of_getElem? (i := 659) (by decide +kernel), List.mem_of_getElem? (i := 891) (by decide +kernel), List.mem_of_getElem? (i := 892) (by decide +kernel)⟩
theorem lw_p82 : lw_okq (⟨"CarriedOneModel", "isLess", "(I)Z"⟩, 24) := ⟨⟨by decide +kernel, by decide +kernel⟩, List.mem_of_getElem? (i := 659) (by decide +kernel), List.mem_of_getElem? (i := 895) (by decide +kernel), List.mem_of_getElem? (i := 896) (by decide +kernel)⟩
theorem lw_p83 : lw_okq (⟨"CarriedOneModel", "touching", "()I"⟩, 24) := ⟨⟨by decide +kernel, by decide +kernel⟩, List.mem_of_getElem? (i := 659) (by decide +kernel), List.mem_of_getElem? (i := 906) (by decide +kernel), List.mem_of_getElem? (i := 907) (by decide +kernel)⟩
theorem lw_p84 : lw_okq (⟨"CarriedOneModel", "layApart", "(I)V"⟩, 24) := ⟨⟨by decide +kernel, by decide +kernel⟩, List.mem_of_getElem? (i := 659) (by decide +kernel), List.mem_of_getElem? (i := 910) (by decide +kernel), List.mem_of_getElem? (i := 911) (by decide +kernel)⟩
theorem lw_p85 : lw_okq (⟨"CarriedOneModel", "everComes", "(I)Z"⟩, 24) := ⟨⟨by decide +kernel, by decide +kernel⟩, List.mem_of_getElem? (i := 659) (by decide +kernel), List.mem_of_getElem? (i := 914) (by decide +kernel), List.mem_of_getElem? (i := 915) (by decide +kernel)⟩
theorem lw_p86 : lw_okq (⟨"CarriedOneModel", "look", "(II)V"⟩, 24) := ⟨⟨by decide +kernel, by decide +kernel⟩, List.mem_of_getElem? (i := 659) (by decide +kernel), List.mem_of_getElem? (i := 949) (by decide +kernel), List.mem_of_getElem? (i := 950) (by decide +kernel)⟩
def lw_privs_6 : List (MethodName × Nat) := [(⟨"CarriedOneModel", "isLured", "(IIII)Z"⟩, 24), (⟨"CarriedOneModel", "turn", "(II)V"⟩, 24), (⟨"CarriedOneModel", "isLess", "(I)Z"⟩, 24), (⟨"CarriedOneModel", "touching", "()I"⟩, 24), (⟨"CarriedOneModel", "layApart", "(I)V"⟩, 24), (⟨"CarriedOneModel", "everComes", "(I)Z"⟩, 24), (⟨"CarriedOneModel", "look", "(II)V"⟩, 24)]
theorem lw_r6 : ∀ q ∈ lw_privs_6, lw_okq q := List.forall_mem_cons.mpr ⟨lw_p80, List.forall_mem_cons.mpr ⟨lw_p81, List.forall_mem_cons.mpr ⟨lw_p82, List.forall_mem_cons.mpr ⟨lw_p83, List.forall_mem_cons.mpr ⟨lw_p84, List.forall_mem_cons.mpr ⟨lw_p85, List.forall_mem_cons.mpr ⟨lw_p86, fun _ h => absurd h List.not_mem_nil⟩⟩⟩⟩⟩⟩⟩
def lw_privs : List (MethodName × Nat) := lw_privs_1 ++ (lw_privs_2 ++ (lw_privs_3 ++ (lw_privs_4 ++ (lw_privs_5 ++ (lw_privs_6)))))
def lw_tbl : List Cond := k2_sels lw_privs ++ tables_1
theorem lw_privs_ok : ∀ q ∈ lw_privs, lw_okq q := by
  show ∀ q ∈ lw_privs_1 ++ (lw_privs_2 ++ (lw_privs_3 ++ (lw_privs_4 ++ (lw_privs_5 ++ (lw_privs_6))))), lw_okq q
  exact List.forall_mem_append.mpr ⟨lw_r1, List.forall_mem_append.mpr ⟨lw_r2, List.forall_mem_append.mpr ⟨lw_r3, List.forall_mem_append.mpr ⟨lw_r4, List.forall_mem_append.mpr ⟨lw_r5, lw_r6⟩⟩⟩⟩⟩
-- ===== end of PART A; then your names; then what follows =====
/-! ===== BEGIN words of one list among another's, by their places ===== -/
theorem goodIn_r {big : List Cond} (ws : List Cond) (ps : List Nat) (hp : ws = ps.filterMap (fun i => big[i]?)) (h : ws.all goodWord = true) : GoodIn big ws := by
  intro w hw
  have h1 := List.all_eq_true.mp h w hw
  rw [hp] at hw
  obtain ⟨i, -, hi⟩ := List.mem_filterMap.mp hw
  have hm : w ∈ big := by first | exact List.mem_of_getElem? hi | exact List.getElem?_mem hi
  exact ⟨hm, good_of_word h1⟩
theorem goodIn_app {big a b : List Cond} (ha : GoodIn big a) (hb : GoodIn big b) : GoodIn big (a ++ b) := fun w h => (List.mem_append.mp h).elim (ha w) (hb w)
theorem goodIn_ca {big a b : List Cond} {c : Cond} (ha : GoodIn big (c :: a)) (hb : GoodIn big b) : GoodIn big (c :: (a ++ b)) := fun w h => (List.mem_cons.mp h).elim (fun e => ha w (List.mem_cons.mpr (Or.inl e))) (fun h => (List.mem_append.mp h).elim (fun h => ha w (List.mem_cons.mpr (Or.inr h))) (hb w))
theorem goodIn_sub {big ws : List Cond} (hm : ∀ w ∈ ws, w ∈ big) (h : ws.all goodWord = true) : GoodIn big ws := fun w hw => ⟨hm w hw, good_of_word (List.all_eq_true.mp h w hw)⟩
/-! ===== END ===== -/

/-! ===== BEGIN printed: names, fields, word lists, decode rows ===== -/
def RX0 : String := "CarriedOne$Books"
def TX0 : u_T := fun k => match k with
  | 0 => ("CarriedOne$Books", "a", "[I", true)
  | 1 => ("CarriedOne$Books", "b", "[I", true)
  | 2 => ("CarriedOne$Books", "size", "I", false)
  | 3 => ("CarriedOne$Books", "touches", "I", false)
  | _ => ("CarriedOne$Books", "one", "I", false)
def tyX0 : Nat → FieldType := fun k => match k with
  | 0 => .array .int
  | 1 => .array .int
  | 2 => .int
  | 3 => .int
  | _ => .int
abbrev wsX00 : List Cond := u_ws RX0 TX0 5
theorem nmX0 : ∀ a, a < 5 → ∀ b, b < 5 → a ≠ b → (TX0 a).2.1 ≠ (TX0 b).2.1 := by decide +kernel
theorem tyX0_ok : ∀ k, k < 5 → parseFieldDescriptor (TX0 k).2.2.1 = some (tyX0 k) := by decide +kernel
abbrev cX0_init : ByteArray := prog_2_method_1_code
def yX0_init : MethodName := ⟨RX0, "<init>", "()V"⟩
abbrev cX0_empty : ByteArray := prog_2_method_2_code
def yX0_empty : MethodName := ⟨RX0, "empty", "()V"⟩
abbrev cX0_copyFrom : ByteArray := prog_2_method_3_code
def yX0_copyFrom : MethodName := ⟨RX0, "copyFrom", "(LCarriedOne$Books;)V"⟩
abbrev cX0_append : ByteArray := prog_2_method_4_code
def yX0_append : MethodName := ⟨RX0, "append", "(II)V"⟩
abbrev cX0_sum : ByteArray := prog_2_method_5_code
def yX0_sum : MethodName := ⟨RX0, "sum", "(I)I"⟩
abbrev cX0_carries : ByteArray := prog_2_method_6_code
def yX0_carries : MethodName := ⟨RX0, "carries", "(I)I"⟩
def RX1 : String := "CarriedOne$History"
def TX1 : u_T := fun k => match k with
  | 0 => ("CarriedOne$History", "steps", "[J", true)
  | _ => ("CarriedOne$History", "known", "I", false)
def tyX1 : Nat → FieldType := fun k => match k with
  | 0 => .array .long
  | _ => .int
abbrev wsX10 : List Cond := u_ws RX1 TX1 2
theorem nmX1 : ∀ a, a < 2 → ∀ b, b < 2 → a ≠ b → (TX1 a).2.1 ≠ (TX1 b).2.1 := by decide +kernel
theorem tyX1_ok : ∀ k, k < 2 → parseFieldDescriptor (TX1 k).2.2.1 = some (tyX1 k) := by decide +kernel
abbrev cX1_init : ByteArray := prog_3_method_1_code
def yX1_init : MethodName := ⟨RX1, "<init>", "()V"⟩
abbrev cX1_append : ByteArray := prog_3_method_2_code
def yX1_append : MethodName := ⟨RX1, "append", "(J)V"⟩
abbrev cX1_takeLatest : ByteArray := prog_3_method_3_code
def yX1_takeLatest : MethodName := ⟨RX1, "takeLatest", "()J"⟩
abbrev cX1_copyFrom : ByteArray := prog_3_method_4_code
def yX1_copyFrom : MethodName := ⟨RX1, "copyFrom", "(LCarriedOne$History;)V"⟩
def RX2 : String := "CarriedOne$Image"
def TX2 : u_T := fun k => match k with
  | 0 => ("CarriedOne$Image", "history", "LCarriedOne$History;", true)
  | 1 => ("CarriedOne$Image", "packed", "J", false)
  | _ => ("CarriedOne$Image", "kept", "Z", false)
def tyX2 : Nat → FieldType := fun k => match k with
  | 0 => .object "CarriedOne$History"
  | 1 => .long
  | _ => .boolean
abbrev wsX20 : List Cond := u_ws RX2 TX2 3
theorem nmX2 : ∀ a, a < 3 → ∀ b, b < 3 → a ≠ b → (TX2 a).2.1 ≠ (TX2 b).2.1 := by decide +kernel
theorem tyX2_ok : ∀ k, k < 3 → parseFieldDescriptor (TX2 k).2.2.1 = some (tyX2 k) := by decide +kernel
abbrev cX2_init : ByteArray := prog_4_method_1_code
def yX2_init : MethodName := ⟨RX2, "<init>", "()V"⟩
abbrev cX2_fill : ByteArray := prog_4_method_2_code
def yX2_fill : MethodName := ⟨RX2, "fill", "(LCarriedOne$Now;LCarriedOne$History;)V"⟩
abbrev cX2_restore : ByteArray := prog_4_method_3_code
def yX2_restore : MethodName := ⟨RX2, "restore", "(LCarriedOne$Now;LCarriedOne$History;)V"⟩
def RX3 : String := "CarriedOne$Now"
def TX3 : u_T := fun k => match k with
  | 0 => ("CarriedOne$Now", "forgotten", "I", false)
  | 1 => ("CarriedOne$Now", "touches", "I", false)
  | 2 => ("CarriedOne$Now", "trapped", "I", false)
  | 3 => ("CarriedOne$Now", "one", "I", false)
  | _ => ("CarriedOne$Now", "date", "I", false)
def tyX3 : Nat → FieldType := fun k => match k with
  | 0 => .int
  | 1 => .int
  | 2 => .int
  | 3 => .int
  | _ => .int
abbrev wsX30 : List Cond := u_ws RX3 TX3 5
theorem nmX3 : ∀ a, a < 5 → ∀ b, b < 5 → a ≠ b → (TX3 a).2.1 ≠ (TX3 b).2.1 := by decide +kernel
theorem tyX3_ok : ∀ k, k < 5 → parseFieldDescriptor (TX3 k).2.2.1 = some (tyX3 k) := by decide +kernel
abbrev cX3_init : ByteArray := prog_5_method_1_code
def yX3_init : MethodName := ⟨RX3, "<init>", "()V"⟩
abbrev cX3_begin : ByteArray := prog_5_method_2_code
def yX3_begin : MethodName := ⟨RX3, "begin", "(LCarriedOne$Books;)V"⟩
abbrev cX3_forgottenIn : ByteArray := prog_5_method_3_code
def yX3_forgottenIn : MethodName := ⟨RX3, "forgottenIn", "(I)I"⟩
abbrev cX3_isTrap : ByteArray := prog_5_method_4_code
def yX3_isTrap : MethodName := ⟨RX3, "isTrap", "(I)Z"⟩
abbrev cX3_packed : ByteArray := prog_5_method_5_code
def yX3_packed : MethodName := ⟨RX3, "packed", "()J"⟩
abbrev cX3_unpack : ByteArray := prog_5_method_6_code
def yX3_unpack : MethodName := ⟨RX3, "unpack", "(J)V"⟩
abbrev cX3_lowest : ByteArray := prog_5_method_7_code
def yX3_lowest : MethodName := ⟨RX3, "lowest", "(JI)I"⟩
def RX4 : String := "CarriedOne$Seen"
def TX4 : u_T := fun k => match k with
  | 0 => ("CarriedOne$Seen", "days", "[I", true)
  | 1 => ("CarriedOne$Seen", "books", "[I", true)
  | 2 => ("CarriedOne$Seen", "there", "[Z", true)
  | _ => ("CarriedOne$Seen", "size", "I", false)
def tyX4 : Nat → FieldType := fun k => match k with
  | 0 => .array .int
  | 1 => .array .int
  | 2 => .array .boolean
  | _ => .int
abbrev wsX40 : List Cond := u_ws RX4 TX4 4
theorem nmX4 : ∀ a, a < 4 → ∀ b, b < 4 → a ≠ b → (TX4 a).2.1 ≠ (TX4 b).2.1 := by decide +kernel
theorem tyX4_ok : ∀ k, k < 4 → parseFieldDescriptor (TX4 k).2.2.1 = some (tyX4 k) := by decide +kernel
abbrev cX4_init : ByteArray := prog_6_method_1_code
def yX4_init : MethodName := ⟨RX4, "<init>", "()V"⟩
abbrev cX4_append : ByteArray := prog_6_method_2_code
def yX4_append : MethodName := ⟨RX4, "append", "(IIZ)Z"⟩
def RX5 : String := "CarriedOne$Text"
def TX5 : u_T := fun k => match k with
  | 0 => ("CarriedOne$Text", "bytes", "[I", true)
  | 1 => ("CarriedOne$Text", "length", "I", false)
  | 2 => ("CarriedOne$Text", "place", "I", false)
  | 3 => ("CarriedOne$Text", "token", "I", false)
  | 4 => ("CarriedOne$Text", "begin", "I", false)
  | _ => ("CarriedOne$Text", "value", "I", false)
def tyX5 : Nat → FieldType := fun k => match k with
  | 0 => .array .int
  | 1 => .int
  | 2 => .int
  | 3 => .int
  | 4 => .int
  | _ => .int
abbrev wsX50 : List Cond := u_ws RX5 TX5 6
theorem nmX5 : ∀ a, a < 6 → ∀ b, b < 6 → a ≠ b → (TX5 a).2.1 ≠ (TX5 b).2.1 := by decide +kernel
theorem tyX5_ok : ∀ k, k < 6 → parseFieldDescriptor (TX5 k).2.2.1 = some (tyX5 k) := by decide +kernel
abbrev cX5_init : ByteArray := prog_7_method_1_code
def yX5_init : MethodName := ⟨RX5, "<init>", "()V"⟩
abbrev cX5_append : ByteArray := prog_7_method_2_code
def yX5_append : MethodName := ⟨RX5, "append", "(I)Z"⟩
abbrev cX5_readItems : ByteArray := prog_7_method_3_code
def yX5_readItems : MethodName := ⟨RX5, "readItems", "(LCarriedOne$Books;)I"⟩
abbrev cX5_readItem : ByteArray := prog_7_method_4_code
def yX5_readItem : MethodName := ⟨RX5, "readItem", "(LCarriedOne$Books;)Z"⟩
abbrev cX5_readBook : ByteArray := prog_7_method_5_code
def yX5_readBook : MethodName := ⟨RX5, "readBook", "(LCarriedOne$Books;)Z"⟩
abbrev cX5_readTouch : ByteArray := prog_7_method_6_code
def yX5_readTouch : MethodName := ⟨RX5, "readTouch", "(LCarriedOne$Books;)Z"⟩
abbrev cX5_readOne : ByteArray := prog_7_method_7_code
def yX5_readOne : MethodName := ⟨RX5, "readOne", "(LCarriedOne$Books;)Z"⟩
abbrev cX5_readNumber : ByteArray := prog_7_method_8_code
def yX5_readNumber : MethodName := ⟨RX5, "readNumber", "(I)Z"⟩
abbrev cX5_readSemicolon : ByteArray := prog_7_method_9_code
def yX5_readSemicolon : MethodName := ⟨RX5, "readSemicolon", "()Z"⟩
abbrev cX5_step : ByteArray := prog_7_method_10_code
def yX5_step : MethodName := ⟨RX5, "step", "()V"⟩
abbrev cX5_stepOverAll : ByteArray := prog_7_method_11_code
def yX5_stepOverAll : MethodName := ⟨RX5, "stepOverAll", "(II)V"⟩
abbrev cX5_isNumber : ByteArray := prog_7_method_12_code
def yX5_isNumber : MethodName := ⟨RX5, "isNumber", "(I)Z"⟩
abbrev cX5_valueOfFigures : ByteArray := prog_7_method_13_code
def yX5_valueOfFigures : MethodName := ⟨RX5, "valueOfFigures", "()I"⟩
def RX6 : String := "CarriedOne$Ways"
def TX6 : u_T := fun k => match k with
  | 0 => ("CarriedOne$Ways", "ranked", "[I", true)
  | 1 => ("CarriedOne$Ways", "tens", "[I", true)
  | 2 => ("CarriedOne$Ways", "size", "I", false)
  | _ => ("CarriedOne$Ways", "trapped", "I", false)
def tyX6 : Nat → FieldType := fun k => match k with
  | 0 => .array .int
  | 1 => .array .int
  | 2 => .int
  | _ => .int
abbrev wsX60 : List Cond := u_ws RX6 TX6 4
theorem nmX6 : ∀ a, a < 4 → ∀ b, b < 4 → a ≠ b → (TX6 a).2.1 ≠ (TX6 b).2.1 := by decide +kernel
theorem tyX6_ok : ∀ k, k < 4 → parseFieldDescriptor (TX6 k).2.2.1 = some (tyX6 k) := by decide +kernel
abbrev cX6_init : ByteArray := prog_8_method_1_code
def yX6_init : MethodName := ⟨RX6, "<init>", "()V"⟩
abbrev cX6_rank : ByteArray := prog_8_method_2_code
def yX6_rank : MethodName := ⟨RX6, "rank", "(II)V"⟩
abbrev cX6_goesTo : ByteArray := prog_8_method_3_code
def yX6_goesTo : MethodName := ⟨RX6, "goesTo", "(II)I"⟩
abbrev cX6_walk : ByteArray := prog_8_method_4_code
def yX6_walk : MethodName := ⟨RX6, "walk", "(III)I"⟩
abbrev cX6_comesTo : ByteArray := prog_8_method_5_code
def yX6_comesTo : MethodName := ⟨RX6, "comesTo", "(III)Z"⟩
abbrev cX6_lengthOfRound : ByteArray := prog_8_method_6_code
def yX6_lengthOfRound : MethodName := ⟨RX6, "lengthOfRound", "(II)I"⟩
abbrev cX6_daysToRound : ByteArray := prog_8_method_7_code
def yX6_daysToRound : MethodName := ⟨RX6, "daysToRound", "(III)I"⟩
def RX7 : String := "CarriedOne"
def TX7 : u_T := fun k => match k with
  | 0 => ("CarriedOne", "text", "LCarriedOne$Text;", true)
  | 1 => ("CarriedOne", "draft", "LCarriedOne$Books;", true)
  | 2 => ("CarriedOne", "told", "LCarriedOne$Books;", true)
  | 3 => ("CarriedOne", "now", "LCarriedOne$Now;", true)
  | 4 => ("CarriedOne", "history", "LCarriedOne$History;", true)
  | 5 => ("CarriedOne", "firstImage", "LCarriedOne$Image;", true)
  | 6 => ("CarriedOne", "secondImage", "LCarriedOne$Image;", true)
  | 7 => ("CarriedOne", "seen", "LCarriedOne$Seen;", true)
  | 8 => ("CarriedOne", "ways", "LCarriedOne$Ways;", true)
  | _ => ("CarriedOne", "traced", "J", false)
def tyX7 : Nat → FieldType := fun k => match k with
  | 0 => .object "CarriedOne$Text"
  | 1 => .object "CarriedOne$Books"
  | 2 => .object "CarriedOne$Books"
  | 3 => .object "CarriedOne$Now"
  | 4 => .object "CarriedOne$History"
  | 5 => .object "CarriedOne$Image"
  | 6 => .object "CarriedOne$Image"
  | 7 => .object "CarriedOne$Seen"
  | 8 => .object "CarriedOne$Ways"
  | _ => .long
abbrev wsX70 : List Cond := u_ws RX7 TX7 10
theorem nmX7 : ∀ a, a < 10 → ∀ b, b < 10 → a ≠ b → (TX7 a).2.1 ≠ (TX7 b).2.1 := by decide +kernel
theorem tyX7_ok : ∀ k, k < 10 → parseFieldDescriptor (TX7 k).2.2.1 = some (tyX7 k) := by decide +kernel
abbrev cX7_init : ByteArray := prog_1_method_1_code
def yX7_init : MethodName := ⟨RX7, "<init>", "()V"⟩
abbrev cX7_type : ByteArray := prog_1_method_2_code
def yX7_type : MethodName := ⟨RX7, "type", "(I)I"⟩
abbrev cX7_clear : ByteArray := prog_1_method_3_code
def yX7_clear : MethodName := ⟨RX7, "clear", "()I"⟩
abbrev cX7_books : ByteArray := prog_1_method_4_code
def yX7_books : MethodName := ⟨RX7, "books", "()I"⟩
abbrev cX7_book : ByteArray := prog_1_method_5_code
def yX7_book : MethodName := ⟨RX7, "book", "(II)I"⟩
abbrev cX7_forgets : ByteArray := prog_1_method_6_code
def yX7_forgets : MethodName := ⟨RX7, "forgets", "(II)I"⟩
abbrev cX7_rights : ByteArray := prog_1_method_7_code
def yX7_rights : MethodName := ⟨RX7, "rights", "(I)I"⟩
abbrev cX7_puts : ByteArray := prog_1_method_8_code
def yX7_puts : MethodName := ⟨RX7, "puts", "(I)I"⟩
abbrev cX7_lays : ByteArray := prog_1_method_9_code
def yX7_lays : MethodName := ⟨RX7, "lays", "(III)I"⟩
abbrev cX7_traps : ByteArray := prog_1_method_10_code
def yX7_traps : MethodName := ⟨RX7, "traps", "(II)I"⟩
abbrev cX7_day : ByteArray := prog_1_method_11_code
def yX7_day : MethodName := ⟨RX7, "day", "()I"⟩
abbrev cX7_undo : ByteArray := prog_1_method_12_code
def yX7_undo : MethodName := ⟨RX7, "undo", "()I"⟩
abbrev cX7_now : ByteArray := prog_1_method_13_code
def yX7_now : MethodName := ⟨RX7, "now", "(I)I"⟩
abbrev cX7_inDays : ByteArray := prog_1_method_14_code
def yX7_inDays : MethodName := ⟨RX7, "inDays", "(I)I"⟩
abbrev cX7_round : ByteArray := prog_1_method_15_code
def yX7_round : MethodName := ⟨RX7, "round", "(I)I"⟩
abbrev cX7_from : ByteArray := prog_1_method_16_code
def yX7_from : MethodName := ⟨RX7, "from", "(II)I"⟩
abbrev cX7_lure : ByteArray := prog_1_method_17_code
def yX7_lure : MethodName := ⟨RX7, "lure", "(III)I"⟩
abbrev cX7_cut : ByteArray := prog_1_method_18_code
def yX7_cut : MethodName := ⟨RX7, "cut", "(I)I"⟩
abbrev cX7_odds : ByteArray := prog_1_method_19_code
def yX7_odds : MethodName := ⟨RX7, "odds", "(IIII)I"⟩
abbrev cX7_saw : ByteArray := prog_1_method_20_code
def yX7_saw : MethodName := ⟨RX7, "saw", "(III)I"⟩
abbrev cX7_forget : ByteArray := prog_1_method_21_code
def yX7_forget : MethodName := ⟨RX7, "forget", "()I"⟩
abbrev cX7_fits : ByteArray := prog_1_method_22_code
def yX7_fits : MethodName := ⟨RX7, "fits", "()I"⟩
abbrev cX7_hidden : ByteArray := prog_1_method_23_code
def yX7_hidden : MethodName := ⟨RX7, "hidden", "(II)I"⟩
abbrev cX7_why : ByteArray := prog_1_method_24_code
def yX7_why : MethodName := ⟨RX7, "why", "(I)I"⟩
abbrev cX7_proofs : ByteArray := prog_1_method_25_code
def yX7_proofs : MethodName := ⟨RX7, "proofs", "(I)I"⟩
abbrev cX7_mark : ByteArray := prog_1_method_26_code
def yX7_mark : MethodName := ⟨RX7, "mark", "(II)I"⟩
abbrev cX7_keep : ByteArray := prog_1_method_27_code
def yX7_keep : MethodName := ⟨RX7, "keep", "(I)I"⟩
abbrev cX7_back : ByteArray := prog_1_method_28_code
def yX7_back : MethodName := ⟨RX7, "back", "(I)I"⟩
abbrev cX7_count : ByteArray := prog_1_method_29_code
def yX7_count : MethodName := ⟨RX7, "count", "(I)I"⟩
abbrev cX7_trace : ByteArray := prog_1_method_30_code
def yX7_trace : MethodName := ⟨RX7, "trace", "()J"⟩
abbrev cX7_isBook : ByteArray := prog_1_method_31_code
def yX7_isBook : MethodName := ⟨RX7, "isBook", "(I)Z"⟩
abbrev cX7_isSomewhere : ByteArray := prog_1_method_32_code
def yX7_isSomewhere : MethodName := ⟨RX7, "isSomewhere", "()Z"⟩
abbrev cX7_written : ByteArray := prog_1_method_33_code
def yX7_written : MethodName := ⟨RX7, "written", "(I)I"⟩
abbrev cX7_shown : ByteArray := prog_1_method_34_code
def yX7_shown : MethodName := ⟨RX7, "shown", "(I)I"⟩
abbrev cX7_neighbours : ByteArray := prog_1_method_35_code
def yX7_neighbours : MethodName := ⟨RX7, "neighbours", "(I)I"⟩
abbrev cX7_shownTogether : ByteArray := prog_1_method_36_code
def yX7_shownTogether : MethodName := ⟨RX7, "shownTogether", "()I"⟩
abbrev cX7_summedTogether : ByteArray := prog_1_method_37_code
def yX7_summedTogether : MethodName := ⟨RX7, "summedTogether", "()I"⟩
abbrev cX7_notDividedBy : ByteArray := prog_1_method_38_code
def yX7_notDividedBy : MethodName := ⟨RX7, "notDividedBy", "(I)I"⟩
abbrev cX7_remember : ByteArray := prog_1_method_39_code
def yX7_remember : MethodName := ⟨RX7, "remember", "()V"⟩
abbrev cX7_imageOf : ByteArray := prog_1_method_40_code
def yX7_imageOf : MethodName := ⟨RX7, "imageOf", "(I)LCarriedOne$Image;"⟩
abbrev cX7_waysNow : ByteArray := prog_1_method_41_code
def yX7_waysNow : MethodName := ⟨RX7, "waysNow", "()LCarriedOne$Ways;"⟩
abbrev cX7_fewestMoreTouches : ByteArray := prog_1_method_42_code
def yX7_fewestMoreTouches : MethodName := ⟨RX7, "fewestMoreTouches", "(II)I"⟩
abbrev cX7_firstSingleLure : ByteArray := prog_1_method_43_code
def yX7_firstSingleLure : MethodName := ⟨RX7, "firstSingleLure", "(II)I"⟩
abbrev cX7_firstDoubleLure : ByteArray := prog_1_method_44_code
def yX7_firstDoubleLure : MethodName := ⟨RX7, "firstDoubleLure", "(II)I"⟩
abbrev cX7_lures : ByteArray := prog_1_method_45_code
def yX7_lures : MethodName := ⟨RX7, "lures", "(III)Z"⟩
abbrev cX7_fewestTouchesToCut : ByteArray := prog_1_method_46_code
def yX7_fewestTouchesToCut : MethodName := ⟨RX7, "fewestTouchesToCut", "(I)I"⟩
abbrev cX7_leastCut : ByteArray := prog_1_method_47_code
def yX7_leastCut : MethodName := ⟨RX7, "leastCut", "(II)I"⟩
abbrev cX7_chancesOf : ByteArray := prog_1_method_48_code
def yX7_chancesOf : MethodName := ⟨RX7, "chancesOf", "(III)I"⟩
abbrev cX7_fitsFrom : ByteArray := prog_1_method_49_code
def yX7_fitsFrom : MethodName := ⟨RX7, "fitsFrom", "(I)Z"⟩
abbrev cX7_hiddenMisreadings : ByteArray := prog_1_method_50_code
def yX7_hiddenMisreadings : MethodName := ⟨RX7, "hiddenMisreadings", "(II)I"⟩
abbrev cX7_hiddenMisreading : ByteArray := prog_1_method_51_code
def yX7_hiddenMisreading : MethodName := ⟨RX7, "hiddenMisreading", "(III)I"⟩
abbrev cX7_booksInEachSet : ByteArray := prog_1_method_52_code
def yX7_booksInEachSet : MethodName := ⟨RX7, "booksInEachSet", "()I"⟩
abbrev cX7_booksInSomeSet : ByteArray := prog_1_method_53_code
def yX7_booksInSomeSet : MethodName := ⟨RX7, "booksInSomeSet", "()I"⟩
abbrev cX7_setsWithout : ByteArray := prog_1_method_54_code
def yX7_setsWithout : MethodName := ⟨RX7, "setsWithout", "(I)I"⟩
abbrev cX7_waysToLack : ByteArray := prog_1_method_55_code
def yX7_waysToLack : MethodName := ⟨RX7, "waysToLack", "(III)I"⟩
abbrev cX7_markOfBook : ByteArray := prog_1_method_56_code
def yX7_markOfBook : MethodName := ⟨RX7, "markOfBook", "(I)I"⟩
abbrev cX7_markOfRates : ByteArray := prog_1_method_57_code
def yX7_markOfRates : MethodName := ⟨RX7, "markOfRates", "(I)I"⟩
abbrev cX7_markOfTrain : ByteArray := prog_1_method_58_code
def yX7_markOfTrain : MethodName := ⟨RX7, "markOfTrain", "(I)I"⟩
abbrev cX7_markOfLedger : ByteArray := prog_1_method_59_code
def yX7_markOfLedger : MethodName := ⟨RX7, "markOfLedger", "(I)I"⟩
abbrev cX7_markOfShop : ByteArray := prog_1_method_60_code
def yX7_markOfShop : MethodName := ⟨RX7, "markOfShop", "(I)I"⟩
abbrev cX7_markOfChoir : ByteArray := prog_1_method_61_code
def yX7_markOfChoir : MethodName := ⟨RX7, "markOfChoir", "(I)I"⟩
abbrev cX7_within : ByteArray := prog_1_method_62_code
def yX7_within : MethodName := ⟨RX7, "within", "(III)Z"⟩
abbrev cX7_divides : ByteArray := prog_1_method_63_code
def yX7_divides : MethodName := ⟨RX7, "divides", "(II)Z"⟩
abbrev cX7_tensOf : ByteArray := prog_1_method_64_code
def yX7_tensOf : MethodName := ⟨RX7, "tensOf", "(I)I"⟩
abbrev cX7_number : ByteArray := prog_1_method_65_code
def yX7_number : MethodName := ⟨RX7, "number", "(III)I"⟩
abbrev cX7_power : ByteArray := prog_1_method_66_code
def yX7_power : MethodName := ⟨RX7, "power", "(II)I"⟩
abbrev cX7_choose : ByteArray := prog_1_method_67_code
def yX7_choose : MethodName := ⟨RX7, "choose", "(II)I"⟩
abbrev cX7_greatestDivisor : ByteArray := prog_1_method_68_code
def yX7_greatestDivisor : MethodName := ⟨RX7, "greatestDivisor", "(II)I"⟩
abbrev cX7_nextOfSameSize : ByteArray := prog_1_method_69_code
def yX7_nextOfSameSize : MethodName := ⟨RX7, "nextOfSameSize", "(I)I"⟩
abbrev cX7_touchBit : ByteArray := prog_1_method_70_code
def yX7_touchBit : MethodName := ⟨RX7, "touchBit", "(II)I"⟩
abbrev cX7_twoOf : ByteArray := prog_1_method_71_code
def yX7_twoOf : MethodName := ⟨RX7, "twoOf", "(I)I"⟩
def RX8 : String := "CarriedOneModel"
def TX8 : u_T := fun k => match k with
  | 0 => ("CarriedOneModel", "trace", "J", false)
  | 1 => ("CarriedOneModel", "text", "[B", true)
  | 2 => ("CarriedOneModel", "typed", "I", false)
  | 3 => ("CarriedOneModel", "books", "[I", true)
  | 4 => ("CarriedOneModel", "numberA", "[I", true)
  | 5 => ("CarriedOneModel", "numberB", "[I", true)
  | 6 => ("CarriedOneModel", "draftTouches", "[I", true)
  | 7 => ("CarriedOneModel", "draftOne", "I", false)
  | 8 => ("CarriedOneModel", "oneTold", "Z", false)
  | 9 => ("CarriedOneModel", "at", "I", false)
  | 10 => ("CarriedOneModel", "start", "I", false)
  | 11 => ("CarriedOneModel", "sort", "I", false)
  | 12 => ("CarriedOneModel", "value", "I", false)
  | 13 => ("CarriedOneModel", "fault", "I", false)
  | 14 => ("CarriedOneModel", "now", "[I", true)
  | 15 => ("CarriedOneModel", "isKept", "[Z", true)
  | 16 => ("CarriedOneModel", "near", "[I", true)
  | 17 => ("CarriedOneModel", "seenDays", "[I", true)
  | 18 => ("CarriedOneModel", "seenBook", "[I", true)
  | 19 => ("CarriedOneModel", "seenIs", "[I", true)
  | 20 => ("CarriedOneModel", "seen", "I", false)
  | 21 => ("CarriedOneModel", "sets", "I", false)
  | 22 => ("CarriedOneModel", "inEach", "I", false)
  | _ => ("CarriedOneModel", "inSome", "I", false)
def tyX8 : Nat → FieldType := fun k => match k with
  | 0 => .long
  | 1 => .array .byte
  | 2 => .int
  | 3 => .array .int
  | 4 => .array .int
  | 5 => .array .int
  | 6 => .array .int
  | 7 => .int
  | 8 => .boolean
  | 9 => .int
  | 10 => .int
  | 11 => .int
  | 12 => .int
  | 13 => .int
  | 14 => .array .int
  | 15 => .array .boolean
  | 16 => .array .int
  | 17 => .array .int
  | 18 => .array .int
  | 19 => .array .int
  | 20 => .int
  | 21 => .int
  | 22 => .int
  | _ => .int
abbrev wsX80 : List Cond := u_ws RX8 TX8 24
theorem nmX8 : ∀ a, a < 24 → ∀ b, b < 24 → a ≠ b → (TX8 a).2.1 ≠ (TX8 b).2.1 := by decide +kernel
theorem tyX8_ok : ∀ k, k < 24 → parseFieldDescriptor (TX8 k).2.2.1 = some (tyX8 k) := by decide +kernel
abbrev cX8_init : ByteArray := prog_10_method_1_code
def yX8_init : MethodName := ⟨RX8, "<init>", "()V"⟩
abbrev cX8_in : ByteArray := prog_10_method_3_code
def yX8_in : MethodName := ⟨RX8, "in", "(III)Z"⟩
abbrev cX8_type : ByteArray := prog_10_method_4_code
def yX8_type : MethodName := ⟨RX8, "type", "(I)I"⟩
abbrev cX8_clear : ByteArray := prog_10_method_5_code
def yX8_clear : MethodName := ⟨RX8, "clear", "()I"⟩
abbrev cX8_here : ByteArray := prog_10_method_6_code
def yX8_here : MethodName := ⟨RX8, "here", "()I"⟩
abbrev cX8_step : ByteArray := prog_10_method_7_code
def yX8_step : MethodName := ⟨RX8, "step", "()V"⟩
abbrev cX8_due : ByteArray := prog_10_method_8_code
def yX8_due : MethodName := ⟨RX8, "due", "(Z)I"⟩
abbrev cX8_number : ByteArray := prog_10_method_9_code
def yX8_number : MethodName := ⟨RX8, "number", "(II)I"⟩
abbrev cX8_mayBe : ByteArray := prog_10_method_10_code
def yX8_mayBe : MethodName := ⟨RX8, "mayBe", "(I)Z"⟩
abbrev cX8_readRow : ByteArray := prog_10_method_11_code
def yX8_readRow : MethodName := ⟨RX8, "readRow", "(I)V"⟩
abbrev cX8_plain : ByteArray := prog_10_method_12_code
def yX8_plain : MethodName := ⟨RX8, "plain", "()V"⟩
abbrev cX8_takeDraft : ByteArray := prog_10_method_13_code
def yX8_takeDraft : MethodName := ⟨RX8, "takeDraft", "()V"⟩
abbrev cX8_books : ByteArray := prog_10_method_14_code
def yX8_books : MethodName := ⟨RX8, "books", "()I"⟩
abbrev cX8_isBook : ByteArray := prog_10_method_15_code
def yX8_isBook : MethodName := ⟨RX8, "isBook", "(I)Z"⟩
abbrev cX8_figure : ByteArray := prog_10_method_16_code
def yX8_figure : MethodName := ⟨RX8, "figure", "(II)I"⟩
abbrev cX8_carries : ByteArray := prog_10_method_17_code
def yX8_carries : MethodName := ⟨RX8, "carries", "(I)I"⟩
abbrev cX8_sum : ByteArray := prog_10_method_18_code
def yX8_sum : MethodName := ⟨RX8, "sum", "(I)I"⟩
abbrev cX8_written : ByteArray := prog_10_method_19_code
def yX8_written : MethodName := ⟨RX8, "written", "(I)I"⟩
abbrev cX8_shown : ByteArray := prog_10_method_20_code
def yX8_shown : MethodName := ⟨RX8, "shown", "(I)I"⟩
abbrev cX8_tens : ByteArray := prog_10_method_21_code
def yX8_tens : MethodName := ⟨RX8, "tens", "(I)I"⟩
abbrev cX8_manyOf : ByteArray := prog_10_method_22_code
def yX8_manyOf : MethodName := ⟨RX8, "manyOf", "(I)I"⟩
abbrev cX8_touches : ByteArray := prog_10_method_23_code
def yX8_touches : MethodName := ⟨RX8, "touches", "()I"⟩
abbrev cX8_book : ByteArray := prog_10_method_24_code
def yX8_book : MethodName := ⟨RX8, "book", "(II)I"⟩
abbrev cX8_know : ByteArray := prog_10_method_25_code
def yX8_know : MethodName := ⟨RX8, "know", "()V"⟩
abbrev cX8_forgets : ByteArray := prog_10_method_26_code
def yX8_forgets : MethodName := ⟨RX8, "forgets", "(II)I"⟩
abbrev cX8_rights : ByteArray := prog_10_method_27_code
def yX8_rights : MethodName := ⟨RX8, "rights", "(I)I"⟩
abbrev cX8_puts : ByteArray := prog_10_method_28_code
def yX8_puts : MethodName := ⟨RX8, "puts", "(I)I"⟩
abbrev cX8_lays : ByteArray := prog_10_method_29_code
def yX8_lays : MethodName := ⟨RX8, "lays", "(III)I"⟩
abbrev cX8_traps : ByteArray := prog_10_method_30_code
def yX8_traps : MethodName := ⟨RX8, "traps", "(II)I"⟩
abbrev cX8_takeNear : ByteArray := prog_10_method_31_code
def yX8_takeNear : MethodName := ⟨RX8, "takeNear", "()V"⟩
abbrev cX8_goesTo : ByteArray := prog_10_method_32_code
def yX8_goesTo : MethodName := ⟨RX8, "goesTo", "(I)I"⟩
abbrev cX8_goesIn : ByteArray := prog_10_method_33_code
def yX8_goesIn : MethodName := ⟨RX8, "goesIn", "(II)I"⟩
abbrev cX8_day : ByteArray := prog_10_method_34_code
def yX8_day : MethodName := ⟨RX8, "day", "()I"⟩
abbrev cX8_undo : ByteArray := prog_10_method_35_code
def yX8_undo : MethodName := ⟨RX8, "undo", "()I"⟩
abbrev cX8_now : ByteArray := prog_10_method_36_code
def yX8_now : MethodName := ⟨RX8, "now", "(I)I"⟩
abbrev cX8_inDays : ByteArray := prog_10_method_37_code
def yX8_inDays : MethodName := ⟨RX8, "inDays", "(I)I"⟩
abbrev cX8_round : ByteArray := prog_10_method_38_code
def yX8_round : MethodName := ⟨RX8, "round", "(I)I"⟩
abbrev cX8_from : ByteArray := prog_10_method_39_code
def yX8_from : MethodName := ⟨RX8, "from", "(II)I"⟩
abbrev cX8_turn : ByteArray := prog_10_method_40_code
def yX8_turn : MethodName := ⟨RX8, "turn", "(II)V"⟩
abbrev cX8_isLess : ByteArray := prog_10_method_41_code
def yX8_isLess : MethodName := ⟨RX8, "isLess", "(I)Z"⟩
abbrev cX8_isLured : ByteArray := prog_10_method_42_code
def yX8_isLured : MethodName := ⟨RX8, "isLured", "(IIII)Z"⟩
abbrev cX8_told : ByteArray := prog_10_method_43_code
def yX8_told : MethodName := ⟨RX8, "told", "(I)I"⟩
abbrev cX8_lure : ByteArray := prog_10_method_44_code
def yX8_lure : MethodName := ⟨RX8, "lure", "(III)I"⟩
abbrev cX8_touching : ByteArray := prog_10_method_45_code
def yX8_touching : MethodName := ⟨RX8, "touching", "()I"⟩
abbrev cX8_layApart : ByteArray := prog_10_method_46_code
def yX8_layApart : MethodName := ⟨RX8, "layApart", "(I)V"⟩
abbrev cX8_everComes : ByteArray := prog_10_method_47_code
def yX8_everComes : MethodName := ⟨RX8, "everComes", "(I)Z"⟩
abbrev cX8_cut : ByteArray := prog_10_method_48_code
def yX8_cut : MethodName := ⟨RX8, "cut", "(I)I"⟩
abbrev cX8_part : ByteArray := prog_10_method_49_code
def yX8_part : MethodName := ⟨RX8, "part", "(III)I"⟩
abbrev cX8_odds : ByteArray := prog_10_method_50_code
def yX8_odds : MethodName := ⟨RX8, "odds", "(IIII)I"⟩
abbrev cX8_saw : ByteArray := prog_10_method_51_code
def yX8_saw : MethodName := ⟨RX8, "saw", "(III)I"⟩
abbrev cX8_forget : ByteArray := prog_10_method_52_code
def yX8_forget : MethodName := ⟨RX8, "forget", "()I"⟩
abbrev cX8_fits : ByteArray := prog_10_method_53_code
def yX8_fits : MethodName := ⟨RX8, "fits", "()I"⟩
abbrev cX8_isHidden : ByteArray := prog_10_method_54_code
def yX8_isHidden : MethodName := ⟨RX8, "isHidden", "(II)I"⟩
abbrev cX8_hidden : ByteArray := prog_10_method_55_code
def yX8_hidden : MethodName := ⟨RX8, "hidden", "(II)I"⟩
abbrev cX8_look : ByteArray := prog_10_method_56_code
def yX8_look : MethodName := ⟨RX8, "look", "(II)V"⟩
abbrev cX8_why : ByteArray := prog_10_method_57_code
def yX8_why : MethodName := ⟨RX8, "why", "(I)I"⟩
abbrev cX8_proofs : ByteArray := prog_10_method_58_code
def yX8_proofs : MethodName := ⟨RX8, "proofs", "(I)I"⟩
abbrev cX8_mark : ByteArray := prog_10_method_59_code
def yX8_mark : MethodName := ⟨RX8, "mark", "(II)I"⟩
abbrev cX8_keep : ByteArray := prog_10_method_60_code
def yX8_keep : MethodName := ⟨RX8, "keep", "(I)I"⟩
abbrev cX8_back : ByteArray := prog_10_method_61_code
def yX8_back : MethodName := ⟨RX8, "back", "(I)I"⟩
abbrev cX8_count : ByteArray := prog_10_method_62_code
def yX8_count : MethodName := ⟨RX8, "count", "(I)I"⟩
abbrev cX8_trace : ByteArray := prog_10_method_63_code
def yX8_trace : MethodName := ⟨RX8, "trace", "()J"⟩
def RJ6 : String := "java/lang/Integer"
def TJ6 : u_T := fun k => match k with
  | _ => ("", "", "", false)
def tyJ6 : Nat → FieldType := fun k => match k with
  | _ => .int
abbrev wsJ60 : List Cond := u_ws RJ6 TJ6 0
theorem nmJ6 : ∀ a, a < 0 → ∀ b, b < 0 → a ≠ b → (TJ6 a).2.1 ≠ (TJ6 b).2.1 := by decide +kernel
theorem tyJ6_ok : ∀ k, k < 0 → parseFieldDescriptor (TJ6 k).2.2.1 = some (tyJ6 k) := by decide +kernel
abbrev cJ6_lowestOneBit_0f7a4 : ByteArray := prog_11_method_46_code
def yJ6_lowestOneBit_0f7a4 : MethodName := ⟨RJ6, "lowestOneBit", "(I)I"⟩
abbrev cJ6_numberOfLeadingZeros_0f7a4 : ByteArray := prog_11_method_47_code
def yJ6_numberOfLeadingZeros_0f7a4 : MethodName := ⟨RJ6, "numberOfLeadingZeros", "(I)I"⟩
abbrev cJ6_numberOfTrailingZeros_0f7a4 : ByteArray := prog_11_method_48_code
def yJ6_numberOfTrailingZeros_0f7a4 : MethodName := ⟨RJ6, "numberOfTrailingZeros", "(I)I"⟩
abbrev cJ6_bitCount_0f7a4 : ByteArray := prog_11_method_49_code
def yJ6_bitCount_0f7a4 : MethodName := ⟨RJ6, "bitCount", "(I)I"⟩
def RJ9 : String := "java/lang/Math"
def TJ9 : u_T := fun k => match k with
  | _ => ("", "", "", false)
def tyJ9 : Nat → FieldType := fun k => match k with
  | _ => .int
abbrev wsJ90 : List Cond := u_ws RJ9 TJ9 0
theorem nmJ9 : ∀ a, a < 0 → ∀ b, b < 0 → a ≠ b → (TJ9 a).2.1 ≠ (TJ9 b).2.1 := by decide +kernel
theorem tyJ9_ok : ∀ k, k < 0 → parseFieldDescriptor (TJ9 k).2.2.1 = some (tyJ9 k) := by decide +kernel
abbrev cJ9_max_7cf53 : ByteArray := prog_12_method_65_code
def yJ9_max_7cf53 : MethodName := ⟨RJ9, "max", "(II)I"⟩
def RJ10 : String := "java/lang/System"
def TJ10 : u_T := fun k => match k with
  | _ => ("", "", "", false)
def tyJ10 : Nat → FieldType := fun k => match k with
  | _ => .int
abbrev wsJ100 : List Cond := u_ws RJ10 TJ10 0
theorem nmJ10 : ∀ a, a < 0 → ∀ b, b < 0 → a ≠ b → (TJ10 a).2.1 ≠ (TJ10 b).2.1 := by decide +kernel
theorem tyJ10_ok : ∀ k, k < 0 → parseFieldDescriptor (TJ10 k).2.2.1 = some (tyJ10 k) := by decide +kernel
def RL : String := "CarriedOneLaw"
abbrev cL_law : ByteArray := code
def yL_law : MethodName := ⟨RL, "law", "([I)Z"⟩
abbrev vwCl : List vw_C := [(RX0, TX0, 5), (RX1, TX1, 2), (RX2, TX2, 3), (RX3, TX3, 5), (RX4, TX4, 4), (RX5, TX5, 6), (RX6, TX6, 4), (RX7, TX7, 10), (RX8, TX8, 24)]
