section
-- ===== PART A: goes FIRST, ahead of the names: the tables' words, and 'selects' of the private methods out of them =====
/-- a private method of a class that the tables say can be made, by its rows of tables_1 -/
def lw_okq (q : MethodName × Nat) : Prop := (q.1.cls ≠ "java/lang/invoke/MethodHandle" ∧ q.1.cls ≠ "java/lang/invoke/VarHandle") ∧ Cond.instantiable q.1.cls q.2 ∈ tables_1 ∧ Cond.privateMethod q.1 ∈ tables_1 ∧ Cond.instanceMethod q.1 ∈ tables_1
theorem lw_p0 : lw_okq (⟨"SignDots", "forgetAnswers", "()V"⟩, 8) := ⟨⟨by decide +kernel, by decide +kernel⟩, List.mem_of_getElem? (i := 14) (by decide +kernel), List.mem_of_getElem? (i := 278) (by decide +kernel), List.mem_of_getElem? (i := 279) (by decide +kernel)⟩
theorem lw_p1 : lw_okq (⟨"SignDots$Notes", "isBefore", "(II)Z"⟩, 8) := ⟨⟨by decide +kernel, by decide +kernel⟩, List.mem_of_getElem? (i := 22) (by decide +kernel), List.mem_of_getElem? (i := 298) (by decide +kernel), List.mem_of_getElem? (i := 299) (by decide +kernel)⟩
theorem lw_p2 : lw_okq (⟨"SignDots$Notes", "positionOf", "(I)I"⟩, 8) := ⟨⟨by decide +kernel, by decide +kernel⟩, List.mem_of_getElem? (i := 22) (by decide +kernel), List.mem_of_getElem? (i := 316) (by decide +kernel), List.mem_of_getElem? (i := 317) (by decide +kernel)⟩
theorem lw_p3 : lw_okq (⟨"SignDots$Signs", "seatFor", "(II)I"⟩, 11) := ⟨⟨by decide +kernel, by decide +kernel⟩, List.mem_of_getElem? (i := 83) (by decide +kernel), List.mem_of_getElem? (i := 375) (by decide +kernel), List.mem_of_getElem? (i := 376) (by decide +kernel)⟩
theorem lw_p4 : lw_okq (⟨"SignDots$Notes", "shareChord", "(II)Z"⟩, 8) := ⟨⟨by decide +kernel, by decide +kernel⟩, List.mem_of_getElem? (i := 22) (by decide +kernel), List.mem_of_getElem? (i := 388) (by decide +kernel), List.mem_of_getElem? (i := 389) (by decide +kernel)⟩
theorem lw_p5 : lw_okq (⟨"SignDots$Signs", "decideChord", "()V"⟩, 11) := ⟨⟨by decide +kernel, by decide +kernel⟩, List.mem_of_getElem? (i := 83) (by decide +kernel), List.mem_of_getElem? (i := 396) (by decide +kernel), List.mem_of_getElem? (i := 397) (by decide +kernel)⟩
theorem lw_p6 : lw_okq (⟨"SignDots$Signs", "stateAhead", "(I)I"⟩, 11) := ⟨⟨by decide +kernel, by decide +kernel⟩, List.mem_of_getElem? (i := 83) (by decide +kernel), List.mem_of_getElem? (i := 400) (by decide +kernel), List.mem_of_getElem? (i := 401) (by decide +kernel)⟩
theorem lw_p7 : lw_okq (⟨"SignDots$Signs", "alterByKey", "(II)I"⟩, 11) := ⟨⟨by decide +kernel, by decide +kernel⟩, List.mem_of_getElem? (i := 83) (by decide +kernel), List.mem_of_getElem? (i := 404) (by decide +kernel), List.mem_of_getElem? (i := 405) (by decide +kernel)⟩
theorem lw_p8 : lw_okq (⟨"SignDots$Signs", "needsSign", "(II)Z"⟩, 11) := ⟨⟨by decide +kernel, by decide +kernel⟩, List.mem_of_getElem? (i := 83) (by decide +kernel), List.mem_of_getElem? (i := 425) (by decide +kernel), List.mem_of_getElem? (i := 426) (by decide +kernel)⟩
theorem lw_p9 : lw_okq (⟨"SignDots$Signs", "hasUnlike", "(I)Z"⟩, 11) := ⟨⟨by decide +kernel, by decide +kernel⟩, List.mem_of_getElem? (i := 83) (by decide +kernel), List.mem_of_getElem? (i := 429) (by decide +kernel), List.mem_of_getElem? (i := 430) (by decide +kernel)⟩
theorem lw_p10 : lw_okq (⟨"SignDots$Signs", "isFirst", "(IZ)Z"⟩, 11) := ⟨⟨by decide +kernel, by decide +kernel⟩, List.mem_of_getElem? (i := 83) (by decide +kernel), List.mem_of_getElem? (i := 433) (by decide +kernel), List.mem_of_getElem? (i := 434) (by decide +kernel)⟩
theorem lw_p11 : lw_okq (⟨"SignDots$Signs", "wantsNatural", "(II)Z"⟩, 11) := ⟨⟨by decide +kernel, by decide +kernel⟩, List.mem_of_getElem? (i := 83) (by decide +kernel), List.mem_of_getElem? (i := 437) (by decide +kernel), List.mem_of_getElem? (i := 438) (by decide +kernel)⟩
theorem lw_p12 : lw_okq (⟨"SignDots$Signs", "isCourtesy", "(I)Z"⟩, 11) := ⟨⟨by decide +kernel, by decide +kernel⟩, List.mem_of_getElem? (i := 83) (by decide +kernel), List.mem_of_getElem? (i := 441) (by decide +kernel), List.mem_of_getElem? (i := 442) (by decide +kernel)⟩
theorem lw_p13 : lw_okq (⟨"SignDots$Signs", "wasOtherInLastBar", "(I)Z"⟩, 11) := ⟨⟨by decide +kernel, by decide +kernel⟩, List.mem_of_getElem? (i := 83) (by decide +kernel), List.mem_of_getElem? (i := 449) (by decide +kernel), List.mem_of_getElem? (i := 450) (by decide +kernel)⟩
theorem lw_p14 : lw_okq (⟨"SignDots$Signs", "isOtherInOctave", "(I)Z"⟩, 11) := ⟨⟨by decide +kernel, by decide +kernel⟩, List.mem_of_getElem? (i := 83) (by decide +kernel), List.mem_of_getElem? (i := 457) (by decide +kernel), List.mem_of_getElem? (i := 458) (by decide +kernel)⟩
theorem lw_p15 : lw_okq (⟨"SignDots$Signs", "wasOtherByTie", "(I)Z"⟩, 11) := ⟨⟨by decide +kernel, by decide +kernel⟩, List.mem_of_getElem? (i := 83) (by decide +kernel), List.mem_of_getElem? (i := 462) (by decide +kernel), List.mem_of_getElem? (i := 463) (by decide +kernel)⟩
def lw_privs_1 : List (MethodName × Nat) := [(⟨"SignDots", "forgetAnswers", "()V"⟩, 8), (⟨"SignDots$Notes", "isBefore", "(II)Z"⟩, 8), (⟨"SignDots$Notes", "positionOf", "(I)I"⟩, 8), (⟨"SignDots$Signs", "seatFor", "(II)I"⟩, 11), (⟨"SignDots$Notes", "shareChord", "(II)Z"⟩, 8), (⟨"SignDots$Signs", "decideChord", "()V"⟩, 11), (⟨"SignDots$Signs", "stateAhead", "(I)I"⟩, 11), (⟨"SignDots$Signs", "alterByKey", "(II)I"⟩, 11), (⟨"SignDots$Signs", "needsSign", "(II)Z"⟩, 11), (⟨"SignDots$Signs", "hasUnlike", "(I)Z"⟩, 11), (⟨"SignDots$Signs", "isFirst", "(IZ)Z"⟩, 11), (⟨"SignDots$Signs", "wantsNatural", "(II)Z"⟩, 11), (⟨"SignDots$Signs", "isCourtesy", "(I)Z"⟩, 11), (⟨"SignDots$Signs", "wasOtherInLastBar", "(I)Z"⟩, 11), (⟨"SignDots$Signs", "isOtherInOctave", "(I)Z"⟩, 11), (⟨"SignDots$Signs", "wasOtherByTie", "(I)Z"⟩, 11)]
theorem lw_r1 : ∀ q ∈ lw_privs_1, lw_okq q := List.forall_mem_cons.mpr ⟨lw_p0, List.forall_mem_cons.mpr ⟨lw_p1, List.forall_mem_cons.mpr ⟨lw_p2, List.forall_mem_cons.mpr ⟨lw_p3, List.forall_mem_cons.mpr ⟨lw_p4, List.forall_mem_cons.mpr ⟨lw_p5, List.forall_mem_cons.mpr ⟨lw_p6, List.forall_mem_cons.mpr ⟨lw_p7, List.forall_mem_cons.mpr ⟨lw_p8, List.forall_mem_cons.mpr ⟨lw_p9, List.forall_mem_cons.mpr ⟨lw_p10, List.forall_mem_cons.mpr ⟨lw_p11, List.forall_mem_cons.mpr ⟨lw_p12, List.forall_mem_cons.mpr ⟨lw_p13, List.forall_mem_cons.mpr ⟨lw_p14, List.forall_mem_cons.mpr ⟨lw_p15, fun _ h => absurd h List.not_mem_nil⟩⟩⟩⟩⟩⟩⟩⟩⟩⟩⟩⟩⟩⟩⟩⟩
theorem lw_p16 : lw_okq (⟨"SignDots$Signs", "wasOtherByKey", "(I)Z"⟩, 11) := ⟨⟨by decide +kernel, by decide +kernel⟩, List.mem_of_getElem? (i := 83) (by decide +kernel), List.mem_of_getElem? (i := 466) (by decide +kernel), List.mem_of_getElem? (i := 467) (by decide +kernel)⟩
theorem lw_p17 : lw_okq (⟨"SignDots$Signs", "changeStates", "()V"⟩, 11) := ⟨⟨by decide +kernel, by decide +kernel⟩, List.mem_of_getElem? (i := 83) (by decide +kernel), List.mem_of_getElem? (i := 474) (by decide +kernel), List.mem_of_getElem? (i := 475) (by decide +kernel)⟩
theorem lw_p18 : lw_okq (⟨"SignDots$Columns", "collectFromTop", "(II)V"⟩, 10) := ⟨⟨by decide +kernel, by decide +kernel⟩, List.mem_of_getElem? (i := 149) (by decide +kernel), List.mem_of_getElem? (i := 520) (by decide +kernel), List.mem_of_getElem? (i := 521) (by decide +kernel)⟩
theorem lw_p19 : lw_okq (⟨"SignDots$Columns", "bringToZigzag", "()V"⟩, 10) := ⟨⟨by decide +kernel, by decide +kernel⟩, List.mem_of_getElem? (i := 149) (by decide +kernel), List.mem_of_getElem? (i := 524) (by decide +kernel), List.mem_of_getElem? (i := 525) (by decide +kernel)⟩
theorem lw_p20 : lw_okq (⟨"SignDots$Columns", "search", "(III)V"⟩, 10) := ⟨⟨by decide +kernel, by decide +kernel⟩, List.mem_of_getElem? (i := 149) (by decide +kernel), List.mem_of_getElem? (i := 530) (by decide +kernel), List.mem_of_getElem? (i := 531) (by decide +kernel)⟩
theorem lw_p21 : lw_okq (⟨"SignDots$Columns", "canStand", "(II[I)Z"⟩, 10) := ⟨⟨by decide +kernel, by decide +kernel⟩, List.mem_of_getElem? (i := 149) (by decide +kernel), List.mem_of_getElem? (i := 537) (by decide +kernel), List.mem_of_getElem? (i := 538) (by decide +kernel)⟩
theorem lw_p22 : lw_okq (⟨"SignDots$Columns", "canShare", "(II)Z"⟩, 10) := ⟨⟨by decide +kernel, by decide +kernel⟩, List.mem_of_getElem? (i := 149) (by decide +kernel), List.mem_of_getElem? (i := 541) (by decide +kernel), List.mem_of_getElem? (i := 542) (by decide +kernel)⟩
theorem lw_p23 : lw_okq (⟨"SignDots$Columns", "down", "(I)I"⟩, 10) := ⟨⟨by decide +kernel, by decide +kernel⟩, List.mem_of_getElem? (i := 149) (by decide +kernel), List.mem_of_getElem? (i := 545) (by decide +kernel), List.mem_of_getElem? (i := 546) (by decide +kernel)⟩
theorem lw_p24 : lw_okq (⟨"SignDots$Columns", "levelReach", "(II)I"⟩, 10) := ⟨⟨by decide +kernel, by decide +kernel⟩, List.mem_of_getElem? (i := 149) (by decide +kernel), List.mem_of_getElem? (i := 549) (by decide +kernel), List.mem_of_getElem? (i := 550) (by decide +kernel)⟩
theorem lw_p25 : lw_okq (⟨"SignDots$Columns", "up", "(I)I"⟩, 10) := ⟨⟨by decide +kernel, by decide +kernel⟩, List.mem_of_getElem? (i := 149) (by decide +kernel), List.mem_of_getElem? (i := 553) (by decide +kernel), List.mem_of_getElem? (i := 554) (by decide +kernel)⟩
theorem lw_p26 : lw_okq (⟨"SignDots$Columns", "takeInTurn", "()V"⟩, 10) := ⟨⟨by decide +kernel, by decide +kernel⟩, List.mem_of_getElem? (i := 149) (by decide +kernel), List.mem_of_getElem? (i := 561) (by decide +kernel), List.mem_of_getElem? (i := 562) (by decide +kernel)⟩
theorem lw_p27 : lw_okq (⟨"SignDots", "placeOf", "(I)I"⟩, 8) := ⟨⟨by decide +kernel, by decide +kernel⟩, List.mem_of_getElem? (i := 14) (by decide +kernel), List.mem_of_getElem? (i := 569) (by decide +kernel), List.mem_of_getElem? (i := 570) (by decide +kernel)⟩
theorem lw_p28 : lw_okq (⟨"SignDots$DotSpaces", "collectFromTop", "(II)V"⟩, 9) := ⟨⟨by decide +kernel, by decide +kernel⟩, List.mem_of_getElem? (i := 186) (by decide +kernel), List.mem_of_getElem? (i := 593) (by decide +kernel), List.mem_of_getElem? (i := 594) (by decide +kernel)⟩
theorem lw_p29 : lw_okq (⟨"SignDots$DotSpaces", "fillCosts", "()V"⟩, 9) := ⟨⟨by decide +kernel, by decide +kernel⟩, List.mem_of_getElem? (i := 186) (by decide +kernel), List.mem_of_getElem? (i := 602) (by decide +kernel), List.mem_of_getElem? (i := 603) (by decide +kernel)⟩
theorem lw_p30 : lw_okq (⟨"SignDots$DotSpaces", "spaceAt", "(I)I"⟩, 9) := ⟨⟨by decide +kernel, by decide +kernel⟩, List.mem_of_getElem? (i := 186) (by decide +kernel), List.mem_of_getElem? (i := 607) (by decide +kernel), List.mem_of_getElem? (i := 608) (by decide +kernel)⟩
theorem lw_p31 : lw_okq (⟨"SignDots$DotSpaces", "chooseSpaces", "()V"⟩, 9) := ⟨⟨by decide +kernel, by decide +kernel⟩, List.mem_of_getElem? (i := 186) (by decide +kernel), List.mem_of_getElem? (i := 614) (by decide +kernel), List.mem_of_getElem? (i := 615) (by decide +kernel)⟩
def lw_privs_2 : List (MethodName × Nat) := [(⟨"SignDots$Signs", "wasOtherByKey", "(I)Z"⟩, 11), (⟨"SignDots$Signs", "changeStates", "()V"⟩, 11), (⟨"SignDots$Columns", "collectFromTop", "(II)V"⟩, 10), (⟨"SignDots$Columns", "bringToZigzag", "()V"⟩, 10), (⟨"SignDots$Columns", "search", "(III)V"⟩, 10), (⟨"SignDots$Columns", "canStand", "(II[I)Z"⟩, 10), (⟨"SignDots$Columns", "canShare", "(II)Z"⟩, 10), (⟨"SignDots$Columns", "down", "(I)I"⟩, 10), (⟨"SignDots$Columns", "levelReach", "(II)I"⟩, 10), (⟨"SignDots$Columns", "up", "(I)I"⟩, 10), (⟨"SignDots$Columns", "takeInTurn", "()V"⟩, 10), (⟨"SignDots", "placeOf", "(I)I"⟩, 8), (⟨"SignDots$DotSpaces", "collectFromTop", "(II)V"⟩, 9), (⟨"SignDots$DotSpaces", "fillCosts", "()V"⟩, 9), (⟨"SignDots$DotSpaces", "spaceAt", "(I)I"⟩, 9), (⟨"SignDots$DotSpaces", "chooseSpaces", "()V"⟩, 9)]
theorem lw_r2 : ∀ q ∈ lw_privs_2, lw_okq q := List.forall_mem_cons.mpr ⟨lw_p16, List.forall_mem_cons.mpr ⟨lw_p17, List.forall_mem_cons.mpr ⟨lw_p18, List.forall_mem_cons.mpr ⟨lw_p19, List.forall_mem_cons.mpr ⟨lw_p20, List.forall_mem_cons.mpr ⟨lw_p21, List.forall_mem_cons.mpr ⟨lw_p22, List.forall_mem_cons.mpr ⟨lw_p23, List.forall_mem_cons.mpr ⟨lw_p24, List.forall_mem_cons.mpr ⟨lw_p25, List.forall_mem_cons.mpr ⟨lw_p26, List.forall_mem_cons.mpr ⟨lw_p27, List.forall_mem_cons.mpr ⟨lw_p28, List.forall_mem_cons.mpr ⟨lw_p29, List.forall_mem_cons.mpr ⟨lw_p30, List.forall_mem_cons.mpr ⟨lw_p31, fun _ h => absurd h List.not_mem_nil⟩⟩⟩⟩⟩⟩⟩⟩⟩⟩⟩⟩⟩⟩⟩⟩
theorem lw_p32 : lw_okq (⟨"SignDots", "layOutKey", "(I)V"⟩, 8) := ⟨⟨by decide +kernel, by decide +kernel⟩, List.mem_of_getElem? (i := 14) (by decide +kernel), List.mem_of_getElem? (i := 626) (by decide +kernel), List.mem_of_getElem? (i := 627) (by decide +kernel)⟩
theorem lw_p33 : lw_okq (⟨"SignDots$KeyRow", "addNaturals", "(III)V"⟩, 4) := ⟨⟨by decide +kernel, by decide +kernel⟩, List.mem_of_getElem? (i := 220) (by decide +kernel), List.mem_of_getElem? (i := 634) (by decide +kernel), List.mem_of_getElem? (i := 635) (by decide +kernel)⟩
theorem lw_p34 : lw_okq (⟨"SignDots$KeyRow", "append", "(III)V"⟩, 4) := ⟨⟨by decide +kernel, by decide +kernel⟩, List.mem_of_getElem? (i := 220) (by decide +kernel), List.mem_of_getElem? (i := 655) (by decide +kernel), List.mem_of_getElem? (i := 656) (by decide +kernel)⟩
theorem lw_p35 : lw_okq (⟨"SignDotsModel", "mate", "(I)I"⟩, 31) := ⟨⟨by decide +kernel, by decide +kernel⟩, List.mem_of_getElem? (i := 663) (by decide +kernel), List.mem_of_getElem? (i := 774) (by decide +kernel), List.mem_of_getElem? (i := 775) (by decide +kernel)⟩
theorem lw_p36 : lw_okq (⟨"SignDotsModel", "whenOf", "(I)I"⟩, 31) := ⟨⟨by decide +kernel, by decide +kernel⟩, List.mem_of_getElem? (i := 663) (by decide +kernel), List.mem_of_getElem? (i := 778) (by decide +kernel), List.mem_of_getElem? (i := 779) (by decide +kernel)⟩
theorem lw_p37 : lw_okq (⟨"SignDotsModel", "keyOf", "(I)I"⟩, 31) := ⟨⟨by decide +kernel, by decide +kernel⟩, List.mem_of_getElem? (i := 663) (by decide +kernel), List.mem_of_getElem? (i := 789) (by decide +kernel), List.mem_of_getElem? (i := 790) (by decide +kernel)⟩
theorem lw_p38 : lw_okq (⟨"SignDotsModel", "clefOf", "(I)I"⟩, 31) := ⟨⟨by decide +kernel, by decide +kernel⟩, List.mem_of_getElem? (i := 663) (by decide +kernel), List.mem_of_getElem? (i := 797) (by decide +kernel), List.mem_of_getElem? (i := 798) (by decide +kernel)⟩
theorem lw_p39 : lw_okq (⟨"SignDotsModel", "work", "()V"⟩, 31) := ⟨⟨by decide +kernel, by decide +kernel⟩, List.mem_of_getElem? (i := 663) (by decide +kernel), List.mem_of_getElem? (i := 813) (by decide +kernel), List.mem_of_getElem? (i := 814) (by decide +kernel)⟩
theorem lw_p40 : lw_okq (⟨"SignDotsModel", "sort", "()V"⟩, 31) := ⟨⟨by decide +kernel, by decide +kernel⟩, List.mem_of_getElem? (i := 663) (by decide +kernel), List.mem_of_getElem? (i := 817) (by decide +kernel), List.mem_of_getElem? (i := 818) (by decide +kernel)⟩
theorem lw_p41 : lw_okq (⟨"SignDotsModel", "chord", "(II)V"⟩, 31) := ⟨⟨by decide +kernel, by decide +kernel⟩, List.mem_of_getElem? (i := 663) (by decide +kernel), List.mem_of_getElem? (i := 827) (by decide +kernel), List.mem_of_getElem? (i := 828) (by decide +kernel)⟩
theorem lw_p42 : lw_okq (⟨"SignDotsModel", "need", "(III)V"⟩, 31) := ⟨⟨by decide +kernel, by decide +kernel⟩, List.mem_of_getElem? (i := 663) (by decide +kernel), List.mem_of_getElem? (i := 831) (by decide +kernel), List.mem_of_getElem? (i := 832) (by decide +kernel)⟩
theorem lw_p43 : lw_okq (⟨"SignDotsModel", "seat", "(I)I"⟩, 31) := ⟨⟨by decide +kernel, by decide +kernel⟩, List.mem_of_getElem? (i := 663) (by decide +kernel), List.mem_of_getElem? (i := 835) (by decide +kernel), List.mem_of_getElem? (i := 836) (by decide +kernel)⟩
theorem lw_p44 : lw_okq (⟨"SignDotsModel", "court", "(II)V"⟩, 31) := ⟨⟨by decide +kernel, by decide +kernel⟩, List.mem_of_getElem? (i := 663) (by decide +kernel), List.mem_of_getElem? (i := 839) (by decide +kernel), List.mem_of_getElem? (i := 840) (by decide +kernel)⟩
theorem lw_p45 : lw_okq (⟨"SignDotsModel", "otherSeat", "(I)Z"⟩, 31) := ⟨⟨by decide +kernel, by decide +kernel⟩, List.mem_of_getElem? (i := 663) (by decide +kernel), List.mem_of_getElem? (i := 843) (by decide +kernel), List.mem_of_getElem? (i := 844) (by decide +kernel)⟩
theorem lw_p46 : lw_okq (⟨"SignDotsModel", "tiedAhead", "(II)Z"⟩, 31) := ⟨⟨by decide +kernel, by decide +kernel⟩, List.mem_of_getElem? (i := 663) (by decide +kernel), List.mem_of_getElem? (i := 847) (by decide +kernel), List.mem_of_getElem? (i := 848) (by decide +kernel)⟩
theorem lw_p47 : lw_okq (⟨"SignDotsModel", "width", "(I)I"⟩, 31) := ⟨⟨by decide +kernel, by decide +kernel⟩, List.mem_of_getElem? (i := 663) (by decide +kernel), List.mem_of_getElem? (i := 859) (by decide +kernel), List.mem_of_getElem? (i := 860) (by decide +kernel)⟩
def lw_privs_3 : List (MethodName × Nat) := [(⟨"SignDots", "layOutKey", "(I)V"⟩, 8), (⟨"SignDots$KeyRow", "addNaturals", "(III)V"⟩, 4), (⟨"SignDots$KeyRow", "append", "(III)V"⟩, 4), (⟨"SignDotsModel", "mate", "(I)I"⟩, 31), (⟨"SignDotsModel", "whenOf", "(I)I"⟩, 31), (⟨"SignDotsModel", "keyOf", "(I)I"⟩, 31), (⟨"SignDotsModel", "clefOf", "(I)I"⟩, 31), (⟨"SignDotsModel", "work", "()V"⟩, 31), (⟨"SignDotsModel", "sort", "()V"⟩, 31), (⟨"SignDotsModel", "chord", "(II)V"⟩, 31), (⟨"SignDotsModel", "need", "(III)V"⟩, 31), (⟨"SignDotsModel", "seat", "(I)I"⟩, 31), (⟨"SignDotsModel", "court", "(II)V"⟩, 31), (⟨"SignDotsModel", "otherSeat", "(I)Z"⟩, 31), (⟨"SignDotsModel", "tiedAhead", "(II)Z"⟩, 31), (⟨"SignDotsModel", "width", "(I)I"⟩, 31)]
theorem lw_r3 : ∀ q ∈ lw_privs_3, lw_okq q := List.forall_mem_cons.mpr ⟨lw_p32, List.forall_mem_cons.mpr ⟨lw_p33, List.forall_mem_cons.mpr ⟨lw_p34, List.forall_mem_cons.mpr ⟨lw_p35, List.forall_mem_cons.mpr ⟨lw_p36, List.forall_mem_cons.mpr ⟨lw_p37, List.forall_mem_cons.mpr ⟨lw_p38, List.forall_mem_cons.mpr ⟨lw_p39, List.forall_mem_cons.mpr ⟨lw_p40, List.forall_mem_cons.mpr ⟨lw_p41, List.forall_mem_cons.mpr ⟨lw_p42, List.forall_mem_cons.mpr ⟨lw_p43, List.forall_mem_cons.mpr ⟨lw_p44, List.forall_mem_cons.mpr ⟨lw_p45, List.forall_mem_cons.mpr ⟨lw_p46, List.forall_mem_cons.mpr ⟨lw_p47, fun _ h => absurd h List.not_mem_nil⟩⟩⟩⟩⟩⟩⟩⟩⟩⟩⟩⟩⟩⟩⟩⟩
theorem lw_p48 : lw_okq (⟨"SignDotsModel", "columnOf", "(I)I"⟩, 31) := ⟨⟨by decide +kernel, by decide +kernel⟩, List.mem_of_getElem? (i := 663) (by decide +kernel), List.mem_of_getElem? (i := 863) (by decide +kernel), List.mem_of_getElem? (i := 864) (by decide +kernel)⟩
theorem lw_p49 : lw_okq (⟨"SignDotsModel", "place", "(II)V"⟩, 31) := ⟨⟨by decide +kernel, by decide +kernel⟩, List.mem_of_getElem? (i := 663) (by decide +kernel), List.mem_of_getElem? (i := 867) (by decide +kernel), List.mem_of_getElem? (i := 868) (by decide +kernel)⟩
theorem lw_p50 : lw_okq (⟨"SignDotsModel", "listSigns", "(II)V"⟩, 31) := ⟨⟨by decide +kernel, by decide +kernel⟩, List.mem_of_getElem? (i := 663) (by decide +kernel), List.mem_of_getElem? (i := 871) (by decide +kernel), List.mem_of_getElem? (i := 872) (by decide +kernel)⟩
theorem lw_p51 : lw_okq (⟨"SignDotsModel", "placeOf", "(I)I"⟩, 31) := ⟨⟨by decide +kernel, by decide +kernel⟩, List.mem_of_getElem? (i := 663) (by decide +kernel), List.mem_of_getElem? (i := 875) (by decide +kernel), List.mem_of_getElem? (i := 876) (by decide +kernel)⟩
theorem lw_p52 : lw_okq (⟨"SignDotsModel", "fits", "(I)Z"⟩, 31) := ⟨⟨by decide +kernel, by decide +kernel⟩, List.mem_of_getElem? (i := 663) (by decide +kernel), List.mem_of_getElem? (i := 879) (by decide +kernel), List.mem_of_getElem? (i := 880) (by decide +kernel)⟩
theorem lw_p53 : lw_okq (⟨"SignDotsModel", "canShare", "(II)Z"⟩, 31) := ⟨⟨by decide +kernel, by decide +kernel⟩, List.mem_of_getElem? (i := 663) (by decide +kernel), List.mem_of_getElem? (i := 883) (by decide +kernel), List.mem_of_getElem? (i := 884) (by decide +kernel)⟩
theorem lw_p54 : lw_okq (⟨"SignDotsModel", "reach", "(IZ)I"⟩, 31) := ⟨⟨by decide +kernel, by decide +kernel⟩, List.mem_of_getElem? (i := 663) (by decide +kernel), List.mem_of_getElem? (i := 887) (by decide +kernel), List.mem_of_getElem? (i := 888) (by decide +kernel)⟩
theorem lw_p55 : lw_okq (⟨"SignDotsModel", "widths", "([II)I"⟩, 31) := ⟨⟨by decide +kernel, by decide +kernel⟩, List.mem_of_getElem? (i := 663) (by decide +kernel), List.mem_of_getElem? (i := 891) (by decide +kernel), List.mem_of_getElem? (i := 892) (by decide +kernel)⟩
theorem lw_p56 : lw_okq (⟨"SignDotsModel", "isFull", "(I)Z"⟩, 31) := ⟨⟨by decide +kernel, by decide +kernel⟩, List.mem_of_getElem? (i := 663) (by decide +kernel), List.mem_of_getElem? (i := 895) (by decide +kernel), List.mem_of_getElem? (i := 896) (by decide +kernel)⟩
theorem lw_p57 : lw_okq (⟨"SignDotsModel", "keyBefore", "(I)I"⟩, 31) := ⟨⟨by decide +kernel, by decide +kernel⟩, List.mem_of_getElem? (i := 663) (by decide +kernel), List.mem_of_getElem? (i := 912) (by decide +kernel), List.mem_of_getElem? (i := 913) (by decide +kernel)⟩
theorem lw_p58 : lw_okq (⟨"SignDotsModel", "naturals", "(II)I"⟩, 31) := ⟨⟨by decide +kernel, by decide +kernel⟩, List.mem_of_getElem? (i := 663) (by decide +kernel), List.mem_of_getElem? (i := 916) (by decide +kernel), List.mem_of_getElem? (i := 917) (by decide +kernel)⟩
def lw_privs_4 : List (MethodName × Nat) := [(⟨"SignDotsModel", "columnOf", "(I)I"⟩, 31), (⟨"SignDotsModel", "place", "(II)V"⟩, 31), (⟨"SignDotsModel", "listSigns", "(II)V"⟩, 31), (⟨"SignDotsModel", "placeOf", "(I)I"⟩, 31), (⟨"SignDotsModel", "fits", "(I)Z"⟩, 31), (⟨"SignDotsModel", "canShare", "(II)Z"⟩, 31), (⟨"SignDotsModel", "reach", "(IZ)I"⟩, 31), (⟨"SignDotsModel", "widths", "([II)I"⟩, 31), (⟨"SignDotsModel", "isFull", "(I)Z"⟩, 31), (⟨"SignDotsModel", "keyBefore", "(I)I"⟩, 31), (⟨"SignDotsModel", "naturals", "(II)I"⟩, 31)]
theorem lw_r4 : ∀ q ∈ lw_privs_4, lw_okq q := List.forall_mem_cons.mpr ⟨lw_p48, List.forall_mem_cons.mpr ⟨lw_p49, List.forall_mem_cons.mpr ⟨lw_p50, List.forall_mem_cons.mpr ⟨lw_p51, List.forall_mem_cons.mpr ⟨lw_p52, List.forall_mem_cons.mpr ⟨lw_p53, List.forall_mem_cons.mpr ⟨lw_p54, List.forall_mem_cons.mpr ⟨lw_p55, List.forall_mem_cons.mpr ⟨lw_p56, List.forall_mem_cons.mpr ⟨lw_p57, List.forall_mem_cons.mpr ⟨lw_p58, fun _ h => absurd h List.not_mem_nil⟩⟩⟩⟩⟩⟩⟩⟩⟩⟩⟩
def lw_privs : List (MethodName × Nat) := lw_privs_1 ++ (lw_privs_2 ++ (lw_privs_3 ++ (lw_privs_4)))
def lw_tbl : List Cond := k2_sels lw_privs ++ tables_1
theorem lw_privs_ok : ∀ q ∈ lw_privs, lw_okq q := by
  show ∀ q ∈ lw_privs_1 ++ (lw_privs_2 ++ (lw_privs_3 ++ (lw_privs_4))), lw_okq q
  exact List.forall_mem_append.mpr ⟨lw_r1, List.forall_mem_append.mpr ⟨lw_r2, List.forall_mem_append.mpr ⟨lw_r3, lw_r4⟩⟩⟩
end
section
/-! names, classes, layout, statics, methods: printed by wip/whole/gen_names.py -/
def gw_tbl : List Cond := lw_tbl.filter goodWord
theorem gw_in {w : Cond} (h : w ∈ lw_tbl) (g : goodWord w = true) : w ∈ gw_tbl := List.mem_filter.mpr ⟨h, g⟩
theorem gw_at {w : Cond} (i : Nat) (h : lw_tbl[i]? = some w) (g : goodWord w = true) : w ∈ gw_tbl := gw_in (List.mem_of_getElem? h) g
def R_BB : String := "SignDots$ByBar"
def T_BB : u_T := fun k => match k with
  | 0 => ("SignDots$ByBar", "value", "[I", true)
  | _ => ("SignDots$ByBar", "told", "[Z", true)
def t_BB : Nat → FieldType := fun k => match k with
  | 0 => .array .int
  | _ => .array .boolean
theorem nm_BB : ∀ a, a < 2 → ∀ b, b < 2 → a ≠ b → (T_BB a).2.1 ≠ (T_BB b).2.1 := by decide +kernel
theorem tk_BB : ∀ k, k < 2 → parseFieldDescriptor (T_BB k).2.2.1 = some (t_BB k) := by decide +kernel
theorem wi_BB : ∀ w ∈ u_ws R_BB T_BB 2, w ∈ gw_tbl := by
  have h : u_ws R_BB T_BB 2 = [135, 137].filterMap (fun i => lw_tbl[i]?) := by decide +kernel
  have g : (u_ws R_BB T_BB 2).all goodWord = true := by decide +kernel
  intro w hw; have hg := List.all_eq_true.mp g w hw; rw [h] at hw; obtain ⟨i, -, hi⟩ := List.mem_filterMap.mp hw; exact gw_in (List.mem_of_getElem? hi) hg
def R_CO : String := "SignDots$Columns"
def T_CO : u_T := fun k => match k with
  | 0 => ("SignDots$Columns", "notes", "LSignDots$Notes;", true)
  | 1 => ("SignDots$Columns", "signs", "LSignDots$Signs;", true)
  | 2 => ("SignDots$Columns", "fromTop", "[I", true)
  | 3 => ("SignDots$Columns", "zigzag", "[I", true)
  | 4 => ("SignDots$Columns", "column", "[I", true)
  | 5 => ("SignDots$Columns", "trial", "[I", true)
  | 6 => ("SignDots$Columns", "columnWidth", "[I", true)
  | 7 => ("SignDots$Columns", "size", "I", false)
  | 8 => ("SignDots$Columns", "leastSum", "I", false)
  | _ => ("SignDots$Columns", "laidOut", "I", false)
def t_CO : Nat → FieldType := fun k => match k with
  | 0 => .object "SignDots$Notes"
  | 1 => .object "SignDots$Signs"
  | 2 => .array .int
  | 3 => .array .int
  | 4 => .array .int
  | 5 => .array .int
  | 6 => .array .int
  | 7 => .int
  | 8 => .int
  | _ => .int
theorem nm_CO : ∀ a, a < 10 → ∀ b, b < 10 → a ≠ b → (T_CO a).2.1 ≠ (T_CO b).2.1 := by decide +kernel
theorem tk_CO : ∀ k, k < 10 → parseFieldDescriptor (T_CO k).2.2.1 = some (t_CO k) := by decide +kernel
theorem wi_CO : ∀ w ∈ u_ws R_CO T_CO 10, w ∈ gw_tbl := by
  have h : u_ws R_CO T_CO 10 = [223, 225, 227, 229, 231, 233, 235, 237, 239, 241].filterMap (fun i => lw_tbl[i]?) := by decide +kernel
  have g : (u_ws R_CO T_CO 10).all goodWord = true := by decide +kernel
  intro w hw; have hg := List.all_eq_true.mp g w hw; rw [h] at hw; obtain ⟨i, -, hi⟩ := List.mem_filterMap.mp hw; exact gw_in (List.mem_of_getElem? hi) hg
def R_DS : String := "SignDots$DotSpaces"
def T_DS : u_T := fun k => match k with
  | 0 => ("SignDots$DotSpaces", "notes", "LSignDots$Notes;", true)
  | 1 => ("SignDots$DotSpaces", "dottedAt", "[I", true)
  | 2 => ("SignDots$DotSpaces", "dotted", "[I", true)
  | 3 => ("SignDots$DotSpaces", "space", "[I", true)
  | 4 => ("SignDots$DotSpaces", "cost", "[I", true)
  | 5 => ("SignDots$DotSpaces", "size", "I", false)
  | 6 => ("SignDots$DotSpaces", "lowest", "I", false)
  | 7 => ("SignDots$DotSpaces", "spaces", "I", false)
  | _ => ("SignDots$DotSpaces", "laidOut", "I", false)
def t_DS : Nat → FieldType := fun k => match k with
  | 0 => .object "SignDots$Notes"
  | 1 => .array .int
  | 2 => .array .int
  | 3 => .array .int
  | 4 => .array .int
  | 5 => .int
  | 6 => .int
  | 7 => .int
  | _ => .int
theorem nm_DS : ∀ a, a < 9 → ∀ b, b < 9 → a ≠ b → (T_DS a).2.1 ≠ (T_DS b).2.1 := by decide +kernel
theorem tk_DS : ∀ k, k < 9 → parseFieldDescriptor (T_DS k).2.2.1 = some (t_DS k) := by decide +kernel
theorem wi_DS : ∀ w ∈ u_ws R_DS T_DS 9, w ∈ gw_tbl := by
  have h : u_ws R_DS T_DS 9 = [259, 261, 263, 265, 267, 269, 271, 273, 275].filterMap (fun i => lw_tbl[i]?) := by decide +kernel
  have g : (u_ws R_DS T_DS 9).all goodWord = true := by decide +kernel
  intro w hw; have hg := List.all_eq_true.mp g w hw; rw [h] at hw; obtain ⟨i, -, hi⟩ := List.mem_filterMap.mp hw; exact gw_in (List.mem_of_getElem? hi) hg
def R_KR : String := "SignDots$KeyRow"
def T_KR : u_T := fun k => match k with
  | 0 => ("SignDots$KeyRow", "letter", "[I", true)
  | 1 => ("SignDots$KeyRow", "alter", "[I", true)
  | 2 => ("SignDots$KeyRow", "place", "[I", true)
  | _ => ("SignDots$KeyRow", "size", "I", false)
def t_KR : Nat → FieldType := fun k => match k with
  | 0 => .array .int
  | 1 => .array .int
  | 2 => .array .int
  | _ => .int
theorem nm_KR : ∀ a, a < 4 → ∀ b, b < 4 → a ≠ b → (T_KR a).2.1 ≠ (T_KR b).2.1 := by decide +kernel
theorem tk_KR : ∀ k, k < 4 → parseFieldDescriptor (T_KR k).2.2.1 = some (t_KR k) := by decide +kernel
theorem wi_KR : ∀ w ∈ u_ws R_KR T_KR 4, w ∈ gw_tbl := by
  have h : u_ws R_KR T_KR 4 = [292, 294, 296, 298].filterMap (fun i => lw_tbl[i]?) := by decide +kernel
  have g : (u_ws R_KR T_KR 4).all goodWord = true := by decide +kernel
  intro w hw; have hg := List.all_eq_true.mp g w hw; rw [h] at hw; obtain ⟨i, -, hi⟩ := List.mem_filterMap.mp hw; exact gw_in (List.mem_of_getElem? hi) hg
def R_NO : String := "SignDots$Notes"
def T_NO : u_T := fun k => match k with
  | 0 => ("SignDots$Notes", "step", "[I", true)
  | 1 => ("SignDots$Notes", "alter", "[I", true)
  | 2 => ("SignDots$Notes", "bar", "[I", true)
  | 3 => ("SignDots$Notes", "time", "[I", true)
  | 4 => ("SignDots$Notes", "voice", "[I", true)
  | 5 => ("SignDots$Notes", "order", "[I", true)
  | 6 => ("SignDots$Notes", "marks", "[I", true)
  | _ => ("SignDots$Notes", "size", "I", false)
def t_NO : Nat → FieldType := fun k => match k with
  | 0 => .array .int
  | 1 => .array .int
  | 2 => .array .int
  | 3 => .array .int
  | 4 => .array .int
  | 5 => .array .int
  | 6 => .array .int
  | _ => .int
theorem nm_NO : ∀ a, a < 8 → ∀ b, b < 8 → a ≠ b → (T_NO a).2.1 ≠ (T_NO b).2.1 := by decide +kernel
theorem tk_NO : ∀ k, k < 8 → parseFieldDescriptor (T_NO k).2.2.1 = some (t_NO k) := by decide +kernel
theorem wi_NO : ∀ w ∈ u_ws R_NO T_NO 8, w ∈ gw_tbl := by
  have h : u_ws R_NO T_NO 8 = [109, 111, 113, 115, 117, 119, 121, 123].filterMap (fun i => lw_tbl[i]?) := by decide +kernel
  have g : (u_ws R_NO T_NO 8).all goodWord = true := by decide +kernel
  intro w hw; have hg := List.all_eq_true.mp g w hw; rw [h] at hw; obtain ⟨i, -, hi⟩ := List.mem_filterMap.mp hw; exact gw_in (List.mem_of_getElem? hi) hg
def R_SE : String := "SignDots$Seats"
def T_SE : u_T := fun k => match k with
  | 0 => ("SignDots$Seats", "enteredBar", "[I", true)
  | 1 => ("SignDots$Seats", "state", "[I", true)
  | 2 => ("SignDots$Seats", "earlierBar", "[I", true)
  | 3 => ("SignDots$Seats", "earlierState", "[I", true)
  | _ => ("SignDots$Seats", "courtesyBar", "[I", true)
def t_SE : Nat → FieldType := fun k => match k with
  | 0 => .array .int
  | 1 => .array .int
  | 2 => .array .int
  | 3 => .array .int
  | _ => .array .int
theorem nm_SE : ∀ a, a < 5 → ∀ b, b < 5 → a ≠ b → (T_SE a).2.1 ≠ (T_SE b).2.1 := by decide +kernel
theorem tk_SE : ∀ k, k < 5 → parseFieldDescriptor (T_SE k).2.2.1 = some (t_SE k) := by decide +kernel
theorem wi_SE : ∀ w ∈ u_ws R_SE T_SE 5, w ∈ gw_tbl := by
  have h : u_ws R_SE T_SE 5 = [158, 160, 162, 164, 166].filterMap (fun i => lw_tbl[i]?) := by decide +kernel
  have g : (u_ws R_SE T_SE 5).all goodWord = true := by decide +kernel
  intro w hw; have hg := List.all_eq_true.mp g w hw; rw [h] at hw; obtain ⟨i, -, hi⟩ := List.mem_filterMap.mp hw; exact gw_in (List.mem_of_getElem? hi) hg
def R_SG : String := "SignDots$Signs"
def T_SG : u_T := fun k => match k with
  | 0 => ("SignDots$Signs", "notes", "LSignDots$Notes;", true)
  | 1 => ("SignDots$Signs", "keys", "LSignDots$ByBar;", true)
  | 2 => ("SignDots$Signs", "rules", "[I", true)
  | 3 => ("SignDots$Signs", "seats", "LSignDots$Seats;", true)
  | 4 => ("SignDots$Signs", "seat", "[I", true)
  | 5 => ("SignDots$Signs", "tie", "[I", true)
  | 6 => ("SignDots$Signs", "kind", "[I", true)
  | 7 => ("SignDots$Signs", "natural", "[I", true)
  | 8 => ("SignDots$Signs", "from", "I", false)
  | 9 => ("SignDots$Signs", "to", "I", false)
  | _ => ("SignDots$Signs", "found", "Z", false)
def t_SG : Nat → FieldType := fun k => match k with
  | 0 => .object "SignDots$Notes"
  | 1 => .object "SignDots$ByBar"
  | 2 => .array .int
  | 3 => .object "SignDots$Seats"
  | 4 => .array .int
  | 5 => .array .int
  | 6 => .array .int
  | 7 => .array .int
  | 8 => .int
  | 9 => .int
  | _ => .boolean
theorem nm_SG : ∀ a, a < 11 → ∀ b, b < 11 → a ≠ b → (T_SG a).2.1 ≠ (T_SG b).2.1 := by decide +kernel
theorem tk_SG : ∀ k, k < 11 → parseFieldDescriptor (T_SG k).2.2.1 = some (t_SG k) := by decide +kernel
theorem wi_SG : ∀ w ∈ u_ws R_SG T_SG 11, w ∈ gw_tbl := by
  have h : u_ws R_SG T_SG 11 = [184, 186, 188, 190, 192, 194, 196, 198, 200, 202, 204].filterMap (fun i => lw_tbl[i]?) := by decide +kernel
  have g : (u_ws R_SG T_SG 11).all goodWord = true := by decide +kernel
  intro w hw; have hg := List.all_eq_true.mp g w hw; rw [h] at hw; obtain ⟨i, -, hi⟩ := List.mem_filterMap.mp hw; exact gw_in (List.mem_of_getElem? hi) hg
def R_SD : String := "SignDots"
def T_SD : u_T := fun k => match k with
  | 0 => ("SignDots", "notes", "LSignDots$Notes;", true)
  | 1 => ("SignDots", "keys", "LSignDots$ByBar;", true)
  | 2 => ("SignDots", "clefs", "LSignDots$ByBar;", true)
  | 3 => ("SignDots", "rules", "[I", true)
  | 4 => ("SignDots", "signs", "LSignDots$Signs;", true)
  | 5 => ("SignDots", "columns", "LSignDots$Columns;", true)
  | 6 => ("SignDots", "dotSpaces", "LSignDots$DotSpaces;", true)
  | _ => ("SignDots", "keyRow", "LSignDots$KeyRow;", true)
def t_SD : Nat → FieldType := fun k => match k with
  | 0 => .object "SignDots$Notes"
  | 1 => .object "SignDots$ByBar"
  | 2 => .object "SignDots$ByBar"
  | 3 => .array .int
  | 4 => .object "SignDots$Signs"
  | 5 => .object "SignDots$Columns"
  | 6 => .object "SignDots$DotSpaces"
  | _ => .object "SignDots$KeyRow"
theorem nm_SD : ∀ a, a < 8 → ∀ b, b < 8 → a ≠ b → (T_SD a).2.1 ≠ (T_SD b).2.1 := by decide +kernel
theorem tk_SD : ∀ k, k < 8 → parseFieldDescriptor (T_SD k).2.2.1 = some (t_SD k) := by decide +kernel
theorem wi_SD : ∀ w ∈ u_ws R_SD T_SD 8, w ∈ gw_tbl := by
  have h : u_ws R_SD T_SD 8 = [309, 311, 313, 315, 317, 319, 321, 323].filterMap (fun i => lw_tbl[i]?) := by decide +kernel
  have g : (u_ws R_SD T_SD 8).all goodWord = true := by decide +kernel
  intro w hw; have hg := List.all_eq_true.mp g w hw; rw [h] at hw; obtain ⟨i, -, hi⟩ := List.mem_filterMap.mp hw; exact gw_in (List.mem_of_getElem? hi) hg
def R_MD : String := "SignDotsModel"
def T_MD : u_T := fun k => match k with
  | 0 => ("SignDotsModel", "step", "[I", true)
  | 1 => ("SignDotsModel", "alter", "[I", true)
  | 2 => ("SignDotsModel", "bar", "[I", true)
  | 3 => ("SignDotsModel", "time", "[I", true)
  | 4 => ("SignDotsModel", "voice", "[I", true)
  | 5 => ("SignDotsModel", "tied", "[I", true)
  | 6 => ("SignDotsModel", "grace", "[I", true)
  | 7 => ("SignDotsModel", "dots", "[I", true)
  | 8 => ("SignDotsModel", "notes", "I", false)
  | 9 => ("SignDotsModel", "keys", "[I", true)
  | 10 => ("SignDotsModel", "clefs", "[I", true)
  | 11 => ("SignDotsModel", "rules", "[I", true)
  | 12 => ("SignDotsModel", "order", "[I", true)
  | 13 => ("SignDotsModel", "tiedTo", "[I", true)
  | 14 => ("SignDotsModel", "signs", "[I", true)
  | 15 => ("SignDotsModel", "natural", "[Z", true)
  | 16 => ("SignDotsModel", "state", "[I", true)
  | 17 => ("SignDotsModel", "before", "[I", true)
  | 18 => ("SignDotsModel", "next", "[I", true)
  | 19 => ("SignDotsModel", "had", "[Z", true)
  | 20 => ("SignDotsModel", "shown", "[Z", true)
  | 21 => ("SignDotsModel", "known", "Z", false)
  | 22 => ("SignDotsModel", "placed", "I", false)
  | 23 => ("SignDotsModel", "byPlace", "[I", true)
  | 24 => ("SignDotsModel", "zigzag", "[I", true)
  | 25 => ("SignDotsModel", "signCount", "I", false)
  | 26 => ("SignDotsModel", "column", "[I", true)
  | 27 => ("SignDotsModel", "best", "[I", true)
  | 28 => ("SignDotsModel", "places", "[I", true)
  | 29 => ("SignDotsModel", "sums", "[I", true)
  | _ => ("SignDotsModel", "found", "I", false)
def t_MD : Nat → FieldType := fun k => match k with
  | 0 => .array .int
  | 1 => .array .int
  | 2 => .array .int
  | 3 => .array .int
  | 4 => .array .int
  | 5 => .array .int
  | 6 => .array .int
  | 7 => .array .int
  | 8 => .int
  | 9 => .array .int
  | 10 => .array .int
  | 11 => .array .int
  | 12 => .array .int
  | 13 => .array .int
  | 14 => .array .int
  | 15 => .array .boolean
  | 16 => .array .int
  | 17 => .array .int
  | 18 => .array .int
  | 19 => .array .boolean
  | 20 => .array .boolean
  | 21 => .boolean
  | 22 => .int
  | 23 => .array .int
  | 24 => .array .int
  | 25 => .int
  | 26 => .array .int
  | 27 => .array .int
  | 28 => .array .int
  | 29 => .array .int
  | _ => .int
theorem nm_MD : ∀ a, a < 31 → ∀ b, b < 31 → a ≠ b → (T_MD a).2.1 ≠ (T_MD b).2.1 := by decide +kernel
theorem tk_MD : ∀ k, k < 31 → parseFieldDescriptor (T_MD k).2.2.1 = some (t_MD k) := by decide +kernel
theorem wi_MD : ∀ w ∈ u_ws R_MD T_MD 31, w ∈ gw_tbl := by
  have h : u_ws R_MD T_MD 31 = [758, 760, 762, 764, 766, 768, 770, 772, 774, 776, 778, 780, 782, 784, 786, 788, 790, 792, 794, 796, 798, 800, 802, 804, 806, 808, 810, 812, 814, 816, 818].filterMap (fun i => lw_tbl[i]?) := by decide +kernel
  have g : (u_ws R_MD T_MD 31).all goodWord = true := by decide +kernel
  intro w hw; have hg := List.all_eq_true.mp g w hw; rw [h] at hw; obtain ⟨i, -, hi⟩ := List.mem_filterMap.mp hw; exact gw_in (List.mem_of_getElem? hi) hg
def classes : List vw_C := [(R_BB, T_BB, 2), (R_CO, T_CO, 10), (R_DS, T_DS, 9), (R_KR, T_KR, 4), (R_NO, T_NO, 8), (R_SE, T_SE, 5), (R_SG, T_SG, 11), (R_SD, T_SD, 8), (R_MD, T_MD, 31)]
theorem cls_ok : ∀ (ci : Nat) (C : String) (T : u_T) (N : Nat), classes[ci]? = some (C, T, N) → (∀ w ∈ u_ws C T N, w ∈ gw_tbl) ∧ (∃ ty : Nat → FieldType, ∀ k, k < N → parseFieldDescriptor (T k).2.2.1 = some (ty k)) ∧ (∀ a, a < N → ∀ b, b < N → a ≠ b → (T a).2.1 ≠ (T b).2.1) := by
  intro ci C T N h
  match ci, h with
  | 0, h => cases h; exact ⟨wi_BB, ⟨t_BB, tk_BB⟩, nm_BB⟩
  | 1, h => cases h; exact ⟨wi_CO, ⟨t_CO, tk_CO⟩, nm_CO⟩
  | 2, h => cases h; exact ⟨wi_DS, ⟨t_DS, tk_DS⟩, nm_DS⟩
  | 3, h => cases h; exact ⟨wi_KR, ⟨t_KR, tk_KR⟩, nm_KR⟩
  | 4, h => cases h; exact ⟨wi_NO, ⟨t_NO, tk_NO⟩, nm_NO⟩
  | 5, h => cases h; exact ⟨wi_SE, ⟨t_SE, tk_SE⟩, nm_SE⟩
  | 6, h => cases h; exact ⟨wi_SG, ⟨t_SG, tk_SG⟩, nm_SG⟩
  | 7, h => cases h; exact ⟨wi_SD, ⟨t_SD, tk_SD⟩, nm_SD⟩
  | 8, h => cases h; exact ⟨wi_MD, ⟨t_MD, tk_MD⟩, nm_MD⟩
  | k + 9, h => simp [classes] at h
abbrev LayE : Type := Option Nat × Nat × Bool × List (Option Nat)
/-- the cells: 0 SD, 1 NO, 2 NO.step, 3 NO.alter, 4 NO.bar, 5 NO.time, 6 NO.voice, 7 NO.order, 8 NO.marks, 9 KB, 10 KB.value, 11 KB.told, 12 CB, 13 CB.value, 14 CB.told, 15 rules, 16 SG, 17 SE, 18 SE.enteredBar, 19 SE.state, 20 SE.earlierBar, 21 SE.earlierState, 22 SE.courtesyBar, 23 SG.seat, 24 SG.tie, 25 SG.kind, 26 SG.natural, 27 CO, 28 CO.fromTop, 29 CO.zigzag, 30 CO.column, 31 CO.trial, 32 CO.columnWidth, 33 DS, 34 DS.dottedAt, 35 DS.dotted, 36 DS.space, 37 DS.cost, 38 KR, 39 KR.letter, 40 KR.alter, 41 KR.place, 42 MD, 43 MD.step, 44 MD.alter, 45 MD.bar, 46 MD.time, 47 MD.voice, 48 MD.tied, 49 MD.grace, 50 MD.dots, 51 MD.keys, 52 MD.clefs, 53 MD.rules, 54 MD.order, 55 MD.tiedTo, 56 MD.signs, 57 MD.natural, 58 MD.state, 59 MD.before, 60 MD.next, 61 MD.had, 62 MD.shown, 63 MD.byPlace, 64 MD.zigzag, 65 MD.column, 66 MD.best, 67 MD.places, 68 MD.sums -/
def lay : List LayE := [
  (some 7, 8, false, [some 1, some 9, some 12, some 15, some 16, some 27, some 33, some 38]),
  (some 4, 8, false, [some 2, some 3, some 4, some 5, some 6, some 7, some 8, none]),
  (none, 60, false, []),
  (none, 60, false, []),
  (none, 60, false, []),
  (none, 60, false, []),
  (none, 60, false, []),
  (none, 60, false, []),
  (none, 180, false, []),
  (some 0, 2, false, [some 10, some 11]),
  (none, 20, false, []),
  (none, 20, true, []),
  (some 0, 2, false, [some 13, some 14]),
  (none, 20, false, []),
  (none, 20, true, []),
  (none, 5, false, []),
  (some 6, 11, false, [some 1, some 9, some 15, some 17, some 23, some 24, some 25, some 26, none, none, none]),
  (some 5, 5, false, [some 18, some 19, some 20, some 21, some 22]),
  (none, 280, false, []),
  (none, 280, false, []),
  (none, 280, false, []),
  (none, 280, false, []),
  (none, 280, false, []),
  (none, 60, false, []),
  (none, 60, false, []),
  (none, 60, false, []),
  (none, 60, false, []),
  (some 1, 10, false, [some 1, some 16, some 28, some 29, some 30, some 31, some 32, none, none, none]),
  (none, 60, false, []),
  (none, 60, false, []),
  (none, 60, false, []),
  (none, 60, false, []),
  (none, 60, false, []),
  (some 2, 9, false, [some 1, some 34, some 35, some 36, some 37, none, none, none, none]),
  (none, 70, false, []),
  (none, 60, false, []),
  (none, 60, false, []),
  (none, 5760, false, []),
  (some 3, 4, false, [some 39, some 40, some 41, none]),
  (none, 14, false, []),
  (none, 14, false, []),
  (none, 14, false, []),
  (some 8, 31, false, [some 43, some 44, some 45, some 46, some 47, some 48, some 49, some 50, none, some 51, some 52, some 53, some 54, some 55, some 56, some 57, some 58, some 59, some 60, some 61, some 62, none, none, some 63, some 64, none, some 65, some 66, some 67, some 68, none]),
  (none, 60, false, []),
  (none, 60, false, []),
  (none, 60, false, []),
  (none, 60, false, []),
  (none, 60, false, []),
  (none, 60, false, []),
  (none, 60, false, []),
  (none, 60, false, []),
  (none, 20, false, []),
  (none, 20, false, []),
  (none, 5, false, []),
  (none, 60, false, []),
  (none, 60, false, []),
  (none, 60, false, []),
  (none, 60, true, []),
  (none, 280, false, []),
  (none, 280, false, []),
  (none, 280, false, []),
  (none, 280, true, []),
  (none, 280, true, []),
  (none, 60, false, []),
  (none, 60, false, []),
  (none, 60, false, []),
  (none, 60, false, []),
  (none, 60, false, []),
  (none, 24000, false, [])]
abbrev NC : Nat := 69
theorem lay_len : lay.length = NC := rfl
def stt : List (String × String × List Int32) := [("SignDots", "MARK_LIMIT", [1, 1, 3]), ("SignDots", "LOWEST_LINE", [30, 18, 24]), ("SignDots", "RULE_LIMIT", [1, 1, 15, 1, 2]), ("SignDots$KeyRow", "SHARPS_AHEAD", [1, 3, 5, 0, 2, 4, 6]), ("SignDots$Signs", "WIDTHS", [16, 12, 9, 9, 7, 8, 10, 14, 10]), ("SignDots$KeyRow", "SHARPS", [3, 0, 4, 1, 5, 2, 6]), ("SignDots$KeyRow", "FLATS", [6, 2, 5, 1, 4, 0, 3]), ("SignDots$KeyRow", "TOP_SHARP", [9, 7, 8]), ("SignDots$KeyRow", "TOP_FLAT", [7, 5, 6])]
abbrev Mt : Type := MethodName × ByteArray × Nat × Option FieldType
abbrev c_SD_note : ByteArray := prog_1_method_2_code
def M_SD_note : Mt := (⟨"SignDots", "note", "(IIIII)I"⟩, c_SD_note, 6, (some .int))
abbrev c_SD_within : ByteArray := prog_1_method_19_code
def M_SD_within : Mt := (⟨"SignDots", "within", "(III)Z"⟩, c_SD_within, 3, (some .boolean))
abbrev c_SD_isBar : ByteArray := prog_1_method_18_code
def M_SD_isBar : Mt := (⟨"SignDots", "isBar", "(I)Z"⟩, c_SD_isBar, 1, (some .boolean))
abbrev c_SD_forgetAnswers : ByteArray := prog_1_method_15_code
def M_SD_forgetAnswers : Mt := (⟨"SignDots", "forgetAnswers", "()V"⟩, c_SD_forgetAnswers, 1, none)
abbrev c_SG_forget : ByteArray := prog_8_method_2_code
def M_SG_forget : Mt := (⟨"SignDots$Signs", "forget", "()V"⟩, c_SG_forget, 1, none)
abbrev c_CO_forget : ByteArray := prog_3_method_2_code
def M_CO_forget : Mt := (⟨"SignDots$Columns", "forget", "()V"⟩, c_CO_forget, 1, none)
abbrev c_DS_forget : ByteArray := prog_4_method_2_code
def M_DS_forget : Mt := (⟨"SignDots$DotSpaces", "forget", "()V"⟩, c_DS_forget, 1, none)
abbrev c_NO_add : ByteArray := prog_6_method_3_code
def M_NO_add : Mt := (⟨"SignDots$Notes", "add", "(IIIII)I"⟩, c_NO_add, 8, (some .int))
abbrev c_NO_isBefore : ByteArray := prog_6_method_9_code
def M_NO_isBefore : Mt := (⟨"SignDots$Notes", "isBefore", "(II)Z"⟩, c_NO_isBefore, 3, (some .boolean))
abbrev c_SD_mark : ByteArray := prog_1_method_3_code
def M_SD_mark : Mt := (⟨"SignDots", "mark", "(III)I"⟩, c_SD_mark, 4, (some .int))
abbrev c_NO_has : ByteArray := prog_6_method_2_code
def M_NO_has : Mt := (⟨"SignDots$Notes", "has", "(I)Z"⟩, c_NO_has, 2, (some .boolean))
abbrev c_NO_possibleTie : ByteArray := prog_6_method_7_code
def M_NO_possibleTie : Mt := (⟨"SignDots$Notes", "possibleTie", "(I)I"⟩, c_NO_possibleTie, 4, (some .int))
abbrev c_NO_positionOf : ByteArray := prog_6_method_11_code
def M_NO_positionOf : Mt := (⟨"SignDots$Notes", "positionOf", "(I)I"⟩, c_NO_positionOf, 3, (some .int))
abbrev c_NO_setMark : ByteArray := prog_6_method_6_code
def M_NO_setMark : Mt := (⟨"SignDots$Notes", "setMark", "(III)I"⟩, c_NO_setMark, 5, (some .int))
abbrev c_NO_markOf : ByteArray := prog_6_method_5_code
def M_NO_markOf : Mt := (⟨"SignDots$Notes", "markOf", "(II)I"⟩, c_NO_markOf, 3, (some .int))
abbrev c_SD_key : ByteArray := prog_1_method_4_code
def M_SD_key : Mt := (⟨"SignDots", "key", "(II)I"⟩, c_SD_key, 3, (some .int))
abbrev c_BB_tell : ByteArray := prog_2_method_3_code
def M_BB_tell : Mt := (⟨"SignDots$ByBar", "tell", "(II)I"⟩, c_BB_tell, 5, (some .int))
abbrev c_SD_clef : ByteArray := prog_1_method_5_code
def M_SD_clef : Mt := (⟨"SignDots", "clef", "(II)I"⟩, c_SD_clef, 3, (some .int))
abbrev c_SD_rule : ByteArray := prog_1_method_6_code
def M_SD_rule : Mt := (⟨"SignDots", "rule", "(II)I"⟩, c_SD_rule, 4, (some .int))
abbrev c_SD_drop : ByteArray := prog_1_method_7_code
def M_SD_drop : Mt := (⟨"SignDots", "drop", "()I"⟩, c_SD_drop, 1, (some .int))
abbrev c_NO_removeLast : ByteArray := prog_6_method_4_code
def M_NO_removeLast : Mt := (⟨"SignDots$Notes", "removeLast", "()V"⟩, c_NO_removeLast, 2, none)
abbrev c_SD_count : ByteArray := prog_1_method_8_code
def M_SD_count : Mt := (⟨"SignDots", "count", "(I)I"⟩, c_SD_count, 2, (some .int))
abbrev c_SG_howMany : ByteArray := prog_8_method_4_code
def M_SG_howMany : Mt := (⟨"SignDots$Signs", "howMany", "(I)I"⟩, c_SG_howMany, 4, (some .int))
abbrev c_SG_find : ByteArray := prog_8_method_3_code
def M_SG_find : Mt := (⟨"SignDots$Signs", "find", "()V"⟩, c_SG_find, 2, none)
abbrev c_SE_clear : ByteArray := prog_7_method_2_code
def M_SE_clear : Mt := (⟨"SignDots$Seats", "clear", "()V"⟩, c_SE_clear, 1, none)
abbrev c_JA_fill : ByteArray := prog_13_method_103_code
def M_JA_fill : Mt := (⟨"java/util/Arrays", "fill", "([II)V"⟩, c_JA_fill, 4, none)
abbrev c_SG_seatFor : ByteArray := prog_8_method_6_code
def M_SG_seatFor : Mt := (⟨"SignDots$Signs", "seatFor", "(II)I"⟩, c_SG_seatFor, 4, (some .int))
abbrev c_NO_tieOf : ByteArray := prog_6_method_8_code
def M_NO_tieOf : Mt := (⟨"SignDots$Notes", "tieOf", "(I)I"⟩, c_NO_tieOf, 2, (some .int))
abbrev c_NO_beginsChord : ByteArray := prog_6_method_12_code
def M_NO_beginsChord : Mt := (⟨"SignDots$Notes", "beginsChord", "(I)Z"⟩, c_NO_beginsChord, 2, (some .boolean))
abbrev c_NO_shareChord : ByteArray := prog_6_method_10_code
def M_NO_shareChord : Mt := (⟨"SignDots$Notes", "shareChord", "(II)Z"⟩, c_NO_shareChord, 3, (some .boolean))
abbrev c_NO_chordEnd : ByteArray := prog_6_method_13_code
def M_NO_chordEnd : Mt := (⟨"SignDots$Notes", "chordEnd", "(I)I"⟩, c_NO_chordEnd, 3, (some .int))
abbrev c_SG_decideChord : ByteArray := prog_8_method_7_code
def M_SG_decideChord : Mt := (⟨"SignDots$Signs", "decideChord", "()V"⟩, c_SG_decideChord, 4, none)
abbrev c_SG_stateAhead : ByteArray := prog_8_method_9_code
def M_SG_stateAhead : Mt := (⟨"SignDots$Signs", "stateAhead", "(I)I"⟩, c_SG_stateAhead, 3, (some .int))
abbrev c_SG_alterByKey : ByteArray := prog_8_method_10_code
def M_SG_alterByKey : Mt := (⟨"SignDots$Signs", "alterByKey", "(II)I"⟩, c_SG_alterByKey, 3, (some .int))
abbrev c_BB_at : ByteArray := prog_2_method_2_code
def M_BB_at : Mt := (⟨"SignDots$ByBar", "at", "(I)I"⟩, c_BB_at, 2, (some .int))
abbrev c_KR_alterOf : ByteArray := prog_5_method_2_code
def M_KR_alterOf : Mt := (⟨"SignDots$KeyRow", "alterOf", "(II)I"⟩, c_KR_alterOf, 3, (some .int))
abbrev c_SE_stateIn : ByteArray := prog_7_method_4_code
def M_SE_stateIn : Mt := (⟨"SignDots$Seats", "stateIn", "(III)I"⟩, c_SE_stateIn, 4, (some .int))
abbrev c_SE_isEntered : ByteArray := prog_7_method_3_code
def M_SE_isEntered : Mt := (⟨"SignDots$Seats", "isEntered", "(II)Z"⟩, c_SE_isEntered, 3, (some .boolean))
abbrev c_SG_needsSign : ByteArray := prog_8_method_11_code
def M_SG_needsSign : Mt := (⟨"SignDots$Signs", "needsSign", "(II)Z"⟩, c_SG_needsSign, 3, (some .boolean))
abbrev c_SG_hasUnlike : ByteArray := prog_8_method_13_code
def M_SG_hasUnlike : Mt := (⟨"SignDots$Signs", "hasUnlike", "(I)Z"⟩, c_SG_hasUnlike, 4, (some .boolean))
abbrev c_SG_isFirst : ByteArray := prog_8_method_14_code
def M_SG_isFirst : Mt := (⟨"SignDots$Signs", "isFirst", "(IZ)Z"⟩, c_SG_isFirst, 5, (some .boolean))
abbrev c_SG_wantsNatural : ByteArray := prog_8_method_12_code
def M_SG_wantsNatural : Mt := (⟨"SignDots$Signs", "wantsNatural", "(II)Z"⟩, c_SG_wantsNatural, 3, (some .boolean))
abbrev c_SG_isCourtesy : ByteArray := prog_8_method_15_code
def M_SG_isCourtesy : Mt := (⟨"SignDots$Signs", "isCourtesy", "(I)Z"⟩, c_SG_isCourtesy, 3, (some .boolean))
abbrev c_SE_hasCourtesy : ByteArray := prog_7_method_8_code
def M_SE_hasCourtesy : Mt := (⟨"SignDots$Seats", "hasCourtesy", "(II)Z"⟩, c_SE_hasCourtesy, 3, (some .boolean))
abbrev c_SG_wasOtherInLastBar : ByteArray := prog_8_method_16_code
def M_SG_wasOtherInLastBar : Mt := (⟨"SignDots$Signs", "wasOtherInLastBar", "(I)Z"⟩, c_SG_wasOtherInLastBar, 4, (some .boolean))
abbrev c_SE_stateBefore : ByteArray := prog_7_method_5_code
def M_SE_stateBefore : Mt := (⟨"SignDots$Seats", "stateBefore", "(III)I"⟩, c_SE_stateBefore, 5, (some .int))
abbrev c_SG_isOtherInOctave : ByteArray := prog_8_method_17_code
def M_SG_isOtherInOctave : Mt := (⟨"SignDots$Signs", "isOtherInOctave", "(I)Z"⟩, c_SG_isOtherInOctave, 5, (some .boolean))
abbrev c_SG_wasOtherByTie : ByteArray := prog_8_method_18_code
def M_SG_wasOtherByTie : Mt := (⟨"SignDots$Signs", "wasOtherByTie", "(I)Z"⟩, c_SG_wasOtherByTie, 5, (some .boolean))
abbrev c_SG_wasOtherByKey : ByteArray := prog_8_method_19_code
def M_SG_wasOtherByKey : Mt := (⟨"SignDots$Signs", "wasOtherByKey", "(I)Z"⟩, c_SG_wasOtherByKey, 4, (some .boolean))
abbrev c_SE_setCourtesy : ByteArray := prog_7_method_9_code
def M_SE_setCourtesy : Mt := (⟨"SignDots$Seats", "setCourtesy", "(II)V"⟩, c_SE_setCourtesy, 3, none)
abbrev c_SG_changeStates : ByteArray := prog_8_method_8_code
def M_SG_changeStates : Mt := (⟨"SignDots$Signs", "changeStates", "()V"⟩, c_SG_changeStates, 4, none)
abbrev c_SE_enter : ByteArray := prog_7_method_6_code
def M_SE_enter : Mt := (⟨"SignDots$Seats", "enter", "(III)V"⟩, c_SE_enter, 4, none)
abbrev c_SE_setState : ByteArray := prog_7_method_7_code
def M_SE_setState : Mt := (⟨"SignDots$Seats", "setState", "(II)V"⟩, c_SE_setState, 3, none)
abbrev c_NO_howManyChords : ByteArray := prog_6_method_16_code
def M_NO_howManyChords : Mt := (⟨"SignDots$Notes", "howManyChords", "()I"⟩, c_NO_howManyChords, 3, (some .int))
abbrev c_SD_ordered : ByteArray := prog_1_method_9_code
def M_SD_ordered : Mt := (⟨"SignDots", "ordered", "(I)I"⟩, c_SD_ordered, 2, (some .int))
abbrev c_SD_sign : ByteArray := prog_1_method_10_code
def M_SD_sign : Mt := (⟨"SignDots", "sign", "(II)I"⟩, c_SD_sign, 3, (some .int))
abbrev c_SG_widthOf : ByteArray := prog_8_method_5_code
def M_SG_widthOf : Mt := (⟨"SignDots$Signs", "widthOf", "(I)I"⟩, c_SG_widthOf, 3, (some .int))
abbrev c_NO_chordStart : ByteArray := prog_6_method_14_code
def M_NO_chordStart : Mt := (⟨"SignDots$Notes", "chordStart", "(I)I"⟩, c_NO_chordStart, 2, (some .int))
abbrev c_NO_chordAt : ByteArray := prog_6_method_15_code
def M_NO_chordAt : Mt := (⟨"SignDots$Notes", "chordAt", "(II)I"⟩, c_NO_chordAt, 4, (some .int))
abbrev c_CO_layOut : ByteArray := prog_3_method_3_code
def M_CO_layOut : Mt := (⟨"SignDots$Columns", "layOut", "(I)V"⟩, c_CO_layOut, 2, none)
abbrev c_CO_collectFromTop : ByteArray := prog_3_method_6_code
def M_CO_collectFromTop : Mt := (⟨"SignDots$Columns", "collectFromTop", "(II)V"⟩, c_CO_collectFromTop, 6, none)
abbrev c_CO_bringToZigzag : ByteArray := prog_3_method_7_code
def M_CO_bringToZigzag : Mt := (⟨"SignDots$Columns", "bringToZigzag", "()V"⟩, c_CO_bringToZigzag, 2, none)
abbrev c_CO_search : ByteArray := prog_3_method_8_code
def M_CO_search : Mt := (⟨"SignDots$Columns", "search", "(III)V"⟩, c_CO_search, 7, none)
abbrev c_CO_canStand : ByteArray := prog_3_method_10_code
def M_CO_canStand : Mt := (⟨"SignDots$Columns", "canStand", "(II[I)Z"⟩, c_CO_canStand, 5, (some .boolean))
abbrev c_CO_canShare : ByteArray := prog_3_method_11_code
def M_CO_canShare : Mt := (⟨"SignDots$Columns", "canShare", "(II)Z"⟩, c_CO_canShare, 4, (some .boolean))
abbrev c_CO_down : ByteArray := prog_3_method_13_code
def M_CO_down : Mt := (⟨"SignDots$Columns", "down", "(I)I"⟩, c_CO_down, 3, (some .int))
abbrev c_CO_levelReach : ByteArray := prog_3_method_14_code
def M_CO_levelReach : Mt := (⟨"SignDots$Columns", "levelReach", "(II)I"⟩, c_CO_levelReach, 3, (some .int))
abbrev c_CO_up : ByteArray := prog_3_method_12_code
def M_CO_up : Mt := (⟨"SignDots$Columns", "up", "(I)I"⟩, c_CO_up, 3, (some .int))
abbrev c_JM_max : ByteArray := prog_11_method_65_code
def M_JM_max : Mt := (⟨"java/lang/Math", "max", "(II)I"⟩, c_JM_max, 2, (some .int))
abbrev c_CO_takeInTurn : ByteArray := prog_3_method_9_code
def M_CO_takeInTurn : Mt := (⟨"SignDots$Columns", "takeInTurn", "()V"⟩, c_CO_takeInTurn, 4, none)
abbrev c_CO_columnOf : ByteArray := prog_3_method_4_code
def M_CO_columnOf : Mt := (⟨"SignDots$Columns", "columnOf", "(I)I"⟩, c_CO_columnOf, 3, (some .int))
abbrev c_SD_placeOf : ByteArray := prog_1_method_17_code
def M_SD_placeOf : Mt := (⟨"SignDots", "placeOf", "(I)I"⟩, c_SD_placeOf, 2, (some .int))
abbrev c_SD_extent : ByteArray := prog_1_method_11_code
def M_SD_extent : Mt := (⟨"SignDots", "extent", "(II)I"⟩, c_SD_extent, 4, (some .int))
abbrev c_CO_sumOfWidths : ByteArray := prog_3_method_5_code
def M_CO_sumOfWidths : Mt := (⟨"SignDots$Columns", "sumOfWidths", "()I"⟩, c_CO_sumOfWidths, 1, (some .int))
abbrev c_SD_dot : ByteArray := prog_1_method_12_code
def M_SD_dot : Mt := (⟨"SignDots", "dot", "(I)I"⟩, c_SD_dot, 2, (some .int))
abbrev c_DS_layOut : ByteArray := prog_4_method_3_code
def M_DS_layOut : Mt := (⟨"SignDots$DotSpaces", "layOut", "(I)V"⟩, c_DS_layOut, 3, none)
abbrev c_DS_collectFromTop : ByteArray := prog_4_method_5_code
def M_DS_collectFromTop : Mt := (⟨"SignDots$DotSpaces", "collectFromTop", "(II)V"⟩, c_DS_collectFromTop, 5, none)
abbrev c_JM_min : ByteArray := prog_11_method_69_code
def M_JM_min : Mt := (⟨"java/lang/Math", "min", "(II)I"⟩, c_JM_min, 2, (some .int))
abbrev c_DS_fillCosts : ByteArray := prog_4_method_7_code
def M_DS_fillCosts : Mt := (⟨"SignDots$DotSpaces", "fillCosts", "()V"⟩, c_DS_fillCosts, 6, none)
abbrev c_DS_spaceAt : ByteArray := prog_4_method_6_code
def M_DS_spaceAt : Mt := (⟨"SignDots$DotSpaces", "spaceAt", "(I)I"⟩, c_DS_spaceAt, 2, (some .int))
abbrev c_JM_abs : ByteArray := prog_11_method_59_code
def M_JM_abs : Mt := (⟨"java/lang/Math", "abs", "(I)I"⟩, c_JM_abs, 1, (some .int))
abbrev c_DS_chooseSpaces : ByteArray := prog_4_method_8_code
def M_DS_chooseSpaces : Mt := (⟨"SignDots$DotSpaces", "chooseSpaces", "()V"⟩, c_DS_chooseSpaces, 5, none)
abbrev c_DS_distanceFrom : ByteArray := prog_4_method_4_code
def M_DS_distanceFrom : Mt := (⟨"SignDots$DotSpaces", "distanceFrom", "(I)I"⟩, c_DS_distanceFrom, 3, (some .int))
abbrev c_SD_keySigns : ByteArray := prog_1_method_13_code
def M_SD_keySigns : Mt := (⟨"SignDots", "keySigns", "(I)I"⟩, c_SD_keySigns, 2, (some .int))
abbrev c_SD_layOutKey : ByteArray := prog_1_method_16_code
def M_SD_layOutKey : Mt := (⟨"SignDots", "layOutKey", "(I)V"⟩, c_SD_layOutKey, 3, none)
abbrev c_KR_layOut : ByteArray := prog_5_method_3_code
def M_KR_layOut : Mt := (⟨"SignDots$KeyRow", "layOut", "(IIII)V"⟩, c_KR_layOut, 8, none)
abbrev c_KR_addNaturals : ByteArray := prog_5_method_4_code
def M_KR_addNaturals : Mt := (⟨"SignDots$KeyRow", "addNaturals", "(III)V"⟩, c_KR_addNaturals, 6, none)
abbrev c_KR_letterOf : ByteArray := prog_5_method_5_code
def M_KR_letterOf : Mt := (⟨"SignDots$KeyRow", "letterOf", "(II)I"⟩, c_KR_letterOf, 2, (some .int))
abbrev c_KR_placeFor : ByteArray := prog_5_method_6_code
def M_KR_placeFor : Mt := (⟨"SignDots$KeyRow", "placeFor", "(III)I"⟩, c_KR_placeFor, 5, (some .int))
abbrev c_KR_append : ByteArray := prog_5_method_7_code
def M_KR_append : Mt := (⟨"SignDots$KeyRow", "append", "(III)V"⟩, c_KR_append, 4, none)
abbrev c_SD_keySign : ByteArray := prog_1_method_14_code
def M_SD_keySign : Mt := (⟨"SignDots", "keySign", "(III)I"⟩, c_SD_keySign, 4, (some .int))
abbrev c_MD_note : ByteArray := prog_10_method_3_code
def M_MD_note : Mt := (⟨"SignDotsModel", "note", "(IIIII)I"⟩, c_MD_note, 6, (some .int))
abbrev c_MD_in : ByteArray := prog_10_method_2_code
def M_MD_in : Mt := (⟨"SignDotsModel", "in", "(III)Z"⟩, c_MD_in, 3, (some .boolean))
abbrev c_MD_mark : ByteArray := prog_10_method_7_code
def M_MD_mark : Mt := (⟨"SignDotsModel", "mark", "(III)I"⟩, c_MD_mark, 5, (some .int))
abbrev c_MD_mate : ByteArray := prog_10_method_6_code
def M_MD_mate : Mt := (⟨"SignDotsModel", "mate", "(I)I"⟩, c_MD_mate, 4, (some .int))
abbrev c_MD_whenOf : ByteArray := prog_10_method_5_code
def M_MD_whenOf : Mt := (⟨"SignDotsModel", "whenOf", "(I)I"⟩, c_MD_whenOf, 2, (some .int))
abbrev c_MD_when : ByteArray := prog_10_method_4_code
def M_MD_when : Mt := (⟨"SignDotsModel", "when", "(II)I"⟩, c_MD_when, 2, (some .int))
abbrev c_MD_key : ByteArray := prog_10_method_10_code
def M_MD_key : Mt := (⟨"SignDotsModel", "key", "(II)I"⟩, c_MD_key, 4, (some .int))
abbrev c_MD_keyOf : ByteArray := prog_10_method_8_code
def M_MD_keyOf : Mt := (⟨"SignDotsModel", "keyOf", "(I)I"⟩, c_MD_keyOf, 3, (some .int))
abbrev c_MD_clef : ByteArray := prog_10_method_11_code
def M_MD_clef : Mt := (⟨"SignDotsModel", "clef", "(II)I"⟩, c_MD_clef, 4, (some .int))
abbrev c_MD_clefOf : ByteArray := prog_10_method_9_code
def M_MD_clefOf : Mt := (⟨"SignDotsModel", "clefOf", "(I)I"⟩, c_MD_clefOf, 3, (some .int))
abbrev c_MD_rule : ByteArray := prog_10_method_12_code
def M_MD_rule : Mt := (⟨"SignDotsModel", "rule", "(II)I"⟩, c_MD_rule, 4, (some .int))
abbrev c_MD_drop : ByteArray := prog_10_method_13_code
def M_MD_drop : Mt := (⟨"SignDotsModel", "drop", "()I"⟩, c_MD_drop, 1, (some .int))
abbrev c_MD_count : ByteArray := prog_10_method_33_code
def M_MD_count : Mt := (⟨"SignDotsModel", "count", "(I)I"⟩, c_MD_count, 6, (some .int))
abbrev c_MD_work : ByteArray := prog_10_method_18_code
def M_MD_work : Mt := (⟨"SignDotsModel", "work", "()V"⟩, c_MD_work, 4, none)
abbrev c_MD_sort : ByteArray := prog_10_method_17_code
def M_MD_sort : Mt := (⟨"SignDotsModel", "sort", "()V"⟩, c_MD_sort, 3, none)
abbrev c_MD_keyAlter : ByteArray := prog_10_method_15_code
def M_MD_keyAlter : Mt := (⟨"SignDotsModel", "keyAlter", "(II)I"⟩, c_MD_keyAlter, 3, (some .int))
abbrev c_MD_letter : ByteArray := prog_10_method_14_code
def M_MD_letter : Mt := (⟨"SignDotsModel", "letter", "(IZ)I"⟩, c_MD_letter, 3, (some .int))
abbrev c_MD_chord : ByteArray := prog_10_method_19_code
def M_MD_chord : Mt := (⟨"SignDotsModel", "chord", "(II)V"⟩, c_MD_chord, 4, none)
abbrev c_MD_need : ByteArray := prog_10_method_20_code
def M_MD_need : Mt := (⟨"SignDotsModel", "need", "(III)V"⟩, c_MD_need, 10, none)
abbrev c_MD_seat : ByteArray := prog_10_method_16_code
def M_MD_seat : Mt := (⟨"SignDotsModel", "seat", "(I)I"⟩, c_MD_seat, 3, (some .int))
abbrev c_MD_court : ByteArray := prog_10_method_21_code
def M_MD_court : Mt := (⟨"SignDotsModel", "court", "(II)V"⟩, c_MD_court, 6, none)
abbrev c_MD_otherSeat : ByteArray := prog_10_method_22_code
def M_MD_otherSeat : Mt := (⟨"SignDotsModel", "otherSeat", "(I)Z"⟩, c_MD_otherSeat, 4, (some .boolean))
abbrev c_MD_tiedAhead : ByteArray := prog_10_method_23_code
def M_MD_tiedAhead : Mt := (⟨"SignDotsModel", "tiedAhead", "(II)Z"⟩, c_MD_tiedAhead, 5, (some .boolean))
abbrev c_MD_ordered : ByteArray := prog_10_method_34_code
def M_MD_ordered : Mt := (⟨"SignDotsModel", "ordered", "(I)I"⟩, c_MD_ordered, 2, (some .int))
abbrev c_MD_sign : ByteArray := prog_10_method_35_code
def M_MD_sign : Mt := (⟨"SignDotsModel", "sign", "(II)I"⟩, c_MD_sign, 3, (some .int))
abbrev c_MD_width : ByteArray := prog_10_method_25_code
def M_MD_width : Mt := (⟨"SignDotsModel", "width", "(I)I"⟩, c_MD_width, 4, (some .int))
abbrev c_MD_columnOf : ByteArray := prog_10_method_36_code
def M_MD_columnOf : Mt := (⟨"SignDotsModel", "columnOf", "(I)I"⟩, c_MD_columnOf, 3, (some .int))
abbrev c_MD_place : ByteArray := prog_10_method_32_code
def M_MD_place : Mt := (⟨"SignDotsModel", "place", "(II)V"⟩, c_MD_place, 8, none)
abbrev c_MD_listSigns : ByteArray := prog_10_method_28_code
def M_MD_listSigns : Mt := (⟨"SignDotsModel", "listSigns", "(II)V"⟩, c_MD_listSigns, 5, none)
abbrev c_MD_placeOf : ByteArray := prog_10_method_24_code
def M_MD_placeOf : Mt := (⟨"SignDotsModel", "placeOf", "(I)I"⟩, c_MD_placeOf, 3, (some .int))
abbrev c_MD_fits : ByteArray := prog_10_method_30_code
def M_MD_fits : Mt := (⟨"SignDotsModel", "fits", "(I)Z"⟩, c_MD_fits, 3, (some .boolean))
abbrev c_MD_canShare : ByteArray := prog_10_method_27_code
def M_MD_canShare : Mt := (⟨"SignDotsModel", "canShare", "(II)Z"⟩, c_MD_canShare, 6, (some .boolean))
abbrev c_MD_reach : ByteArray := prog_10_method_26_code
def M_MD_reach : Mt := (⟨"SignDotsModel", "reach", "(IZ)I"⟩, c_MD_reach, 4, (some .int))
abbrev c_MD_widths : ByteArray := prog_10_method_29_code
def M_MD_widths : Mt := (⟨"SignDotsModel", "widths", "([II)I"⟩, c_MD_widths, 8, (some .int))
abbrev c_MD_isFull : ByteArray := prog_10_method_31_code
def M_MD_isFull : Mt := (⟨"SignDotsModel", "isFull", "(I)Z"⟩, c_MD_isFull, 4, (some .boolean))
abbrev c_MD_extent : ByteArray := prog_10_method_37_code
def M_MD_extent : Mt := (⟨"SignDotsModel", "extent", "(II)I"⟩, c_MD_extent, 5, (some .int))
abbrev c_MD_dot : ByteArray := prog_10_method_38_code
def M_MD_dot : Mt := (⟨"SignDotsModel", "dot", "(I)I"⟩, c_MD_dot, 9, (some .int))
abbrev c_MD_keySigns : ByteArray := prog_10_method_41_code
def M_MD_keySigns : Mt := (⟨"SignDotsModel", "keySigns", "(I)I"⟩, c_MD_keySigns, 3, (some .int))
abbrev c_MD_keyBefore : ByteArray := prog_10_method_39_code
def M_MD_keyBefore : Mt := (⟨"SignDotsModel", "keyBefore", "(I)I"⟩, c_MD_keyBefore, 2, (some .int))
abbrev c_MD_naturals : ByteArray := prog_10_method_40_code
def M_MD_naturals : Mt := (⟨"SignDotsModel", "naturals", "(II)I"⟩, c_MD_naturals, 8, (some .int))
abbrev c_MD_keySign : ByteArray := prog_10_method_42_code
def M_MD_keySign : Mt := (⟨"SignDotsModel", "keySign", "(III)I"⟩, c_MD_keySign, 10, (some .int))
end
section
/-! THE QUIET WORLD: all cells are made; a memory is a function of (cell, place) to ints. A judgement AW over the kit's W that hides the machine's context. -/
abbrev AV : Type := Int32 ⊕ Nat
abbrev Mem : Type := Nat → Nat → Int32
/-- launch, class numbers, addresses of the cells, classes of int and boolean arrays, addresses of the static arrays -/
abbrev Gp : Type := Launch × va_G × (Nat → Nat) × (ClassId × ClassId) × (Nat → Nat)
abbrev gD (G : Gp) : va_G := G.2.1
abbrev gA (G : Gp) : Nat → Nat := G.2.2.1
abbrev gI (G : Gp) : ClassId := G.2.2.2.1.1
abbrev gZ (G : Gp) : ClassId := G.2.2.2.1.2
abbrev gS (G : Gp) : Nat → Nat := G.2.2.2.2
def rf (G : Gp) (k : Nat) : Nat := if k < 1000 then gA G k else gS G (k - 1000)
def cv (G : Gp) : AV → Value
  | .inl x => .int x
  | .inr k => .ref (rf G k)
def fv (G : Gp) (ps : List (Option Nat)) (f : Nat → Int32) (j : Nat) : Value := match ps.getD j none with
  | some t => .ref (gA G t)
  | none => .int (f j)
def cellE (G : Gp) (e : LayE) (f : Nat → Int32) : va_E := match e.1 with
  | some ci => .inr (ci, (List.range e.2.1).map (fv G e.2.2.2 f))
  | none => .inl (if e.2.2.1 then gZ G else gI G, e.2.1, .inl f)
def wsM (G : Gp) (μ : Mem) : va_W := (List.range NC).map (fun k => (gA G k, cellE G (lay.getD k (none, 0, false, [])) (μ k)))
def up (μ : Mem) (c i : Nat) (x : Int32) : Mem := fun c' i' => if c' = c ∧ i' = i then x else μ c' i'
def AA (G : Gp) : Nat → Prop := fun q => ∃ k, k < NC ∧ q = gA G k
def Gok (G : Gp) : Prop := ∀ i j, i < NC → j < NC → gA G i = gA G j → i = j
def Sx (G : Gp) (U : State) (H : Heap) : Prop := ∀ (k : Nat) (q : String × String × List Int32), stt[k]? = some q → va_Z q.1 q.2.1 "[I" (.ref (gS G k)) (AA G) U H ∧ va_T .int (gS G k) q.2.2.length (fun j => .int (q.2.2.getD j 0)) (AA G) U H
abbrev tysM (G : Gp) : List (ClassId × FieldType) := [(gI G, .int), (gZ G, .boolean)]
def mwords (M : Mt) : List Cond := .code M.1 M.2.1 M.2.2.1 M.2.2.2 :: gw_tbl
def rmd (d : Nat) : Room := { frames := d, cells := 0, slots := 0, locals := 64 * d }
def PreW (G : Gp) (μ : Mem) (U : State) : Prop := Gok G ∧ va_P (gD G) classes (wsM G μ) U.heap ∧ va_K (gD G) classes (tysM G) U ∧ Sx G U U.heap
def Qof (G : Gp) (ret : Option FieldType) (Q : Int32 → Mem → Prop) : Array Value → State → Outcome → State → Prop := match ret with
  | none => va_Qv (fun u => Q 0 u) (fun u t => va_P (gD G) classes (wsM G u) t.heap) (AA G)
  | some _ => va_Qi Q (fun u t => va_P (gD G) classes (wsM G u) t.heap) (AA G)
/-- the contract: called with these arguments in this memory, the method returns, and Q answer memory -/
def Ct (G : Gp) (d : Nat) (M : Mt) (as : List AV) (μ : Mem) (Q : Int32 → Mem → Prop) : Prop :=
  Met G.1 M.1 (mwords M) (rmd d) (va_Pc (as.map (cv G)) (PreW G μ)) (Qof G M.2.2.2 Q) 0 0 (AA G)
def lvOf (G : Gp) : Nat → List (Option AV) → List (Nat × Value)
  | _, [] => []
  | n, none :: t => lvOf G (n + 1) t
  | n, some v :: t => (n, cv G v) :: lvOf G (n + 1) t
def Cx (G : Gp) (M : Mt) (p : Program) (s : State) (m : MethodId) (args : Array Value) (meth : Method) (c : Code) : Prop :=
  p.tables.exec = Jvm.exec ∧ c.code = M.2.1 ∧ meth.sig.returnType = M.2.2.2 ∧ c.maxLocals = M.2.2.1 ∧ s.vm.findClass M.1.cls = some m.cls ∧ (∀ w ∈ mwords M, w.before args s = true) ∧ meth.locks = false ∧ Gok G ∧ va_K (gD G) classes (tysM G) s ∧ Sx G s s.heap
def AW (G : Gp) (d : Nat) (M : Mt) (Q : Int32 → Mem → Prop) (pc : Nat) (L : List (Option AV)) (st : List AV) (μ : Mem) : Prop :=
  ∀ (p : Program) (e : Env) (s : State) (m : MethodId) (args : Array Value) (below : List Frame) (meth : Method) (c : Code) (H : Heap) (locs : List Loc) (ls : Array Slot),
    Cx G M p s m args meth c → va_P (gD G) classes (wsM G μ) H → va_S (AA G) s.heap H locs → lv_has ls M.2.2.1 (lvOf G 0 L) → L.length = M.2.2.1 →
    W p G.1 e (rmd d) s m args below meth c H locs 0 0 (MQ below (Qof G M.2.2.2 Q) args s 0 0 (AA G)) (F0 m pc ls (st.map (cv G)))
theorem cv_cat (G : Gp) (v : AV) : (cv G v).category = 1 := by cases v <;> rfl
theorem lvOf_mem {G : Gp} : ∀ (L : List (Option AV)) (n : Nat) (q : Nat × Value), q ∈ lvOf G n L ↔ ∃ (j : Nat) (v : AV), L[j]? = some (some v) ∧ q = (n + j, cv G v) := by
  intro L
  induction L with
  | nil => intro n q; simp [lvOf]
  | cons a t ih =>
    intro n q
    cases a with
    | none =>
      simp only [lvOf, ih]
      constructor
      · rintro ⟨j, v, h1, h2⟩
        exact ⟨j + 1, v, by simpa using h1, by rw [h2]; congr 1; omega⟩
      · rintro ⟨j, v, h1, h2⟩
        cases j with
        | zero => simp at h1
        | succ j => exact ⟨j, v, by simpa using h1, by rw [h2]; congr 1; omega⟩
    | some w =>
      simp only [lvOf, List.mem_cons, ih]
      constructor
      · rintro (h | ⟨j, v, h1, h2⟩)
        · exact ⟨0, w, by simp, by rw [h]; rfl⟩
        · exact ⟨j + 1, v, by simpa using h1, by rw [h2]; congr 1; omega⟩
      · rintro ⟨j, v, h1, h2⟩
        cases j with
        | zero => left; simp at h1; rw [h2, h1]; rfl
        | succ j => right; exact ⟨j, v, by simpa using h1, by rw [h2]; congr 1; omega⟩
theorem lv_get {G : Gp} {ls : Array Slot} {nL : Nat} {L : List (Option AV)} (h : lv_has ls nL (lvOf G 0 L)) {i : Nat} {v : AV} (hi : L[i]? = some (some v)) : ls[i]? = some (.val (cv G v)) :=
  h.2.2 (i, cv G v) ((lvOf_mem L 0 _).mpr ⟨i, v, hi, by rw [Nat.zero_add]⟩)
theorem lv_upd {G : Gp} {ls : Array Slot} {nL : Nat} {L : List (Option AV)} {i : Nat} {v : AV} (hi : i < L.length) (h : lv_has ls nL ((i, cv G v) :: (lvOf G 0 L).filter (fun q => !(q.1 == i) && !(q.1 + 1 == i && q.2.category == 2)))) : lv_has ls nL (lvOf G 0 (L.set i (some v))) := by
  refine ⟨h.1, h.2.1, fun q hq => ?_⟩
  obtain ⟨j, w, h1, rfl⟩ := (lvOf_mem _ 0 q).mp hq
  refine h.2.2 _ ?_
  by_cases hj : j = i
  · subst hj
    rw [List.getElem?_set_self hi] at h1
    cases h1
    rw [Nat.zero_add]
    exact List.mem_cons_self
  · rw [List.getElem?_set_ne (Ne.symm hj)] at h1
    refine List.mem_cons_of_mem _ (List.mem_filter.mpr ⟨(lvOf_mem L 0 _).mpr ⟨j, w, h1, rfl⟩, ?_⟩)
    simp [cv_cat, hj]
theorem lv_args_of (G : Gp) : ∀ (as : List AV) (n : Nat), lv_args n (as.map (cv G)) = lvOf G n (as.map some) := by
  intro as
  induction as with
  | nil => intro n; rfl
  | cons a t ih => intro n; simp only [List.map_cons, lv_args, lvOf, cv_cat]; rw [if_neg (by decide), ih]
theorem lg_len (G : Gp) : ∀ as : List AV, (lg_sl (as.map (cv G))).length = as.length := by
  intro as
  induction as with
  | nil => rfl
  | cons a t ih =>
    simp only [lg_sl, List.map_cons, List.flatMap_cons, cv_cat] at ih ⊢
    rw [if_neg (by decide), List.length_append, ih]
    simp [Nat.add_comm]
theorem lvOf_none (G : Gp) : ∀ (k n : Nat), lvOf G n (List.replicate k none) = [] := by
  intro k
  induction k with
  | zero => intro n; rfl
  | succ k ih => intro n; rw [List.replicate_succ]; exact ih _
theorem lvOf_app (G : Gp) : ∀ (as : List (Option AV)) (n k : Nat), lvOf G n (as ++ List.replicate k none) = lvOf G n as := by
  intro as
  induction as with
  | nil => intro n k; exact lvOf_none G k n
  | cons a t ih =>
    intro n k
    cases a with
    | none => exact ih _ _
    | some v => simp only [List.cons_append, lvOf, ih]
theorem ws_at (G : Gp) (μ : Mem) {k : Nat} {e : LayE} (h : lay[k]? = some e) : k < NC ∧ (wsM G μ)[k]? = some (gA G k, cellE G e (μ k)) := by
  have hk : k < NC := by rw [← lay_len]; exact (List.getElem?_eq_some_iff.mp h).1
  refine ⟨hk, ?_⟩
  unfold wsM
  rw [List.getElem?_map, List.getElem?_range hk, Option.map_some, List.getD_eq_getElem?_getD, h]
  rfl
theorem ws_D {G : Gp} (hG : Gok G) (μ : Mem) : va_D (AA G) (wsM G μ) := by
  have key : ∀ (k : Nat) (q : Nat × va_E), (wsM G μ)[k]? = some q → k < NC ∧ q.1 = gA G k := by
    intro k q h
    unfold wsM at h
    rw [List.getElem?_map] at h
    by_cases hk : k < NC
    · rw [List.getElem?_range hk] at h
      refine ⟨hk, ?_⟩
      rw [← Option.some.inj h]
    · rw [List.getElem?_eq_none (by simpa using Nat.le_of_not_lt hk)] at h
      cases h
  refine ⟨fun i j p q hi hj he => ?_, fun k q h => ?_⟩
  · obtain ⟨h1, h2⟩ := key i p hi
    obtain ⟨h3, h4⟩ := key j q hj
    exact hG i j h1 h3 (by rw [← h2, ← h4]; exact he)
  · exact ⟨k, (key k q h).1, (key k q h).2⟩
theorem ws_set (G : Gp) (μ μ' : Mem) {k : Nat} {e : LayE} (h : lay[k]? = some e) {x : va_E} (hx : cellE G e (μ' k) = x) (ho : ∀ j, j ≠ k → μ' j = μ j) : (wsM G μ).set k (gA G k, x) = wsM G μ' := by
  have hk : k < NC := by rw [← lay_len]; exact (List.getElem?_eq_some_iff.mp h).1
  apply List.ext_getElem?
  intro j
  unfold wsM
  by_cases hj : j = k
  · subst hj
    rw [List.getElem?_set_self (by simpa using hk), List.getElem?_map, List.getElem?_range hk, Option.map_some, List.getD_eq_getElem?_getD, h, ← hx]
    rfl
  · rw [List.getElem?_set_ne (Ne.symm hj), List.getElem?_map, List.getElem?_map]
    by_cases hn : j < NC
    · rw [List.getElem?_range hn]; simp only [Option.map_some]; rw [ho j hj]
    · rw [List.getElem?_eq_none (by simpa using Nat.le_of_not_lt hn)]; rfl
theorem up_ne (μ : Mem) {c c' : Nat} (i : Nat) (x : Int32) (h : c' ≠ c) : up μ c i x c' = μ c' := by
  funext j; simp [up, h]
theorem up_self (μ : Mem) (c i : Nat) (x : Int32) : up μ c i x c = upd (μ c) i x := by
  funext j; simp [up, upd]
theorem fv_set (G : Gp) (ps : List (Option Nat)) (f : Nat → Int32) (n j : Nat) (x : Int32) (hp : ps.getD j none = none) : ((List.range n).map (fv G ps f)).set j (.int x) = (List.range n).map (fv G ps (upd f j x)) := by
  apply List.ext_getElem?
  intro i
  rw [List.getElem?_map]
  by_cases hi : i = j
  · subst hi
    by_cases hn : i < n
    · rw [List.getElem?_set_self (by simpa using hn), List.getElem?_range hn]
      rw [Option.map_some]; unfold fv; rw [hp]; simp [upd]
    · rw [List.getElem?_eq_none (by simpa using Nat.le_of_not_lt hn), List.getElem?_eq_none (by simpa using Nat.le_of_not_lt hn)]; rfl
  · rw [List.getElem?_set_ne (Ne.symm hi), List.getElem?_map]
    by_cases hn : i < n
    · rw [List.getElem?_range hn]
      simp [fv, upd, hi]
    · rw [List.getElem?_eq_none (by simpa using Nat.le_of_not_lt hn)]; rfl
theorem mw_code (M : Mt) : Cond.code M.1 M.2.1 M.2.2.1 M.2.2.2 ∈ mwords M := List.mem_cons_self
theorem mw_in {M : Mt} {w : Cond} (h : w ∈ gw_tbl) : w ∈ mwords M := List.mem_cons_of_mem _ h
theorem mw_good {M M' : Mt} (h : Cond.code M'.1 M'.2.1 M'.2.2.1 M'.2.2.2 ∈ gw_tbl) : GoodIn (mwords M) (mwords M') := by
  intro w hw
  have hw2 : w ∈ gw_tbl := by
    rcases List.mem_cons.mp hw with h1 | h1
    · rw [h1]; exact h
    · exact h1
  exact ⟨mw_in hw2, good_of_word (List.mem_filter.mp hw2).2⟩
/-- a contract out of a walk from the entry -/
theorem ct_of {G : Gp} {d : Nat} {M : Mt} {as : List AV} {μ : Mem} {Q : Int32 → Mem → Prop} (hy : plainName M.1.cls = true) (hn : as.length ≤ M.2.2.1)
    (h : AW G d M Q 0 (as.map some ++ List.replicate (M.2.2.1 - as.length) none) [] μ) : Ct G d M as μ Q := by
  refine Met.ofW (cc := M.2.1) (maxL := M.2.2.1) (ret := M.2.2.2) hy rfl ?_
  intro p e s m args below meth c s₁ B hml hv
  obtain ⟨rfl, hG, hP, hK, hS⟩ := hv
  have hts := atoms_spec (ws := mwords M) B.pre
  have hown : s.vm.findClass M.1.cls = some m.cls := findClass_of_methodNamed B.named
  have hl := lv_entry (as.map (cv G)) (n := M.2.2.1) (by rw [lg_len]; exact hn)
  rw [lg_entry_eq]
  generalize (lg_sl (as.map (cv G)) ++ List.replicate (M.2.2.1 - (lg_sl (as.map (cv G))).length) Slot.unset).toArray = ls at hl ⊢
  rw [lv_args_of] at hl
  refine h p e s m _ below meth c s.heap [] ls ⟨B.exec, B.bytes, B.returns, hml, hown, hts, B.notSynchronized, hG, hK, hS⟩ hP va_S.rf (by rw [lvOf_app]; exact hl) (by simp; omega)
theorem Ct.mono {G : Gp} {d : Nat} {M : Mt} {as : List AV} {μ : Mem} {Q Q' : Int32 → Mem → Prop} (h : Ct G d M as μ Q) (hq : ∀ r u, Q r u → Q' r u) : Ct G d M as μ Q' := by
  have hQ : ∀ a st o t, Qof G M.2.2.2 Q a st o t → Qof G M.2.2.2 Q' a st o t := by
    intro a st o t hh
    unfold Qof at hh ⊢
    cases hr : M.2.2.2 with
    | none => rw [hr] at hh; obtain ⟨⟨u, h1, h2, h3⟩, h4⟩ := hh; exact ⟨⟨u, h1, hq _ _ h2, h3⟩, h4⟩
    | some _ => rw [hr] at hh; obtain ⟨⟨r, u, h1, h2, h3⟩, h4⟩ := hh; exact ⟨⟨r, u, h1, hq _ _ h2, h3⟩, h4⟩
  intro p e ha hc hk s m args below hf happ hP hKK
  obtain ⟨n, o, h1, h2, h3, h4, h5⟩ := h p e ha hc hk s m args below hf happ hP hKK
  exact ⟨n, o, h1, h2, h3, hQ _ _ _ _ h4, h5⟩
end
section
/-! rules of the judgement, an instruction a row -/
section Rules
variable {G : Gp} {d : Nat} {M : Mt} {Q : Int32 → Mem → Prop} {pc : Nat} {L : List (Option AV)} {st : List AV} {μ : Mem}
theorem aw_iconst {n : Int} {v : Int32} (hd : decode M.2.1 pc = .ok (.iconst n, 1)) (hv : Int32.ofInt n = v) (k : AW G d M Q (pc + 1) L (.inl v :: st) μ) : AW G d M Q pc L st μ := by
  intro p e s m args below meth c H locs ls C hP hS hl hL
  exact lv_iconst C.1 C.2.1 hd hv (k p e s m args below meth c H locs ls C hP hS hl hL)
theorem aw_bipush {n : Int} {v : Int32} (hd : decode M.2.1 pc = .ok (.bipush n, 2)) (hv : (Int8.ofInt n).toInt32 = v) (k : AW G d M Q (pc + 2) L (.inl v :: st) μ) : AW G d M Q pc L st μ := by
  intro p e s m args below meth c H locs ls C hP hS hl hL
  exact lv_bipush C.1 C.2.1 hd hv (k p e s m args below meth c H locs ls C hP hS hl hL)
theorem aw_sipush {n : Int} {v : Int32} (hd : decode M.2.1 pc = .ok (.sipush n, 3)) (hv : (Int16.ofInt n).toInt32 = v) (k : AW G d M Q (pc + 3) L (.inl v :: st) μ) : AW G d M Q pc L st μ := by
  intro p e s m args below meth c H locs ls C hP hS hl hL
  exact lv_sipush C.1 C.2.1 hd hv (k p e s m args below meth c H locs ls C hP hS hl hL)
theorem aw_ldc {i : Nat} {v : Int32} (hd : decode M.2.1 pc = .ok (.ldc i, 2)) (hw : Cond.constant M.1.cls i v ∈ gw_tbl) (k : AW G d M Q (pc + 2) L (.inl v :: st) μ) : AW G d M Q pc L st μ := by
  intro p e s m args below meth c H locs ls C hP hS hl hL
  exact lv_ldc C.1 C.2.1 C.2.2.2.2.1 (C.2.2.2.2.2.1 _ (mw_in hw)) hd (k p e s m args below meth c H locs ls C hP hS hl hL)
theorem aw_iload_n {i : Fin 4} {x : Int32} (hd : decode M.2.1 pc = .ok (.iload_n i, 1)) (hx : L[(i : Nat)]? = some (some (.inl x))) (k : AW G d M Q (pc + 1) L (.inl x :: st) μ) : AW G d M Q pc L st μ := by
  intro p e s m args below meth c H locs ls C hP hS hl hL
  exact lv_iload_n C.1 C.2.1 hd rfl (lv_get hl hx) (k p e s m args below meth c H locs ls C hP hS hl hL)
theorem aw_iload {i : Nat} {x : Int32} (hd : decode M.2.1 pc = .ok (.iload i, 2)) (hx : L[i]? = some (some (.inl x))) (k : AW G d M Q (pc + 2) L (.inl x :: st) μ) : AW G d M Q pc L st μ := by
  intro p e s m args below meth c H locs ls C hP hS hl hL
  exact lv_iload C.1 C.2.1 hd (lv_get hl hx) (k p e s m args below meth c H locs ls C hP hS hl hL)
theorem aw_aload_n {i : Fin 4} {x : Nat} (hd : decode M.2.1 pc = .ok (.aload_n i, 1)) (hx : L[(i : Nat)]? = some (some (.inr x))) (k : AW G d M Q (pc + 1) L (.inr x :: st) μ) : AW G d M Q pc L st μ := by
  intro p e s m args below meth c H locs ls C hP hS hl hL
  exact lv_aload_n C.1 C.2.1 hd rfl (lv_get hl hx) (k p e s m args below meth c H locs ls C hP hS hl hL)
theorem aw_aload {i : Nat} {x : Nat} (hd : decode M.2.1 pc = .ok (.aload i, 2)) (hx : L[i]? = some (some (.inr x))) (k : AW G d M Q (pc + 2) L (.inr x :: st) μ) : AW G d M Q pc L st μ := by
  intro p e s m args below meth c H locs ls C hP hS hl hL
  exact lv_aload C.1 C.2.1 hd (lv_get hl hx) (k p e s m args below meth c H locs ls C hP hS hl hL)
theorem aw_istore_n {i : Fin 4} {x : Int32} (hd : decode M.2.1 pc = .ok (.istore_n i, 1)) (hi : (i : Nat) < L.length) (k : AW G d M Q (pc + 1) (L.set i (some (.inl x))) st μ) : AW G d M Q pc L (.inl x :: st) μ := by
  intro p e s m args below meth c H locs ls C hP hS hl hL
  exact lv_istore_n C.1 C.2.1 hd rfl hl (by rw [← hL]; exact hi) rfl fun ls' h' => k p e s m args below meth c H locs ls' C hP hS (lv_upd (v := .inl x) hi h') (by rw [List.length_set]; exact hL)
theorem aw_istore {i : Nat} {x : Int32} (hd : decode M.2.1 pc = .ok (.istore i, 2)) (hi : i < L.length) (k : AW G d M Q (pc + 2) (L.set i (some (.inl x))) st μ) : AW G d M Q pc L (.inl x :: st) μ := by
  intro p e s m args below meth c H locs ls C hP hS hl hL
  exact lv_istore C.1 C.2.1 hd hl (by rw [← hL]; exact hi) rfl fun ls' h' => k p e s m args below meth c H locs ls' C hP hS (lv_upd (v := .inl x) hi h') (by rw [List.length_set]; exact hL)
theorem aw_iinc {i : Nat} {n : Int} {x v : Int32} (hd : decode M.2.1 pc = .ok (.iinc i n, 3)) (hx : L[i]? = some (some (.inl x))) (hv : Int32.ofInt n = v) (k : AW G d M Q (pc + 3) (L.set i (some (.inl (x + v)))) st μ) : AW G d M Q pc L st μ := by
  intro p e s m args below meth c H locs ls C hP hS hl hL
  have hi : i < L.length := (List.getElem?_eq_some_iff.mp hx).1
  have hm : (i, Value.int x) ∈ lvOf G 0 L := (lvOf_mem L 0 _).mpr ⟨i, .inl x, hx, by rw [Nat.zero_add]; rfl⟩
  obtain ⟨j, hj⟩ := List.getElem?_of_mem hm
  exact lv_iinc (v := x + v) C.1 C.2.1 hd hl hj (by rw [hv]) (by rw [← hL]; exact hi) rfl fun ls' h' => k p e s m args below meth c H locs ls' C hP hS (lv_upd (v := .inl (x + v)) hi h') (by rw [List.length_set]; exact hL)
theorem aw_iadd {x y : Int32} (hd : decode M.2.1 pc = .ok (.iadd, 1)) (k : AW G d M Q (pc + 1) L (.inl (x + y) :: st) μ) : AW G d M Q pc L (.inl y :: .inl x :: st) μ := by
  intro p e s m args below meth c H locs ls C hP hS hl hL
  exact lv_iadd C.1 C.2.1 hd (k p e s m args below meth c H locs ls C hP hS hl hL)
theorem aw_isub {x y : Int32} (hd : decode M.2.1 pc = .ok (.isub, 1)) (k : AW G d M Q (pc + 1) L (.inl (x - y) :: st) μ) : AW G d M Q pc L (.inl y :: .inl x :: st) μ := by
  intro p e s m args below meth c H locs ls C hP hS hl hL
  exact lv_isub C.1 C.2.1 hd (k p e s m args below meth c H locs ls C hP hS hl hL)
theorem aw_imul {x y : Int32} (hd : decode M.2.1 pc = .ok (.imul, 1)) (k : AW G d M Q (pc + 1) L (.inl (x * y) :: st) μ) : AW G d M Q pc L (.inl y :: .inl x :: st) μ := by
  intro p e s m args below meth c H locs ls C hP hS hl hL
  exact lv_imul C.1 C.2.1 hd (k p e s m args below meth c H locs ls C hP hS hl hL)
theorem aw_idiv {x y : Int32} (hd : decode M.2.1 pc = .ok (.idiv, 1)) (hy : ¬ y = 0) (k : AW G d M Q (pc + 1) L (.inl (x / y) :: st) μ) : AW G d M Q pc L (.inl y :: .inl x :: st) μ := by
  intro p e s m args below meth c H locs ls C hP hS hl hL
  exact lv_idiv C.1 C.2.1 hd hy (k p e s m args below meth c H locs ls C hP hS hl hL)
theorem aw_irem {x y : Int32} (hd : decode M.2.1 pc = .ok (.irem, 1)) (hy : ¬ y = 0) (k : AW G d M Q (pc + 1) L (.inl (x - x / y * y) :: st) μ) : AW G d M Q pc L (.inl y :: .inl x :: st) μ := by
  intro p e s m args below meth c H locs ls C hP hS hl hL
  exact lv_irem C.1 C.2.1 hd hy (k p e s m args below meth c H locs ls C hP hS hl hL)
theorem aw_iand {x y : Int32} (hd : decode M.2.1 pc = .ok (.iand, 1)) (k : AW G d M Q (pc + 1) L (.inl (x &&& y) :: st) μ) : AW G d M Q pc L (.inl y :: .inl x :: st) μ := by
  intro p e s m args below meth c H locs ls C hP hS hl hL
  exact lv_iand C.1 C.2.1 hd (k p e s m args below meth c H locs ls C hP hS hl hL)
theorem aw_ior {x y : Int32} (hd : decode M.2.1 pc = .ok (.ior, 1)) (k : AW G d M Q (pc + 1) L (.inl (x ||| y) :: st) μ) : AW G d M Q pc L (.inl y :: .inl x :: st) μ := by
  intro p e s m args below meth c H locs ls C hP hS hl hL
  exact lv_ior C.1 C.2.1 hd (k p e s m args below meth c H locs ls C hP hS hl hL)
theorem aw_ishl {x y : Int32} (hd : decode M.2.1 pc = .ok (.ishl, 1)) (k : AW G d M Q (pc + 1) L (.inl (x <<< (y &&& 31)) :: st) μ) : AW G d M Q pc L (.inl y :: .inl x :: st) μ := by
  intro p e s m args below meth c H locs ls C hP hS hl hL
  exact lv_ishl C.1 C.2.1 hd (k p e s m args below meth c H locs ls C hP hS hl hL)
theorem aw_ineg {x : Int32} (hd : decode M.2.1 pc = .ok (.ineg, 1)) (k : AW G d M Q (pc + 1) L (.inl (-x) :: st) μ) : AW G d M Q pc L (.inl x :: st) μ := by
  intro p e s m args below meth c H locs ls C hP hS hl hL
  exact lv_ineg C.1 C.2.1 hd (k p e s m args below meth c H locs ls C hP hS hl hL)
theorem aw_dup {v : AV} (hd : decode M.2.1 pc = .ok (.dup, 1)) (k : AW G d M Q (pc + 1) L (v :: v :: st) μ) : AW G d M Q pc L (v :: st) μ := by
  intro p e s m args below meth c H locs ls C hP hS hl hL
  exact lv_dup C.1 C.2.1 hd (cv_cat G v) (k p e s m args below meth c H locs ls C hP hS hl hL)
theorem aw_dup2 {v w : AV} (hd : decode M.2.1 pc = .ok (.dup2, 1)) (k : AW G d M Q (pc + 1) L (v :: w :: v :: w :: st) μ) : AW G d M Q pc L (v :: w :: st) μ := by
  intro p e s m args below meth c H locs ls C hP hS hl hL
  exact lv_dup2_11 C.1 C.2.1 hd (cv_cat G v) (cv_cat G w) (k p e s m args below meth c H locs ls C hP hS hl hL)
theorem aw_goto {off : Int} {tgt : Nat} (hd : decode M.2.1 pc = .ok (.goto off, 3)) (ht : (pc : Int) + off = (tgt : Int)) (k : AW G d M Q tgt L st μ) : AW G d M Q pc L st μ := by
  intro p e s m args below meth c H locs ls C hP hS hl hL
  exact lv_goto C.1 C.2.1 hd ht (k p e s m args below meth c H locs ls C hP hS hl hL)
theorem aw_if_eq {x : Int32} {off : Int} {tgt : Nat} (hd : decode M.2.1 pc = .ok (.ifCond .eq off, 3)) (ht : (pc : Int) + off = (tgt : Int)) (kt : x = 0 → AW G d M Q tgt L st μ) (kf : ¬ x = 0 → AW G d M Q (pc + 3) L st μ) : AW G d M Q pc L (.inl x :: st) μ := by
  intro p e s m args below meth c H locs ls C hP hS hl hL
  exact lv_if_eq C.1 C.2.1 hd ht (fun h => kt h p e s m args below meth c H locs ls C hP hS hl hL) (fun h => kf h p e s m args below meth c H locs ls C hP hS hl hL)
theorem aw_icmp_eq {x y : Int32} {off : Int} {tgt : Nat} (hd : decode M.2.1 pc = .ok (.if_icmp .eq off, 3)) (ht : (pc : Int) + off = (tgt : Int)) (kt : x = y → AW G d M Q tgt L st μ) (kf : ¬ x = y → AW G d M Q (pc + 3) L st μ) : AW G d M Q pc L (.inl y :: .inl x :: st) μ := by
  intro p e s m args below meth c H locs ls C hP hS hl hL
  exact lv_icmp_eq C.1 C.2.1 hd ht (fun h => kt h p e s m args below meth c H locs ls C hP hS hl hL) (fun h => kf h p e s m args below meth c H locs ls C hP hS hl hL)
theorem aw_if_ne {x : Int32} {off : Int} {tgt : Nat} (hd : decode M.2.1 pc = .ok (.ifCond .ne off, 3)) (ht : (pc : Int) + off = (tgt : Int)) (kt : ¬ x = 0 → AW G d M Q tgt L st μ) (kf : x = 0 → AW G d M Q (pc + 3) L st μ) : AW G d M Q pc L (.inl x :: st) μ := by
  intro p e s m args below meth c H locs ls C hP hS hl hL
  exact lv_if_ne C.1 C.2.1 hd ht (fun h => kt h p e s m args below meth c H locs ls C hP hS hl hL) (fun h => kf h p e s m args below meth c H locs ls C hP hS hl hL)
theorem aw_icmp_ne {x y : Int32} {off : Int} {tgt : Nat} (hd : decode M.2.1 pc = .ok (.if_icmp .ne off, 3)) (ht : (pc : Int) + off = (tgt : Int)) (kt : ¬ x = y → AW G d M Q tgt L st μ) (kf : x = y → AW G d M Q (pc + 3) L st μ) : AW G d M Q pc L (.inl y :: .inl x :: st) μ := by
  intro p e s m args below meth c H locs ls C hP hS hl hL
  exact lv_icmp_ne C.1 C.2.1 hd ht (fun h => kt h p e s m args below meth c H locs ls C hP hS hl hL) (fun h => kf h p e s m args below meth c H locs ls C hP hS hl hL)
theorem aw_if_lt {x : Int32} {off : Int} {tgt : Nat} (hd : decode M.2.1 pc = .ok (.ifCond .lt off, 3)) (ht : (pc : Int) + off = (tgt : Int)) (kt : x < 0 → AW G d M Q tgt L st μ) (kf : ¬ x < 0 → AW G d M Q (pc + 3) L st μ) : AW G d M Q pc L (.inl x :: st) μ := by
  intro p e s m args below meth c H locs ls C hP hS hl hL
  exact lv_if_lt C.1 C.2.1 hd ht (fun h => kt h p e s m args below meth c H locs ls C hP hS hl hL) (fun h => kf h p e s m args below meth c H locs ls C hP hS hl hL)
theorem aw_icmp_lt {x y : Int32} {off : Int} {tgt : Nat} (hd : decode M.2.1 pc = .ok (.if_icmp .lt off, 3)) (ht : (pc : Int) + off = (tgt : Int)) (kt : x < y → AW G d M Q tgt L st μ) (kf : ¬ x < y → AW G d M Q (pc + 3) L st μ) : AW G d M Q pc L (.inl y :: .inl x :: st) μ := by
  intro p e s m args below meth c H locs ls C hP hS hl hL
  exact lv_icmp_lt C.1 C.2.1 hd ht (fun h => kt h p e s m args below meth c H locs ls C hP hS hl hL) (fun h => kf h p e s m args below meth c H locs ls C hP hS hl hL)
theorem aw_if_ge {x : Int32} {off : Int} {tgt : Nat} (hd : decode M.2.1 pc = .ok (.ifCond .ge off, 3)) (ht : (pc : Int) + off = (tgt : Int)) (kt : 0 ≤ x → AW G d M Q tgt L st μ) (kf : ¬ 0 ≤ x → AW G d M Q (pc + 3) L st μ) : AW G d M Q pc L (.inl x :: st) μ := by
  intro p e s m args below meth c H locs ls C hP hS hl hL
  exact lv_if_ge C.1 C.2.1 hd ht (fun h => kt h p e s m args below meth c H locs ls C hP hS hl hL) (fun h => kf h p e s m args below meth c H locs ls C hP hS hl hL)
theorem aw_icmp_ge {x y : Int32} {off : Int} {tgt : Nat} (hd : decode M.2.1 pc = .ok (.if_icmp .ge off, 3)) (ht : (pc : Int) + off = (tgt : Int)) (kt : y ≤ x → AW G d M Q tgt L st μ) (kf : ¬ y ≤ x → AW G d M Q (pc + 3) L st μ) : AW G d M Q pc L (.inl y :: .inl x :: st) μ := by
  intro p e s m args below meth c H locs ls C hP hS hl hL
  exact lv_icmp_ge C.1 C.2.1 hd ht (fun h => kt h p e s m args below meth c H locs ls C hP hS hl hL) (fun h => kf h p e s m args below meth c H locs ls C hP hS hl hL)
theorem aw_if_gt {x : Int32} {off : Int} {tgt : Nat} (hd : decode M.2.1 pc = .ok (.ifCond .gt off, 3)) (ht : (pc : Int) + off = (tgt : Int)) (kt : 0 < x → AW G d M Q tgt L st μ) (kf : ¬ 0 < x → AW G d M Q (pc + 3) L st μ) : AW G d M Q pc L (.inl x :: st) μ := by
  intro p e s m args below meth c H locs ls C hP hS hl hL
  exact lv_if_gt C.1 C.2.1 hd ht (fun h => kt h p e s m args below meth c H locs ls C hP hS hl hL) (fun h => kf h p e s m args below meth c H locs ls C hP hS hl hL)
theorem aw_icmp_gt {x y : Int32} {off : Int} {tgt : Nat} (hd : decode M.2.1 pc = .ok (.if_icmp .gt off, 3)) (ht : (pc : Int) + off = (tgt : Int)) (kt : y < x → AW G d M Q tgt L st μ) (kf : ¬ y < x → AW G d M Q (pc + 3) L st μ) : AW G d M Q pc L (.inl y :: .inl x :: st) μ := by
  intro p e s m args below meth c H locs ls C hP hS hl hL
  exact lv_icmp_gt C.1 C.2.1 hd ht (fun h => kt h p e s m args below meth c H locs ls C hP hS hl hL) (fun h => kf h p e s m args below meth c H locs ls C hP hS hl hL)
theorem aw_if_le {x : Int32} {off : Int} {tgt : Nat} (hd : decode M.2.1 pc = .ok (.ifCond .le off, 3)) (ht : (pc : Int) + off = (tgt : Int)) (kt : x ≤ 0 → AW G d M Q tgt L st μ) (kf : ¬ x ≤ 0 → AW G d M Q (pc + 3) L st μ) : AW G d M Q pc L (.inl x :: st) μ := by
  intro p e s m args below meth c H locs ls C hP hS hl hL
  exact lv_if_le C.1 C.2.1 hd ht (fun h => kt h p e s m args below meth c H locs ls C hP hS hl hL) (fun h => kf h p e s m args below meth c H locs ls C hP hS hl hL)
theorem aw_icmp_le {x y : Int32} {off : Int} {tgt : Nat} (hd : decode M.2.1 pc = .ok (.if_icmp .le off, 3)) (ht : (pc : Int) + off = (tgt : Int)) (kt : x ≤ y → AW G d M Q tgt L st μ) (kf : ¬ x ≤ y → AW G d M Q (pc + 3) L st μ) : AW G d M Q pc L (.inl y :: .inl x :: st) μ := by
  intro p e s m args below meth c H locs ls C hP hS hl hL
  exact lv_icmp_le C.1 C.2.1 hd ht (fun h => kt h p e s m args below meth c H locs ls C hP hS hl hL) (fun h => kf h p e s m args below meth c H locs ls C hP hS hl hL)
theorem aw_table {dflt lo hi : Int} {offs : Array Int} {len : Nat} {x : Int32} {dt : Nat} {tg : List Nat} (hd : decode M.2.1 pc = .ok (.tableswitch dflt lo hi offs, len)) (hdt : (pc : Int) + dflt = (dt : Int)) (hlo : lo = 0) (hhi : hi + 1 = (tg.length : Int)) (htg : ∀ j, j < tg.length → ∃ off, offs[j]? = some off ∧ (pc : Int) + off = ((tg.getD j 0 : Nat) : Int))
    (kd : (x.toInt < 0 ∨ hi < x.toInt) → AW G d M Q dt L st μ) (kk : ∀ j, j < tg.length → x = nI j → AW G d M Q (tg.getD j 0) L st μ) : AW G d M Q pc L (.inl x :: st) μ := by
  intro p e s m args below meth c H locs ls C hP hS hl hL
  by_cases h1 : x.toInt < 0
  · exact lv_tableOut C.1 C.2.1 hd (Or.inl (by omega)) hdt (kd (Or.inl h1) p e s m args below meth c H locs ls C hP hS hl hL)
  · by_cases h2 : hi < x.toInt
    · exact lv_tableOut C.1 C.2.1 hd (Or.inr h2) hdt (kd (Or.inr h2) p e s m args below meth c H locs ls C hP hS hl hL)
    · have hj : x.toInt.toNat < tg.length := by omega
      have h31 : x.toInt.toNat < 2 ^ 31 := by have := x.toInt_lt; omega
      have hxj : x = nI x.toInt.toNat := by
        apply Int32.toInt_inj.mp
        rw [nI_toInt h31]; omega
      obtain ⟨off, ho, ht⟩ := htg _ hj
      exact lv_tableIn C.1 C.2.1 hd (by omega) h2 (by rw [show (x.toInt - lo).toNat = x.toInt.toNat by omega]; exact ho) ht (kk _ hj hxj p e s m args below meth c H locs ls C hP hS hl hL)
/-- field j of class ci, as entry idx of the class own names it -/
def fLnk (own : String) (idx ci j : Nat) : Prop := ∃ (C : String) (T : u_T) (N : Nat), classes[ci]? = some (C, T, N) ∧ j < N ∧ Cond.fieldLink own idx (T j).1 (T j).2.1 (T j).2.2.1 ∈ gw_tbl
def fInt (ci j : Nat) : Prop := ∃ (C : String) (T : u_T) (N : Nat), classes[ci]? = some (C, T, N) ∧ (T j).2.2.2 = false ∧ (T j).2.2.1 = "I"
def fBool (ci j : Nat) : Prop := ∃ (C : String) (T : u_T) (N : Nat), classes[ci]? = some (C, T, N) ∧ (T j).2.2.2 = false ∧ (T j).2.2.1 = "Z"
theorem rf_lt {k : Nat} {e : LayE} (h : lay[k]? = some e) : rf G k = gA G k := by
  have hk : k < NC := by rw [← lay_len]; exact (List.getElem?_eq_some_iff.mp h).1
  unfold rf
  rw [if_pos (Nat.lt_trans hk (by decide))]
theorem aw_get {k ci n j idx : Nat} {b : Bool} {ps : List (Option Nat)} (hd : decode M.2.1 pc = .ok (.getfield idx, 3)) (hlk : fLnk M.1.cls idx ci j) (hk : lay[k]? = some (some ci, n, b, ps)) (hj : j < n) {v : AV} (hv : fv G ps (μ k) j = cv G v)
    (kk : AW G d M Q (pc + 3) L (v :: st) μ) : AW G d M Q pc L (.inr k :: st) μ := by
  intro p e s m args below meth c H locs ls C hP hS hl hL
  obtain ⟨Cn, T, N, hc, hjN, hw⟩ := hlk
  obtain ⟨h1, h2, h3⟩ := cls_ok ci Cn T N hc
  show W _ _ _ _ _ _ _ _ _ _ _ _ _ _ _ (F0 m pc ls (.ref (rf G k) :: st.map (cv G)))
  rw [rf_lt hk]
  refine va_get (D := gD G) (ci := ci) (v := cv G v) (C := Cn) (T := T) (N := N) C.1 C.2.1 C.2.2.2.2.2.1 (fun w hw => mw_in (h1 w hw)) C.2.2.2.2.1 C.2.2.2.2.2.2.2.2.1 hP k (ws_at G μ hk).2 hc j hjN (C.2.2.2.2.2.1 _ (mw_in hw)) (fun _ h9 => h9) ?_ hd (kk p e s m args below meth c H locs ls C hP hS hl hL)
  show ((List.range n).map (fv G ps (μ k)))[j]? = _
  rw [List.getElem?_map, List.getElem?_range hj, Option.map_some, hv]
/-- an int or boolean field is read -/
theorem aw_getI {k ci n j idx : Nat} {b : Bool} {ps : List (Option Nat)} (hd : decode M.2.1 pc = .ok (.getfield idx, 3)) (hlk : fLnk M.1.cls idx ci j) (hk : lay[k]? = some (some ci, n, b, ps)) (hj : (decide (j < n) && decide (ps.getD j none = none)) = true)
    (kk : AW G d M Q (pc + 3) L (.inl (μ k j) :: st) μ) : AW G d M Q pc L (.inr k :: st) μ := by
  rw [Bool.and_eq_true, decide_eq_true_eq, decide_eq_true_eq] at hj
  refine aw_get hd hlk hk hj.1 ?_ kk
  unfold fv; rw [hj.2]; rfl
/-- a field that holds a cell is read -/
theorem aw_getR {k ci n j idx t : Nat} {b : Bool} {ps : List (Option Nat)} (hd : decode M.2.1 pc = .ok (.getfield idx, 3)) (hlk : fLnk M.1.cls idx ci j) (hk : lay[k]? = some (some ci, n, b, ps)) (hj : (decide (j < n) && (decide (ps.getD j none = some t) && decide (t < NC))) = true)
    (kk : AW G d M Q (pc + 3) L (.inr t :: st) μ) : AW G d M Q pc L (.inr k :: st) μ := by
  rw [Bool.and_eq_true, Bool.and_eq_true, decide_eq_true_eq, decide_eq_true_eq, decide_eq_true_eq] at hj
  refine aw_get hd hlk hk hj.1 ?_ kk
  unfold fv; rw [hj.2.1]
  show Value.ref _ = Value.ref (rf G t)
  unfold rf; rw [if_pos (Nat.lt_trans hj.2.2 (by decide))]
theorem aw_put {k ci n j idx : Nat} {b : Bool} {ps : List (Option Nat)} {x : Int32} (hd : decode M.2.1 pc = .ok (.putfield idx, 3)) (hlk : fLnk M.1.cls idx ci j) (hk : lay[k]? = some (some ci, n, b, ps)) (hj : (decide (j < n) && decide (ps.getD j none = none)) = true)
    {ty : FieldType} (hf : ∃ (C : String) (T : u_T) (N : Nat), classes[ci]? = some (C, T, N) ∧ (T j).2.2.2 = false ∧ parseFieldDescriptor (T j).2.2.1 = some ty) (hn : narrow ty (.int x) = .int x) (hfit : fits ty (.int x) = true)
    (kk : AW G d M Q (pc + 3) L st (up μ k j x)) : AW G d M Q pc L (.inl x :: .inr k :: st) μ := by
  intro p e s m args below meth c H locs ls C hP hS hl hL
  rw [Bool.and_eq_true, decide_eq_true_eq, decide_eq_true_eq] at hj
  obtain ⟨Cn, T, N, hc, hjN, hw⟩ := hlk
  obtain ⟨h1, ⟨ty0, h2⟩, h3⟩ := cls_ok ci Cn T N hc
  obtain ⟨C2, T2, N2, hc2, hfin, hds⟩ := hf
  cases hc.symm.trans hc2
  show W _ _ _ _ _ _ _ _ _ _ _ _ _ _ _ (F0 m pc ls (.int x :: .ref (rf G k) :: st.map (cv G)))
  rw [rf_lt hk]
  refine va_put (D := gD G) (ci := ci) (v := .int x) (ty := ty) (C := Cn) (T := T) (N := N) C.1 C.2.1 C.2.2.2.2.2.1 (fun w hw => mw_in (h1 w hw)) ty0 h2 h3 C.2.2.2.2.1 C.2.2.2.2.2.2.2.2.1 hP (ws_D C.2.2.2.2.2.2.2.1 μ) hS k (ws_at G μ hk).2 hc j hjN (C.2.2.2.2.2.1 _ (mw_in hw)) (fun _ h9 => h9) hfin hds hn hfit ?_ hd fun H1 locs1 hP1 _ hS1 => ?_
  · show j < ((List.range n).map (fv G ps (μ k))).length
    simpa using hj.1
  · rw [ws_set G μ (up μ k j x) hk (by rw [up_self]; show _ = Sum.inr (ci, ((List.range n).map (fv G ps (μ k))).set j (.int x)); rw [fv_set G ps (μ k) n j x hj.2]; rfl) (fun i hi => up_ne μ j x hi)] at hP1
    exact kk p e s m args below meth c H1 locs1 ls C hP1 hS1 hl hL
theorem aw_putI {k ci n j idx : Nat} {b : Bool} {ps : List (Option Nat)} {x : Int32} (hd : decode M.2.1 pc = .ok (.putfield idx, 3)) (hlk : fLnk M.1.cls idx ci j) (hf : fInt ci j) (hk : lay[k]? = some (some ci, n, b, ps)) (hj : (decide (j < n) && decide (ps.getD j none = none)) = true)
    (kk : AW G d M Q (pc + 3) L st (up μ k j x)) : AW G d M Q pc L (.inl x :: .inr k :: st) μ := by
  obtain ⟨C, T, N, h1, h2, h3⟩ := hf
  exact aw_put (ty := .int) hd hlk hk hj ⟨C, T, N, h1, h2, by rw [h3]; decide⟩ rfl rfl kk
theorem aw_putZ {k ci n j idx : Nat} {b : Bool} {ps : List (Option Nat)} {x : Int32} (hd : decode M.2.1 pc = .ok (.putfield idx, 3)) (hlk : fLnk M.1.cls idx ci j) (hf : fBool ci j) (hk : lay[k]? = some (some ci, n, b, ps)) (hj : (decide (j < n) && decide (ps.getD j none = none)) = true) (hx : x = 0 ∨ x = 1)
    (kk : AW G d M Q (pc + 3) L st (up μ k j x)) : AW G d M Q pc L (.inl x :: .inr k :: st) μ := by
  obtain ⟨C, T, N, h1, h2, h3⟩ := hf
  exact aw_put (ty := .boolean) hd hlk hk hj ⟨C, T, N, h1, h2, by rw [h3]; decide⟩ (by rcases hx with rfl | rfl <;> rfl) (by rcases hx with rfl | rfl <;> rfl) kk
theorem aw_iald {k n : Nat} {i : Int32} (hd : decode M.2.1 pc = .ok (.iaload, 1)) (hk : lay[k]? = some (none, n, false, [])) (hi : vp_in i n) (kk : AW G d M Q (pc + 1) L (.inl (μ k i.toNatClampNeg) :: st) μ) : AW G d M Q pc L (.inl i :: .inr k :: st) μ := by
  intro p e s m args below meth c H locs ls C hP hS hl hL
  show W _ _ _ _ _ _ _ _ _ _ _ _ _ _ _ (F0 m pc ls (.int i :: .ref (rf G k) :: st.map (cv G)))
  rw [rf_lt hk]
  exact va_iald C.1 C.2.1 C.2.2.2.2.2.2.2.2.1 hP k 0 (ws_at G μ hk).2 rfl hi hd (kk p e s m args below meth c H locs ls C hP hS hl hL)
theorem aw_zald {k n : Nat} {i : Int32} (hd : decode M.2.1 pc = .ok (.baload, 1)) (hk : lay[k]? = some (none, n, true, [])) (hi : vp_in i n) (kk : AW G d M Q (pc + 1) L (.inl (μ k i.toNatClampNeg) :: st) μ) : AW G d M Q pc L (.inl i :: .inr k :: st) μ := by
  intro p e s m args below meth c H locs ls C hP hS hl hL
  show W _ _ _ _ _ _ _ _ _ _ _ _ _ _ _ (F0 m pc ls (.int i :: .ref (rf G k) :: st.map (cv G)))
  rw [rf_lt hk]
  exact va_zald C.1 C.2.1 C.2.2.2.2.2.2.2.2.1 hP k 1 (ws_at G μ hk).2 rfl hi hd (kk p e s m args below meth c H locs ls C hP hS hl hL)
theorem aw_iast {k n : Nat} {i x : Int32} (hd : decode M.2.1 pc = .ok (.iastore, 1)) (hk : lay[k]? = some (none, n, false, [])) (hi : vp_in i n) (kk : AW G d M Q (pc + 1) L st (up μ k i.toNatClampNeg x)) : AW G d M Q pc L (.inl x :: .inl i :: .inr k :: st) μ := by
  intro p e s m args below meth c H locs ls C hP hS hl hL
  show W _ _ _ _ _ _ _ _ _ _ _ _ _ _ _ (F0 m pc ls (.int x :: .int i :: .ref (rf G k) :: st.map (cv G)))
  rw [rf_lt hk]
  refine va_iast C.1 C.2.1 C.2.2.2.2.2.2.2.2.1 hP (ws_D C.2.2.2.2.2.2.2.1 μ) hS k 0 (ws_at G μ hk).2 rfl hi hd fun H1 locs1 hP1 _ hS1 => ?_
  rw [ws_set G μ (up μ k i.toNatClampNeg x) hk (by rw [up_self]; rfl) (fun j hj => up_ne μ _ x hj)] at hP1
  exact kk p e s m args below meth c H1 locs1 ls C hP1 hS1 hl hL
theorem aw_zast {k n : Nat} {i x : Int32} (hd : decode M.2.1 pc = .ok (.bastore, 1)) (hk : lay[k]? = some (none, n, true, [])) (hi : vp_in i n) (hx : x = 0 ∨ x = 1) (kk : AW G d M Q (pc + 1) L st (up μ k i.toNatClampNeg x)) : AW G d M Q pc L (.inl x :: .inl i :: .inr k :: st) μ := by
  intro p e s m args below meth c H locs ls C hP hS hl hL
  show W _ _ _ _ _ _ _ _ _ _ _ _ _ _ _ (F0 m pc ls (.int x :: .int i :: .ref (rf G k) :: st.map (cv G)))
  rw [rf_lt hk]
  refine va_zast C.1 C.2.1 C.2.2.2.2.2.2.2.2.1 hP (ws_D C.2.2.2.2.2.2.2.1 μ) hS k 1 (ws_at G μ hk).2 rfl hi hd fun H1 locs1 hP1 _ hS1 => ?_
  have hb : vp_nar .boolean x = x := by rcases hx with rfl | rfl <;> rfl
  rw [hb, ws_set G μ (up μ k i.toNatClampNeg x) hk (by rw [up_self]; rfl) (fun j hj => up_ne μ _ x hj)] at hP1
  exact kk p e s m args below meth c H1 locs1 ls C hP1 hS1 hl hL
theorem aw_alen {k n : Nat} {v : Int32} (hd : decode M.2.1 pc = .ok (.arraylength, 1)) (hk : lay[k]? = some (none, n, false, [])) (hv : Int32.ofNat n = v) (kk : AW G d M Q (pc + 1) L (.inl v :: st) μ) : AW G d M Q pc L (.inr k :: st) μ := by
  intro p e s m args below meth c H locs ls C hP hS hl hL
  show W _ _ _ _ _ _ _ _ _ _ _ _ _ _ _ (F0 m pc ls (.ref (rf G k) :: st.map (cv G)))
  rw [rf_lt hk]
  exact va_alen C.1 C.2.1 C.2.2.2.2.2.2.2.2.1 hP k 0 (ws_at G μ hk).2 (ty := .int) rfl hv hd (kk p e s m args below meth c H locs ls C hP hS hl hL)
/-- static array t is named by entry idx of class own -/
def sLnk (own : String) (idx t : Nat) : Prop := ∃ q : String × String × List Int32, stt[t]? = some q ∧ (Cond.fieldLink own idx q.1 q.2.1 "[I" ∈ gw_tbl ∨ ∃ host, Cond.fieldLinkNest own idx q.1 q.2.1 "[I" host ∈ gw_tbl)
theorem aw_gets {idx t : Nat} (hd : decode M.2.1 pc = .ok (.getstatic idx, 3)) (hlk : sLnk M.1.cls idx t) (kk : AW G d M Q (pc + 3) L (.inr (1000 + t) :: st) μ) : AW G d M Q pc L st μ := by
  intro p e s m args below meth c H locs ls C hP hS hl hL
  obtain ⟨q, hq, hw⟩ := hlk
  obtain ⟨hZ, -⟩ := C.2.2.2.2.2.2.2.2.2 t q hq
  have k2 := kk p e s m args below meth c H locs ls C hP hS hl hL
  have e2 : (List.map (cv G) (.inr (1000 + t) :: st)) = Value.ref (gS G t) :: st.map (cv G) := by
    rw [List.map_cons]
    show Value.ref (rf G (1000 + t)) :: _ = _
    unfold rf
    rw [if_neg (by omega), Nat.add_sub_cancel_left]
  rw [e2] at k2
  rcases hw with hw | ⟨host, hw⟩
  · exact va_gets C.1 C.2.1 hZ hS C.2.2.2.2.1 (C.2.2.2.2.2.1 _ (mw_in hw)) (fun _ h => h) hd k2
  · exact va_getsN C.1 C.2.1 hZ hS C.2.2.2.2.1 (C.2.2.2.2.2.1 _ (mw_in hw)) (fun _ h => h) hd k2
theorem aw_sald {t : Nat} {q : String × String × List Int32} {i : Int32} (hd : decode M.2.1 pc = .ok (.iaload, 1)) (hq : stt[t]? = some q) (hi : vp_in i q.2.2.length) (kk : AW G d M Q (pc + 1) L (.inl (q.2.2.getD i.toNatClampNeg 0) :: st) μ) : AW G d M Q pc L (.inl i :: .inr (1000 + t) :: st) μ := by
  intro p e s m args below meth c H locs ls C hP hS hl hL
  obtain ⟨-, hT⟩ := C.2.2.2.2.2.2.2.2.2 t q hq
  show W _ _ _ _ _ _ _ _ _ _ _ _ _ _ _ (F0 m pc ls (.int i :: .ref (rf G (1000 + t)) :: st.map (cv G)))
  unfold rf
  rw [if_neg (by omega), Nat.add_sub_cancel_left]
  exact va_ti C.1 C.2.1 hT hS hi rfl hd (kk p e s m args below meth c H locs ls C hP hS hl hL)
theorem aw_slen {t : Nat} {q : String × String × List Int32} {v : Int32} (hd : decode M.2.1 pc = .ok (.arraylength, 1)) (hq : stt[t]? = some q) (hv : Int32.ofNat q.2.2.length = v) (kk : AW G d M Q (pc + 1) L (.inl v :: st) μ) : AW G d M Q pc L (.inr (1000 + t) :: st) μ := by
  intro p e s m args below meth c H locs ls C hP hS hl hL
  obtain ⟨-, hT⟩ := C.2.2.2.2.2.2.2.2.2 t q hq
  show W _ _ _ _ _ _ _ _ _ _ _ _ _ _ _ (F0 m pc ls (.ref (rf G (1000 + t)) :: st.map (cv G)))
  unfold rf
  rw [if_neg (by omega), Nat.add_sub_cancel_left]
  exact va_tlen C.1 C.2.1 hT hS hv hd (kk p e s m args below meth c H locs ls C hP hS hl hL)
theorem aw_iret {x : Int32} (hd : decode M.2.1 pc = .ok (.ireturn, 1)) (hr : M.2.2.2 = some .int) (hq : Q x μ) : AW G d M Q pc L [.inl x] μ := by
  intro p e s m args below meth c H locs ls C hP hS hl hL
  have hr2 : meth.sig.returnType = some .int := C.2.2.1.trans hr
  refine W.iret (v := x) C.1 C.2.1 hr2 (fun t ht hW => ?_) hS.2.2 hd C.2.2.2.2.2.2.1
  rw [hr]
  exact ⟨⟨x, μ, rfl, hq, by dsimp only; rw [ht]; exact hP⟩, hS.F ht⟩
theorem aw_zret {x : Int32} (hd : decode M.2.1 pc = .ok (.ireturn, 1)) (hr : M.2.2.2 = some .boolean) (hx : x = 0 ∨ x = 1) (hq : Q x μ) : AW G d M Q pc L [.inl x] μ := by
  intro p e s m args below meth c H locs ls C hP hS hl hL
  have hr2 : meth.sig.returnType = some .boolean := C.2.2.1.trans hr
  refine W.zret (v := x) C.1 C.2.1 hr2 (by rcases hx with rfl | rfl <;> rfl) (fun t ht hW => ?_) hS.2.2 hd C.2.2.2.2.2.2.1
  rw [hr]
  exact ⟨⟨x, μ, rfl, hq, by dsimp only; rw [ht]; exact hP⟩, hS.F ht⟩
theorem aw_vret (hd : decode M.2.1 pc = .ok (.return_, 1)) (hr : M.2.2.2 = none) (hq : Q 0 μ) : AW G d M Q pc L [] μ := by
  intro p e s m args below meth c H locs ls C hP hS hl hL
  have hr2 : meth.sig.returnType = none := C.2.2.1.trans hr
  refine W.vret C.1 C.2.1 hr2 (fun t ht hW => ?_) hS.2.2 hd C.2.2.2.2.2.2.1
  rw [hr]
  exact ⟨⟨μ, rfl, hq, by dsimp only; rw [ht]; exact hP⟩, hS.F ht⟩
end Rules
end
section
/-! calls -/
section Calls
variable {G : Gp} {d : Nat} {M M' : Mt} {Q Q' : Int32 → Mem → Prop} {pc : Nat} {L : List (Option AV)} {st : List AV} {μ : Mem}
def cB (own : String) (idx : Nat) (M' : Mt) (n : Nat) : Prop := Cond.methodLink own idx M'.1 ∈ gw_tbl ∧ Cond.initialized M'.1.cls ∈ gw_tbl ∧ Cond.code M'.1 M'.2.1 M'.2.2.1 M'.2.2.2 ∈ gw_tbl ∧ (M'.1.cls ≠ "java/lang/invoke/MethodHandle" ∧ M'.1.cls ≠ "java/lang/invoke/VarHandle" ∧ (parseMethodDescriptor M'.1.desc).map (fun d => d.parameters.length) = some n) ∧ M'.2.2.1 ≤ 40
def cV (own : String) (idx : Nat) (M' : Mt) (n : Nat) : Prop := cB own idx M' n ∧ Cond.instanceMethod M'.1 ∈ gw_tbl ∧ Cond.selects M'.1.cls M'.1 M'.1 ∈ gw_tbl
def cS (own : String) (idx : Nat) (M' : Mt) (n : Nat) : Prop := cB own idx M' n ∧ Cond.static M'.1 ∈ gw_tbl
theorem cat_sum (G : Gp) : ∀ st : List AV, ((st.map (cv G)).map fun v => v.category).sum = st.length := by
  intro st
  induction st with
  | nil => rfl
  | cons a t ih => simp only [List.map_cons, List.sum_cons, cv_cat, ih, List.length_cons]; omega
theorem pre_blind (G : Gp) (av : List Value) (μ : Mem) : FrameBlind (va_Pc av (PreW G μ)) := by
  intro a U g mk q
  obtain ⟨q0, q1, q2, q3, q4⟩ := q
  exact ⟨q0, q1, q2, va_K.moved (u := U) (U := U.calling g mk a) (Vm.Alike.refl U.vm) q3, fun k x hx => ⟨va_Z.moved (u := U) (U := U.calling g mk a) (Vm.Alike.refl U.vm) (q4 k x hx).1, va_T.moved (u := U) (U := U.calling g mk a) (Vm.Alike.refl U.vm) (q4 k x hx).2⟩⟩
theorem pre_at {p : Program} {s : State} {m : MethodId} {args : Array Value} {meth : Method} {c : Code} {H : Heap} {locs : List Loc} (C : Cx G M p s m args meth c) (hP : va_P (gD G) classes (wsM G μ) H) (hS : va_S (AA G) s.heap H locs) {U : State} (hU : U.heap = H) (hW : s.WarmedH U.vm) : PreW G μ U := by
  refine ⟨C.2.2.2.2.2.2.2.1, by rw [hU]; exact hP, va_K.moved hW.alike C.2.2.2.2.2.2.2.2.1, fun k x hx => ?_⟩
  obtain ⟨h1, h2⟩ := C.2.2.2.2.2.2.2.2.2 k x hx
  exact ⟨(h1.moved hW.alike).kept (fun a ha hA => by rw [hU]; exact hS.2.1 a ha hA), (h2.moved hW.alike).kept (fun a ha hA => by rw [hU]; exact hS.2.1 a ha hA)⟩
theorem room_ok {n : Nat} (h : n ≤ 40) : (rmd d).frames + 1 ≤ (rmd (d + 1)).frames ∧ 8 + (n + 11) + (rmd d).locals ≤ (rmd (d + 1)).locals := by
  refine ⟨Nat.le_refl _, ?_⟩
  show 8 + (n + 11) + 64 * d ≤ 64 * (d + 1)
  omega
theorem cB_use {own : String} {idx n : Nat} {args : Array Value} {s : State} (hts : ∀ w ∈ mwords M, w.before args s = true) (h : cB own idx M' n) : CallB (rmd (d + 1)) s args own idx M'.1 M'.2.1 M'.2.2.1 M'.2.2.2 (mwords M') (rmd d) 0 0 n :=
  callB_of n hts (mw_good h.2.2.1) rfl rfl rfl (hts _ (mw_in h.2.1)) (hts _ (mw_in h.1)) h.2.2.2.1 (room_ok h.2.2.2.2)
theorem aw_callV {k ci nf n idx : Nat} {b : Bool} {ps : List (Option Nat)} {as : List AV} {ty : FieldType} (hd : decode M.2.1 pc = .ok (.invokevirtual idx, 3)) (hlk : cV M.1.cls idx M' n) (hk : lay[k]? = some (some ci, nf, b, ps)) (hc : (classes.getD ci ("", fun _ => ("", "", "", false), 0)).1 = M'.1.cls) (hci : ci < classes.length) (hn : as.length = n) (hst : st.length ≤ 8) (hr : M'.2.2.2 = some ty)
    (hm : Ct G d M' (.inr k :: as) μ Q') (kk : ∀ r u, Q' r u → AW G (d + 1) M Q (pc + 3) L (.inl r :: st) u) : AW G (d + 1) M Q pc L (as.reverse ++ .inr k :: st) μ := by
  intro p e s m args below meth c H locs ls C hP hS hl hL
  have hm' : Met G.1 M'.1 (mwords M') (rmd d) (va_Pc ((.inr k :: as).map (cv G)) (PreW G μ)) (va_Qi Q' (fun u t => va_P (gD G) classes (wsM G u) t.heap) (AA G)) 0 0 (AA G) := by
    have h2 := hm
    unfold Ct at h2
    rw [hr] at h2
    exact h2
  have hcl : classes[ci]? = some (classes.getD ci ("", fun _ => ("", "", "", false), 0)) := by
    rw [List.getD_eq_getElem?_getD, List.getElem?_eq_getElem hci]; rfl
  have hrec := va_recv C.2.2.2.2.2.2.2.2.1 hP hcl (q0 := k) (a := gA G k) (fs := (List.range nf).map (fv G ps (μ k))) (ws_at G μ hk).2
  rw [hc] at hrec
  have hstk : (as.reverse ++ .inr k :: st).map (cv G) = (as.map (cv G)).reverse ++ .ref (gA G k) :: st.map (cv G) := by
    rw [List.map_append, List.map_reverse, List.map_cons]
    show _ ++ Value.ref (rf G k) :: _ = _
    rw [rf_lt hk]
  rw [hstk]
  refine va_calli (va_runV (As := as.map (cv G)) (rest := st.map (cv G)) (C := M'.1.cls) (b := gA G k) ⟨C.1, C.2.1, C.2.2.2.1, C.2.2.2.2.1, C.2.2.2.2.2.1⟩ hm' ⟨cB_use C.2.2.2.2.2.1 hlk.1, C.2.2.2.2.2.1 _ (mw_in hlk.2.1), C.2.2.2.2.2.1 _ (mw_in hlk.2.2)⟩ ⟨pre_blind G _ μ, hrec, fun U hU hW => ⟨?_, pre_at C hP hS hU hW⟩⟩ rfl (by rw [List.length_map]; exact hn) (by rw [hl.1]) rfl (lv_room (by rw [cat_sum]; exact hst)) hd ⟨Nat.le_refl _, Nat.le_refl _⟩) hS (fun _ _ h => h) (fun _ h => h) (fun r u t H1 locs1 ht hvm hw hB hz1 hk1 hS1 => ?_)
  · rw [List.map_cons]
    show (Value.ref (gA G k) :: _).toArray = (Value.ref (rf G k) :: _).toArray
    rw [rf_lt hk]
  · rw [ht] at hB
    exact kk r u hw p e s m args below meth c H1 locs1 ls C hB hS1 hl hL
theorem aw_callVv {k ci nf n idx : Nat} {b : Bool} {ps : List (Option Nat)} {as : List AV} (hd : decode M.2.1 pc = .ok (.invokevirtual idx, 3)) (hlk : cV M.1.cls idx M' n) (hk : lay[k]? = some (some ci, nf, b, ps)) (hc : (classes.getD ci ("", fun _ => ("", "", "", false), 0)).1 = M'.1.cls) (hci : ci < classes.length) (hn : as.length = n) (hst : st.length ≤ 8) (hr : M'.2.2.2 = none)
    (hm : Ct G d M' (.inr k :: as) μ Q') (kk : ∀ u, Q' 0 u → AW G (d + 1) M Q (pc + 3) L st u) : AW G (d + 1) M Q pc L (as.reverse ++ .inr k :: st) μ := by
  intro p e s m args below meth c H locs ls C hP hS hl hL
  have hm' : Met G.1 M'.1 (mwords M') (rmd d) (va_Pc ((.inr k :: as).map (cv G)) (PreW G μ)) (va_Qv (fun u => Q' 0 u) (fun u t => va_P (gD G) classes (wsM G u) t.heap) (AA G)) 0 0 (AA G) := by
    have h2 := hm
    unfold Ct at h2
    rw [hr] at h2
    exact h2
  have hcl : classes[ci]? = some (classes.getD ci ("", fun _ => ("", "", "", false), 0)) := by
    rw [List.getD_eq_getElem?_getD, List.getElem?_eq_getElem hci]; rfl
  have hrec := va_recv C.2.2.2.2.2.2.2.2.1 hP hcl (q0 := k) (a := gA G k) (fs := (List.range nf).map (fv G ps (μ k))) (ws_at G μ hk).2
  rw [hc] at hrec
  have hstk : (as.reverse ++ .inr k :: st).map (cv G) = (as.map (cv G)).reverse ++ .ref (gA G k) :: st.map (cv G) := by
    rw [List.map_append, List.map_reverse, List.map_cons]
    show _ ++ Value.ref (rf G k) :: _ = _
    rw [rf_lt hk]
  rw [hstk]
  refine va_callv (va_runV (As := as.map (cv G)) (rest := st.map (cv G)) (C := M'.1.cls) (b := gA G k) ⟨C.1, C.2.1, C.2.2.2.1, C.2.2.2.2.1, C.2.2.2.2.2.1⟩ hm' ⟨cB_use C.2.2.2.2.2.1 hlk.1, C.2.2.2.2.2.1 _ (mw_in hlk.2.1), C.2.2.2.2.2.1 _ (mw_in hlk.2.2)⟩ ⟨pre_blind G _ μ, hrec, fun U hU hW => ⟨?_, pre_at C hP hS hU hW⟩⟩ rfl (by rw [List.length_map]; exact hn) (by rw [hl.1]) rfl (lv_room (by rw [cat_sum]; exact hst)) hd ⟨Nat.le_refl _, Nat.le_refl _⟩) hS (fun _ _ h => h) (fun _ h => h) (fun u t H1 locs1 ht hvm hw hB hz1 hk1 hS1 => ?_)
  · rw [List.map_cons]
    show (Value.ref (gA G k) :: _).toArray = (Value.ref (rf G k) :: _).toArray
    rw [rf_lt hk]
  · rw [ht] at hB
    exact kk u hw p e s m args below meth c H1 locs1 ls C hB hS1 hl hL
theorem aw_callS {n idx : Nat} {as : List AV} {ty : FieldType} (hd : decode M.2.1 pc = .ok (.invokestatic idx, 3)) (hlk : cS M.1.cls idx M' n) (hn : as.length = n) (hst : st.length ≤ 8) (hr : M'.2.2.2 = some ty)
    (hm : Ct G d M' as μ Q') (kk : ∀ r u, Q' r u → AW G (d + 1) M Q (pc + 3) L (.inl r :: st) u) : AW G (d + 1) M Q pc L (as.reverse ++ st) μ := by
  intro p e s m args below meth c H locs ls C hP hS hl hL
  have hm' : Met G.1 M'.1 (mwords M') (rmd d) (va_Pc (as.map (cv G)) (PreW G μ)) (va_Qi Q' (fun u t => va_P (gD G) classes (wsM G u) t.heap) (AA G)) 0 0 (AA G) := by
    have h2 := hm
    unfold Ct at h2
    rw [hr] at h2
    exact h2
  rw [List.map_append, List.map_reverse]
  refine va_calli (va_runS (As := as.map (cv G)) (rest := st.map (cv G)) ⟨C.1, C.2.1, C.2.2.2.1, C.2.2.2.2.1, C.2.2.2.2.2.1⟩ hm' ⟨cB_use C.2.2.2.2.2.1 hlk.1, C.2.2.2.2.2.1 _ (mw_in hlk.2)⟩ ⟨pre_blind G _ μ, fun U hU hW => ⟨rfl, pre_at C hP hS hU hW⟩⟩ rfl (by rw [List.length_map]; exact hn) (by rw [hl.1]) rfl (lv_room (by rw [cat_sum]; exact hst)) hd ⟨Nat.le_refl _, Nat.le_refl _⟩) hS (fun _ _ h => h) (fun _ h => h) (fun r u t H1 locs1 ht hvm hw hB hz1 hk1 hS1 => ?_)
  rw [ht] at hB
  exact kk r u hw p e s m args below meth c H1 locs1 ls C hB hS1 hl hL
theorem aw_callSv {n idx : Nat} {as : List AV} (hd : decode M.2.1 pc = .ok (.invokestatic idx, 3)) (hlk : cS M.1.cls idx M' n) (hn : as.length = n) (hst : st.length ≤ 8) (hr : M'.2.2.2 = none)
    (hm : Ct G d M' as μ Q') (kk : ∀ u, Q' 0 u → AW G (d + 1) M Q (pc + 3) L st u) : AW G (d + 1) M Q pc L (as.reverse ++ st) μ := by
  intro p e s m args below meth c H locs ls C hP hS hl hL
  have hm' : Met G.1 M'.1 (mwords M') (rmd d) (va_Pc (as.map (cv G)) (PreW G μ)) (va_Qv (fun u => Q' 0 u) (fun u t => va_P (gD G) classes (wsM G u) t.heap) (AA G)) 0 0 (AA G) := by
    have h2 := hm
    unfold Ct at h2
    rw [hr] at h2
    exact h2
  rw [List.map_append, List.map_reverse]
  refine va_callv (va_runS (As := as.map (cv G)) (rest := st.map (cv G)) ⟨C.1, C.2.1, C.2.2.2.1, C.2.2.2.2.1, C.2.2.2.2.2.1⟩ hm' ⟨cB_use C.2.2.2.2.2.1 hlk.1, C.2.2.2.2.2.1 _ (mw_in hlk.2)⟩ ⟨pre_blind G _ μ, fun U hU hW => ⟨rfl, pre_at C hP hS hU hW⟩⟩ rfl (by rw [List.length_map]; exact hn) (by rw [hl.1]) rfl (lv_room (by rw [cat_sum]; exact hst)) hd ⟨Nat.le_refl _, Nat.le_refl _⟩) hS (fun _ _ h => h) (fun _ h => h) (fun u t H1 locs1 ht hvm hw hB hz1 hk1 hS1 => ?_)
  rw [ht] at hB
  exact kk u hw p e s m args below meth c H1 locs1 ls C hB hS1 hl hL
def cpm (μ : Mem) (k0 k1 sp dp n : Nat) : Mem := fun c j => if c = k1 then va_cpy (μ k0) (μ k1) sp dp n j else μ c j
theorem aw_copy {idx k0 k1 n0 n1 : Nat} {sp dp n : Int32} (hd : decode M.2.1 pc = .ok (.invokestatic idx, 3)) (hlk : Cond.methodLink M.1.cls idx arraycopyName ∈ gw_tbl ∧ Cond.native arraycopyName ∈ gw_tbl ∧ Cond.static arraycopyName ∈ gw_tbl ∧ Cond.initialized "java/lang/System" ∈ gw_tbl) (hk0 : lay[k0]? = some (none, n0, false, [])) (hk1 : lay[k1]? = some (none, n1, false, []))
    (h1 : ¬ sp < 0) (h2 : ¬ dp < 0) (h3 : ¬ n < 0) (h4 : sp.toNatClampNeg + n.toNatClampNeg ≤ n0) (h5 : dp.toNatClampNeg + n.toNatClampNeg ≤ n1) (hst : st.length ≤ 8) (hd1 : 1 ≤ d)
    (kk : AW G d M Q (pc + 3) L st (cpm μ k0 k1 sp.toNatClampNeg dp.toNatClampNeg n.toNatClampNeg)) : AW G d M Q pc L (.inl n :: .inl dp :: .inr k1 :: .inl sp :: .inr k0 :: st) μ := by
  intro p e s m args below meth c H locs ls C hP hS hl hL
  show W _ _ _ _ _ _ _ _ _ _ _ _ _ _ _ (F0 m pc ls (.int n :: .int dp :: .ref (rf G k1) :: .int sp :: .ref (rf G k0) :: st.map (cv G)))
  rw [rf_lt hk0, rf_lt hk1]
  have hts := C.2.2.2.2.2.1
  refine va_copyi C.1 C.2.1 (C.2.2.2.1.trans hl.1.symm) C.2.2.2.2.1 (hts _ (mw_in hlk.1)) (hts _ (mw_in hlk.2.1)) (hts _ (mw_in hlk.2.2.1)) (hts _ (mw_in hlk.2.2.2)) C.2.2.2.2.2.2.2.2.1 hP (ws_D C.2.2.2.2.2.2.2.1 μ) hS k0 k1 0 0 (ty := .int) (ws_at G μ hk0).2 (ws_at G μ hk1).2 rfl rfl rfl h1 h2 h3 h4 h5 (fun _ _ => rfl) hd1 ?_ hd fun H1 locs1 hP1 _ hS1 => ?_
  · rw [cat_sum]
    show _ ≤ 64 * d
    have : nativeFrameWords "java/lang/System" "arraycopy" 5 + 11 ≤ 56 := by decide
    omega
  · rw [ws_set G μ (cpm μ k0 k1 sp.toNatClampNeg dp.toNatClampNeg n.toNatClampNeg) hk1 (by rw [show cpm μ k0 k1 sp.toNatClampNeg dp.toNatClampNeg n.toNatClampNeg k1 = va_cpy (μ k0) (μ k1) sp.toNatClampNeg dp.toNatClampNeg n.toNatClampNeg from by funext i; simp [cpm]]; rfl) (fun j hj => by funext i; simp [cpm, hj])] at hP1
    exact kk p e s m args below meth c H1 locs1 ls C hP1 hS1 hl hL
end Calls
end
