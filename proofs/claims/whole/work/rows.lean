section
-- ===== PART A: goes FIRST, ahead of the names: the tables' words, and 'selects' of the private methods out of them =====
/-- a private method of a class that the tables say can be made, by its rows of tables_1 -/
def lw_okq (q : MethodName × Nat) : Prop := (q.1.cls ≠ "java/lang/invoke/MethodHandle" ∧ q.1.cls ≠ "java/lang/invoke/VarHandle") ∧ Cond.instantiable q.1.cls q.2 ∈ tables_1 ∧ Cond.privateMethod q.1 ∈ tables_1 ∧ Cond.instanceMethod q.1 ∈ tables_1
theorem lw_p0 : lw_okq (⟨"BurstFinder$Data", "takePending", "()V"⟩, 6) := ⟨⟨by decide +kernel, by decide +kernel⟩, List.mem_of_getElem? (i := 24) (by decide +kernel), List.mem_of_getElem? (i := 155) (by decide +kernel), List.mem_of_getElem? (i := 156) (by decide +kernel)⟩
theorem lw_p1 : lw_okq (⟨"BurstFinder$Data", "openColumn", "()I"⟩, 6) := ⟨⟨by decide +kernel, by decide +kernel⟩, List.mem_of_getElem? (i := 24) (by decide +kernel), List.mem_of_getElem? (i := 159) (by decide +kernel), List.mem_of_getElem? (i := 160) (by decide +kernel)⟩
theorem lw_p2 : lw_okq (⟨"BurstFinder", "forgetResults", "()V"⟩, 4) := ⟨⟨by decide +kernel, by decide +kernel⟩, List.mem_of_getElem? (i := 16) (by decide +kernel), List.mem_of_getElem? (i := 166) (by decide +kernel), List.mem_of_getElem? (i := 167) (by decide +kernel)⟩
theorem lw_p3 : lw_okq (⟨"BurstFinder$Text", "indexOfFirstError", "()I"⟩, 2) := ⟨⟨by decide +kernel, by decide +kernel⟩, List.mem_of_getElem? (i := 59) (by decide +kernel), List.mem_of_getElem? (i := 178) (by decide +kernel), List.mem_of_getElem? (i := 179) (by decide +kernel)⟩
theorem lw_p4 : lw_okq (⟨"BurstFinder$Lines", "refresh", "(LBurstFinder$Data;)V"⟩, 7) := ⟨⟨by decide +kernel, by decide +kernel⟩, List.mem_of_getElem? (i := 75) (by decide +kernel), List.mem_of_getElem? (i := 189) (by decide +kernel), List.mem_of_getElem? (i := 190) (by decide +kernel)⟩
theorem lw_p5 : lw_okq (⟨"BurstFinder$Lines", "copyPowers", "(LBurstFinder$Data;)V"⟩, 7) := ⟨⟨by decide +kernel, by decide +kernel⟩, List.mem_of_getElem? (i := 75) (by decide +kernel), List.mem_of_getElem? (i := 193) (by decide +kernel), List.mem_of_getElem? (i := 194) (by decide +kernel)⟩
theorem lw_p6 : lw_okq (⟨"BurstFinder$Data", "powerAt", "(II)I"⟩, 6) := ⟨⟨by decide +kernel, by decide +kernel⟩, List.mem_of_getElem? (i := 24) (by decide +kernel), List.mem_of_getElem? (i := 197) (by decide +kernel), List.mem_of_getElem? (i := 198) (by decide +kernel)⟩
theorem lw_p7 : lw_okq (⟨"BurstFinder$Lines", "joinBlocks", "(I)V"⟩, 7) := ⟨⟨by decide +kernel, by decide +kernel⟩, List.mem_of_getElem? (i := 75) (by decide +kernel), List.mem_of_getElem? (i := 201) (by decide +kernel), List.mem_of_getElem? (i := 202) (by decide +kernel)⟩
theorem lw_p8 : lw_okq (⟨"BurstFinder$Lines", "joinRows", "(III)V"⟩, 7) := ⟨⟨by decide +kernel, by decide +kernel⟩, List.mem_of_getElem? (i := 75) (by decide +kernel), List.mem_of_getElem? (i := 205) (by decide +kernel), List.mem_of_getElem? (i := 206) (by decide +kernel)⟩
theorem lw_p9 : lw_okq (⟨"BurstFinder$Lines", "linesOf", "(I)I"⟩, 7) := ⟨⟨by decide +kernel, by decide +kernel⟩, List.mem_of_getElem? (i := 75) (by decide +kernel), List.mem_of_getElem? (i := 209) (by decide +kernel), List.mem_of_getElem? (i := 210) (by decide +kernel)⟩
theorem lw_p10 : lw_okq (⟨"BurstFinder$Lines", "measure", "(I)V"⟩, 7) := ⟨⟨by decide +kernel, by decide +kernel⟩, List.mem_of_getElem? (i := 75) (by decide +kernel), List.mem_of_getElem? (i := 216) (by decide +kernel), List.mem_of_getElem? (i := 217) (by decide +kernel)⟩
theorem lw_p11 : lw_okq (⟨"BurstFinder$Lines", "sumAt", "(II)I"⟩, 7) := ⟨⟨by decide +kernel, by decide +kernel⟩, List.mem_of_getElem? (i := 75) (by decide +kernel), List.mem_of_getElem? (i := 220) (by decide +kernel), List.mem_of_getElem? (i := 221) (by decide +kernel)⟩
theorem lw_p12 : lw_okq (⟨"BurstFinder$Data", "countMasked", "()I"⟩, 6) := ⟨⟨by decide +kernel, by decide +kernel⟩, List.mem_of_getElem? (i := 24) (by decide +kernel), List.mem_of_getElem? (i := 229) (by decide +kernel), List.mem_of_getElem? (i := 230) (by decide +kernel)⟩
theorem lw_p13 : lw_okq (⟨"java/lang/Throwable", "fillInStackTrace", "(I)Ljava/lang/Throwable;"⟩, 6) := ⟨⟨by decide +kernel, by decide +kernel⟩, List.mem_of_getElem? (i := 271) (by decide +kernel), List.mem_of_getElem? (i := 269) (by decide +kernel), List.mem_of_getElem? (i := 270) (by decide +kernel)⟩
theorem lw_p14 : lw_okq (⟨"BurstFinder", "mixChannels", "(J)J"⟩, 4) := ⟨⟨by decide +kernel, by decide +kernel⟩, List.mem_of_getElem? (i := 16) (by decide +kernel), List.mem_of_getElem? (i := 305) (by decide +kernel), List.mem_of_getElem? (i := 306) (by decide +kernel)⟩
theorem lw_p15 : lw_okq (⟨"BurstFinder$Data", "sumOfChannel", "(I)I"⟩, 6) := ⟨⟨by decide +kernel, by decide +kernel⟩, List.mem_of_getElem? (i := 24) (by decide +kernel), List.mem_of_getElem? (i := 309) (by decide +kernel), List.mem_of_getElem? (i := 310) (by decide +kernel)⟩
def lw_privs_1 : List (MethodName × Nat) := [(⟨"BurstFinder$Data", "takePending", "()V"⟩, 6), (⟨"BurstFinder$Data", "openColumn", "()I"⟩, 6), (⟨"BurstFinder", "forgetResults", "()V"⟩, 4), (⟨"BurstFinder$Text", "indexOfFirstError", "()I"⟩, 2), (⟨"BurstFinder$Lines", "refresh", "(LBurstFinder$Data;)V"⟩, 7), (⟨"BurstFinder$Lines", "copyPowers", "(LBurstFinder$Data;)V"⟩, 7), (⟨"BurstFinder$Data", "powerAt", "(II)I"⟩, 6), (⟨"BurstFinder$Lines", "joinBlocks", "(I)V"⟩, 7), (⟨"BurstFinder$Lines", "joinRows", "(III)V"⟩, 7), (⟨"BurstFinder$Lines", "linesOf", "(I)I"⟩, 7), (⟨"BurstFinder$Lines", "measure", "(I)V"⟩, 7), (⟨"BurstFinder$Lines", "sumAt", "(II)I"⟩, 7), (⟨"BurstFinder$Data", "countMasked", "()I"⟩, 6), (⟨"java/lang/Throwable", "fillInStackTrace", "(I)Ljava/lang/Throwable;"⟩, 6), (⟨"BurstFinder", "mixChannels", "(J)J"⟩, 4), (⟨"BurstFinder$Data", "sumOfChannel", "(I)I"⟩, 6)]
theorem lw_r1 : ∀ q ∈ lw_privs_1, lw_okq q := List.forall_mem_cons.mpr ⟨lw_p0, List.forall_mem_cons.mpr ⟨lw_p1, List.forall_mem_cons.mpr ⟨lw_p2, List.forall_mem_cons.mpr ⟨lw_p3, List.forall_mem_cons.mpr ⟨lw_p4, List.forall_mem_cons.mpr ⟨lw_p5, List.forall_mem_cons.mpr ⟨lw_p6, List.forall_mem_cons.mpr ⟨lw_p7, List.forall_mem_cons.mpr ⟨lw_p8, List.forall_mem_cons.mpr ⟨lw_p9, List.forall_mem_cons.mpr ⟨lw_p10, List.forall_mem_cons.mpr ⟨lw_p11, List.forall_mem_cons.mpr ⟨lw_p12, List.forall_mem_cons.mpr ⟨lw_p13, List.forall_mem_cons.mpr ⟨lw_p14, List.forall_mem_cons.mpr ⟨lw_p15, fun _ h => absurd h List.not_mem_nil⟩⟩⟩⟩⟩⟩⟩⟩⟩⟩⟩⟩⟩⟩⟩⟩
theorem lw_p16 : lw_okq (⟨"BurstFinder", "mixColumns", "(J)J"⟩, 4) := ⟨⟨by decide +kernel, by decide +kernel⟩, List.mem_of_getElem? (i := 16) (by decide +kernel), List.mem_of_getElem? (i := 314) (by decide +kernel), List.mem_of_getElem? (i := 315) (by decide +kernel)⟩
theorem lw_p17 : lw_okq (⟨"BurstFinder", "mixSlopes", "(J)J"⟩, 4) := ⟨⟨by decide +kernel, by decide +kernel⟩, List.mem_of_getElem? (i := 16) (by decide +kernel), List.mem_of_getElem? (i := 319) (by decide +kernel), List.mem_of_getElem? (i := 320) (by decide +kernel)⟩
theorem lw_p18 : lw_okq (⟨"BurstFinder", "mixCandidates", "(J)J"⟩, 4) := ⟨⟨by decide +kernel, by decide +kernel⟩, List.mem_of_getElem? (i := 16) (by decide +kernel), List.mem_of_getElem? (i := 338) (by decide +kernel), List.mem_of_getElem? (i := 339) (by decide +kernel)⟩
theorem lw_p19 : lw_okq (⟨"BurstFinder", "mixText", "(J)J"⟩, 4) := ⟨⟨by decide +kernel, by decide +kernel⟩, List.mem_of_getElem? (i := 16) (by decide +kernel), List.mem_of_getElem? (i := 362) (by decide +kernel), List.mem_of_getElem? (i := 363) (by decide +kernel)⟩
theorem lw_p20 : lw_okq (⟨"BurstFinder$Data", "beginAnew", "(I)V"⟩, 6) := ⟨⟨by decide +kernel, by decide +kernel⟩, List.mem_of_getElem? (i := 24) (by decide +kernel), List.mem_of_getElem? (i := 375) (by decide +kernel), List.mem_of_getElem? (i := 376) (by decide +kernel)⟩
theorem lw_p21 : lw_okq (⟨"BurstFinder", "requireChannel", "(I)V"⟩, 4) := ⟨⟨by decide +kernel, by decide +kernel⟩, List.mem_of_getElem? (i := 16) (by decide +kernel), List.mem_of_getElem? (i := 387) (by decide +kernel), List.mem_of_getElem? (i := 388) (by decide +kernel)⟩
theorem lw_p22 : lw_okq (⟨"BurstFinder$Text", "hasWholeColumns", "(I)Z"⟩, 2) := ⟨⟨by decide +kernel, by decide +kernel⟩, List.mem_of_getElem? (i := 59) (by decide +kernel), List.mem_of_getElem? (i := 425) (by decide +kernel), List.mem_of_getElem? (i := 426) (by decide +kernel)⟩
theorem lw_p23 : lw_okq (⟨"BurstFinder$Data", "takeColumn", "(LBurstFinder$Text;I)V"⟩, 6) := ⟨⟨by decide +kernel, by decide +kernel⟩, List.mem_of_getElem? (i := 24) (by decide +kernel), List.mem_of_getElem? (i := 431) (by decide +kernel), List.mem_of_getElem? (i := 432) (by decide +kernel)⟩
theorem lw_p24 : lw_okq (⟨"BurstFinder", "requireLines", "(III)V"⟩, 4) := ⟨⟨by decide +kernel, by decide +kernel⟩, List.mem_of_getElem? (i := 16) (by decide +kernel), List.mem_of_getElem? (i := 443) (by decide +kernel), List.mem_of_getElem? (i := 444) (by decide +kernel)⟩
theorem lw_p25 : lw_okq (⟨"BurstFinder", "requireSlope", "(I)V"⟩, 4) := ⟨⟨by decide +kernel, by decide +kernel⟩, List.mem_of_getElem? (i := 16) (by decide +kernel), List.mem_of_getElem? (i := 447) (by decide +kernel), List.mem_of_getElem? (i := 448) (by decide +kernel)⟩
theorem lw_p26 : lw_okq (⟨"BurstFinder$Data", "raise", "(III)I"⟩, 6) := ⟨⟨by decide +kernel, by decide +kernel⟩, List.mem_of_getElem? (i := 24) (by decide +kernel), List.mem_of_getElem? (i := 454) (by decide +kernel), List.mem_of_getElem? (i := 455) (by decide +kernel)⟩
theorem lw_p27 : lw_okq (⟨"BurstFinder", "requireColumn", "(I)V"⟩, 4) := ⟨⟨by decide +kernel, by decide +kernel⟩, List.mem_of_getElem? (i := 16) (by decide +kernel), List.mem_of_getElem? (i := 468) (by decide +kernel), List.mem_of_getElem? (i := 469) (by decide +kernel)⟩
theorem lw_p28 : lw_okq (⟨"BurstFinder$Data", "loudestUnmasked", "()I"⟩, 6) := ⟨⟨by decide +kernel, by decide +kernel⟩, List.mem_of_getElem? (i := 24) (by decide +kernel), List.mem_of_getElem? (i := 499) (by decide +kernel), List.mem_of_getElem? (i := 500) (by decide +kernel)⟩
theorem lw_p29 : lw_okq (⟨"BurstFinder", "straightSum", "(II)I"⟩, 4) := ⟨⟨by decide +kernel, by decide +kernel⟩, List.mem_of_getElem? (i := 16) (by decide +kernel), List.mem_of_getElem? (i := 525) (by decide +kernel), List.mem_of_getElem? (i := 526) (by decide +kernel)⟩
theorem lw_p30 : lw_okq (⟨"BurstFinder$Lines", "sumOfBox", "(III)I"⟩, 7) := ⟨⟨by decide +kernel, by decide +kernel⟩, List.mem_of_getElem? (i := 75) (by decide +kernel), List.mem_of_getElem? (i := 547) (by decide +kernel), List.mem_of_getElem? (i := 548) (by decide +kernel)⟩
theorem lw_p31 : lw_okq (⟨"BurstFinder$Lines", "scoreOf", "(IIJ)J"⟩, 7) := ⟨⟨by decide +kernel, by decide +kernel⟩, List.mem_of_getElem? (i := 75) (by decide +kernel), List.mem_of_getElem? (i := 558) (by decide +kernel), List.mem_of_getElem? (i := 559) (by decide +kernel)⟩
def lw_privs_2 : List (MethodName × Nat) := [(⟨"BurstFinder", "mixColumns", "(J)J"⟩, 4), (⟨"BurstFinder", "mixSlopes", "(J)J"⟩, 4), (⟨"BurstFinder", "mixCandidates", "(J)J"⟩, 4), (⟨"BurstFinder", "mixText", "(J)J"⟩, 4), (⟨"BurstFinder$Data", "beginAnew", "(I)V"⟩, 6), (⟨"BurstFinder", "requireChannel", "(I)V"⟩, 4), (⟨"BurstFinder$Text", "hasWholeColumns", "(I)Z"⟩, 2), (⟨"BurstFinder$Data", "takeColumn", "(LBurstFinder$Text;I)V"⟩, 6), (⟨"BurstFinder", "requireLines", "(III)V"⟩, 4), (⟨"BurstFinder", "requireSlope", "(I)V"⟩, 4), (⟨"BurstFinder$Data", "raise", "(III)I"⟩, 6), (⟨"BurstFinder", "requireColumn", "(I)V"⟩, 4), (⟨"BurstFinder$Data", "loudestUnmasked", "()I"⟩, 6), (⟨"BurstFinder", "straightSum", "(II)I"⟩, 4), (⟨"BurstFinder$Lines", "sumOfBox", "(III)I"⟩, 7), (⟨"BurstFinder$Lines", "scoreOf", "(IIJ)J"⟩, 7)]
theorem lw_r2 : ∀ q ∈ lw_privs_2, lw_okq q := List.forall_mem_cons.mpr ⟨lw_p16, List.forall_mem_cons.mpr ⟨lw_p17, List.forall_mem_cons.mpr ⟨lw_p18, List.forall_mem_cons.mpr ⟨lw_p19, List.forall_mem_cons.mpr ⟨lw_p20, List.forall_mem_cons.mpr ⟨lw_p21, List.forall_mem_cons.mpr ⟨lw_p22, List.forall_mem_cons.mpr ⟨lw_p23, List.forall_mem_cons.mpr ⟨lw_p24, List.forall_mem_cons.mpr ⟨lw_p25, List.forall_mem_cons.mpr ⟨lw_p26, List.forall_mem_cons.mpr ⟨lw_p27, List.forall_mem_cons.mpr ⟨lw_p28, List.forall_mem_cons.mpr ⟨lw_p29, List.forall_mem_cons.mpr ⟨lw_p30, List.forall_mem_cons.mpr ⟨lw_p31, fun _ h => absurd h List.not_mem_nil⟩⟩⟩⟩⟩⟩⟩⟩⟩⟩⟩⟩⟩⟩⟩⟩
theorem lw_p32 : lw_okq (⟨"BurstFinder$Candidates", "addBest", "(LBurstFinder$Lines;JI)Z"⟩, 6) := ⟨⟨by decide +kernel, by decide +kernel⟩, List.mem_of_getElem? (i := 108) (by decide +kernel), List.mem_of_getElem? (i := 574) (by decide +kernel), List.mem_of_getElem? (i := 575) (by decide +kernel)⟩
theorem lw_p33 : lw_okq (⟨"BurstFinder$Candidates", "markFreeEnds", "(I)V"⟩, 6) := ⟨⟨by decide +kernel, by decide +kernel⟩, List.mem_of_getElem? (i := 108) (by decide +kernel), List.mem_of_getElem? (i := 578) (by decide +kernel), List.mem_of_getElem? (i := 579) (by decide +kernel)⟩
theorem lw_p34 : lw_okq (⟨"BurstFinder$Candidates", "firstWith", "(I)I"⟩, 6) := ⟨⟨by decide +kernel, by decide +kernel⟩, List.mem_of_getElem? (i := 108) (by decide +kernel), List.mem_of_getElem? (i := 582) (by decide +kernel), List.mem_of_getElem? (i := 583) (by decide +kernel)⟩
theorem lw_p35 : lw_okq (⟨"BurstFinder$Candidates", "tryBoxes", "(LBurstFinder$Lines;III)V"⟩, 6) := ⟨⟨by decide +kernel, by decide +kernel⟩, List.mem_of_getElem? (i := 108) (by decide +kernel), List.mem_of_getElem? (i := 587) (by decide +kernel), List.mem_of_getElem? (i := 588) (by decide +kernel)⟩
theorem lw_p36 : lw_okq (⟨"BurstFinderModel", "clearPending", "()V"⟩, 19) := ⟨⟨by decide +kernel, by decide +kernel⟩, List.mem_of_getElem? (i := 606) (by decide +kernel), List.mem_of_getElem? (i := 678) (by decide +kernel), List.mem_of_getElem? (i := 679) (by decide +kernel)⟩
theorem lw_p37 : lw_okq (⟨"BurstFinderModel", "isChannel", "(I)Z"⟩, 19) := ⟨⟨by decide +kernel, by decide +kernel⟩, List.mem_of_getElem? (i := 606) (by decide +kernel), List.mem_of_getElem? (i := 686) (by decide +kernel), List.mem_of_getElem? (i := 687) (by decide +kernel)⟩
theorem lw_p38 : lw_okq (⟨"BurstFinderModel", "begin", "()V"⟩, 19) := ⟨⟨by decide +kernel, by decide +kernel⟩, List.mem_of_getElem? (i := 606) (by decide +kernel), List.mem_of_getElem? (i := 697) (by decide +kernel), List.mem_of_getElem? (i := 698) (by decide +kernel)⟩
theorem lw_p39 : lw_okq (⟨"BurstFinderModel", "rightLength", "()I"⟩, 19) := ⟨⟨by decide +kernel, by decide +kernel⟩, List.mem_of_getElem? (i := 606) (by decide +kernel), List.mem_of_getElem? (i := 713) (by decide +kernel), List.mem_of_getElem? (i := 714) (by decide +kernel)⟩
theorem lw_p40 : lw_okq (⟨"BurstFinderModel", "isSlope", "(I)Z"⟩, 19) := ⟨⟨by decide +kernel, by decide +kernel⟩, List.mem_of_getElem? (i := 606) (by decide +kernel), List.mem_of_getElem? (i := 728) (by decide +kernel), List.mem_of_getElem? (i := 729) (by decide +kernel)⟩
theorem lw_p41 : lw_okq (⟨"BurstFinderModel", "offsetBy", "(IIZ)I"⟩, 19) := ⟨⟨by decide +kernel, by decide +kernel⟩, List.mem_of_getElem? (i := 606) (by decide +kernel), List.mem_of_getElem? (i := 732) (by decide +kernel), List.mem_of_getElem? (i := 733) (by decide +kernel)⟩
theorem lw_p42 : lw_okq (⟨"BurstFinderModel", "straightOffset", "(II)I"⟩, 19) := ⟨⟨by decide +kernel, by decide +kernel⟩, List.mem_of_getElem? (i := 606) (by decide +kernel), List.mem_of_getElem? (i := 736) (by decide +kernel), List.mem_of_getElem? (i := 737) (by decide +kernel)⟩
theorem lw_p43 : lw_okq (⟨"BurstFinderModel", "treeOffset", "(II)I"⟩, 19) := ⟨⟨by decide +kernel, by decide +kernel⟩, List.mem_of_getElem? (i := 606) (by decide +kernel), List.mem_of_getElem? (i := 740) (by decide +kernel), List.mem_of_getElem? (i := 741) (by decide +kernel)⟩
theorem lw_p44 : lw_okq (⟨"BurstFinderModel", "bendOf", "(I)I"⟩, 19) := ⟨⟨by decide +kernel, by decide +kernel⟩, List.mem_of_getElem? (i := 606) (by decide +kernel), List.mem_of_getElem? (i := 748) (by decide +kernel), List.mem_of_getElem? (i := 749) (by decide +kernel)⟩
theorem lw_p45 : lw_okq (⟨"BurstFinderModel", "isColumn", "(I)Z"⟩, 19) := ⟨⟨by decide +kernel, by decide +kernel⟩, List.mem_of_getElem? (i := 606) (by decide +kernel), List.mem_of_getElem? (i := 756) (by decide +kernel), List.mem_of_getElem? (i := 757) (by decide +kernel)⟩
theorem lw_p46 : lw_okq (⟨"BurstFinderModel", "countOf", "(I)I"⟩, 19) := ⟨⟨by decide +kernel, by decide +kernel⟩, List.mem_of_getElem? (i := 606) (by decide +kernel), List.mem_of_getElem? (i := 768) (by decide +kernel), List.mem_of_getElem? (i := 769) (by decide +kernel)⟩
theorem lw_p47 : lw_okq (⟨"BurstFinderModel", "isMasked", "(I)Z"⟩, 19) := ⟨⟨by decide +kernel, by decide +kernel⟩, List.mem_of_getElem? (i := 606) (by decide +kernel), List.mem_of_getElem? (i := 779) (by decide +kernel), List.mem_of_getElem? (i := 780) (by decide +kernel)⟩
def lw_privs_3 : List (MethodName × Nat) := [(⟨"BurstFinder$Candidates", "addBest", "(LBurstFinder$Lines;JI)Z"⟩, 6), (⟨"BurstFinder$Candidates", "markFreeEnds", "(I)V"⟩, 6), (⟨"BurstFinder$Candidates", "firstWith", "(I)I"⟩, 6), (⟨"BurstFinder$Candidates", "tryBoxes", "(LBurstFinder$Lines;III)V"⟩, 6), (⟨"BurstFinderModel", "clearPending", "()V"⟩, 19), (⟨"BurstFinderModel", "isChannel", "(I)Z"⟩, 19), (⟨"BurstFinderModel", "begin", "()V"⟩, 19), (⟨"BurstFinderModel", "rightLength", "()I"⟩, 19), (⟨"BurstFinderModel", "isSlope", "(I)Z"⟩, 19), (⟨"BurstFinderModel", "offsetBy", "(IIZ)I"⟩, 19), (⟨"BurstFinderModel", "straightOffset", "(II)I"⟩, 19), (⟨"BurstFinderModel", "treeOffset", "(II)I"⟩, 19), (⟨"BurstFinderModel", "bendOf", "(I)I"⟩, 19), (⟨"BurstFinderModel", "isColumn", "(I)Z"⟩, 19), (⟨"BurstFinderModel", "countOf", "(I)I"⟩, 19), (⟨"BurstFinderModel", "isMasked", "(I)Z"⟩, 19)]
theorem lw_r3 : ∀ q ∈ lw_privs_3, lw_okq q := List.forall_mem_cons.mpr ⟨lw_p32, List.forall_mem_cons.mpr ⟨lw_p33, List.forall_mem_cons.mpr ⟨lw_p34, List.forall_mem_cons.mpr ⟨lw_p35, List.forall_mem_cons.mpr ⟨lw_p36, List.forall_mem_cons.mpr ⟨lw_p37, List.forall_mem_cons.mpr ⟨lw_p38, List.forall_mem_cons.mpr ⟨lw_p39, List.forall_mem_cons.mpr ⟨lw_p40, List.forall_mem_cons.mpr ⟨lw_p41, List.forall_mem_cons.mpr ⟨lw_p42, List.forall_mem_cons.mpr ⟨lw_p43, List.forall_mem_cons.mpr ⟨lw_p44, List.forall_mem_cons.mpr ⟨lw_p45, List.forall_mem_cons.mpr ⟨lw_p46, List.forall_mem_cons.mpr ⟨lw_p47, fun _ h => absurd h List.not_mem_nil⟩⟩⟩⟩⟩⟩⟩⟩⟩⟩⟩⟩⟩⟩⟩⟩
theorem lw_p48 : lw_okq (⟨"BurstFinderModel", "sumOf", "(I)I"⟩, 19) := ⟨⟨by decide +kernel, by decide +kernel⟩, List.mem_of_getElem? (i := 606) (by decide +kernel), List.mem_of_getElem? (i := 787) (by decide +kernel), List.mem_of_getElem? (i := 788) (by decide +kernel)⟩
theorem lw_p49 : lw_okq (⟨"BurstFinderModel", "isBox", "(III)Z"⟩, 19) := ⟨⟨by decide +kernel, by decide +kernel⟩, List.mem_of_getElem? (i := 606) (by decide +kernel), List.mem_of_getElem? (i := 799) (by decide +kernel), List.mem_of_getElem? (i := 800) (by decide +kernel)⟩
theorem lw_p50 : lw_okq (⟨"BurstFinderModel", "linesOf", "(I)I"⟩, 19) := ⟨⟨by decide +kernel, by decide +kernel⟩, List.mem_of_getElem? (i := 606) (by decide +kernel), List.mem_of_getElem? (i := 803) (by decide +kernel), List.mem_of_getElem? (i := 804) (by decide +kernel)⟩
theorem lw_p51 : lw_okq (⟨"BurstFinderModel", "lineBy", "(IIZ)I"⟩, 19) := ⟨⟨by decide +kernel, by decide +kernel⟩, List.mem_of_getElem? (i := 606) (by decide +kernel), List.mem_of_getElem? (i := 807) (by decide +kernel), List.mem_of_getElem? (i := 808) (by decide +kernel)⟩
theorem lw_p52 : lw_okq (⟨"BurstFinderModel", "sumOfLines", "(I)J"⟩, 19) := ⟨⟨by decide +kernel, by decide +kernel⟩, List.mem_of_getElem? (i := 606) (by decide +kernel), List.mem_of_getElem? (i := 815) (by decide +kernel), List.mem_of_getElem? (i := 816) (by decide +kernel)⟩
theorem lw_p53 : lw_okq (⟨"BurstFinderModel", "layLines", "(I)V"⟩, 19) := ⟨⟨by decide +kernel, by decide +kernel⟩, List.mem_of_getElem? (i := 606) (by decide +kernel), List.mem_of_getElem? (i := 823) (by decide +kernel), List.mem_of_getElem? (i := 824) (by decide +kernel)⟩
theorem lw_p54 : lw_okq (⟨"BurstFinderModel", "boxBy", "(II)I"⟩, 19) := ⟨⟨by decide +kernel, by decide +kernel⟩, List.mem_of_getElem? (i := 606) (by decide +kernel), List.mem_of_getElem? (i := 827) (by decide +kernel), List.mem_of_getElem? (i := 828) (by decide +kernel)⟩
theorem lw_p55 : lw_okq (⟨"BurstFinderModel", "scoreBy", "(II)J"⟩, 19) := ⟨⟨by decide +kernel, by decide +kernel⟩, List.mem_of_getElem? (i := 606) (by decide +kernel), List.mem_of_getElem? (i := 835) (by decide +kernel), List.mem_of_getElem? (i := 836) (by decide +kernel)⟩
theorem lw_p56 : lw_okq (⟨"BurstFinderModel", "findNext", "(JI)Z"⟩, 19) := ⟨⟨by decide +kernel, by decide +kernel⟩, List.mem_of_getElem? (i := 606) (by decide +kernel), List.mem_of_getElem? (i := 844) (by decide +kernel), List.mem_of_getElem? (i := 845) (by decide +kernel)⟩
theorem lw_p57 : lw_okq (⟨"BurstFinderModel", "lookThrough", "(IJI)V"⟩, 19) := ⟨⟨by decide +kernel, by decide +kernel⟩, List.mem_of_getElem? (i := 606) (by decide +kernel), List.mem_of_getElem? (i := 848) (by decide +kernel), List.mem_of_getElem? (i := 849) (by decide +kernel)⟩
theorem lw_p58 : lw_okq (⟨"BurstFinderModel", "isApart", "(II)Z"⟩, 19) := ⟨⟨by decide +kernel, by decide +kernel⟩, List.mem_of_getElem? (i := 606) (by decide +kernel), List.mem_of_getElem? (i := 852) (by decide +kernel), List.mem_of_getElem? (i := 853) (by decide +kernel)⟩
theorem lw_p59 : lw_okq (⟨"BurstFinderModel", "told", "(II)J"⟩, 19) := ⟨⟨by decide +kernel, by decide +kernel⟩, List.mem_of_getElem? (i := 606) (by decide +kernel), List.mem_of_getElem? (i := 860) (by decide +kernel), List.mem_of_getElem? (i := 861) (by decide +kernel)⟩
theorem lw_p60 : lw_okq (⟨"BurstFinderModel", "mix", "(J)V"⟩, 19) := ⟨⟨by decide +kernel, by decide +kernel⟩, List.mem_of_getElem? (i := 606) (by decide +kernel), List.mem_of_getElem? (i := 873) (by decide +kernel), List.mem_of_getElem? (i := 874) (by decide +kernel)⟩
theorem lw_p61 : lw_okq (⟨"BurstFinderModel", "mixData", "()V"⟩, 19) := ⟨⟨by decide +kernel, by decide +kernel⟩, List.mem_of_getElem? (i := 606) (by decide +kernel), List.mem_of_getElem? (i := 878) (by decide +kernel), List.mem_of_getElem? (i := 879) (by decide +kernel)⟩
def lw_privs_4 : List (MethodName × Nat) := [(⟨"BurstFinderModel", "sumOf", "(I)I"⟩, 19), (⟨"BurstFinderModel", "isBox", "(III)Z"⟩, 19), (⟨"BurstFinderModel", "linesOf", "(I)I"⟩, 19), (⟨"BurstFinderModel", "lineBy", "(IIZ)I"⟩, 19), (⟨"BurstFinderModel", "sumOfLines", "(I)J"⟩, 19), (⟨"BurstFinderModel", "layLines", "(I)V"⟩, 19), (⟨"BurstFinderModel", "boxBy", "(II)I"⟩, 19), (⟨"BurstFinderModel", "scoreBy", "(II)J"⟩, 19), (⟨"BurstFinderModel", "findNext", "(JI)Z"⟩, 19), (⟨"BurstFinderModel", "lookThrough", "(IJI)V"⟩, 19), (⟨"BurstFinderModel", "isApart", "(II)Z"⟩, 19), (⟨"BurstFinderModel", "told", "(II)J"⟩, 19), (⟨"BurstFinderModel", "mix", "(J)V"⟩, 19), (⟨"BurstFinderModel", "mixData", "()V"⟩, 19)]
theorem lw_r4 : ∀ q ∈ lw_privs_4, lw_okq q := List.forall_mem_cons.mpr ⟨lw_p48, List.forall_mem_cons.mpr ⟨lw_p49, List.forall_mem_cons.mpr ⟨lw_p50, List.forall_mem_cons.mpr ⟨lw_p51, List.forall_mem_cons.mpr ⟨lw_p52, List.forall_mem_cons.mpr ⟨lw_p53, List.forall_mem_cons.mpr ⟨lw_p54, List.forall_mem_cons.mpr ⟨lw_p55, List.forall_mem_cons.mpr ⟨lw_p56, List.forall_mem_cons.mpr ⟨lw_p57, List.forall_mem_cons.mpr ⟨lw_p58, List.forall_mem_cons.mpr ⟨lw_p59, List.forall_mem_cons.mpr ⟨lw_p60, List.forall_mem_cons.mpr ⟨lw_p61, fun _ h => absurd h List.not_mem_nil⟩⟩⟩⟩⟩⟩⟩⟩⟩⟩⟩⟩⟩⟩
def lw_privs : List (MethodName × Nat) := lw_privs_1 ++ (lw_privs_2 ++ (lw_privs_3 ++ (lw_privs_4)))
def lw_tbl : List Cond := k2_sels lw_privs ++ tables_1
theorem lw_privs_ok : ∀ q ∈ lw_privs, lw_okq q := by
  show ∀ q ∈ lw_privs_1 ++ (lw_privs_2 ++ (lw_privs_3 ++ (lw_privs_4))), lw_okq q
  exact List.forall_mem_append.mpr ⟨lw_r1, List.forall_mem_append.mpr ⟨lw_r2, List.forall_mem_append.mpr ⟨lw_r3, lw_r4⟩⟩⟩
/-- the streams that the claim lets the run draw from -/
abbrev lw_cs : List Choice := [Jvm.Choice.named "NaN.bits"]
theorem lw_bits : nanBits ∈ lw_cs := by first | decide | exact List.mem_cons_self | simp [lw_cs, nanBits]
end
section
/-! ===== BEGIN words of one list among another's, by their places ===== -/
theorem goodIn_r {big : List Cond} (ws : List Cond) (ps : List Nat) (hp : ws = ps.filterMap (fun i => big[i]?)) (h : ws.all goodWord = true) : GoodIn big ws := by
  intro w hw
  have h1 := List.all_eq_true.mp h w hw
  rw [hp] at hw
  obtain ⟨i, -, hi⟩ := List.mem_filterMap.mp hw
  have hm : w ∈ big := by first | exact List.mem_of_getElem? hi | exact List.getElem?_mem hi
  exact ⟨hm, good_of_word h1⟩
theorem goodIn_app {big a b : List Cond} (ha : GoodIn big a) (hb : GoodIn big b) : GoodIn big (a ++ b) := fun w h => (List.mem_append.mp h).elim (ha w) (hb w)
theorem goodIn_ca {big a b : List Cond} {c : Cond} (ha : GoodIn big (c :: a)) (hb : GoodIn big b) : GoodIn big (c :: (a ++ b)) := fun w h => (List.mem_cons.mp h).elim (fun e => ha w (List.mem_cons.mpr (Or.inl e))) (fun h => (List.mem_append.mp h).elim (fun h => ha w (List.mem_cons.mpr (Or.inr h))) (hb w))
theorem goodIn_sub {big ws : List Cond} (hm : ∀ w ∈ ws, w ∈ big) (h : ws.all goodWord = true) : GoodIn big ws := fun w hw => ⟨hm w hw, good_of_word (List.all_eq_true.mp h w hw)⟩
/-! ===== END ===== -/

/-! ===== BEGIN exceptions that leave a method, and their catching by the caller (launches without stack traces) ===== -/
section VXA
/-! The laws vx_back, vx_callV, vx_callS, vx_callSW, vx_throw0, vx_throwS follow proofs of the library, with one case more: JvmDerived/Free/Laws.lean (Back.of_free), Shelf42/LK1.lean (callV, callS), Shelf/KitTraced.lean (throwNew0V, throwNewS). -/
/-- where a method has thrown q: the class by its name, the cell, what was written, the world -/
def vx_T (XC : String → State → State → Prop) (st : State) (q : Addr) (t : State) (mc ms : Nat) (free : Addr → Prop) : Prop :=
  ∃ (E : String) (ce : Cell) (L : List Loc), XC E st t ∧ t.heap[q]? = some ce ∧ ce.vm = .none ∧ st.vm.findClass E = some ce.cls ∧ st.WarmedH t.vm ∧ st.sameButNew ({ t with vm := st.vm } : State) L mc ms ∧ ∀ z ∈ L, free z.base
def vx_Q (Qc : Array Value → State → Outcome → State → Prop) (XC : String → State → State → Prop) (mc ms : Nat) (free : Addr → Prop) : Array Value → State → Outcome → State → Prop := fun a st o t =>
  (Qc a st o t ∧ ∃ L, FrameEnd st o t L mc ms ∧ ∀ q ∈ L, free q.base) ∨ ∃ q, o = .threw q ∧ vx_T XC st q t mc ms free
/-- a callee that returns or throws -/
def vx_Met (l : Launch) (y : MethodName) (ws : List Cond) (rm : Room) (Pc : Array Value → State → Prop) (Qc : Array Value → State → Outcome → State → Prop) (XC : String → State → State → Prop) (mc ms : Nat) (free : Addr → Prop) : Prop :=
  MetFree l y (headSpec ws rm) Pc (fun _ _ _ _ _ => True) (vx_Q Qc XC mc ms free)
def vx_Post (XC : String → State → State → Prop) (mc ms : Nat) (free : Addr → Prop) : Pt → Array Value → Addr → Pt → Prop := fun A a q B =>
  ∃ (g : JFrame) (mk : MethodId) (t : State) (L : List Loc) (E : String) (ce : Cell), B.U.heap = t.heap ∧ B.U.vm = t.vm ∧ XC E (A.U.calling g mk a) t ∧ t.heap[q]? = some ce ∧ ce.vm = .none ∧ A.U.vm.findClass E = some ce.cls ∧ B.locs = A.locs ++ L ∧ (∀ z ∈ L, free z.base) ∧ B.cells = A.cells + mc ∧ B.slots = A.slots + ms
def vx_Back (l : Launch) (R : Room) (p : Program) (e : Env) (below : List Frame) (s : State) (sargs : Array Value) (y : MethodName) (len W9 : Nat)
    (Pre : Pt → Array Value → Prop) (Post : Pt → Array Value → Option Value → Pt → Prop) (PostX : Pt → Array Value → Addr → Pt → Prop) : Prop :=
  ∀ (m : MethodId) (meth : Method) (c : Code) (A : Pt) (g : JFrame) (ig : Instr) (mk : MethodId) (a : Array Value),
    Stand p l e R s m sargs below meth c A.U A.locs A.cells A.slots → g.method = m → g.locals.size = c.maxLocals → decode c.code g.pc = .ok (ig, len) →
    2 * g.monitorRoom + (g.stack.map fun v => v.category).sum ≤ W9 → A.U.methodNamed? y = some mk → Pre A a →
    (∃ (v : Option Value) (B : Pt), Stand p l e R s m sargs below meth c B.U B.locs B.cells B.slots ∧ Post A a v B ∧
      Steps p.tables e below (doInvoke e (A.U.setTop g) [] mk a).1 (B.U.setTop { g with pc := g.pc + len, stack := v.toList ++ g.stack })) ∨
    (∃ (q : Addr) (B : Pt), Stand p l e R s m sargs below meth c B.U B.locs B.cells B.slots ∧ PostX A a q B ∧
      Steps p.tables e below (doInvoke e (A.U.setTop g) [] mk a).1 ((B.U.setTop g).pushFrame (.throwing q)))
section Payer
variable {l : Launch} {R : Room} {p : Program} {e : Env} {below : List Frame} {s : State} {sargs : Array Value} {y : MethodName} {len W9 : Nat}
theorem vx_back {ws : List Cond} {rm : Room} {Pc : Array Value → State → Prop} {Qc : Array Value → State → Outcome → State → Prop} {XC : String → State → State → Prop} {mc ms : Nat} {free : Addr → Prop} {bytes : ByteArray} {maxL : Nat} {ret : Option FieldType}
    (hM : vx_Met l y ws rm Pc Qc XC mc ms free) (hblind : FrameBlind Pc) (hrc : rm.cells = mc) (hrs : rm.slots = ms)
    (hframes : rm.frames + 1 ≤ R.frames) (hlocals : W9 + (maxL + 11) + rm.locals ≤ R.locals)
    (hws : ∀ w ∈ ws, ∀ a' U, s.WarmedH U.vm → w.before a' U = true) (hcode : Cond.code y bytes maxL ret ∈ ws) (hinit : ∀ a' U, s.WarmedH U.vm → (Cond.initialized y.cls).before a' U = true) :
    vx_Back l R p e below s sargs y len W9 (PreOf R mc ms Pc) (PostOf Qc mc ms free) (vx_Post XC mc ms free) := by
  intro m meth c A g ig mk a X hg hsize hdg hW hn hp
  have h1 : (headSpec ws rm).pre.before a A.U = true := atoms_intro fun w hw => hws w hw _ _ X.warmed
  have h2 : (Cond.code y bytes maxL ret).before a A.U = true := hws _ hcode _ _ X.warmed
  have h3 : (Cond.initialized y.cls).before a A.U = true := hinit _ _ X.warmed
  have h4 : A.cells + (headSpec ws rm).room.cells ≤ R.cells := by rw [show (headSpec ws rm).room.cells = mc from hrc]; exact hp.1
  have h5 : A.slots + (headSpec ws rm).room.slots ≤ R.slots := by rw [show (headSpec ws rm).room.slots = ms from hrs]; exact hp.2.1
  have hPc : Pc a (A.U.calling g mk a) := hblind _ _ _ _ hp.2.2
  obtain ⟨U, Ls, c0, s0⟩ := A
  dsimp only [Pt.U, Pt.locs, Pt.cells, Pt.slots] at h1 h2 h3 h4 h5 X hn hPc ⊢
  obtain ⟨methY, cY, hmY, hcY, -, hlY, -, -, -, -⟩ := Cond.code_spec hn h2
  obtain ⟨kY, hkY, -⟩ := className_of_methodNamed hn
  have hinitY : kY.init = .initialized := Cond.initialized_spec (findClass_of_methodNamed hn) hkY h3
  have h : At U g.method c below := by rw [hg]; exact X.here
  have hlocals9 : W9 + (maxL + 11) + (headSpec ws rm).room.locals ≤ R.locals := hlocals
  have happ : (headSpec ws rm).appliesLoose y e.platform (U.calling g mk a) = true :=
    Spec.appliesLoose_calling (g := g) h hdg hn hkY hinitY
      (X.room_calling (g := g) (R' := (headSpec ws rm).room) hsize hmY hcY hframes (by rw [hlY]; omega) h4 h5) h1
  obtain ⟨mid, hmid⟩ := h.above
  have hfr : (U.setTop g).frames = (.java g :: mid) ++ below := by rw [State.frames_setTop' g h.top, hmid]; rfl
  obtain ⟨o, s₂, hsteps, -, hend, hq⟩ := Steps.callFree hM p X.admits X.cas X.clock (acts := []) hfr happ hPc trivial
  have hq' : vx_Q Qc XC mc ms free a (U.calling g mk a) o s₂ := hq
  rw [State.frames_setTop' g h.top] at hend
  obtain ⟨g₀, hg0⟩ := Option.isSome_iff_exists.mp h.top
  obtain ⟨r, hr⟩ := State.topJava?_eq_some.mp hg0
  have hr' : (({ U with heap := s₂.heap, slotsUsed := s₂.slotsUsed } : State).setVm s₂.vm).frames = .java g₀ :: r := hr
  rcases hq' with ⟨hqc, L, hfe, hL⟩ | ⟨q, rfl, E, ce, L, hx, hce, hcv, hcl, hW₂, hsm, hL⟩
  · obtain ⟨⟨v, rfl⟩, hW₂, e2, q2, q3, q4, q5, q6⟩ := id hfe
    have e3 : s₂ = ({ (U.calling g mk a).setFrames s₂.frames with heap := s₂.heap, slotsUsed := s₂.slotsUsed } : State).setVm s₂.vm := by
      have : s₂ = ({ s₂ with vm := (U.calling g mk a).vm } : State).setVm s₂.vm := rfl
      rw [e2] at this
      exact this
    obtain ⟨c₂, i₂, len₂, hc₂, hd₂, hf₂⟩ := hend
    have hW' : U.WarmedH s₂.vm := hW₂
    have hcc : c₂ = c := by
      have h1 : s₂.code? g.method = U.code? g.method := by
        rw [State.code?_eq, State.code?_eq, hW'.alike.method?]
      exact Option.some.inj (hc₂.symm.trans (h1.trans h.code))
    subst hcc
    have hlen : len₂ = len := by rw [hdg] at hd₂; cases hd₂; rfl
    subst hlen
    have hs₂ : s₂ = (({ U with heap := s₂.heap, slotsUsed := s₂.slotsUsed } : State).setVm s₂.vm).setTop { g with pc := g.pc + len₂, stack := v.toList ++ g.stack } := by
      refine e3.trans ?_
      rw [hf₂, State.calling_eq h.top, State.setFrames_setFrames, State.setTop_of_frames _ hr', hr]
      rfl
    have hsame : U.sameButNew ({ U with heap := s₂.heap, slotsUsed := s₂.slotsUsed } : State) L mc ms := by
      refine ⟨?_, q2, q3, q4, q5, q6⟩
      obtain ⟨t, ht, -⟩ := State.frames_cons hr
      show ({ U with heap := s₂.heap, slotsUsed := s₂.slotsUsed } : State) = { U.setFrames U.frames with heap := s₂.heap, slotsUsed := s₂.slotsUsed }
      rw [State.setFrames_self ht]
    subst hg
    refine Or.inl ⟨v, ⟨(({ U with heap := s₂.heap, slotsUsed := s₂.slotsUsed } : State).setVm s₂.vm), Ls ++ L, c0 + mc, s0 + ms⟩,
      ⟨X.admits, X.cas, X.clock, X.frames, X.room, X.hears, X.method, X.code, (X.here.setHeapUsed s₂.heap s₂.slotsUsed).setVm hW'.alike, X.tail, State.WarmedH.trans X.warmed hW', X.limits, X.bytes, X.same.trans (hsame.setVm s.vm)⟩,
      ⟨g, mk, s₂, L, rfl, rfl, hqc, rfl, hL, rfl, rfl⟩, ?_⟩
    show Steps p.tables e below _ ((({ U with heap := s₂.heap, slotsUsed := s₂.slotsUsed } : State).setVm s₂.vm).setTop { g with pc := g.pc + len₂, stack := v.toList ++ g.stack })
    rw [← hs₂]
    exact hsteps
  · obtain ⟨e2, q2, q3, q4, q5, q6⟩ := id hsm
    have e3 : s₂ = ({ (U.calling g mk a).setFrames s₂.frames with heap := s₂.heap, slotsUsed := s₂.slotsUsed } : State).setVm s₂.vm := by
      have : s₂ = ({ s₂ with vm := (U.calling g mk a).vm } : State).setVm s₂.vm := rfl
      rw [e2] at this
      exact this
    have hf₂ : s₂.frames = .throwing q :: .java g :: U.frames.tail := hend
    have hW' : U.WarmedH s₂.vm := hW₂
    have hs₂ : s₂ = ((({ U with heap := s₂.heap, slotsUsed := s₂.slotsUsed } : State).setVm s₂.vm).setTop g).pushFrame (.throwing q) := by
      refine e3.trans ?_
      rw [hf₂, State.calling_eq h.top, State.setFrames_setFrames, State.pushFrame, State.frames_setTop _ hr', State.setTop_of_frames _ hr', State.setFrames_setFrames, hr]
      rfl
    have hsame : U.sameButNew ({ U with heap := s₂.heap, slotsUsed := s₂.slotsUsed } : State) L mc ms := by
      refine ⟨?_, q2, q3, q4, q5, q6⟩
      obtain ⟨t, ht, -⟩ := State.frames_cons hr
      show ({ U with heap := s₂.heap, slotsUsed := s₂.slotsUsed } : State) = { U.setFrames U.frames with heap := s₂.heap, slotsUsed := s₂.slotsUsed }
      rw [State.setFrames_self ht]
    subst hg
    refine Or.inr ⟨q, ⟨(({ U with heap := s₂.heap, slotsUsed := s₂.slotsUsed } : State).setVm s₂.vm), Ls ++ L, c0 + mc, s0 + ms⟩,
      ⟨X.admits, X.cas, X.clock, X.frames, X.room, X.hears, X.method, X.code, (X.here.setHeapUsed s₂.heap s₂.slotsUsed).setVm hW'.alike, X.tail, State.WarmedH.trans X.warmed hW', X.limits, X.bytes, X.same.trans (hsame.setVm s.vm)⟩,
      ⟨g, mk, s₂, L, E, ce, rfl, rfl, hx, hce, hcv, hcl, rfl, hL, rfl, rfl⟩, ?_⟩
    show Steps p.tables e below _ (((({ U with heap := s₂.heap, slotsUsed := s₂.slotsUsed } : State).setVm s₂.vm).setTop g).pushFrame (.throwing q))
    rw [← hs₂]
    exact hsteps
end Payer
section Calls
variable {p : Program} {l : Launch} {e : Env} {R : Room} {s : State} {m : MethodId} {args : Array Value} {below : List Frame} {meth : Method} {c : Code} {T : State} {locs : List Loc} {cells slots : Nat}
theorem vx_callV (X : Stand p l e R s m args below meth c T locs cells slots) (hexec : p.tables.exec = Jvm.exec) {own C : String} {index : Nat} {y : MethodName} {bytes : ByteArray} {maxL : Nat} {ret : Option FieldType}
    (hown : s.vm.findClass own = some m.cls) (hlink : (Cond.methodLink own index y).before args s = true) (hinst : (Cond.instanceMethod y).before args s = true) (hsel : (Cond.selects C y y).before args s = true)
    (hcode : (Cond.code y bytes maxL ret).before args s = true) (hy : y.cls ≠ "java/lang/invoke/MethodHandle" ∧ y.cls ≠ "java/lang/invoke/VarHandle")
    {W9 : Nat} {Pre : Pt → Array Value → Prop} {Post : Pt → Array Value → Option Value → Pt → Prop} {PostX : Pt → Array Value → Addr → Pt → Prop} (hK : vx_Back l R p e below s args y 3 W9 Pre Post PostX)
    {b : Addr} {cellB : Cell} (hcell : T.heap[b]? = some cellB) (hobj : cellB.vm.isStatics = false) (hcls : s.vm.findClass C = some cellB.cls)
    {g : JFrame} (hg : g.method = m) (hsize : g.locals.size = c.maxLocals) {argsL rest : List Value} (hlen : ∀ sig, parseMethodDescriptor y.desc = some sig → argsL.length = sig.parameters.length)
    (hstack : g.stack = argsL.reverse ++ .ref b :: rest) (hW : 2 * g.monitorRoom + (rest.map fun v => v.category).sum ≤ W9) (hdg : decode c.code g.pc = .ok (.invokevirtual index, 3))
    (hpre : ∀ vm₁, s.WarmedH vm₁ → Pre ⟨T.setVm vm₁, locs, cells, slots⟩ (Value.ref b :: argsL).toArray) :
    (∃ (v : Option Value) (vm₁ : Vm) (B : Pt), s.WarmedH vm₁ ∧ Stand p l e R s m args below meth c B.U B.locs B.cells B.slots ∧ Post ⟨T.setVm vm₁, locs, cells, slots⟩ (Value.ref b :: argsL).toArray v B ∧
      ∀ target, Steps p.tables e below (B.U.setTop { g with pc := g.pc + 3, stack := v.toList ++ rest }) target → Steps p.tables e below (T.setTop g) target) ∨
    (∃ (q : Addr) (vm₁ : Vm) (B : Pt), s.WarmedH vm₁ ∧ Stand p l e R s m args below meth c B.U B.locs B.cells B.slots ∧ PostX ⟨T.setVm vm₁, locs, cells, slots⟩ (Value.ref b :: argsL).toArray q B ∧
      Steps p.tables e below (T.setTop g) ((B.U.setTop { g with stack := rest }).pushFrame (.throwing q))) := by
  obtain ⟨mk, methM, hnamed, hmethM, hstM, habM⟩ := Cond.instanceMethod_spec hinst
  obtain ⟨methM', cM, hmethM', -, -, -, -, -, -, hsigM⟩ := Cond.code_spec hnamed hcode
  cases hmethM.symm.trans hmethM'
  obtain ⟨c2, r2, m2, q1, q2, q3, q4, kP, hkP, hkPi⟩ := Cond.selects_spec hsel
  cases hcls.symm.trans q1
  cases (State.methodFound?_of_named hnamed hy).symm.trans q2
  cases hnamed.symm.trans q3
  have hselP : selectMethod e.platform s.vm cellB.cls mk = .method mk := by rw [Launch.admits_selectMethod X.admits]; exact q4
  obtain ⟨vm₁, X₁, hstep₁⟩ := X.invokevirtual hexec hown hlink hnamed hmethM hstM hkP hkPi hy (a := b) (cell := cellB) hcell
    (fun z h => by rw [h] at hobj; cases hobj) hselP hmethM habM hkP hkPi (g := g) hg (argsL := argsL) (rest := rest) (hlen _ hsigM) hstack hdg
  rcases hK m meth c ⟨T.setVm vm₁, locs, cells, slots⟩ { g with stack := rest } (.invokevirtual index) mk (Value.ref b :: argsL).toArray X₁ hg hsize hdg hW (X₁.named hnamed) (hpre vm₁ X₁.warmed) with ⟨v, B, X', hpost, hsteps⟩ | ⟨q, B, X', hpost, hsteps⟩
  · exact Or.inl ⟨v, vm₁, B, X₁.warmed, X', hpost, fun target h => hstep₁ _ fun acts => by rw [doInvoke_state]; exact hsteps.trans h⟩
  · exact Or.inr ⟨q, vm₁, B, X₁.warmed, X', hpost, hstep₁ _ fun acts => by rw [doInvoke_state]; exact hsteps⟩
theorem vx_callS (X : Stand p l e R s m args below meth c T locs cells slots) (hexec : p.tables.exec = Jvm.exec) {own : String} {index : Nat} {y : MethodName} {bytes : ByteArray} {maxL : Nat} {ret : Option FieldType}
    (hown : s.vm.findClass own = some m.cls) (hlink : (Cond.methodLink own index y).before args s = true) (hstat : (Cond.static y).before args s = true) (hinit : (Cond.initialized y.cls).before args s = true)
    (hcode : (Cond.code y bytes maxL ret).before args s = true) (hy : y.cls ≠ "java/lang/invoke/MethodHandle" ∧ y.cls ≠ "java/lang/invoke/VarHandle")
    {W9 : Nat} {Pre : Pt → Array Value → Prop} {Post : Pt → Array Value → Option Value → Pt → Prop} {PostX : Pt → Array Value → Addr → Pt → Prop} (hK : vx_Back l R p e below s args y 3 W9 Pre Post PostX)
    {g : JFrame} (hg : g.method = m) (hsize : g.locals.size = c.maxLocals) {argsL rest : List Value} (hlen : ∀ sig, parseMethodDescriptor y.desc = some sig → argsL.length = sig.parameters.length)
    (hstack : g.stack = argsL.reverse ++ rest) (hW : 2 * g.monitorRoom + (rest.map fun v => v.category).sum ≤ W9) (hdg : decode c.code g.pc = .ok (.invokestatic index, 3))
    (hpre : ∀ vm₁, s.WarmedH vm₁ → Pre ⟨T.setVm vm₁, locs, cells, slots⟩ argsL.toArray) :
    (∃ (v : Option Value) (vm₁ : Vm) (B : Pt), s.WarmedH vm₁ ∧ Stand p l e R s m args below meth c B.U B.locs B.cells B.slots ∧ Post ⟨T.setVm vm₁, locs, cells, slots⟩ argsL.toArray v B ∧
      ∀ target, Steps p.tables e below (B.U.setTop { g with pc := g.pc + 3, stack := v.toList ++ rest }) target → Steps p.tables e below (T.setTop g) target) ∨
    (∃ (q : Addr) (vm₁ : Vm) (B : Pt), s.WarmedH vm₁ ∧ Stand p l e R s m args below meth c B.U B.locs B.cells B.slots ∧ PostX ⟨T.setVm vm₁, locs, cells, slots⟩ argsL.toArray q B ∧
      Steps p.tables e below (T.setTop g) ((B.U.setTop { g with stack := rest }).pushFrame (.throwing q))) := by
  obtain ⟨mk, hnamed⟩ := Cond.code_named hcode
  obtain ⟨methM, cM, hmethM, -, -, -, -, -, -, hsigM⟩ := Cond.code_spec hnamed hcode
  have hstatic : methM.isStatic = true := Cond.static_spec hnamed hmethM hstat
  obtain ⟨kP, hkP, -⟩ := className_of_methodNamed hnamed
  have hinitP : kP.init = .initialized := Cond.initialized_spec (findClass_of_methodNamed hnamed) hkP hinit
  obtain ⟨vm₁, X₁, hstep₁⟩ := X.invokestatic hexec hown hlink hnamed hmethM hstatic hkP hinitP hy (g := g) hg (argsL := argsL) (rest := rest) (hlen _ hsigM) hstack hdg
  rcases hK m meth c ⟨T.setVm vm₁, locs, cells, slots⟩ { g with stack := rest } (.invokestatic index) mk argsL.toArray X₁ hg hsize hdg hW (X₁.named hnamed) (hpre vm₁ X₁.warmed) with ⟨v, B, X', hpost, hsteps⟩ | ⟨q, B, X', hpost, hsteps⟩
  · exact Or.inl ⟨v, vm₁, B, X₁.warmed, X', hpost, fun target h => hstep₁ _ fun acts => by rw [doInvoke_state]; exact hsteps.trans h⟩
  · exact Or.inr ⟨q, vm₁, B, X₁.warmed, X', hpost, hstep₁ _ fun acts => by rw [doInvoke_state]; exact hsteps⟩
end Calls
theorem vx_cls {s : State} {T : State} {vm₁ : Vm} {E : String} {k : ClassId} (hW : s.WarmedH vm₁) (h : (T.setVm vm₁).vm.findClass E = some k) : s.vm.findClass E = some k := by
  have h1 : vm₁.findClass E = some k := h
  rw [hW.alike.findClass] at h1
  exact h1
/-- the method's frame g, with q thrown over it -/
def vx_W (p : Program) (l : Launch) (e : Env) (R : Room) (s : State) (m : MethodId) (args : Array Value) (below : List Frame) (meth : Method) (c : Code) (H : Heap) (locs : List Loc) (cells slots : Nat) (Q : State → Prop) (g : JFrame) (q : Addr) : Prop :=
  ∀ T : State, T.heap = H → Stand p l e R s m args below meth c T locs cells slots → ∃ t, Steps p.tables e below ((T.setTop g).pushFrame (.throwing q)) t ∧ Q t
def vx_Run (p : Program) (l : Launch) (e : Env) (R : Room) (s : State) (m : MethodId) (args : Array Value) (below : List Frame) (meth : Method) (c : Code) (H : Heap) (locs : List Loc) (cells slots mc ms : Nat) (g : JFrame) (rest : List Value) (Qa : State → Outcome → State → Prop) (XC : String → State → State → Prop) (free : Addr → Prop) : Prop :=
  ∀ T : State, T.heap = H → Stand p l e R s m args below meth c T locs cells slots →
    (∃ (v : Option Value) (st₀ t T' : State) (L : List Loc), st₀.heap = H ∧ Stand p l e R s m args below meth c T' (locs ++ L) (cells + mc) (slots + ms) ∧ (∀ q ∈ L, free q.base) ∧ T'.heap = t.heap ∧ T'.vm = t.vm ∧ Qa st₀ (.returned v) t ∧
      Goes p e below T g T' { g with pc := g.pc + 3, stack := v.toList ++ rest }) ∨
    (∃ (q : Addr) (st₀ t T' : State) (L : List Loc) (E : String) (ce : Cell), st₀.heap = H ∧ Stand p l e R s m args below meth c T' (locs ++ L) (cells + mc) (slots + ms) ∧ (∀ z ∈ L, free z.base) ∧ T'.heap = t.heap ∧ T'.vm = t.vm ∧ XC E st₀ t ∧ t.heap[q]? = some ce ∧ ce.vm = .none ∧ s.vm.findClass E = some ce.cls ∧
      Steps p.tables e below (T.setTop g) ((T'.setTop { g with stack := rest }).pushFrame (.throwing q)))
def vx_X {S : Type} (px : S → Prop) (B : String → S → State → Prop) (A : Nat → Prop) : String → State → State → Prop := fun E st t => ∃ u : S, px u ∧ B E u t ∧ va_F A st t
section Runs
variable {p : Program} {l : Launch} {e : Env} {R : Room} {s : State} {m : MethodId} {args : Array Value} {below : List Frame} {meth : Method} {c : Code} {H : Heap} {locs : List Loc} {cells slots : Nat}
variable {y : MethodName} {bytes cc : ByteArray} {maxL nL mc ms n index : Nat} {ret : Option FieldType} {ws : List Cond} {rm : Room} {Pc : Array Value → State → Prop} {Qc : Array Value → State → Outcome → State → Prop} {XC : String → State → State → Prop} {free : Addr → Prop} {Ts : List Cond} {own C : String} {b : Addr} {As rest : List Value} {g : JFrame}
theorem vx_callBack (cb : CallB R s args own index y bytes maxL ret ws rm mc ms n) (hM : vx_Met l y ws rm Pc Qc XC mc ms free) (hbl : FrameBlind Pc) : vx_Back l R p e below s args y 3 8 (PreOf R mc ms Pc) (PostOf Qc mc ms free) (vx_Post XC mc ms free) := by
  obtain ⟨hrc, hrs, hfr, hlo, hws, hcw, -, hini, -⟩ := cb
  exact vx_back (bytes := bytes) (maxL := maxL) (ret := ret) hM hbl hrc hrs hfr hlo hws hcw (fun a' U hW => word_at hW (Or.inl (by first | rfl | simp [Cond.onTables, Cond.keeps, Cond.steady])) hini)
theorem vx_runV (S : CallFix p m c cc nL s args Ts own) (hM : vx_Met l y ws rm Pc Qc XC mc ms free) (cw : CallW R s args own C index y bytes maxL ret ws rm mc ms n) (hp : PreV s H C b Pc As)
    (hg : g.method = m) (hn : As.length = n) (hsize : g.locals.size = nL) (hstack : g.stack = As.reverse ++ .ref b :: rest) (hW : 2 * g.monitorRoom + (rest.map fun v => v.category).sum ≤ 8) (hdg : decode cc g.pc = .ok (.invokevirtual index, 3)) (hf : cells + mc ≤ R.cells ∧ slots + ms ≤ R.slots) :
    vx_Run p l e R s m args below meth c H locs cells slots mc ms g rest (Qc (Value.ref b :: As).toArray) XC free := by
  have hK : vx_Back l R p e below s args y 3 8 (PreOf R mc ms Pc) (PostOf Qc mc ms free) (vx_Post XC mc ms free) := vx_callBack cw.1 hM hp.1
  obtain ⟨⟨-, -, -, -, -, -, hcode, -, hy, hlen, hl⟩, hin, hse⟩ := cw
  obtain ⟨hx, hb, hml, ho, -⟩ := S
  obtain ⟨-, ⟨cellB, hcB, hoB, hclB⟩, hPc⟩ := hp
  intro T hT X
  rcases vx_callV X hx (C := C) (bytes := bytes) (maxL := maxL) (ret := ret) ho hl hin hse hcode hy hK (by rw [hT]; exact hcB) hoB hclB hg (hsize.trans hml.symm) (argsL := As) (rest := rest) (fun sig h => hn.trans (hlen sig h)) hstack hW (by rw [hb]; exact hdg)
    (fun vm₁ hW₁ => ⟨hf.1, hf.2, hPc (T.setVm vm₁) hT hW₁⟩) with ⟨v, vm₁, ⟨U', l2, c2, s2⟩, hW₁, X', ⟨g', mk, t, L, e1, e2, hq, h1, hL, h2, h3⟩, st⟩ | ⟨q, vm₁, ⟨U', l2, c2, s2⟩, hW₁, X', ⟨g', mk, t, L, E, ce, e1, e2, hq, hce, hcv, hcl, h1, hL, h2, h3⟩, st⟩
  · dsimp only [Pt.U, Pt.locs, Pt.cells, Pt.slots] at X' e1 e2 h1 h2 h3 st
    subst h1; subst h2; subst h3
    exact Or.inl ⟨v, (T.setVm vm₁).calling g' mk (Value.ref b :: As).toArray, t, U', L, hT, X', hL, e1, e2, hq, st⟩
  · dsimp only [Pt.U, Pt.locs, Pt.cells, Pt.slots] at X' e1 e2 h1 h2 h3 st hcl
    subst h1; subst h2; subst h3
    exact Or.inr ⟨q, (T.setVm vm₁).calling g' mk (Value.ref b :: As).toArray, t, U', L, E, ce, hT, X', hL, e1, e2, hq, hce, hcv, vx_cls hW₁ hcl, st⟩
theorem vx_runS (S : CallFix p m c cc nL s args Ts own) (hM : vx_Met l y ws rm Pc Qc XC mc ms free) (cw : CallB R s args own index y bytes maxL ret ws rm mc ms n ∧ (Cond.static y).before args s = true) (hp : PreS s H Pc As)
    (hg : g.method = m) (hn : As.length = n) (hsize : g.locals.size = nL) (hstack : g.stack = As.reverse ++ rest) (hW : 2 * g.monitorRoom + (rest.map fun v => v.category).sum ≤ 8) (hdg : decode cc g.pc = .ok (.invokestatic index, 3)) (hf : cells + mc ≤ R.cells ∧ slots + ms ≤ R.slots) :
    vx_Run p l e R s m args below meth c H locs cells slots mc ms g rest (Qc As.toArray) XC free := by
  have hK : vx_Back l R p e below s args y 3 8 (PreOf R mc ms Pc) (PostOf Qc mc ms free) (vx_Post XC mc ms free) := vx_callBack cw.1 hM hp.1
  obtain ⟨⟨-, -, -, -, -, -, hcode, hini, hy, hlen, hl⟩, hstt⟩ := cw
  obtain ⟨hx, hb, hml, ho, -⟩ := S
  intro T hT X
  rcases vx_callS X hx (bytes := bytes) (maxL := maxL) (ret := ret) ho hl hstt hini hcode hy hK hg (hsize.trans hml.symm) (argsL := As) (rest := rest) (fun sig h => hn.trans (hlen sig h)) hstack hW (by rw [hb]; exact hdg)
    (fun vm₁ hW₁ => ⟨hf.1, hf.2, hp.2 (T.setVm vm₁) hT hW₁⟩) with ⟨v, vm₁, ⟨U', l2, c2, s2⟩, hW₁, X', ⟨g', mk, t, L, e1, e2, hq, h1, hL, h2, h3⟩, st⟩ | ⟨q, vm₁, ⟨U', l2, c2, s2⟩, hW₁, X', ⟨g', mk, t, L, E, ce, e1, e2, hq, hce, hcv, hcl, h1, hL, h2, h3⟩, st⟩
  · dsimp only [Pt.U, Pt.locs, Pt.cells, Pt.slots] at X' e1 e2 h1 h2 h3 st
    subst h1; subst h2; subst h3
    exact Or.inl ⟨v, (T.setVm vm₁).calling g' mk As.toArray, t, U', L, hT, X', hL, e1, e2, hq, st⟩
  · dsimp only [Pt.U, Pt.locs, Pt.cells, Pt.slots] at X' e1 e2 h1 h2 h3 st hcl
    subst h1; subst h2; subst h3
    exact Or.inr ⟨q, (T.setVm vm₁).calling g' mk As.toArray, t, U', L, E, ce, hT, X', hL, e1, e2, hq, hce, hcv, vx_cls hW₁ hcl, st⟩
end Runs
section Rows
variable {p : Program} {l : Launch} {e : Env} {R : Room} {s : State} {m : MethodId} {args : Array Value} {below : List Frame} {meth : Method} {c : Code} {H : Heap} {locs : List Loc} {cells slots : Nat} {Q : State → Prop}
variable {mc ms : Nat} {free : Addr → Prop} {A0 A1 : Nat → Prop} {H0 : Heap} {a : Array Value} {pc : Nat} {ls : Array Slot} {st0 rest : List Value}
theorem vx_keep {st₀ t T' : State} {L : List Loc} (h0 : st₀.heap = H) (e1 : T'.heap = t.heap) (hS : va_S A0 H0 H locs) (hA : ∀ q, q < H.size → A1 q → A0 q) (hf : ∀ q, free q → A0 q) (hL : ∀ q ∈ L, free q.base) (hF : va_F A1 st₀ t) :
    H.size ≤ T'.heap.size ∧ (∀ q : Nat, q < H.size → ¬ A1 q → T'.heap[q]? = H[q]?) ∧ va_S A0 H0 T'.heap (locs ++ L) := by
  obtain ⟨hz, hk⟩ := hF
  rw [h0] at hz hk
  exact ⟨by rw [e1]; exact hz, fun q h1 h2 => by rw [e1]; exact hk q h1 h2,
    ⟨Nat.le_trans hS.1 (by rw [e1]; exact hz), fun q h1 h2 => by rw [e1, hk q (Nat.lt_of_lt_of_le h1 hS.1) (fun z => h2 (hA q (Nat.lt_of_lt_of_le h1 hS.1) z))]; exact hS.2.1 q h1 h2, fun q hq => by
      rcases List.mem_append.mp hq with h | h
      · exact hS.2.2 q h
      · exact hf _ (hL q h)⟩⟩
theorem vx_calli {S SX : Type} {post : Int32 → S → Prop} {px : SX → Prop} {B : S → State → Prop} {BX : String → SX → State → Prop} {AX : Nat → Prop} (hr : vx_Run p l e R s m args below meth c H locs cells slots mc ms (F0 m pc ls st0) rest (va_Qi post B A1 a) (vx_X px BX AX) free) (hS : va_S A0 H0 H locs) (hA : ∀ q, q < H.size → A1 q → A0 q) (hf : ∀ q, free q → A0 q) (hAX : ∀ q, q < H.size → AX q → A0 q)
    (kx : ∀ (E : String) (ce : Cell) (q9 : Addr) (u : SX) (t : State) (H1 : Heap) (locs1 : List Loc), t.heap = H1 → s.vm.Alike t.vm → px u → BX E u t → H.size ≤ H1.size → (∀ q : Nat, q < H.size → ¬ AX q → H1[q]? = H[q]?) → va_S A0 H0 H1 locs1 → H1[q9]? = some ce → ce.vm = .none → s.vm.findClass E = some ce.cls → vx_W p l e R s m args below meth c H1 locs1 (cells + mc) (slots + ms) Q (F0 m pc ls rest) q9)
    (kk : ∀ (r : Int32) (u : S) (t : State) (H1 : Heap) (locs1 : List Loc), t.heap = H1 → s.vm.Alike t.vm → post r u → B u t → H.size ≤ H1.size → (∀ q : Nat, q < H.size → ¬ A1 q → H1[q]? = H[q]?) → va_S A0 H0 H1 locs1 → W p l e R s m args below meth c H1 locs1 (cells + mc) (slots + ms) Q (F0 m (pc + 3) ls (.int r :: rest))) : W p l e R s m args below meth c H locs cells slots Q (F0 m pc ls st0) := by
  intro T hT X
  rcases hr T hT X with ⟨v, st₀, t, T', L, h0, X', hL, e1, e2, ⟨⟨r, u, hv, hp, hb⟩, hF⟩, st⟩ | ⟨q, st₀, t, T', L, E, ce, h0, X', hL, e1, e2, ⟨u, hp, hb, hF⟩, hce, hcv, hcl, st⟩
  · cases hv
    obtain ⟨k1, k2, k3⟩ := vx_keep h0 e1 hS hA hf hL hF
    obtain ⟨t2, a1, b1⟩ := kk r u t T'.heap (locs ++ L) e1.symm (by rw [← e2]; exact X'.warmed.alike) hp hb k1 k2 k3 T' rfl X'
    exact ⟨t2, st t2 a1, b1⟩
  · obtain ⟨k1, k2, k3⟩ := vx_keep h0 e1 hS hAX hf hL hF
    obtain ⟨t2, a1, b1⟩ := kx E ce q u t T'.heap (locs ++ L) e1.symm (by rw [← e2]; exact X'.warmed.alike) hp hb k1 k2 k3 (by rw [e1]; exact hce) hcv hcl T' rfl X'
    exact ⟨t2, st.trans a1, b1⟩
theorem vx_calll {S SX : Type} {post : Int64 → S → Prop} {px : SX → Prop} {B : S → State → Prop} {BX : String → SX → State → Prop} {AX : Nat → Prop} (hr : vx_Run p l e R s m args below meth c H locs cells slots mc ms (F0 m pc ls st0) rest (va_Ql post B A1 a) (vx_X px BX AX) free) (hS : va_S A0 H0 H locs) (hA : ∀ q, q < H.size → A1 q → A0 q) (hf : ∀ q, free q → A0 q) (hAX : ∀ q, q < H.size → AX q → A0 q)
    (kx : ∀ (E : String) (ce : Cell) (q9 : Addr) (u : SX) (t : State) (H1 : Heap) (locs1 : List Loc), t.heap = H1 → s.vm.Alike t.vm → px u → BX E u t → H.size ≤ H1.size → (∀ q : Nat, q < H.size → ¬ AX q → H1[q]? = H[q]?) → va_S A0 H0 H1 locs1 → H1[q9]? = some ce → ce.vm = .none → s.vm.findClass E = some ce.cls → vx_W p l e R s m args below meth c H1 locs1 (cells + mc) (slots + ms) Q (F0 m pc ls rest) q9)
    (kk : ∀ (r : Int64) (u : S) (t : State) (H1 : Heap) (locs1 : List Loc), t.heap = H1 → s.vm.Alike t.vm → post r u → B u t → H.size ≤ H1.size → (∀ q : Nat, q < H.size → ¬ A1 q → H1[q]? = H[q]?) → va_S A0 H0 H1 locs1 → W p l e R s m args below meth c H1 locs1 (cells + mc) (slots + ms) Q (F0 m (pc + 3) ls (.long r :: rest))) : W p l e R s m args below meth c H locs cells slots Q (F0 m pc ls st0) := by
  intro T hT X
  rcases hr T hT X with ⟨v, st₀, t, T', L, h0, X', hL, e1, e2, ⟨⟨r, u, hv, hp, hb⟩, hF⟩, st⟩ | ⟨q, st₀, t, T', L, E, ce, h0, X', hL, e1, e2, ⟨u, hp, hb, hF⟩, hce, hcv, hcl, st⟩
  · cases hv
    obtain ⟨k1, k2, k3⟩ := vx_keep h0 e1 hS hA hf hL hF
    obtain ⟨t2, a1, b1⟩ := kk r u t T'.heap (locs ++ L) e1.symm (by rw [← e2]; exact X'.warmed.alike) hp hb k1 k2 k3 T' rfl X'
    exact ⟨t2, st t2 a1, b1⟩
  · obtain ⟨k1, k2, k3⟩ := vx_keep h0 e1 hS hAX hf hL hF
    obtain ⟨t2, a1, b1⟩ := kx E ce q u t T'.heap (locs ++ L) e1.symm (by rw [← e2]; exact X'.warmed.alike) hp hb k1 k2 k3 (by rw [e1]; exact hce) hcv hcl T' rfl X'
    exact ⟨t2, st.trans a1, b1⟩
theorem vx_callf {S SX : Type} {post : UInt32 → S → Prop} {px : SX → Prop} {B : S → State → Prop} {BX : String → SX → State → Prop} {AX : Nat → Prop} (hr : vx_Run p l e R s m args below meth c H locs cells slots mc ms (F0 m pc ls st0) rest (va_Qf post B A1 a) (vx_X px BX AX) free) (hS : va_S A0 H0 H locs) (hA : ∀ q, q < H.size → A1 q → A0 q) (hf : ∀ q, free q → A0 q) (hAX : ∀ q, q < H.size → AX q → A0 q)
    (kx : ∀ (E : String) (ce : Cell) (q9 : Addr) (u : SX) (t : State) (H1 : Heap) (locs1 : List Loc), t.heap = H1 → s.vm.Alike t.vm → px u → BX E u t → H.size ≤ H1.size → (∀ q : Nat, q < H.size → ¬ AX q → H1[q]? = H[q]?) → va_S A0 H0 H1 locs1 → H1[q9]? = some ce → ce.vm = .none → s.vm.findClass E = some ce.cls → vx_W p l e R s m args below meth c H1 locs1 (cells + mc) (slots + ms) Q (F0 m pc ls rest) q9)
    (kk : ∀ (r : UInt32) (u : S) (t : State) (H1 : Heap) (locs1 : List Loc), t.heap = H1 → s.vm.Alike t.vm → post r u → B u t → H.size ≤ H1.size → (∀ q : Nat, q < H.size → ¬ A1 q → H1[q]? = H[q]?) → va_S A0 H0 H1 locs1 → W p l e R s m args below meth c H1 locs1 (cells + mc) (slots + ms) Q (F0 m (pc + 3) ls (.float r :: rest))) : W p l e R s m args below meth c H locs cells slots Q (F0 m pc ls st0) := by
  intro T hT X
  rcases hr T hT X with ⟨v, st₀, t, T', L, h0, X', hL, e1, e2, ⟨⟨r, u, hv, hp, hb⟩, hF⟩, st⟩ | ⟨q, st₀, t, T', L, E, ce, h0, X', hL, e1, e2, ⟨u, hp, hb, hF⟩, hce, hcv, hcl, st⟩
  · cases hv
    obtain ⟨k1, k2, k3⟩ := vx_keep h0 e1 hS hA hf hL hF
    obtain ⟨t2, a1, b1⟩ := kk r u t T'.heap (locs ++ L) e1.symm (by rw [← e2]; exact X'.warmed.alike) hp hb k1 k2 k3 T' rfl X'
    exact ⟨t2, st t2 a1, b1⟩
  · obtain ⟨k1, k2, k3⟩ := vx_keep h0 e1 hS hAX hf hL hF
    obtain ⟨t2, a1, b1⟩ := kx E ce q u t T'.heap (locs ++ L) e1.symm (by rw [← e2]; exact X'.warmed.alike) hp hb k1 k2 k3 (by rw [e1]; exact hce) hcv hcl T' rfl X'
    exact ⟨t2, st.trans a1, b1⟩
theorem vx_calld {S SX : Type} {post : UInt64 → S → Prop} {px : SX → Prop} {B : S → State → Prop} {BX : String → SX → State → Prop} {AX : Nat → Prop} (hr : vx_Run p l e R s m args below meth c H locs cells slots mc ms (F0 m pc ls st0) rest (va_Qd post B A1 a) (vx_X px BX AX) free) (hS : va_S A0 H0 H locs) (hA : ∀ q, q < H.size → A1 q → A0 q) (hf : ∀ q, free q → A0 q) (hAX : ∀ q, q < H.size → AX q → A0 q)
    (kx : ∀ (E : String) (ce : Cell) (q9 : Addr) (u : SX) (t : State) (H1 : Heap) (locs1 : List Loc), t.heap = H1 → s.vm.Alike t.vm → px u → BX E u t → H.size ≤ H1.size → (∀ q : Nat, q < H.size → ¬ AX q → H1[q]? = H[q]?) → va_S A0 H0 H1 locs1 → H1[q9]? = some ce → ce.vm = .none → s.vm.findClass E = some ce.cls → vx_W p l e R s m args below meth c H1 locs1 (cells + mc) (slots + ms) Q (F0 m pc ls rest) q9)
    (kk : ∀ (r : UInt64) (u : S) (t : State) (H1 : Heap) (locs1 : List Loc), t.heap = H1 → s.vm.Alike t.vm → post r u → B u t → H.size ≤ H1.size → (∀ q : Nat, q < H.size → ¬ A1 q → H1[q]? = H[q]?) → va_S A0 H0 H1 locs1 → W p l e R s m args below meth c H1 locs1 (cells + mc) (slots + ms) Q (F0 m (pc + 3) ls (.double r :: rest))) : W p l e R s m args below meth c H locs cells slots Q (F0 m pc ls st0) := by
  intro T hT X
  rcases hr T hT X with ⟨v, st₀, t, T', L, h0, X', hL, e1, e2, ⟨⟨r, u, hv, hp, hb⟩, hF⟩, st⟩ | ⟨q, st₀, t, T', L, E, ce, h0, X', hL, e1, e2, ⟨u, hp, hb, hF⟩, hce, hcv, hcl, st⟩
  · cases hv
    obtain ⟨k1, k2, k3⟩ := vx_keep h0 e1 hS hA hf hL hF
    obtain ⟨t2, a1, b1⟩ := kk r u t T'.heap (locs ++ L) e1.symm (by rw [← e2]; exact X'.warmed.alike) hp hb k1 k2 k3 T' rfl X'
    exact ⟨t2, st t2 a1, b1⟩
  · obtain ⟨k1, k2, k3⟩ := vx_keep h0 e1 hS hAX hf hL hF
    obtain ⟨t2, a1, b1⟩ := kx E ce q u t T'.heap (locs ++ L) e1.symm (by rw [← e2]; exact X'.warmed.alike) hp hb k1 k2 k3 (by rw [e1]; exact hce) hcv hcl T' rfl X'
    exact ⟨t2, st.trans a1, b1⟩
theorem vx_callv {S SX : Type} {post : S → Prop} {px : SX → Prop} {B : S → State → Prop} {BX : String → SX → State → Prop} {AX : Nat → Prop} (hr : vx_Run p l e R s m args below meth c H locs cells slots mc ms (F0 m pc ls st0) rest (va_Qv post B A1 a) (vx_X px BX AX) free) (hS : va_S A0 H0 H locs) (hA : ∀ q, q < H.size → A1 q → A0 q) (hf : ∀ q, free q → A0 q) (hAX : ∀ q, q < H.size → AX q → A0 q)
    (kx : ∀ (E : String) (ce : Cell) (q9 : Addr) (u : SX) (t : State) (H1 : Heap) (locs1 : List Loc), t.heap = H1 → s.vm.Alike t.vm → px u → BX E u t → H.size ≤ H1.size → (∀ q : Nat, q < H.size → ¬ AX q → H1[q]? = H[q]?) → va_S A0 H0 H1 locs1 → H1[q9]? = some ce → ce.vm = .none → s.vm.findClass E = some ce.cls → vx_W p l e R s m args below meth c H1 locs1 (cells + mc) (slots + ms) Q (F0 m pc ls rest) q9)
    (kk : ∀ (u : S) (t : State) (H1 : Heap) (locs1 : List Loc), t.heap = H1 → s.vm.Alike t.vm → post u → B u t → H.size ≤ H1.size → (∀ q : Nat, q < H.size → ¬ A1 q → H1[q]? = H[q]?) → va_S A0 H0 H1 locs1 → W p l e R s m args below meth c H1 locs1 (cells + mc) (slots + ms) Q (F0 m (pc + 3) ls (rest))) : W p l e R s m args below meth c H locs cells slots Q (F0 m pc ls st0) := by
  intro T hT X
  rcases hr T hT X with ⟨v, st₀, t, T', L, h0, X', hL, e1, e2, ⟨⟨u, hv, hp, hb⟩, hF⟩, st⟩ | ⟨q, st₀, t, T', L, E, ce, h0, X', hL, e1, e2, ⟨u, hp, hb, hF⟩, hce, hcv, hcl, st⟩
  · cases hv
    obtain ⟨k1, k2, k3⟩ := vx_keep h0 e1 hS hA hf hL hF
    obtain ⟨t2, a1, b1⟩ := kk u t T'.heap (locs ++ L) e1.symm (by rw [← e2]; exact X'.warmed.alike) hp hb k1 k2 k3 T' rfl X'
    exact ⟨t2, st t2 a1, b1⟩
  · obtain ⟨k1, k2, k3⟩ := vx_keep h0 e1 hS hAX hf hL hF
    obtain ⟨t2, a1, b1⟩ := kx E ce q u t T'.heap (locs ++ L) e1.symm (by rw [← e2]; exact X'.warmed.alike) hp hb k1 k2 k3 (by rw [e1]; exact hce) hcv hcl T' rfl X'
    exact ⟨t2, st.trans a1, b1⟩
/-- caught by the row x of this method's table; the rows ahead don't take it -/
theorem vx_catch {own name : String} {E : String} {ce : Cell} {q : Addr} (hown : s.vm.findClass own = some m.cls) (pre : List ExceptionTableEntry) (x : ExceptionTableEntry) (suf : List ExceptionTableEntry) (hsplit : c.exceptionTable.toList = pre ++ x :: suf)
    (hpass : ∀ z ∈ pre, covers z pc = false ∨ (z.catchType ≠ 0 ∧ ∃ nm : String, (Cond.classLink own z.catchType nm).before args s = true ∧ va_Nc E nm s)) (hx : covers x pc = true) (h0 : x.catchType ≠ 0)
    (hlink : (Cond.classLink own x.catchType name).before args s = true) (hcast : (Cond.castable E name).before args s = true) (hcell : H[q]? = some ce) (hv : ce.vm = .none) (hcl : s.vm.findClass E = some ce.cls)
    (kk : W p l e R s m args below meth c H locs cells slots Q (F0 m x.handlerPc ls [.ref q])) : vx_W p l e R s m args below meth c H locs cells slots Q (F0 m pc ls rest) q := by
  intro T hT X
  have hpl : e.platform.magicAccessors = ({} : Platform).magicAccessors := by rw [X.admits.platform]
  obtain ⟨c3, c4, hc3, hc4, hasg⟩ := Cond.castable_spec hcast
  cases Option.some.inj (hc3.symm.trans hcl)
  obtain ⟨c5, hc5, hcl5⟩ := Cond.classLink_spec hown hlink e.platform hpl
  cases Option.some.inj (hc4.symm.trans hc5)
  obtain ⟨vm', X', st⟩ := X.thenCaughtThrough q (g := F0 m pc ls rest) rfl (Steps.refl _) (by rw [hT]; exact hcell) (by rw [hv]; rfl) (by obtain ⟨k9, h9, -⟩ := Vm.findClass_spec hcl; exact ⟨k9, h9⟩) pre x suf hsplit
    (fun z hz => by
      rcases hpass z hz with h | ⟨hz0, nm, hl1, hn1⟩
      · exact Or.inl h
      · obtain ⟨c6, hc6, hcl6⟩ := Cond.classLink_spec hown hl1 e.platform hpl
        obtain ⟨a8, b8, h1, h2, h3⟩ := hn1
        cases Option.some.inj (h1.symm.trans hcl)
        cases Option.some.inj (h2.symm.trans hc6)
        exact Or.inr ⟨hz0, _, hcl6, h3⟩) hx (Or.inr ⟨h0, c4, hcl5, hasg⟩)
  obtain ⟨t, a1, b1⟩ := kk (T.setVm vm') hT X'
  exact ⟨t, st.trans a1, b1⟩
end Rows
section Ends
variable {p : Program} {l : Launch} {e : Env} {R : Room} {s : State} {m : MethodId} {args : Array Value} {below : List Frame} {meth : Method} {c : Code} {H : Heap} {locs : List Loc} {cells slots : Nat} {Q : State → Prop}
variable {mc ms : Nat} {free : Addr → Prop} {A0 A1 : Nat → Prop} {H0 : Heap} {a : Array Value} {ls : Array Slot} {st0 rest : List Value}
variable {Qc : Array Value → State → Outcome → State → Prop} {XC : String → State → State → Prop}
/-- what a body that may throw owes at its end -/
def vx_MQ (below : List Frame) (Qc : Array Value → State → Outcome → State → Prop) (XC : String → State → State → Prop) (a : Array Value) (s : State) (mc ms : Nat) (free : Addr → Prop) : State → Prop := fun t =>
  ∃ o, t.status = .running ∧ Ended t below o ∧ vx_Q Qc XC mc ms free a s o t
theorem vx_ret {g : JFrame} {mc ms : Nat} (k : W p l e R s m args below meth c H locs cells slots (MQ below Qc args s mc ms free) g) : W p l e R s m args below meth c H locs cells slots (vx_MQ below Qc XC args s mc ms free) g := by
  intro T hT X
  obtain ⟨t, a1, o, b1, b2, b3, b4⟩ := k T hT X
  exact ⟨t, a1, o, b1, b2, Or.inl ⟨b3, b4⟩⟩
/-- not caught here: it goes on to the caller -/
theorem vx_widen {g : JFrame} {q : Addr} {k n : Nat} (h1 : cells ≤ k) (h2 : slots ≤ n) (kk : vx_W p l e R s m args below meth c H locs k n Q g q) : vx_W p l e R s m args below meth c H locs cells slots Q g q := fun T hT X => kk T hT (stand_widen X h1 h2)
theorem vx_out {pc : Nat} {E : String} {ce : Cell} {q : Addr} {mc ms : Nat} (hout : ∀ x ∈ c.exceptionTable.toList, covers x pc = false) (hlocks : meth.locks = false) (hcell : H[q]? = some ce) (hv : ce.vm = .none) (hcl : s.vm.findClass E = some ce.cls)
    (hx : ∀ t : State, t.heap = H → s.vm.Alike t.vm → XC E s t) (hf : ∀ z ∈ locs, free z.base) (hc : cells ≤ mc) (hs : slots ≤ ms) :
    vx_W p l e R s m args below meth c H locs cells slots (vx_MQ below Qc XC args s mc ms free) (F0 m pc ls rest) q := by
  intro T hT X
  obtain ⟨st1, hrun, hend, hW, hsm⟩ := X.leaveThrown q (g := F0 m pc ls rest) rfl rfl rfl hout hlocks
  have hcell9 : (T.setFrames (.throwing q :: below)).heap[q]? = some ce := by
    show T.heap[q]? = some ce
    rw [hT]; exact hcell
  exact ⟨_, st1, .threw q, hrun, hend, Or.inr ⟨q, rfl, E, ce, locs, hx _ hT hW.alike, hcell9, hv, hcl, hW, hsm.mono hc hs, hf⟩⟩
theorem vx_frame {U : State} {k n : Nat} (h : s.sameButNew ({ U with vm := s.vm } : State) locs k n) : s.heap.size ≤ U.heap.size ∧ ∀ q : Nat, q < s.heap.size → (∀ z ∈ locs, z.base ≠ q) → U.heap[q]? = s.heap[q]? := by
  obtain ⟨-, h2, -, -, -, h6⟩ := h
  refine ⟨h2, fun q hq hz => ?_⟩
  obtain ⟨c9, e1, e2, e3, e4⟩ := h6 q _ (Array.getElem?_eq_getElem hq)
  have hs : c9.slots = (s.heap[q]).slots := Array.ext_getElem? fun i => e4 i fun hm => hz _ hm rfl
  have h9 : c9 = s.heap[q] := by
    rw [hs] at e2
    exact e2
  have e5 : U.heap[q]? = some c9 := e1
  rw [e5, h9, Array.getElem?_eq_getElem hq]
/-- the words of a throw but the four that speak of the heap -/
def vx_no (w : Cond) : Bool := decide (w ≠ .isRef (.static Bundle.tN "UNASSIGNED_STACK" Bundle.steD)) && decide (w ≠ .isRef (.static Bundle.tN "SUPPRESSED_SENTINEL" Bundle.listD)) && decide (w ≠ .laysStatic Bundle.tN "UNASSIGNED_STACK" Bundle.steD) && decide (w ≠ .laysStatic Bundle.tN "SUPPRESSED_SENTINEL" Bundle.listD)
def vx_at0 (own : String) (ic : Nat) (X : String) (names : List String) : List Cond := (Bundle.ownAtoms0 own ic X names).filter vx_no
def vx_atS (own : String) (ic : Nat) (X : String) (names : List String) : List Cond := (Bundle.ownAtoms own ic X names).filter vx_no
/-- a word that the tables alone decide, or a good one -/
def vx_ot (w : Cond) : Bool := w.onTables || goodWord w
theorem vx_ot_at {args a' : Array Value} {s U : State} {w : Cond} (hW : s.WarmedH U.vm) (hvm : s.vm = U.vm) (hg : vx_ot w = true) (h : w.before args s = true) : w.before a' U = true := by
  simp only [vx_ot, Bool.or_eq_true] at hg
  rcases hg with hg | hg
  · exact va_tabs hg hvm h
  · exact word_at hW (good_of_word hg) h
/-- a list's words: the good ones out of the method's own list, the others by premises of their own -/
theorem vx_hat {args : Array Value} {s : State} {L B : List Cond} (h1 : ∀ w ∈ L.filter goodWord, w.before args s = true) (h2 : ∀ w ∈ L.filter (fun w => !goodWord w), w ∈ B) (h3 : ∀ w ∈ B, w.before args s = true) : ∀ w ∈ L, w.before args s = true := by
  intro w hw
  by_cases g : goodWord w = true
  · exact h1 w (List.mem_filter.mpr ⟨hw, g⟩)
  · refine h3 w (h2 w (List.mem_filter.mpr ⟨hw, ?_⟩))
    show (!goodWord w) = true
    cases hgw : goodWord w
    · rfl
    · exact absurd hgw g
theorem vx_c {args : Array Value} {s : State} {w : Cond} {B : List Cond} (h : w.before args s = true) (t : ∀ w ∈ B, w.before args s = true) : ∀ w' ∈ w :: B, w'.before args s = true := fun w' h' => (List.mem_cons.mp h').elim (fun e => by rw [e]; exact h) (t w')
theorem vx_n {args : Array Value} {s : State} : ∀ w ∈ ([] : List Cond), w.before args s = true := fun _ h => nomatch h
theorem vx_own {args : Array Value} {s : State} {L : List Cond} (h1 : ∀ w ∈ L.filter vx_no, w.before args s = true)
    (hU : (Cond.isRef (.static Bundle.tN "UNASSIGNED_STACK" Bundle.steD)).before args s = true) (hN : (Cond.isRef (.static Bundle.tN "SUPPRESSED_SENTINEL" Bundle.listD)).before args s = true)
    (lU : (Cond.laysStatic Bundle.tN "UNASSIGNED_STACK" Bundle.steD).before args s = true) (lN : (Cond.laysStatic Bundle.tN "SUPPRESSED_SENTINEL" Bundle.listD).before args s = true) : ∀ w ∈ L, w.before args s = true := by
  intro w hw
  by_cases e1 : w = .isRef (.static Bundle.tN "UNASSIGNED_STACK" Bundle.steD)
  · rw [e1]; exact hU
  · by_cases e2 : w = .isRef (.static Bundle.tN "SUPPRESSED_SENTINEL" Bundle.listD)
    · rw [e2]; exact hN
    · by_cases e3 : w = .laysStatic Bundle.tN "UNASSIGNED_STACK" Bundle.steD
      · rw [e3]; exact lU
      · by_cases e4 : w = .laysStatic Bundle.tN "SUPPRESSED_SENTINEL" Bundle.listD
        · rw [e4]; exact lN
        · exact h1 w (List.mem_filter.mpr ⟨hw, by unfold vx_no; rw [decide_eq_true e1, decide_eq_true e2, decide_eq_true e3, decide_eq_true e4]; rfl⟩)
/-- where a static field lies, its class's statics cell in H -/
def vx_L (C n d : String) (A : Nat → Prop) (U : State) (H : Heap) : Prop := ∃ (c : ClassId) (k : Class) (i : Nat) (f : Field) (a : Nat) (cell : Cell), U.vm.findClass C = some c ∧ U.fieldFound? C n d = some (c, k, i, f) ∧ f.isStatic = true ∧ k.statics = some a ∧ H[a]? = some cell ∧ cell.vm.isStatics = true ∧ cell.cls = c ∧ f.slot < cell.slots.size ∧ k.staticTypes[f.slot]? = some f.type ∧ ¬ A a
theorem vx_L.moved {C n d : String} {A : Nat → Prop} {u U : State} {H : Heap} (hvm : u.vm.Alike U.vm) (h : vx_L C n d A u H) : vx_L C n d A U H := by
  obtain ⟨c, k, i, f, a, cell, h1, h2, h3, h4, h5, h6, h7, h8, h9, h10⟩ := h
  obtain ⟨k', hi', he⟩ := State.fieldFound?_setVm hvm h2
  exact ⟨c, k', i, f, a, cell, by rw [hvm.findClass]; exact h1, hi', h3, by rw [he]; exact h4, h5, h6, h7, h8, by rw [he]; exact h9, h10⟩
theorem vx_L.kept {C n d : String} {A : Nat → Prop} {U : State} {H H1 : Heap} (h : vx_L C n d A U H) (hq : ∀ a : Nat, a < H.size → ¬ A a → H1[a]? = H[a]?) : vx_L C n d A U H1 := by
  obtain ⟨c, k, i, f, a, cell, h1, h2, h3, h4, h5, h6, h7, h8, h9, h10⟩ := h
  exact ⟨c, k, i, f, a, cell, h1, h2, h3, h4, by rw [hq a (Array.getElem?_eq_some_iff.mp h5).1 h10]; exact h5, h6, h7, h8, h9, h10⟩
theorem vx_L.narrow {C n d : String} {A B : Nat → Prop} {U : State} {H : Heap} (h : vx_L C n d A U H) (hAB : ∀ q, B q → A q) : vx_L C n d B U H := by
  obtain ⟨c, k, i, f, a, cell, h1, h2, h3, h4, h5, h6, h7, h8, h9, h10⟩ := h
  exact ⟨c, k, i, f, a, cell, h1, h2, h3, h4, h5, h6, h7, h8, h9, fun z => h10 (hAB _ z)⟩
theorem vx_L.word {C n d : String} {A : Nat → Prop} {s : State} {args : Array Value} (h : vx_L C n d A s s.heap) : (Cond.laysStatic C n d).before args s = true := by
  obtain ⟨c, k, i, f, a, cell, h1, h2, h3, h4, h5, h6, h7, h8, h9, -⟩ := h
  show (Cond.laysStatic C n d).holds args s none s [] = true
  exact Cond.laysStatic_of h1 h2 h3 h4 h5 h6 h7 h8 h9
/-- .. and what it holds: null or some reference -/
def vx_Zq (C n d : String) (A : Nat → Prop) (U : State) (H : Heap) : Prop := va_Zq C n d A U H ∧ vx_L C n d A U H
theorem vx_Zq.moved {C n d : String} {A : Nat → Prop} {u U : State} {H : Heap} (hvm : u.vm.Alike U.vm) (h : vx_Zq C n d A u H) : vx_Zq C n d A U H := ⟨va_Zq.moved hvm h.1, vx_L.moved hvm h.2⟩
theorem vx_Zq.kept {C n d : String} {A : Nat → Prop} {U : State} {H H1 : Heap} (h : vx_Zq C n d A U H) (hq : ∀ a : Nat, a < H.size → ¬ A a → H1[a]? = H[a]?) : vx_Zq C n d A U H1 := ⟨va_Zq.kept h.1 hq, vx_L.kept h.2 hq⟩
theorem vx_Zq.narrow {C n d : String} {A B : Nat → Prop} {U : State} {H : Heap} (h : vx_Zq C n d A U H) (hAB : ∀ q, B q → A q) : vx_Zq C n d B U H := ⟨va_Zq.narrow h.1 hAB, vx_L.narrow h.2 hAB⟩
theorem vx_Zqof {args : Array Value} {s : State} {C n d : String} {A : Nat → Prop} (hl : (Cond.laysStatic C n d).before args s = true) (hini : (Cond.initialized C).before args s = true) (h : (Cond.isRef (.static C n d)).before args s = true) (hA : ∀ a : Nat, a < s.heap.size → ¬ A a) : vx_Zq C n d A s s.heap := by
  refine ⟨va_Zqof hl hini h hA, ?_⟩
  obtain ⟨c, k, i, f, a, cell, h1, h2, h3, h4, h5, h6, h7, h8, h9⟩ := Cond.laysStatic_spec hl
  exact ⟨c, k, i, f, a, cell, h1, h2, h3, h4, h5, h6, h7, h8, h9, hA a (Array.getElem?_eq_some_iff.mp h5).1⟩
theorem vx_isRef {C n d : String} {v : Value} {A : Nat → Prop} {s : State} {args : Array Value} (h : va_Z C n d v A s s.heap) (hv : v.isRef = true) : (Cond.isRef (.static C n d)).before args s = true := by
  obtain ⟨cf, kf, fi, f, a, cell, h1, h2, h3, h4, h5, h6, h7, -⟩ := h
  have he : (Term.static C n d).eval args s none [] s = some v := by
    simp [Term.eval, State.fieldNamed?, h1, h2, h4, h5, h6, h7]
  simp only [Cond.before, Cond.holds, Cond.value, he]
  cases v <;> simp_all [Value.isRef]
theorem vx_isRefq {C n d : String} {A : Nat → Prop} {s : State} {args : Array Value} (h : va_Zq C n d A s s.heap) : (Cond.isRef (.static C n d)).before args s = true := by
  rcases h with h | ⟨t, h⟩
  · exact vx_isRef h rfl
  · exact vx_isRef h rfl
/-- the same frame, seen from here: as if the method were called anew in this heap -/
theorem vx_rebase {T : State} (X : Stand p l e R s m args below meth c T locs cells slots) {R' : Room} (hf : R'.frames ≤ R.frames) (hl : R'.locals ≤ R.locals) (hc : cells + R'.cells ≤ R.cells) (hs : slots + R'.slots ≤ R.slots) :
    Stand p l e R' ((T.setVm s.vm).setFrames (.invoking m args :: below)) m args below meth c T [] 0 0 := by
  have htop : (T.setVm s.vm).topJava?.isSome := X.here.top
  have hF : ((T.setVm s.vm).setFrames (.invoking m args :: below)).frames = .invoking m args :: below := State.frames_setFrames _ (State.cur_lt_of_top htop)
  obtain ⟨g₀, hg0⟩ := Option.isSome_iff_exists.mp htop
  obtain ⟨r, hr⟩ := State.topJava?_eq_some.mp hg0
  have hl9 : e.platform.stackLimits (T.setVm s.vm).me = e.platform.stackLimits s.me := X.limits
  have hb9 : (T.setVm s.vm).me.stackBytes = s.me.stackBytes := X.bytes
  refine ⟨X.admits, X.cas, X.clock, hF, ?_, X.hears, X.method, X.code, X.here, X.tail, X.warmed, ?_, ?_, ?_⟩
  · have h := X.room
    have hU : ((T.setVm s.vm).setFrames (.invoking m args :: below)).localsInUse = s.localsInUse := by
      rw [State.localsInUse_invoking hF (meth := meth) (c := c) X.method X.code, State.localsInUse_invoking X.frames X.method X.code]
    simp only [State.hasRoom, Bool.and_eq_true, decide_eq_true_eq] at h ⊢
    obtain ⟨⟨⟨⟨h1, h2, h3, h4, h5, h6⟩, h7⟩, h8⟩, h9⟩ := h
    rw [X.frames, List.length_cons] at h2 h3
    have q1 := X.heapSize
    have q2 := X.used
    simp only [hF, hU, List.length_cons, State.stackLimits_setFrames, State.stackBytes_setFrames, hl9, hb9]
    refine ⟨⟨⟨⟨by omega, by omega, by omega, by omega, by omega, h6⟩, ?_⟩, ?_⟩, X.book⟩
    · show T.heap.size + R'.cells ≤ e.platform.maxCells
      omega
    · show T.slotsUsed + R'.slots ≤ e.platform.maxSlots
      omega
  · rw [State.stackLimits_setFrames]; rfl
  · rw [State.stackBytes_setFrames]; rfl
  · refine ⟨?_, Nat.le_refl _, Nat.le_refl _, ?_, ?_, fun a c9 h9 => ⟨c9, h9, rfl, rfl, fun _ _ => rfl⟩⟩
    · obtain ⟨t, ht, -⟩ := State.frames_cons hr
      show T.setVm s.vm = { ((T.setVm s.vm).setFrames (.invoking m args :: below)).setFrames (T.setVm s.vm).frames with heap := T.heap, slotsUsed := T.slotsUsed }
      rw [State.setFrames_setFrames, State.setFrames_self ht]
      rfl
    · show T.slotsUsed = T.slotsUsed + ((T.heap.toList.drop T.heap.size).map (·.slots.size)).sum
      rw [List.drop_eq_nil_of_le (Nat.le_of_eq Array.length_toList)]
      rfl
    · show ((T.heap.toList.drop T.heap.size).map (·.slots.size)).sum ≤ 0
      rw [List.drop_eq_nil_of_le (Nat.le_of_eq Array.length_toList)]
      exact Nat.le_refl _
/-- 'throw new E()': new; dup; invokespecial; athrow -/
theorem vx_throw0 {cc : ByteArray} {pc : Nat} (hexec : p.tables.exec = Jvm.exec) (hb : c.code = cc) (hl : l.stackTraces = false) {own cls : String} {names : List String} {ik ic mc ms : Nat} {A : Nat → Prop}
    (hown : s.vm.findClass own = some m.cls) (hcls : Bundle.fit cls = true) (hnames : ∀ n ∈ names, Bundle.fit n = true)
    (hk : (Cond.classLink own ik cls).before args s = true) (hini : (Cond.initialized cls).before args s = true) (hat : ∀ w ∈ vx_at0 own ic cls names, w.before args s = true)
    (hgood : ∀ w ∈ Cond.classLink own ik cls :: Cond.initialized cls :: vx_at0 own ic cls names, vx_ot w = true)
    (hU : vx_Zq Bundle.tN "UNASSIGNED_STACK" Bundle.steD A s s.heap) (hN : vx_Zq Bundle.tN "SUPPRESSED_SENTINEL" Bundle.listD A s s.heap) (hS : va_S A s.heap H locs) (hsize : ls.size = c.maxLocals)
    (d0 : decode cc pc = .ok (.new ik, 3)) (d3 : decode cc (pc + 3) = .ok (.dup, 1)) (d4 : decode cc (pc + 4) = .ok (.invokespecial ic, 3)) (d7 : decode cc (pc + 7) = .ok (.athrow, 1))
    (hout : ∀ x ∈ c.exceptionTable.toList, covers x (pc + 7) = false)
    (hRframes : names.length + 3 < R.frames) (hRlocals : (rest.map fun v => v.category).sum + (13 * (names.length + 1) + 42) ≤ R.locals) (hRcells : cells + 1 ≤ R.cells) (hRslots : slots + 6 ≤ R.slots) (hlocks : meth.locks = false)
    (hx : ∀ t : State, s.vm.Alike t.vm → H.size ≤ t.heap.size → (∀ q : Nat, q < H.size → t.heap[q]? = H[q]?) → XC cls s t)
    (hf : ∀ z ∈ locs, free z.base) (hc : cells + 1 ≤ mc) (hs : slots + 6 ≤ ms) :
    W p l e R s m args below meth c H locs cells slots (vx_MQ below Qc XC args s mc ms free) (F0 m pc ls rest) := by
  intro T hT X
  have htr : e.platform.stackTraces = false := (show e.platform.stackTraces = l.stackTraces by rw [X.admits.platform]).trans hl
  have Y := vx_rebase X (R' := { frames := R.frames, locals := R.locals, cells := 1, slots := 6 }) (Nat.le_refl _) (Nat.le_refl _) hRcells hRslots
  obtain ⟨s', hA⟩ : ∃ z, z = (T.setVm s.vm).setFrames (.invoking m args :: below) := ⟨_, rfl⟩
  rw [← hA] at Y
  have hvm : s'.vm = s.vm := by rw [hA]; rfl
  have hhp : s'.heap = H := by rw [hA]; exact hT
  have hW0 : s.WarmedH s'.vm := by rw [hvm]; exact State.WarmedH.refl s
  have hat' : ∀ w ∈ vx_at0 own ic cls names, w.before args s' = true := fun w hw => vx_ot_at hW0 hvm.symm (hgood w (List.mem_cons_of_mem _ (List.mem_cons_of_mem _ hw))) (hat w hw)
  have hk' : (Cond.classLink own ik cls).before args s' = true := vx_ot_at hW0 hvm.symm (hgood _ List.mem_cons_self) hk
  have hini' : (Cond.initialized cls).before args s' = true := vx_ot_at hW0 hvm.symm (hgood _ (List.mem_cons_of_mem _ List.mem_cons_self)) hini
  have hU' : vx_Zq Bundle.tN "UNASSIGNED_STACK" Bundle.steD A s' s'.heap := by rw [hhp]; exact vx_Zq.moved hW0.alike (hU.kept hS.2.1)
  have hN' : vx_Zq Bundle.tN "SUPPRESSED_SENTINEL" Bundle.listD A s' s'.heap := by rw [hhp]; exact vx_Zq.moved hW0.alike (hN.kept hS.2.1)
  have h : ∀ w ∈ Bundle.ownAtoms0 own ic cls names, w.before args s' = true := vx_own hat' (vx_isRefq hU'.1) (vx_isRefq hN'.1) hU'.2.word hN'.2.word
  have hown' : s'.vm.findClass own = some m.cls := by rw [hvm]; exact hown
  have hins : (Cond.instantiable cls 6).before args s' = true := h _ (by simp [Bundle.ownAtoms0])
  obtain ⟨vm₁, cX, kX, hfX, hkX, -, -, X₁, st1⟩ := Y.newCold hexec (own := own) (C := cls) (index := ik) (n := 6) hown' hk' hins hini'
    (g := F0 m pc ls rest) rfl (by rw [hb]; exact d0) (Nat.le_refl _) (Nat.le_refl _)
  generalize hT1 : (T.setVm vm₁).pushCell { cls := cX, slots := kX.instanceTypes.map defaultValue, vm := .none } = T1 at X₁ st1
  have hcat : (Value.ref T.heap.size).category = 1 := rfl
  have hcellA : T1.heap[T.heap.size]? = some (freshCell cX kX) := by rw [← hT1]; exact State.heap_pushCell_size _ _
  have d3' : decode c.code (pc + 3) = .ok (.dup, 1) := by rw [hb]; exact d3
  obtain ⟨U, hsteps, hrun, hend, hW, hsame, ce, hce, hO⟩ := X₁.ctorThrow0 hexec htr (own := own) (cls := cls) (names := names) (ic := ic) hown' hcls hnames h (fun x hx => nomatch hx) hfX hkX hcellA (by rw [hhp, hT]; exact Nat.le_refl _)
    (g := { method := m, pc := pc + 4, locals := ls, stack := .ref T.heap.size :: .ref T.heap.size :: rest, locked := none }) rfl hsize rfl rfl (rest := rest) rfl
    (by rw [hb]; exact d4) (by rw [hb]; exact d7) hout hRframes (by simp only [List.map_cons, List.sum_cons, hcat]; omega) hlocks
  obtain ⟨f1, f2⟩ := vx_frame hsame
  rw [hhp] at f1 f2
  have hWs : s.WarmedH U.vm := State.WarmedH.trans hW0 hW
  have hcl : s.vm.findClass cls = some ce.cls := by
    have h9 := hO.cls
    rw [hvm] at h9
    exact h9
  have hall : s.sameButNew ({ U with vm := s.vm } : State) locs mc ms := by
    subst hA
    obtain ⟨e1, e2⟩ := hsame
    rw [State.setFrames_setFrames] at e1
    have h2 : (T.setVm s.vm).sameButNew ({ U with vm := s.vm } : State) [] (0 + 1) (0 + 6) := ⟨e1, e2⟩
    have h3 := X.same.trans h2
    rw [List.append_nil] at h3
    exact h3.mono hc hs
  refine ⟨U, ?_, .threw T.heap.size, hrun, hend, Or.inr ⟨T.heap.size, rfl, cls, ce, locs, hx U hWs.alike f1 (fun q hq => f2 q hq (fun z hz => nomatch hz)), hce, hO.vm, hcl, hWs, hall, hf⟩⟩
  refine st1 _ ?_
  show Steps p.tables e below (T1.setTop { method := m, pc := pc + 3, locals := ls, stack := .ref T.heap.size :: rest, locked := none }) _
  jvm_step X₁.here [X₁.here.top, hexec, d3', Value.category]
  exact hsteps
/-- 'throw new E("text")': new; dup; ldc; invokespecial; athrow -/
theorem vx_throwS {cc : ByteArray} {pc : Nat} (hexec : p.tables.exec = Jvm.exec) (hb : c.code = cc) (hl : l.stackTraces = false) {own cls text : String} {names : List String} {ik is ic mc ms sa : Nat} {A : Nat → Prop}
    (hown : s.vm.findClass own = some m.cls) (hcls : Bundle.fit cls = true) (hnames : ∀ n ∈ names, Bundle.fit n = true)
    (hk : (Cond.classLink own ik cls).before args s = true) (hini : (Cond.initialized cls).before args s = true) (hstr : vk_R own is text sa s) (hat : ∀ w ∈ vx_atS own ic cls names, w.before args s = true)
    (hgood : ∀ w ∈ Cond.classLink own ik cls :: Cond.initialized cls :: vx_atS own ic cls names, vx_ot w = true)
    (hU : vx_Zq Bundle.tN "UNASSIGNED_STACK" Bundle.steD A s s.heap) (hN : vx_Zq Bundle.tN "SUPPRESSED_SENTINEL" Bundle.listD A s s.heap) (hS : va_S A s.heap H locs) (hsize : ls.size = c.maxLocals)
    (d0 : decode cc pc = .ok (.new ik, 3)) (d3 : decode cc (pc + 3) = .ok (.dup, 1)) (d4 : decode cc (pc + 4) = .ok (.ldc is, 2)) (d6 : decode cc (pc + 6) = .ok (.invokespecial ic, 3)) (d9 : decode cc (pc + 9) = .ok (.athrow, 1))
    (hout : ∀ x ∈ c.exceptionTable.toList, covers x (pc + 9) = false)
    (hRframes : names.length + 3 < R.frames) (hRlocals : (rest.map fun v => v.category).sum + (13 * (names.length + 1) + 43) ≤ R.locals) (hRcells : cells + 1 ≤ R.cells) (hRslots : slots + 6 ≤ R.slots) (hlocks : meth.locks = false)
    (hx : ∀ t : State, s.vm.Alike t.vm → H.size ≤ t.heap.size → (∀ q : Nat, q < H.size → t.heap[q]? = H[q]?) → XC cls s t)
    (hf : ∀ z ∈ locs, free z.base) (hc : cells + 1 ≤ mc) (hs : slots + 6 ≤ ms) :
    W p l e R s m args below meth c H locs cells slots (vx_MQ below Qc XC args s mc ms free) (F0 m pc ls rest) := by
  intro T hT X
  have htr : e.platform.stackTraces = false := (show e.platform.stackTraces = l.stackTraces by rw [X.admits.platform]).trans hl
  have Y := vx_rebase X (R' := { frames := R.frames, locals := R.locals, cells := 1, slots := 6 }) (Nat.le_refl _) (Nat.le_refl _) hRcells hRslots
  obtain ⟨s', hA⟩ : ∃ z, z = (T.setVm s.vm).setFrames (.invoking m args :: below) := ⟨_, rfl⟩
  rw [← hA] at Y
  have hvm : s'.vm = s.vm := by rw [hA]; rfl
  have hhp : s'.heap = H := by rw [hA]; exact hT
  have hW0 : s.WarmedH s'.vm := by rw [hvm]; exact State.WarmedH.refl s
  have hat' : ∀ w ∈ vx_atS own ic cls names, w.before args s' = true := fun w hw => vx_ot_at hW0 hvm.symm (hgood w (List.mem_cons_of_mem _ (List.mem_cons_of_mem _ hw))) (hat w hw)
  have hk' : (Cond.classLink own ik cls).before args s' = true := vx_ot_at hW0 hvm.symm (hgood _ List.mem_cons_self) hk
  have hini' : (Cond.initialized cls).before args s' = true := vx_ot_at hW0 hvm.symm (hgood _ (List.mem_cons_of_mem _ List.mem_cons_self)) hini
  have hU' : vx_Zq Bundle.tN "UNASSIGNED_STACK" Bundle.steD A s' s'.heap := by rw [hhp]; exact vx_Zq.moved hW0.alike (hU.kept hS.2.1)
  have hN' : vx_Zq Bundle.tN "SUPPRESSED_SENTINEL" Bundle.listD A s' s'.heap := by rw [hhp]; exact vx_Zq.moved hW0.alike (hN.kept hS.2.1)
  have h : ∀ w ∈ Bundle.ownAtoms own ic cls names, w.before args s' = true := vx_own hat' (vx_isRefq hU'.1) (vx_isRefq hN'.1) hU'.2.word hN'.2.word
  have hown' : s'.vm.findClass own = some m.cls := by rw [hvm]; exact hown
  have hins : (Cond.instantiable cls 6).before args s' = true := h _ (by simp [Bundle.ownAtoms])
  obtain ⟨vm₁, cX, kX, hfX, hkX, -, -, X₁, st1⟩ := Y.newCold hexec (own := own) (C := cls) (index := ik) (n := 6) hown' hk' hins hini'
    (g := F0 m pc ls rest) rfl (by rw [hb]; exact d0) (Nat.le_refl _) (Nat.le_refl _)
  generalize hT1 : (T.setVm vm₁).pushCell { cls := cX, slots := kX.instanceTypes.map defaultValue, vm := .none } = T1 at X₁ st1
  have hcat : (Value.ref T.heap.size).category = 1 := rfl
  have hcellA : T1.heap[T.heap.size]? = some (freshCell cX kX) := by rw [← hT1]; exact State.heap_pushCell_size _ _
  have d3' : decode c.code (pc + 3) = .ok (.dup, 1) := by rw [hb]; exact d3
  have d4' : decode c.code (pc + 4) = .ok (.ldc is, 2) := by rw [hb]; exact d4
  have hstr' : vk_R own is text sa s' := vk_R.warm hW0 hstr
  obtain ⟨U, hsteps, hrun, hend, hW, hsame, ce, hce, hO⟩ := X₁.ctorThrowS hexec htr (own := own) (cls := cls) (names := names) (ic := ic) hown' hcls hnames h (fun x hx => nomatch hx) hfX hkX hcellA (by rw [hhp, hT]; exact Nat.le_refl _) (msg := .ref sa) rfl
    (g := { method := m, pc := pc + 6, locals := ls, stack := .ref sa :: .ref T.heap.size :: .ref T.heap.size :: rest, locked := none }) rfl hsize rfl rfl (rest := rest) rfl
    (by rw [hb]; exact d6) (by rw [hb]; exact d9) hout hRframes (by simp only [List.map_cons, List.sum_cons, hcat]; omega) hlocks
  obtain ⟨f1, f2⟩ := vx_frame hsame
  rw [hhp] at f1 f2
  have hWs : s.WarmedH U.vm := State.WarmedH.trans hW0 hW
  have hcl : s.vm.findClass cls = some ce.cls := by
    have h9 := hO.cls
    rw [hvm] at h9
    exact h9
  have hall : s.sameButNew ({ U with vm := s.vm } : State) locs mc ms := by
    subst hA
    obtain ⟨e1, e2⟩ := hsame
    rw [State.setFrames_setFrames] at e1
    have h2 : (T.setVm s.vm).sameButNew ({ U with vm := s.vm } : State) [] (0 + 1) (0 + 6) := ⟨e1, e2⟩
    have h3 := X.same.trans h2
    rw [List.append_nil] at h3
    exact h3.mono hc hs
  refine ⟨U, ?_, .threw T.heap.size, hrun, hend, Or.inr ⟨T.heap.size, rfl, cls, ce, locs, hx U hWs.alike f1 (fun q hq => f2 q hq (fun z hz => nomatch hz)), hce, hO.vm, hcl, hWs, hall, hf⟩⟩
  refine st1 _ ?_
  show Steps p.tables e below (T1.setTop { method := m, pc := pc + 3, locals := ls, stack := .ref T.heap.size :: rest, locked := none }) _
  jvm_step X₁.here [X₁.here.top, hexec, d3', Value.category]
  exact X₁.ldcString hexec (own := own) (text := text) (index := is) (a := sa) hown' hstr'.1 hstr'.2
    (g := { method := m, pc := pc + 4, locals := ls, stack := .ref T.heap.size :: .ref T.heap.size :: rest, locked := none }) rfl d4' _ hsteps
/-- 'throw new E("text")', the text by a wide index -/
theorem vx_throwSW {cc : ByteArray} {pc : Nat} (hexec : p.tables.exec = Jvm.exec) (hb : c.code = cc) (hl : l.stackTraces = false) {own cls text : String} {names : List String} {ik is ic mc ms sa : Nat} {A : Nat → Prop}
    (hown : s.vm.findClass own = some m.cls) (hcls : Bundle.fit cls = true) (hnames : ∀ n ∈ names, Bundle.fit n = true)
    (hk : (Cond.classLink own ik cls).before args s = true) (hini : (Cond.initialized cls).before args s = true) (hstr : vk_R own is text sa s) (hat : ∀ w ∈ vx_atS own ic cls names, w.before args s = true)
    (hgood : ∀ w ∈ Cond.classLink own ik cls :: Cond.initialized cls :: vx_atS own ic cls names, vx_ot w = true)
    (hU : vx_Zq Bundle.tN "UNASSIGNED_STACK" Bundle.steD A s s.heap) (hN : vx_Zq Bundle.tN "SUPPRESSED_SENTINEL" Bundle.listD A s s.heap) (hS : va_S A s.heap H locs) (hsize : ls.size = c.maxLocals)
    (d0 : decode cc pc = .ok (.new ik, 3)) (d3 : decode cc (pc + 3) = .ok (.dup, 1)) (d4 : decode cc (pc + 4) = .ok (.ldc_w is, 3)) (d7 : decode cc (pc + 7) = .ok (.invokespecial ic, 3)) (d10 : decode cc (pc + 10) = .ok (.athrow, 1))
    (hout : ∀ x ∈ c.exceptionTable.toList, covers x (pc + 10) = false)
    (hRframes : names.length + 3 < R.frames) (hRlocals : (rest.map fun v => v.category).sum + (13 * (names.length + 1) + 43) ≤ R.locals) (hRcells : cells + 1 ≤ R.cells) (hRslots : slots + 6 ≤ R.slots) (hlocks : meth.locks = false)
    (hx : ∀ t : State, s.vm.Alike t.vm → H.size ≤ t.heap.size → (∀ q : Nat, q < H.size → t.heap[q]? = H[q]?) → XC cls s t)
    (hf : ∀ z ∈ locs, free z.base) (hc : cells + 1 ≤ mc) (hs : slots + 6 ≤ ms) :
    W p l e R s m args below meth c H locs cells slots (vx_MQ below Qc XC args s mc ms free) (F0 m pc ls rest) := by
  intro T hT X
  have htr : e.platform.stackTraces = false := (show e.platform.stackTraces = l.stackTraces by rw [X.admits.platform]).trans hl
  have Y := vx_rebase X (R' := { frames := R.frames, locals := R.locals, cells := 1, slots := 6 }) (Nat.le_refl _) (Nat.le_refl _) hRcells hRslots
  obtain ⟨s', hA⟩ : ∃ z, z = (T.setVm s.vm).setFrames (.invoking m args :: below) := ⟨_, rfl⟩
  rw [← hA] at Y
  have hvm : s'.vm = s.vm := by rw [hA]; rfl
  have hhp : s'.heap = H := by rw [hA]; exact hT
  have hW0 : s.WarmedH s'.vm := by rw [hvm]; exact State.WarmedH.refl s
  have hat' : ∀ w ∈ vx_atS own ic cls names, w.before args s' = true := fun w hw => vx_ot_at hW0 hvm.symm (hgood w (List.mem_cons_of_mem _ (List.mem_cons_of_mem _ hw))) (hat w hw)
  have hk' : (Cond.classLink own ik cls).before args s' = true := vx_ot_at hW0 hvm.symm (hgood _ List.mem_cons_self) hk
  have hini' : (Cond.initialized cls).before args s' = true := vx_ot_at hW0 hvm.symm (hgood _ (List.mem_cons_of_mem _ List.mem_cons_self)) hini
  have hU' : vx_Zq Bundle.tN "UNASSIGNED_STACK" Bundle.steD A s' s'.heap := by rw [hhp]; exact vx_Zq.moved hW0.alike (hU.kept hS.2.1)
  have hN' : vx_Zq Bundle.tN "SUPPRESSED_SENTINEL" Bundle.listD A s' s'.heap := by rw [hhp]; exact vx_Zq.moved hW0.alike (hN.kept hS.2.1)
  have h : ∀ w ∈ Bundle.ownAtoms own ic cls names, w.before args s' = true := vx_own hat' (vx_isRefq hU'.1) (vx_isRefq hN'.1) hU'.2.word hN'.2.word
  have hown' : s'.vm.findClass own = some m.cls := by rw [hvm]; exact hown
  have hins : (Cond.instantiable cls 6).before args s' = true := h _ (by simp [Bundle.ownAtoms])
  obtain ⟨vm₁, cX, kX, hfX, hkX, -, -, X₁, st1⟩ := Y.newCold hexec (own := own) (C := cls) (index := ik) (n := 6) hown' hk' hins hini'
    (g := F0 m pc ls rest) rfl (by rw [hb]; exact d0) (Nat.le_refl _) (Nat.le_refl _)
  generalize hT1 : (T.setVm vm₁).pushCell { cls := cX, slots := kX.instanceTypes.map defaultValue, vm := .none } = T1 at X₁ st1
  have hcat : (Value.ref T.heap.size).category = 1 := rfl
  have hcellA : T1.heap[T.heap.size]? = some (freshCell cX kX) := by rw [← hT1]; exact State.heap_pushCell_size _ _
  have d3' : decode c.code (pc + 3) = .ok (.dup, 1) := by rw [hb]; exact d3
  have d4' : decode c.code (pc + 4) = .ok (.ldc_w is, 3) := by rw [hb]; exact d4
  have hstr' : vk_R own is text sa s' := vk_R.warm hW0 hstr
  obtain ⟨U, hsteps, hrun, hend, hW, hsame, ce, hce, hO⟩ := X₁.ctorThrowS hexec htr (own := own) (cls := cls) (names := names) (ic := ic) hown' hcls hnames h (fun x hx => nomatch hx) hfX hkX hcellA (by rw [hhp, hT]; exact Nat.le_refl _) (msg := .ref sa) rfl
    (g := { method := m, pc := pc + 7, locals := ls, stack := .ref sa :: .ref T.heap.size :: .ref T.heap.size :: rest, locked := none }) rfl hsize rfl rfl (rest := rest) rfl
    (by rw [hb]; exact d7) (by rw [hb]; exact d10) hout hRframes (by simp only [List.map_cons, List.sum_cons, hcat]; omega) hlocks
  obtain ⟨f1, f2⟩ := vx_frame hsame
  rw [hhp] at f1 f2
  have hWs : s.WarmedH U.vm := State.WarmedH.trans hW0 hW
  have hcl : s.vm.findClass cls = some ce.cls := by
    have h9 := hO.cls
    rw [hvm] at h9
    exact h9
  have hall : s.sameButNew ({ U with vm := s.vm } : State) locs mc ms := by
    subst hA
    obtain ⟨e1, e2⟩ := hsame
    rw [State.setFrames_setFrames] at e1
    have h2 : (T.setVm s.vm).sameButNew ({ U with vm := s.vm } : State) [] (0 + 1) (0 + 6) := ⟨e1, e2⟩
    have h3 := X.same.trans h2
    rw [List.append_nil] at h3
    exact h3.mono hc hs
  refine ⟨U, ?_, .threw T.heap.size, hrun, hend, Or.inr ⟨T.heap.size, rfl, cls, ce, locs, hx U hWs.alike f1 (fun q hq => f2 q hq (fun z hz => nomatch hz)), hce, hO.vm, hcl, hWs, hall, hf⟩⟩
  refine st1 _ ?_
  show Steps p.tables e below (T1.setTop { method := m, pc := pc + 3, locals := ls, stack := .ref T.heap.size :: rest, locked := none }) _
  jvm_step X₁.here [X₁.here.top, hexec, d3', Value.category]
  exact X₁.ldcStringW hexec (own := own) (text := text) (index := is) (a := sa) hown' hstr'.1 hstr'.2
    (g := { method := m, pc := pc + 4, locals := ls, stack := .ref T.heap.size :: .ref T.heap.size :: rest, locked := none }) rfl d4' _ hsteps
end Ends
section Bodies
variable {l : Launch}
theorem vx_ofW {y : MethodName} {ws ws' : List Cond} {rm : Room} {Pc : Array Value → State → Prop} {Qc : Array Value → State → Outcome → State → Prop} {XC : String → State → State → Prop} {mc ms : Nat} {free : Addr → Prop} {cc : ByteArray} {maxL : Nat} {ret : Option FieldType}
    (hy : plainName y.cls = true) (hw : ws = Cond.code y cc maxL ret :: ws')
    (body : ∀ p e s m args below meth c s₁, BodyLoose p l y (headSpec ws rm) cc maxL ret e s m args below meth c s₁ → c.maxLocals = maxL → (∀ x ∈ c.exceptionTable.toList, False) → Pc args s →
      W p l e (headSpec ws rm).room s m args below meth c s.heap [] 0 0 (vx_MQ below Qc XC args s mc ms free) (entryFrame m args maxL)) : vx_Met l y ws rm Pc Qc XC mc ms free := by
  refine MetFree.of_bodyS (code := cc) (maxLocals := maxL) (ret := ret) hy ?_ ?_
  · intro args s m h hn
    obtain ⟨meth, c, h1, h2, h3, h4, h5, h6, -, -⟩ := Cond.code_spec hn (atoms_spec (ws := ws) h _ (by rw [hw]; exact List.mem_cons_self))
    exact ⟨meth, c, h1, h2, h3, h4, h5, h6⟩
  · intro p e s m args below meth c s₁ B hml hP _
    have hh0 : s₁.heap = s.heap := by rw [B.state]; rfl
    have ht : ∀ x ∈ c.exceptionTable.toList, False := by
      obtain ⟨meth9, c9, h1, h2, -, -, -, -, h7, -⟩ := Cond.code_spec B.named (atoms_spec (ws := ws) B.pre _ (by rw [hw]; exact List.mem_cons_self))
      cases Option.some.inj (h1.symm.trans B.method)
      cases Option.some.inj (h2.symm.trans (Stand.of_body B).code)
      intro x hx
      rw [Array.isEmpty_iff.mp h7] at hx
      cases hx
    obtain ⟨t, a1, o, b1, b2, b3⟩ := body p e s m args below meth c s₁ B hml ht hP s₁ hh0 (Stand.of_body B)
    exact ⟨t, o, a1, b1, b2, b3⟩
/-- the table of a body with handlers -/
theorem vx_table {p : Program} {x y : MethodName} {S : Spec} {cc bytes : ByteArray} {maxL maxL' : Nat} {ret ret' : Option FieldType} {e : Env} {s s₁ : State} {m : MethodId} {args : Array Value} {below : List Frame} {meth : Method} {c : Code} {hh : List (Nat × Nat × Nat × Nat)}
    (B : BodyLoose p l y S cc maxL ret e s m args below meth c s₁) (h : (Cond.codeWith y bytes maxL' ret' hh).before args s = true) : c.exceptionTable.toList = tableOf hh := by
  obtain ⟨m9, meth9, c9, hn9, h1, h2, -, -, h6, -⟩ := Cond.codeWith_spec h
  cases Option.some.inj (hn9.symm.trans B.named)
  cases Option.some.inj (h1.symm.trans B.method)
  cases Option.some.inj (h2.symm.trans (Stand.of_body B).code)
  rw [← h6, table_eq]
end Bodies
end VXA
/-! ===== END ===== -/
/-! ===== BEGIN a static call of a method with an exception table ===== -/
section VXS
variable {p : Program} {l : Launch} {e : Env} {R : Room} {s : State} {m : MethodId} {args : Array Value} {below : List Frame} {meth : Method} {c : Code} {T : State} {H : Heap} {locs : List Loc} {cells slots : Nat}
abbrev vx_CSW (R : Room) (s : State) (args : Array Value) (own : String) (index : Nat) (y : MethodName) (bytes : ByteArray) (maxL : Nat) (ret : Option FieldType) (hh : List (Nat × Nat × Nat × Nat)) (ws : List Cond) (rm : Room) (mc ms n : Nat) : Prop :=
  (rm.cells = mc ∧ rm.slots = ms ∧ rm.frames + 1 ≤ R.frames ∧ 8 + (maxL + 11) + rm.locals ≤ R.locals ∧ (∀ w ∈ ws, ∀ (a' : Array Value) (U : State), s.WarmedH U.vm → w.before a' U = true) ∧ Cond.codeWith y bytes maxL ret hh ∈ ws) ∧
  (Cond.codeWith y bytes maxL ret hh).before args s = true ∧ (Cond.initialized y.cls).before args s = true ∧ (y.cls ≠ "java/lang/invoke/MethodHandle" ∧ y.cls ≠ "java/lang/invoke/VarHandle") ∧
  (∀ sig, parseMethodDescriptor y.desc = some sig → n = sig.parameters.length) ∧ (Cond.methodLink own index y).before args s = true ∧ (Cond.static y).before args s = true
theorem vx_cwSW {own : String} {index maxL mc ms : Nat} {y : MethodName} {bytes : ByteArray} {ret : Option FieldType} {hh : List (Nat × Nat × Nat × Nat)} {Ts ws ws' : List Cond} {rm : Room} (n : Nat) (ht : ∀ w ∈ Ts, w.before args s = true) (hT : GoodIn Ts (va_wsS own index y ws)) (hw : ws = Cond.codeWith y bytes maxL ret hh :: ws') (hrc : rm.cells = mc) (hrs : rm.slots = ms)
    (hd : y.cls ≠ "java/lang/invoke/MethodHandle" ∧ y.cls ≠ "java/lang/invoke/VarHandle" ∧ (parseMethodDescriptor y.desc).map (fun d => d.parameters.length) = some n) (hR : rm.frames + 1 ≤ R.frames ∧ 8 + (maxL + 11) + rm.locals ≤ R.locals) :
    vx_CSW R s args own index y bytes maxL ret hh ws rm mc ms n := by
  have ok : ∀ w ∈ va_wsS own index y ws, w.before args s = true := fun w h => ht w (hT w h).1
  have hG : GoodIn Ts ws := fun w h => hT w (by unfold va_wsS; exact List.mem_append_right _ h)
  have hc : Cond.codeWith y bytes maxL ret hh ∈ ws := by rw [hw]; exact List.mem_cons_self
  refine ⟨⟨hrc, hrs, hR.1, hR.2, pay_in ht hG, hc⟩, ht _ (hG _ hc).1, ok _ (by simp [va_wsS]), ⟨hd.1, hd.2.1⟩, fun sig h => ?_, ok _ (by simp [va_wsS]), ok _ (by simp [va_wsS])⟩
  have h2 := hd.2.2
  rw [h] at h2
  exact (Option.some.inj h2).symm
theorem vx_callSW (X : Stand p l e R s m args below meth c T locs cells slots) (hexec : p.tables.exec = Jvm.exec) {own : String} {index : Nat} {y : MethodName} {bytes : ByteArray} {maxL : Nat} {ret : Option FieldType} {hh : List (Nat × Nat × Nat × Nat)}
    (hown : s.vm.findClass own = some m.cls) (hlink : (Cond.methodLink own index y).before args s = true) (hstat : (Cond.static y).before args s = true) (hinit : (Cond.initialized y.cls).before args s = true)
    (hcode : (Cond.codeWith y bytes maxL ret hh).before args s = true) (hy : y.cls ≠ "java/lang/invoke/MethodHandle" ∧ y.cls ≠ "java/lang/invoke/VarHandle")
    {W9 : Nat} {Pre : Pt → Array Value → Prop} {Post : Pt → Array Value → Option Value → Pt → Prop} (hK : Back l R p e below s args y 3 W9 Pre Post)
    {g : JFrame} (hg : g.method = m) (hsize : g.locals.size = c.maxLocals) {argsL rest : List Value} (hlen : ∀ sig, parseMethodDescriptor y.desc = some sig → argsL.length = sig.parameters.length)
    (hstack : g.stack = argsL.reverse ++ rest) (hW : 2 * g.monitorRoom + (rest.map fun v => v.category).sum ≤ W9) (hdg : decode c.code g.pc = .ok (.invokestatic index, 3))
    (hpre : ∀ vm₁, s.WarmedH vm₁ → Pre ⟨T.setVm vm₁, locs, cells, slots⟩ argsL.toArray) :
    ∃ (v : Option Value) (vm₁ : Vm) (B : Pt), s.WarmedH vm₁ ∧ Stand p l e R s m args below meth c B.U B.locs B.cells B.slots ∧ Post ⟨T.setVm vm₁, locs, cells, slots⟩ argsL.toArray v B ∧
      ∀ target, Steps p.tables e below (B.U.setTop { g with pc := g.pc + 3, stack := v.toList ++ rest }) target → Steps p.tables e below (T.setTop g) target := by
  obtain ⟨mk, methM, cM, hnamed, hmethM, -, -, -, -, -, -, hsigM⟩ := Cond.codeWith_spec hcode
  have hstatic : methM.isStatic = true := Cond.static_spec hnamed hmethM hstat
  obtain ⟨kP, hkP, -⟩ := className_of_methodNamed hnamed
  have hinitP : kP.init = .initialized := Cond.initialized_spec (findClass_of_methodNamed hnamed) hkP hinit
  obtain ⟨vm₁, X₁, hstep₁⟩ := X.invokestatic hexec hown hlink hnamed hmethM hstatic hkP hinitP hy (g := g) hg (argsL := argsL) (rest := rest) (hlen _ hsigM) hstack hdg
  obtain ⟨v, B, X', hpost, hsteps⟩ := hK m meth c ⟨T.setVm vm₁, locs, cells, slots⟩ { g with stack := rest } (.invokestatic index) mk argsL.toArray X₁ hg hsize hdg hW (X₁.named hnamed) (hpre vm₁ X₁.warmed)
  exact ⟨v, vm₁, B, X₁.warmed, X', hpost, fun target h => hstep₁ _ fun acts => by rw [doInvoke_state]; exact hsteps.trans h⟩
theorem vx_runSW {y : MethodName} {bytes cc : ByteArray} {maxL nL mc ms n index : Nat} {ret : Option FieldType} {hh : List (Nat × Nat × Nat × Nat)} {ws : List Cond} {rm : Room} {Pc : Array Value → State → Prop} {Qc : Array Value → State → Outcome → State → Prop} {free : Addr → Prop} {Ts : List Cond} {own : String} {As rest : List Value} {g : JFrame}
    (S : CallFix p m c cc nL s args Ts own) (hM : Met l y ws rm Pc Qc mc ms free) (cw : vx_CSW R s args own index y bytes maxL ret hh ws rm mc ms n) (hp : PreS s H Pc As)
    (hg : g.method = m) (hn : As.length = n) (hsize : g.locals.size = nL) (hstack : g.stack = As.reverse ++ rest) (hW : 2 * g.monitorRoom + (rest.map fun v => v.category).sum ≤ 8) (hdg : decode cc g.pc = .ok (.invokestatic index, 3)) (hf : cells + mc ≤ R.cells ∧ slots + ms ≤ R.slots) :
    va_Run p l e R s m args below meth c H locs cells slots mc ms g rest (Qc As.toArray) (free) := by
  obtain ⟨⟨hrc, hrs, hfr, hlo, hws, hcw⟩, hcode, hini, hy, hlen, hl, hstt⟩ := cw
  have hK : Back l R p e below s args y 3 8 (PreOf R mc ms Pc) (PostOf Qc mc ms free) := va_backW (hh := hh) (bytes := bytes) (maxL := maxL) (ret := ret) hM hp.1 hrc hrs hfr hlo hws hcw (fun a' U hW => word_at hW (Or.inl (by first | rfl | simp [Cond.onTables, Cond.keeps, Cond.steady])) hini)
  obtain ⟨hx, hb, hml, ho, -⟩ := S
  intro T hT X
  obtain ⟨v, vm₁, ⟨U', l2, c2, s2⟩, hW₁, X', ⟨g', mk, t, L, e1, e2, hq, h1, hL, h2, h3⟩, st⟩ := vx_callSW X hx (hh := hh) (bytes := bytes) (maxL := maxL) (ret := ret) ho hl hstt hini hcode hy hK hg (hsize.trans hml.symm) (argsL := As) (rest := rest) (fun sig h => hn.trans (hlen sig h)) hstack hW (by rw [hb]; exact hdg)
    (fun vm₁ hW₁ => ⟨hf.1, hf.2, hp.2 (T.setVm vm₁) hT hW₁⟩)
  dsimp only [Pt.U, Pt.locs, Pt.cells, Pt.slots] at X' e1 e2 h1 h2 h3 st
  subst h1; subst h2; subst h3
  exact ⟨v, (T.setVm vm₁).calling g' mk As.toArray, t, U', L, hT, X', hL, e1, e2, hq, st⟩
/-- not caught here, past rows that name other classes: it goes on to the caller -/
theorem vx_outP {p : Program} {l : Launch} {e : Env} {R : Room} {s : State} {m : MethodId} {args : Array Value} {below : List Frame} {meth : Method} {c : Code} {H : Heap} {locs : List Loc} {cells slots : Nat} {free : Addr → Prop} {ls : Array Slot} {rest : List Value} {Qc : Array Value → State → Outcome → State → Prop} {XC : String → State → State → Prop}
    {pc : Nat} {own E : String} {ce : Cell} {q : Addr} {mc ms : Nat} (hown : s.vm.findClass own = some m.cls) (hlocks : meth.locks = false)
    (hpass : ∀ z ∈ c.exceptionTable.toList, covers z pc = false ∨ (z.catchType ≠ 0 ∧ ∃ nm : String, (Cond.classLink own z.catchType nm).before args s = true ∧ va_Nc E nm s)) (hcell : H[q]? = some ce) (hv : ce.vm = .none) (hcl : s.vm.findClass E = some ce.cls)
    (hx : ∀ t : State, t.heap = H → s.vm.Alike t.vm → XC E s t) (hf : ∀ z ∈ locs, free z.base) (hc : cells ≤ mc) (hs : slots ≤ ms) :
    vx_W p l e R s m args below meth c H locs cells slots (vx_MQ below Qc XC args s mc ms free) (F0 m pc ls rest) q := by
  intro T hT X
  have hpl : e.platform.magicAccessors = ({} : Platform).magicAccessors := by rw [X.admits.platform]
  obtain ⟨vm', hW', X', st⟩ := X.outThrough hlocks q (g := F0 m pc ls rest) rfl rfl rfl (cell := ce) (by rw [hT]; exact hcell) (by rw [hv]; rfl)
    (by obtain ⟨k9, h9, -⟩ := Vm.findClass_spec hcl; exact ⟨k9, h9⟩) (fun z hz => by
      rcases hpass z hz with h | ⟨hz0, nm, hl1, hn1⟩
      · exact Or.inl h
      · obtain ⟨c6, hc6, hcl6⟩ := Cond.classLink_spec hown hl1 e.platform hpl
        obtain ⟨a8, b8, h1, h2, h3⟩ := hn1
        cases Option.some.inj (h1.symm.trans hcl)
        cases Option.some.inj (h2.symm.trans hc6)
        exact Or.inr ⟨hz0, _, hcl6, h3⟩)
  obtain ⟨g₀, hfr⟩ := X'.frames_eq
  have hcell9 : ((T.setVm vm').setFrames (.throwing q :: below)).heap[q]? = some ce := by
    show T.heap[q]? = some ce
    rw [hT]; exact hcell
  have hend : Ended ((T.setVm vm').setFrames (.throwing q :: below)) below (.threw q) := State.frames_setFrames _ (State.cur_lt_of_frames hfr)
  refine ⟨(T.setVm vm').setFrames (.throwing q :: below), ?_, .threw q, X'.here.running, hend, Or.inr ⟨q, rfl, E, ce, locs, hx _ hT (X'.ends _).1.alike, hcell9, hv, hcl, (X'.ends _).1, (X'.ends _).2.mono hc hs, hf⟩⟩
  rw [X.pushThrowing_eq]
  exact st
/-- a thing of a world lies in the heap -/
theorem vx_lt {D : va_G} {cl : List vw_C} {ws : va_W} {H1 : Heap} (h : va_P D cl ws H1) {k : Nat} {q : Nat × va_E} (hk : ws[k]? = some q) : q.1 < H1.size := (h k q hk).lt
end VXS
/-! ===== END ===== -/
/-! ===== BEGIN methods with a table of their own: called by a name, returning or throwing ===== -/
section VXH
/-! vx_backW, vx_callVX, vx_callSX, vx_callVW, vx_runVW, vx_runVX, vx_runSX, vx_ofWH follow the same proofs as their sisters above (Free/Laws.lean, Shelf42/LK1.lean); vx_outP calls Shelf42/NT130.lean (outThrough). -/
section
variable {l : Launch} {R : Room} {p : Program} {e : Env} {below : List Frame} {s : State} {sargs : Array Value} {y : MethodName} {len W9 : Nat}
theorem vx_backW {ws : List Cond} {rm : Room} {Pc : Array Value → State → Prop} {Qc : Array Value → State → Outcome → State → Prop} {XC : String → State → State → Prop} {mc ms : Nat} {free : Addr → Prop} {bytes : ByteArray} {maxL : Nat} {ret : Option FieldType} {hh : List (Nat × Nat × Nat × Nat)}
    (hM : vx_Met l y ws rm Pc Qc XC mc ms free) (hblind : FrameBlind Pc) (hrc : rm.cells = mc) (hrs : rm.slots = ms)
    (hframes : rm.frames + 1 ≤ R.frames) (hlocals : W9 + (maxL + 11) + rm.locals ≤ R.locals)
    (hws : ∀ w ∈ ws, ∀ a' U, s.WarmedH U.vm → w.before a' U = true) (hcode : Cond.codeWith y bytes maxL ret hh ∈ ws) (hinit : ∀ a' U, s.WarmedH U.vm → (Cond.initialized y.cls).before a' U = true) :
    vx_Back l R p e below s sargs y len W9 (PreOf R mc ms Pc) (PostOf Qc mc ms free) (vx_Post XC mc ms free) := by
  intro m meth c A g ig mk a X hg hsize hdg hW hn hp
  have h1 : (headSpec ws rm).pre.before a A.U = true := atoms_intro fun w hw => hws w hw _ _ X.warmed
  have h2 : (Cond.codeWith y bytes maxL ret hh).before a A.U = true := hws _ hcode _ _ X.warmed
  have h3 : (Cond.initialized y.cls).before a A.U = true := hinit _ _ X.warmed
  have h4 : A.cells + (headSpec ws rm).room.cells ≤ R.cells := by rw [show (headSpec ws rm).room.cells = mc from hrc]; exact hp.1
  have h5 : A.slots + (headSpec ws rm).room.slots ≤ R.slots := by rw [show (headSpec ws rm).room.slots = ms from hrs]; exact hp.2.1
  have hPc : Pc a (A.U.calling g mk a) := hblind _ _ _ _ hp.2.2
  obtain ⟨U, Ls, c0, s0⟩ := A
  dsimp only [Pt.U, Pt.locs, Pt.cells, Pt.slots] at h1 h2 h3 h4 h5 X hn hPc ⊢
  obtain ⟨m9, methY, cY, hn9, hmY, hcY, -, hlY, -⟩ := Cond.codeWith_spec h2
  cases Option.some.inj (hn9.symm.trans hn)
  obtain ⟨kY, hkY, -⟩ := className_of_methodNamed hn
  have hinitY : kY.init = .initialized := Cond.initialized_spec (findClass_of_methodNamed hn) hkY h3
  have h : At U g.method c below := by rw [hg]; exact X.here
  have hlocals9 : W9 + (maxL + 11) + (headSpec ws rm).room.locals ≤ R.locals := hlocals
  have happ : (headSpec ws rm).appliesLoose y e.platform (U.calling g mk a) = true :=
    Spec.appliesLoose_calling (g := g) h hdg hn hkY hinitY
      (X.room_calling (g := g) (R' := (headSpec ws rm).room) hsize hmY hcY hframes (by rw [hlY]; omega) h4 h5) h1
  obtain ⟨mid, hmid⟩ := h.above
  have hfr : (U.setTop g).frames = (.java g :: mid) ++ below := by rw [State.frames_setTop' g h.top, hmid]; rfl
  obtain ⟨o, s₂, hsteps, -, hend, hq⟩ := Steps.callFree hM p X.admits X.cas X.clock (acts := []) hfr happ hPc trivial
  have hq' : vx_Q Qc XC mc ms free a (U.calling g mk a) o s₂ := hq
  rw [State.frames_setTop' g h.top] at hend
  obtain ⟨g₀, hg0⟩ := Option.isSome_iff_exists.mp h.top
  obtain ⟨r, hr⟩ := State.topJava?_eq_some.mp hg0
  have hr' : (({ U with heap := s₂.heap, slotsUsed := s₂.slotsUsed } : State).setVm s₂.vm).frames = .java g₀ :: r := hr
  rcases hq' with ⟨hqc, L, hfe, hL⟩ | ⟨q, rfl, E, ce, L, hx, hce, hcv, hcl, hW₂, hsm, hL⟩
  · obtain ⟨⟨v, rfl⟩, hW₂, e2, q2, q3, q4, q5, q6⟩ := id hfe
    have e3 : s₂ = ({ (U.calling g mk a).setFrames s₂.frames with heap := s₂.heap, slotsUsed := s₂.slotsUsed } : State).setVm s₂.vm := by
      have : s₂ = ({ s₂ with vm := (U.calling g mk a).vm } : State).setVm s₂.vm := rfl
      rw [e2] at this
      exact this
    obtain ⟨c₂, i₂, len₂, hc₂, hd₂, hf₂⟩ := hend
    have hW' : U.WarmedH s₂.vm := hW₂
    have hcc : c₂ = c := by
      have h1 : s₂.code? g.method = U.code? g.method := by
        rw [State.code?_eq, State.code?_eq, hW'.alike.method?]
      exact Option.some.inj (hc₂.symm.trans (h1.trans h.code))
    subst hcc
    have hlen : len₂ = len := by rw [hdg] at hd₂; cases hd₂; rfl
    subst hlen
    have hs₂ : s₂ = (({ U with heap := s₂.heap, slotsUsed := s₂.slotsUsed } : State).setVm s₂.vm).setTop { g with pc := g.pc + len₂, stack := v.toList ++ g.stack } := by
      refine e3.trans ?_
      rw [hf₂, State.calling_eq h.top, State.setFrames_setFrames, State.setTop_of_frames _ hr', hr]
      rfl
    have hsame : U.sameButNew ({ U with heap := s₂.heap, slotsUsed := s₂.slotsUsed } : State) L mc ms := by
      refine ⟨?_, q2, q3, q4, q5, q6⟩
      obtain ⟨t, ht, -⟩ := State.frames_cons hr
      show ({ U with heap := s₂.heap, slotsUsed := s₂.slotsUsed } : State) = { U.setFrames U.frames with heap := s₂.heap, slotsUsed := s₂.slotsUsed }
      rw [State.setFrames_self ht]
    subst hg
    refine Or.inl ⟨v, ⟨(({ U with heap := s₂.heap, slotsUsed := s₂.slotsUsed } : State).setVm s₂.vm), Ls ++ L, c0 + mc, s0 + ms⟩,
      ⟨X.admits, X.cas, X.clock, X.frames, X.room, X.hears, X.method, X.code, (X.here.setHeapUsed s₂.heap s₂.slotsUsed).setVm hW'.alike, X.tail, State.WarmedH.trans X.warmed hW', X.limits, X.bytes, X.same.trans (hsame.setVm s.vm)⟩,
      ⟨g, mk, s₂, L, rfl, rfl, hqc, rfl, hL, rfl, rfl⟩, ?_⟩
    show Steps p.tables e below _ ((({ U with heap := s₂.heap, slotsUsed := s₂.slotsUsed } : State).setVm s₂.vm).setTop { g with pc := g.pc + len₂, stack := v.toList ++ g.stack })
    rw [← hs₂]
    exact hsteps
  · obtain ⟨e2, q2, q3, q4, q5, q6⟩ := id hsm
    have e3 : s₂ = ({ (U.calling g mk a).setFrames s₂.frames with heap := s₂.heap, slotsUsed := s₂.slotsUsed } : State).setVm s₂.vm := by
      have : s₂ = ({ s₂ with vm := (U.calling g mk a).vm } : State).setVm s₂.vm := rfl
      rw [e2] at this
      exact this
    have hf₂ : s₂.frames = .throwing q :: .java g :: U.frames.tail := hend
    have hW' : U.WarmedH s₂.vm := hW₂
    have hs₂ : s₂ = ((({ U with heap := s₂.heap, slotsUsed := s₂.slotsUsed } : State).setVm s₂.vm).setTop g).pushFrame (.throwing q) := by
      refine e3.trans ?_
      rw [hf₂, State.calling_eq h.top, State.setFrames_setFrames, State.pushFrame, State.frames_setTop _ hr', State.setTop_of_frames _ hr', State.setFrames_setFrames, hr]
      rfl
    have hsame : U.sameButNew ({ U with heap := s₂.heap, slotsUsed := s₂.slotsUsed } : State) L mc ms := by
      refine ⟨?_, q2, q3, q4, q5, q6⟩
      obtain ⟨t, ht, -⟩ := State.frames_cons hr
      show ({ U with heap := s₂.heap, slotsUsed := s₂.slotsUsed } : State) = { U.setFrames U.frames with heap := s₂.heap, slotsUsed := s₂.slotsUsed }
      rw [State.setFrames_self ht]
    subst hg
    refine Or.inr ⟨q, ⟨(({ U with heap := s₂.heap, slotsUsed := s₂.slotsUsed } : State).setVm s₂.vm), Ls ++ L, c0 + mc, s0 + ms⟩,
      ⟨X.admits, X.cas, X.clock, X.frames, X.room, X.hears, X.method, X.code, (X.here.setHeapUsed s₂.heap s₂.slotsUsed).setVm hW'.alike, X.tail, State.WarmedH.trans X.warmed hW', X.limits, X.bytes, X.same.trans (hsame.setVm s.vm)⟩,
      ⟨g, mk, s₂, L, E, ce, rfl, rfl, hx, hce, hcv, hcl, rfl, hL, rfl, rfl⟩, ?_⟩
    show Steps p.tables e below _ (((({ U with heap := s₂.heap, slotsUsed := s₂.slotsUsed } : State).setVm s₂.vm).setTop g).pushFrame (.throwing q))
    rw [← hs₂]
    exact hsteps
end
variable {p : Program} {l : Launch} {e : Env} {R : Room} {s : State} {m : MethodId} {args : Array Value} {below : List Frame} {meth : Method} {c : Code} {T : State} {H : Heap} {locs : List Loc} {cells slots : Nat}
theorem vx_callVX (X : Stand p l e R s m args below meth c T locs cells slots) (hexec : p.tables.exec = Jvm.exec) {own C : String} {index : Nat} {y : MethodName} {bytes : ByteArray} {maxL : Nat} {ret : Option FieldType} {hh : List (Nat × Nat × Nat × Nat)}
    (hown : s.vm.findClass own = some m.cls) (hlink : (Cond.methodLink own index y).before args s = true) (hinst : (Cond.instanceMethod y).before args s = true) (hsel : (Cond.selects C y y).before args s = true)
    (hcode : (Cond.codeWith y bytes maxL ret hh).before args s = true) (hy : y.cls ≠ "java/lang/invoke/MethodHandle" ∧ y.cls ≠ "java/lang/invoke/VarHandle")
    {W9 : Nat} {Pre : Pt → Array Value → Prop} {Post : Pt → Array Value → Option Value → Pt → Prop} {PostX : Pt → Array Value → Addr → Pt → Prop} (hK : vx_Back l R p e below s args y 3 W9 Pre Post PostX)
    {b : Addr} {cellB : Cell} (hcell : T.heap[b]? = some cellB) (hobj : cellB.vm.isStatics = false) (hcls : s.vm.findClass C = some cellB.cls)
    {g : JFrame} (hg : g.method = m) (hsize : g.locals.size = c.maxLocals) {argsL rest : List Value} (hlen : ∀ sig, parseMethodDescriptor y.desc = some sig → argsL.length = sig.parameters.length)
    (hstack : g.stack = argsL.reverse ++ .ref b :: rest) (hW : 2 * g.monitorRoom + (rest.map fun v => v.category).sum ≤ W9) (hdg : decode c.code g.pc = .ok (.invokevirtual index, 3))
    (hpre : ∀ vm₁, s.WarmedH vm₁ → Pre ⟨T.setVm vm₁, locs, cells, slots⟩ (Value.ref b :: argsL).toArray) :
    (∃ (v : Option Value) (vm₁ : Vm) (B : Pt), s.WarmedH vm₁ ∧ Stand p l e R s m args below meth c B.U B.locs B.cells B.slots ∧ Post ⟨T.setVm vm₁, locs, cells, slots⟩ (Value.ref b :: argsL).toArray v B ∧
      ∀ target, Steps p.tables e below (B.U.setTop { g with pc := g.pc + 3, stack := v.toList ++ rest }) target → Steps p.tables e below (T.setTop g) target) ∨
    (∃ (q : Addr) (vm₁ : Vm) (B : Pt), s.WarmedH vm₁ ∧ Stand p l e R s m args below meth c B.U B.locs B.cells B.slots ∧ PostX ⟨T.setVm vm₁, locs, cells, slots⟩ (Value.ref b :: argsL).toArray q B ∧
      Steps p.tables e below (T.setTop g) ((B.U.setTop { g with stack := rest }).pushFrame (.throwing q))) := by
  obtain ⟨mk, methM, hnamed, hmethM, hstM, habM⟩ := Cond.instanceMethod_spec hinst
  obtain ⟨m8, methM', cM, hn8, hmethM', -, -, -, -, -, -, hsigM⟩ := Cond.codeWith_spec hcode
  cases Option.some.inj (hn8.symm.trans hnamed)
  cases hmethM.symm.trans hmethM'
  obtain ⟨c2, r2, m2, q1, q2, q3, q4, kP, hkP, hkPi⟩ := Cond.selects_spec hsel
  cases hcls.symm.trans q1
  cases (State.methodFound?_of_named hnamed hy).symm.trans q2
  cases hnamed.symm.trans q3
  have hselP : selectMethod e.platform s.vm cellB.cls mk = .method mk := by rw [Launch.admits_selectMethod X.admits]; exact q4
  obtain ⟨vm₁, X₁, hstep₁⟩ := X.invokevirtual hexec hown hlink hnamed hmethM hstM hkP hkPi hy (a := b) (cell := cellB) hcell
    (fun z h => by rw [h] at hobj; cases hobj) hselP hmethM habM hkP hkPi (g := g) hg (argsL := argsL) (rest := rest) (hlen _ hsigM) hstack hdg
  rcases hK m meth c ⟨T.setVm vm₁, locs, cells, slots⟩ { g with stack := rest } (.invokevirtual index) mk (Value.ref b :: argsL).toArray X₁ hg hsize hdg hW (X₁.named hnamed) (hpre vm₁ X₁.warmed) with ⟨v, B, X', hpost, hsteps⟩ | ⟨q, B, X', hpost, hsteps⟩
  · exact Or.inl ⟨v, vm₁, B, X₁.warmed, X', hpost, fun target h => hstep₁ _ fun acts => by rw [doInvoke_state]; exact hsteps.trans h⟩
  · exact Or.inr ⟨q, vm₁, B, X₁.warmed, X', hpost, hstep₁ _ fun acts => by rw [doInvoke_state]; exact hsteps⟩
theorem vx_callSX (X : Stand p l e R s m args below meth c T locs cells slots) (hexec : p.tables.exec = Jvm.exec) {own : String} {index : Nat} {y : MethodName} {bytes : ByteArray} {maxL : Nat} {ret : Option FieldType} {hh : List (Nat × Nat × Nat × Nat)}
    (hown : s.vm.findClass own = some m.cls) (hlink : (Cond.methodLink own index y).before args s = true) (hstat : (Cond.static y).before args s = true) (hinit : (Cond.initialized y.cls).before args s = true)
    (hcode : (Cond.codeWith y bytes maxL ret hh).before args s = true) (hy : y.cls ≠ "java/lang/invoke/MethodHandle" ∧ y.cls ≠ "java/lang/invoke/VarHandle")
    {W9 : Nat} {Pre : Pt → Array Value → Prop} {Post : Pt → Array Value → Option Value → Pt → Prop} {PostX : Pt → Array Value → Addr → Pt → Prop} (hK : vx_Back l R p e below s args y 3 W9 Pre Post PostX)
    {g : JFrame} (hg : g.method = m) (hsize : g.locals.size = c.maxLocals) {argsL rest : List Value} (hlen : ∀ sig, parseMethodDescriptor y.desc = some sig → argsL.length = sig.parameters.length)
    (hstack : g.stack = argsL.reverse ++ rest) (hW : 2 * g.monitorRoom + (rest.map fun v => v.category).sum ≤ W9) (hdg : decode c.code g.pc = .ok (.invokestatic index, 3))
    (hpre : ∀ vm₁, s.WarmedH vm₁ → Pre ⟨T.setVm vm₁, locs, cells, slots⟩ argsL.toArray) :
    (∃ (v : Option Value) (vm₁ : Vm) (B : Pt), s.WarmedH vm₁ ∧ Stand p l e R s m args below meth c B.U B.locs B.cells B.slots ∧ Post ⟨T.setVm vm₁, locs, cells, slots⟩ argsL.toArray v B ∧
      ∀ target, Steps p.tables e below (B.U.setTop { g with pc := g.pc + 3, stack := v.toList ++ rest }) target → Steps p.tables e below (T.setTop g) target) ∨
    (∃ (q : Addr) (vm₁ : Vm) (B : Pt), s.WarmedH vm₁ ∧ Stand p l e R s m args below meth c B.U B.locs B.cells B.slots ∧ PostX ⟨T.setVm vm₁, locs, cells, slots⟩ argsL.toArray q B ∧
      Steps p.tables e below (T.setTop g) ((B.U.setTop { g with stack := rest }).pushFrame (.throwing q))) := by
  obtain ⟨mk, methM, cM, hnamed, hmethM, -, -, -, -, -, -, hsigM⟩ := Cond.codeWith_spec hcode
  have hstatic : methM.isStatic = true := Cond.static_spec hnamed hmethM hstat
  obtain ⟨kP, hkP, -⟩ := className_of_methodNamed hnamed
  have hinitP : kP.init = .initialized := Cond.initialized_spec (findClass_of_methodNamed hnamed) hkP hinit
  obtain ⟨vm₁, X₁, hstep₁⟩ := X.invokestatic hexec hown hlink hnamed hmethM hstatic hkP hinitP hy (g := g) hg (argsL := argsL) (rest := rest) (hlen _ hsigM) hstack hdg
  rcases hK m meth c ⟨T.setVm vm₁, locs, cells, slots⟩ { g with stack := rest } (.invokestatic index) mk argsL.toArray X₁ hg hsize hdg hW (X₁.named hnamed) (hpre vm₁ X₁.warmed) with ⟨v, B, X', hpost, hsteps⟩ | ⟨q, B, X', hpost, hsteps⟩
  · exact Or.inl ⟨v, vm₁, B, X₁.warmed, X', hpost, fun target h => hstep₁ _ fun acts => by rw [doInvoke_state]; exact hsteps.trans h⟩
  · exact Or.inr ⟨q, vm₁, B, X₁.warmed, X', hpost, hstep₁ _ fun acts => by rw [doInvoke_state]; exact hsteps⟩
theorem vx_callVW (X : Stand p l e R s m args below meth c T locs cells slots) (hexec : p.tables.exec = Jvm.exec) {own C : String} {index : Nat} {y : MethodName} {bytes : ByteArray} {maxL : Nat} {ret : Option FieldType} {hh : List (Nat × Nat × Nat × Nat)}
    (hown : s.vm.findClass own = some m.cls) (hlink : (Cond.methodLink own index y).before args s = true) (hinst : (Cond.instanceMethod y).before args s = true) (hsel : (Cond.selects C y y).before args s = true)
    (hcode : (Cond.codeWith y bytes maxL ret hh).before args s = true) (hy : y.cls ≠ "java/lang/invoke/MethodHandle" ∧ y.cls ≠ "java/lang/invoke/VarHandle")
    {W9 : Nat} {Pre : Pt → Array Value → Prop} {Post : Pt → Array Value → Option Value → Pt → Prop} (hK : Back l R p e below s args y 3 W9 Pre Post)
    {b : Addr} {cellB : Cell} (hcell : T.heap[b]? = some cellB) (hobj : cellB.vm.isStatics = false) (hcls : s.vm.findClass C = some cellB.cls)
    {g : JFrame} (hg : g.method = m) (hsize : g.locals.size = c.maxLocals) {argsL rest : List Value} (hlen : ∀ sig, parseMethodDescriptor y.desc = some sig → argsL.length = sig.parameters.length)
    (hstack : g.stack = argsL.reverse ++ .ref b :: rest) (hW : 2 * g.monitorRoom + (rest.map fun v => v.category).sum ≤ W9) (hdg : decode c.code g.pc = .ok (.invokevirtual index, 3))
    (hpre : ∀ vm₁, s.WarmedH vm₁ → Pre ⟨T.setVm vm₁, locs, cells, slots⟩ (Value.ref b :: argsL).toArray) :
    ∃ (v : Option Value) (vm₁ : Vm) (B : Pt), s.WarmedH vm₁ ∧ Stand p l e R s m args below meth c B.U B.locs B.cells B.slots ∧ Post ⟨T.setVm vm₁, locs, cells, slots⟩ (Value.ref b :: argsL).toArray v B ∧
      ∀ target, Steps p.tables e below (B.U.setTop { g with pc := g.pc + 3, stack := v.toList ++ rest }) target → Steps p.tables e below (T.setTop g) target := by
  obtain ⟨mk, methM, hnamed, hmethM, hstM, habM⟩ := Cond.instanceMethod_spec hinst
  obtain ⟨m8, methM', cM, hn8, hmethM', -, -, -, -, -, -, hsigM⟩ := Cond.codeWith_spec hcode
  cases Option.some.inj (hn8.symm.trans hnamed)
  cases hmethM.symm.trans hmethM'
  obtain ⟨c2, r2, m2, q1, q2, q3, q4, kP, hkP, hkPi⟩ := Cond.selects_spec hsel
  cases hcls.symm.trans q1
  cases (State.methodFound?_of_named hnamed hy).symm.trans q2
  cases hnamed.symm.trans q3
  have hselP : selectMethod e.platform s.vm cellB.cls mk = .method mk := by rw [Launch.admits_selectMethod X.admits]; exact q4
  obtain ⟨vm₁, X₁, hstep₁⟩ := X.invokevirtual hexec hown hlink hnamed hmethM hstM hkP hkPi hy (a := b) (cell := cellB) hcell
    (fun z h => by rw [h] at hobj; cases hobj) hselP hmethM habM hkP hkPi (g := g) hg (argsL := argsL) (rest := rest) (hlen _ hsigM) hstack hdg
  obtain ⟨v, B, X', hpost, hsteps⟩ := hK m meth c ⟨T.setVm vm₁, locs, cells, slots⟩ { g with stack := rest } (.invokevirtual index) mk (Value.ref b :: argsL).toArray X₁ hg hsize hdg hW (X₁.named hnamed) (hpre vm₁ X₁.warmed)
  exact ⟨v, vm₁, B, X₁.warmed, X', hpost, fun target h => hstep₁ _ fun acts => by rw [doInvoke_state]; exact hsteps.trans h⟩
abbrev vx_CVW (R : Room) (s : State) (args : Array Value) (own C : String) (index : Nat) (y : MethodName) (bytes : ByteArray) (maxL : Nat) (ret : Option FieldType) (hh : List (Nat × Nat × Nat × Nat)) (ws : List Cond) (rm : Room) (mc ms n : Nat) : Prop :=
  (rm.cells = mc ∧ rm.slots = ms ∧ rm.frames + 1 ≤ R.frames ∧ 8 + (maxL + 11) + rm.locals ≤ R.locals ∧ (∀ w ∈ ws, ∀ (a' : Array Value) (U : State), s.WarmedH U.vm → w.before a' U = true) ∧ Cond.codeWith y bytes maxL ret hh ∈ ws) ∧
  (Cond.codeWith y bytes maxL ret hh).before args s = true ∧ (Cond.initialized y.cls).before args s = true ∧ (y.cls ≠ "java/lang/invoke/MethodHandle" ∧ y.cls ≠ "java/lang/invoke/VarHandle") ∧
  (∀ sig, parseMethodDescriptor y.desc = some sig → n = sig.parameters.length) ∧ (Cond.methodLink own index y).before args s = true ∧ (Cond.instanceMethod y).before args s = true ∧ (Cond.selects C y y).before args s = true
theorem vx_cwVW {own C : String} {index maxL mc ms : Nat} {y : MethodName} {bytes : ByteArray} {ret : Option FieldType} {hh : List (Nat × Nat × Nat × Nat)} {Ts ws ws' : List Cond} {rm : Room} (n : Nat) (ht : ∀ w ∈ Ts, w.before args s = true) (hT : GoodIn Ts (wsV own index C y ws)) (hw : ws = Cond.codeWith y bytes maxL ret hh :: ws') (hrc : rm.cells = mc) (hrs : rm.slots = ms)
    (hd : y.cls = C ∧ y.cls ≠ "java/lang/invoke/MethodHandle" ∧ y.cls ≠ "java/lang/invoke/VarHandle" ∧ (parseMethodDescriptor y.desc).map (fun d => d.parameters.length) = some n) (hR : rm.frames + 1 ≤ R.frames ∧ 8 + (maxL + 11) + rm.locals ≤ R.locals) :
    vx_CVW R s args own C index y bytes maxL ret hh ws rm mc ms n := by
  obtain ⟨hC, hd⟩ := hd
  subst hC
  have ok : ∀ w ∈ wsV own index y.cls y ws, w.before args s = true := fun w h => ht w (hT w h).1
  have hG : GoodIn Ts ws := fun w h => hT w (by unfold wsV; exact List.mem_append_right _ h)
  have hc : Cond.codeWith y bytes maxL ret hh ∈ ws := by rw [hw]; exact List.mem_cons_self
  refine ⟨⟨hrc, hrs, hR.1, hR.2, pay_in ht hG, hc⟩, ht _ (hG _ hc).1, ok _ (by simp [wsV]), ⟨hd.1, hd.2.1⟩, fun sig h => ?_, ok _ (by simp [wsV]), ok _ (by simp [wsV]), ok _ (by simp [wsV])⟩
  have h2 := hd.2.2
  rw [h] at h2
  exact (Option.some.inj h2).symm
theorem vx_runVW {y : MethodName} {bytes cc : ByteArray} {maxL nL mc ms n index : Nat} {ret : Option FieldType} {hh : List (Nat × Nat × Nat × Nat)} {ws : List Cond} {rm : Room} {Pc : Array Value → State → Prop} {Qc : Array Value → State → Outcome → State → Prop} {free : Addr → Prop} {Ts : List Cond} {own C : String} {b : Addr} {As rest : List Value} {g : JFrame}
    (S : CallFix p m c cc nL s args Ts own) (hM : Met l y ws rm Pc Qc mc ms free) (cw : vx_CVW R s args own C index y bytes maxL ret hh ws rm mc ms n) (hp : PreV s H C b Pc As)
    (hg : g.method = m) (hn : As.length = n) (hsize : g.locals.size = nL) (hstack : g.stack = As.reverse ++ .ref b :: rest) (hW : 2 * g.monitorRoom + (rest.map fun v => v.category).sum ≤ 8) (hdg : decode cc g.pc = .ok (.invokevirtual index, 3)) (hf : cells + mc ≤ R.cells ∧ slots + ms ≤ R.slots) :
    va_Run p l e R s m args below meth c H locs cells slots mc ms g rest (Qc (Value.ref b :: As).toArray) free := by
  obtain ⟨⟨hrc, hrs, hfr, hlo, hws, hcw⟩, hcode, hini, hy, hlen, hl, hin, hse⟩ := cw
  have hK : Back l R p e below s args y 3 8 (PreOf R mc ms Pc) (PostOf Qc mc ms free) := va_backW (hh := hh) (bytes := bytes) (maxL := maxL) (ret := ret) hM hp.1 hrc hrs hfr hlo hws hcw (fun a' U hW => word_at hW (Or.inl (by first | rfl | simp [Cond.onTables, Cond.keeps, Cond.steady])) hini)
  obtain ⟨hx, hb, hml, ho, -⟩ := S
  obtain ⟨-, ⟨cellB, hcB, hoB, hclB⟩, hPc⟩ := hp
  intro T hT X
  obtain ⟨v, vm₁, ⟨U', l2, c2, s2⟩, hW₁, X', ⟨g', mk, t, L, e1, e2, hq, h1, hL, h2, h3⟩, st⟩ := vx_callVW X hx (C := C) (hh := hh) (bytes := bytes) (maxL := maxL) (ret := ret) ho hl hin hse hcode hy hK (by rw [hT]; exact hcB) hoB hclB hg (hsize.trans hml.symm) (argsL := As) (rest := rest) (fun sig h => hn.trans (hlen sig h)) hstack hW (by rw [hb]; exact hdg)
    (fun vm₁ hW₁ => ⟨hf.1, hf.2, hPc (T.setVm vm₁) hT hW₁⟩)
  dsimp only [Pt.U, Pt.locs, Pt.cells, Pt.slots] at X' e1 e2 h1 h2 h3 st
  subst h1; subst h2; subst h3
  exact ⟨v, (T.setVm vm₁).calling g' mk (Value.ref b :: As).toArray, t, U', L, hT, X', hL, e1, e2, hq, st⟩
section
variable {y : MethodName} {bytes cc : ByteArray} {maxL nL mc ms n index : Nat} {ret : Option FieldType} {ws : List Cond} {rm : Room} {Pc : Array Value → State → Prop} {Qc : Array Value → State → Outcome → State → Prop} {XC : String → State → State → Prop} {free : Addr → Prop} {Ts : List Cond} {own C : String} {b : Addr} {As rest : List Value} {g : JFrame}
theorem vx_runVX {hh : List (Nat × Nat × Nat × Nat)} (S : CallFix p m c cc nL s args Ts own) (hM : vx_Met l y ws rm Pc Qc XC mc ms free) (cw : vx_CVW R s args own C index y bytes maxL ret hh ws rm mc ms n) (hp : PreV s H C b Pc As)
    (hg : g.method = m) (hn : As.length = n) (hsize : g.locals.size = nL) (hstack : g.stack = As.reverse ++ .ref b :: rest) (hW : 2 * g.monitorRoom + (rest.map fun v => v.category).sum ≤ 8) (hdg : decode cc g.pc = .ok (.invokevirtual index, 3)) (hf : cells + mc ≤ R.cells ∧ slots + ms ≤ R.slots) :
    vx_Run p l e R s m args below meth c H locs cells slots mc ms g rest (Qc (Value.ref b :: As).toArray) XC free := by
  obtain ⟨⟨hrc, hrs, hfr, hlo, hws, hcw⟩, hcode, hini, hy, hlen, hl, hin, hse⟩ := cw
  have hK : vx_Back l R p e below s args y 3 8 (PreOf R mc ms Pc) (PostOf Qc mc ms free) (vx_Post XC mc ms free) := vx_backW (hh := hh) (bytes := bytes) (maxL := maxL) (ret := ret) hM hp.1 hrc hrs hfr hlo hws hcw (fun a' U hW => word_at hW (Or.inl (by first | rfl | simp [Cond.onTables, Cond.keeps, Cond.steady])) hini)
  obtain ⟨hx, hb, hml, ho, -⟩ := S
  obtain ⟨-, ⟨cellB, hcB, hoB, hclB⟩, hPc⟩ := hp
  intro T hT X
  rcases vx_callVX X hx (C := C) (hh := hh) (bytes := bytes) (maxL := maxL) (ret := ret) ho hl hin hse hcode hy hK (by rw [hT]; exact hcB) hoB hclB hg (hsize.trans hml.symm) (argsL := As) (rest := rest) (fun sig h => hn.trans (hlen sig h)) hstack hW (by rw [hb]; exact hdg)
    (fun vm₁ hW₁ => ⟨hf.1, hf.2, hPc (T.setVm vm₁) hT hW₁⟩) with ⟨v, vm₁, ⟨U', l2, c2, s2⟩, hW₁, X', ⟨g', mk, t, L, e1, e2, hq, h1, hL, h2, h3⟩, st⟩ | ⟨q, vm₁, ⟨U', l2, c2, s2⟩, hW₁, X', ⟨g', mk, t, L, E, ce, e1, e2, hq, hce, hcv, hcl, h1, hL, h2, h3⟩, st⟩
  · dsimp only [Pt.U, Pt.locs, Pt.cells, Pt.slots] at X' e1 e2 h1 h2 h3 st
    subst h1; subst h2; subst h3
    exact Or.inl ⟨v, (T.setVm vm₁).calling g' mk (Value.ref b :: As).toArray, t, U', L, hT, X', hL, e1, e2, hq, st⟩
  · dsimp only [Pt.U, Pt.locs, Pt.cells, Pt.slots] at X' e1 e2 h1 h2 h3 st hcl
    subst h1; subst h2; subst h3
    exact Or.inr ⟨q, (T.setVm vm₁).calling g' mk (Value.ref b :: As).toArray, t, U', L, E, ce, hT, X', hL, e1, e2, hq, hce, hcv, vx_cls hW₁ hcl, st⟩
theorem vx_runSX {hh : List (Nat × Nat × Nat × Nat)} (S : CallFix p m c cc nL s args Ts own) (hM : vx_Met l y ws rm Pc Qc XC mc ms free) (cw : vx_CSW R s args own index y bytes maxL ret hh ws rm mc ms n) (hp : PreS s H Pc As)
    (hg : g.method = m) (hn : As.length = n) (hsize : g.locals.size = nL) (hstack : g.stack = As.reverse ++ rest) (hW : 2 * g.monitorRoom + (rest.map fun v => v.category).sum ≤ 8) (hdg : decode cc g.pc = .ok (.invokestatic index, 3)) (hf : cells + mc ≤ R.cells ∧ slots + ms ≤ R.slots) :
    vx_Run p l e R s m args below meth c H locs cells slots mc ms g rest (Qc As.toArray) XC free := by
  obtain ⟨⟨hrc, hrs, hfr, hlo, hws, hcw⟩, hcode, hini, hy, hlen, hl, hstt⟩ := cw
  have hK : vx_Back l R p e below s args y 3 8 (PreOf R mc ms Pc) (PostOf Qc mc ms free) (vx_Post XC mc ms free) := vx_backW (hh := hh) (bytes := bytes) (maxL := maxL) (ret := ret) hM hp.1 hrc hrs hfr hlo hws hcw (fun a' U hW => word_at hW (Or.inl (by first | rfl | simp [Cond.onTables, Cond.keeps, Cond.steady])) hini)
  obtain ⟨hx, hb, hml, ho, -⟩ := S
  intro T hT X
  rcases vx_callSX X hx (hh := hh) (bytes := bytes) (maxL := maxL) (ret := ret) ho hl hstt hini hcode hy hK hg (hsize.trans hml.symm) (argsL := As) (rest := rest) (fun sig h => hn.trans (hlen sig h)) hstack hW (by rw [hb]; exact hdg)
    (fun vm₁ hW₁ => ⟨hf.1, hf.2, hp.2 (T.setVm vm₁) hT hW₁⟩) with ⟨v, vm₁, ⟨U', l2, c2, s2⟩, hW₁, X', ⟨g', mk, t, L, e1, e2, hq, h1, hL, h2, h3⟩, st⟩ | ⟨q, vm₁, ⟨U', l2, c2, s2⟩, hW₁, X', ⟨g', mk, t, L, E, ce, e1, e2, hq, hce, hcv, hcl, h1, hL, h2, h3⟩, st⟩
  · dsimp only [Pt.U, Pt.locs, Pt.cells, Pt.slots] at X' e1 e2 h1 h2 h3 st
    subst h1; subst h2; subst h3
    exact Or.inl ⟨v, (T.setVm vm₁).calling g' mk As.toArray, t, U', L, hT, X', hL, e1, e2, hq, st⟩
  · dsimp only [Pt.U, Pt.locs, Pt.cells, Pt.slots] at X' e1 e2 h1 h2 h3 st hcl
    subst h1; subst h2; subst h3
    exact Or.inr ⟨q, (T.setVm vm₁).calling g' mk As.toArray, t, U', L, E, ce, hT, X', hL, e1, e2, hq, hce, hcv, vx_cls hW₁ hcl, st⟩
end
end VXH
theorem vx_ofWH {l : Launch} {y : MethodName} {ws ws' : List Cond} {rm : Room} {Pc : Array Value → State → Prop} {Qc : Array Value → State → Outcome → State → Prop} {XC : String → State → State → Prop} {mc ms : Nat} {free : Addr → Prop} {cc : ByteArray} {maxL : Nat} {ret : Option FieldType} {hh : List (Nat × Nat × Nat × Nat)}
    (hy : plainName y.cls = true) (hw : ws = Cond.codeWith y cc maxL ret hh :: ws')
    (body : ∀ p e s m args below meth c s₁, BodyLoose p l y (headSpec ws rm) cc maxL ret e s m args below meth c s₁ → c.maxLocals = maxL → Pc args s →
      W p l e (headSpec ws rm).room s m args below meth c s.heap [] 0 0 (vx_MQ below Qc XC args s mc ms free) (entryFrame m args maxL)) : vx_Met l y ws rm Pc Qc XC mc ms free := by
  refine MetFree.of_bodyS (code := cc) (maxLocals := maxL) (ret := ret) hy ?_ ?_
  · intro args s m h hn
    obtain ⟨m9, meth, c, hn9, h1, h2, h3, h4, -, h5, h6, -⟩ := Cond.codeWith_spec (atoms_spec (ws := ws) h _ (by rw [hw]; exact List.mem_cons_self))
    cases hn.symm.trans hn9
    exact ⟨meth, c, h1, h2, h3, h4, h5, h6⟩
  · intro p e s m args below meth c s₁ B hml hP _
    have hh0 : s₁.heap = s.heap := by rw [B.state]; rfl
    obtain ⟨t, a1, o, b1, b2, b3⟩ := body p e s m args below meth c s₁ B hml hP s₁ hh0 (Stand.of_body B)
    exact ⟨t, o, a1, b1, b2, b3⟩
/-! ===== END ===== -/
end
section
def RX0 : String := "BurstFinder$Candidates"
def TX0 : u_T := fun k => match k with
  | 0 => ("BurstFinder$Candidates", "many", "I", false)
  | 1 => ("BurstFinder$Candidates", "slopes", "[I", true)
  | 2 => ("BurstFinder$Candidates", "columns", "[I", true)
  | 3 => ("BurstFinder$Candidates", "widths", "[I", true)
  | 4 => ("BurstFinder$Candidates", "scores", "[J", true)
  | _ => ("BurstFinder$Candidates", "freeEnds", "[I", true)
def tyX0 : Nat → FieldType := fun k => match k with
  | 0 => .int
  | 1 => .array .int
  | 2 => .array .int
  | 3 => .array .int
  | 4 => .array .long
  | _ => .array .int
abbrev wsX00 : List Cond := u_ws RX0 TX0 6
theorem nmX0 : ∀ a, a < 6 → ∀ b, b < 6 → a ≠ b → (TX0 a).2.1 ≠ (TX0 b).2.1 := by decide +kernel
theorem tyX0_ok : ∀ k, k < 6 → parseFieldDescriptor (TX0 k).2.2.1 = some (tyX0 k) := by decide +kernel
abbrev cX0_init : ByteArray := prog_2_method_1_code
def yX0_init : MethodName := ⟨RX0, "<init>", "()V"⟩
abbrev cX0_firstWith : ByteArray := prog_2_method_2_code
def yX0_firstWith : MethodName := ⟨RX0, "firstWith", "(I)I"⟩
abbrev cX0_addBest : ByteArray := prog_2_method_3_code
def yX0_addBest : MethodName := ⟨RX0, "addBest", "(LBurstFinder$Lines;JI)Z"⟩
abbrev cX0_markFreeEnds : ByteArray := prog_2_method_4_code
def yX0_markFreeEnds : MethodName := ⟨RX0, "markFreeEnds", "(I)V"⟩
abbrev cX0_tryBoxes : ByteArray := prog_2_method_5_code
def yX0_tryBoxes : MethodName := ⟨RX0, "tryBoxes", "(LBurstFinder$Lines;III)V"⟩
def RX1 : String := "BurstFinder$Data"
def TX1 : u_T := fun k => match k with
  | 0 => ("BurstFinder$Data", "channels", "I", false)
  | 1 => ("BurstFinder$Data", "columns", "I", false)
  | 2 => ("BurstFinder$Data", "dropped", "I", false)
  | 3 => ("BurstFinder$Data", "powers", "[I", true)
  | 4 => ("BurstFinder$Data", "pending", "[I", true)
  | _ => ("BurstFinder$Data", "masked", "[Z", true)
def tyX1 : Nat → FieldType := fun k => match k with
  | 0 => .int
  | 1 => .int
  | 2 => .int
  | 3 => .array .int
  | 4 => .array .int
  | _ => .array .boolean
abbrev wsX10 : List Cond := u_ws RX1 TX1 6
theorem nmX1 : ∀ a, a < 6 → ∀ b, b < 6 → a ≠ b → (TX1 a).2.1 ≠ (TX1 b).2.1 := by decide +kernel
theorem tyX1_ok : ∀ k, k < 6 → parseFieldDescriptor (TX1 k).2.2.1 = some (tyX1 k) := by decide +kernel
abbrev cX1_init : ByteArray := prog_3_method_1_code
def yX1_init : MethodName := ⟨RX1, "<init>", "()V"⟩
abbrev cX1_beginAnew : ByteArray := prog_3_method_2_code
def yX1_beginAnew : MethodName := ⟨RX1, "beginAnew", "(I)V"⟩
abbrev cX1_powerAt : ByteArray := prog_3_method_3_code
def yX1_powerAt : MethodName := ⟨RX1, "powerAt", "(II)I"⟩
abbrev cX1_openColumn : ByteArray := prog_3_method_4_code
def yX1_openColumn : MethodName := ⟨RX1, "openColumn", "()I"⟩
abbrev cX1_takePending : ByteArray := prog_3_method_5_code
def yX1_takePending : MethodName := ⟨RX1, "takePending", "()V"⟩
abbrev cX1_takeColumn : ByteArray := prog_3_method_6_code
def yX1_takeColumn : MethodName := ⟨RX1, "takeColumn", "(LBurstFinder$Text;I)V"⟩
abbrev cX1_raise : ByteArray := prog_3_method_7_code
def yX1_raise : MethodName := ⟨RX1, "raise", "(III)I"⟩
abbrev cX1_countMasked : ByteArray := prog_3_method_8_code
def yX1_countMasked : MethodName := ⟨RX1, "countMasked", "()I"⟩
abbrev cX1_sumOfChannel : ByteArray := prog_3_method_9_code
def yX1_sumOfChannel : MethodName := ⟨RX1, "sumOfChannel", "(I)I"⟩
abbrev cX1_loudestUnmasked : ByteArray := prog_3_method_10_code
def yX1_loudestUnmasked : MethodName := ⟨RX1, "loudestUnmasked", "()I"⟩
def RX2 : String := "BurstFinder$Lines"
def TX2 : u_T := fun k => match k with
  | 0 => ("BurstFinder$Lines", "fresh", "Z", false)
  | 1 => ("BurstFinder$Lines", "slopes", "I", false)
  | 2 => ("BurstFinder$Lines", "columns", "I", false)
  | 3 => ("BurstFinder$Lines", "sums", "[I", false)
  | 4 => ("BurstFinder$Lines", "spare", "[I", false)
  | 5 => ("BurstFinder$Lines", "totals", "[J", true)
  | _ => ("BurstFinder$Lines", "spreads", "[J", true)
def tyX2 : Nat → FieldType := fun k => match k with
  | 0 => .boolean
  | 1 => .int
  | 2 => .int
  | 3 => .array .int
  | 4 => .array .int
  | 5 => .array .long
  | _ => .array .long
abbrev wsX20 : List Cond := u_ws RX2 TX2 7
theorem nmX2 : ∀ a, a < 7 → ∀ b, b < 7 → a ≠ b → (TX2 a).2.1 ≠ (TX2 b).2.1 := by decide +kernel
theorem tyX2_ok : ∀ k, k < 7 → parseFieldDescriptor (TX2 k).2.2.1 = some (tyX2 k) := by decide +kernel
abbrev cX2_init : ByteArray := prog_4_method_1_code
def yX2_init : MethodName := ⟨RX2, "<init>", "()V"⟩
abbrev cX2_sumAt : ByteArray := prog_4_method_2_code
def yX2_sumAt : MethodName := ⟨RX2, "sumAt", "(II)I"⟩
abbrev cX2_linesOf : ByteArray := prog_4_method_3_code
def yX2_linesOf : MethodName := ⟨RX2, "linesOf", "(I)I"⟩
abbrev cX2_refresh : ByteArray := prog_4_method_4_code
def yX2_refresh : MethodName := ⟨RX2, "refresh", "(LBurstFinder$Data;)V"⟩
abbrev cX2_copyPowers : ByteArray := prog_4_method_5_code
def yX2_copyPowers : MethodName := ⟨RX2, "copyPowers", "(LBurstFinder$Data;)V"⟩
abbrev cX2_joinBlocks : ByteArray := prog_4_method_6_code
def yX2_joinBlocks : MethodName := ⟨RX2, "joinBlocks", "(I)V"⟩
abbrev cX2_joinRows : ByteArray := prog_4_method_7_code
def yX2_joinRows : MethodName := ⟨RX2, "joinRows", "(III)V"⟩
abbrev cX2_measure : ByteArray := prog_4_method_8_code
def yX2_measure : MethodName := ⟨RX2, "measure", "(I)V"⟩
abbrev cX2_sumOfBox : ByteArray := prog_4_method_9_code
def yX2_sumOfBox : MethodName := ⟨RX2, "sumOfBox", "(III)I"⟩
abbrev cX2_scoreOf : ByteArray := prog_4_method_10_code
def yX2_scoreOf : MethodName := ⟨RX2, "scoreOf", "(IIJ)J"⟩
def RX3 : String := "BurstFinder$Text"
def TX3 : u_T := fun k => match k with
  | 0 => ("BurstFinder$Text", "length", "I", false)
  | _ => ("BurstFinder$Text", "codes", "[I", true)
def tyX3 : Nat → FieldType := fun k => match k with
  | 0 => .int
  | _ => .array .int
abbrev wsX30 : List Cond := u_ws RX3 TX3 2
theorem nmX3 : ∀ a, a < 2 → ∀ b, b < 2 → a ≠ b → (TX3 a).2.1 ≠ (TX3 b).2.1 := by decide +kernel
theorem tyX3_ok : ∀ k, k < 2 → parseFieldDescriptor (TX3 k).2.2.1 = some (tyX3 k) := by decide +kernel
abbrev cX3_init : ByteArray := prog_5_method_1_code
def yX3_init : MethodName := ⟨RX3, "<init>", "()V"⟩
abbrev cX3_powerOf : ByteArray := prog_5_method_2_code
def yX3_powerOf : MethodName := ⟨RX3, "powerOf", "(I)I"⟩
abbrev cX3_indexOfFirstError : ByteArray := prog_5_method_3_code
def yX3_indexOfFirstError : MethodName := ⟨RX3, "indexOfFirstError", "()I"⟩
abbrev cX3_hasWholeColumns : ByteArray := prog_5_method_4_code
def yX3_hasWholeColumns : MethodName := ⟨RX3, "hasWholeColumns", "(I)Z"⟩
def RX4 : String := "BurstFinder"
def TX4 : u_T := fun k => match k with
  | 0 => ("BurstFinder", "data", "LBurstFinder$Data;", true)
  | 1 => ("BurstFinder", "text", "LBurstFinder$Text;", true)
  | 2 => ("BurstFinder", "lines", "LBurstFinder$Lines;", true)
  | _ => ("BurstFinder", "found", "LBurstFinder$Candidates;", true)
def tyX4 : Nat → FieldType := fun k => match k with
  | 0 => .object "BurstFinder$Data"
  | 1 => .object "BurstFinder$Text"
  | 2 => .object "BurstFinder$Lines"
  | _ => .object "BurstFinder$Candidates"
abbrev wsX40 : List Cond := u_ws RX4 TX4 4
theorem nmX4 : ∀ a, a < 4 → ∀ b, b < 4 → a ≠ b → (TX4 a).2.1 ≠ (TX4 b).2.1 := by decide +kernel
theorem tyX4_ok : ∀ k, k < 4 → parseFieldDescriptor (TX4 k).2.2.1 = some (tyX4 k) := by decide +kernel
abbrev cX4_init : ByteArray := prog_1_method_1_code
def yX4_init : MethodName := ⟨RX4, "<init>", "()V"⟩
abbrev cX4_setChannels : ByteArray := prog_1_method_2_code
def yX4_setChannels : MethodName := ⟨RX4, "setChannels", "(I)I"⟩
abbrev cX4_setPending : ByteArray := prog_1_method_3_code
def yX4_setPending : MethodName := ⟨RX4, "setPending", "(II)I"⟩
abbrev cX4_advance : ByteArray := prog_1_method_4_code
def yX4_advance : MethodName := ⟨RX4, "advance", "()I"⟩
abbrev cX4_append : ByteArray := prog_1_method_5_code
def yX4_append : MethodName := ⟨RX4, "append", "(I)I"⟩
abbrev cX4_clearInput : ByteArray := prog_1_method_6_code
def yX4_clearInput : MethodName := ⟨RX4, "clearInput", "()I"⟩
abbrev cX4_firstError : ByteArray := prog_1_method_7_code
def yX4_firstError : MethodName := ⟨RX4, "firstError", "()I"⟩
abbrev cX4_load : ByteArray := prog_1_method_8_code
def yX4_load : MethodName := ⟨RX4, "load", "()I"⟩
abbrev cX4_inject : ByteArray := prog_1_method_9_code
def yX4_inject : MethodName := ⟨RX4, "inject", "(III)I"⟩
abbrev cX4_power : ByteArray := prog_1_method_10_code
def yX4_power : MethodName := ⟨RX4, "power", "(II)I"⟩
abbrev cX4_count : ByteArray := prog_1_method_11_code
def yX4_count : MethodName := ⟨RX4, "count", "(I)I"⟩
abbrev cX4_setMasked : ByteArray := prog_1_method_12_code
def yX4_setMasked : MethodName := ⟨RX4, "setMasked", "(IZ)Z"⟩
abbrev cX4_channelSum : ByteArray := prog_1_method_13_code
def yX4_channelSum : MethodName := ⟨RX4, "channelSum", "(I)I"⟩
abbrev cX4_strike : ByteArray := prog_1_method_14_code
def yX4_strike : MethodName := ⟨RX4, "strike", "(I)I"⟩
abbrev cX4_offset : ByteArray := prog_1_method_15_code
def yX4_offset : MethodName := ⟨RX4, "offset", "(IIZ)I"⟩
abbrev cX4_bend : ByteArray := prog_1_method_16_code
def yX4_bend : MethodName := ⟨RX4, "bend", "(I)I"⟩
abbrev cX4_lineSum : ByteArray := prog_1_method_17_code
def yX4_lineSum : MethodName := ⟨RX4, "lineSum", "(IIZ)I"⟩
abbrev cX4_mean : ByteArray := prog_1_method_18_code
def yX4_mean : MethodName := ⟨RX4, "mean", "(I)D"⟩
abbrev cX4_boxSum : ByteArray := prog_1_method_19_code
def yX4_boxSum : MethodName := ⟨RX4, "boxSum", "(III)I"⟩
abbrev cX4_score : ByteArray := prog_1_method_20_code
def yX4_score : MethodName := ⟨RX4, "score", "(III)J"⟩
abbrev cX4_find : ByteArray := prog_1_method_21_code
def yX4_find : MethodName := ⟨RX4, "find", "(JI)I"⟩
abbrev cX4_candidate : ByteArray := prog_1_method_22_code
def yX4_candidate : MethodName := ⟨RX4, "candidate", "(II)J"⟩
abbrev cX4_candidateAt : ByteArray := prog_1_method_23_code
def yX4_candidateAt : MethodName := ⟨RX4, "candidateAt", "(I)I"⟩
abbrev cX4_digest : ByteArray := prog_1_method_24_code
def yX4_digest : MethodName := ⟨RX4, "digest", "()J"⟩
abbrev cX4_mix : ByteArray := prog_1_method_25_code
def yX4_mix : MethodName := ⟨RX4, "mix", "(JJ)J"⟩
abbrev cX4_mixChannels : ByteArray := prog_1_method_26_code
def yX4_mixChannels : MethodName := ⟨RX4, "mixChannels", "(J)J"⟩
abbrev cX4_mixColumns : ByteArray := prog_1_method_27_code
def yX4_mixColumns : MethodName := ⟨RX4, "mixColumns", "(J)J"⟩
abbrev cX4_mixSlopes : ByteArray := prog_1_method_28_code
def yX4_mixSlopes : MethodName := ⟨RX4, "mixSlopes", "(J)J"⟩
abbrev cX4_mixCandidates : ByteArray := prog_1_method_29_code
def yX4_mixCandidates : MethodName := ⟨RX4, "mixCandidates", "(J)J"⟩
abbrev cX4_mixText : ByteArray := prog_1_method_30_code
def yX4_mixText : MethodName := ⟨RX4, "mixText", "(J)J"⟩
abbrev cX4_requireChannel : ByteArray := prog_1_method_31_code
def yX4_requireChannel : MethodName := ⟨RX4, "requireChannel", "(I)V"⟩
abbrev cX4_requireColumn : ByteArray := prog_1_method_32_code
def yX4_requireColumn : MethodName := ⟨RX4, "requireColumn", "(I)V"⟩
abbrev cX4_requireSlope : ByteArray := prog_1_method_33_code
def yX4_requireSlope : MethodName := ⟨RX4, "requireSlope", "(I)V"⟩
abbrev cX4_requireWidth : ByteArray := prog_1_method_34_code
def yX4_requireWidth : MethodName := ⟨RX4, "requireWidth", "(I)V"⟩
abbrev cX4_requireLines : ByteArray := prog_1_method_35_code
def yX4_requireLines : MethodName := ⟨RX4, "requireLines", "(III)V"⟩
abbrev cX4_forgetResults : ByteArray := prog_1_method_36_code
def yX4_forgetResults : MethodName := ⟨RX4, "forgetResults", "()V"⟩
abbrev cX4_treeOffset : ByteArray := prog_1_method_37_code
def yX4_treeOffset : MethodName := ⟨RX4, "treeOffset", "(III)I"⟩
abbrev cX4_straightOffset : ByteArray := prog_1_method_38_code
def yX4_straightOffset : MethodName := ⟨RX4, "straightOffset", "(III)I"⟩
abbrev cX4_greatestBend : ByteArray := prog_1_method_39_code
def yX4_greatestBend : MethodName := ⟨RX4, "greatestBend", "(II)I"⟩
abbrev cX4_straightSum : ByteArray := prog_1_method_40_code
def yX4_straightSum : MethodName := ⟨RX4, "straightSum", "(II)I"⟩
def RX5 : String := "BurstFinderModel"
def TX5 : u_T := fun k => match k with
  | 0 => ("BurstFinderModel", "thrown", "I", false)
  | 1 => ("BurstFinderModel", "channels", "I", false)
  | 2 => ("BurstFinderModel", "columns", "I", false)
  | 3 => ("BurstFinderModel", "dropped", "I", false)
  | 4 => ("BurstFinderModel", "masks", "I", false)
  | 5 => ("BurstFinderModel", "pending", "[I", true)
  | 6 => ("BurstFinderModel", "powers", "[I", true)
  | 7 => ("BurstFinderModel", "length", "I", false)
  | 8 => ("BurstFinderModel", "buffer", "[I", true)
  | 9 => ("BurstFinderModel", "found", "I", false)
  | 10 => ("BurstFinderModel", "foundSlope", "[I", true)
  | 11 => ("BurstFinderModel", "foundColumn", "[I", true)
  | 12 => ("BurstFinderModel", "foundWidth", "[I", true)
  | 13 => ("BurstFinderModel", "foundScore", "[J", true)
  | 14 => ("BurstFinderModel", "lines", "[I", true)
  | 15 => ("BurstFinderModel", "lineMany", "J", false)
  | 16 => ("BurstFinderModel", "lineSums", "J", false)
  | 17 => ("BurstFinderModel", "lineSquares", "J", false)
  | _ => ("BurstFinderModel", "hash", "J", false)
def tyX5 : Nat → FieldType := fun k => match k with
  | 0 => .int
  | 1 => .int
  | 2 => .int
  | 3 => .int
  | 4 => .int
  | 5 => .array .int
  | 6 => .array .int
  | 7 => .int
  | 8 => .array .int
  | 9 => .int
  | 10 => .array .int
  | 11 => .array .int
  | 12 => .array .int
  | 13 => .array .long
  | 14 => .array .int
  | 15 => .long
  | 16 => .long
  | 17 => .long
  | _ => .long
abbrev wsX50 : List Cond := u_ws RX5 TX5 19
theorem nmX5 : ∀ a, a < 19 → ∀ b, b < 19 → a ≠ b → (TX5 a).2.1 ≠ (TX5 b).2.1 := by decide +kernel
theorem tyX5_ok : ∀ k, k < 19 → parseFieldDescriptor (TX5 k).2.2.1 = some (tyX5 k) := by decide +kernel
abbrev cX5_init : ByteArray := prog_7_method_1_code
def yX5_init : MethodName := ⟨RX5, "<init>", "()V"⟩
abbrev cX5_thrown : ByteArray := prog_7_method_2_code
def yX5_thrown : MethodName := ⟨RX5, "thrown", "()I"⟩
abbrev cX5_within : ByteArray := prog_7_method_3_code
def yX5_within : MethodName := ⟨RX5, "within", "(III)Z"⟩
abbrev cX5_isChannel : ByteArray := prog_7_method_4_code
def yX5_isChannel : MethodName := ⟨RX5, "isChannel", "(I)Z"⟩
abbrev cX5_isColumn : ByteArray := prog_7_method_5_code
def yX5_isColumn : MethodName := ⟨RX5, "isColumn", "(I)Z"⟩
abbrev cX5_setChannels : ByteArray := prog_7_method_6_code
def yX5_setChannels : MethodName := ⟨RX5, "setChannels", "(I)I"⟩
abbrev cX5_clearPending : ByteArray := prog_7_method_7_code
def yX5_clearPending : MethodName := ⟨RX5, "clearPending", "()V"⟩
abbrev cX5_setPending : ByteArray := prog_7_method_8_code
def yX5_setPending : MethodName := ⟨RX5, "setPending", "(II)I"⟩
abbrev cX5_begin : ByteArray := prog_7_method_9_code
def yX5_begin : MethodName := ⟨RX5, "begin", "()V"⟩
abbrev cX5_advance : ByteArray := prog_7_method_10_code
def yX5_advance : MethodName := ⟨RX5, "advance", "()I"⟩
abbrev cX5_append : ByteArray := prog_7_method_11_code
def yX5_append : MethodName := ⟨RX5, "append", "(I)I"⟩
abbrev cX5_clearInput : ByteArray := prog_7_method_12_code
def yX5_clearInput : MethodName := ⟨RX5, "clearInput", "()I"⟩
abbrev cX5_powerOf : ByteArray := prog_7_method_13_code
def yX5_powerOf : MethodName := ⟨RX5, "powerOf", "(I)I"⟩
abbrev cX5_rightLength : ByteArray := prog_7_method_14_code
def yX5_rightLength : MethodName := ⟨RX5, "rightLength", "()I"⟩
abbrev cX5_firstError : ByteArray := prog_7_method_15_code
def yX5_firstError : MethodName := ⟨RX5, "firstError", "()I"⟩
abbrev cX5_load : ByteArray := prog_7_method_16_code
def yX5_load : MethodName := ⟨RX5, "load", "()I"⟩
abbrev cX5_treeOffset : ByteArray := prog_7_method_17_code
def yX5_treeOffset : MethodName := ⟨RX5, "treeOffset", "(II)I"⟩
abbrev cX5_straightOffset : ByteArray := prog_7_method_18_code
def yX5_straightOffset : MethodName := ⟨RX5, "straightOffset", "(II)I"⟩
abbrev cX5_offsetBy : ByteArray := prog_7_method_19_code
def yX5_offsetBy : MethodName := ⟨RX5, "offsetBy", "(IIZ)I"⟩
abbrev cX5_isSlope : ByteArray := prog_7_method_20_code
def yX5_isSlope : MethodName := ⟨RX5, "isSlope", "(I)Z"⟩
abbrev cX5_offset : ByteArray := prog_7_method_21_code
def yX5_offset : MethodName := ⟨RX5, "offset", "(IIZ)I"⟩
abbrev cX5_bendOf : ByteArray := prog_7_method_22_code
def yX5_bendOf : MethodName := ⟨RX5, "bendOf", "(I)I"⟩
abbrev cX5_bend : ByteArray := prog_7_method_23_code
def yX5_bend : MethodName := ⟨RX5, "bend", "(I)I"⟩
abbrev cX5_inject : ByteArray := prog_7_method_24_code
def yX5_inject : MethodName := ⟨RX5, "inject", "(III)I"⟩
abbrev cX5_power : ByteArray := prog_7_method_25_code
def yX5_power : MethodName := ⟨RX5, "power", "(II)I"⟩
abbrev cX5_ones : ByteArray := prog_7_method_26_code
def yX5_ones : MethodName := ⟨RX5, "ones", "(I)I"⟩
abbrev cX5_countOf : ByteArray := prog_7_method_27_code
def yX5_countOf : MethodName := ⟨RX5, "countOf", "(I)I"⟩
abbrev cX5_count : ByteArray := prog_7_method_28_code
def yX5_count : MethodName := ⟨RX5, "count", "(I)I"⟩
abbrev cX5_isMasked : ByteArray := prog_7_method_29_code
def yX5_isMasked : MethodName := ⟨RX5, "isMasked", "(I)Z"⟩
abbrev cX5_setMasked : ByteArray := prog_7_method_30_code
def yX5_setMasked : MethodName := ⟨RX5, "setMasked", "(IZ)Z"⟩
abbrev cX5_sumOf : ByteArray := prog_7_method_31_code
def yX5_sumOf : MethodName := ⟨RX5, "sumOf", "(I)I"⟩
abbrev cX5_channelSum : ByteArray := prog_7_method_32_code
def yX5_channelSum : MethodName := ⟨RX5, "channelSum", "(I)I"⟩
abbrev cX5_strike : ByteArray := prog_7_method_33_code
def yX5_strike : MethodName := ⟨RX5, "strike", "(I)I"⟩
abbrev cX5_lineBy : ByteArray := prog_7_method_34_code
def yX5_lineBy : MethodName := ⟨RX5, "lineBy", "(IIZ)I"⟩
abbrev cX5_linesOf : ByteArray := prog_7_method_35_code
def yX5_linesOf : MethodName := ⟨RX5, "linesOf", "(I)I"⟩
abbrev cX5_isBox : ByteArray := prog_7_method_36_code
def yX5_isBox : MethodName := ⟨RX5, "isBox", "(III)Z"⟩
abbrev cX5_lineSum : ByteArray := prog_7_method_37_code
def yX5_lineSum : MethodName := ⟨RX5, "lineSum", "(IIZ)I"⟩
abbrev cX5_sumOfLines : ByteArray := prog_7_method_38_code
def yX5_sumOfLines : MethodName := ⟨RX5, "sumOfLines", "(I)J"⟩
abbrev cX5_mean : ByteArray := prog_7_method_39_code
def yX5_mean : MethodName := ⟨RX5, "mean", "(I)D"⟩
abbrev cX5_layLines : ByteArray := prog_7_method_40_code
def yX5_layLines : MethodName := ⟨RX5, "layLines", "(I)V"⟩
abbrev cX5_boxBy : ByteArray := prog_7_method_41_code
def yX5_boxBy : MethodName := ⟨RX5, "boxBy", "(II)I"⟩
abbrev cX5_scoreBy : ByteArray := prog_7_method_42_code
def yX5_scoreBy : MethodName := ⟨RX5, "scoreBy", "(II)J"⟩
abbrev cX5_boxSum : ByteArray := prog_7_method_43_code
def yX5_boxSum : MethodName := ⟨RX5, "boxSum", "(III)I"⟩
abbrev cX5_score : ByteArray := prog_7_method_44_code
def yX5_score : MethodName := ⟨RX5, "score", "(III)J"⟩
abbrev cX5_isApart : ByteArray := prog_7_method_45_code
def yX5_isApart : MethodName := ⟨RX5, "isApart", "(II)Z"⟩
abbrev cX5_lookThrough : ByteArray := prog_7_method_46_code
def yX5_lookThrough : MethodName := ⟨RX5, "lookThrough", "(IJI)V"⟩
abbrev cX5_findNext : ByteArray := prog_7_method_47_code
def yX5_findNext : MethodName := ⟨RX5, "findNext", "(JI)Z"⟩
abbrev cX5_find : ByteArray := prog_7_method_48_code
def yX5_find : MethodName := ⟨RX5, "find", "(JI)I"⟩
abbrev cX5_told : ByteArray := prog_7_method_49_code
def yX5_told : MethodName := ⟨RX5, "told", "(II)J"⟩
abbrev cX5_candidate : ByteArray := prog_7_method_50_code
def yX5_candidate : MethodName := ⟨RX5, "candidate", "(II)J"⟩
abbrev cX5_candidateAt : ByteArray := prog_7_method_51_code
def yX5_candidateAt : MethodName := ⟨RX5, "candidateAt", "(I)I"⟩
abbrev cX5_mix : ByteArray := prog_7_method_52_code
def yX5_mix : MethodName := ⟨RX5, "mix", "(J)V"⟩
abbrev cX5_mixData : ByteArray := prog_7_method_53_code
def yX5_mixData : MethodName := ⟨RX5, "mixData", "()V"⟩
abbrev cX5_digest : ByteArray := prog_7_method_54_code
def yX5_digest : MethodName := ⟨RX5, "digest", "()J"⟩
def RL : String := "BurstFinderLaw"
abbrev cL_setChannels : ByteArray := method_3_code
def yL_setChannels : MethodName := ⟨RL, "setChannels", "(LBurstFinder;I[J)I"⟩
abbrev cL_setPending : ByteArray := method_4_code
def yL_setPending : MethodName := ⟨RL, "setPending", "(LBurstFinder;II[J)I"⟩
abbrev cL_append : ByteArray := method_5_code
def yL_append : MethodName := ⟨RL, "append", "(LBurstFinder;I[J)I"⟩
abbrev cL_load : ByteArray := method_6_code
def yL_load : MethodName := ⟨RL, "load", "(LBurstFinder;[J)I"⟩
abbrev cL_inject : ByteArray := method_7_code
def yL_inject : MethodName := ⟨RL, "inject", "(LBurstFinder;III[J)I"⟩
abbrev cL_power : ByteArray := method_8_code
def yL_power : MethodName := ⟨RL, "power", "(LBurstFinder;II[J)I"⟩
abbrev cL_count : ByteArray := method_9_code
def yL_count : MethodName := ⟨RL, "count", "(LBurstFinder;I[J)I"⟩
abbrev cL_setMasked : ByteArray := method_10_code
def yL_setMasked : MethodName := ⟨RL, "setMasked", "(LBurstFinder;IZ[J)I"⟩
abbrev cL_channelSum : ByteArray := method_11_code
def yL_channelSum : MethodName := ⟨RL, "channelSum", "(LBurstFinder;I[J)I"⟩
abbrev cL_strike : ByteArray := method_12_code
def yL_strike : MethodName := ⟨RL, "strike", "(LBurstFinder;I[J)I"⟩
abbrev cL_offset : ByteArray := method_13_code
def yL_offset : MethodName := ⟨RL, "offset", "(LBurstFinder;IIZ[J)I"⟩
abbrev cL_bend : ByteArray := method_14_code
def yL_bend : MethodName := ⟨RL, "bend", "(LBurstFinder;I[J)I"⟩
abbrev cL_lineSum : ByteArray := method_15_code
def yL_lineSum : MethodName := ⟨RL, "lineSum", "(LBurstFinder;IIZ[J)I"⟩
abbrev cL_mean : ByteArray := method_16_code
def yL_mean : MethodName := ⟨RL, "mean", "(LBurstFinder;I[D)I"⟩
abbrev cL_boxSum : ByteArray := method_17_code
def yL_boxSum : MethodName := ⟨RL, "boxSum", "(LBurstFinder;III[J)I"⟩
abbrev cL_score : ByteArray := method_18_code
def yL_score : MethodName := ⟨RL, "score", "(LBurstFinder;III[J)I"⟩
abbrev cL_find : ByteArray := method_19_code
def yL_find : MethodName := ⟨RL, "find", "(LBurstFinder;JI[J)I"⟩
abbrev cL_candidate : ByteArray := method_20_code
def yL_candidate : MethodName := ⟨RL, "candidate", "(LBurstFinder;II[J)I"⟩
abbrev cL_candidateAt : ByteArray := method_21_code
def yL_candidateAt : MethodName := ⟨RL, "candidateAt", "(LBurstFinder;I[J)I"⟩
abbrev cL_law : ByteArray := code
def yL_law : MethodName := ⟨RL, "law", "([I)Z"⟩
abbrev vwCl : List vw_C := [(RX0, TX0, 6), (RX1, TX1, 6), (RX2, TX2, 7), (RX3, TX3, 2), (RX4, TX4, 4), (RX5, TX5, 19)]
end
section
theorem dL_setChannels_0 : decode cL_setChannels 0 = .ok (.aload_n 2, 1) := by decide +kernel
theorem dL_setChannels_1 : decode cL_setChannels 1 = .ok (.iconst 0, 1) := by decide +kernel
theorem dL_setChannels_2 : decode cL_setChannels 2 = .ok (.aload_n 0, 1) := by decide +kernel
theorem dL_setChannels_3 : decode cL_setChannels 3 = .ok (.iload_n 1, 1) := by decide +kernel
theorem dL_setChannels_4 : decode cL_setChannels 4 = .ok (.invokevirtual 7, 3) := by decide +kernel
theorem dL_setChannels_7 : decode cL_setChannels 7 = .ok (.i2l, 1) := by decide +kernel
theorem dL_setChannels_8 : decode cL_setChannels 8 = .ok (.lastore, 1) := by decide +kernel
theorem dL_setChannels_9 : decode cL_setChannels 9 = .ok (.goto 6, 3) := by decide +kernel
theorem dL_setChannels_12 : decode cL_setChannels 12 = .ok (.astore_n 3, 1) := by decide +kernel
theorem dL_setChannels_13 : decode cL_setChannels 13 = .ok (.iconst 1, 1) := by decide +kernel
theorem dL_setChannels_14 : decode cL_setChannels 14 = .ok (.ireturn, 1) := by decide +kernel
theorem dL_setChannels_15 : decode cL_setChannels 15 = .ok (.iconst 0, 1) := by decide +kernel
theorem dL_setChannels_16 : decode cL_setChannels 16 = .ok (.ireturn, 1) := by decide +kernel
theorem dL_setPending_0 : decode cL_setPending 0 = .ok (.aload_n 3, 1) := by decide +kernel
theorem dL_setPending_1 : decode cL_setPending 1 = .ok (.iconst 0, 1) := by decide +kernel
theorem dL_setPending_2 : decode cL_setPending 2 = .ok (.aload_n 0, 1) := by decide +kernel
theorem dL_setPending_3 : decode cL_setPending 3 = .ok (.iload_n 1, 1) := by decide +kernel
theorem dL_setPending_4 : decode cL_setPending 4 = .ok (.iload_n 2, 1) := by decide +kernel
theorem dL_setPending_5 : decode cL_setPending 5 = .ok (.invokevirtual 15, 3) := by decide +kernel
theorem dL_setPending_8 : decode cL_setPending 8 = .ok (.i2l, 1) := by decide +kernel
theorem dL_setPending_9 : decode cL_setPending 9 = .ok (.lastore, 1) := by decide +kernel
theorem dL_setPending_10 : decode cL_setPending 10 = .ok (.goto 11, 3) := by decide +kernel
theorem dL_setPending_13 : decode cL_setPending 13 = .ok (.astore 4, 2) := by decide +kernel
theorem dL_setPending_15 : decode cL_setPending 15 = .ok (.iconst 1, 1) := by decide +kernel
theorem dL_setPending_16 : decode cL_setPending 16 = .ok (.ireturn, 1) := by decide +kernel
theorem dL_setPending_17 : decode cL_setPending 17 = .ok (.astore 4, 2) := by decide +kernel
theorem dL_setPending_19 : decode cL_setPending 19 = .ok (.iconst 2, 1) := by decide +kernel
theorem dL_setPending_20 : decode cL_setPending 20 = .ok (.ireturn, 1) := by decide +kernel
theorem dL_setPending_21 : decode cL_setPending 21 = .ok (.iconst 0, 1) := by decide +kernel
theorem dL_setPending_22 : decode cL_setPending 22 = .ok (.ireturn, 1) := by decide +kernel
theorem dL_append_0 : decode cL_append 0 = .ok (.aload_n 2, 1) := by decide +kernel
theorem dL_append_1 : decode cL_append 1 = .ok (.iconst 0, 1) := by decide +kernel
theorem dL_append_2 : decode cL_append 2 = .ok (.aload_n 0, 1) := by decide +kernel
theorem dL_append_3 : decode cL_append 3 = .ok (.iload_n 1, 1) := by decide +kernel
theorem dL_append_4 : decode cL_append 4 = .ok (.invokevirtual 21, 3) := by decide +kernel
theorem dL_append_7 : decode cL_append 7 = .ok (.i2l, 1) := by decide +kernel
theorem dL_append_8 : decode cL_append 8 = .ok (.lastore, 1) := by decide +kernel
theorem dL_append_9 : decode cL_append 9 = .ok (.goto 9, 3) := by decide +kernel
theorem dL_append_12 : decode cL_append 12 = .ok (.astore_n 3, 1) := by decide +kernel
theorem dL_append_13 : decode cL_append 13 = .ok (.iconst 1, 1) := by decide +kernel
theorem dL_append_14 : decode cL_append 14 = .ok (.ireturn, 1) := by decide +kernel
theorem dL_append_15 : decode cL_append 15 = .ok (.astore_n 3, 1) := by decide +kernel
theorem dL_append_16 : decode cL_append 16 = .ok (.iconst 2, 1) := by decide +kernel
theorem dL_append_17 : decode cL_append 17 = .ok (.ireturn, 1) := by decide +kernel
theorem dL_append_18 : decode cL_append 18 = .ok (.iconst 0, 1) := by decide +kernel
theorem dL_append_19 : decode cL_append 19 = .ok (.ireturn, 1) := by decide +kernel
theorem dL_load_0 : decode cL_load 0 = .ok (.aload_n 1, 1) := by decide +kernel
theorem dL_load_1 : decode cL_load 1 = .ok (.iconst 0, 1) := by decide +kernel
theorem dL_load_2 : decode cL_load 2 = .ok (.aload_n 0, 1) := by decide +kernel
theorem dL_load_3 : decode cL_load 3 = .ok (.invokevirtual 26, 3) := by decide +kernel
theorem dL_load_6 : decode cL_load 6 = .ok (.i2l, 1) := by decide +kernel
theorem dL_load_7 : decode cL_load 7 = .ok (.lastore, 1) := by decide +kernel
theorem dL_load_8 : decode cL_load 8 = .ok (.goto 6, 3) := by decide +kernel
theorem dL_load_11 : decode cL_load 11 = .ok (.astore_n 2, 1) := by decide +kernel
theorem dL_load_12 : decode cL_load 12 = .ok (.iconst 1, 1) := by decide +kernel
theorem dL_load_13 : decode cL_load 13 = .ok (.ireturn, 1) := by decide +kernel
theorem dL_load_14 : decode cL_load 14 = .ok (.iconst 0, 1) := by decide +kernel
theorem dL_load_15 : decode cL_load 15 = .ok (.ireturn, 1) := by decide +kernel
theorem dL_inject_0 : decode cL_inject 0 = .ok (.aload 4, 2) := by decide +kernel
theorem dL_inject_2 : decode cL_inject 2 = .ok (.iconst 0, 1) := by decide +kernel
theorem dL_inject_3 : decode cL_inject 3 = .ok (.aload_n 0, 1) := by decide +kernel
theorem dL_inject_4 : decode cL_inject 4 = .ok (.iload_n 1, 1) := by decide +kernel
theorem dL_inject_5 : decode cL_inject 5 = .ok (.iload_n 2, 1) := by decide +kernel
theorem dL_inject_6 : decode cL_inject 6 = .ok (.iload_n 3, 1) := by decide +kernel
theorem dL_inject_7 : decode cL_inject 7 = .ok (.invokevirtual 30, 3) := by decide +kernel
theorem dL_inject_10 : decode cL_inject 10 = .ok (.i2l, 1) := by decide +kernel
theorem dL_inject_11 : decode cL_inject 11 = .ok (.lastore, 1) := by decide +kernel
theorem dL_inject_12 : decode cL_inject 12 = .ok (.goto 11, 3) := by decide +kernel
theorem dL_inject_15 : decode cL_inject 15 = .ok (.astore 5, 2) := by decide +kernel
theorem dL_inject_17 : decode cL_inject 17 = .ok (.iconst 1, 1) := by decide +kernel
theorem dL_inject_18 : decode cL_inject 18 = .ok (.ireturn, 1) := by decide +kernel
theorem dL_inject_19 : decode cL_inject 19 = .ok (.astore 5, 2) := by decide +kernel
theorem dL_inject_21 : decode cL_inject 21 = .ok (.iconst 2, 1) := by decide +kernel
theorem dL_inject_22 : decode cL_inject 22 = .ok (.ireturn, 1) := by decide +kernel
theorem dL_inject_23 : decode cL_inject 23 = .ok (.iconst 0, 1) := by decide +kernel
theorem dL_inject_24 : decode cL_inject 24 = .ok (.ireturn, 1) := by decide +kernel
theorem dL_power_0 : decode cL_power 0 = .ok (.aload_n 3, 1) := by decide +kernel
theorem dL_power_1 : decode cL_power 1 = .ok (.iconst 0, 1) := by decide +kernel
theorem dL_power_2 : decode cL_power 2 = .ok (.aload_n 0, 1) := by decide +kernel
theorem dL_power_3 : decode cL_power 3 = .ok (.iload_n 1, 1) := by decide +kernel
theorem dL_power_4 : decode cL_power 4 = .ok (.iload_n 2, 1) := by decide +kernel
theorem dL_power_5 : decode cL_power 5 = .ok (.invokevirtual 34, 3) := by decide +kernel
theorem dL_power_8 : decode cL_power 8 = .ok (.i2l, 1) := by decide +kernel
theorem dL_power_9 : decode cL_power 9 = .ok (.lastore, 1) := by decide +kernel
theorem dL_power_10 : decode cL_power 10 = .ok (.goto 7, 3) := by decide +kernel
theorem dL_power_13 : decode cL_power 13 = .ok (.astore 4, 2) := by decide +kernel
theorem dL_power_15 : decode cL_power 15 = .ok (.iconst 1, 1) := by decide +kernel
theorem dL_power_16 : decode cL_power 16 = .ok (.ireturn, 1) := by decide +kernel
theorem dL_power_17 : decode cL_power 17 = .ok (.iconst 0, 1) := by decide +kernel
theorem dL_power_18 : decode cL_power 18 = .ok (.ireturn, 1) := by decide +kernel
theorem dL_count_0 : decode cL_count 0 = .ok (.aload_n 2, 1) := by decide +kernel
theorem dL_count_1 : decode cL_count 1 = .ok (.iconst 0, 1) := by decide +kernel
theorem dL_count_2 : decode cL_count 2 = .ok (.aload_n 0, 1) := by decide +kernel
theorem dL_count_3 : decode cL_count 3 = .ok (.iload_n 1, 1) := by decide +kernel
theorem dL_count_4 : decode cL_count 4 = .ok (.invokevirtual 37, 3) := by decide +kernel
theorem dL_count_7 : decode cL_count 7 = .ok (.i2l, 1) := by decide +kernel
theorem dL_count_8 : decode cL_count 8 = .ok (.lastore, 1) := by decide +kernel
theorem dL_count_9 : decode cL_count 9 = .ok (.goto 6, 3) := by decide +kernel
theorem dL_count_12 : decode cL_count 12 = .ok (.astore_n 3, 1) := by decide +kernel
theorem dL_count_13 : decode cL_count 13 = .ok (.iconst 1, 1) := by decide +kernel
theorem dL_count_14 : decode cL_count 14 = .ok (.ireturn, 1) := by decide +kernel
theorem dL_count_15 : decode cL_count 15 = .ok (.iconst 0, 1) := by decide +kernel
theorem dL_count_16 : decode cL_count 16 = .ok (.ireturn, 1) := by decide +kernel
theorem dL_setMasked_0 : decode cL_setMasked 0 = .ok (.aload_n 3, 1) := by decide +kernel
theorem dL_setMasked_1 : decode cL_setMasked 1 = .ok (.iconst 0, 1) := by decide +kernel
theorem dL_setMasked_2 : decode cL_setMasked 2 = .ok (.aload_n 0, 1) := by decide +kernel
theorem dL_setMasked_3 : decode cL_setMasked 3 = .ok (.iload_n 1, 1) := by decide +kernel
theorem dL_setMasked_4 : decode cL_setMasked 4 = .ok (.iload_n 2, 1) := by decide +kernel
theorem dL_setMasked_5 : decode cL_setMasked 5 = .ok (.invokevirtual 40, 3) := by decide +kernel
theorem dL_setMasked_8 : decode cL_setMasked 8 = .ok (.ifCond .eq 7, 3) := by decide +kernel
theorem dL_setMasked_11 : decode cL_setMasked 11 = .ok (.lconst 1, 1) := by decide +kernel
theorem dL_setMasked_12 : decode cL_setMasked 12 = .ok (.goto 4, 3) := by decide +kernel
theorem dL_setMasked_15 : decode cL_setMasked 15 = .ok (.lconst 0, 1) := by decide +kernel
theorem dL_setMasked_16 : decode cL_setMasked 16 = .ok (.lastore, 1) := by decide +kernel
theorem dL_setMasked_17 : decode cL_setMasked 17 = .ok (.goto 7, 3) := by decide +kernel
theorem dL_setMasked_20 : decode cL_setMasked 20 = .ok (.astore 4, 2) := by decide +kernel
theorem dL_setMasked_22 : decode cL_setMasked 22 = .ok (.iconst 1, 1) := by decide +kernel
theorem dL_setMasked_23 : decode cL_setMasked 23 = .ok (.ireturn, 1) := by decide +kernel
theorem dL_setMasked_24 : decode cL_setMasked 24 = .ok (.iconst 0, 1) := by decide +kernel
theorem dL_setMasked_25 : decode cL_setMasked 25 = .ok (.ireturn, 1) := by decide +kernel
theorem dL_channelSum_0 : decode cL_channelSum 0 = .ok (.aload_n 2, 1) := by decide +kernel
theorem dL_channelSum_1 : decode cL_channelSum 1 = .ok (.iconst 0, 1) := by decide +kernel
theorem dL_channelSum_2 : decode cL_channelSum 2 = .ok (.aload_n 0, 1) := by decide +kernel
theorem dL_channelSum_3 : decode cL_channelSum 3 = .ok (.iload_n 1, 1) := by decide +kernel
theorem dL_channelSum_4 : decode cL_channelSum 4 = .ok (.invokevirtual 44, 3) := by decide +kernel
theorem dL_channelSum_7 : decode cL_channelSum 7 = .ok (.i2l, 1) := by decide +kernel
theorem dL_channelSum_8 : decode cL_channelSum 8 = .ok (.lastore, 1) := by decide +kernel
theorem dL_channelSum_9 : decode cL_channelSum 9 = .ok (.goto 6, 3) := by decide +kernel
theorem dL_channelSum_12 : decode cL_channelSum 12 = .ok (.astore_n 3, 1) := by decide +kernel
theorem dL_channelSum_13 : decode cL_channelSum 13 = .ok (.iconst 1, 1) := by decide +kernel
theorem dL_channelSum_14 : decode cL_channelSum 14 = .ok (.ireturn, 1) := by decide +kernel
theorem dL_channelSum_15 : decode cL_channelSum 15 = .ok (.iconst 0, 1) := by decide +kernel
theorem dL_channelSum_16 : decode cL_channelSum 16 = .ok (.ireturn, 1) := by decide +kernel
theorem dL_strike_0 : decode cL_strike 0 = .ok (.aload_n 2, 1) := by decide +kernel
theorem dL_strike_1 : decode cL_strike 1 = .ok (.iconst 0, 1) := by decide +kernel
theorem dL_strike_2 : decode cL_strike 2 = .ok (.aload_n 0, 1) := by decide +kernel
theorem dL_strike_3 : decode cL_strike 3 = .ok (.iload_n 1, 1) := by decide +kernel
theorem dL_strike_4 : decode cL_strike 4 = .ok (.invokevirtual 47, 3) := by decide +kernel
theorem dL_strike_7 : decode cL_strike 7 = .ok (.i2l, 1) := by decide +kernel
theorem dL_strike_8 : decode cL_strike 8 = .ok (.lastore, 1) := by decide +kernel
theorem dL_strike_9 : decode cL_strike 9 = .ok (.goto 6, 3) := by decide +kernel
theorem dL_strike_12 : decode cL_strike 12 = .ok (.astore_n 3, 1) := by decide +kernel
theorem dL_strike_13 : decode cL_strike 13 = .ok (.iconst 1, 1) := by decide +kernel
theorem dL_strike_14 : decode cL_strike 14 = .ok (.ireturn, 1) := by decide +kernel
theorem dL_strike_15 : decode cL_strike 15 = .ok (.iconst 0, 1) := by decide +kernel
theorem dL_strike_16 : decode cL_strike 16 = .ok (.ireturn, 1) := by decide +kernel
theorem dL_offset_0 : decode cL_offset 0 = .ok (.aload 4, 2) := by decide +kernel
theorem dL_offset_2 : decode cL_offset 2 = .ok (.iconst 0, 1) := by decide +kernel
theorem dL_offset_3 : decode cL_offset 3 = .ok (.aload_n 0, 1) := by decide +kernel
theorem dL_offset_4 : decode cL_offset 4 = .ok (.iload_n 1, 1) := by decide +kernel
theorem dL_offset_5 : decode cL_offset 5 = .ok (.iload_n 2, 1) := by decide +kernel
theorem dL_offset_6 : decode cL_offset 6 = .ok (.iload_n 3, 1) := by decide +kernel
theorem dL_offset_7 : decode cL_offset 7 = .ok (.invokevirtual 50, 3) := by decide +kernel
theorem dL_offset_10 : decode cL_offset 10 = .ok (.i2l, 1) := by decide +kernel
theorem dL_offset_11 : decode cL_offset 11 = .ok (.lastore, 1) := by decide +kernel
theorem dL_offset_12 : decode cL_offset 12 = .ok (.goto 7, 3) := by decide +kernel
theorem dL_offset_15 : decode cL_offset 15 = .ok (.astore 5, 2) := by decide +kernel
theorem dL_offset_17 : decode cL_offset 17 = .ok (.iconst 1, 1) := by decide +kernel
theorem dL_offset_18 : decode cL_offset 18 = .ok (.ireturn, 1) := by decide +kernel
theorem dL_offset_19 : decode cL_offset 19 = .ok (.iconst 0, 1) := by decide +kernel
theorem dL_offset_20 : decode cL_offset 20 = .ok (.ireturn, 1) := by decide +kernel
theorem dL_bend_0 : decode cL_bend 0 = .ok (.aload_n 2, 1) := by decide +kernel
theorem dL_bend_1 : decode cL_bend 1 = .ok (.iconst 0, 1) := by decide +kernel
theorem dL_bend_2 : decode cL_bend 2 = .ok (.aload_n 0, 1) := by decide +kernel
theorem dL_bend_3 : decode cL_bend 3 = .ok (.iload_n 1, 1) := by decide +kernel
theorem dL_bend_4 : decode cL_bend 4 = .ok (.invokevirtual 54, 3) := by decide +kernel
theorem dL_bend_7 : decode cL_bend 7 = .ok (.i2l, 1) := by decide +kernel
theorem dL_bend_8 : decode cL_bend 8 = .ok (.lastore, 1) := by decide +kernel
theorem dL_bend_9 : decode cL_bend 9 = .ok (.goto 6, 3) := by decide +kernel
theorem dL_bend_12 : decode cL_bend 12 = .ok (.astore_n 3, 1) := by decide +kernel
theorem dL_bend_13 : decode cL_bend 13 = .ok (.iconst 1, 1) := by decide +kernel
theorem dL_bend_14 : decode cL_bend 14 = .ok (.ireturn, 1) := by decide +kernel
theorem dL_bend_15 : decode cL_bend 15 = .ok (.iconst 0, 1) := by decide +kernel
theorem dL_bend_16 : decode cL_bend 16 = .ok (.ireturn, 1) := by decide +kernel
theorem dL_lineSum_0 : decode cL_lineSum 0 = .ok (.aload 4, 2) := by decide +kernel
theorem dL_lineSum_2 : decode cL_lineSum 2 = .ok (.iconst 0, 1) := by decide +kernel
theorem dL_lineSum_3 : decode cL_lineSum 3 = .ok (.aload_n 0, 1) := by decide +kernel
theorem dL_lineSum_4 : decode cL_lineSum 4 = .ok (.iload_n 1, 1) := by decide +kernel
theorem dL_lineSum_5 : decode cL_lineSum 5 = .ok (.iload_n 2, 1) := by decide +kernel
theorem dL_lineSum_6 : decode cL_lineSum 6 = .ok (.iload_n 3, 1) := by decide +kernel
theorem dL_lineSum_7 : decode cL_lineSum 7 = .ok (.invokevirtual 57, 3) := by decide +kernel
theorem dL_lineSum_10 : decode cL_lineSum 10 = .ok (.i2l, 1) := by decide +kernel
theorem dL_lineSum_11 : decode cL_lineSum 11 = .ok (.lastore, 1) := by decide +kernel
theorem dL_lineSum_12 : decode cL_lineSum 12 = .ok (.goto 7, 3) := by decide +kernel
theorem dL_lineSum_15 : decode cL_lineSum 15 = .ok (.astore 5, 2) := by decide +kernel
theorem dL_lineSum_17 : decode cL_lineSum 17 = .ok (.iconst 1, 1) := by decide +kernel
theorem dL_lineSum_18 : decode cL_lineSum 18 = .ok (.ireturn, 1) := by decide +kernel
theorem dL_lineSum_19 : decode cL_lineSum 19 = .ok (.iconst 0, 1) := by decide +kernel
theorem dL_lineSum_20 : decode cL_lineSum 20 = .ok (.ireturn, 1) := by decide +kernel
theorem dL_mean_0 : decode cL_mean 0 = .ok (.aload_n 2, 1) := by decide +kernel
theorem dL_mean_1 : decode cL_mean 1 = .ok (.iconst 0, 1) := by decide +kernel
theorem dL_mean_2 : decode cL_mean 2 = .ok (.aload_n 0, 1) := by decide +kernel
theorem dL_mean_3 : decode cL_mean 3 = .ok (.iload_n 1, 1) := by decide +kernel
theorem dL_mean_4 : decode cL_mean 4 = .ok (.invokevirtual 60, 3) := by decide +kernel
theorem dL_mean_7 : decode cL_mean 7 = .ok (.dastore, 1) := by decide +kernel
theorem dL_mean_8 : decode cL_mean 8 = .ok (.goto 6, 3) := by decide +kernel
theorem dL_mean_11 : decode cL_mean 11 = .ok (.astore_n 3, 1) := by decide +kernel
theorem dL_mean_12 : decode cL_mean 12 = .ok (.iconst 1, 1) := by decide +kernel
theorem dL_mean_13 : decode cL_mean 13 = .ok (.ireturn, 1) := by decide +kernel
theorem dL_mean_14 : decode cL_mean 14 = .ok (.iconst 0, 1) := by decide +kernel
theorem dL_mean_15 : decode cL_mean 15 = .ok (.ireturn, 1) := by decide +kernel
theorem dL_boxSum_0 : decode cL_boxSum 0 = .ok (.aload 4, 2) := by decide +kernel
theorem dL_boxSum_2 : decode cL_boxSum 2 = .ok (.iconst 0, 1) := by decide +kernel
theorem dL_boxSum_3 : decode cL_boxSum 3 = .ok (.aload_n 0, 1) := by decide +kernel
theorem dL_boxSum_4 : decode cL_boxSum 4 = .ok (.iload_n 1, 1) := by decide +kernel
theorem dL_boxSum_5 : decode cL_boxSum 5 = .ok (.iload_n 2, 1) := by decide +kernel
theorem dL_boxSum_6 : decode cL_boxSum 6 = .ok (.iload_n 3, 1) := by decide +kernel
theorem dL_boxSum_7 : decode cL_boxSum 7 = .ok (.invokevirtual 64, 3) := by decide +kernel
theorem dL_boxSum_10 : decode cL_boxSum 10 = .ok (.i2l, 1) := by decide +kernel
theorem dL_boxSum_11 : decode cL_boxSum 11 = .ok (.lastore, 1) := by decide +kernel
theorem dL_boxSum_12 : decode cL_boxSum 12 = .ok (.goto 11, 3) := by decide +kernel
theorem dL_boxSum_15 : decode cL_boxSum 15 = .ok (.astore 5, 2) := by decide +kernel
theorem dL_boxSum_17 : decode cL_boxSum 17 = .ok (.iconst 1, 1) := by decide +kernel
theorem dL_boxSum_18 : decode cL_boxSum 18 = .ok (.ireturn, 1) := by decide +kernel
theorem dL_boxSum_19 : decode cL_boxSum 19 = .ok (.astore 5, 2) := by decide +kernel
theorem dL_boxSum_21 : decode cL_boxSum 21 = .ok (.iconst 2, 1) := by decide +kernel
theorem dL_boxSum_22 : decode cL_boxSum 22 = .ok (.ireturn, 1) := by decide +kernel
theorem dL_boxSum_23 : decode cL_boxSum 23 = .ok (.iconst 0, 1) := by decide +kernel
theorem dL_boxSum_24 : decode cL_boxSum 24 = .ok (.ireturn, 1) := by decide +kernel
theorem dL_score_0 : decode cL_score 0 = .ok (.aload 4, 2) := by decide +kernel
theorem dL_score_2 : decode cL_score 2 = .ok (.iconst 0, 1) := by decide +kernel
theorem dL_score_3 : decode cL_score 3 = .ok (.aload_n 0, 1) := by decide +kernel
theorem dL_score_4 : decode cL_score 4 = .ok (.iload_n 1, 1) := by decide +kernel
theorem dL_score_5 : decode cL_score 5 = .ok (.iload_n 2, 1) := by decide +kernel
theorem dL_score_6 : decode cL_score 6 = .ok (.iload_n 3, 1) := by decide +kernel
theorem dL_score_7 : decode cL_score 7 = .ok (.invokevirtual 67, 3) := by decide +kernel
theorem dL_score_10 : decode cL_score 10 = .ok (.lastore, 1) := by decide +kernel
theorem dL_score_11 : decode cL_score 11 = .ok (.goto 11, 3) := by decide +kernel
theorem dL_score_14 : decode cL_score 14 = .ok (.astore 5, 2) := by decide +kernel
theorem dL_score_16 : decode cL_score 16 = .ok (.iconst 1, 1) := by decide +kernel
theorem dL_score_17 : decode cL_score 17 = .ok (.ireturn, 1) := by decide +kernel
theorem dL_score_18 : decode cL_score 18 = .ok (.astore 5, 2) := by decide +kernel
theorem dL_score_20 : decode cL_score 20 = .ok (.iconst 2, 1) := by decide +kernel
theorem dL_score_21 : decode cL_score 21 = .ok (.ireturn, 1) := by decide +kernel
theorem dL_score_22 : decode cL_score 22 = .ok (.iconst 0, 1) := by decide +kernel
theorem dL_score_23 : decode cL_score 23 = .ok (.ireturn, 1) := by decide +kernel
theorem dL_find_0 : decode cL_find 0 = .ok (.aload 4, 2) := by decide +kernel
theorem dL_find_2 : decode cL_find 2 = .ok (.iconst 0, 1) := by decide +kernel
theorem dL_find_3 : decode cL_find 3 = .ok (.aload_n 0, 1) := by decide +kernel
theorem dL_find_4 : decode cL_find 4 = .ok (.lload_n 1, 1) := by decide +kernel
theorem dL_find_5 : decode cL_find 5 = .ok (.iload_n 3, 1) := by decide +kernel
theorem dL_find_6 : decode cL_find 6 = .ok (.invokevirtual 71, 3) := by decide +kernel
theorem dL_find_9 : decode cL_find 9 = .ok (.i2l, 1) := by decide +kernel
theorem dL_find_10 : decode cL_find 10 = .ok (.lastore, 1) := by decide +kernel
theorem dL_find_11 : decode cL_find 11 = .ok (.goto 7, 3) := by decide +kernel
theorem dL_find_14 : decode cL_find 14 = .ok (.astore 5, 2) := by decide +kernel
theorem dL_find_16 : decode cL_find 16 = .ok (.iconst 1, 1) := by decide +kernel
theorem dL_find_17 : decode cL_find 17 = .ok (.ireturn, 1) := by decide +kernel
theorem dL_find_18 : decode cL_find 18 = .ok (.iconst 0, 1) := by decide +kernel
theorem dL_find_19 : decode cL_find 19 = .ok (.ireturn, 1) := by decide +kernel
theorem dL_candidate_0 : decode cL_candidate 0 = .ok (.aload_n 3, 1) := by decide +kernel
theorem dL_candidate_1 : decode cL_candidate 1 = .ok (.iconst 0, 1) := by decide +kernel
theorem dL_candidate_2 : decode cL_candidate 2 = .ok (.aload_n 0, 1) := by decide +kernel
theorem dL_candidate_3 : decode cL_candidate 3 = .ok (.iload_n 1, 1) := by decide +kernel
theorem dL_candidate_4 : decode cL_candidate 4 = .ok (.iload_n 2, 1) := by decide +kernel
theorem dL_candidate_5 : decode cL_candidate 5 = .ok (.invokevirtual 75, 3) := by decide +kernel
theorem dL_candidate_8 : decode cL_candidate 8 = .ok (.lastore, 1) := by decide +kernel
theorem dL_candidate_9 : decode cL_candidate 9 = .ok (.goto 11, 3) := by decide +kernel
theorem dL_candidate_12 : decode cL_candidate 12 = .ok (.astore 4, 2) := by decide +kernel
theorem dL_candidate_14 : decode cL_candidate 14 = .ok (.iconst 1, 1) := by decide +kernel
theorem dL_candidate_15 : decode cL_candidate 15 = .ok (.ireturn, 1) := by decide +kernel
theorem dL_candidate_16 : decode cL_candidate 16 = .ok (.astore 4, 2) := by decide +kernel
theorem dL_candidate_18 : decode cL_candidate 18 = .ok (.iconst 2, 1) := by decide +kernel
theorem dL_candidate_19 : decode cL_candidate 19 = .ok (.ireturn, 1) := by decide +kernel
theorem dL_candidate_20 : decode cL_candidate 20 = .ok (.iconst 0, 1) := by decide +kernel
theorem dL_candidate_21 : decode cL_candidate 21 = .ok (.ireturn, 1) := by decide +kernel
theorem dL_candidateAt_0 : decode cL_candidateAt 0 = .ok (.aload_n 2, 1) := by decide +kernel
theorem dL_candidateAt_1 : decode cL_candidateAt 1 = .ok (.iconst 0, 1) := by decide +kernel
theorem dL_candidateAt_2 : decode cL_candidateAt 2 = .ok (.aload_n 0, 1) := by decide +kernel
theorem dL_candidateAt_3 : decode cL_candidateAt 3 = .ok (.iload_n 1, 1) := by decide +kernel
theorem dL_candidateAt_4 : decode cL_candidateAt 4 = .ok (.invokevirtual 79, 3) := by decide +kernel
theorem dL_candidateAt_7 : decode cL_candidateAt 7 = .ok (.i2l, 1) := by decide +kernel
theorem dL_candidateAt_8 : decode cL_candidateAt 8 = .ok (.lastore, 1) := by decide +kernel
theorem dL_candidateAt_9 : decode cL_candidateAt 9 = .ok (.goto 6, 3) := by decide +kernel
theorem dL_candidateAt_12 : decode cL_candidateAt 12 = .ok (.astore_n 3, 1) := by decide +kernel
theorem dL_candidateAt_13 : decode cL_candidateAt 13 = .ok (.iconst 1, 1) := by decide +kernel
theorem dL_candidateAt_14 : decode cL_candidateAt 14 = .ok (.ireturn, 1) := by decide +kernel
theorem dL_candidateAt_15 : decode cL_candidateAt 15 = .ok (.iconst 0, 1) := by decide +kernel
theorem dL_candidateAt_16 : decode cL_candidateAt 16 = .ok (.ireturn, 1) := by decide +kernel
theorem dX0_init_0 : decode cX0_init 0 = .ok (.aload_n 0, 1) := by decide +kernel
theorem dX0_init_1 : decode cX0_init 1 = .ok (.invokespecial 3, 3) := by decide +kernel
theorem dX0_init_4 : decode cX0_init 4 = .ok (.aload_n 0, 1) := by decide +kernel
theorem dX0_init_5 : decode cX0_init 5 = .ok (.iconst 0, 1) := by decide +kernel
theorem dX0_init_6 : decode cX0_init 6 = .ok (.putfield 9, 3) := by decide +kernel
theorem dX0_init_9 : decode cX0_init 9 = .ok (.aload_n 0, 1) := by decide +kernel
theorem dX0_init_10 : decode cX0_init 10 = .ok (.bipush 8, 2) := by decide +kernel
theorem dX0_init_12 : decode cX0_init 12 = .ok (.newarray .int, 2) := by decide +kernel
theorem dX0_init_14 : decode cX0_init 14 = .ok (.putfield 15, 3) := by decide +kernel
theorem dX0_init_17 : decode cX0_init 17 = .ok (.aload_n 0, 1) := by decide +kernel
theorem dX0_init_18 : decode cX0_init 18 = .ok (.bipush 8, 2) := by decide +kernel
theorem dX0_init_20 : decode cX0_init 20 = .ok (.newarray .int, 2) := by decide +kernel
theorem dX0_init_22 : decode cX0_init 22 = .ok (.putfield 19, 3) := by decide +kernel
theorem dX0_init_25 : decode cX0_init 25 = .ok (.aload_n 0, 1) := by decide +kernel
theorem dX0_init_26 : decode cX0_init 26 = .ok (.bipush 8, 2) := by decide +kernel
theorem dX0_init_28 : decode cX0_init 28 = .ok (.newarray .int, 2) := by decide +kernel
theorem dX0_init_30 : decode cX0_init 30 = .ok (.putfield 22, 3) := by decide +kernel
theorem dX0_init_33 : decode cX0_init 33 = .ok (.aload_n 0, 1) := by decide +kernel
theorem dX0_init_34 : decode cX0_init 34 = .ok (.bipush 8, 2) := by decide +kernel
theorem dX0_init_36 : decode cX0_init 36 = .ok (.newarray .long, 2) := by decide +kernel
theorem dX0_init_38 : decode cX0_init 38 = .ok (.putfield 25, 3) := by decide +kernel
theorem dX0_init_41 : decode cX0_init 41 = .ok (.aload_n 0, 1) := by decide +kernel
theorem dX0_init_42 : decode cX0_init 42 = .ok (.bipush 48, 2) := by decide +kernel
theorem dX0_init_44 : decode cX0_init 44 = .ok (.newarray .int, 2) := by decide +kernel
theorem dX0_init_46 : decode cX0_init 46 = .ok (.putfield 29, 3) := by decide +kernel
theorem dX0_init_49 : decode cX0_init 49 = .ok (.return_, 1) := by decide +kernel
theorem dX0_firstWith_0 : decode cX0_firstWith 0 = .ok (.iconst 0, 1) := by decide +kernel
theorem dX0_firstWith_1 : decode cX0_firstWith 1 = .ok (.istore_n 2, 1) := by decide +kernel
theorem dX0_firstWith_2 : decode cX0_firstWith 2 = .ok (.iload_n 2, 1) := by decide +kernel
theorem dX0_firstWith_3 : decode cX0_firstWith 3 = .ok (.aload_n 0, 1) := by decide +kernel
theorem dX0_firstWith_4 : decode cX0_firstWith 4 = .ok (.getfield 9, 3) := by decide +kernel
theorem dX0_firstWith_7 : decode cX0_firstWith 7 = .ok (.if_icmp .ge 49, 3) := by decide +kernel
theorem dX0_firstWith_10 : decode cX0_firstWith 10 = .ok (.aload_n 0, 1) := by decide +kernel
theorem dX0_firstWith_11 : decode cX0_firstWith 11 = .ok (.getfield 19, 3) := by decide +kernel
theorem dX0_firstWith_14 : decode cX0_firstWith 14 = .ok (.iload_n 2, 1) := by decide +kernel
theorem dX0_firstWith_15 : decode cX0_firstWith 15 = .ok (.iaload, 1) := by decide +kernel
theorem dX0_firstWith_16 : decode cX0_firstWith 16 = .ok (.aload_n 0, 1) := by decide +kernel
theorem dX0_firstWith_17 : decode cX0_firstWith 17 = .ok (.getfield 22, 3) := by decide +kernel
theorem dX0_firstWith_20 : decode cX0_firstWith 20 = .ok (.iload_n 2, 1) := by decide +kernel
theorem dX0_firstWith_21 : decode cX0_firstWith 21 = .ok (.iaload, 1) := by decide +kernel
theorem dX0_firstWith_22 : decode cX0_firstWith 22 = .ok (.iadd, 1) := by decide +kernel
theorem dX0_firstWith_23 : decode cX0_firstWith 23 = .ok (.iconst 1, 1) := by decide +kernel
theorem dX0_firstWith_24 : decode cX0_firstWith 24 = .ok (.isub, 1) := by decide +kernel
theorem dX0_firstWith_25 : decode cX0_firstWith 25 = .ok (.aload_n 0, 1) := by decide +kernel
theorem dX0_firstWith_26 : decode cX0_firstWith 26 = .ok (.getfield 15, 3) := by decide +kernel
theorem dX0_firstWith_29 : decode cX0_firstWith 29 = .ok (.iload_n 2, 1) := by decide +kernel
theorem dX0_firstWith_30 : decode cX0_firstWith 30 = .ok (.iaload, 1) := by decide +kernel
theorem dX0_firstWith_31 : decode cX0_firstWith 31 = .ok (.iadd, 1) := by decide +kernel
theorem dX0_firstWith_32 : decode cX0_firstWith 32 = .ok (.istore_n 3, 1) := by decide +kernel
theorem dX0_firstWith_33 : decode cX0_firstWith 33 = .ok (.iload_n 1, 1) := by decide +kernel
theorem dX0_firstWith_34 : decode cX0_firstWith 34 = .ok (.aload_n 0, 1) := by decide +kernel
theorem dX0_firstWith_35 : decode cX0_firstWith 35 = .ok (.getfield 19, 3) := by decide +kernel
theorem dX0_firstWith_38 : decode cX0_firstWith 38 = .ok (.iload_n 2, 1) := by decide +kernel
theorem dX0_firstWith_39 : decode cX0_firstWith 39 = .ok (.iaload, 1) := by decide +kernel
theorem dX0_firstWith_40 : decode cX0_firstWith 40 = .ok (.if_icmp .lt 10, 3) := by decide +kernel
theorem dX0_firstWith_43 : decode cX0_firstWith 43 = .ok (.iload_n 1, 1) := by decide +kernel
theorem dX0_firstWith_44 : decode cX0_firstWith 44 = .ok (.iload_n 3, 1) := by decide +kernel
theorem dX0_firstWith_45 : decode cX0_firstWith 45 = .ok (.if_icmp .gt 5, 3) := by decide +kernel
theorem dX0_firstWith_48 : decode cX0_firstWith 48 = .ok (.iload_n 2, 1) := by decide +kernel
theorem dX0_firstWith_49 : decode cX0_firstWith 49 = .ok (.ireturn, 1) := by decide +kernel
theorem dX0_firstWith_50 : decode cX0_firstWith 50 = .ok (.iinc 2 1, 3) := by decide +kernel
theorem dX0_firstWith_53 : decode cX0_firstWith 53 = .ok (.goto (-51), 3) := by decide +kernel
theorem dX0_firstWith_56 : decode cX0_firstWith 56 = .ok (.iconst (-1), 1) := by decide +kernel
theorem dX0_firstWith_57 : decode cX0_firstWith 57 = .ok (.ireturn, 1) := by decide +kernel
theorem dX0_addBest_0 : decode cX0_addBest 0 = .ok (.aload_n 0, 1) := by decide +kernel
theorem dX0_addBest_1 : decode cX0_addBest 1 = .ok (.getfield 9, 3) := by decide +kernel
theorem dX0_addBest_4 : decode cX0_addBest 4 = .ok (.bipush 8, 2) := by decide +kernel
theorem dX0_addBest_6 : decode cX0_addBest 6 = .ok (.if_icmp .lt 5, 3) := by decide +kernel
theorem dX0_addBest_9 : decode cX0_addBest 9 = .ok (.iconst 0, 1) := by decide +kernel
theorem dX0_addBest_10 : decode cX0_addBest 10 = .ok (.ireturn, 1) := by decide +kernel
theorem dX0_addBest_11 : decode cX0_addBest 11 = .ok (.aload_n 0, 1) := by decide +kernel
theorem dX0_addBest_12 : decode cX0_addBest 12 = .ok (.aload_n 1, 1) := by decide +kernel
theorem dX0_addBest_13 : decode cX0_addBest 13 = .ok (.getfield 32, 3) := by decide +kernel
theorem dX0_addBest_16 : decode cX0_addBest 16 = .ok (.invokevirtual 36, 3) := by decide +kernel
theorem dX0_addBest_19 : decode cX0_addBest 19 = .ok (.aload_n 0, 1) := by decide +kernel
theorem dX0_addBest_20 : decode cX0_addBest 20 = .ok (.getfield 25, 3) := by decide +kernel
theorem dX0_addBest_23 : decode cX0_addBest 23 = .ok (.aload_n 0, 1) := by decide +kernel
theorem dX0_addBest_24 : decode cX0_addBest 24 = .ok (.getfield 9, 3) := by decide +kernel
theorem dX0_addBest_27 : decode cX0_addBest 27 = .ok (.lload_n 2, 1) := by decide +kernel
theorem dX0_addBest_28 : decode cX0_addBest 28 = .ok (.lconst 1, 1) := by decide +kernel
theorem dX0_addBest_29 : decode cX0_addBest 29 = .ok (.lsub, 1) := by decide +kernel
theorem dX0_addBest_30 : decode cX0_addBest 30 = .ok (.lastore, 1) := by decide +kernel
theorem dX0_addBest_31 : decode cX0_addBest 31 = .ok (.iconst 0, 1) := by decide +kernel
theorem dX0_addBest_32 : decode cX0_addBest 32 = .ok (.istore 5, 2) := by decide +kernel
theorem dX0_addBest_34 : decode cX0_addBest 34 = .ok (.iload 5, 2) := by decide +kernel
theorem dX0_addBest_36 : decode cX0_addBest 36 = .ok (.aload_n 1, 1) := by decide +kernel
theorem dX0_addBest_37 : decode cX0_addBest 37 = .ok (.getfield 40, 3) := by decide +kernel
theorem dX0_addBest_40 : decode cX0_addBest 40 = .ok (.if_icmp .ge 44, 3) := by decide +kernel
theorem dX0_addBest_43 : decode cX0_addBest 43 = .ok (.aload_n 1, 1) := by decide +kernel
theorem dX0_addBest_44 : decode cX0_addBest 44 = .ok (.iload 5, 2) := by decide +kernel
theorem dX0_addBest_46 : decode cX0_addBest 46 = .ok (.invokevirtual 42, 3) := by decide +kernel
theorem dX0_addBest_49 : decode cX0_addBest 49 = .ok (.istore 6, 2) := by decide +kernel
theorem dX0_addBest_51 : decode cX0_addBest 51 = .ok (.iconst 0, 1) := by decide +kernel
theorem dX0_addBest_52 : decode cX0_addBest 52 = .ok (.istore 7, 2) := by decide +kernel
theorem dX0_addBest_54 : decode cX0_addBest 54 = .ok (.iload 7, 2) := by decide +kernel
theorem dX0_addBest_56 : decode cX0_addBest 56 = .ok (.iload 6, 2) := by decide +kernel
theorem dX0_addBest_58 : decode cX0_addBest 58 = .ok (.if_icmp .ge 20, 3) := by decide +kernel
theorem dX0_addBest_61 : decode cX0_addBest 61 = .ok (.aload_n 0, 1) := by decide +kernel
theorem dX0_addBest_62 : decode cX0_addBest 62 = .ok (.aload_n 1, 1) := by decide +kernel
theorem dX0_addBest_63 : decode cX0_addBest 63 = .ok (.iload 5, 2) := by decide +kernel
theorem dX0_addBest_65 : decode cX0_addBest 65 = .ok (.iload 7, 2) := by decide +kernel
theorem dX0_addBest_67 : decode cX0_addBest 67 = .ok (.iload 4, 2) := by decide +kernel
theorem dX0_addBest_69 : decode cX0_addBest 69 = .ok (.invokevirtual 46, 3) := by decide +kernel
theorem dX0_addBest_72 : decode cX0_addBest 72 = .ok (.iinc 7 1, 3) := by decide +kernel
theorem dX0_addBest_75 : decode cX0_addBest 75 = .ok (.goto (-21), 3) := by decide +kernel
theorem dX0_addBest_78 : decode cX0_addBest 78 = .ok (.iinc 5 1, 3) := by decide +kernel
theorem dX0_addBest_81 : decode cX0_addBest 81 = .ok (.goto (-47), 3) := by decide +kernel
theorem dX0_addBest_84 : decode cX0_addBest 84 = .ok (.aload_n 0, 1) := by decide +kernel
theorem dX0_addBest_85 : decode cX0_addBest 85 = .ok (.getfield 25, 3) := by decide +kernel
theorem dX0_addBest_88 : decode cX0_addBest 88 = .ok (.aload_n 0, 1) := by decide +kernel
theorem dX0_addBest_89 : decode cX0_addBest 89 = .ok (.getfield 9, 3) := by decide +kernel
theorem dX0_addBest_92 : decode cX0_addBest 92 = .ok (.laload, 1) := by decide +kernel
theorem dX0_addBest_93 : decode cX0_addBest 93 = .ok (.lload_n 2, 1) := by decide +kernel
theorem dX0_addBest_94 : decode cX0_addBest 94 = .ok (.lcmp, 1) := by decide +kernel
theorem dX0_addBest_95 : decode cX0_addBest 95 = .ok (.ifCond .ge 5, 3) := by decide +kernel
theorem dX0_addBest_98 : decode cX0_addBest 98 = .ok (.iconst 0, 1) := by decide +kernel
theorem dX0_addBest_99 : decode cX0_addBest 99 = .ok (.ireturn, 1) := by decide +kernel
theorem dX0_addBest_100 : decode cX0_addBest 100 = .ok (.aload_n 0, 1) := by decide +kernel
theorem dX0_addBest_101 : decode cX0_addBest 101 = .ok (.dup, 1) := by decide +kernel
theorem dX0_addBest_102 : decode cX0_addBest 102 = .ok (.getfield 9, 3) := by decide +kernel
theorem dX0_addBest_105 : decode cX0_addBest 105 = .ok (.iconst 1, 1) := by decide +kernel
theorem dX0_addBest_106 : decode cX0_addBest 106 = .ok (.iadd, 1) := by decide +kernel
theorem dX0_addBest_107 : decode cX0_addBest 107 = .ok (.putfield 9, 3) := by decide +kernel
theorem dX0_addBest_110 : decode cX0_addBest 110 = .ok (.iconst 1, 1) := by decide +kernel
theorem dX0_addBest_111 : decode cX0_addBest 111 = .ok (.ireturn, 1) := by decide +kernel
theorem dX0_markFreeEnds_0 : decode cX0_markFreeEnds 0 = .ok (.iload_n 1, 1) := by decide +kernel
theorem dX0_markFreeEnds_1 : decode cX0_markFreeEnds 1 = .ok (.istore_n 2, 1) := by decide +kernel
theorem dX0_markFreeEnds_2 : decode cX0_markFreeEnds 2 = .ok (.iload_n 1, 1) := by decide +kernel
theorem dX0_markFreeEnds_3 : decode cX0_markFreeEnds 3 = .ok (.iconst 1, 1) := by decide +kernel
theorem dX0_markFreeEnds_4 : decode cX0_markFreeEnds 4 = .ok (.isub, 1) := by decide +kernel
theorem dX0_markFreeEnds_5 : decode cX0_markFreeEnds 5 = .ok (.istore_n 3, 1) := by decide +kernel
theorem dX0_markFreeEnds_6 : decode cX0_markFreeEnds 6 = .ok (.iload_n 3, 1) := by decide +kernel
theorem dX0_markFreeEnds_7 : decode cX0_markFreeEnds 7 = .ok (.ifCond .lt 27, 3) := by decide +kernel
theorem dX0_markFreeEnds_10 : decode cX0_markFreeEnds 10 = .ok (.aload_n 0, 1) := by decide +kernel
theorem dX0_markFreeEnds_11 : decode cX0_markFreeEnds 11 = .ok (.iload_n 3, 1) := by decide +kernel
theorem dX0_markFreeEnds_12 : decode cX0_markFreeEnds 12 = .ok (.invokevirtual 50, 3) := by decide +kernel
theorem dX0_markFreeEnds_15 : decode cX0_markFreeEnds 15 = .ok (.iconst (-1), 1) := by decide +kernel
theorem dX0_markFreeEnds_16 : decode cX0_markFreeEnds 16 = .ok (.if_icmp .eq 5, 3) := by decide +kernel
theorem dX0_markFreeEnds_19 : decode cX0_markFreeEnds 19 = .ok (.iload_n 3, 1) := by decide +kernel
theorem dX0_markFreeEnds_20 : decode cX0_markFreeEnds 20 = .ok (.istore_n 2, 1) := by decide +kernel
theorem dX0_markFreeEnds_21 : decode cX0_markFreeEnds 21 = .ok (.aload_n 0, 1) := by decide +kernel
theorem dX0_markFreeEnds_22 : decode cX0_markFreeEnds 22 = .ok (.getfield 29, 3) := by decide +kernel
theorem dX0_markFreeEnds_25 : decode cX0_markFreeEnds 25 = .ok (.iload_n 3, 1) := by decide +kernel
theorem dX0_markFreeEnds_26 : decode cX0_markFreeEnds 26 = .ok (.iload_n 2, 1) := by decide +kernel
theorem dX0_markFreeEnds_27 : decode cX0_markFreeEnds 27 = .ok (.iastore, 1) := by decide +kernel
theorem dX0_markFreeEnds_28 : decode cX0_markFreeEnds 28 = .ok (.iinc 3 (-1), 3) := by decide +kernel
theorem dX0_markFreeEnds_31 : decode cX0_markFreeEnds 31 = .ok (.goto (-25), 3) := by decide +kernel
theorem dX0_markFreeEnds_34 : decode cX0_markFreeEnds 34 = .ok (.return_, 1) := by decide +kernel
theorem dX0_tryBoxes_0 : decode cX0_tryBoxes 0 = .ok (.iload 4, 2) := by decide +kernel
theorem dX0_tryBoxes_2 : decode cX0_tryBoxes 2 = .ok (.aload_n 0, 1) := by decide +kernel
theorem dX0_tryBoxes_3 : decode cX0_tryBoxes 3 = .ok (.getfield 29, 3) := by decide +kernel
theorem dX0_tryBoxes_6 : decode cX0_tryBoxes 6 = .ok (.iload_n 3, 1) := by decide +kernel
theorem dX0_tryBoxes_7 : decode cX0_tryBoxes 7 = .ok (.iaload, 1) := by decide +kernel
theorem dX0_tryBoxes_8 : decode cX0_tryBoxes 8 = .ok (.iload_n 2, 1) := by decide +kernel
theorem dX0_tryBoxes_9 : decode cX0_tryBoxes 9 = .ok (.isub, 1) := by decide +kernel
theorem dX0_tryBoxes_10 : decode cX0_tryBoxes 10 = .ok (.iload_n 3, 1) := by decide +kernel
theorem dX0_tryBoxes_11 : decode cX0_tryBoxes 11 = .ok (.isub, 1) := by decide +kernel
theorem dX0_tryBoxes_12 : decode cX0_tryBoxes 12 = .ok (.invokestatic 53, 3) := by decide +kernel
theorem dX0_tryBoxes_15 : decode cX0_tryBoxes 15 = .ok (.istore 5, 2) := by decide +kernel
theorem dX0_tryBoxes_17 : decode cX0_tryBoxes 17 = .ok (.lconst 0, 1) := by decide +kernel
theorem dX0_tryBoxes_18 : decode cX0_tryBoxes 18 = .ok (.lstore 6, 2) := by decide +kernel
theorem dX0_tryBoxes_20 : decode cX0_tryBoxes 20 = .ok (.iconst 1, 1) := by decide +kernel
theorem dX0_tryBoxes_21 : decode cX0_tryBoxes 21 = .ok (.istore 8, 2) := by decide +kernel
theorem dX0_tryBoxes_23 : decode cX0_tryBoxes 23 = .ok (.iload 8, 2) := by decide +kernel
theorem dX0_tryBoxes_25 : decode cX0_tryBoxes 25 = .ok (.iload 5, 2) := by decide +kernel
theorem dX0_tryBoxes_27 : decode cX0_tryBoxes 27 = .ok (.if_icmp .gt 94, 3) := by decide +kernel
theorem dX0_tryBoxes_30 : decode cX0_tryBoxes 30 = .ok (.lload 6, 2) := by decide +kernel
theorem dX0_tryBoxes_32 : decode cX0_tryBoxes 32 = .ok (.aload_n 1, 1) := by decide +kernel
theorem dX0_tryBoxes_33 : decode cX0_tryBoxes 33 = .ok (.iload_n 2, 1) := by decide +kernel
theorem dX0_tryBoxes_34 : decode cX0_tryBoxes 34 = .ok (.iload_n 3, 1) := by decide +kernel
theorem dX0_tryBoxes_35 : decode cX0_tryBoxes 35 = .ok (.iload 8, 2) := by decide +kernel
theorem dX0_tryBoxes_37 : decode cX0_tryBoxes 37 = .ok (.iadd, 1) := by decide +kernel
theorem dX0_tryBoxes_38 : decode cX0_tryBoxes 38 = .ok (.iconst 1, 1) := by decide +kernel
theorem dX0_tryBoxes_39 : decode cX0_tryBoxes 39 = .ok (.isub, 1) := by decide +kernel
theorem dX0_tryBoxes_40 : decode cX0_tryBoxes 40 = .ok (.invokevirtual 59, 3) := by decide +kernel
theorem dX0_tryBoxes_43 : decode cX0_tryBoxes 43 = .ok (.i2l, 1) := by decide +kernel
theorem dX0_tryBoxes_44 : decode cX0_tryBoxes 44 = .ok (.ladd, 1) := by decide +kernel
theorem dX0_tryBoxes_45 : decode cX0_tryBoxes 45 = .ok (.lstore 6, 2) := by decide +kernel
theorem dX0_tryBoxes_47 : decode cX0_tryBoxes 47 = .ok (.aload_n 1, 1) := by decide +kernel
theorem dX0_tryBoxes_48 : decode cX0_tryBoxes 48 = .ok (.iload_n 2, 1) := by decide +kernel
theorem dX0_tryBoxes_49 : decode cX0_tryBoxes 49 = .ok (.iload 8, 2) := by decide +kernel
theorem dX0_tryBoxes_51 : decode cX0_tryBoxes 51 = .ok (.lload 6, 2) := by decide +kernel
theorem dX0_tryBoxes_53 : decode cX0_tryBoxes 53 = .ok (.invokevirtual 62, 3) := by decide +kernel
theorem dX0_tryBoxes_56 : decode cX0_tryBoxes 56 = .ok (.lstore 9, 2) := by decide +kernel
theorem dX0_tryBoxes_58 : decode cX0_tryBoxes 58 = .ok (.lload 9, 2) := by decide +kernel
theorem dX0_tryBoxes_60 : decode cX0_tryBoxes 60 = .ok (.aload_n 0, 1) := by decide +kernel
theorem dX0_tryBoxes_61 : decode cX0_tryBoxes 61 = .ok (.getfield 25, 3) := by decide +kernel
theorem dX0_tryBoxes_64 : decode cX0_tryBoxes 64 = .ok (.aload_n 0, 1) := by decide +kernel
theorem dX0_tryBoxes_65 : decode cX0_tryBoxes 65 = .ok (.getfield 9, 3) := by decide +kernel
theorem dX0_tryBoxes_68 : decode cX0_tryBoxes 68 = .ok (.laload, 1) := by decide +kernel
theorem dX0_tryBoxes_69 : decode cX0_tryBoxes 69 = .ok (.lcmp, 1) := by decide +kernel
theorem dX0_tryBoxes_70 : decode cX0_tryBoxes 70 = .ok (.ifCond .le 45, 3) := by decide +kernel
theorem dX0_tryBoxes_73 : decode cX0_tryBoxes 73 = .ok (.aload_n 0, 1) := by decide +kernel
theorem dX0_tryBoxes_74 : decode cX0_tryBoxes 74 = .ok (.getfield 15, 3) := by decide +kernel
theorem dX0_tryBoxes_77 : decode cX0_tryBoxes 77 = .ok (.aload_n 0, 1) := by decide +kernel
theorem dX0_tryBoxes_78 : decode cX0_tryBoxes 78 = .ok (.getfield 9, 3) := by decide +kernel
theorem dX0_tryBoxes_81 : decode cX0_tryBoxes 81 = .ok (.iload_n 2, 1) := by decide +kernel
theorem dX0_tryBoxes_82 : decode cX0_tryBoxes 82 = .ok (.iastore, 1) := by decide +kernel
theorem dX0_tryBoxes_83 : decode cX0_tryBoxes 83 = .ok (.aload_n 0, 1) := by decide +kernel
theorem dX0_tryBoxes_84 : decode cX0_tryBoxes 84 = .ok (.getfield 19, 3) := by decide +kernel
theorem dX0_tryBoxes_87 : decode cX0_tryBoxes 87 = .ok (.aload_n 0, 1) := by decide +kernel
theorem dX0_tryBoxes_88 : decode cX0_tryBoxes 88 = .ok (.getfield 9, 3) := by decide +kernel
theorem dX0_tryBoxes_91 : decode cX0_tryBoxes 91 = .ok (.iload_n 3, 1) := by decide +kernel
theorem dX0_tryBoxes_92 : decode cX0_tryBoxes 92 = .ok (.iastore, 1) := by decide +kernel
theorem dX0_tryBoxes_93 : decode cX0_tryBoxes 93 = .ok (.aload_n 0, 1) := by decide +kernel
theorem dX0_tryBoxes_94 : decode cX0_tryBoxes 94 = .ok (.getfield 22, 3) := by decide +kernel
theorem dX0_tryBoxes_97 : decode cX0_tryBoxes 97 = .ok (.aload_n 0, 1) := by decide +kernel
theorem dX0_tryBoxes_98 : decode cX0_tryBoxes 98 = .ok (.getfield 9, 3) := by decide +kernel
theorem dX0_tryBoxes_101 : decode cX0_tryBoxes 101 = .ok (.iload 8, 2) := by decide +kernel
theorem dX0_tryBoxes_103 : decode cX0_tryBoxes 103 = .ok (.iastore, 1) := by decide +kernel
theorem dX0_tryBoxes_104 : decode cX0_tryBoxes 104 = .ok (.aload_n 0, 1) := by decide +kernel
theorem dX0_tryBoxes_105 : decode cX0_tryBoxes 105 = .ok (.getfield 25, 3) := by decide +kernel
theorem dX0_tryBoxes_108 : decode cX0_tryBoxes 108 = .ok (.aload_n 0, 1) := by decide +kernel
theorem dX0_tryBoxes_109 : decode cX0_tryBoxes 109 = .ok (.getfield 9, 3) := by decide +kernel
theorem dX0_tryBoxes_112 : decode cX0_tryBoxes 112 = .ok (.lload 9, 2) := by decide +kernel
theorem dX0_tryBoxes_114 : decode cX0_tryBoxes 114 = .ok (.lastore, 1) := by decide +kernel
theorem dX0_tryBoxes_115 : decode cX0_tryBoxes 115 = .ok (.iinc 8 1, 3) := by decide +kernel
theorem dX0_tryBoxes_118 : decode cX0_tryBoxes 118 = .ok (.goto (-95), 3) := by decide +kernel
theorem dX0_tryBoxes_121 : decode cX0_tryBoxes 121 = .ok (.return_, 1) := by decide +kernel
theorem dX1_init_0 : decode cX1_init 0 = .ok (.aload_n 0, 1) := by decide +kernel
theorem dX1_init_1 : decode cX1_init 1 = .ok (.invokespecial 3, 3) := by decide +kernel
theorem dX1_init_4 : decode cX1_init 4 = .ok (.aload_n 0, 1) := by decide +kernel
theorem dX1_init_5 : decode cX1_init 5 = .ok (.iconst 4, 1) := by decide +kernel
theorem dX1_init_6 : decode cX1_init 6 = .ok (.putfield 9, 3) := by decide +kernel
theorem dX1_init_9 : decode cX1_init 9 = .ok (.aload_n 0, 1) := by decide +kernel
theorem dX1_init_10 : decode cX1_init 10 = .ok (.iconst 0, 1) := by decide +kernel
theorem dX1_init_11 : decode cX1_init 11 = .ok (.putfield 15, 3) := by decide +kernel
theorem dX1_init_14 : decode cX1_init 14 = .ok (.aload_n 0, 1) := by decide +kernel
theorem dX1_init_15 : decode cX1_init 15 = .ok (.iconst 0, 1) := by decide +kernel
theorem dX1_init_16 : decode cX1_init 16 = .ok (.putfield 18, 3) := by decide +kernel
theorem dX1_init_19 : decode cX1_init 19 = .ok (.aload_n 0, 1) := by decide +kernel
theorem dX1_init_20 : decode cX1_init 20 = .ok (.sipush 768, 3) := by decide +kernel
theorem dX1_init_23 : decode cX1_init 23 = .ok (.newarray .int, 2) := by decide +kernel
theorem dX1_init_25 : decode cX1_init 25 = .ok (.putfield 21, 3) := by decide +kernel
theorem dX1_init_28 : decode cX1_init 28 = .ok (.aload_n 0, 1) := by decide +kernel
theorem dX1_init_29 : decode cX1_init 29 = .ok (.bipush 16, 2) := by decide +kernel
theorem dX1_init_31 : decode cX1_init 31 = .ok (.newarray .int, 2) := by decide +kernel
theorem dX1_init_33 : decode cX1_init 33 = .ok (.putfield 25, 3) := by decide +kernel
theorem dX1_init_36 : decode cX1_init 36 = .ok (.aload_n 0, 1) := by decide +kernel
theorem dX1_init_37 : decode cX1_init 37 = .ok (.bipush 16, 2) := by decide +kernel
theorem dX1_init_39 : decode cX1_init 39 = .ok (.newarray .boolean, 2) := by decide +kernel
theorem dX1_init_41 : decode cX1_init 41 = .ok (.putfield 28, 3) := by decide +kernel
theorem dX1_init_44 : decode cX1_init 44 = .ok (.return_, 1) := by decide +kernel
theorem dX1_beginAnew_0 : decode cX1_beginAnew 0 = .ok (.aload_n 0, 1) := by decide +kernel
theorem dX1_beginAnew_1 : decode cX1_beginAnew 1 = .ok (.iload_n 1, 1) := by decide +kernel
theorem dX1_beginAnew_2 : decode cX1_beginAnew 2 = .ok (.putfield 9, 3) := by decide +kernel
theorem dX1_beginAnew_5 : decode cX1_beginAnew 5 = .ok (.aload_n 0, 1) := by decide +kernel
theorem dX1_beginAnew_6 : decode cX1_beginAnew 6 = .ok (.iconst 0, 1) := by decide +kernel
theorem dX1_beginAnew_7 : decode cX1_beginAnew 7 = .ok (.putfield 15, 3) := by decide +kernel
theorem dX1_beginAnew_10 : decode cX1_beginAnew 10 = .ok (.aload_n 0, 1) := by decide +kernel
theorem dX1_beginAnew_11 : decode cX1_beginAnew 11 = .ok (.iconst 0, 1) := by decide +kernel
theorem dX1_beginAnew_12 : decode cX1_beginAnew 12 = .ok (.putfield 18, 3) := by decide +kernel
theorem dX1_beginAnew_15 : decode cX1_beginAnew 15 = .ok (.iconst 0, 1) := by decide +kernel
theorem dX1_beginAnew_16 : decode cX1_beginAnew 16 = .ok (.istore_n 2, 1) := by decide +kernel
theorem dX1_beginAnew_17 : decode cX1_beginAnew 17 = .ok (.iload_n 2, 1) := by decide +kernel
theorem dX1_beginAnew_18 : decode cX1_beginAnew 18 = .ok (.bipush 16, 2) := by decide +kernel
theorem dX1_beginAnew_20 : decode cX1_beginAnew 20 = .ok (.if_icmp .ge 23, 3) := by decide +kernel
theorem dX1_beginAnew_23 : decode cX1_beginAnew 23 = .ok (.aload_n 0, 1) := by decide +kernel
theorem dX1_beginAnew_24 : decode cX1_beginAnew 24 = .ok (.getfield 25, 3) := by decide +kernel
theorem dX1_beginAnew_27 : decode cX1_beginAnew 27 = .ok (.iload_n 2, 1) := by decide +kernel
theorem dX1_beginAnew_28 : decode cX1_beginAnew 28 = .ok (.iconst 0, 1) := by decide +kernel
theorem dX1_beginAnew_29 : decode cX1_beginAnew 29 = .ok (.iastore, 1) := by decide +kernel
theorem dX1_beginAnew_30 : decode cX1_beginAnew 30 = .ok (.aload_n 0, 1) := by decide +kernel
theorem dX1_beginAnew_31 : decode cX1_beginAnew 31 = .ok (.getfield 28, 3) := by decide +kernel
theorem dX1_beginAnew_34 : decode cX1_beginAnew 34 = .ok (.iload_n 2, 1) := by decide +kernel
theorem dX1_beginAnew_35 : decode cX1_beginAnew 35 = .ok (.iconst 0, 1) := by decide +kernel
theorem dX1_beginAnew_36 : decode cX1_beginAnew 36 = .ok (.bastore, 1) := by decide +kernel
theorem dX1_beginAnew_37 : decode cX1_beginAnew 37 = .ok (.iinc 2 1, 3) := by decide +kernel
theorem dX1_beginAnew_40 : decode cX1_beginAnew 40 = .ok (.goto (-23), 3) := by decide +kernel
theorem dX1_beginAnew_43 : decode cX1_beginAnew 43 = .ok (.return_, 1) := by decide +kernel
theorem dX1_powerAt_0 : decode cX1_powerAt 0 = .ok (.aload_n 0, 1) := by decide +kernel
theorem dX1_powerAt_1 : decode cX1_powerAt 1 = .ok (.getfield 21, 3) := by decide +kernel
theorem dX1_powerAt_4 : decode cX1_powerAt 4 = .ok (.iload_n 2, 1) := by decide +kernel
theorem dX1_powerAt_5 : decode cX1_powerAt 5 = .ok (.bipush 16, 2) := by decide +kernel
theorem dX1_powerAt_7 : decode cX1_powerAt 7 = .ok (.imul, 1) := by decide +kernel
theorem dX1_powerAt_8 : decode cX1_powerAt 8 = .ok (.iload_n 1, 1) := by decide +kernel
theorem dX1_powerAt_9 : decode cX1_powerAt 9 = .ok (.iadd, 1) := by decide +kernel
theorem dX1_powerAt_10 : decode cX1_powerAt 10 = .ok (.iaload, 1) := by decide +kernel
theorem dX1_powerAt_11 : decode cX1_powerAt 11 = .ok (.ireturn, 1) := by decide +kernel
theorem dX1_openColumn_0 : decode cX1_openColumn 0 = .ok (.aload_n 0, 1) := by decide +kernel
theorem dX1_openColumn_1 : decode cX1_openColumn 1 = .ok (.getfield 15, 3) := by decide +kernel
theorem dX1_openColumn_4 : decode cX1_openColumn 4 = .ok (.bipush 48, 2) := by decide +kernel
theorem dX1_openColumn_6 : decode cX1_openColumn 6 = .ok (.if_icmp .lt 33, 3) := by decide +kernel
theorem dX1_openColumn_9 : decode cX1_openColumn 9 = .ok (.aload_n 0, 1) := by decide +kernel
theorem dX1_openColumn_10 : decode cX1_openColumn 10 = .ok (.getfield 21, 3) := by decide +kernel
theorem dX1_openColumn_13 : decode cX1_openColumn 13 = .ok (.bipush 16, 2) := by decide +kernel
theorem dX1_openColumn_15 : decode cX1_openColumn 15 = .ok (.aload_n 0, 1) := by decide +kernel
theorem dX1_openColumn_16 : decode cX1_openColumn 16 = .ok (.getfield 21, 3) := by decide +kernel
theorem dX1_openColumn_19 : decode cX1_openColumn 19 = .ok (.iconst 0, 1) := by decide +kernel
theorem dX1_openColumn_20 : decode cX1_openColumn 20 = .ok (.sipush 752, 3) := by decide +kernel
theorem dX1_openColumn_23 : decode cX1_openColumn 23 = .ok (.invokestatic 32, 3) := by decide +kernel
theorem dX1_openColumn_26 : decode cX1_openColumn 26 = .ok (.aload_n 0, 1) := by decide +kernel
theorem dX1_openColumn_27 : decode cX1_openColumn 27 = .ok (.dup, 1) := by decide +kernel
theorem dX1_openColumn_28 : decode cX1_openColumn 28 = .ok (.getfield 18, 3) := by decide +kernel
theorem dX1_openColumn_31 : decode cX1_openColumn 31 = .ok (.iconst 1, 1) := by decide +kernel
theorem dX1_openColumn_32 : decode cX1_openColumn 32 = .ok (.iadd, 1) := by decide +kernel
theorem dX1_openColumn_33 : decode cX1_openColumn 33 = .ok (.putfield 18, 3) := by decide +kernel
theorem dX1_openColumn_36 : decode cX1_openColumn 36 = .ok (.goto 13, 3) := by decide +kernel
theorem dX1_openColumn_39 : decode cX1_openColumn 39 = .ok (.aload_n 0, 1) := by decide +kernel
theorem dX1_openColumn_40 : decode cX1_openColumn 40 = .ok (.dup, 1) := by decide +kernel
theorem dX1_openColumn_41 : decode cX1_openColumn 41 = .ok (.getfield 15, 3) := by decide +kernel
theorem dX1_openColumn_44 : decode cX1_openColumn 44 = .ok (.iconst 1, 1) := by decide +kernel
theorem dX1_openColumn_45 : decode cX1_openColumn 45 = .ok (.iadd, 1) := by decide +kernel
theorem dX1_openColumn_46 : decode cX1_openColumn 46 = .ok (.putfield 15, 3) := by decide +kernel
theorem dX1_openColumn_49 : decode cX1_openColumn 49 = .ok (.aload_n 0, 1) := by decide +kernel
theorem dX1_openColumn_50 : decode cX1_openColumn 50 = .ok (.getfield 15, 3) := by decide +kernel
theorem dX1_openColumn_53 : decode cX1_openColumn 53 = .ok (.iconst 1, 1) := by decide +kernel
theorem dX1_openColumn_54 : decode cX1_openColumn 54 = .ok (.isub, 1) := by decide +kernel
theorem dX1_openColumn_55 : decode cX1_openColumn 55 = .ok (.bipush 16, 2) := by decide +kernel
theorem dX1_openColumn_57 : decode cX1_openColumn 57 = .ok (.imul, 1) := by decide +kernel
theorem dX1_openColumn_58 : decode cX1_openColumn 58 = .ok (.ireturn, 1) := by decide +kernel
theorem dX1_takePending_0 : decode cX1_takePending 0 = .ok (.aload_n 0, 1) := by decide +kernel
theorem dX1_takePending_1 : decode cX1_takePending 1 = .ok (.invokevirtual 38, 3) := by decide +kernel
theorem dX1_takePending_4 : decode cX1_takePending 4 = .ok (.istore_n 1, 1) := by decide +kernel
theorem dX1_takePending_5 : decode cX1_takePending 5 = .ok (.iconst 0, 1) := by decide +kernel
theorem dX1_takePending_6 : decode cX1_takePending 6 = .ok (.istore_n 2, 1) := by decide +kernel
theorem dX1_takePending_7 : decode cX1_takePending 7 = .ok (.iload_n 2, 1) := by decide +kernel
theorem dX1_takePending_8 : decode cX1_takePending 8 = .ok (.aload_n 0, 1) := by decide +kernel
theorem dX1_takePending_9 : decode cX1_takePending 9 = .ok (.getfield 9, 3) := by decide +kernel
theorem dX1_takePending_12 : decode cX1_takePending 12 = .ok (.if_icmp .ge 30, 3) := by decide +kernel
theorem dX1_takePending_15 : decode cX1_takePending 15 = .ok (.aload_n 0, 1) := by decide +kernel
theorem dX1_takePending_16 : decode cX1_takePending 16 = .ok (.getfield 21, 3) := by decide +kernel
theorem dX1_takePending_19 : decode cX1_takePending 19 = .ok (.iload_n 1, 1) := by decide +kernel
theorem dX1_takePending_20 : decode cX1_takePending 20 = .ok (.iload_n 2, 1) := by decide +kernel
theorem dX1_takePending_21 : decode cX1_takePending 21 = .ok (.iadd, 1) := by decide +kernel
theorem dX1_takePending_22 : decode cX1_takePending 22 = .ok (.aload_n 0, 1) := by decide +kernel
theorem dX1_takePending_23 : decode cX1_takePending 23 = .ok (.getfield 25, 3) := by decide +kernel
theorem dX1_takePending_26 : decode cX1_takePending 26 = .ok (.iload_n 2, 1) := by decide +kernel
theorem dX1_takePending_27 : decode cX1_takePending 27 = .ok (.iaload, 1) := by decide +kernel
theorem dX1_takePending_28 : decode cX1_takePending 28 = .ok (.iastore, 1) := by decide +kernel
theorem dX1_takePending_29 : decode cX1_takePending 29 = .ok (.aload_n 0, 1) := by decide +kernel
theorem dX1_takePending_30 : decode cX1_takePending 30 = .ok (.getfield 25, 3) := by decide +kernel
theorem dX1_takePending_33 : decode cX1_takePending 33 = .ok (.iload_n 2, 1) := by decide +kernel
theorem dX1_takePending_34 : decode cX1_takePending 34 = .ok (.iconst 0, 1) := by decide +kernel
theorem dX1_takePending_35 : decode cX1_takePending 35 = .ok (.iastore, 1) := by decide +kernel
theorem dX1_takePending_36 : decode cX1_takePending 36 = .ok (.iinc 2 1, 3) := by decide +kernel
theorem dX1_takePending_39 : decode cX1_takePending 39 = .ok (.goto (-32), 3) := by decide +kernel
theorem dX1_takePending_42 : decode cX1_takePending 42 = .ok (.return_, 1) := by decide +kernel
theorem dX1_takeColumn_0 : decode cX1_takeColumn 0 = .ok (.aload_n 0, 1) := by decide +kernel
theorem dX1_takeColumn_1 : decode cX1_takeColumn 1 = .ok (.invokevirtual 38, 3) := by decide +kernel
theorem dX1_takeColumn_4 : decode cX1_takeColumn 4 = .ok (.istore_n 3, 1) := by decide +kernel
theorem dX1_takeColumn_5 : decode cX1_takeColumn 5 = .ok (.iconst 0, 1) := by decide +kernel
theorem dX1_takeColumn_6 : decode cX1_takeColumn 6 = .ok (.istore 4, 2) := by decide +kernel
theorem dX1_takeColumn_8 : decode cX1_takeColumn 8 = .ok (.iload 4, 2) := by decide +kernel
theorem dX1_takeColumn_10 : decode cX1_takeColumn 10 = .ok (.aload_n 0, 1) := by decide +kernel
theorem dX1_takeColumn_11 : decode cX1_takeColumn 11 = .ok (.getfield 9, 3) := by decide +kernel
theorem dX1_takeColumn_14 : decode cX1_takeColumn 14 = .ok (.if_icmp .ge 30, 3) := by decide +kernel
theorem dX1_takeColumn_17 : decode cX1_takeColumn 17 = .ok (.aload_n 0, 1) := by decide +kernel
theorem dX1_takeColumn_18 : decode cX1_takeColumn 18 = .ok (.getfield 21, 3) := by decide +kernel
theorem dX1_takeColumn_21 : decode cX1_takeColumn 21 = .ok (.iload_n 3, 1) := by decide +kernel
theorem dX1_takeColumn_22 : decode cX1_takeColumn 22 = .ok (.iload 4, 2) := by decide +kernel
theorem dX1_takeColumn_24 : decode cX1_takeColumn 24 = .ok (.iadd, 1) := by decide +kernel
theorem dX1_takeColumn_25 : decode cX1_takeColumn 25 = .ok (.aload_n 1, 1) := by decide +kernel
theorem dX1_takeColumn_26 : decode cX1_takeColumn 26 = .ok (.getfield 42, 3) := by decide +kernel
theorem dX1_takeColumn_29 : decode cX1_takeColumn 29 = .ok (.iload_n 2, 1) := by decide +kernel
theorem dX1_takeColumn_30 : decode cX1_takeColumn 30 = .ok (.iload 4, 2) := by decide +kernel
theorem dX1_takeColumn_32 : decode cX1_takeColumn 32 = .ok (.iadd, 1) := by decide +kernel
theorem dX1_takeColumn_33 : decode cX1_takeColumn 33 = .ok (.iaload, 1) := by decide +kernel
theorem dX1_takeColumn_34 : decode cX1_takeColumn 34 = .ok (.invokestatic 47, 3) := by decide +kernel
theorem dX1_takeColumn_37 : decode cX1_takeColumn 37 = .ok (.iastore, 1) := by decide +kernel
theorem dX1_takeColumn_38 : decode cX1_takeColumn 38 = .ok (.iinc 4 1, 3) := by decide +kernel
theorem dX1_takeColumn_41 : decode cX1_takeColumn 41 = .ok (.goto (-33), 3) := by decide +kernel
theorem dX1_takeColumn_44 : decode cX1_takeColumn 44 = .ok (.return_, 1) := by decide +kernel
theorem dX1_raise_0 : decode cX1_raise 0 = .ok (.iload_n 2, 1) := by decide +kernel
theorem dX1_raise_1 : decode cX1_raise 1 = .ok (.bipush 16, 2) := by decide +kernel
theorem dX1_raise_3 : decode cX1_raise 3 = .ok (.imul, 1) := by decide +kernel
theorem dX1_raise_4 : decode cX1_raise 4 = .ok (.iload_n 1, 1) := by decide +kernel
theorem dX1_raise_5 : decode cX1_raise 5 = .ok (.iadd, 1) := by decide +kernel
theorem dX1_raise_6 : decode cX1_raise 6 = .ok (.istore 4, 2) := by decide +kernel
theorem dX1_raise_8 : decode cX1_raise 8 = .ok (.iload_n 3, 1) := by decide +kernel
theorem dX1_raise_9 : decode cX1_raise 9 = .ok (.sipush 9999, 3) := by decide +kernel
theorem dX1_raise_12 : decode cX1_raise 12 = .ok (.aload_n 0, 1) := by decide +kernel
theorem dX1_raise_13 : decode cX1_raise 13 = .ok (.getfield 21, 3) := by decide +kernel
theorem dX1_raise_16 : decode cX1_raise 16 = .ok (.iload 4, 2) := by decide +kernel
theorem dX1_raise_18 : decode cX1_raise 18 = .ok (.iaload, 1) := by decide +kernel
theorem dX1_raise_19 : decode cX1_raise 19 = .ok (.isub, 1) := by decide +kernel
theorem dX1_raise_20 : decode cX1_raise 20 = .ok (.invokestatic 51, 3) := by decide +kernel
theorem dX1_raise_23 : decode cX1_raise 23 = .ok (.istore 5, 2) := by decide +kernel
theorem dX1_raise_25 : decode cX1_raise 25 = .ok (.aload_n 0, 1) := by decide +kernel
theorem dX1_raise_26 : decode cX1_raise 26 = .ok (.getfield 21, 3) := by decide +kernel
theorem dX1_raise_29 : decode cX1_raise 29 = .ok (.iload 4, 2) := by decide +kernel
theorem dX1_raise_31 : decode cX1_raise 31 = .ok (.dup2, 1) := by decide +kernel
theorem dX1_raise_32 : decode cX1_raise 32 = .ok (.iaload, 1) := by decide +kernel
theorem dX1_raise_33 : decode cX1_raise 33 = .ok (.iload 5, 2) := by decide +kernel
theorem dX1_raise_35 : decode cX1_raise 35 = .ok (.iadd, 1) := by decide +kernel
theorem dX1_raise_36 : decode cX1_raise 36 = .ok (.iastore, 1) := by decide +kernel
theorem dX1_raise_37 : decode cX1_raise 37 = .ok (.iload 5, 2) := by decide +kernel
theorem dX1_raise_39 : decode cX1_raise 39 = .ok (.ireturn, 1) := by decide +kernel
theorem dX1_countMasked_0 : decode cX1_countMasked 0 = .ok (.iconst 0, 1) := by decide +kernel
theorem dX1_countMasked_1 : decode cX1_countMasked 1 = .ok (.istore_n 1, 1) := by decide +kernel
theorem dX1_countMasked_2 : decode cX1_countMasked 2 = .ok (.iconst 0, 1) := by decide +kernel
theorem dX1_countMasked_3 : decode cX1_countMasked 3 = .ok (.istore_n 2, 1) := by decide +kernel
theorem dX1_countMasked_4 : decode cX1_countMasked 4 = .ok (.iload_n 2, 1) := by decide +kernel
theorem dX1_countMasked_5 : decode cX1_countMasked 5 = .ok (.aload_n 0, 1) := by decide +kernel
theorem dX1_countMasked_6 : decode cX1_countMasked 6 = .ok (.getfield 9, 3) := by decide +kernel
theorem dX1_countMasked_9 : decode cX1_countMasked 9 = .ok (.if_icmp .ge 21, 3) := by decide +kernel
theorem dX1_countMasked_12 : decode cX1_countMasked 12 = .ok (.aload_n 0, 1) := by decide +kernel
theorem dX1_countMasked_13 : decode cX1_countMasked 13 = .ok (.getfield 28, 3) := by decide +kernel
theorem dX1_countMasked_16 : decode cX1_countMasked 16 = .ok (.iload_n 2, 1) := by decide +kernel
theorem dX1_countMasked_17 : decode cX1_countMasked 17 = .ok (.baload, 1) := by decide +kernel
theorem dX1_countMasked_18 : decode cX1_countMasked 18 = .ok (.ifCond .eq 6, 3) := by decide +kernel
theorem dX1_countMasked_21 : decode cX1_countMasked 21 = .ok (.iinc 1 1, 3) := by decide +kernel
theorem dX1_countMasked_24 : decode cX1_countMasked 24 = .ok (.iinc 2 1, 3) := by decide +kernel
theorem dX1_countMasked_27 : decode cX1_countMasked 27 = .ok (.goto (-23), 3) := by decide +kernel
theorem dX1_countMasked_30 : decode cX1_countMasked 30 = .ok (.iload_n 1, 1) := by decide +kernel
theorem dX1_countMasked_31 : decode cX1_countMasked 31 = .ok (.ireturn, 1) := by decide +kernel
theorem dX1_sumOfChannel_0 : decode cX1_sumOfChannel 0 = .ok (.iconst 0, 1) := by decide +kernel
theorem dX1_sumOfChannel_1 : decode cX1_sumOfChannel 1 = .ok (.istore_n 2, 1) := by decide +kernel
theorem dX1_sumOfChannel_2 : decode cX1_sumOfChannel 2 = .ok (.iconst 0, 1) := by decide +kernel
theorem dX1_sumOfChannel_3 : decode cX1_sumOfChannel 3 = .ok (.istore_n 3, 1) := by decide +kernel
theorem dX1_sumOfChannel_4 : decode cX1_sumOfChannel 4 = .ok (.iload_n 3, 1) := by decide +kernel
theorem dX1_sumOfChannel_5 : decode cX1_sumOfChannel 5 = .ok (.aload_n 0, 1) := by decide +kernel
theorem dX1_sumOfChannel_6 : decode cX1_sumOfChannel 6 = .ok (.getfield 15, 3) := by decide +kernel
theorem dX1_sumOfChannel_9 : decode cX1_sumOfChannel 9 = .ok (.if_icmp .ge 18, 3) := by decide +kernel
theorem dX1_sumOfChannel_12 : decode cX1_sumOfChannel 12 = .ok (.iload_n 2, 1) := by decide +kernel
theorem dX1_sumOfChannel_13 : decode cX1_sumOfChannel 13 = .ok (.aload_n 0, 1) := by decide +kernel
theorem dX1_sumOfChannel_14 : decode cX1_sumOfChannel 14 = .ok (.iload_n 1, 1) := by decide +kernel
theorem dX1_sumOfChannel_15 : decode cX1_sumOfChannel 15 = .ok (.iload_n 3, 1) := by decide +kernel
theorem dX1_sumOfChannel_16 : decode cX1_sumOfChannel 16 = .ok (.invokevirtual 57, 3) := by decide +kernel
theorem dX1_sumOfChannel_19 : decode cX1_sumOfChannel 19 = .ok (.iadd, 1) := by decide +kernel
theorem dX1_sumOfChannel_20 : decode cX1_sumOfChannel 20 = .ok (.istore_n 2, 1) := by decide +kernel
theorem dX1_sumOfChannel_21 : decode cX1_sumOfChannel 21 = .ok (.iinc 3 1, 3) := by decide +kernel
theorem dX1_sumOfChannel_24 : decode cX1_sumOfChannel 24 = .ok (.goto (-20), 3) := by decide +kernel
theorem dX1_sumOfChannel_27 : decode cX1_sumOfChannel 27 = .ok (.iload_n 2, 1) := by decide +kernel
theorem dX1_sumOfChannel_28 : decode cX1_sumOfChannel 28 = .ok (.ireturn, 1) := by decide +kernel
theorem dX1_loudestUnmasked_0 : decode cX1_loudestUnmasked 0 = .ok (.iconst (-1), 1) := by decide +kernel
theorem dX1_loudestUnmasked_1 : decode cX1_loudestUnmasked 1 = .ok (.istore_n 1, 1) := by decide +kernel
theorem dX1_loudestUnmasked_2 : decode cX1_loudestUnmasked 2 = .ok (.iconst (-1), 1) := by decide +kernel
theorem dX1_loudestUnmasked_3 : decode cX1_loudestUnmasked 3 = .ok (.istore_n 2, 1) := by decide +kernel
theorem dX1_loudestUnmasked_4 : decode cX1_loudestUnmasked 4 = .ok (.iconst 0, 1) := by decide +kernel
theorem dX1_loudestUnmasked_5 : decode cX1_loudestUnmasked 5 = .ok (.istore_n 3, 1) := by decide +kernel
theorem dX1_loudestUnmasked_6 : decode cX1_loudestUnmasked 6 = .ok (.iload_n 3, 1) := by decide +kernel
theorem dX1_loudestUnmasked_7 : decode cX1_loudestUnmasked 7 = .ok (.aload_n 0, 1) := by decide +kernel
theorem dX1_loudestUnmasked_8 : decode cX1_loudestUnmasked 8 = .ok (.getfield 9, 3) := by decide +kernel
theorem dX1_loudestUnmasked_11 : decode cX1_loudestUnmasked 11 = .ok (.if_icmp .ge 36, 3) := by decide +kernel
theorem dX1_loudestUnmasked_14 : decode cX1_loudestUnmasked 14 = .ok (.aload_n 0, 1) := by decide +kernel
theorem dX1_loudestUnmasked_15 : decode cX1_loudestUnmasked 15 = .ok (.getfield 28, 3) := by decide +kernel
theorem dX1_loudestUnmasked_18 : decode cX1_loudestUnmasked 18 = .ok (.iload_n 3, 1) := by decide +kernel
theorem dX1_loudestUnmasked_19 : decode cX1_loudestUnmasked 19 = .ok (.baload, 1) := by decide +kernel
theorem dX1_loudestUnmasked_20 : decode cX1_loudestUnmasked 20 = .ok (.ifCond .ne 21, 3) := by decide +kernel
theorem dX1_loudestUnmasked_23 : decode cX1_loudestUnmasked 23 = .ok (.aload_n 0, 1) := by decide +kernel
theorem dX1_loudestUnmasked_24 : decode cX1_loudestUnmasked 24 = .ok (.iload_n 3, 1) := by decide +kernel
theorem dX1_loudestUnmasked_25 : decode cX1_loudestUnmasked 25 = .ok (.invokevirtual 60, 3) := by decide +kernel
theorem dX1_loudestUnmasked_28 : decode cX1_loudestUnmasked 28 = .ok (.istore 4, 2) := by decide +kernel
theorem dX1_loudestUnmasked_30 : decode cX1_loudestUnmasked 30 = .ok (.iload 4, 2) := by decide +kernel
theorem dX1_loudestUnmasked_32 : decode cX1_loudestUnmasked 32 = .ok (.iload_n 2, 1) := by decide +kernel
theorem dX1_loudestUnmasked_33 : decode cX1_loudestUnmasked 33 = .ok (.if_icmp .le 8, 3) := by decide +kernel
theorem dX1_loudestUnmasked_36 : decode cX1_loudestUnmasked 36 = .ok (.iload 4, 2) := by decide +kernel
theorem dX1_loudestUnmasked_38 : decode cX1_loudestUnmasked 38 = .ok (.istore_n 2, 1) := by decide +kernel
theorem dX1_loudestUnmasked_39 : decode cX1_loudestUnmasked 39 = .ok (.iload_n 3, 1) := by decide +kernel
theorem dX1_loudestUnmasked_40 : decode cX1_loudestUnmasked 40 = .ok (.istore_n 1, 1) := by decide +kernel
theorem dX1_loudestUnmasked_41 : decode cX1_loudestUnmasked 41 = .ok (.iinc 3 1, 3) := by decide +kernel
theorem dX1_loudestUnmasked_44 : decode cX1_loudestUnmasked 44 = .ok (.goto (-38), 3) := by decide +kernel
theorem dX1_loudestUnmasked_47 : decode cX1_loudestUnmasked 47 = .ok (.iload_n 1, 1) := by decide +kernel
theorem dX1_loudestUnmasked_48 : decode cX1_loudestUnmasked 48 = .ok (.ireturn, 1) := by decide +kernel
theorem dX2_init_0 : decode cX2_init 0 = .ok (.aload_n 0, 1) := by decide +kernel
theorem dX2_init_1 : decode cX2_init 1 = .ok (.invokespecial 3, 3) := by decide +kernel
theorem dX2_init_4 : decode cX2_init 4 = .ok (.aload_n 0, 1) := by decide +kernel
theorem dX2_init_5 : decode cX2_init 5 = .ok (.iconst 0, 1) := by decide +kernel
theorem dX2_init_6 : decode cX2_init 6 = .ok (.putfield 9, 3) := by decide +kernel
theorem dX2_init_9 : decode cX2_init 9 = .ok (.aload_n 0, 1) := by decide +kernel
theorem dX2_init_10 : decode cX2_init 10 = .ok (.iconst 0, 1) := by decide +kernel
theorem dX2_init_11 : decode cX2_init 11 = .ok (.putfield 15, 3) := by decide +kernel
theorem dX2_init_14 : decode cX2_init 14 = .ok (.aload_n 0, 1) := by decide +kernel
theorem dX2_init_15 : decode cX2_init 15 = .ok (.iconst 0, 1) := by decide +kernel
theorem dX2_init_16 : decode cX2_init 16 = .ok (.putfield 19, 3) := by decide +kernel
theorem dX2_init_19 : decode cX2_init 19 = .ok (.aload_n 0, 1) := by decide +kernel
theorem dX2_init_20 : decode cX2_init 20 = .ok (.sipush 768, 3) := by decide +kernel
theorem dX2_init_23 : decode cX2_init 23 = .ok (.newarray .int, 2) := by decide +kernel
theorem dX2_init_25 : decode cX2_init 25 = .ok (.putfield 22, 3) := by decide +kernel
theorem dX2_init_28 : decode cX2_init 28 = .ok (.aload_n 0, 1) := by decide +kernel
theorem dX2_init_29 : decode cX2_init 29 = .ok (.sipush 768, 3) := by decide +kernel
theorem dX2_init_32 : decode cX2_init 32 = .ok (.newarray .int, 2) := by decide +kernel
theorem dX2_init_34 : decode cX2_init 34 = .ok (.putfield 26, 3) := by decide +kernel
theorem dX2_init_37 : decode cX2_init 37 = .ok (.aload_n 0, 1) := by decide +kernel
theorem dX2_init_38 : decode cX2_init 38 = .ok (.bipush 16, 2) := by decide +kernel
theorem dX2_init_40 : decode cX2_init 40 = .ok (.newarray .long, 2) := by decide +kernel
theorem dX2_init_42 : decode cX2_init 42 = .ok (.putfield 29, 3) := by decide +kernel
theorem dX2_init_45 : decode cX2_init 45 = .ok (.aload_n 0, 1) := by decide +kernel
theorem dX2_init_46 : decode cX2_init 46 = .ok (.bipush 16, 2) := by decide +kernel
theorem dX2_init_48 : decode cX2_init 48 = .ok (.newarray .long, 2) := by decide +kernel
theorem dX2_init_50 : decode cX2_init 50 = .ok (.putfield 33, 3) := by decide +kernel
theorem dX2_init_53 : decode cX2_init 53 = .ok (.return_, 1) := by decide +kernel
theorem dX2_sumAt_0 : decode cX2_sumAt 0 = .ok (.aload_n 0, 1) := by decide +kernel
theorem dX2_sumAt_1 : decode cX2_sumAt 1 = .ok (.getfield 22, 3) := by decide +kernel
theorem dX2_sumAt_4 : decode cX2_sumAt 4 = .ok (.iload_n 1, 1) := by decide +kernel
theorem dX2_sumAt_5 : decode cX2_sumAt 5 = .ok (.bipush 48, 2) := by decide +kernel
theorem dX2_sumAt_7 : decode cX2_sumAt 7 = .ok (.imul, 1) := by decide +kernel
theorem dX2_sumAt_8 : decode cX2_sumAt 8 = .ok (.iload_n 2, 1) := by decide +kernel
theorem dX2_sumAt_9 : decode cX2_sumAt 9 = .ok (.iadd, 1) := by decide +kernel
theorem dX2_sumAt_10 : decode cX2_sumAt 10 = .ok (.iaload, 1) := by decide +kernel
theorem dX2_sumAt_11 : decode cX2_sumAt 11 = .ok (.ireturn, 1) := by decide +kernel
theorem dX2_linesOf_0 : decode cX2_linesOf 0 = .ok (.iconst 0, 1) := by decide +kernel
theorem dX2_linesOf_1 : decode cX2_linesOf 1 = .ok (.aload_n 0, 1) := by decide +kernel
theorem dX2_linesOf_2 : decode cX2_linesOf 2 = .ok (.getfield 19, 3) := by decide +kernel
theorem dX2_linesOf_5 : decode cX2_linesOf 5 = .ok (.iload_n 1, 1) := by decide +kernel
theorem dX2_linesOf_6 : decode cX2_linesOf 6 = .ok (.isub, 1) := by decide +kernel
theorem dX2_linesOf_7 : decode cX2_linesOf 7 = .ok (.invokestatic 36, 3) := by decide +kernel
theorem dX2_linesOf_10 : decode cX2_linesOf 10 = .ok (.ireturn, 1) := by decide +kernel
theorem dX2_refresh_0 : decode cX2_refresh 0 = .ok (.aload_n 0, 1) := by decide +kernel
theorem dX2_refresh_1 : decode cX2_refresh 1 = .ok (.getfield 9, 3) := by decide +kernel
theorem dX2_refresh_4 : decode cX2_refresh 4 = .ok (.ifCond .eq 4, 3) := by decide +kernel
theorem dX2_refresh_7 : decode cX2_refresh 7 = .ok (.return_, 1) := by decide +kernel
theorem dX2_refresh_8 : decode cX2_refresh 8 = .ok (.aload_n 0, 1) := by decide +kernel
theorem dX2_refresh_9 : decode cX2_refresh 9 = .ok (.aload_n 1, 1) := by decide +kernel
theorem dX2_refresh_10 : decode cX2_refresh 10 = .ok (.getfield 42, 3) := by decide +kernel
theorem dX2_refresh_13 : decode cX2_refresh 13 = .ok (.putfield 15, 3) := by decide +kernel
theorem dX2_refresh_16 : decode cX2_refresh 16 = .ok (.aload_n 0, 1) := by decide +kernel
theorem dX2_refresh_17 : decode cX2_refresh 17 = .ok (.aload_n 1, 1) := by decide +kernel
theorem dX2_refresh_18 : decode cX2_refresh 18 = .ok (.getfield 47, 3) := by decide +kernel
theorem dX2_refresh_21 : decode cX2_refresh 21 = .ok (.putfield 19, 3) := by decide +kernel
theorem dX2_refresh_24 : decode cX2_refresh 24 = .ok (.aload_n 0, 1) := by decide +kernel
theorem dX2_refresh_25 : decode cX2_refresh 25 = .ok (.aload_n 1, 1) := by decide +kernel
theorem dX2_refresh_26 : decode cX2_refresh 26 = .ok (.invokevirtual 48, 3) := by decide +kernel
theorem dX2_refresh_29 : decode cX2_refresh 29 = .ok (.iconst 1, 1) := by decide +kernel
theorem dX2_refresh_30 : decode cX2_refresh 30 = .ok (.istore_n 2, 1) := by decide +kernel
theorem dX2_refresh_31 : decode cX2_refresh 31 = .ok (.iload_n 2, 1) := by decide +kernel
theorem dX2_refresh_32 : decode cX2_refresh 32 = .ok (.aload_n 0, 1) := by decide +kernel
theorem dX2_refresh_33 : decode cX2_refresh 33 = .ok (.getfield 15, 3) := by decide +kernel
theorem dX2_refresh_36 : decode cX2_refresh 36 = .ok (.if_icmp .ge 15, 3) := by decide +kernel
theorem dX2_refresh_39 : decode cX2_refresh 39 = .ok (.aload_n 0, 1) := by decide +kernel
theorem dX2_refresh_40 : decode cX2_refresh 40 = .ok (.iload_n 2, 1) := by decide +kernel
theorem dX2_refresh_41 : decode cX2_refresh 41 = .ok (.invokevirtual 52, 3) := by decide +kernel
theorem dX2_refresh_44 : decode cX2_refresh 44 = .ok (.iload_n 2, 1) := by decide +kernel
theorem dX2_refresh_45 : decode cX2_refresh 45 = .ok (.iconst 2, 1) := by decide +kernel
theorem dX2_refresh_46 : decode cX2_refresh 46 = .ok (.imul, 1) := by decide +kernel
theorem dX2_refresh_47 : decode cX2_refresh 47 = .ok (.istore_n 2, 1) := by decide +kernel
theorem dX2_refresh_48 : decode cX2_refresh 48 = .ok (.goto (-17), 3) := by decide +kernel
theorem dX2_refresh_51 : decode cX2_refresh 51 = .ok (.iconst 0, 1) := by decide +kernel
theorem dX2_refresh_52 : decode cX2_refresh 52 = .ok (.istore_n 2, 1) := by decide +kernel
theorem dX2_refresh_53 : decode cX2_refresh 53 = .ok (.iload_n 2, 1) := by decide +kernel
theorem dX2_refresh_54 : decode cX2_refresh 54 = .ok (.aload_n 0, 1) := by decide +kernel
theorem dX2_refresh_55 : decode cX2_refresh 55 = .ok (.getfield 15, 3) := by decide +kernel
theorem dX2_refresh_58 : decode cX2_refresh 58 = .ok (.if_icmp .ge 14, 3) := by decide +kernel
theorem dX2_refresh_61 : decode cX2_refresh 61 = .ok (.aload_n 0, 1) := by decide +kernel
theorem dX2_refresh_62 : decode cX2_refresh 62 = .ok (.iload_n 2, 1) := by decide +kernel
theorem dX2_refresh_63 : decode cX2_refresh 63 = .ok (.invokevirtual 56, 3) := by decide +kernel
theorem dX2_refresh_66 : decode cX2_refresh 66 = .ok (.iinc 2 1, 3) := by decide +kernel
theorem dX2_refresh_69 : decode cX2_refresh 69 = .ok (.goto (-16), 3) := by decide +kernel
theorem dX2_refresh_72 : decode cX2_refresh 72 = .ok (.aload_n 0, 1) := by decide +kernel
theorem dX2_refresh_73 : decode cX2_refresh 73 = .ok (.iconst 1, 1) := by decide +kernel
theorem dX2_refresh_74 : decode cX2_refresh 74 = .ok (.putfield 9, 3) := by decide +kernel
theorem dX2_refresh_77 : decode cX2_refresh 77 = .ok (.return_, 1) := by decide +kernel
theorem dX2_copyPowers_0 : decode cX2_copyPowers 0 = .ok (.iconst 0, 1) := by decide +kernel
theorem dX2_copyPowers_1 : decode cX2_copyPowers 1 = .ok (.istore_n 2, 1) := by decide +kernel
theorem dX2_copyPowers_2 : decode cX2_copyPowers 2 = .ok (.iload_n 2, 1) := by decide +kernel
theorem dX2_copyPowers_3 : decode cX2_copyPowers 3 = .ok (.aload_n 0, 1) := by decide +kernel
theorem dX2_copyPowers_4 : decode cX2_copyPowers 4 = .ok (.getfield 15, 3) := by decide +kernel
theorem dX2_copyPowers_7 : decode cX2_copyPowers 7 = .ok (.if_icmp .ge 55, 3) := by decide +kernel
theorem dX2_copyPowers_10 : decode cX2_copyPowers 10 = .ok (.iconst 0, 1) := by decide +kernel
theorem dX2_copyPowers_11 : decode cX2_copyPowers 11 = .ok (.istore_n 3, 1) := by decide +kernel
theorem dX2_copyPowers_12 : decode cX2_copyPowers 12 = .ok (.iload_n 3, 1) := by decide +kernel
theorem dX2_copyPowers_13 : decode cX2_copyPowers 13 = .ok (.aload_n 0, 1) := by decide +kernel
theorem dX2_copyPowers_14 : decode cX2_copyPowers 14 = .ok (.getfield 19, 3) := by decide +kernel
theorem dX2_copyPowers_17 : decode cX2_copyPowers 17 = .ok (.if_icmp .ge 39, 3) := by decide +kernel
theorem dX2_copyPowers_20 : decode cX2_copyPowers 20 = .ok (.aload_n 0, 1) := by decide +kernel
theorem dX2_copyPowers_21 : decode cX2_copyPowers 21 = .ok (.getfield 22, 3) := by decide +kernel
theorem dX2_copyPowers_24 : decode cX2_copyPowers 24 = .ok (.iload_n 2, 1) := by decide +kernel
theorem dX2_copyPowers_25 : decode cX2_copyPowers 25 = .ok (.bipush 48, 2) := by decide +kernel
theorem dX2_copyPowers_27 : decode cX2_copyPowers 27 = .ok (.imul, 1) := by decide +kernel
theorem dX2_copyPowers_28 : decode cX2_copyPowers 28 = .ok (.iload_n 3, 1) := by decide +kernel
theorem dX2_copyPowers_29 : decode cX2_copyPowers 29 = .ok (.iadd, 1) := by decide +kernel
theorem dX2_copyPowers_30 : decode cX2_copyPowers 30 = .ok (.aload_n 1, 1) := by decide +kernel
theorem dX2_copyPowers_31 : decode cX2_copyPowers 31 = .ok (.getfield 59, 3) := by decide +kernel
theorem dX2_copyPowers_34 : decode cX2_copyPowers 34 = .ok (.iload_n 2, 1) := by decide +kernel
theorem dX2_copyPowers_35 : decode cX2_copyPowers 35 = .ok (.baload, 1) := by decide +kernel
theorem dX2_copyPowers_36 : decode cX2_copyPowers 36 = .ok (.ifCond .eq 7, 3) := by decide +kernel
theorem dX2_copyPowers_39 : decode cX2_copyPowers 39 = .ok (.iconst 0, 1) := by decide +kernel
theorem dX2_copyPowers_40 : decode cX2_copyPowers 40 = .ok (.goto 9, 3) := by decide +kernel
theorem dX2_copyPowers_43 : decode cX2_copyPowers 43 = .ok (.aload_n 1, 1) := by decide +kernel
theorem dX2_copyPowers_44 : decode cX2_copyPowers 44 = .ok (.iload_n 2, 1) := by decide +kernel
theorem dX2_copyPowers_45 : decode cX2_copyPowers 45 = .ok (.iload_n 3, 1) := by decide +kernel
theorem dX2_copyPowers_46 : decode cX2_copyPowers 46 = .ok (.invokevirtual 63, 3) := by decide +kernel
theorem dX2_copyPowers_49 : decode cX2_copyPowers 49 = .ok (.iastore, 1) := by decide +kernel
theorem dX2_copyPowers_50 : decode cX2_copyPowers 50 = .ok (.iinc 3 1, 3) := by decide +kernel
theorem dX2_copyPowers_53 : decode cX2_copyPowers 53 = .ok (.goto (-41), 3) := by decide +kernel
theorem dX2_copyPowers_56 : decode cX2_copyPowers 56 = .ok (.iinc 2 1, 3) := by decide +kernel
theorem dX2_copyPowers_59 : decode cX2_copyPowers 59 = .ok (.goto (-57), 3) := by decide +kernel
theorem dX2_copyPowers_62 : decode cX2_copyPowers 62 = .ok (.return_, 1) := by decide +kernel
theorem dX2_joinBlocks_0 : decode cX2_joinBlocks 0 = .ok (.iconst 0, 1) := by decide +kernel
theorem dX2_joinBlocks_1 : decode cX2_joinBlocks 1 = .ok (.istore_n 2, 1) := by decide +kernel
theorem dX2_joinBlocks_2 : decode cX2_joinBlocks 2 = .ok (.iload_n 2, 1) := by decide +kernel
theorem dX2_joinBlocks_3 : decode cX2_joinBlocks 3 = .ok (.aload_n 0, 1) := by decide +kernel
theorem dX2_joinBlocks_4 : decode cX2_joinBlocks 4 = .ok (.getfield 15, 3) := by decide +kernel
theorem dX2_joinBlocks_7 : decode cX2_joinBlocks 7 = .ok (.if_icmp .ge 34, 3) := by decide +kernel
theorem dX2_joinBlocks_10 : decode cX2_joinBlocks 10 = .ok (.iconst 0, 1) := by decide +kernel
theorem dX2_joinBlocks_11 : decode cX2_joinBlocks 11 = .ok (.istore_n 3, 1) := by decide +kernel
theorem dX2_joinBlocks_12 : decode cX2_joinBlocks 12 = .ok (.iload_n 3, 1) := by decide +kernel
theorem dX2_joinBlocks_13 : decode cX2_joinBlocks 13 = .ok (.iconst 2, 1) := by decide +kernel
theorem dX2_joinBlocks_14 : decode cX2_joinBlocks 14 = .ok (.iload_n 1, 1) := by decide +kernel
theorem dX2_joinBlocks_15 : decode cX2_joinBlocks 15 = .ok (.imul, 1) := by decide +kernel
theorem dX2_joinBlocks_16 : decode cX2_joinBlocks 16 = .ok (.if_icmp .ge 16, 3) := by decide +kernel
theorem dX2_joinBlocks_19 : decode cX2_joinBlocks 19 = .ok (.aload_n 0, 1) := by decide +kernel
theorem dX2_joinBlocks_20 : decode cX2_joinBlocks 20 = .ok (.iload_n 2, 1) := by decide +kernel
theorem dX2_joinBlocks_21 : decode cX2_joinBlocks 21 = .ok (.iload_n 1, 1) := by decide +kernel
theorem dX2_joinBlocks_22 : decode cX2_joinBlocks 22 = .ok (.iload_n 3, 1) := by decide +kernel
theorem dX2_joinBlocks_23 : decode cX2_joinBlocks 23 = .ok (.invokevirtual 66, 3) := by decide +kernel
theorem dX2_joinBlocks_26 : decode cX2_joinBlocks 26 = .ok (.iinc 3 1, 3) := by decide +kernel
theorem dX2_joinBlocks_29 : decode cX2_joinBlocks 29 = .ok (.goto (-17), 3) := by decide +kernel
theorem dX2_joinBlocks_32 : decode cX2_joinBlocks 32 = .ok (.iload_n 2, 1) := by decide +kernel
theorem dX2_joinBlocks_33 : decode cX2_joinBlocks 33 = .ok (.iconst 2, 1) := by decide +kernel
theorem dX2_joinBlocks_34 : decode cX2_joinBlocks 34 = .ok (.iload_n 1, 1) := by decide +kernel
theorem dX2_joinBlocks_35 : decode cX2_joinBlocks 35 = .ok (.imul, 1) := by decide +kernel
theorem dX2_joinBlocks_36 : decode cX2_joinBlocks 36 = .ok (.iadd, 1) := by decide +kernel
theorem dX2_joinBlocks_37 : decode cX2_joinBlocks 37 = .ok (.istore_n 2, 1) := by decide +kernel
theorem dX2_joinBlocks_38 : decode cX2_joinBlocks 38 = .ok (.goto (-36), 3) := by decide +kernel
theorem dX2_joinBlocks_41 : decode cX2_joinBlocks 41 = .ok (.aload_n 0, 1) := by decide +kernel
theorem dX2_joinBlocks_42 : decode cX2_joinBlocks 42 = .ok (.getfield 26, 3) := by decide +kernel
theorem dX2_joinBlocks_45 : decode cX2_joinBlocks 45 = .ok (.astore_n 2, 1) := by decide +kernel
theorem dX2_joinBlocks_46 : decode cX2_joinBlocks 46 = .ok (.aload_n 0, 1) := by decide +kernel
theorem dX2_joinBlocks_47 : decode cX2_joinBlocks 47 = .ok (.aload_n 0, 1) := by decide +kernel
theorem dX2_joinBlocks_48 : decode cX2_joinBlocks 48 = .ok (.getfield 22, 3) := by decide +kernel
theorem dX2_joinBlocks_51 : decode cX2_joinBlocks 51 = .ok (.putfield 26, 3) := by decide +kernel
theorem dX2_joinBlocks_54 : decode cX2_joinBlocks 54 = .ok (.aload_n 0, 1) := by decide +kernel
theorem dX2_joinBlocks_55 : decode cX2_joinBlocks 55 = .ok (.aload_n 2, 1) := by decide +kernel
theorem dX2_joinBlocks_56 : decode cX2_joinBlocks 56 = .ok (.putfield 22, 3) := by decide +kernel
theorem dX2_joinBlocks_59 : decode cX2_joinBlocks 59 = .ok (.return_, 1) := by decide +kernel
theorem dX2_joinRows_0 : decode cX2_joinRows 0 = .ok (.iload_n 3, 1) := by decide +kernel
theorem dX2_joinRows_1 : decode cX2_joinRows 1 = .ok (.iconst 2, 1) := by decide +kernel
theorem dX2_joinRows_2 : decode cX2_joinRows 2 = .ok (.idiv, 1) := by decide +kernel
theorem dX2_joinRows_3 : decode cX2_joinRows 3 = .ok (.istore 4, 2) := by decide +kernel
theorem dX2_joinRows_5 : decode cX2_joinRows 5 = .ok (.iload_n 1, 1) := by decide +kernel
theorem dX2_joinRows_6 : decode cX2_joinRows 6 = .ok (.iload 4, 2) := by decide +kernel
theorem dX2_joinRows_8 : decode cX2_joinRows 8 = .ok (.iadd, 1) := by decide +kernel
theorem dX2_joinRows_9 : decode cX2_joinRows 9 = .ok (.bipush 48, 2) := by decide +kernel
theorem dX2_joinRows_11 : decode cX2_joinRows 11 = .ok (.imul, 1) := by decide +kernel
theorem dX2_joinRows_12 : decode cX2_joinRows 12 = .ok (.istore 5, 2) := by decide +kernel
theorem dX2_joinRows_14 : decode cX2_joinRows 14 = .ok (.iload_n 1, 1) := by decide +kernel
theorem dX2_joinRows_15 : decode cX2_joinRows 15 = .ok (.iload_n 2, 1) := by decide +kernel
theorem dX2_joinRows_16 : decode cX2_joinRows 16 = .ok (.iadd, 1) := by decide +kernel
theorem dX2_joinRows_17 : decode cX2_joinRows 17 = .ok (.iload 4, 2) := by decide +kernel
theorem dX2_joinRows_19 : decode cX2_joinRows 19 = .ok (.iadd, 1) := by decide +kernel
theorem dX2_joinRows_20 : decode cX2_joinRows 20 = .ok (.bipush 48, 2) := by decide +kernel
theorem dX2_joinRows_22 : decode cX2_joinRows 22 = .ok (.imul, 1) := by decide +kernel
theorem dX2_joinRows_23 : decode cX2_joinRows 23 = .ok (.iload_n 3, 1) := by decide +kernel
theorem dX2_joinRows_24 : decode cX2_joinRows 24 = .ok (.iadd, 1) := by decide +kernel
theorem dX2_joinRows_25 : decode cX2_joinRows 25 = .ok (.iload 4, 2) := by decide +kernel
theorem dX2_joinRows_27 : decode cX2_joinRows 27 = .ok (.isub, 1) := by decide +kernel
theorem dX2_joinRows_28 : decode cX2_joinRows 28 = .ok (.istore 6, 2) := by decide +kernel
theorem dX2_joinRows_30 : decode cX2_joinRows 30 = .ok (.iload_n 1, 1) := by decide +kernel
theorem dX2_joinRows_31 : decode cX2_joinRows 31 = .ok (.iload_n 3, 1) := by decide +kernel
theorem dX2_joinRows_32 : decode cX2_joinRows 32 = .ok (.iadd, 1) := by decide +kernel
theorem dX2_joinRows_33 : decode cX2_joinRows 33 = .ok (.bipush 48, 2) := by decide +kernel
theorem dX2_joinRows_35 : decode cX2_joinRows 35 = .ok (.imul, 1) := by decide +kernel
theorem dX2_joinRows_36 : decode cX2_joinRows 36 = .ok (.istore 7, 2) := by decide +kernel
theorem dX2_joinRows_38 : decode cX2_joinRows 38 = .ok (.aload_n 0, 1) := by decide +kernel
theorem dX2_joinRows_39 : decode cX2_joinRows 39 = .ok (.iload_n 3, 1) := by decide +kernel
theorem dX2_joinRows_40 : decode cX2_joinRows 40 = .ok (.invokevirtual 70, 3) := by decide +kernel
theorem dX2_joinRows_43 : decode cX2_joinRows 43 = .ok (.istore 8, 2) := by decide +kernel
theorem dX2_joinRows_45 : decode cX2_joinRows 45 = .ok (.iconst 0, 1) := by decide +kernel
theorem dX2_joinRows_46 : decode cX2_joinRows 46 = .ok (.istore 9, 2) := by decide +kernel
theorem dX2_joinRows_48 : decode cX2_joinRows 48 = .ok (.iload 9, 2) := by decide +kernel
theorem dX2_joinRows_50 : decode cX2_joinRows 50 = .ok (.iload 8, 2) := by decide +kernel
theorem dX2_joinRows_52 : decode cX2_joinRows 52 = .ok (.if_icmp .ge 40, 3) := by decide +kernel
theorem dX2_joinRows_55 : decode cX2_joinRows 55 = .ok (.aload_n 0, 1) := by decide +kernel
theorem dX2_joinRows_56 : decode cX2_joinRows 56 = .ok (.getfield 26, 3) := by decide +kernel
theorem dX2_joinRows_59 : decode cX2_joinRows 59 = .ok (.iload 7, 2) := by decide +kernel
theorem dX2_joinRows_61 : decode cX2_joinRows 61 = .ok (.iload 9, 2) := by decide +kernel
theorem dX2_joinRows_63 : decode cX2_joinRows 63 = .ok (.iadd, 1) := by decide +kernel
theorem dX2_joinRows_64 : decode cX2_joinRows 64 = .ok (.aload_n 0, 1) := by decide +kernel
theorem dX2_joinRows_65 : decode cX2_joinRows 65 = .ok (.getfield 22, 3) := by decide +kernel
theorem dX2_joinRows_68 : decode cX2_joinRows 68 = .ok (.iload 5, 2) := by decide +kernel
theorem dX2_joinRows_70 : decode cX2_joinRows 70 = .ok (.iload 9, 2) := by decide +kernel
theorem dX2_joinRows_72 : decode cX2_joinRows 72 = .ok (.iadd, 1) := by decide +kernel
theorem dX2_joinRows_73 : decode cX2_joinRows 73 = .ok (.iaload, 1) := by decide +kernel
theorem dX2_joinRows_74 : decode cX2_joinRows 74 = .ok (.aload_n 0, 1) := by decide +kernel
theorem dX2_joinRows_75 : decode cX2_joinRows 75 = .ok (.getfield 22, 3) := by decide +kernel
theorem dX2_joinRows_78 : decode cX2_joinRows 78 = .ok (.iload 6, 2) := by decide +kernel
theorem dX2_joinRows_80 : decode cX2_joinRows 80 = .ok (.iload 9, 2) := by decide +kernel
theorem dX2_joinRows_82 : decode cX2_joinRows 82 = .ok (.iadd, 1) := by decide +kernel
theorem dX2_joinRows_83 : decode cX2_joinRows 83 = .ok (.iaload, 1) := by decide +kernel
theorem dX2_joinRows_84 : decode cX2_joinRows 84 = .ok (.iadd, 1) := by decide +kernel
theorem dX2_joinRows_85 : decode cX2_joinRows 85 = .ok (.iastore, 1) := by decide +kernel
theorem dX2_joinRows_86 : decode cX2_joinRows 86 = .ok (.iinc 9 1, 3) := by decide +kernel
theorem dX2_joinRows_89 : decode cX2_joinRows 89 = .ok (.goto (-41), 3) := by decide +kernel
theorem dX2_joinRows_92 : decode cX2_joinRows 92 = .ok (.return_, 1) := by decide +kernel
theorem dX2_measure_0 : decode cX2_measure 0 = .ok (.lconst 0, 1) := by decide +kernel
theorem dX2_measure_1 : decode cX2_measure 1 = .ok (.lstore_n 2, 1) := by decide +kernel
theorem dX2_measure_2 : decode cX2_measure 2 = .ok (.lconst 0, 1) := by decide +kernel
theorem dX2_measure_3 : decode cX2_measure 3 = .ok (.lstore 4, 2) := by decide +kernel
theorem dX2_measure_5 : decode cX2_measure 5 = .ok (.aload_n 0, 1) := by decide +kernel
theorem dX2_measure_6 : decode cX2_measure 6 = .ok (.iload_n 1, 1) := by decide +kernel
theorem dX2_measure_7 : decode cX2_measure 7 = .ok (.invokevirtual 70, 3) := by decide +kernel
theorem dX2_measure_10 : decode cX2_measure 10 = .ok (.istore 6, 2) := by decide +kernel
theorem dX2_measure_12 : decode cX2_measure 12 = .ok (.iconst 0, 1) := by decide +kernel
theorem dX2_measure_13 : decode cX2_measure 13 = .ok (.istore 7, 2) := by decide +kernel
theorem dX2_measure_15 : decode cX2_measure 15 = .ok (.iload 7, 2) := by decide +kernel
theorem dX2_measure_17 : decode cX2_measure 17 = .ok (.iload 6, 2) := by decide +kernel
theorem dX2_measure_19 : decode cX2_measure 19 = .ok (.if_icmp .ge 34, 3) := by decide +kernel
theorem dX2_measure_22 : decode cX2_measure 22 = .ok (.aload_n 0, 1) := by decide +kernel
theorem dX2_measure_23 : decode cX2_measure 23 = .ok (.iload_n 1, 1) := by decide +kernel
theorem dX2_measure_24 : decode cX2_measure 24 = .ok (.iload 7, 2) := by decide +kernel
theorem dX2_measure_26 : decode cX2_measure 26 = .ok (.invokevirtual 74, 3) := by decide +kernel
theorem dX2_measure_29 : decode cX2_measure 29 = .ok (.i2l, 1) := by decide +kernel
theorem dX2_measure_30 : decode cX2_measure 30 = .ok (.lstore 8, 2) := by decide +kernel
theorem dX2_measure_32 : decode cX2_measure 32 = .ok (.lload_n 2, 1) := by decide +kernel
theorem dX2_measure_33 : decode cX2_measure 33 = .ok (.lload 8, 2) := by decide +kernel
theorem dX2_measure_35 : decode cX2_measure 35 = .ok (.ladd, 1) := by decide +kernel
theorem dX2_measure_36 : decode cX2_measure 36 = .ok (.lstore_n 2, 1) := by decide +kernel
theorem dX2_measure_37 : decode cX2_measure 37 = .ok (.lload 4, 2) := by decide +kernel
theorem dX2_measure_39 : decode cX2_measure 39 = .ok (.lload 8, 2) := by decide +kernel
theorem dX2_measure_41 : decode cX2_measure 41 = .ok (.lload 8, 2) := by decide +kernel
theorem dX2_measure_43 : decode cX2_measure 43 = .ok (.lmul, 1) := by decide +kernel
theorem dX2_measure_44 : decode cX2_measure 44 = .ok (.ladd, 1) := by decide +kernel
theorem dX2_measure_45 : decode cX2_measure 45 = .ok (.lstore 4, 2) := by decide +kernel
theorem dX2_measure_47 : decode cX2_measure 47 = .ok (.iinc 7 1, 3) := by decide +kernel
theorem dX2_measure_50 : decode cX2_measure 50 = .ok (.goto (-35), 3) := by decide +kernel
theorem dX2_measure_53 : decode cX2_measure 53 = .ok (.aload_n 0, 1) := by decide +kernel
theorem dX2_measure_54 : decode cX2_measure 54 = .ok (.getfield 29, 3) := by decide +kernel
theorem dX2_measure_57 : decode cX2_measure 57 = .ok (.iload_n 1, 1) := by decide +kernel
theorem dX2_measure_58 : decode cX2_measure 58 = .ok (.lload_n 2, 1) := by decide +kernel
theorem dX2_measure_59 : decode cX2_measure 59 = .ok (.lastore, 1) := by decide +kernel
theorem dX2_measure_60 : decode cX2_measure 60 = .ok (.aload_n 0, 1) := by decide +kernel
theorem dX2_measure_61 : decode cX2_measure 61 = .ok (.getfield 33, 3) := by decide +kernel
theorem dX2_measure_64 : decode cX2_measure 64 = .ok (.iload_n 1, 1) := by decide +kernel
theorem dX2_measure_65 : decode cX2_measure 65 = .ok (.iload 6, 2) := by decide +kernel
theorem dX2_measure_67 : decode cX2_measure 67 = .ok (.i2l, 1) := by decide +kernel
theorem dX2_measure_68 : decode cX2_measure 68 = .ok (.lload 4, 2) := by decide +kernel
theorem dX2_measure_70 : decode cX2_measure 70 = .ok (.lmul, 1) := by decide +kernel
theorem dX2_measure_71 : decode cX2_measure 71 = .ok (.lload_n 2, 1) := by decide +kernel
theorem dX2_measure_72 : decode cX2_measure 72 = .ok (.lload_n 2, 1) := by decide +kernel
theorem dX2_measure_73 : decode cX2_measure 73 = .ok (.lmul, 1) := by decide +kernel
theorem dX2_measure_74 : decode cX2_measure 74 = .ok (.lsub, 1) := by decide +kernel
theorem dX2_measure_75 : decode cX2_measure 75 = .ok (.lastore, 1) := by decide +kernel
theorem dX2_measure_76 : decode cX2_measure 76 = .ok (.return_, 1) := by decide +kernel
theorem dX2_sumOfBox_0 : decode cX2_sumOfBox 0 = .ok (.iconst 0, 1) := by decide +kernel
theorem dX2_sumOfBox_1 : decode cX2_sumOfBox 1 = .ok (.istore 4, 2) := by decide +kernel
theorem dX2_sumOfBox_3 : decode cX2_sumOfBox 3 = .ok (.iload_n 2, 1) := by decide +kernel
theorem dX2_sumOfBox_4 : decode cX2_sumOfBox 4 = .ok (.istore 5, 2) := by decide +kernel
theorem dX2_sumOfBox_6 : decode cX2_sumOfBox 6 = .ok (.iload 5, 2) := by decide +kernel
theorem dX2_sumOfBox_8 : decode cX2_sumOfBox 8 = .ok (.iload_n 2, 1) := by decide +kernel
theorem dX2_sumOfBox_9 : decode cX2_sumOfBox 9 = .ok (.iload_n 3, 1) := by decide +kernel
theorem dX2_sumOfBox_10 : decode cX2_sumOfBox 10 = .ok (.iadd, 1) := by decide +kernel
theorem dX2_sumOfBox_11 : decode cX2_sumOfBox 11 = .ok (.if_icmp .ge 21, 3) := by decide +kernel
theorem dX2_sumOfBox_14 : decode cX2_sumOfBox 14 = .ok (.iload 4, 2) := by decide +kernel
theorem dX2_sumOfBox_16 : decode cX2_sumOfBox 16 = .ok (.aload_n 0, 1) := by decide +kernel
theorem dX2_sumOfBox_17 : decode cX2_sumOfBox 17 = .ok (.iload_n 1, 1) := by decide +kernel
theorem dX2_sumOfBox_18 : decode cX2_sumOfBox 18 = .ok (.iload 5, 2) := by decide +kernel
theorem dX2_sumOfBox_20 : decode cX2_sumOfBox 20 = .ok (.invokevirtual 74, 3) := by decide +kernel
theorem dX2_sumOfBox_23 : decode cX2_sumOfBox 23 = .ok (.iadd, 1) := by decide +kernel
theorem dX2_sumOfBox_24 : decode cX2_sumOfBox 24 = .ok (.istore 4, 2) := by decide +kernel
theorem dX2_sumOfBox_26 : decode cX2_sumOfBox 26 = .ok (.iinc 5 1, 3) := by decide +kernel
theorem dX2_sumOfBox_29 : decode cX2_sumOfBox 29 = .ok (.goto (-23), 3) := by decide +kernel
theorem dX2_sumOfBox_32 : decode cX2_sumOfBox 32 = .ok (.iload 4, 2) := by decide +kernel
theorem dX2_sumOfBox_34 : decode cX2_sumOfBox 34 = .ok (.ireturn, 1) := by decide +kernel
theorem dX2_scoreOf_0 : decode cX2_scoreOf 0 = .ok (.aload_n 0, 1) := by decide +kernel
theorem dX2_scoreOf_1 : decode cX2_scoreOf 1 = .ok (.iload_n 1, 1) := by decide +kernel
theorem dX2_scoreOf_2 : decode cX2_scoreOf 2 = .ok (.invokevirtual 70, 3) := by decide +kernel
theorem dX2_scoreOf_5 : decode cX2_scoreOf 5 = .ok (.i2l, 1) := by decide +kernel
theorem dX2_scoreOf_6 : decode cX2_scoreOf 6 = .ok (.lload_n 3, 1) := by decide +kernel
theorem dX2_scoreOf_7 : decode cX2_scoreOf 7 = .ok (.lmul, 1) := by decide +kernel
theorem dX2_scoreOf_8 : decode cX2_scoreOf 8 = .ok (.iload_n 2, 1) := by decide +kernel
theorem dX2_scoreOf_9 : decode cX2_scoreOf 9 = .ok (.i2l, 1) := by decide +kernel
theorem dX2_scoreOf_10 : decode cX2_scoreOf 10 = .ok (.aload_n 0, 1) := by decide +kernel
theorem dX2_scoreOf_11 : decode cX2_scoreOf 11 = .ok (.getfield 29, 3) := by decide +kernel
theorem dX2_scoreOf_14 : decode cX2_scoreOf 14 = .ok (.iload_n 1, 1) := by decide +kernel
theorem dX2_scoreOf_15 : decode cX2_scoreOf 15 = .ok (.laload, 1) := by decide +kernel
theorem dX2_scoreOf_16 : decode cX2_scoreOf 16 = .ok (.lmul, 1) := by decide +kernel
theorem dX2_scoreOf_17 : decode cX2_scoreOf 17 = .ok (.lsub, 1) := by decide +kernel
theorem dX2_scoreOf_18 : decode cX2_scoreOf 18 = .ok (.lstore 5, 2) := by decide +kernel
theorem dX2_scoreOf_20 : decode cX2_scoreOf 20 = .ok (.iload_n 2, 1) := by decide +kernel
theorem dX2_scoreOf_21 : decode cX2_scoreOf 21 = .ok (.i2l, 1) := by decide +kernel
theorem dX2_scoreOf_22 : decode cX2_scoreOf 22 = .ok (.aload_n 0, 1) := by decide +kernel
theorem dX2_scoreOf_23 : decode cX2_scoreOf 23 = .ok (.getfield 33, 3) := by decide +kernel
theorem dX2_scoreOf_26 : decode cX2_scoreOf 26 = .ok (.iload_n 1, 1) := by decide +kernel
theorem dX2_scoreOf_27 : decode cX2_scoreOf 27 = .ok (.laload, 1) := by decide +kernel
theorem dX2_scoreOf_28 : decode cX2_scoreOf 28 = .ok (.lmul, 1) := by decide +kernel
theorem dX2_scoreOf_29 : decode cX2_scoreOf 29 = .ok (.lstore 7, 2) := by decide +kernel
theorem dX2_scoreOf_31 : decode cX2_scoreOf 31 = .ok (.lload 5, 2) := by decide +kernel
theorem dX2_scoreOf_33 : decode cX2_scoreOf 33 = .ok (.lconst 0, 1) := by decide +kernel
theorem dX2_scoreOf_34 : decode cX2_scoreOf 34 = .ok (.lcmp, 1) := by decide +kernel
theorem dX2_scoreOf_35 : decode cX2_scoreOf 35 = .ok (.ifCond .le 10, 3) := by decide +kernel
theorem dX2_scoreOf_38 : decode cX2_scoreOf 38 = .ok (.lload 7, 2) := by decide +kernel
theorem dX2_scoreOf_40 : decode cX2_scoreOf 40 = .ok (.lconst 0, 1) := by decide +kernel
theorem dX2_scoreOf_41 : decode cX2_scoreOf 41 = .ok (.lcmp, 1) := by decide +kernel
theorem dX2_scoreOf_42 : decode cX2_scoreOf 42 = .ok (.ifCond .gt 5, 3) := by decide +kernel
theorem dX2_scoreOf_45 : decode cX2_scoreOf 45 = .ok (.lconst 0, 1) := by decide +kernel
theorem dX2_scoreOf_46 : decode cX2_scoreOf 46 = .ok (.lreturn, 1) := by decide +kernel
theorem dX2_scoreOf_47 : decode cX2_scoreOf 47 = .ok (.ldc2_w 77, 3) := by decide +kernel
theorem dX2_scoreOf_50 : decode cX2_scoreOf 50 = .ok (.lload 5, 2) := by decide +kernel
theorem dX2_scoreOf_52 : decode cX2_scoreOf 52 = .ok (.lmul, 1) := by decide +kernel
theorem dX2_scoreOf_53 : decode cX2_scoreOf 53 = .ok (.lload 5, 2) := by decide +kernel
theorem dX2_scoreOf_55 : decode cX2_scoreOf 55 = .ok (.lmul, 1) := by decide +kernel
theorem dX2_scoreOf_56 : decode cX2_scoreOf 56 = .ok (.lload 7, 2) := by decide +kernel
theorem dX2_scoreOf_58 : decode cX2_scoreOf 58 = .ok (.ldiv, 1) := by decide +kernel
theorem dX2_scoreOf_59 : decode cX2_scoreOf 59 = .ok (.lreturn, 1) := by decide +kernel
theorem dX3_init_0 : decode cX3_init 0 = .ok (.aload_n 0, 1) := by decide +kernel
theorem dX3_init_1 : decode cX3_init 1 = .ok (.invokespecial 3, 3) := by decide +kernel
theorem dX3_init_4 : decode cX3_init 4 = .ok (.aload_n 0, 1) := by decide +kernel
theorem dX3_init_5 : decode cX3_init 5 = .ok (.iconst 0, 1) := by decide +kernel
theorem dX3_init_6 : decode cX3_init 6 = .ok (.putfield 9, 3) := by decide +kernel
theorem dX3_init_9 : decode cX3_init 9 = .ok (.aload_n 0, 1) := by decide +kernel
theorem dX3_init_10 : decode cX3_init 10 = .ok (.bipush 64, 2) := by decide +kernel
theorem dX3_init_12 : decode cX3_init 12 = .ok (.newarray .int, 2) := by decide +kernel
theorem dX3_init_14 : decode cX3_init 14 = .ok (.putfield 15, 3) := by decide +kernel
theorem dX3_init_17 : decode cX3_init 17 = .ok (.return_, 1) := by decide +kernel
theorem dX3_powerOf_0 : decode cX3_powerOf 0 = .ok (.iload_n 0, 1) := by decide +kernel
theorem dX3_powerOf_1 : decode cX3_powerOf 1 = .ok (.bipush 48, 2) := by decide +kernel
theorem dX3_powerOf_3 : decode cX3_powerOf 3 = .ok (.if_icmp .lt 14, 3) := by decide +kernel
theorem dX3_powerOf_6 : decode cX3_powerOf 6 = .ok (.iload_n 0, 1) := by decide +kernel
theorem dX3_powerOf_7 : decode cX3_powerOf 7 = .ok (.bipush 57, 2) := by decide +kernel
theorem dX3_powerOf_9 : decode cX3_powerOf 9 = .ok (.if_icmp .gt 8, 3) := by decide +kernel
theorem dX3_powerOf_12 : decode cX3_powerOf 12 = .ok (.iload_n 0, 1) := by decide +kernel
theorem dX3_powerOf_13 : decode cX3_powerOf 13 = .ok (.bipush 48, 2) := by decide +kernel
theorem dX3_powerOf_15 : decode cX3_powerOf 15 = .ok (.isub, 1) := by decide +kernel
theorem dX3_powerOf_16 : decode cX3_powerOf 16 = .ok (.ireturn, 1) := by decide +kernel
theorem dX3_powerOf_17 : decode cX3_powerOf 17 = .ok (.iload_n 0, 1) := by decide +kernel
theorem dX3_powerOf_18 : decode cX3_powerOf 18 = .ok (.bipush 65, 2) := by decide +kernel
theorem dX3_powerOf_20 : decode cX3_powerOf 20 = .ok (.if_icmp .lt 17, 3) := by decide +kernel
theorem dX3_powerOf_23 : decode cX3_powerOf 23 = .ok (.iload_n 0, 1) := by decide +kernel
theorem dX3_powerOf_24 : decode cX3_powerOf 24 = .ok (.bipush 90, 2) := by decide +kernel
theorem dX3_powerOf_26 : decode cX3_powerOf 26 = .ok (.if_icmp .gt 11, 3) := by decide +kernel
theorem dX3_powerOf_29 : decode cX3_powerOf 29 = .ok (.iload_n 0, 1) := by decide +kernel
theorem dX3_powerOf_30 : decode cX3_powerOf 30 = .ok (.bipush 65, 2) := by decide +kernel
theorem dX3_powerOf_32 : decode cX3_powerOf 32 = .ok (.isub, 1) := by decide +kernel
theorem dX3_powerOf_33 : decode cX3_powerOf 33 = .ok (.bipush 10, 2) := by decide +kernel
theorem dX3_powerOf_35 : decode cX3_powerOf 35 = .ok (.iadd, 1) := by decide +kernel
theorem dX3_powerOf_36 : decode cX3_powerOf 36 = .ok (.ireturn, 1) := by decide +kernel
theorem dX3_powerOf_37 : decode cX3_powerOf 37 = .ok (.iconst (-1), 1) := by decide +kernel
theorem dX3_powerOf_38 : decode cX3_powerOf 38 = .ok (.ireturn, 1) := by decide +kernel
theorem dX3_indexOfFirstError_0 : decode cX3_indexOfFirstError 0 = .ok (.iconst 0, 1) := by decide +kernel
theorem dX3_indexOfFirstError_1 : decode cX3_indexOfFirstError 1 = .ok (.istore_n 1, 1) := by decide +kernel
theorem dX3_indexOfFirstError_2 : decode cX3_indexOfFirstError 2 = .ok (.iload_n 1, 1) := by decide +kernel
theorem dX3_indexOfFirstError_3 : decode cX3_indexOfFirstError 3 = .ok (.aload_n 0, 1) := by decide +kernel
theorem dX3_indexOfFirstError_4 : decode cX3_indexOfFirstError 4 = .ok (.getfield 9, 3) := by decide +kernel
theorem dX3_indexOfFirstError_7 : decode cX3_indexOfFirstError 7 = .ok (.if_icmp .ge 24, 3) := by decide +kernel
theorem dX3_indexOfFirstError_10 : decode cX3_indexOfFirstError 10 = .ok (.aload_n 0, 1) := by decide +kernel
theorem dX3_indexOfFirstError_11 : decode cX3_indexOfFirstError 11 = .ok (.getfield 15, 3) := by decide +kernel
theorem dX3_indexOfFirstError_14 : decode cX3_indexOfFirstError 14 = .ok (.iload_n 1, 1) := by decide +kernel
theorem dX3_indexOfFirstError_15 : decode cX3_indexOfFirstError 15 = .ok (.iaload, 1) := by decide +kernel
theorem dX3_indexOfFirstError_16 : decode cX3_indexOfFirstError 16 = .ok (.invokestatic 19, 3) := by decide +kernel
theorem dX3_indexOfFirstError_19 : decode cX3_indexOfFirstError 19 = .ok (.iconst (-1), 1) := by decide +kernel
theorem dX3_indexOfFirstError_20 : decode cX3_indexOfFirstError 20 = .ok (.if_icmp .ne 5, 3) := by decide +kernel
theorem dX3_indexOfFirstError_23 : decode cX3_indexOfFirstError 23 = .ok (.iload_n 1, 1) := by decide +kernel
theorem dX3_indexOfFirstError_24 : decode cX3_indexOfFirstError 24 = .ok (.ireturn, 1) := by decide +kernel
theorem dX3_indexOfFirstError_25 : decode cX3_indexOfFirstError 25 = .ok (.iinc 1 1, 3) := by decide +kernel
theorem dX3_indexOfFirstError_28 : decode cX3_indexOfFirstError 28 = .ok (.goto (-26), 3) := by decide +kernel
theorem dX3_indexOfFirstError_31 : decode cX3_indexOfFirstError 31 = .ok (.aload_n 0, 1) := by decide +kernel
theorem dX3_indexOfFirstError_32 : decode cX3_indexOfFirstError 32 = .ok (.getfield 9, 3) := by decide +kernel
theorem dX3_indexOfFirstError_35 : decode cX3_indexOfFirstError 35 = .ok (.ireturn, 1) := by decide +kernel
theorem dX3_hasWholeColumns_0 : decode cX3_hasWholeColumns 0 = .ok (.aload_n 0, 1) := by decide +kernel
theorem dX3_hasWholeColumns_1 : decode cX3_hasWholeColumns 1 = .ok (.getfield 9, 3) := by decide +kernel
theorem dX3_hasWholeColumns_4 : decode cX3_hasWholeColumns 4 = .ok (.ifCond .le 31, 3) := by decide +kernel
theorem dX3_hasWholeColumns_7 : decode cX3_hasWholeColumns 7 = .ok (.iload_n 1, 1) := by decide +kernel
theorem dX3_hasWholeColumns_8 : decode cX3_hasWholeColumns 8 = .ok (.ifCond .le 27, 3) := by decide +kernel
theorem dX3_hasWholeColumns_11 : decode cX3_hasWholeColumns 11 = .ok (.aload_n 0, 1) := by decide +kernel
theorem dX3_hasWholeColumns_12 : decode cX3_hasWholeColumns 12 = .ok (.getfield 9, 3) := by decide +kernel
theorem dX3_hasWholeColumns_15 : decode cX3_hasWholeColumns 15 = .ok (.iload_n 1, 1) := by decide +kernel
theorem dX3_hasWholeColumns_16 : decode cX3_hasWholeColumns 16 = .ok (.irem, 1) := by decide +kernel
theorem dX3_hasWholeColumns_17 : decode cX3_hasWholeColumns 17 = .ok (.ifCond .ne 18, 3) := by decide +kernel
theorem dX3_hasWholeColumns_20 : decode cX3_hasWholeColumns 20 = .ok (.aload_n 0, 1) := by decide +kernel
theorem dX3_hasWholeColumns_21 : decode cX3_hasWholeColumns 21 = .ok (.invokevirtual 23, 3) := by decide +kernel
theorem dX3_hasWholeColumns_24 : decode cX3_hasWholeColumns 24 = .ok (.aload_n 0, 1) := by decide +kernel
theorem dX3_hasWholeColumns_25 : decode cX3_hasWholeColumns 25 = .ok (.getfield 9, 3) := by decide +kernel
theorem dX3_hasWholeColumns_28 : decode cX3_hasWholeColumns 28 = .ok (.if_icmp .ne 7, 3) := by decide +kernel
theorem dX3_hasWholeColumns_31 : decode cX3_hasWholeColumns 31 = .ok (.iconst 1, 1) := by decide +kernel
theorem dX3_hasWholeColumns_32 : decode cX3_hasWholeColumns 32 = .ok (.goto 4, 3) := by decide +kernel
theorem dX3_hasWholeColumns_35 : decode cX3_hasWholeColumns 35 = .ok (.iconst 0, 1) := by decide +kernel
theorem dX3_hasWholeColumns_36 : decode cX3_hasWholeColumns 36 = .ok (.ireturn, 1) := by decide +kernel
theorem dX4_init_0 : decode cX4_init 0 = .ok (.aload_n 0, 1) := by decide +kernel
theorem dX4_init_1 : decode cX4_init 1 = .ok (.invokespecial 1, 3) := by decide +kernel
theorem dX4_init_4 : decode cX4_init 4 = .ok (.aload_n 0, 1) := by decide +kernel
theorem dX4_init_5 : decode cX4_init 5 = .ok (.new 7, 3) := by decide +kernel
theorem dX4_init_8 : decode cX4_init 8 = .ok (.dup, 1) := by decide +kernel
theorem dX4_init_9 : decode cX4_init 9 = .ok (.invokespecial 9, 3) := by decide +kernel
theorem dX4_init_12 : decode cX4_init 12 = .ok (.putfield 10, 3) := by decide +kernel
theorem dX4_init_15 : decode cX4_init 15 = .ok (.aload_n 0, 1) := by decide +kernel
theorem dX4_init_16 : decode cX4_init 16 = .ok (.new 16, 3) := by decide +kernel
theorem dX4_init_19 : decode cX4_init 19 = .ok (.dup, 1) := by decide +kernel
theorem dX4_init_20 : decode cX4_init 20 = .ok (.invokespecial 18, 3) := by decide +kernel
theorem dX4_init_23 : decode cX4_init 23 = .ok (.putfield 19, 3) := by decide +kernel
theorem dX4_init_26 : decode cX4_init 26 = .ok (.aload_n 0, 1) := by decide +kernel
theorem dX4_init_27 : decode cX4_init 27 = .ok (.new 23, 3) := by decide +kernel
theorem dX4_init_30 : decode cX4_init 30 = .ok (.dup, 1) := by decide +kernel
theorem dX4_init_31 : decode cX4_init 31 = .ok (.invokespecial 25, 3) := by decide +kernel
theorem dX4_init_34 : decode cX4_init 34 = .ok (.putfield 26, 3) := by decide +kernel
theorem dX4_init_37 : decode cX4_init 37 = .ok (.aload_n 0, 1) := by decide +kernel
theorem dX4_init_38 : decode cX4_init 38 = .ok (.new 30, 3) := by decide +kernel
theorem dX4_init_41 : decode cX4_init 41 = .ok (.dup, 1) := by decide +kernel
theorem dX4_init_42 : decode cX4_init 42 = .ok (.invokespecial 32, 3) := by decide +kernel
theorem dX4_init_45 : decode cX4_init 45 = .ok (.putfield 33, 3) := by decide +kernel
theorem dX4_init_48 : decode cX4_init 48 = .ok (.return_, 1) := by decide +kernel
theorem dX4_setChannels_0 : decode cX4_setChannels 0 = .ok (.iload_n 1, 1) := by decide +kernel
theorem dX4_setChannels_1 : decode cX4_setChannels 1 = .ok (.iconst 2, 1) := by decide +kernel
theorem dX4_setChannels_2 : decode cX4_setChannels 2 = .ok (.if_icmp .eq 30, 3) := by decide +kernel
theorem dX4_setChannels_5 : decode cX4_setChannels 5 = .ok (.iload_n 1, 1) := by decide +kernel
theorem dX4_setChannels_6 : decode cX4_setChannels 6 = .ok (.iconst 4, 1) := by decide +kernel
theorem dX4_setChannels_7 : decode cX4_setChannels 7 = .ok (.if_icmp .eq 25, 3) := by decide +kernel
theorem dX4_setChannels_10 : decode cX4_setChannels 10 = .ok (.iload_n 1, 1) := by decide +kernel
theorem dX4_setChannels_11 : decode cX4_setChannels 11 = .ok (.bipush 8, 2) := by decide +kernel
theorem dX4_setChannels_13 : decode cX4_setChannels 13 = .ok (.if_icmp .eq 19, 3) := by decide +kernel
theorem dX4_setChannels_16 : decode cX4_setChannels 16 = .ok (.iload_n 1, 1) := by decide +kernel
theorem dX4_setChannels_17 : decode cX4_setChannels 17 = .ok (.bipush 16, 2) := by decide +kernel
theorem dX4_setChannels_19 : decode cX4_setChannels 19 = .ok (.if_icmp .eq 13, 3) := by decide +kernel
theorem dX4_setChannels_22 : decode cX4_setChannels 22 = .ok (.new 37, 3) := by decide +kernel
theorem dX4_setChannels_25 : decode cX4_setChannels 25 = .ok (.dup, 1) := by decide +kernel
theorem dX4_setChannels_26 : decode cX4_setChannels 26 = .ok (.ldc 39, 2) := by decide +kernel
theorem dX4_setChannels_28 : decode cX4_setChannels 28 = .ok (.invokespecial 41, 3) := by decide +kernel
theorem dX4_setChannels_31 : decode cX4_setChannels 31 = .ok (.athrow, 1) := by decide +kernel
theorem dX4_setChannels_32 : decode cX4_setChannels 32 = .ok (.aload_n 0, 1) := by decide +kernel
theorem dX4_setChannels_33 : decode cX4_setChannels 33 = .ok (.getfield 10, 3) := by decide +kernel
theorem dX4_setChannels_36 : decode cX4_setChannels 36 = .ok (.getfield 44, 3) := by decide +kernel
theorem dX4_setChannels_39 : decode cX4_setChannels 39 = .ok (.istore_n 2, 1) := by decide +kernel
theorem dX4_setChannels_40 : decode cX4_setChannels 40 = .ok (.aload_n 0, 1) := by decide +kernel
theorem dX4_setChannels_41 : decode cX4_setChannels 41 = .ok (.getfield 10, 3) := by decide +kernel
theorem dX4_setChannels_44 : decode cX4_setChannels 44 = .ok (.iload_n 1, 1) := by decide +kernel
theorem dX4_setChannels_45 : decode cX4_setChannels 45 = .ok (.invokevirtual 48, 3) := by decide +kernel
theorem dX4_setChannels_48 : decode cX4_setChannels 48 = .ok (.aload_n 0, 1) := by decide +kernel
theorem dX4_setChannels_49 : decode cX4_setChannels 49 = .ok (.invokevirtual 52, 3) := by decide +kernel
theorem dX4_setChannels_52 : decode cX4_setChannels 52 = .ok (.iload_n 2, 1) := by decide +kernel
theorem dX4_setChannels_53 : decode cX4_setChannels 53 = .ok (.ireturn, 1) := by decide +kernel
theorem dX4_setPending_0 : decode cX4_setPending 0 = .ok (.aload_n 0, 1) := by decide +kernel
theorem dX4_setPending_1 : decode cX4_setPending 1 = .ok (.iload_n 1, 1) := by decide +kernel
theorem dX4_setPending_2 : decode cX4_setPending 2 = .ok (.invokevirtual 55, 3) := by decide +kernel
theorem dX4_setPending_5 : decode cX4_setPending 5 = .ok (.iload_n 2, 1) := by decide +kernel
theorem dX4_setPending_6 : decode cX4_setPending 6 = .ok (.ifCond .lt 10, 3) := by decide +kernel
theorem dX4_setPending_9 : decode cX4_setPending 9 = .ok (.iload_n 2, 1) := by decide +kernel
theorem dX4_setPending_10 : decode cX4_setPending 10 = .ok (.sipush 9999, 3) := by decide +kernel
theorem dX4_setPending_13 : decode cX4_setPending 13 = .ok (.if_icmp .le 13, 3) := by decide +kernel
theorem dX4_setPending_16 : decode cX4_setPending 16 = .ok (.new 37, 3) := by decide +kernel
theorem dX4_setPending_19 : decode cX4_setPending 19 = .ok (.dup, 1) := by decide +kernel
theorem dX4_setPending_20 : decode cX4_setPending 20 = .ok (.ldc 58, 2) := by decide +kernel
theorem dX4_setPending_22 : decode cX4_setPending 22 = .ok (.invokespecial 41, 3) := by decide +kernel
theorem dX4_setPending_25 : decode cX4_setPending 25 = .ok (.athrow, 1) := by decide +kernel
theorem dX4_setPending_26 : decode cX4_setPending 26 = .ok (.aload_n 0, 1) := by decide +kernel
theorem dX4_setPending_27 : decode cX4_setPending 27 = .ok (.getfield 10, 3) := by decide +kernel
theorem dX4_setPending_30 : decode cX4_setPending 30 = .ok (.getfield 60, 3) := by decide +kernel
theorem dX4_setPending_33 : decode cX4_setPending 33 = .ok (.iload_n 1, 1) := by decide +kernel
theorem dX4_setPending_34 : decode cX4_setPending 34 = .ok (.iaload, 1) := by decide +kernel
theorem dX4_setPending_35 : decode cX4_setPending 35 = .ok (.istore_n 3, 1) := by decide +kernel
theorem dX4_setPending_36 : decode cX4_setPending 36 = .ok (.aload_n 0, 1) := by decide +kernel
theorem dX4_setPending_37 : decode cX4_setPending 37 = .ok (.getfield 10, 3) := by decide +kernel
theorem dX4_setPending_40 : decode cX4_setPending 40 = .ok (.getfield 60, 3) := by decide +kernel
theorem dX4_setPending_43 : decode cX4_setPending 43 = .ok (.iload_n 1, 1) := by decide +kernel
theorem dX4_setPending_44 : decode cX4_setPending 44 = .ok (.iload_n 2, 1) := by decide +kernel
theorem dX4_setPending_45 : decode cX4_setPending 45 = .ok (.iastore, 1) := by decide +kernel
theorem dX4_setPending_46 : decode cX4_setPending 46 = .ok (.iload_n 3, 1) := by decide +kernel
theorem dX4_setPending_47 : decode cX4_setPending 47 = .ok (.ireturn, 1) := by decide +kernel
theorem dX4_advance_0 : decode cX4_advance 0 = .ok (.aload_n 0, 1) := by decide +kernel
theorem dX4_advance_1 : decode cX4_advance 1 = .ok (.getfield 10, 3) := by decide +kernel
theorem dX4_advance_4 : decode cX4_advance 4 = .ok (.invokevirtual 64, 3) := by decide +kernel
theorem dX4_advance_7 : decode cX4_advance 7 = .ok (.aload_n 0, 1) := by decide +kernel
theorem dX4_advance_8 : decode cX4_advance 8 = .ok (.invokevirtual 52, 3) := by decide +kernel
theorem dX4_advance_11 : decode cX4_advance 11 = .ok (.aload_n 0, 1) := by decide +kernel
theorem dX4_advance_12 : decode cX4_advance 12 = .ok (.getfield 10, 3) := by decide +kernel
theorem dX4_advance_15 : decode cX4_advance 15 = .ok (.getfield 67, 3) := by decide +kernel
theorem dX4_advance_18 : decode cX4_advance 18 = .ok (.ireturn, 1) := by decide +kernel
theorem dX4_append_0 : decode cX4_append 0 = .ok (.iload_n 1, 1) := by decide +kernel
theorem dX4_append_1 : decode cX4_append 1 = .ok (.bipush 32, 2) := by decide +kernel
theorem dX4_append_3 : decode cX4_append 3 = .ok (.if_icmp .lt 9, 3) := by decide +kernel
theorem dX4_append_6 : decode cX4_append 6 = .ok (.iload_n 1, 1) := by decide +kernel
theorem dX4_append_7 : decode cX4_append 7 = .ok (.bipush 126, 2) := by decide +kernel
theorem dX4_append_9 : decode cX4_append 9 = .ok (.if_icmp .le 13, 3) := by decide +kernel
theorem dX4_append_12 : decode cX4_append 12 = .ok (.new 37, 3) := by decide +kernel
theorem dX4_append_15 : decode cX4_append 15 = .ok (.dup, 1) := by decide +kernel
theorem dX4_append_16 : decode cX4_append 16 = .ok (.ldc 70, 2) := by decide +kernel
theorem dX4_append_18 : decode cX4_append 18 = .ok (.invokespecial 41, 3) := by decide +kernel
theorem dX4_append_21 : decode cX4_append 21 = .ok (.athrow, 1) := by decide +kernel
theorem dX4_append_22 : decode cX4_append 22 = .ok (.aload_n 0, 1) := by decide +kernel
theorem dX4_append_23 : decode cX4_append 23 = .ok (.getfield 19, 3) := by decide +kernel
theorem dX4_append_26 : decode cX4_append 26 = .ok (.getfield 72, 3) := by decide +kernel
theorem dX4_append_29 : decode cX4_append 29 = .ok (.bipush 64, 2) := by decide +kernel
theorem dX4_append_31 : decode cX4_append 31 = .ok (.if_icmp .lt 13, 3) := by decide +kernel
theorem dX4_append_34 : decode cX4_append 34 = .ok (.new 75, 3) := by decide +kernel
theorem dX4_append_37 : decode cX4_append 37 = .ok (.dup, 1) := by decide +kernel
theorem dX4_append_38 : decode cX4_append 38 = .ok (.ldc 77, 2) := by decide +kernel
theorem dX4_append_40 : decode cX4_append 40 = .ok (.invokespecial 79, 3) := by decide +kernel
theorem dX4_append_43 : decode cX4_append 43 = .ok (.athrow, 1) := by decide +kernel
theorem dX4_append_44 : decode cX4_append 44 = .ok (.aload_n 0, 1) := by decide +kernel
theorem dX4_append_45 : decode cX4_append 45 = .ok (.getfield 19, 3) := by decide +kernel
theorem dX4_append_48 : decode cX4_append 48 = .ok (.getfield 80, 3) := by decide +kernel
theorem dX4_append_51 : decode cX4_append 51 = .ok (.aload_n 0, 1) := by decide +kernel
theorem dX4_append_52 : decode cX4_append 52 = .ok (.getfield 19, 3) := by decide +kernel
theorem dX4_append_55 : decode cX4_append 55 = .ok (.getfield 72, 3) := by decide +kernel
theorem dX4_append_58 : decode cX4_append 58 = .ok (.iload_n 1, 1) := by decide +kernel
theorem dX4_append_59 : decode cX4_append 59 = .ok (.iastore, 1) := by decide +kernel
theorem dX4_append_60 : decode cX4_append 60 = .ok (.aload_n 0, 1) := by decide +kernel
theorem dX4_append_61 : decode cX4_append 61 = .ok (.getfield 19, 3) := by decide +kernel
theorem dX4_append_64 : decode cX4_append 64 = .ok (.dup, 1) := by decide +kernel
theorem dX4_append_65 : decode cX4_append 65 = .ok (.getfield 72, 3) := by decide +kernel
theorem dX4_append_68 : decode cX4_append 68 = .ok (.iconst 1, 1) := by decide +kernel
theorem dX4_append_69 : decode cX4_append 69 = .ok (.iadd, 1) := by decide +kernel
theorem dX4_append_70 : decode cX4_append 70 = .ok (.putfield 72, 3) := by decide +kernel
theorem dX4_append_73 : decode cX4_append 73 = .ok (.aload_n 0, 1) := by decide +kernel
theorem dX4_append_74 : decode cX4_append 74 = .ok (.getfield 19, 3) := by decide +kernel
theorem dX4_append_77 : decode cX4_append 77 = .ok (.getfield 72, 3) := by decide +kernel
theorem dX4_append_80 : decode cX4_append 80 = .ok (.ireturn, 1) := by decide +kernel
theorem dX4_clearInput_0 : decode cX4_clearInput 0 = .ok (.aload_n 0, 1) := by decide +kernel
theorem dX4_clearInput_1 : decode cX4_clearInput 1 = .ok (.getfield 19, 3) := by decide +kernel
theorem dX4_clearInput_4 : decode cX4_clearInput 4 = .ok (.getfield 72, 3) := by decide +kernel
theorem dX4_clearInput_7 : decode cX4_clearInput 7 = .ok (.istore_n 1, 1) := by decide +kernel
theorem dX4_clearInput_8 : decode cX4_clearInput 8 = .ok (.aload_n 0, 1) := by decide +kernel
theorem dX4_clearInput_9 : decode cX4_clearInput 9 = .ok (.getfield 19, 3) := by decide +kernel
theorem dX4_clearInput_12 : decode cX4_clearInput 12 = .ok (.iconst 0, 1) := by decide +kernel
theorem dX4_clearInput_13 : decode cX4_clearInput 13 = .ok (.putfield 72, 3) := by decide +kernel
theorem dX4_clearInput_16 : decode cX4_clearInput 16 = .ok (.iload_n 1, 1) := by decide +kernel
theorem dX4_clearInput_17 : decode cX4_clearInput 17 = .ok (.ireturn, 1) := by decide +kernel
theorem dX4_firstError_0 : decode cX4_firstError 0 = .ok (.aload_n 0, 1) := by decide +kernel
theorem dX4_firstError_1 : decode cX4_firstError 1 = .ok (.getfield 19, 3) := by decide +kernel
theorem dX4_firstError_4 : decode cX4_firstError 4 = .ok (.invokevirtual 83, 3) := by decide +kernel
theorem dX4_firstError_7 : decode cX4_firstError 7 = .ok (.ireturn, 1) := by decide +kernel
theorem dX4_load_0 : decode cX4_load 0 = .ok (.aload_n 0, 1) := by decide +kernel
theorem dX4_load_1 : decode cX4_load 1 = .ok (.getfield 19, 3) := by decide +kernel
theorem dX4_load_4 : decode cX4_load 4 = .ok (.aload_n 0, 1) := by decide +kernel
theorem dX4_load_5 : decode cX4_load 5 = .ok (.getfield 10, 3) := by decide +kernel
theorem dX4_load_8 : decode cX4_load 8 = .ok (.getfield 44, 3) := by decide +kernel
theorem dX4_load_11 : decode cX4_load 11 = .ok (.invokevirtual 87, 3) := by decide +kernel
theorem dX4_load_14 : decode cX4_load 14 = .ok (.ifCond .ne 13, 3) := by decide +kernel
theorem dX4_load_17 : decode cX4_load 17 = .ok (.new 75, 3) := by decide +kernel
theorem dX4_load_20 : decode cX4_load 20 = .ok (.dup, 1) := by decide +kernel
theorem dX4_load_21 : decode cX4_load 21 = .ok (.ldc 91, 2) := by decide +kernel
theorem dX4_load_23 : decode cX4_load 23 = .ok (.invokespecial 79, 3) := by decide +kernel
theorem dX4_load_26 : decode cX4_load 26 = .ok (.athrow, 1) := by decide +kernel
theorem dX4_load_27 : decode cX4_load 27 = .ok (.iconst 0, 1) := by decide +kernel
theorem dX4_load_28 : decode cX4_load 28 = .ok (.istore_n 1, 1) := by decide +kernel
theorem dX4_load_29 : decode cX4_load 29 = .ok (.iconst 0, 1) := by decide +kernel
theorem dX4_load_30 : decode cX4_load 30 = .ok (.istore_n 2, 1) := by decide +kernel
theorem dX4_load_31 : decode cX4_load 31 = .ok (.iload_n 2, 1) := by decide +kernel
theorem dX4_load_32 : decode cX4_load 32 = .ok (.aload_n 0, 1) := by decide +kernel
theorem dX4_load_33 : decode cX4_load 33 = .ok (.getfield 19, 3) := by decide +kernel
theorem dX4_load_36 : decode cX4_load 36 = .ok (.getfield 72, 3) := by decide +kernel
theorem dX4_load_39 : decode cX4_load 39 = .ok (.if_icmp .ge 31, 3) := by decide +kernel
theorem dX4_load_42 : decode cX4_load 42 = .ok (.aload_n 0, 1) := by decide +kernel
theorem dX4_load_43 : decode cX4_load 43 = .ok (.getfield 10, 3) := by decide +kernel
theorem dX4_load_46 : decode cX4_load 46 = .ok (.aload_n 0, 1) := by decide +kernel
theorem dX4_load_47 : decode cX4_load 47 = .ok (.getfield 19, 3) := by decide +kernel
theorem dX4_load_50 : decode cX4_load 50 = .ok (.iload_n 2, 1) := by decide +kernel
theorem dX4_load_51 : decode cX4_load 51 = .ok (.invokevirtual 93, 3) := by decide +kernel
theorem dX4_load_54 : decode cX4_load 54 = .ok (.iinc 1 1, 3) := by decide +kernel
theorem dX4_load_57 : decode cX4_load 57 = .ok (.iload_n 2, 1) := by decide +kernel
theorem dX4_load_58 : decode cX4_load 58 = .ok (.aload_n 0, 1) := by decide +kernel
theorem dX4_load_59 : decode cX4_load 59 = .ok (.getfield 10, 3) := by decide +kernel
theorem dX4_load_62 : decode cX4_load 62 = .ok (.getfield 44, 3) := by decide +kernel
theorem dX4_load_65 : decode cX4_load 65 = .ok (.iadd, 1) := by decide +kernel
theorem dX4_load_66 : decode cX4_load 66 = .ok (.istore_n 2, 1) := by decide +kernel
theorem dX4_load_67 : decode cX4_load 67 = .ok (.goto (-36), 3) := by decide +kernel
theorem dX4_load_70 : decode cX4_load 70 = .ok (.aload_n 0, 1) := by decide +kernel
theorem dX4_load_71 : decode cX4_load 71 = .ok (.getfield 19, 3) := by decide +kernel
theorem dX4_load_74 : decode cX4_load 74 = .ok (.iconst 0, 1) := by decide +kernel
theorem dX4_load_75 : decode cX4_load 75 = .ok (.putfield 72, 3) := by decide +kernel
theorem dX4_load_78 : decode cX4_load 78 = .ok (.aload_n 0, 1) := by decide +kernel
theorem dX4_load_79 : decode cX4_load 79 = .ok (.invokevirtual 52, 3) := by decide +kernel
theorem dX4_load_82 : decode cX4_load 82 = .ok (.iload_n 1, 1) := by decide +kernel
theorem dX4_load_83 : decode cX4_load 83 = .ok (.ireturn, 1) := by decide +kernel
theorem dX4_inject_0 : decode cX4_inject 0 = .ok (.aload_n 0, 1) := by decide +kernel
theorem dX4_inject_1 : decode cX4_inject 1 = .ok (.iload_n 1, 1) := by decide +kernel
theorem dX4_inject_2 : decode cX4_inject 2 = .ok (.iload_n 2, 1) := by decide +kernel
theorem dX4_inject_3 : decode cX4_inject 3 = .ok (.iconst 1, 1) := by decide +kernel
theorem dX4_inject_4 : decode cX4_inject 4 = .ok (.invokevirtual 97, 3) := by decide +kernel
theorem dX4_inject_7 : decode cX4_inject 7 = .ok (.iload_n 3, 1) := by decide +kernel
theorem dX4_inject_8 : decode cX4_inject 8 = .ok (.iconst 1, 1) := by decide +kernel
theorem dX4_inject_9 : decode cX4_inject 9 = .ok (.if_icmp .lt 10, 3) := by decide +kernel
theorem dX4_inject_12 : decode cX4_inject 12 = .ok (.iload_n 3, 1) := by decide +kernel
theorem dX4_inject_13 : decode cX4_inject 13 = .ok (.sipush 9999, 3) := by decide +kernel
theorem dX4_inject_16 : decode cX4_inject 16 = .ok (.if_icmp .le 13, 3) := by decide +kernel
theorem dX4_inject_19 : decode cX4_inject 19 = .ok (.new 37, 3) := by decide +kernel
theorem dX4_inject_22 : decode cX4_inject 22 = .ok (.dup, 1) := by decide +kernel
theorem dX4_inject_23 : decode cX4_inject 23 = .ok (.ldc 101, 2) := by decide +kernel
theorem dX4_inject_25 : decode cX4_inject 25 = .ok (.invokespecial 41, 3) := by decide +kernel
theorem dX4_inject_28 : decode cX4_inject 28 = .ok (.athrow, 1) := by decide +kernel
theorem dX4_inject_29 : decode cX4_inject 29 = .ok (.iconst 0, 1) := by decide +kernel
theorem dX4_inject_30 : decode cX4_inject 30 = .ok (.istore 4, 2) := by decide +kernel
theorem dX4_inject_32 : decode cX4_inject 32 = .ok (.iconst 0, 1) := by decide +kernel
theorem dX4_inject_33 : decode cX4_inject 33 = .ok (.istore 5, 2) := by decide +kernel
theorem dX4_inject_35 : decode cX4_inject 35 = .ok (.iload 5, 2) := by decide +kernel
theorem dX4_inject_37 : decode cX4_inject 37 = .ok (.aload_n 0, 1) := by decide +kernel
theorem dX4_inject_38 : decode cX4_inject 38 = .ok (.getfield 10, 3) := by decide +kernel
theorem dX4_inject_41 : decode cX4_inject 41 = .ok (.getfield 44, 3) := by decide +kernel
theorem dX4_inject_44 : decode cX4_inject 44 = .ok (.if_icmp .ge 43, 3) := by decide +kernel
theorem dX4_inject_47 : decode cX4_inject 47 = .ok (.aload_n 0, 1) := by decide +kernel
theorem dX4_inject_48 : decode cX4_inject 48 = .ok (.getfield 10, 3) := by decide +kernel
theorem dX4_inject_51 : decode cX4_inject 51 = .ok (.getfield 44, 3) := by decide +kernel
theorem dX4_inject_54 : decode cX4_inject 54 = .ok (.iload_n 1, 1) := by decide +kernel
theorem dX4_inject_55 : decode cX4_inject 55 = .ok (.iload 5, 2) := by decide +kernel
theorem dX4_inject_57 : decode cX4_inject 57 = .ok (.invokestatic 103, 3) := by decide +kernel
theorem dX4_inject_60 : decode cX4_inject 60 = .ok (.istore 6, 2) := by decide +kernel
theorem dX4_inject_62 : decode cX4_inject 62 = .ok (.iload 4, 2) := by decide +kernel
theorem dX4_inject_64 : decode cX4_inject 64 = .ok (.aload_n 0, 1) := by decide +kernel
theorem dX4_inject_65 : decode cX4_inject 65 = .ok (.getfield 10, 3) := by decide +kernel
theorem dX4_inject_68 : decode cX4_inject 68 = .ok (.iload 5, 2) := by decide +kernel
theorem dX4_inject_70 : decode cX4_inject 70 = .ok (.iload_n 2, 1) := by decide +kernel
theorem dX4_inject_71 : decode cX4_inject 71 = .ok (.iload 6, 2) := by decide +kernel
theorem dX4_inject_73 : decode cX4_inject 73 = .ok (.iadd, 1) := by decide +kernel
theorem dX4_inject_74 : decode cX4_inject 74 = .ok (.iload_n 3, 1) := by decide +kernel
theorem dX4_inject_75 : decode cX4_inject 75 = .ok (.invokevirtual 107, 3) := by decide +kernel
theorem dX4_inject_78 : decode cX4_inject 78 = .ok (.iadd, 1) := by decide +kernel
theorem dX4_inject_79 : decode cX4_inject 79 = .ok (.istore 4, 2) := by decide +kernel
theorem dX4_inject_81 : decode cX4_inject 81 = .ok (.iinc 5 1, 3) := by decide +kernel
theorem dX4_inject_84 : decode cX4_inject 84 = .ok (.goto (-49), 3) := by decide +kernel
theorem dX4_inject_87 : decode cX4_inject 87 = .ok (.aload_n 0, 1) := by decide +kernel
theorem dX4_inject_88 : decode cX4_inject 88 = .ok (.invokevirtual 52, 3) := by decide +kernel
theorem dX4_inject_91 : decode cX4_inject 91 = .ok (.iload 4, 2) := by decide +kernel
theorem dX4_inject_93 : decode cX4_inject 93 = .ok (.ireturn, 1) := by decide +kernel
theorem dX4_power_0 : decode cX4_power 0 = .ok (.aload_n 0, 1) := by decide +kernel
theorem dX4_power_1 : decode cX4_power 1 = .ok (.iload_n 1, 1) := by decide +kernel
theorem dX4_power_2 : decode cX4_power 2 = .ok (.invokevirtual 55, 3) := by decide +kernel
theorem dX4_power_5 : decode cX4_power 5 = .ok (.aload_n 0, 1) := by decide +kernel
theorem dX4_power_6 : decode cX4_power 6 = .ok (.iload_n 2, 1) := by decide +kernel
theorem dX4_power_7 : decode cX4_power 7 = .ok (.invokevirtual 110, 3) := by decide +kernel
theorem dX4_power_10 : decode cX4_power 10 = .ok (.aload_n 0, 1) := by decide +kernel
theorem dX4_power_11 : decode cX4_power 11 = .ok (.getfield 10, 3) := by decide +kernel
theorem dX4_power_14 : decode cX4_power 14 = .ok (.iload_n 1, 1) := by decide +kernel
theorem dX4_power_15 : decode cX4_power 15 = .ok (.iload_n 2, 1) := by decide +kernel
theorem dX4_power_16 : decode cX4_power 16 = .ok (.invokevirtual 113, 3) := by decide +kernel
theorem dX4_power_19 : decode cX4_power 19 = .ok (.ireturn, 1) := by decide +kernel
theorem dX4_count_0 : decode cX4_count 0 = .ok (.iload_n 1, 1) := by decide +kernel
theorem dX4_count_1 : decode cX4_count 1 = .ok (.tableswitch 75 0 4 #[35, 43, 51, 59, 67], 35) := by decide +kernel
theorem dX4_count_36 : decode cX4_count 36 = .ok (.aload_n 0, 1) := by decide +kernel
theorem dX4_count_37 : decode cX4_count 37 = .ok (.getfield 10, 3) := by decide +kernel
theorem dX4_count_40 : decode cX4_count 40 = .ok (.getfield 44, 3) := by decide +kernel
theorem dX4_count_43 : decode cX4_count 43 = .ok (.ireturn, 1) := by decide +kernel
theorem dX4_count_44 : decode cX4_count 44 = .ok (.aload_n 0, 1) := by decide +kernel
theorem dX4_count_45 : decode cX4_count 45 = .ok (.getfield 10, 3) := by decide +kernel
theorem dX4_count_48 : decode cX4_count 48 = .ok (.getfield 67, 3) := by decide +kernel
theorem dX4_count_51 : decode cX4_count 51 = .ok (.ireturn, 1) := by decide +kernel
theorem dX4_count_52 : decode cX4_count 52 = .ok (.aload_n 0, 1) := by decide +kernel
theorem dX4_count_53 : decode cX4_count 53 = .ok (.getfield 10, 3) := by decide +kernel
theorem dX4_count_56 : decode cX4_count 56 = .ok (.getfield 117, 3) := by decide +kernel
theorem dX4_count_59 : decode cX4_count 59 = .ok (.ireturn, 1) := by decide +kernel
theorem dX4_count_60 : decode cX4_count 60 = .ok (.aload_n 0, 1) := by decide +kernel
theorem dX4_count_61 : decode cX4_count 61 = .ok (.getfield 10, 3) := by decide +kernel
theorem dX4_count_64 : decode cX4_count 64 = .ok (.invokevirtual 120, 3) := by decide +kernel
theorem dX4_count_67 : decode cX4_count 67 = .ok (.ireturn, 1) := by decide +kernel
theorem dX4_count_68 : decode cX4_count 68 = .ok (.aload_n 0, 1) := by decide +kernel
theorem dX4_count_69 : decode cX4_count 69 = .ok (.getfield 33, 3) := by decide +kernel
theorem dX4_count_72 : decode cX4_count 72 = .ok (.getfield 123, 3) := by decide +kernel
theorem dX4_count_75 : decode cX4_count 75 = .ok (.ireturn, 1) := by decide +kernel
theorem dX4_count_76 : decode cX4_count 76 = .ok (.new 37, 3) := by decide +kernel
theorem dX4_count_79 : decode cX4_count 79 = .ok (.dup, 1) := by decide +kernel
theorem dX4_count_80 : decode cX4_count 80 = .ok (.ldc 126, 2) := by decide +kernel
theorem dX4_count_82 : decode cX4_count 82 = .ok (.invokespecial 41, 3) := by decide +kernel
theorem dX4_count_85 : decode cX4_count 85 = .ok (.athrow, 1) := by decide +kernel
theorem dX4_setMasked_0 : decode cX4_setMasked 0 = .ok (.aload_n 0, 1) := by decide +kernel
theorem dX4_setMasked_1 : decode cX4_setMasked 1 = .ok (.iload_n 1, 1) := by decide +kernel
theorem dX4_setMasked_2 : decode cX4_setMasked 2 = .ok (.invokevirtual 55, 3) := by decide +kernel
theorem dX4_setMasked_5 : decode cX4_setMasked 5 = .ok (.aload_n 0, 1) := by decide +kernel
theorem dX4_setMasked_6 : decode cX4_setMasked 6 = .ok (.getfield 10, 3) := by decide +kernel
theorem dX4_setMasked_9 : decode cX4_setMasked 9 = .ok (.getfield 128, 3) := by decide +kernel
theorem dX4_setMasked_12 : decode cX4_setMasked 12 = .ok (.iload_n 1, 1) := by decide +kernel
theorem dX4_setMasked_13 : decode cX4_setMasked 13 = .ok (.baload, 1) := by decide +kernel
theorem dX4_setMasked_14 : decode cX4_setMasked 14 = .ok (.istore_n 3, 1) := by decide +kernel
theorem dX4_setMasked_15 : decode cX4_setMasked 15 = .ok (.aload_n 0, 1) := by decide +kernel
theorem dX4_setMasked_16 : decode cX4_setMasked 16 = .ok (.getfield 10, 3) := by decide +kernel
theorem dX4_setMasked_19 : decode cX4_setMasked 19 = .ok (.getfield 128, 3) := by decide +kernel
theorem dX4_setMasked_22 : decode cX4_setMasked 22 = .ok (.iload_n 1, 1) := by decide +kernel
theorem dX4_setMasked_23 : decode cX4_setMasked 23 = .ok (.iload_n 2, 1) := by decide +kernel
theorem dX4_setMasked_24 : decode cX4_setMasked 24 = .ok (.bastore, 1) := by decide +kernel
theorem dX4_setMasked_25 : decode cX4_setMasked 25 = .ok (.aload_n 0, 1) := by decide +kernel
theorem dX4_setMasked_26 : decode cX4_setMasked 26 = .ok (.invokevirtual 52, 3) := by decide +kernel
theorem dX4_setMasked_29 : decode cX4_setMasked 29 = .ok (.iload_n 3, 1) := by decide +kernel
theorem dX4_setMasked_30 : decode cX4_setMasked 30 = .ok (.ireturn, 1) := by decide +kernel
theorem dX4_channelSum_0 : decode cX4_channelSum 0 = .ok (.aload_n 0, 1) := by decide +kernel
theorem dX4_channelSum_1 : decode cX4_channelSum 1 = .ok (.iload_n 1, 1) := by decide +kernel
theorem dX4_channelSum_2 : decode cX4_channelSum 2 = .ok (.invokevirtual 55, 3) := by decide +kernel
theorem dX4_channelSum_5 : decode cX4_channelSum 5 = .ok (.aload_n 0, 1) := by decide +kernel
theorem dX4_channelSum_6 : decode cX4_channelSum 6 = .ok (.getfield 10, 3) := by decide +kernel
theorem dX4_channelSum_9 : decode cX4_channelSum 9 = .ok (.iload_n 1, 1) := by decide +kernel
theorem dX4_channelSum_10 : decode cX4_channelSum 10 = .ok (.invokevirtual 132, 3) := by decide +kernel
theorem dX4_channelSum_13 : decode cX4_channelSum 13 = .ok (.ireturn, 1) := by decide +kernel
theorem dX4_strike_0 : decode cX4_strike 0 = .ok (.iload_n 1, 1) := by decide +kernel
theorem dX4_strike_1 : decode cX4_strike 1 = .ok (.ifCond .lt 14, 3) := by decide +kernel
theorem dX4_strike_4 : decode cX4_strike 4 = .ok (.iload_n 1, 1) := by decide +kernel
theorem dX4_strike_5 : decode cX4_strike 5 = .ok (.aload_n 0, 1) := by decide +kernel
theorem dX4_strike_6 : decode cX4_strike 6 = .ok (.getfield 10, 3) := by decide +kernel
theorem dX4_strike_9 : decode cX4_strike 9 = .ok (.getfield 44, 3) := by decide +kernel
theorem dX4_strike_12 : decode cX4_strike 12 = .ok (.if_icmp .le 13, 3) := by decide +kernel
theorem dX4_strike_15 : decode cX4_strike 15 = .ok (.new 37, 3) := by decide +kernel
theorem dX4_strike_18 : decode cX4_strike 18 = .ok (.dup, 1) := by decide +kernel
theorem dX4_strike_19 : decode cX4_strike 19 = .ok (.ldc 136, 2) := by decide +kernel
theorem dX4_strike_21 : decode cX4_strike 21 = .ok (.invokespecial 41, 3) := by decide +kernel
theorem dX4_strike_24 : decode cX4_strike 24 = .ok (.athrow, 1) := by decide +kernel
theorem dX4_strike_25 : decode cX4_strike 25 = .ok (.iconst 0, 1) := by decide +kernel
theorem dX4_strike_26 : decode cX4_strike 26 = .ok (.istore_n 2, 1) := by decide +kernel
theorem dX4_strike_27 : decode cX4_strike 27 = .ok (.iconst 0, 1) := by decide +kernel
theorem dX4_strike_28 : decode cX4_strike 28 = .ok (.istore_n 3, 1) := by decide +kernel
theorem dX4_strike_29 : decode cX4_strike 29 = .ok (.iload_n 3, 1) := by decide +kernel
theorem dX4_strike_30 : decode cX4_strike 30 = .ok (.iload_n 1, 1) := by decide +kernel
theorem dX4_strike_31 : decode cX4_strike 31 = .ok (.if_icmp .ge 45, 3) := by decide +kernel
theorem dX4_strike_34 : decode cX4_strike 34 = .ok (.aload_n 0, 1) := by decide +kernel
theorem dX4_strike_35 : decode cX4_strike 35 = .ok (.getfield 10, 3) := by decide +kernel
theorem dX4_strike_38 : decode cX4_strike 38 = .ok (.invokevirtual 138, 3) := by decide +kernel
theorem dX4_strike_41 : decode cX4_strike 41 = .ok (.istore 4, 2) := by decide +kernel
theorem dX4_strike_43 : decode cX4_strike 43 = .ok (.iload 4, 2) := by decide +kernel
theorem dX4_strike_45 : decode cX4_strike 45 = .ok (.iconst (-1), 1) := by decide +kernel
theorem dX4_strike_46 : decode cX4_strike 46 = .ok (.if_icmp .ne 6, 3) := by decide +kernel
theorem dX4_strike_49 : decode cX4_strike 49 = .ok (.goto 27, 3) := by decide +kernel
theorem dX4_strike_52 : decode cX4_strike 52 = .ok (.aload_n 0, 1) := by decide +kernel
theorem dX4_strike_53 : decode cX4_strike 53 = .ok (.getfield 10, 3) := by decide +kernel
theorem dX4_strike_56 : decode cX4_strike 56 = .ok (.getfield 128, 3) := by decide +kernel
theorem dX4_strike_59 : decode cX4_strike 59 = .ok (.iload 4, 2) := by decide +kernel
theorem dX4_strike_61 : decode cX4_strike 61 = .ok (.iconst 1, 1) := by decide +kernel
theorem dX4_strike_62 : decode cX4_strike 62 = .ok (.bastore, 1) := by decide +kernel
theorem dX4_strike_63 : decode cX4_strike 63 = .ok (.iload_n 2, 1) := by decide +kernel
theorem dX4_strike_64 : decode cX4_strike 64 = .ok (.iconst 1, 1) := by decide +kernel
theorem dX4_strike_65 : decode cX4_strike 65 = .ok (.iload 4, 2) := by decide +kernel
theorem dX4_strike_67 : decode cX4_strike 67 = .ok (.ishl, 1) := by decide +kernel
theorem dX4_strike_68 : decode cX4_strike 68 = .ok (.ior, 1) := by decide +kernel
theorem dX4_strike_69 : decode cX4_strike 69 = .ok (.istore_n 2, 1) := by decide +kernel
theorem dX4_strike_70 : decode cX4_strike 70 = .ok (.iinc 3 1, 3) := by decide +kernel
theorem dX4_strike_73 : decode cX4_strike 73 = .ok (.goto (-44), 3) := by decide +kernel
theorem dX4_strike_76 : decode cX4_strike 76 = .ok (.aload_n 0, 1) := by decide +kernel
theorem dX4_strike_77 : decode cX4_strike 77 = .ok (.invokevirtual 52, 3) := by decide +kernel
theorem dX4_strike_80 : decode cX4_strike 80 = .ok (.iload_n 2, 1) := by decide +kernel
theorem dX4_strike_81 : decode cX4_strike 81 = .ok (.ireturn, 1) := by decide +kernel
theorem dX4_offset_0 : decode cX4_offset 0 = .ok (.aload_n 0, 1) := by decide +kernel
theorem dX4_offset_1 : decode cX4_offset 1 = .ok (.iload_n 1, 1) := by decide +kernel
theorem dX4_offset_2 : decode cX4_offset 2 = .ok (.invokevirtual 141, 3) := by decide +kernel
theorem dX4_offset_5 : decode cX4_offset 5 = .ok (.aload_n 0, 1) := by decide +kernel
theorem dX4_offset_6 : decode cX4_offset 6 = .ok (.iload_n 2, 1) := by decide +kernel
theorem dX4_offset_7 : decode cX4_offset 7 = .ok (.invokevirtual 55, 3) := by decide +kernel
theorem dX4_offset_10 : decode cX4_offset 10 = .ok (.iload_n 3, 1) := by decide +kernel
theorem dX4_offset_11 : decode cX4_offset 11 = .ok (.ifCond .eq 18, 3) := by decide +kernel
theorem dX4_offset_14 : decode cX4_offset 14 = .ok (.aload_n 0, 1) := by decide +kernel
theorem dX4_offset_15 : decode cX4_offset 15 = .ok (.getfield 10, 3) := by decide +kernel
theorem dX4_offset_18 : decode cX4_offset 18 = .ok (.getfield 44, 3) := by decide +kernel
theorem dX4_offset_21 : decode cX4_offset 21 = .ok (.iload_n 1, 1) := by decide +kernel
theorem dX4_offset_22 : decode cX4_offset 22 = .ok (.iload_n 2, 1) := by decide +kernel
theorem dX4_offset_23 : decode cX4_offset 23 = .ok (.invokestatic 103, 3) := by decide +kernel
theorem dX4_offset_26 : decode cX4_offset 26 = .ok (.goto 15, 3) := by decide +kernel
theorem dX4_offset_29 : decode cX4_offset 29 = .ok (.aload_n 0, 1) := by decide +kernel
theorem dX4_offset_30 : decode cX4_offset 30 = .ok (.getfield 10, 3) := by decide +kernel
theorem dX4_offset_33 : decode cX4_offset 33 = .ok (.getfield 44, 3) := by decide +kernel
theorem dX4_offset_36 : decode cX4_offset 36 = .ok (.iload_n 1, 1) := by decide +kernel
theorem dX4_offset_37 : decode cX4_offset 37 = .ok (.iload_n 2, 1) := by decide +kernel
theorem dX4_offset_38 : decode cX4_offset 38 = .ok (.invokestatic 144, 3) := by decide +kernel
theorem dX4_offset_41 : decode cX4_offset 41 = .ok (.ireturn, 1) := by decide +kernel
theorem dX4_bend_0 : decode cX4_bend 0 = .ok (.aload_n 0, 1) := by decide +kernel
theorem dX4_bend_1 : decode cX4_bend 1 = .ok (.iload_n 1, 1) := by decide +kernel
theorem dX4_bend_2 : decode cX4_bend 2 = .ok (.invokevirtual 141, 3) := by decide +kernel
theorem dX4_bend_5 : decode cX4_bend 5 = .ok (.aload_n 0, 1) := by decide +kernel
theorem dX4_bend_6 : decode cX4_bend 6 = .ok (.getfield 10, 3) := by decide +kernel
theorem dX4_bend_9 : decode cX4_bend 9 = .ok (.getfield 44, 3) := by decide +kernel
theorem dX4_bend_12 : decode cX4_bend 12 = .ok (.iload_n 1, 1) := by decide +kernel
theorem dX4_bend_13 : decode cX4_bend 13 = .ok (.invokestatic 147, 3) := by decide +kernel
theorem dX4_bend_16 : decode cX4_bend 16 = .ok (.ireturn, 1) := by decide +kernel
theorem dX4_lineSum_0 : decode cX4_lineSum 0 = .ok (.aload_n 0, 1) := by decide +kernel
theorem dX4_lineSum_1 : decode cX4_lineSum 1 = .ok (.iload_n 1, 1) := by decide +kernel
theorem dX4_lineSum_2 : decode cX4_lineSum 2 = .ok (.iload_n 2, 1) := by decide +kernel
theorem dX4_lineSum_3 : decode cX4_lineSum 3 = .ok (.iconst 1, 1) := by decide +kernel
theorem dX4_lineSum_4 : decode cX4_lineSum 4 = .ok (.invokevirtual 97, 3) := by decide +kernel
theorem dX4_lineSum_7 : decode cX4_lineSum 7 = .ok (.iload_n 3, 1) := by decide +kernel
theorem dX4_lineSum_8 : decode cX4_lineSum 8 = .ok (.ifCond .eq 10, 3) := by decide +kernel
theorem dX4_lineSum_11 : decode cX4_lineSum 11 = .ok (.aload_n 0, 1) := by decide +kernel
theorem dX4_lineSum_12 : decode cX4_lineSum 12 = .ok (.iload_n 1, 1) := by decide +kernel
theorem dX4_lineSum_13 : decode cX4_lineSum 13 = .ok (.iload_n 2, 1) := by decide +kernel
theorem dX4_lineSum_14 : decode cX4_lineSum 14 = .ok (.invokevirtual 150, 3) := by decide +kernel
theorem dX4_lineSum_17 : decode cX4_lineSum 17 = .ok (.ireturn, 1) := by decide +kernel
theorem dX4_lineSum_18 : decode cX4_lineSum 18 = .ok (.aload_n 0, 1) := by decide +kernel
theorem dX4_lineSum_19 : decode cX4_lineSum 19 = .ok (.getfield 26, 3) := by decide +kernel
theorem dX4_lineSum_22 : decode cX4_lineSum 22 = .ok (.aload_n 0, 1) := by decide +kernel
theorem dX4_lineSum_23 : decode cX4_lineSum 23 = .ok (.getfield 10, 3) := by decide +kernel
theorem dX4_lineSum_26 : decode cX4_lineSum 26 = .ok (.invokevirtual 153, 3) := by decide +kernel
theorem dX4_lineSum_29 : decode cX4_lineSum 29 = .ok (.aload_n 0, 1) := by decide +kernel
theorem dX4_lineSum_30 : decode cX4_lineSum 30 = .ok (.getfield 26, 3) := by decide +kernel
theorem dX4_lineSum_33 : decode cX4_lineSum 33 = .ok (.iload_n 1, 1) := by decide +kernel
theorem dX4_lineSum_34 : decode cX4_lineSum 34 = .ok (.iload_n 2, 1) := by decide +kernel
theorem dX4_lineSum_35 : decode cX4_lineSum 35 = .ok (.invokevirtual 157, 3) := by decide +kernel
theorem dX4_lineSum_38 : decode cX4_lineSum 38 = .ok (.ireturn, 1) := by decide +kernel
theorem dX4_mean_0 : decode cX4_mean 0 = .ok (.aload_n 0, 1) := by decide +kernel
theorem dX4_mean_1 : decode cX4_mean 1 = .ok (.iload_n 1, 1) := by decide +kernel
theorem dX4_mean_2 : decode cX4_mean 2 = .ok (.invokevirtual 141, 3) := by decide +kernel
theorem dX4_mean_5 : decode cX4_mean 5 = .ok (.aload_n 0, 1) := by decide +kernel
theorem dX4_mean_6 : decode cX4_mean 6 = .ok (.getfield 26, 3) := by decide +kernel
theorem dX4_mean_9 : decode cX4_mean 9 = .ok (.aload_n 0, 1) := by decide +kernel
theorem dX4_mean_10 : decode cX4_mean 10 = .ok (.getfield 10, 3) := by decide +kernel
theorem dX4_mean_13 : decode cX4_mean 13 = .ok (.invokevirtual 153, 3) := by decide +kernel
theorem dX4_mean_16 : decode cX4_mean 16 = .ok (.aload_n 0, 1) := by decide +kernel
theorem dX4_mean_17 : decode cX4_mean 17 = .ok (.getfield 26, 3) := by decide +kernel
theorem dX4_mean_20 : decode cX4_mean 20 = .ok (.iload_n 1, 1) := by decide +kernel
theorem dX4_mean_21 : decode cX4_mean 21 = .ok (.invokevirtual 160, 3) := by decide +kernel
theorem dX4_mean_24 : decode cX4_mean 24 = .ok (.istore_n 2, 1) := by decide +kernel
theorem dX4_mean_25 : decode cX4_mean 25 = .ok (.iload_n 2, 1) := by decide +kernel
theorem dX4_mean_26 : decode cX4_mean 26 = .ok (.iconst 1, 1) := by decide +kernel
theorem dX4_mean_27 : decode cX4_mean 27 = .ok (.if_icmp .ge 5, 3) := by decide +kernel
theorem dX4_mean_30 : decode cX4_mean 30 = .ok (.dconst 0, 1) := by decide +kernel
theorem dX4_mean_31 : decode cX4_mean 31 = .ok (.dreturn, 1) := by decide +kernel
theorem dX4_mean_32 : decode cX4_mean 32 = .ok (.aload_n 0, 1) := by decide +kernel
theorem dX4_mean_33 : decode cX4_mean 33 = .ok (.getfield 26, 3) := by decide +kernel
theorem dX4_mean_36 : decode cX4_mean 36 = .ok (.getfield 163, 3) := by decide +kernel
theorem dX4_mean_39 : decode cX4_mean 39 = .ok (.iload_n 1, 1) := by decide +kernel
theorem dX4_mean_40 : decode cX4_mean 40 = .ok (.laload, 1) := by decide +kernel
theorem dX4_mean_41 : decode cX4_mean 41 = .ok (.l2d, 1) := by decide +kernel
theorem dX4_mean_42 : decode cX4_mean 42 = .ok (.iload_n 2, 1) := by decide +kernel
theorem dX4_mean_43 : decode cX4_mean 43 = .ok (.i2d, 1) := by decide +kernel
theorem dX4_mean_44 : decode cX4_mean 44 = .ok (.ddiv, 1) := by decide +kernel
theorem dX4_mean_45 : decode cX4_mean 45 = .ok (.dreturn, 1) := by decide +kernel
theorem dX4_boxSum_0 : decode cX4_boxSum 0 = .ok (.iload_n 3, 1) := by decide +kernel
theorem dX4_boxSum_1 : decode cX4_boxSum 1 = .ok (.invokestatic 167, 3) := by decide +kernel
theorem dX4_boxSum_4 : decode cX4_boxSum 4 = .ok (.aload_n 0, 1) := by decide +kernel
theorem dX4_boxSum_5 : decode cX4_boxSum 5 = .ok (.iload_n 1, 1) := by decide +kernel
theorem dX4_boxSum_6 : decode cX4_boxSum 6 = .ok (.iload_n 2, 1) := by decide +kernel
theorem dX4_boxSum_7 : decode cX4_boxSum 7 = .ok (.iload_n 3, 1) := by decide +kernel
theorem dX4_boxSum_8 : decode cX4_boxSum 8 = .ok (.invokevirtual 97, 3) := by decide +kernel
theorem dX4_boxSum_11 : decode cX4_boxSum 11 = .ok (.aload_n 0, 1) := by decide +kernel
theorem dX4_boxSum_12 : decode cX4_boxSum 12 = .ok (.getfield 26, 3) := by decide +kernel
theorem dX4_boxSum_15 : decode cX4_boxSum 15 = .ok (.aload_n 0, 1) := by decide +kernel
theorem dX4_boxSum_16 : decode cX4_boxSum 16 = .ok (.getfield 10, 3) := by decide +kernel
theorem dX4_boxSum_19 : decode cX4_boxSum 19 = .ok (.invokevirtual 153, 3) := by decide +kernel
theorem dX4_boxSum_22 : decode cX4_boxSum 22 = .ok (.aload_n 0, 1) := by decide +kernel
theorem dX4_boxSum_23 : decode cX4_boxSum 23 = .ok (.getfield 26, 3) := by decide +kernel
theorem dX4_boxSum_26 : decode cX4_boxSum 26 = .ok (.iload_n 1, 1) := by decide +kernel
theorem dX4_boxSum_27 : decode cX4_boxSum 27 = .ok (.iload_n 2, 1) := by decide +kernel
theorem dX4_boxSum_28 : decode cX4_boxSum 28 = .ok (.iload_n 3, 1) := by decide +kernel
theorem dX4_boxSum_29 : decode cX4_boxSum 29 = .ok (.invokevirtual 170, 3) := by decide +kernel
theorem dX4_boxSum_32 : decode cX4_boxSum 32 = .ok (.ireturn, 1) := by decide +kernel
theorem dX4_score_0 : decode cX4_score 0 = .ok (.iload_n 3, 1) := by decide +kernel
theorem dX4_score_1 : decode cX4_score 1 = .ok (.invokestatic 167, 3) := by decide +kernel
theorem dX4_score_4 : decode cX4_score 4 = .ok (.aload_n 0, 1) := by decide +kernel
theorem dX4_score_5 : decode cX4_score 5 = .ok (.iload_n 1, 1) := by decide +kernel
theorem dX4_score_6 : decode cX4_score 6 = .ok (.iload_n 2, 1) := by decide +kernel
theorem dX4_score_7 : decode cX4_score 7 = .ok (.iload_n 3, 1) := by decide +kernel
theorem dX4_score_8 : decode cX4_score 8 = .ok (.invokevirtual 97, 3) := by decide +kernel
theorem dX4_score_11 : decode cX4_score 11 = .ok (.aload_n 0, 1) := by decide +kernel
theorem dX4_score_12 : decode cX4_score 12 = .ok (.getfield 26, 3) := by decide +kernel
theorem dX4_score_15 : decode cX4_score 15 = .ok (.aload_n 0, 1) := by decide +kernel
theorem dX4_score_16 : decode cX4_score 16 = .ok (.getfield 10, 3) := by decide +kernel
theorem dX4_score_19 : decode cX4_score 19 = .ok (.invokevirtual 153, 3) := by decide +kernel
theorem dX4_score_22 : decode cX4_score 22 = .ok (.aload_n 0, 1) := by decide +kernel
theorem dX4_score_23 : decode cX4_score 23 = .ok (.getfield 26, 3) := by decide +kernel
theorem dX4_score_26 : decode cX4_score 26 = .ok (.iload_n 1, 1) := by decide +kernel
theorem dX4_score_27 : decode cX4_score 27 = .ok (.iload_n 3, 1) := by decide +kernel
theorem dX4_score_28 : decode cX4_score 28 = .ok (.aload_n 0, 1) := by decide +kernel
theorem dX4_score_29 : decode cX4_score 29 = .ok (.getfield 26, 3) := by decide +kernel
theorem dX4_score_32 : decode cX4_score 32 = .ok (.iload_n 1, 1) := by decide +kernel
theorem dX4_score_33 : decode cX4_score 33 = .ok (.iload_n 2, 1) := by decide +kernel
theorem dX4_score_34 : decode cX4_score 34 = .ok (.iload_n 3, 1) := by decide +kernel
theorem dX4_score_35 : decode cX4_score 35 = .ok (.invokevirtual 170, 3) := by decide +kernel
theorem dX4_score_38 : decode cX4_score 38 = .ok (.i2l, 1) := by decide +kernel
theorem dX4_score_39 : decode cX4_score 39 = .ok (.invokevirtual 173, 3) := by decide +kernel
theorem dX4_score_42 : decode cX4_score 42 = .ok (.lreturn, 1) := by decide +kernel
theorem dX4_find_0 : decode cX4_find 0 = .ok (.lload_n 1, 1) := by decide +kernel
theorem dX4_find_1 : decode cX4_find 1 = .ok (.lconst 0, 1) := by decide +kernel
theorem dX4_find_2 : decode cX4_find 2 = .ok (.lcmp, 1) := by decide +kernel
theorem dX4_find_3 : decode cX4_find 3 = .ok (.ifCond .ge 13, 3) := by decide +kernel
theorem dX4_find_6 : decode cX4_find 6 = .ok (.new 37, 3) := by decide +kernel
theorem dX4_find_9 : decode cX4_find 9 = .ok (.dup, 1) := by decide +kernel
theorem dX4_find_10 : decode cX4_find 10 = .ok (.ldc 177, 2) := by decide +kernel
theorem dX4_find_12 : decode cX4_find 12 = .ok (.invokespecial 41, 3) := by decide +kernel
theorem dX4_find_15 : decode cX4_find 15 = .ok (.athrow, 1) := by decide +kernel
theorem dX4_find_16 : decode cX4_find 16 = .ok (.iload_n 3, 1) := by decide +kernel
theorem dX4_find_17 : decode cX4_find 17 = .ok (.invokestatic 167, 3) := by decide +kernel
theorem dX4_find_20 : decode cX4_find 20 = .ok (.aload_n 0, 1) := by decide +kernel
theorem dX4_find_21 : decode cX4_find 21 = .ok (.getfield 26, 3) := by decide +kernel
theorem dX4_find_24 : decode cX4_find 24 = .ok (.aload_n 0, 1) := by decide +kernel
theorem dX4_find_25 : decode cX4_find 25 = .ok (.getfield 10, 3) := by decide +kernel
theorem dX4_find_28 : decode cX4_find 28 = .ok (.invokevirtual 153, 3) := by decide +kernel
theorem dX4_find_31 : decode cX4_find 31 = .ok (.aload_n 0, 1) := by decide +kernel
theorem dX4_find_32 : decode cX4_find 32 = .ok (.getfield 33, 3) := by decide +kernel
theorem dX4_find_35 : decode cX4_find 35 = .ok (.iconst 0, 1) := by decide +kernel
theorem dX4_find_36 : decode cX4_find 36 = .ok (.putfield 123, 3) := by decide +kernel
theorem dX4_find_39 : decode cX4_find 39 = .ok (.lload_n 1, 1) := by decide +kernel
theorem dX4_find_40 : decode cX4_find 40 = .ok (.lconst 1, 1) := by decide +kernel
theorem dX4_find_41 : decode cX4_find 41 = .ok (.invokestatic 179, 3) := by decide +kernel
theorem dX4_find_44 : decode cX4_find 44 = .ok (.lstore 4, 2) := by decide +kernel
theorem dX4_find_46 : decode cX4_find 46 = .ok (.iconst 0, 1) := by decide +kernel
theorem dX4_find_47 : decode cX4_find 47 = .ok (.istore 6, 2) := by decide +kernel
theorem dX4_find_49 : decode cX4_find 49 = .ok (.iload 6, 2) := by decide +kernel
theorem dX4_find_51 : decode cX4_find 51 = .ok (.bipush 8, 2) := by decide +kernel
theorem dX4_find_53 : decode cX4_find 53 = .ok (.if_icmp .ge 29, 3) := by decide +kernel
theorem dX4_find_56 : decode cX4_find 56 = .ok (.aload_n 0, 1) := by decide +kernel
theorem dX4_find_57 : decode cX4_find 57 = .ok (.getfield 33, 3) := by decide +kernel
theorem dX4_find_60 : decode cX4_find 60 = .ok (.aload_n 0, 1) := by decide +kernel
theorem dX4_find_61 : decode cX4_find 61 = .ok (.getfield 26, 3) := by decide +kernel
theorem dX4_find_64 : decode cX4_find 64 = .ok (.lload 4, 2) := by decide +kernel
theorem dX4_find_66 : decode cX4_find 66 = .ok (.iload_n 3, 1) := by decide +kernel
theorem dX4_find_67 : decode cX4_find 67 = .ok (.invokevirtual 185, 3) := by decide +kernel
theorem dX4_find_70 : decode cX4_find 70 = .ok (.ifCond .ne 6, 3) := by decide +kernel
theorem dX4_find_73 : decode cX4_find 73 = .ok (.goto 9, 3) := by decide +kernel
theorem dX4_find_76 : decode cX4_find 76 = .ok (.iinc 6 1, 3) := by decide +kernel
theorem dX4_find_79 : decode cX4_find 79 = .ok (.goto (-30), 3) := by decide +kernel
theorem dX4_find_82 : decode cX4_find 82 = .ok (.aload_n 0, 1) := by decide +kernel
theorem dX4_find_83 : decode cX4_find 83 = .ok (.getfield 33, 3) := by decide +kernel
theorem dX4_find_86 : decode cX4_find 86 = .ok (.getfield 123, 3) := by decide +kernel
theorem dX4_find_89 : decode cX4_find 89 = .ok (.ireturn, 1) := by decide +kernel
theorem dX4_candidate_0 : decode cX4_candidate 0 = .ok (.iload_n 1, 1) := by decide +kernel
theorem dX4_candidate_1 : decode cX4_candidate 1 = .ok (.ifCond .lt 14, 3) := by decide +kernel
theorem dX4_candidate_4 : decode cX4_candidate 4 = .ok (.iload_n 1, 1) := by decide +kernel
theorem dX4_candidate_5 : decode cX4_candidate 5 = .ok (.aload_n 0, 1) := by decide +kernel
theorem dX4_candidate_6 : decode cX4_candidate 6 = .ok (.getfield 33, 3) := by decide +kernel
theorem dX4_candidate_9 : decode cX4_candidate 9 = .ok (.getfield 123, 3) := by decide +kernel
theorem dX4_candidate_12 : decode cX4_candidate 12 = .ok (.if_icmp .lt 13, 3) := by decide +kernel
theorem dX4_candidate_15 : decode cX4_candidate 15 = .ok (.new 189, 3) := by decide +kernel
theorem dX4_candidate_18 : decode cX4_candidate 18 = .ok (.dup, 1) := by decide +kernel
theorem dX4_candidate_19 : decode cX4_candidate 19 = .ok (.ldc 191, 2) := by decide +kernel
theorem dX4_candidate_21 : decode cX4_candidate 21 = .ok (.invokespecial 193, 3) := by decide +kernel
theorem dX4_candidate_24 : decode cX4_candidate 24 = .ok (.athrow, 1) := by decide +kernel
theorem dX4_candidate_25 : decode cX4_candidate 25 = .ok (.iload_n 2, 1) := by decide +kernel
theorem dX4_candidate_26 : decode cX4_candidate 26 = .ok (.tableswitch 96 0 4 #[34, 45, 56, 67, 77], 34) := by decide +kernel
theorem dX4_candidate_60 : decode cX4_candidate 60 = .ok (.aload_n 0, 1) := by decide +kernel
theorem dX4_candidate_61 : decode cX4_candidate 61 = .ok (.getfield 33, 3) := by decide +kernel
theorem dX4_candidate_64 : decode cX4_candidate 64 = .ok (.getfield 194, 3) := by decide +kernel
theorem dX4_candidate_67 : decode cX4_candidate 67 = .ok (.iload_n 1, 1) := by decide +kernel
theorem dX4_candidate_68 : decode cX4_candidate 68 = .ok (.iaload, 1) := by decide +kernel
theorem dX4_candidate_69 : decode cX4_candidate 69 = .ok (.i2l, 1) := by decide +kernel
theorem dX4_candidate_70 : decode cX4_candidate 70 = .ok (.lreturn, 1) := by decide +kernel
theorem dX4_candidate_71 : decode cX4_candidate 71 = .ok (.aload_n 0, 1) := by decide +kernel
theorem dX4_candidate_72 : decode cX4_candidate 72 = .ok (.getfield 33, 3) := by decide +kernel
theorem dX4_candidate_75 : decode cX4_candidate 75 = .ok (.getfield 197, 3) := by decide +kernel
theorem dX4_candidate_78 : decode cX4_candidate 78 = .ok (.iload_n 1, 1) := by decide +kernel
theorem dX4_candidate_79 : decode cX4_candidate 79 = .ok (.iaload, 1) := by decide +kernel
theorem dX4_candidate_80 : decode cX4_candidate 80 = .ok (.i2l, 1) := by decide +kernel
theorem dX4_candidate_81 : decode cX4_candidate 81 = .ok (.lreturn, 1) := by decide +kernel
theorem dX4_candidate_82 : decode cX4_candidate 82 = .ok (.aload_n 0, 1) := by decide +kernel
theorem dX4_candidate_83 : decode cX4_candidate 83 = .ok (.getfield 33, 3) := by decide +kernel
theorem dX4_candidate_86 : decode cX4_candidate 86 = .ok (.getfield 199, 3) := by decide +kernel
theorem dX4_candidate_89 : decode cX4_candidate 89 = .ok (.iload_n 1, 1) := by decide +kernel
theorem dX4_candidate_90 : decode cX4_candidate 90 = .ok (.iaload, 1) := by decide +kernel
theorem dX4_candidate_91 : decode cX4_candidate 91 = .ok (.i2l, 1) := by decide +kernel
theorem dX4_candidate_92 : decode cX4_candidate 92 = .ok (.lreturn, 1) := by decide +kernel
theorem dX4_candidate_93 : decode cX4_candidate 93 = .ok (.aload_n 0, 1) := by decide +kernel
theorem dX4_candidate_94 : decode cX4_candidate 94 = .ok (.getfield 33, 3) := by decide +kernel
theorem dX4_candidate_97 : decode cX4_candidate 97 = .ok (.getfield 202, 3) := by decide +kernel
theorem dX4_candidate_100 : decode cX4_candidate 100 = .ok (.iload_n 1, 1) := by decide +kernel
theorem dX4_candidate_101 : decode cX4_candidate 101 = .ok (.laload, 1) := by decide +kernel
theorem dX4_candidate_102 : decode cX4_candidate 102 = .ok (.lreturn, 1) := by decide +kernel
theorem dX4_candidate_103 : decode cX4_candidate 103 = .ok (.aload_n 0, 1) := by decide +kernel
theorem dX4_candidate_104 : decode cX4_candidate 104 = .ok (.getfield 33, 3) := by decide +kernel
theorem dX4_candidate_107 : decode cX4_candidate 107 = .ok (.getfield 197, 3) := by decide +kernel
theorem dX4_candidate_110 : decode cX4_candidate 110 = .ok (.iload_n 1, 1) := by decide +kernel
theorem dX4_candidate_111 : decode cX4_candidate 111 = .ok (.iaload, 1) := by decide +kernel
theorem dX4_candidate_112 : decode cX4_candidate 112 = .ok (.aload_n 0, 1) := by decide +kernel
theorem dX4_candidate_113 : decode cX4_candidate 113 = .ok (.getfield 10, 3) := by decide +kernel
theorem dX4_candidate_116 : decode cX4_candidate 116 = .ok (.getfield 117, 3) := by decide +kernel
theorem dX4_candidate_119 : decode cX4_candidate 119 = .ok (.iadd, 1) := by decide +kernel
theorem dX4_candidate_120 : decode cX4_candidate 120 = .ok (.i2l, 1) := by decide +kernel
theorem dX4_candidate_121 : decode cX4_candidate 121 = .ok (.lreturn, 1) := by decide +kernel
theorem dX4_candidate_122 : decode cX4_candidate 122 = .ok (.new 37, 3) := by decide +kernel
theorem dX4_candidate_125 : decode cX4_candidate 125 = .ok (.dup, 1) := by decide +kernel
theorem dX4_candidate_126 : decode cX4_candidate 126 = .ok (.ldc 126, 2) := by decide +kernel
theorem dX4_candidate_128 : decode cX4_candidate 128 = .ok (.invokespecial 41, 3) := by decide +kernel
theorem dX4_candidate_131 : decode cX4_candidate 131 = .ok (.athrow, 1) := by decide +kernel
theorem dX4_candidateAt_0 : decode cX4_candidateAt 0 = .ok (.aload_n 0, 1) := by decide +kernel
theorem dX4_candidateAt_1 : decode cX4_candidateAt 1 = .ok (.iload_n 1, 1) := by decide +kernel
theorem dX4_candidateAt_2 : decode cX4_candidateAt 2 = .ok (.invokevirtual 110, 3) := by decide +kernel
theorem dX4_candidateAt_5 : decode cX4_candidateAt 5 = .ok (.aload_n 0, 1) := by decide +kernel
theorem dX4_candidateAt_6 : decode cX4_candidateAt 6 = .ok (.getfield 33, 3) := by decide +kernel
theorem dX4_candidateAt_9 : decode cX4_candidateAt 9 = .ok (.iload_n 1, 1) := by decide +kernel
theorem dX4_candidateAt_10 : decode cX4_candidateAt 10 = .ok (.invokevirtual 205, 3) := by decide +kernel
theorem dX4_candidateAt_13 : decode cX4_candidateAt 13 = .ok (.ireturn, 1) := by decide +kernel
theorem dX4_digest_0 : decode cX4_digest 0 = .ok (.aload_n 0, 1) := by decide +kernel
theorem dX4_digest_1 : decode cX4_digest 1 = .ok (.getfield 26, 3) := by decide +kernel
theorem dX4_digest_4 : decode cX4_digest 4 = .ok (.aload_n 0, 1) := by decide +kernel
theorem dX4_digest_5 : decode cX4_digest 5 = .ok (.getfield 10, 3) := by decide +kernel
theorem dX4_digest_8 : decode cX4_digest 8 = .ok (.invokevirtual 153, 3) := by decide +kernel
theorem dX4_digest_11 : decode cX4_digest 11 = .ok (.ldc2_w 208, 3) := by decide +kernel
theorem dX4_digest_14 : decode cX4_digest 14 = .ok (.lstore_n 1, 1) := by decide +kernel
theorem dX4_digest_15 : decode cX4_digest 15 = .ok (.iconst 0, 1) := by decide +kernel
theorem dX4_digest_16 : decode cX4_digest 16 = .ok (.istore_n 3, 1) := by decide +kernel
theorem dX4_digest_17 : decode cX4_digest 17 = .ok (.iload_n 3, 1) := by decide +kernel
theorem dX4_digest_18 : decode cX4_digest 18 = .ok (.iconst 5, 1) := by decide +kernel
theorem dX4_digest_19 : decode cX4_digest 19 = .ok (.if_icmp .ge 20, 3) := by decide +kernel
theorem dX4_digest_22 : decode cX4_digest 22 = .ok (.lload_n 1, 1) := by decide +kernel
theorem dX4_digest_23 : decode cX4_digest 23 = .ok (.aload_n 0, 1) := by decide +kernel
theorem dX4_digest_24 : decode cX4_digest 24 = .ok (.iload_n 3, 1) := by decide +kernel
theorem dX4_digest_25 : decode cX4_digest 25 = .ok (.invokevirtual 210, 3) := by decide +kernel
theorem dX4_digest_28 : decode cX4_digest 28 = .ok (.i2l, 1) := by decide +kernel
theorem dX4_digest_29 : decode cX4_digest 29 = .ok (.invokestatic 213, 3) := by decide +kernel
theorem dX4_digest_32 : decode cX4_digest 32 = .ok (.lstore_n 1, 1) := by decide +kernel
theorem dX4_digest_33 : decode cX4_digest 33 = .ok (.iinc 3 1, 3) := by decide +kernel
theorem dX4_digest_36 : decode cX4_digest 36 = .ok (.goto (-19), 3) := by decide +kernel
theorem dX4_digest_39 : decode cX4_digest 39 = .ok (.aload_n 0, 1) := by decide +kernel
theorem dX4_digest_40 : decode cX4_digest 40 = .ok (.lload_n 1, 1) := by decide +kernel
theorem dX4_digest_41 : decode cX4_digest 41 = .ok (.invokevirtual 216, 3) := by decide +kernel
theorem dX4_digest_44 : decode cX4_digest 44 = .ok (.lstore_n 1, 1) := by decide +kernel
theorem dX4_digest_45 : decode cX4_digest 45 = .ok (.aload_n 0, 1) := by decide +kernel
theorem dX4_digest_46 : decode cX4_digest 46 = .ok (.lload_n 1, 1) := by decide +kernel
theorem dX4_digest_47 : decode cX4_digest 47 = .ok (.invokevirtual 220, 3) := by decide +kernel
theorem dX4_digest_50 : decode cX4_digest 50 = .ok (.lstore_n 1, 1) := by decide +kernel
theorem dX4_digest_51 : decode cX4_digest 51 = .ok (.aload_n 0, 1) := by decide +kernel
theorem dX4_digest_52 : decode cX4_digest 52 = .ok (.lload_n 1, 1) := by decide +kernel
theorem dX4_digest_53 : decode cX4_digest 53 = .ok (.invokevirtual 223, 3) := by decide +kernel
theorem dX4_digest_56 : decode cX4_digest 56 = .ok (.lstore_n 1, 1) := by decide +kernel
theorem dX4_digest_57 : decode cX4_digest 57 = .ok (.aload_n 0, 1) := by decide +kernel
theorem dX4_digest_58 : decode cX4_digest 58 = .ok (.lload_n 1, 1) := by decide +kernel
theorem dX4_digest_59 : decode cX4_digest 59 = .ok (.invokevirtual 226, 3) := by decide +kernel
theorem dX4_digest_62 : decode cX4_digest 62 = .ok (.lstore_n 1, 1) := by decide +kernel
theorem dX4_digest_63 : decode cX4_digest 63 = .ok (.aload_n 0, 1) := by decide +kernel
theorem dX4_digest_64 : decode cX4_digest 64 = .ok (.lload_n 1, 1) := by decide +kernel
theorem dX4_digest_65 : decode cX4_digest 65 = .ok (.invokevirtual 229, 3) := by decide +kernel
theorem dX4_digest_68 : decode cX4_digest 68 = .ok (.lreturn, 1) := by decide +kernel
theorem dX4_mix_0 : decode cX4_mix 0 = .ok (.ldc2_w 232, 3) := by decide +kernel
theorem dX4_mix_3 : decode cX4_mix 3 = .ok (.lload_n 0, 1) := by decide +kernel
theorem dX4_mix_4 : decode cX4_mix 4 = .ok (.lmul, 1) := by decide +kernel
theorem dX4_mix_5 : decode cX4_mix 5 = .ok (.lload_n 2, 1) := by decide +kernel
theorem dX4_mix_6 : decode cX4_mix 6 = .ok (.ladd, 1) := by decide +kernel
theorem dX4_mix_7 : decode cX4_mix 7 = .ok (.lreturn, 1) := by decide +kernel
theorem dX4_mixChannels_0 : decode cX4_mixChannels 0 = .ok (.lload_n 1, 1) := by decide +kernel
theorem dX4_mixChannels_1 : decode cX4_mixChannels 1 = .ok (.lstore_n 3, 1) := by decide +kernel
theorem dX4_mixChannels_2 : decode cX4_mixChannels 2 = .ok (.iconst 0, 1) := by decide +kernel
theorem dX4_mixChannels_3 : decode cX4_mixChannels 3 = .ok (.istore 5, 2) := by decide +kernel
theorem dX4_mixChannels_5 : decode cX4_mixChannels 5 = .ok (.iload 5, 2) := by decide +kernel
theorem dX4_mixChannels_7 : decode cX4_mixChannels 7 = .ok (.aload_n 0, 1) := by decide +kernel
theorem dX4_mixChannels_8 : decode cX4_mixChannels 8 = .ok (.getfield 10, 3) := by decide +kernel
theorem dX4_mixChannels_11 : decode cX4_mixChannels 11 = .ok (.getfield 44, 3) := by decide +kernel
theorem dX4_mixChannels_14 : decode cX4_mixChannels 14 = .ok (.if_icmp .ge 63, 3) := by decide +kernel
theorem dX4_mixChannels_17 : decode cX4_mixChannels 17 = .ok (.lload_n 3, 1) := by decide +kernel
theorem dX4_mixChannels_18 : decode cX4_mixChannels 18 = .ok (.aload_n 0, 1) := by decide +kernel
theorem dX4_mixChannels_19 : decode cX4_mixChannels 19 = .ok (.getfield 10, 3) := by decide +kernel
theorem dX4_mixChannels_22 : decode cX4_mixChannels 22 = .ok (.getfield 128, 3) := by decide +kernel
theorem dX4_mixChannels_25 : decode cX4_mixChannels 25 = .ok (.iload 5, 2) := by decide +kernel
theorem dX4_mixChannels_27 : decode cX4_mixChannels 27 = .ok (.baload, 1) := by decide +kernel
theorem dX4_mixChannels_28 : decode cX4_mixChannels 28 = .ok (.ifCond .eq 7, 3) := by decide +kernel
theorem dX4_mixChannels_31 : decode cX4_mixChannels 31 = .ok (.lconst 1, 1) := by decide +kernel
theorem dX4_mixChannels_32 : decode cX4_mixChannels 32 = .ok (.goto 4, 3) := by decide +kernel
theorem dX4_mixChannels_35 : decode cX4_mixChannels 35 = .ok (.lconst 0, 1) := by decide +kernel
theorem dX4_mixChannels_36 : decode cX4_mixChannels 36 = .ok (.invokestatic 213, 3) := by decide +kernel
theorem dX4_mixChannels_39 : decode cX4_mixChannels 39 = .ok (.lstore_n 3, 1) := by decide +kernel
theorem dX4_mixChannels_40 : decode cX4_mixChannels 40 = .ok (.lload_n 3, 1) := by decide +kernel
theorem dX4_mixChannels_41 : decode cX4_mixChannels 41 = .ok (.aload_n 0, 1) := by decide +kernel
theorem dX4_mixChannels_42 : decode cX4_mixChannels 42 = .ok (.getfield 10, 3) := by decide +kernel
theorem dX4_mixChannels_45 : decode cX4_mixChannels 45 = .ok (.iload 5, 2) := by decide +kernel
theorem dX4_mixChannels_47 : decode cX4_mixChannels 47 = .ok (.invokevirtual 132, 3) := by decide +kernel
theorem dX4_mixChannels_50 : decode cX4_mixChannels 50 = .ok (.i2l, 1) := by decide +kernel
theorem dX4_mixChannels_51 : decode cX4_mixChannels 51 = .ok (.invokestatic 213, 3) := by decide +kernel
theorem dX4_mixChannels_54 : decode cX4_mixChannels 54 = .ok (.lstore_n 3, 1) := by decide +kernel
theorem dX4_mixChannels_55 : decode cX4_mixChannels 55 = .ok (.lload_n 3, 1) := by decide +kernel
theorem dX4_mixChannels_56 : decode cX4_mixChannels 56 = .ok (.aload_n 0, 1) := by decide +kernel
theorem dX4_mixChannels_57 : decode cX4_mixChannels 57 = .ok (.getfield 10, 3) := by decide +kernel
theorem dX4_mixChannels_60 : decode cX4_mixChannels 60 = .ok (.getfield 60, 3) := by decide +kernel
theorem dX4_mixChannels_63 : decode cX4_mixChannels 63 = .ok (.iload 5, 2) := by decide +kernel
theorem dX4_mixChannels_65 : decode cX4_mixChannels 65 = .ok (.iaload, 1) := by decide +kernel
theorem dX4_mixChannels_66 : decode cX4_mixChannels 66 = .ok (.i2l, 1) := by decide +kernel
theorem dX4_mixChannels_67 : decode cX4_mixChannels 67 = .ok (.invokestatic 213, 3) := by decide +kernel
theorem dX4_mixChannels_70 : decode cX4_mixChannels 70 = .ok (.lstore_n 3, 1) := by decide +kernel
theorem dX4_mixChannels_71 : decode cX4_mixChannels 71 = .ok (.iinc 5 1, 3) := by decide +kernel
theorem dX4_mixChannels_74 : decode cX4_mixChannels 74 = .ok (.goto (-69), 3) := by decide +kernel
theorem dX4_mixChannels_77 : decode cX4_mixChannels 77 = .ok (.lload_n 3, 1) := by decide +kernel
theorem dX4_mixChannels_78 : decode cX4_mixChannels 78 = .ok (.lreturn, 1) := by decide +kernel
theorem dX4_mixColumns_0 : decode cX4_mixColumns 0 = .ok (.lload_n 1, 1) := by decide +kernel
theorem dX4_mixColumns_1 : decode cX4_mixColumns 1 = .ok (.lstore_n 3, 1) := by decide +kernel
theorem dX4_mixColumns_2 : decode cX4_mixColumns 2 = .ok (.iconst 0, 1) := by decide +kernel
theorem dX4_mixColumns_3 : decode cX4_mixColumns 3 = .ok (.istore 5, 2) := by decide +kernel
theorem dX4_mixColumns_5 : decode cX4_mixColumns 5 = .ok (.iload 5, 2) := by decide +kernel
theorem dX4_mixColumns_7 : decode cX4_mixColumns 7 = .ok (.aload_n 0, 1) := by decide +kernel
theorem dX4_mixColumns_8 : decode cX4_mixColumns 8 = .ok (.getfield 10, 3) := by decide +kernel
theorem dX4_mixColumns_11 : decode cX4_mixColumns 11 = .ok (.getfield 67, 3) := by decide +kernel
theorem dX4_mixColumns_14 : decode cX4_mixColumns 14 = .ok (.if_icmp .ge 47, 3) := by decide +kernel
theorem dX4_mixColumns_17 : decode cX4_mixColumns 17 = .ok (.iconst 0, 1) := by decide +kernel
theorem dX4_mixColumns_18 : decode cX4_mixColumns 18 = .ok (.istore 6, 2) := by decide +kernel
theorem dX4_mixColumns_20 : decode cX4_mixColumns 20 = .ok (.iload 6, 2) := by decide +kernel
theorem dX4_mixColumns_22 : decode cX4_mixColumns 22 = .ok (.aload_n 0, 1) := by decide +kernel
theorem dX4_mixColumns_23 : decode cX4_mixColumns 23 = .ok (.getfield 10, 3) := by decide +kernel
theorem dX4_mixColumns_26 : decode cX4_mixColumns 26 = .ok (.getfield 44, 3) := by decide +kernel
theorem dX4_mixColumns_29 : decode cX4_mixColumns 29 = .ok (.if_icmp .ge 26, 3) := by decide +kernel
theorem dX4_mixColumns_32 : decode cX4_mixColumns 32 = .ok (.lload_n 3, 1) := by decide +kernel
theorem dX4_mixColumns_33 : decode cX4_mixColumns 33 = .ok (.aload_n 0, 1) := by decide +kernel
theorem dX4_mixColumns_34 : decode cX4_mixColumns 34 = .ok (.getfield 10, 3) := by decide +kernel
theorem dX4_mixColumns_37 : decode cX4_mixColumns 37 = .ok (.iload 6, 2) := by decide +kernel
theorem dX4_mixColumns_39 : decode cX4_mixColumns 39 = .ok (.iload 5, 2) := by decide +kernel
theorem dX4_mixColumns_41 : decode cX4_mixColumns 41 = .ok (.invokevirtual 113, 3) := by decide +kernel
theorem dX4_mixColumns_44 : decode cX4_mixColumns 44 = .ok (.i2l, 1) := by decide +kernel
theorem dX4_mixColumns_45 : decode cX4_mixColumns 45 = .ok (.invokestatic 213, 3) := by decide +kernel
theorem dX4_mixColumns_48 : decode cX4_mixColumns 48 = .ok (.lstore_n 3, 1) := by decide +kernel
theorem dX4_mixColumns_49 : decode cX4_mixColumns 49 = .ok (.iinc 6 1, 3) := by decide +kernel
theorem dX4_mixColumns_52 : decode cX4_mixColumns 52 = .ok (.goto (-32), 3) := by decide +kernel
theorem dX4_mixColumns_55 : decode cX4_mixColumns 55 = .ok (.iinc 5 1, 3) := by decide +kernel
theorem dX4_mixColumns_58 : decode cX4_mixColumns 58 = .ok (.goto (-53), 3) := by decide +kernel
theorem dX4_mixColumns_61 : decode cX4_mixColumns 61 = .ok (.lload_n 3, 1) := by decide +kernel
theorem dX4_mixColumns_62 : decode cX4_mixColumns 62 = .ok (.lreturn, 1) := by decide +kernel
theorem dX4_mixSlopes_0 : decode cX4_mixSlopes 0 = .ok (.lload_n 1, 1) := by decide +kernel
theorem dX4_mixSlopes_1 : decode cX4_mixSlopes 1 = .ok (.lstore_n 3, 1) := by decide +kernel
theorem dX4_mixSlopes_2 : decode cX4_mixSlopes 2 = .ok (.iconst 0, 1) := by decide +kernel
theorem dX4_mixSlopes_3 : decode cX4_mixSlopes 3 = .ok (.istore 5, 2) := by decide +kernel
theorem dX4_mixSlopes_5 : decode cX4_mixSlopes 5 = .ok (.iload 5, 2) := by decide +kernel
theorem dX4_mixSlopes_7 : decode cX4_mixSlopes 7 = .ok (.aload_n 0, 1) := by decide +kernel
theorem dX4_mixSlopes_8 : decode cX4_mixSlopes 8 = .ok (.getfield 10, 3) := by decide +kernel
theorem dX4_mixSlopes_11 : decode cX4_mixSlopes 11 = .ok (.getfield 44, 3) := by decide +kernel
theorem dX4_mixSlopes_14 : decode cX4_mixSlopes 14 = .ok (.if_icmp .ge 71, 3) := by decide +kernel
theorem dX4_mixSlopes_17 : decode cX4_mixSlopes 17 = .ok (.lload_n 3, 1) := by decide +kernel
theorem dX4_mixSlopes_18 : decode cX4_mixSlopes 18 = .ok (.aload_n 0, 1) := by decide +kernel
theorem dX4_mixSlopes_19 : decode cX4_mixSlopes 19 = .ok (.getfield 10, 3) := by decide +kernel
theorem dX4_mixSlopes_22 : decode cX4_mixSlopes 22 = .ok (.getfield 44, 3) := by decide +kernel
theorem dX4_mixSlopes_25 : decode cX4_mixSlopes 25 = .ok (.iload 5, 2) := by decide +kernel
theorem dX4_mixSlopes_27 : decode cX4_mixSlopes 27 = .ok (.invokestatic 147, 3) := by decide +kernel
theorem dX4_mixSlopes_30 : decode cX4_mixSlopes 30 = .ok (.i2l, 1) := by decide +kernel
theorem dX4_mixSlopes_31 : decode cX4_mixSlopes 31 = .ok (.invokestatic 213, 3) := by decide +kernel
theorem dX4_mixSlopes_34 : decode cX4_mixSlopes 34 = .ok (.lstore_n 3, 1) := by decide +kernel
theorem dX4_mixSlopes_35 : decode cX4_mixSlopes 35 = .ok (.aload_n 0, 1) := by decide +kernel
theorem dX4_mixSlopes_36 : decode cX4_mixSlopes 36 = .ok (.getfield 26, 3) := by decide +kernel
theorem dX4_mixSlopes_39 : decode cX4_mixSlopes 39 = .ok (.iload 5, 2) := by decide +kernel
theorem dX4_mixSlopes_41 : decode cX4_mixSlopes 41 = .ok (.invokevirtual 160, 3) := by decide +kernel
theorem dX4_mixSlopes_44 : decode cX4_mixSlopes 44 = .ok (.istore 6, 2) := by decide +kernel
theorem dX4_mixSlopes_46 : decode cX4_mixSlopes 46 = .ok (.iconst 0, 1) := by decide +kernel
theorem dX4_mixSlopes_47 : decode cX4_mixSlopes 47 = .ok (.istore 7, 2) := by decide +kernel
theorem dX4_mixSlopes_49 : decode cX4_mixSlopes 49 = .ok (.iload 7, 2) := by decide +kernel
theorem dX4_mixSlopes_51 : decode cX4_mixSlopes 51 = .ok (.iload 6, 2) := by decide +kernel
theorem dX4_mixSlopes_53 : decode cX4_mixSlopes 53 = .ok (.if_icmp .ge 26, 3) := by decide +kernel
theorem dX4_mixSlopes_56 : decode cX4_mixSlopes 56 = .ok (.lload_n 3, 1) := by decide +kernel
theorem dX4_mixSlopes_57 : decode cX4_mixSlopes 57 = .ok (.aload_n 0, 1) := by decide +kernel
theorem dX4_mixSlopes_58 : decode cX4_mixSlopes 58 = .ok (.getfield 26, 3) := by decide +kernel
theorem dX4_mixSlopes_61 : decode cX4_mixSlopes 61 = .ok (.iload 5, 2) := by decide +kernel
theorem dX4_mixSlopes_63 : decode cX4_mixSlopes 63 = .ok (.iload 7, 2) := by decide +kernel
theorem dX4_mixSlopes_65 : decode cX4_mixSlopes 65 = .ok (.invokevirtual 157, 3) := by decide +kernel
theorem dX4_mixSlopes_68 : decode cX4_mixSlopes 68 = .ok (.i2l, 1) := by decide +kernel
theorem dX4_mixSlopes_69 : decode cX4_mixSlopes 69 = .ok (.invokestatic 213, 3) := by decide +kernel
theorem dX4_mixSlopes_72 : decode cX4_mixSlopes 72 = .ok (.lstore_n 3, 1) := by decide +kernel
theorem dX4_mixSlopes_73 : decode cX4_mixSlopes 73 = .ok (.iinc 7 1, 3) := by decide +kernel
theorem dX4_mixSlopes_76 : decode cX4_mixSlopes 76 = .ok (.goto (-27), 3) := by decide +kernel
theorem dX4_mixSlopes_79 : decode cX4_mixSlopes 79 = .ok (.iinc 5 1, 3) := by decide +kernel
theorem dX4_mixSlopes_82 : decode cX4_mixSlopes 82 = .ok (.goto (-77), 3) := by decide +kernel
theorem dX4_mixSlopes_85 : decode cX4_mixSlopes 85 = .ok (.lload_n 3, 1) := by decide +kernel
theorem dX4_mixSlopes_86 : decode cX4_mixSlopes 86 = .ok (.lreturn, 1) := by decide +kernel
theorem dX4_mixCandidates_0 : decode cX4_mixCandidates 0 = .ok (.lload_n 1, 1) := by decide +kernel
theorem dX4_mixCandidates_1 : decode cX4_mixCandidates 1 = .ok (.lstore_n 3, 1) := by decide +kernel
theorem dX4_mixCandidates_2 : decode cX4_mixCandidates 2 = .ok (.iconst 0, 1) := by decide +kernel
theorem dX4_mixCandidates_3 : decode cX4_mixCandidates 3 = .ok (.istore 5, 2) := by decide +kernel
theorem dX4_mixCandidates_5 : decode cX4_mixCandidates 5 = .ok (.iload 5, 2) := by decide +kernel
theorem dX4_mixCandidates_7 : decode cX4_mixCandidates 7 = .ok (.aload_n 0, 1) := by decide +kernel
theorem dX4_mixCandidates_8 : decode cX4_mixCandidates 8 = .ok (.getfield 33, 3) := by decide +kernel
theorem dX4_mixCandidates_11 : decode cX4_mixCandidates 11 = .ok (.getfield 123, 3) := by decide +kernel
theorem dX4_mixCandidates_14 : decode cX4_mixCandidates 14 = .ok (.if_icmp .ge 37, 3) := by decide +kernel
theorem dX4_mixCandidates_17 : decode cX4_mixCandidates 17 = .ok (.iconst 0, 1) := by decide +kernel
theorem dX4_mixCandidates_18 : decode cX4_mixCandidates 18 = .ok (.istore 6, 2) := by decide +kernel
theorem dX4_mixCandidates_20 : decode cX4_mixCandidates 20 = .ok (.iload 6, 2) := by decide +kernel
theorem dX4_mixCandidates_22 : decode cX4_mixCandidates 22 = .ok (.iconst 5, 1) := by decide +kernel
theorem dX4_mixCandidates_23 : decode cX4_mixCandidates 23 = .ok (.if_icmp .ge 22, 3) := by decide +kernel
theorem dX4_mixCandidates_26 : decode cX4_mixCandidates 26 = .ok (.lload_n 3, 1) := by decide +kernel
theorem dX4_mixCandidates_27 : decode cX4_mixCandidates 27 = .ok (.aload_n 0, 1) := by decide +kernel
theorem dX4_mixCandidates_28 : decode cX4_mixCandidates 28 = .ok (.iload 5, 2) := by decide +kernel
theorem dX4_mixCandidates_30 : decode cX4_mixCandidates 30 = .ok (.iload 6, 2) := by decide +kernel
theorem dX4_mixCandidates_32 : decode cX4_mixCandidates 32 = .ok (.invokevirtual 234, 3) := by decide +kernel
theorem dX4_mixCandidates_35 : decode cX4_mixCandidates 35 = .ok (.invokestatic 213, 3) := by decide +kernel
theorem dX4_mixCandidates_38 : decode cX4_mixCandidates 38 = .ok (.lstore_n 3, 1) := by decide +kernel
theorem dX4_mixCandidates_39 : decode cX4_mixCandidates 39 = .ok (.iinc 6 1, 3) := by decide +kernel
theorem dX4_mixCandidates_42 : decode cX4_mixCandidates 42 = .ok (.goto (-22), 3) := by decide +kernel
theorem dX4_mixCandidates_45 : decode cX4_mixCandidates 45 = .ok (.iinc 5 1, 3) := by decide +kernel
theorem dX4_mixCandidates_48 : decode cX4_mixCandidates 48 = .ok (.goto (-43), 3) := by decide +kernel
theorem dX4_mixCandidates_51 : decode cX4_mixCandidates 51 = .ok (.lload_n 3, 1) := by decide +kernel
theorem dX4_mixCandidates_52 : decode cX4_mixCandidates 52 = .ok (.lreturn, 1) := by decide +kernel
theorem dX4_mixText_0 : decode cX4_mixText 0 = .ok (.lload_n 1, 1) := by decide +kernel
theorem dX4_mixText_1 : decode cX4_mixText 1 = .ok (.aload_n 0, 1) := by decide +kernel
theorem dX4_mixText_2 : decode cX4_mixText 2 = .ok (.getfield 19, 3) := by decide +kernel
theorem dX4_mixText_5 : decode cX4_mixText 5 = .ok (.getfield 72, 3) := by decide +kernel
theorem dX4_mixText_8 : decode cX4_mixText 8 = .ok (.i2l, 1) := by decide +kernel
theorem dX4_mixText_9 : decode cX4_mixText 9 = .ok (.invokestatic 213, 3) := by decide +kernel
theorem dX4_mixText_12 : decode cX4_mixText 12 = .ok (.lstore_n 3, 1) := by decide +kernel
theorem dX4_mixText_13 : decode cX4_mixText 13 = .ok (.iconst 0, 1) := by decide +kernel
theorem dX4_mixText_14 : decode cX4_mixText 14 = .ok (.istore 5, 2) := by decide +kernel
theorem dX4_mixText_16 : decode cX4_mixText 16 = .ok (.iload 5, 2) := by decide +kernel
theorem dX4_mixText_18 : decode cX4_mixText 18 = .ok (.aload_n 0, 1) := by decide +kernel
theorem dX4_mixText_19 : decode cX4_mixText 19 = .ok (.getfield 19, 3) := by decide +kernel
theorem dX4_mixText_22 : decode cX4_mixText 22 = .ok (.getfield 72, 3) := by decide +kernel
theorem dX4_mixText_25 : decode cX4_mixText 25 = .ok (.if_icmp .ge 25, 3) := by decide +kernel
theorem dX4_mixText_28 : decode cX4_mixText 28 = .ok (.lload_n 3, 1) := by decide +kernel
theorem dX4_mixText_29 : decode cX4_mixText 29 = .ok (.aload_n 0, 1) := by decide +kernel
theorem dX4_mixText_30 : decode cX4_mixText 30 = .ok (.getfield 19, 3) := by decide +kernel
theorem dX4_mixText_33 : decode cX4_mixText 33 = .ok (.getfield 80, 3) := by decide +kernel
theorem dX4_mixText_36 : decode cX4_mixText 36 = .ok (.iload 5, 2) := by decide +kernel
theorem dX4_mixText_38 : decode cX4_mixText 38 = .ok (.iaload, 1) := by decide +kernel
theorem dX4_mixText_39 : decode cX4_mixText 39 = .ok (.i2l, 1) := by decide +kernel
theorem dX4_mixText_40 : decode cX4_mixText 40 = .ok (.invokestatic 213, 3) := by decide +kernel
theorem dX4_mixText_43 : decode cX4_mixText 43 = .ok (.lstore_n 3, 1) := by decide +kernel
theorem dX4_mixText_44 : decode cX4_mixText 44 = .ok (.iinc 5 1, 3) := by decide +kernel
theorem dX4_mixText_47 : decode cX4_mixText 47 = .ok (.goto (-31), 3) := by decide +kernel
theorem dX4_mixText_50 : decode cX4_mixText 50 = .ok (.lload_n 3, 1) := by decide +kernel
theorem dX4_mixText_51 : decode cX4_mixText 51 = .ok (.lreturn, 1) := by decide +kernel
theorem dX4_requireChannel_0 : decode cX4_requireChannel 0 = .ok (.iload_n 1, 1) := by decide +kernel
theorem dX4_requireChannel_1 : decode cX4_requireChannel 1 = .ok (.ifCond .lt 14, 3) := by decide +kernel
theorem dX4_requireChannel_4 : decode cX4_requireChannel 4 = .ok (.iload_n 1, 1) := by decide +kernel
theorem dX4_requireChannel_5 : decode cX4_requireChannel 5 = .ok (.aload_n 0, 1) := by decide +kernel
theorem dX4_requireChannel_6 : decode cX4_requireChannel 6 = .ok (.getfield 10, 3) := by decide +kernel
theorem dX4_requireChannel_9 : decode cX4_requireChannel 9 = .ok (.getfield 44, 3) := by decide +kernel
theorem dX4_requireChannel_12 : decode cX4_requireChannel 12 = .ok (.if_icmp .lt 13, 3) := by decide +kernel
theorem dX4_requireChannel_15 : decode cX4_requireChannel 15 = .ok (.new 189, 3) := by decide +kernel
theorem dX4_requireChannel_18 : decode cX4_requireChannel 18 = .ok (.dup, 1) := by decide +kernel
theorem dX4_requireChannel_19 : decode cX4_requireChannel 19 = .ok (.ldc 238, 2) := by decide +kernel
theorem dX4_requireChannel_21 : decode cX4_requireChannel 21 = .ok (.invokespecial 193, 3) := by decide +kernel
theorem dX4_requireChannel_24 : decode cX4_requireChannel 24 = .ok (.athrow, 1) := by decide +kernel
theorem dX4_requireChannel_25 : decode cX4_requireChannel 25 = .ok (.return_, 1) := by decide +kernel
theorem dX4_requireColumn_0 : decode cX4_requireColumn 0 = .ok (.iload_n 1, 1) := by decide +kernel
theorem dX4_requireColumn_1 : decode cX4_requireColumn 1 = .ok (.ifCond .lt 14, 3) := by decide +kernel
theorem dX4_requireColumn_4 : decode cX4_requireColumn 4 = .ok (.iload_n 1, 1) := by decide +kernel
theorem dX4_requireColumn_5 : decode cX4_requireColumn 5 = .ok (.aload_n 0, 1) := by decide +kernel
theorem dX4_requireColumn_6 : decode cX4_requireColumn 6 = .ok (.getfield 10, 3) := by decide +kernel
theorem dX4_requireColumn_9 : decode cX4_requireColumn 9 = .ok (.getfield 67, 3) := by decide +kernel
theorem dX4_requireColumn_12 : decode cX4_requireColumn 12 = .ok (.if_icmp .lt 13, 3) := by decide +kernel
theorem dX4_requireColumn_15 : decode cX4_requireColumn 15 = .ok (.new 189, 3) := by decide +kernel
theorem dX4_requireColumn_18 : decode cX4_requireColumn 18 = .ok (.dup, 1) := by decide +kernel
theorem dX4_requireColumn_19 : decode cX4_requireColumn 19 = .ok (.ldc 240, 2) := by decide +kernel
theorem dX4_requireColumn_21 : decode cX4_requireColumn 21 = .ok (.invokespecial 193, 3) := by decide +kernel
theorem dX4_requireColumn_24 : decode cX4_requireColumn 24 = .ok (.athrow, 1) := by decide +kernel
theorem dX4_requireColumn_25 : decode cX4_requireColumn 25 = .ok (.return_, 1) := by decide +kernel
theorem dX4_requireSlope_0 : decode cX4_requireSlope 0 = .ok (.iload_n 1, 1) := by decide +kernel
theorem dX4_requireSlope_1 : decode cX4_requireSlope 1 = .ok (.ifCond .lt 14, 3) := by decide +kernel
theorem dX4_requireSlope_4 : decode cX4_requireSlope 4 = .ok (.iload_n 1, 1) := by decide +kernel
theorem dX4_requireSlope_5 : decode cX4_requireSlope 5 = .ok (.aload_n 0, 1) := by decide +kernel
theorem dX4_requireSlope_6 : decode cX4_requireSlope 6 = .ok (.getfield 10, 3) := by decide +kernel
theorem dX4_requireSlope_9 : decode cX4_requireSlope 9 = .ok (.getfield 44, 3) := by decide +kernel
theorem dX4_requireSlope_12 : decode cX4_requireSlope 12 = .ok (.if_icmp .lt 13, 3) := by decide +kernel
theorem dX4_requireSlope_15 : decode cX4_requireSlope 15 = .ok (.new 189, 3) := by decide +kernel
theorem dX4_requireSlope_18 : decode cX4_requireSlope 18 = .ok (.dup, 1) := by decide +kernel
theorem dX4_requireSlope_19 : decode cX4_requireSlope 19 = .ok (.ldc 242, 2) := by decide +kernel
theorem dX4_requireSlope_21 : decode cX4_requireSlope 21 = .ok (.invokespecial 193, 3) := by decide +kernel
theorem dX4_requireSlope_24 : decode cX4_requireSlope 24 = .ok (.athrow, 1) := by decide +kernel
theorem dX4_requireSlope_25 : decode cX4_requireSlope 25 = .ok (.return_, 1) := by decide +kernel
theorem dX4_requireWidth_0 : decode cX4_requireWidth 0 = .ok (.iload_n 0, 1) := by decide +kernel
theorem dX4_requireWidth_1 : decode cX4_requireWidth 1 = .ok (.iconst 1, 1) := by decide +kernel
theorem dX4_requireWidth_2 : decode cX4_requireWidth 2 = .ok (.if_icmp .lt 9, 3) := by decide +kernel
theorem dX4_requireWidth_5 : decode cX4_requireWidth 5 = .ok (.iload_n 0, 1) := by decide +kernel
theorem dX4_requireWidth_6 : decode cX4_requireWidth 6 = .ok (.bipush 8, 2) := by decide +kernel
theorem dX4_requireWidth_8 : decode cX4_requireWidth 8 = .ok (.if_icmp .le 13, 3) := by decide +kernel
theorem dX4_requireWidth_11 : decode cX4_requireWidth 11 = .ok (.new 37, 3) := by decide +kernel
theorem dX4_requireWidth_14 : decode cX4_requireWidth 14 = .ok (.dup, 1) := by decide +kernel
theorem dX4_requireWidth_15 : decode cX4_requireWidth 15 = .ok (.ldc 244, 2) := by decide +kernel
theorem dX4_requireWidth_17 : decode cX4_requireWidth 17 = .ok (.invokespecial 41, 3) := by decide +kernel
theorem dX4_requireWidth_20 : decode cX4_requireWidth 20 = .ok (.athrow, 1) := by decide +kernel
theorem dX4_requireWidth_21 : decode cX4_requireWidth 21 = .ok (.return_, 1) := by decide +kernel
theorem dX4_requireLines_0 : decode cX4_requireLines 0 = .ok (.aload_n 0, 1) := by decide +kernel
theorem dX4_requireLines_1 : decode cX4_requireLines 1 = .ok (.iload_n 1, 1) := by decide +kernel
theorem dX4_requireLines_2 : decode cX4_requireLines 2 = .ok (.invokevirtual 141, 3) := by decide +kernel
theorem dX4_requireLines_5 : decode cX4_requireLines 5 = .ok (.iload_n 2, 1) := by decide +kernel
theorem dX4_requireLines_6 : decode cX4_requireLines 6 = .ok (.ifCond .lt 18, 3) := by decide +kernel
theorem dX4_requireLines_9 : decode cX4_requireLines 9 = .ok (.iload_n 2, 1) := by decide +kernel
theorem dX4_requireLines_10 : decode cX4_requireLines 10 = .ok (.aload_n 0, 1) := by decide +kernel
theorem dX4_requireLines_11 : decode cX4_requireLines 11 = .ok (.getfield 10, 3) := by decide +kernel
theorem dX4_requireLines_14 : decode cX4_requireLines 14 = .ok (.getfield 67, 3) := by decide +kernel
theorem dX4_requireLines_17 : decode cX4_requireLines 17 = .ok (.iload_n 1, 1) := by decide +kernel
theorem dX4_requireLines_18 : decode cX4_requireLines 18 = .ok (.isub, 1) := by decide +kernel
theorem dX4_requireLines_19 : decode cX4_requireLines 19 = .ok (.iload_n 3, 1) := by decide +kernel
theorem dX4_requireLines_20 : decode cX4_requireLines 20 = .ok (.isub, 1) := by decide +kernel
theorem dX4_requireLines_21 : decode cX4_requireLines 21 = .ok (.if_icmp .le 13, 3) := by decide +kernel
theorem dX4_requireLines_24 : decode cX4_requireLines 24 = .ok (.new 189, 3) := by decide +kernel
theorem dX4_requireLines_27 : decode cX4_requireLines 27 = .ok (.dup, 1) := by decide +kernel
theorem dX4_requireLines_28 : decode cX4_requireLines 28 = .ok (.ldc 246, 2) := by decide +kernel
theorem dX4_requireLines_30 : decode cX4_requireLines 30 = .ok (.invokespecial 193, 3) := by decide +kernel
theorem dX4_requireLines_33 : decode cX4_requireLines 33 = .ok (.athrow, 1) := by decide +kernel
theorem dX4_requireLines_34 : decode cX4_requireLines 34 = .ok (.return_, 1) := by decide +kernel
theorem dX4_forgetResults_0 : decode cX4_forgetResults 0 = .ok (.aload_n 0, 1) := by decide +kernel
theorem dX4_forgetResults_1 : decode cX4_forgetResults 1 = .ok (.getfield 26, 3) := by decide +kernel
theorem dX4_forgetResults_4 : decode cX4_forgetResults 4 = .ok (.iconst 0, 1) := by decide +kernel
theorem dX4_forgetResults_5 : decode cX4_forgetResults 5 = .ok (.putfield 248, 3) := by decide +kernel
theorem dX4_forgetResults_8 : decode cX4_forgetResults 8 = .ok (.aload_n 0, 1) := by decide +kernel
theorem dX4_forgetResults_9 : decode cX4_forgetResults 9 = .ok (.getfield 33, 3) := by decide +kernel
theorem dX4_forgetResults_12 : decode cX4_forgetResults 12 = .ok (.iconst 0, 1) := by decide +kernel
theorem dX4_forgetResults_13 : decode cX4_forgetResults 13 = .ok (.putfield 123, 3) := by decide +kernel
theorem dX4_forgetResults_16 : decode cX4_forgetResults 16 = .ok (.return_, 1) := by decide +kernel
theorem dX4_treeOffset_0 : decode cX4_treeOffset 0 = .ok (.iconst 0, 1) := by decide +kernel
theorem dX4_treeOffset_1 : decode cX4_treeOffset 1 = .ok (.istore_n 3, 1) := by decide +kernel
theorem dX4_treeOffset_2 : decode cX4_treeOffset 2 = .ok (.iload_n 1, 1) := by decide +kernel
theorem dX4_treeOffset_3 : decode cX4_treeOffset 3 = .ok (.istore 4, 2) := by decide +kernel
theorem dX4_treeOffset_5 : decode cX4_treeOffset 5 = .ok (.iload_n 2, 1) := by decide +kernel
theorem dX4_treeOffset_6 : decode cX4_treeOffset 6 = .ok (.istore 5, 2) := by decide +kernel
theorem dX4_treeOffset_8 : decode cX4_treeOffset 8 = .ok (.iload_n 0, 1) := by decide +kernel
theorem dX4_treeOffset_9 : decode cX4_treeOffset 9 = .ok (.iconst 2, 1) := by decide +kernel
theorem dX4_treeOffset_10 : decode cX4_treeOffset 10 = .ok (.idiv, 1) := by decide +kernel
theorem dX4_treeOffset_11 : decode cX4_treeOffset 11 = .ok (.istore 6, 2) := by decide +kernel
theorem dX4_treeOffset_13 : decode cX4_treeOffset 13 = .ok (.iload 6, 2) := by decide +kernel
theorem dX4_treeOffset_15 : decode cX4_treeOffset 15 = .ok (.iconst 1, 1) := by decide +kernel
theorem dX4_treeOffset_16 : decode cX4_treeOffset 16 = .ok (.if_icmp .lt 44, 3) := by decide +kernel
theorem dX4_treeOffset_19 : decode cX4_treeOffset 19 = .ok (.iload 4, 2) := by decide +kernel
theorem dX4_treeOffset_21 : decode cX4_treeOffset 21 = .ok (.iconst 2, 1) := by decide +kernel
theorem dX4_treeOffset_22 : decode cX4_treeOffset 22 = .ok (.idiv, 1) := by decide +kernel
theorem dX4_treeOffset_23 : decode cX4_treeOffset 23 = .ok (.istore 7, 2) := by decide +kernel
theorem dX4_treeOffset_25 : decode cX4_treeOffset 25 = .ok (.iload 5, 2) := by decide +kernel
theorem dX4_treeOffset_27 : decode cX4_treeOffset 27 = .ok (.iload 6, 2) := by decide +kernel
theorem dX4_treeOffset_29 : decode cX4_treeOffset 29 = .ok (.if_icmp .lt 18, 3) := by decide +kernel
theorem dX4_treeOffset_32 : decode cX4_treeOffset 32 = .ok (.iload_n 3, 1) := by decide +kernel
theorem dX4_treeOffset_33 : decode cX4_treeOffset 33 = .ok (.iload 4, 2) := by decide +kernel
theorem dX4_treeOffset_35 : decode cX4_treeOffset 35 = .ok (.iload 7, 2) := by decide +kernel
theorem dX4_treeOffset_37 : decode cX4_treeOffset 37 = .ok (.isub, 1) := by decide +kernel
theorem dX4_treeOffset_38 : decode cX4_treeOffset 38 = .ok (.iadd, 1) := by decide +kernel
theorem dX4_treeOffset_39 : decode cX4_treeOffset 39 = .ok (.istore_n 3, 1) := by decide +kernel
theorem dX4_treeOffset_40 : decode cX4_treeOffset 40 = .ok (.iload 5, 2) := by decide +kernel
theorem dX4_treeOffset_42 : decode cX4_treeOffset 42 = .ok (.iload 6, 2) := by decide +kernel
theorem dX4_treeOffset_44 : decode cX4_treeOffset 44 = .ok (.isub, 1) := by decide +kernel
theorem dX4_treeOffset_45 : decode cX4_treeOffset 45 = .ok (.istore 5, 2) := by decide +kernel
theorem dX4_treeOffset_47 : decode cX4_treeOffset 47 = .ok (.iload 7, 2) := by decide +kernel
theorem dX4_treeOffset_49 : decode cX4_treeOffset 49 = .ok (.istore 4, 2) := by decide +kernel
theorem dX4_treeOffset_51 : decode cX4_treeOffset 51 = .ok (.iload 6, 2) := by decide +kernel
theorem dX4_treeOffset_53 : decode cX4_treeOffset 53 = .ok (.iconst 2, 1) := by decide +kernel
theorem dX4_treeOffset_54 : decode cX4_treeOffset 54 = .ok (.idiv, 1) := by decide +kernel
theorem dX4_treeOffset_55 : decode cX4_treeOffset 55 = .ok (.istore 6, 2) := by decide +kernel
theorem dX4_treeOffset_57 : decode cX4_treeOffset 57 = .ok (.goto (-44), 3) := by decide +kernel
theorem dX4_treeOffset_60 : decode cX4_treeOffset 60 = .ok (.iload_n 3, 1) := by decide +kernel
theorem dX4_treeOffset_61 : decode cX4_treeOffset 61 = .ok (.ireturn, 1) := by decide +kernel
theorem dX4_straightOffset_0 : decode cX4_straightOffset 0 = .ok (.iload_n 0, 1) := by decide +kernel
theorem dX4_straightOffset_1 : decode cX4_straightOffset 1 = .ok (.iconst 1, 1) := by decide +kernel
theorem dX4_straightOffset_2 : decode cX4_straightOffset 2 = .ok (.isub, 1) := by decide +kernel
theorem dX4_straightOffset_3 : decode cX4_straightOffset 3 = .ok (.istore_n 3, 1) := by decide +kernel
theorem dX4_straightOffset_4 : decode cX4_straightOffset 4 = .ok (.iload_n 3, 1) := by decide +kernel
theorem dX4_straightOffset_5 : decode cX4_straightOffset 5 = .ok (.iconst 1, 1) := by decide +kernel
theorem dX4_straightOffset_6 : decode cX4_straightOffset 6 = .ok (.if_icmp .ge 5, 3) := by decide +kernel
theorem dX4_straightOffset_9 : decode cX4_straightOffset 9 = .ok (.iconst 0, 1) := by decide +kernel
theorem dX4_straightOffset_10 : decode cX4_straightOffset 10 = .ok (.ireturn, 1) := by decide +kernel
theorem dX4_straightOffset_11 : decode cX4_straightOffset 11 = .ok (.iconst 2, 1) := by decide +kernel
theorem dX4_straightOffset_12 : decode cX4_straightOffset 12 = .ok (.iload_n 1, 1) := by decide +kernel
theorem dX4_straightOffset_13 : decode cX4_straightOffset 13 = .ok (.imul, 1) := by decide +kernel
theorem dX4_straightOffset_14 : decode cX4_straightOffset 14 = .ok (.iload_n 2, 1) := by decide +kernel
theorem dX4_straightOffset_15 : decode cX4_straightOffset 15 = .ok (.imul, 1) := by decide +kernel
theorem dX4_straightOffset_16 : decode cX4_straightOffset 16 = .ok (.iload_n 3, 1) := by decide +kernel
theorem dX4_straightOffset_17 : decode cX4_straightOffset 17 = .ok (.iadd, 1) := by decide +kernel
theorem dX4_straightOffset_18 : decode cX4_straightOffset 18 = .ok (.iconst 2, 1) := by decide +kernel
theorem dX4_straightOffset_19 : decode cX4_straightOffset 19 = .ok (.iload_n 3, 1) := by decide +kernel
theorem dX4_straightOffset_20 : decode cX4_straightOffset 20 = .ok (.imul, 1) := by decide +kernel
theorem dX4_straightOffset_21 : decode cX4_straightOffset 21 = .ok (.idiv, 1) := by decide +kernel
theorem dX4_straightOffset_22 : decode cX4_straightOffset 22 = .ok (.ireturn, 1) := by decide +kernel
theorem dX4_greatestBend_0 : decode cX4_greatestBend 0 = .ok (.iconst 0, 1) := by decide +kernel
theorem dX4_greatestBend_1 : decode cX4_greatestBend 1 = .ok (.istore_n 2, 1) := by decide +kernel
theorem dX4_greatestBend_2 : decode cX4_greatestBend 2 = .ok (.iconst 0, 1) := by decide +kernel
theorem dX4_greatestBend_3 : decode cX4_greatestBend 3 = .ok (.istore_n 3, 1) := by decide +kernel
theorem dX4_greatestBend_4 : decode cX4_greatestBend 4 = .ok (.iload_n 3, 1) := by decide +kernel
theorem dX4_greatestBend_5 : decode cX4_greatestBend 5 = .ok (.iload_n 0, 1) := by decide +kernel
theorem dX4_greatestBend_6 : decode cX4_greatestBend 6 = .ok (.if_icmp .ge 38, 3) := by decide +kernel
theorem dX4_greatestBend_9 : decode cX4_greatestBend 9 = .ok (.iload_n 0, 1) := by decide +kernel
theorem dX4_greatestBend_10 : decode cX4_greatestBend 10 = .ok (.iload_n 1, 1) := by decide +kernel
theorem dX4_greatestBend_11 : decode cX4_greatestBend 11 = .ok (.iload_n 3, 1) := by decide +kernel
theorem dX4_greatestBend_12 : decode cX4_greatestBend 12 = .ok (.invokestatic 144, 3) := by decide +kernel
theorem dX4_greatestBend_15 : decode cX4_greatestBend 15 = .ok (.istore 4, 2) := by decide +kernel
theorem dX4_greatestBend_17 : decode cX4_greatestBend 17 = .ok (.iload_n 0, 1) := by decide +kernel
theorem dX4_greatestBend_18 : decode cX4_greatestBend 18 = .ok (.iload_n 1, 1) := by decide +kernel
theorem dX4_greatestBend_19 : decode cX4_greatestBend 19 = .ok (.iload_n 3, 1) := by decide +kernel
theorem dX4_greatestBend_20 : decode cX4_greatestBend 20 = .ok (.invokestatic 103, 3) := by decide +kernel
theorem dX4_greatestBend_23 : decode cX4_greatestBend 23 = .ok (.istore 5, 2) := by decide +kernel
theorem dX4_greatestBend_25 : decode cX4_greatestBend 25 = .ok (.iload_n 2, 1) := by decide +kernel
theorem dX4_greatestBend_26 : decode cX4_greatestBend 26 = .ok (.iload 4, 2) := by decide +kernel
theorem dX4_greatestBend_28 : decode cX4_greatestBend 28 = .ok (.iload 5, 2) := by decide +kernel
theorem dX4_greatestBend_30 : decode cX4_greatestBend 30 = .ok (.isub, 1) := by decide +kernel
theorem dX4_greatestBend_31 : decode cX4_greatestBend 31 = .ok (.invokestatic 252, 3) := by decide +kernel
theorem dX4_greatestBend_34 : decode cX4_greatestBend 34 = .ok (.invokestatic 255, 3) := by decide +kernel
theorem dX4_greatestBend_37 : decode cX4_greatestBend 37 = .ok (.istore_n 2, 1) := by decide +kernel
theorem dX4_greatestBend_38 : decode cX4_greatestBend 38 = .ok (.iinc 3 1, 3) := by decide +kernel
theorem dX4_greatestBend_41 : decode cX4_greatestBend 41 = .ok (.goto (-37), 3) := by decide +kernel
theorem dX4_greatestBend_44 : decode cX4_greatestBend 44 = .ok (.iload_n 2, 1) := by decide +kernel
theorem dX4_greatestBend_45 : decode cX4_greatestBend 45 = .ok (.ireturn, 1) := by decide +kernel
theorem dX4_straightSum_0 : decode cX4_straightSum 0 = .ok (.iconst 0, 1) := by decide +kernel
theorem dX4_straightSum_1 : decode cX4_straightSum 1 = .ok (.istore_n 3, 1) := by decide +kernel
theorem dX4_straightSum_2 : decode cX4_straightSum 2 = .ok (.iconst 0, 1) := by decide +kernel
theorem dX4_straightSum_3 : decode cX4_straightSum 3 = .ok (.istore 4, 2) := by decide +kernel
theorem dX4_straightSum_5 : decode cX4_straightSum 5 = .ok (.iload 4, 2) := by decide +kernel
theorem dX4_straightSum_7 : decode cX4_straightSum 7 = .ok (.aload_n 0, 1) := by decide +kernel
theorem dX4_straightSum_8 : decode cX4_straightSum 8 = .ok (.getfield 10, 3) := by decide +kernel
theorem dX4_straightSum_11 : decode cX4_straightSum 11 = .ok (.getfield 44, 3) := by decide +kernel
theorem dX4_straightSum_14 : decode cX4_straightSum 14 = .ok (.if_icmp .ge 53, 3) := by decide +kernel
theorem dX4_straightSum_17 : decode cX4_straightSum 17 = .ok (.aload_n 0, 1) := by decide +kernel
theorem dX4_straightSum_18 : decode cX4_straightSum 18 = .ok (.getfield 10, 3) := by decide +kernel
theorem dX4_straightSum_21 : decode cX4_straightSum 21 = .ok (.getfield 128, 3) := by decide +kernel
theorem dX4_straightSum_24 : decode cX4_straightSum 24 = .ok (.iload 4, 2) := by decide +kernel
theorem dX4_straightSum_26 : decode cX4_straightSum 26 = .ok (.baload, 1) := by decide +kernel
theorem dX4_straightSum_27 : decode cX4_straightSum 27 = .ok (.ifCond .ne 34, 3) := by decide +kernel
theorem dX4_straightSum_30 : decode cX4_straightSum 30 = .ok (.aload_n 0, 1) := by decide +kernel
theorem dX4_straightSum_31 : decode cX4_straightSum 31 = .ok (.getfield 10, 3) := by decide +kernel
theorem dX4_straightSum_34 : decode cX4_straightSum 34 = .ok (.getfield 44, 3) := by decide +kernel
theorem dX4_straightSum_37 : decode cX4_straightSum 37 = .ok (.iload_n 1, 1) := by decide +kernel
theorem dX4_straightSum_38 : decode cX4_straightSum 38 = .ok (.iload 4, 2) := by decide +kernel
theorem dX4_straightSum_40 : decode cX4_straightSum 40 = .ok (.invokestatic 103, 3) := by decide +kernel
theorem dX4_straightSum_43 : decode cX4_straightSum 43 = .ok (.istore 5, 2) := by decide +kernel
theorem dX4_straightSum_45 : decode cX4_straightSum 45 = .ok (.iload_n 3, 1) := by decide +kernel
theorem dX4_straightSum_46 : decode cX4_straightSum 46 = .ok (.aload_n 0, 1) := by decide +kernel
theorem dX4_straightSum_47 : decode cX4_straightSum 47 = .ok (.getfield 10, 3) := by decide +kernel
theorem dX4_straightSum_50 : decode cX4_straightSum 50 = .ok (.iload 4, 2) := by decide +kernel
theorem dX4_straightSum_52 : decode cX4_straightSum 52 = .ok (.iload_n 2, 1) := by decide +kernel
theorem dX4_straightSum_53 : decode cX4_straightSum 53 = .ok (.iload 5, 2) := by decide +kernel
theorem dX4_straightSum_55 : decode cX4_straightSum 55 = .ok (.iadd, 1) := by decide +kernel
theorem dX4_straightSum_56 : decode cX4_straightSum 56 = .ok (.invokevirtual 113, 3) := by decide +kernel
theorem dX4_straightSum_59 : decode cX4_straightSum 59 = .ok (.iadd, 1) := by decide +kernel
theorem dX4_straightSum_60 : decode cX4_straightSum 60 = .ok (.istore_n 3, 1) := by decide +kernel
theorem dX4_straightSum_61 : decode cX4_straightSum 61 = .ok (.iinc 4 1, 3) := by decide +kernel
theorem dX4_straightSum_64 : decode cX4_straightSum 64 = .ok (.goto (-59), 3) := by decide +kernel
theorem dX4_straightSum_67 : decode cX4_straightSum 67 = .ok (.iload_n 3, 1) := by decide +kernel
theorem dX4_straightSum_68 : decode cX4_straightSum 68 = .ok (.ireturn, 1) := by decide +kernel
theorem dX5_init_0 : decode cX5_init 0 = .ok (.aload_n 0, 1) := by decide +kernel
theorem dX5_init_1 : decode cX5_init 1 = .ok (.invokespecial 1, 3) := by decide +kernel
theorem dX5_init_4 : decode cX5_init 4 = .ok (.aload_n 0, 1) := by decide +kernel
theorem dX5_init_5 : decode cX5_init 5 = .ok (.iconst 4, 1) := by decide +kernel
theorem dX5_init_6 : decode cX5_init 6 = .ok (.putfield 7, 3) := by decide +kernel
theorem dX5_init_9 : decode cX5_init 9 = .ok (.aload_n 0, 1) := by decide +kernel
theorem dX5_init_10 : decode cX5_init 10 = .ok (.bipush 16, 2) := by decide +kernel
theorem dX5_init_12 : decode cX5_init 12 = .ok (.newarray .int, 2) := by decide +kernel
theorem dX5_init_14 : decode cX5_init 14 = .ok (.putfield 13, 3) := by decide +kernel
theorem dX5_init_17 : decode cX5_init 17 = .ok (.aload_n 0, 1) := by decide +kernel
theorem dX5_init_18 : decode cX5_init 18 = .ok (.sipush 768, 3) := by decide +kernel
theorem dX5_init_21 : decode cX5_init 21 = .ok (.newarray .int, 2) := by decide +kernel
theorem dX5_init_23 : decode cX5_init 23 = .ok (.putfield 17, 3) := by decide +kernel
theorem dX5_init_26 : decode cX5_init 26 = .ok (.aload_n 0, 1) := by decide +kernel
theorem dX5_init_27 : decode cX5_init 27 = .ok (.bipush 64, 2) := by decide +kernel
theorem dX5_init_29 : decode cX5_init 29 = .ok (.newarray .int, 2) := by decide +kernel
theorem dX5_init_31 : decode cX5_init 31 = .ok (.putfield 20, 3) := by decide +kernel
theorem dX5_init_34 : decode cX5_init 34 = .ok (.aload_n 0, 1) := by decide +kernel
theorem dX5_init_35 : decode cX5_init 35 = .ok (.bipush 8, 2) := by decide +kernel
theorem dX5_init_37 : decode cX5_init 37 = .ok (.newarray .int, 2) := by decide +kernel
theorem dX5_init_39 : decode cX5_init 39 = .ok (.putfield 23, 3) := by decide +kernel
theorem dX5_init_42 : decode cX5_init 42 = .ok (.aload_n 0, 1) := by decide +kernel
theorem dX5_init_43 : decode cX5_init 43 = .ok (.bipush 8, 2) := by decide +kernel
theorem dX5_init_45 : decode cX5_init 45 = .ok (.newarray .int, 2) := by decide +kernel
theorem dX5_init_47 : decode cX5_init 47 = .ok (.putfield 26, 3) := by decide +kernel
theorem dX5_init_50 : decode cX5_init 50 = .ok (.aload_n 0, 1) := by decide +kernel
theorem dX5_init_51 : decode cX5_init 51 = .ok (.bipush 8, 2) := by decide +kernel
theorem dX5_init_53 : decode cX5_init 53 = .ok (.newarray .int, 2) := by decide +kernel
theorem dX5_init_55 : decode cX5_init 55 = .ok (.putfield 29, 3) := by decide +kernel
theorem dX5_init_58 : decode cX5_init 58 = .ok (.aload_n 0, 1) := by decide +kernel
theorem dX5_init_59 : decode cX5_init 59 = .ok (.bipush 8, 2) := by decide +kernel
theorem dX5_init_61 : decode cX5_init 61 = .ok (.newarray .long, 2) := by decide +kernel
theorem dX5_init_63 : decode cX5_init 63 = .ok (.putfield 32, 3) := by decide +kernel
theorem dX5_init_66 : decode cX5_init 66 = .ok (.aload_n 0, 1) := by decide +kernel
theorem dX5_init_67 : decode cX5_init 67 = .ok (.bipush 48, 2) := by decide +kernel
theorem dX5_init_69 : decode cX5_init 69 = .ok (.newarray .int, 2) := by decide +kernel
theorem dX5_init_71 : decode cX5_init 71 = .ok (.putfield 36, 3) := by decide +kernel
theorem dX5_init_74 : decode cX5_init 74 = .ok (.return_, 1) := by decide +kernel
theorem dX5_thrown_0 : decode cX5_thrown 0 = .ok (.aload_n 0, 1) := by decide +kernel
theorem dX5_thrown_1 : decode cX5_thrown 1 = .ok (.getfield 39, 3) := by decide +kernel
theorem dX5_thrown_4 : decode cX5_thrown 4 = .ok (.ireturn, 1) := by decide +kernel
theorem dX5_within_0 : decode cX5_within 0 = .ok (.iload_n 0, 1) := by decide +kernel
theorem dX5_within_1 : decode cX5_within 1 = .ok (.iload_n 1, 1) := by decide +kernel
theorem dX5_within_2 : decode cX5_within 2 = .ok (.if_icmp .lt 12, 3) := by decide +kernel
theorem dX5_within_5 : decode cX5_within 5 = .ok (.iload_n 0, 1) := by decide +kernel
theorem dX5_within_6 : decode cX5_within 6 = .ok (.iload_n 2, 1) := by decide +kernel
theorem dX5_within_7 : decode cX5_within 7 = .ok (.if_icmp .gt 7, 3) := by decide +kernel
theorem dX5_within_10 : decode cX5_within 10 = .ok (.iconst 1, 1) := by decide +kernel
theorem dX5_within_11 : decode cX5_within 11 = .ok (.goto 4, 3) := by decide +kernel
theorem dX5_within_14 : decode cX5_within 14 = .ok (.iconst 0, 1) := by decide +kernel
theorem dX5_within_15 : decode cX5_within 15 = .ok (.ireturn, 1) := by decide +kernel
theorem dX5_isChannel_0 : decode cX5_isChannel 0 = .ok (.iload_n 1, 1) := by decide +kernel
theorem dX5_isChannel_1 : decode cX5_isChannel 1 = .ok (.iconst 0, 1) := by decide +kernel
theorem dX5_isChannel_2 : decode cX5_isChannel 2 = .ok (.aload_n 0, 1) := by decide +kernel
theorem dX5_isChannel_3 : decode cX5_isChannel 3 = .ok (.getfield 7, 3) := by decide +kernel
theorem dX5_isChannel_6 : decode cX5_isChannel 6 = .ok (.iconst 1, 1) := by decide +kernel
theorem dX5_isChannel_7 : decode cX5_isChannel 7 = .ok (.isub, 1) := by decide +kernel
theorem dX5_isChannel_8 : decode cX5_isChannel 8 = .ok (.invokestatic 42, 3) := by decide +kernel
theorem dX5_isChannel_11 : decode cX5_isChannel 11 = .ok (.ireturn, 1) := by decide +kernel
theorem dX5_isColumn_0 : decode cX5_isColumn 0 = .ok (.iload_n 1, 1) := by decide +kernel
theorem dX5_isColumn_1 : decode cX5_isColumn 1 = .ok (.iconst 0, 1) := by decide +kernel
theorem dX5_isColumn_2 : decode cX5_isColumn 2 = .ok (.aload_n 0, 1) := by decide +kernel
theorem dX5_isColumn_3 : decode cX5_isColumn 3 = .ok (.getfield 46, 3) := by decide +kernel
theorem dX5_isColumn_6 : decode cX5_isColumn 6 = .ok (.iconst 1, 1) := by decide +kernel
theorem dX5_isColumn_7 : decode cX5_isColumn 7 = .ok (.isub, 1) := by decide +kernel
theorem dX5_isColumn_8 : decode cX5_isColumn 8 = .ok (.invokestatic 42, 3) := by decide +kernel
theorem dX5_isColumn_11 : decode cX5_isColumn 11 = .ok (.ireturn, 1) := by decide +kernel
theorem dX5_setChannels_0 : decode cX5_setChannels 0 = .ok (.aload_n 0, 1) := by decide +kernel
theorem dX5_setChannels_1 : decode cX5_setChannels 1 = .ok (.iload_n 1, 1) := by decide +kernel
theorem dX5_setChannels_2 : decode cX5_setChannels 2 = .ok (.iconst 2, 1) := by decide +kernel
theorem dX5_setChannels_3 : decode cX5_setChannels 3 = .ok (.if_icmp .eq 20, 3) := by decide +kernel
theorem dX5_setChannels_6 : decode cX5_setChannels 6 = .ok (.iload_n 1, 1) := by decide +kernel
theorem dX5_setChannels_7 : decode cX5_setChannels 7 = .ok (.iconst 4, 1) := by decide +kernel
theorem dX5_setChannels_8 : decode cX5_setChannels 8 = .ok (.if_icmp .eq 15, 3) := by decide +kernel
theorem dX5_setChannels_11 : decode cX5_setChannels 11 = .ok (.iload_n 1, 1) := by decide +kernel
theorem dX5_setChannels_12 : decode cX5_setChannels 12 = .ok (.bipush 8, 2) := by decide +kernel
theorem dX5_setChannels_14 : decode cX5_setChannels 14 = .ok (.if_icmp .eq 9, 3) := by decide +kernel
theorem dX5_setChannels_17 : decode cX5_setChannels 17 = .ok (.iload_n 1, 1) := by decide +kernel
theorem dX5_setChannels_18 : decode cX5_setChannels 18 = .ok (.bipush 16, 2) := by decide +kernel
theorem dX5_setChannels_20 : decode cX5_setChannels 20 = .ok (.if_icmp .ne 7, 3) := by decide +kernel
theorem dX5_setChannels_23 : decode cX5_setChannels 23 = .ok (.iconst 0, 1) := by decide +kernel
theorem dX5_setChannels_24 : decode cX5_setChannels 24 = .ok (.goto 4, 3) := by decide +kernel
theorem dX5_setChannels_27 : decode cX5_setChannels 27 = .ok (.iconst 1, 1) := by decide +kernel
theorem dX5_setChannels_28 : decode cX5_setChannels 28 = .ok (.putfield 39, 3) := by decide +kernel
theorem dX5_setChannels_31 : decode cX5_setChannels 31 = .ok (.aload_n 0, 1) := by decide +kernel
theorem dX5_setChannels_32 : decode cX5_setChannels 32 = .ok (.getfield 39, 3) := by decide +kernel
theorem dX5_setChannels_35 : decode cX5_setChannels 35 = .ok (.ifCond .le 5, 3) := by decide +kernel
theorem dX5_setChannels_38 : decode cX5_setChannels 38 = .ok (.iconst 0, 1) := by decide +kernel
theorem dX5_setChannels_39 : decode cX5_setChannels 39 = .ok (.ireturn, 1) := by decide +kernel
theorem dX5_setChannels_40 : decode cX5_setChannels 40 = .ok (.aload_n 0, 1) := by decide +kernel
theorem dX5_setChannels_41 : decode cX5_setChannels 41 = .ok (.getfield 7, 3) := by decide +kernel
theorem dX5_setChannels_44 : decode cX5_setChannels 44 = .ok (.istore_n 2, 1) := by decide +kernel
theorem dX5_setChannels_45 : decode cX5_setChannels 45 = .ok (.aload_n 0, 1) := by decide +kernel
theorem dX5_setChannels_46 : decode cX5_setChannels 46 = .ok (.iload_n 1, 1) := by decide +kernel
theorem dX5_setChannels_47 : decode cX5_setChannels 47 = .ok (.putfield 7, 3) := by decide +kernel
theorem dX5_setChannels_50 : decode cX5_setChannels 50 = .ok (.aload_n 0, 1) := by decide +kernel
theorem dX5_setChannels_51 : decode cX5_setChannels 51 = .ok (.iconst 0, 1) := by decide +kernel
theorem dX5_setChannels_52 : decode cX5_setChannels 52 = .ok (.putfield 46, 3) := by decide +kernel
theorem dX5_setChannels_55 : decode cX5_setChannels 55 = .ok (.aload_n 0, 1) := by decide +kernel
theorem dX5_setChannels_56 : decode cX5_setChannels 56 = .ok (.iconst 0, 1) := by decide +kernel
theorem dX5_setChannels_57 : decode cX5_setChannels 57 = .ok (.putfield 49, 3) := by decide +kernel
theorem dX5_setChannels_60 : decode cX5_setChannels 60 = .ok (.aload_n 0, 1) := by decide +kernel
theorem dX5_setChannels_61 : decode cX5_setChannels 61 = .ok (.iconst 0, 1) := by decide +kernel
theorem dX5_setChannels_62 : decode cX5_setChannels 62 = .ok (.putfield 52, 3) := by decide +kernel
theorem dX5_setChannels_65 : decode cX5_setChannels 65 = .ok (.aload_n 0, 1) := by decide +kernel
theorem dX5_setChannels_66 : decode cX5_setChannels 66 = .ok (.iconst 0, 1) := by decide +kernel
theorem dX5_setChannels_67 : decode cX5_setChannels 67 = .ok (.putfield 55, 3) := by decide +kernel
theorem dX5_setChannels_70 : decode cX5_setChannels 70 = .ok (.aload_n 0, 1) := by decide +kernel
theorem dX5_setChannels_71 : decode cX5_setChannels 71 = .ok (.invokevirtual 58, 3) := by decide +kernel
theorem dX5_setChannels_74 : decode cX5_setChannels 74 = .ok (.iload_n 2, 1) := by decide +kernel
theorem dX5_setChannels_75 : decode cX5_setChannels 75 = .ok (.ireturn, 1) := by decide +kernel
theorem dX5_clearPending_0 : decode cX5_clearPending 0 = .ok (.iconst 0, 1) := by decide +kernel
theorem dX5_clearPending_1 : decode cX5_clearPending 1 = .ok (.istore_n 1, 1) := by decide +kernel
theorem dX5_clearPending_2 : decode cX5_clearPending 2 = .ok (.iload_n 1, 1) := by decide +kernel
theorem dX5_clearPending_3 : decode cX5_clearPending 3 = .ok (.bipush 16, 2) := by decide +kernel
theorem dX5_clearPending_5 : decode cX5_clearPending 5 = .ok (.if_icmp .ge 16, 3) := by decide +kernel
theorem dX5_clearPending_8 : decode cX5_clearPending 8 = .ok (.aload_n 0, 1) := by decide +kernel
theorem dX5_clearPending_9 : decode cX5_clearPending 9 = .ok (.getfield 13, 3) := by decide +kernel
theorem dX5_clearPending_12 : decode cX5_clearPending 12 = .ok (.iload_n 1, 1) := by decide +kernel
theorem dX5_clearPending_13 : decode cX5_clearPending 13 = .ok (.iconst 0, 1) := by decide +kernel
theorem dX5_clearPending_14 : decode cX5_clearPending 14 = .ok (.iastore, 1) := by decide +kernel
theorem dX5_clearPending_15 : decode cX5_clearPending 15 = .ok (.iinc 1 1, 3) := by decide +kernel
theorem dX5_clearPending_18 : decode cX5_clearPending 18 = .ok (.goto (-16), 3) := by decide +kernel
theorem dX5_clearPending_21 : decode cX5_clearPending 21 = .ok (.return_, 1) := by decide +kernel
theorem dX5_setPending_0 : decode cX5_setPending 0 = .ok (.aload_n 0, 1) := by decide +kernel
theorem dX5_setPending_1 : decode cX5_setPending 1 = .ok (.aload_n 0, 1) := by decide +kernel
theorem dX5_setPending_2 : decode cX5_setPending 2 = .ok (.iload_n 1, 1) := by decide +kernel
theorem dX5_setPending_3 : decode cX5_setPending 3 = .ok (.invokevirtual 61, 3) := by decide +kernel
theorem dX5_setPending_6 : decode cX5_setPending 6 = .ok (.ifCond .ne 7, 3) := by decide +kernel
theorem dX5_setPending_9 : decode cX5_setPending 9 = .ok (.iconst 1, 1) := by decide +kernel
theorem dX5_setPending_10 : decode cX5_setPending 10 = .ok (.goto 19, 3) := by decide +kernel
theorem dX5_setPending_13 : decode cX5_setPending 13 = .ok (.iload_n 2, 1) := by decide +kernel
theorem dX5_setPending_14 : decode cX5_setPending 14 = .ok (.iconst 0, 1) := by decide +kernel
theorem dX5_setPending_15 : decode cX5_setPending 15 = .ok (.sipush 9999, 3) := by decide +kernel
theorem dX5_setPending_18 : decode cX5_setPending 18 = .ok (.invokestatic 42, 3) := by decide +kernel
theorem dX5_setPending_21 : decode cX5_setPending 21 = .ok (.ifCond .eq 7, 3) := by decide +kernel
theorem dX5_setPending_24 : decode cX5_setPending 24 = .ok (.iconst 0, 1) := by decide +kernel
theorem dX5_setPending_25 : decode cX5_setPending 25 = .ok (.goto 4, 3) := by decide +kernel
theorem dX5_setPending_28 : decode cX5_setPending 28 = .ok (.iconst 2, 1) := by decide +kernel
theorem dX5_setPending_29 : decode cX5_setPending 29 = .ok (.putfield 39, 3) := by decide +kernel
theorem dX5_setPending_32 : decode cX5_setPending 32 = .ok (.aload_n 0, 1) := by decide +kernel
theorem dX5_setPending_33 : decode cX5_setPending 33 = .ok (.getfield 39, 3) := by decide +kernel
theorem dX5_setPending_36 : decode cX5_setPending 36 = .ok (.ifCond .le 5, 3) := by decide +kernel
theorem dX5_setPending_39 : decode cX5_setPending 39 = .ok (.iconst 0, 1) := by decide +kernel
theorem dX5_setPending_40 : decode cX5_setPending 40 = .ok (.ireturn, 1) := by decide +kernel
theorem dX5_setPending_41 : decode cX5_setPending 41 = .ok (.aload_n 0, 1) := by decide +kernel
theorem dX5_setPending_42 : decode cX5_setPending 42 = .ok (.getfield 13, 3) := by decide +kernel
theorem dX5_setPending_45 : decode cX5_setPending 45 = .ok (.iload_n 1, 1) := by decide +kernel
theorem dX5_setPending_46 : decode cX5_setPending 46 = .ok (.iaload, 1) := by decide +kernel
theorem dX5_setPending_47 : decode cX5_setPending 47 = .ok (.istore_n 3, 1) := by decide +kernel
theorem dX5_setPending_48 : decode cX5_setPending 48 = .ok (.aload_n 0, 1) := by decide +kernel
theorem dX5_setPending_49 : decode cX5_setPending 49 = .ok (.getfield 13, 3) := by decide +kernel
theorem dX5_setPending_52 : decode cX5_setPending 52 = .ok (.iload_n 1, 1) := by decide +kernel
theorem dX5_setPending_53 : decode cX5_setPending 53 = .ok (.iload_n 2, 1) := by decide +kernel
theorem dX5_setPending_54 : decode cX5_setPending 54 = .ok (.iastore, 1) := by decide +kernel
theorem dX5_setPending_55 : decode cX5_setPending 55 = .ok (.iload_n 3, 1) := by decide +kernel
theorem dX5_setPending_56 : decode cX5_setPending 56 = .ok (.ireturn, 1) := by decide +kernel
theorem dX5_begin_0 : decode cX5_begin 0 = .ok (.aload_n 0, 1) := by decide +kernel
theorem dX5_begin_1 : decode cX5_begin 1 = .ok (.getfield 46, 3) := by decide +kernel
theorem dX5_begin_4 : decode cX5_begin 4 = .ok (.bipush 48, 2) := by decide +kernel
theorem dX5_begin_6 : decode cX5_begin 6 = .ok (.if_icmp .ne 53, 3) := by decide +kernel
theorem dX5_begin_9 : decode cX5_begin 9 = .ok (.iconst 0, 1) := by decide +kernel
theorem dX5_begin_10 : decode cX5_begin 10 = .ok (.istore_n 1, 1) := by decide +kernel
theorem dX5_begin_11 : decode cX5_begin 11 = .ok (.iload_n 1, 1) := by decide +kernel
theorem dX5_begin_12 : decode cX5_begin 12 = .ok (.sipush 752, 3) := by decide +kernel
theorem dX5_begin_15 : decode cX5_begin 15 = .ok (.if_icmp .ge 24, 3) := by decide +kernel
theorem dX5_begin_18 : decode cX5_begin 18 = .ok (.aload_n 0, 1) := by decide +kernel
theorem dX5_begin_19 : decode cX5_begin 19 = .ok (.getfield 17, 3) := by decide +kernel
theorem dX5_begin_22 : decode cX5_begin 22 = .ok (.iload_n 1, 1) := by decide +kernel
theorem dX5_begin_23 : decode cX5_begin 23 = .ok (.aload_n 0, 1) := by decide +kernel
theorem dX5_begin_24 : decode cX5_begin 24 = .ok (.getfield 17, 3) := by decide +kernel
theorem dX5_begin_27 : decode cX5_begin 27 = .ok (.iload_n 1, 1) := by decide +kernel
theorem dX5_begin_28 : decode cX5_begin 28 = .ok (.bipush 16, 2) := by decide +kernel
theorem dX5_begin_30 : decode cX5_begin 30 = .ok (.iadd, 1) := by decide +kernel
theorem dX5_begin_31 : decode cX5_begin 31 = .ok (.iaload, 1) := by decide +kernel
theorem dX5_begin_32 : decode cX5_begin 32 = .ok (.iastore, 1) := by decide +kernel
theorem dX5_begin_33 : decode cX5_begin 33 = .ok (.iinc 1 1, 3) := by decide +kernel
theorem dX5_begin_36 : decode cX5_begin 36 = .ok (.goto (-25), 3) := by decide +kernel
theorem dX5_begin_39 : decode cX5_begin 39 = .ok (.aload_n 0, 1) := by decide +kernel
theorem dX5_begin_40 : decode cX5_begin 40 = .ok (.dup, 1) := by decide +kernel
theorem dX5_begin_41 : decode cX5_begin 41 = .ok (.getfield 49, 3) := by decide +kernel
theorem dX5_begin_44 : decode cX5_begin 44 = .ok (.iconst 1, 1) := by decide +kernel
theorem dX5_begin_45 : decode cX5_begin 45 = .ok (.iadd, 1) := by decide +kernel
theorem dX5_begin_46 : decode cX5_begin 46 = .ok (.putfield 49, 3) := by decide +kernel
theorem dX5_begin_49 : decode cX5_begin 49 = .ok (.aload_n 0, 1) := by decide +kernel
theorem dX5_begin_50 : decode cX5_begin 50 = .ok (.dup, 1) := by decide +kernel
theorem dX5_begin_51 : decode cX5_begin 51 = .ok (.getfield 46, 3) := by decide +kernel
theorem dX5_begin_54 : decode cX5_begin 54 = .ok (.iconst 1, 1) := by decide +kernel
theorem dX5_begin_55 : decode cX5_begin 55 = .ok (.isub, 1) := by decide +kernel
theorem dX5_begin_56 : decode cX5_begin 56 = .ok (.putfield 46, 3) := by decide +kernel
theorem dX5_begin_59 : decode cX5_begin 59 = .ok (.aload_n 0, 1) := by decide +kernel
theorem dX5_begin_60 : decode cX5_begin 60 = .ok (.dup, 1) := by decide +kernel
theorem dX5_begin_61 : decode cX5_begin 61 = .ok (.getfield 46, 3) := by decide +kernel
theorem dX5_begin_64 : decode cX5_begin 64 = .ok (.iconst 1, 1) := by decide +kernel
theorem dX5_begin_65 : decode cX5_begin 65 = .ok (.iadd, 1) := by decide +kernel
theorem dX5_begin_66 : decode cX5_begin 66 = .ok (.putfield 46, 3) := by decide +kernel
theorem dX5_begin_69 : decode cX5_begin 69 = .ok (.aload_n 0, 1) := by decide +kernel
theorem dX5_begin_70 : decode cX5_begin 70 = .ok (.iconst 0, 1) := by decide +kernel
theorem dX5_begin_71 : decode cX5_begin 71 = .ok (.putfield 55, 3) := by decide +kernel
theorem dX5_begin_74 : decode cX5_begin 74 = .ok (.return_, 1) := by decide +kernel
theorem dX5_advance_0 : decode cX5_advance 0 = .ok (.aload_n 0, 1) := by decide +kernel
theorem dX5_advance_1 : decode cX5_advance 1 = .ok (.iconst 0, 1) := by decide +kernel
theorem dX5_advance_2 : decode cX5_advance 2 = .ok (.putfield 39, 3) := by decide +kernel
theorem dX5_advance_5 : decode cX5_advance 5 = .ok (.aload_n 0, 1) := by decide +kernel
theorem dX5_advance_6 : decode cX5_advance 6 = .ok (.invokevirtual 65, 3) := by decide +kernel
theorem dX5_advance_9 : decode cX5_advance 9 = .ok (.iconst 0, 1) := by decide +kernel
theorem dX5_advance_10 : decode cX5_advance 10 = .ok (.istore_n 1, 1) := by decide +kernel
theorem dX5_advance_11 : decode cX5_advance 11 = .ok (.iload_n 1, 1) := by decide +kernel
theorem dX5_advance_12 : decode cX5_advance 12 = .ok (.bipush 16, 2) := by decide +kernel
theorem dX5_advance_14 : decode cX5_advance 14 = .ok (.if_icmp .ge 31, 3) := by decide +kernel
theorem dX5_advance_17 : decode cX5_advance 17 = .ok (.aload_n 0, 1) := by decide +kernel
theorem dX5_advance_18 : decode cX5_advance 18 = .ok (.getfield 17, 3) := by decide +kernel
theorem dX5_advance_21 : decode cX5_advance 21 = .ok (.bipush 16, 2) := by decide +kernel
theorem dX5_advance_23 : decode cX5_advance 23 = .ok (.aload_n 0, 1) := by decide +kernel
theorem dX5_advance_24 : decode cX5_advance 24 = .ok (.getfield 46, 3) := by decide +kernel
theorem dX5_advance_27 : decode cX5_advance 27 = .ok (.iconst 1, 1) := by decide +kernel
theorem dX5_advance_28 : decode cX5_advance 28 = .ok (.isub, 1) := by decide +kernel
theorem dX5_advance_29 : decode cX5_advance 29 = .ok (.imul, 1) := by decide +kernel
theorem dX5_advance_30 : decode cX5_advance 30 = .ok (.iload_n 1, 1) := by decide +kernel
theorem dX5_advance_31 : decode cX5_advance 31 = .ok (.iadd, 1) := by decide +kernel
theorem dX5_advance_32 : decode cX5_advance 32 = .ok (.aload_n 0, 1) := by decide +kernel
theorem dX5_advance_33 : decode cX5_advance 33 = .ok (.getfield 13, 3) := by decide +kernel
theorem dX5_advance_36 : decode cX5_advance 36 = .ok (.iload_n 1, 1) := by decide +kernel
theorem dX5_advance_37 : decode cX5_advance 37 = .ok (.iaload, 1) := by decide +kernel
theorem dX5_advance_38 : decode cX5_advance 38 = .ok (.iastore, 1) := by decide +kernel
theorem dX5_advance_39 : decode cX5_advance 39 = .ok (.iinc 1 1, 3) := by decide +kernel
theorem dX5_advance_42 : decode cX5_advance 42 = .ok (.goto (-31), 3) := by decide +kernel
theorem dX5_advance_45 : decode cX5_advance 45 = .ok (.aload_n 0, 1) := by decide +kernel
theorem dX5_advance_46 : decode cX5_advance 46 = .ok (.invokevirtual 58, 3) := by decide +kernel
theorem dX5_advance_49 : decode cX5_advance 49 = .ok (.aload_n 0, 1) := by decide +kernel
theorem dX5_advance_50 : decode cX5_advance 50 = .ok (.getfield 46, 3) := by decide +kernel
theorem dX5_advance_53 : decode cX5_advance 53 = .ok (.ireturn, 1) := by decide +kernel
theorem dX5_append_0 : decode cX5_append 0 = .ok (.aload_n 0, 1) := by decide +kernel
theorem dX5_append_1 : decode cX5_append 1 = .ok (.iload_n 1, 1) := by decide +kernel
theorem dX5_append_2 : decode cX5_append 2 = .ok (.bipush 32, 2) := by decide +kernel
theorem dX5_append_4 : decode cX5_append 4 = .ok (.bipush 126, 2) := by decide +kernel
theorem dX5_append_6 : decode cX5_append 6 = .ok (.invokestatic 42, 3) := by decide +kernel
theorem dX5_append_9 : decode cX5_append 9 = .ok (.ifCond .ne 7, 3) := by decide +kernel
theorem dX5_append_12 : decode cX5_append 12 = .ok (.iconst 1, 1) := by decide +kernel
theorem dX5_append_13 : decode cX5_append 13 = .ok (.goto 17, 3) := by decide +kernel
theorem dX5_append_16 : decode cX5_append 16 = .ok (.aload_n 0, 1) := by decide +kernel
theorem dX5_append_17 : decode cX5_append 17 = .ok (.getfield 68, 3) := by decide +kernel
theorem dX5_append_20 : decode cX5_append 20 = .ok (.bipush 64, 2) := by decide +kernel
theorem dX5_append_22 : decode cX5_append 22 = .ok (.if_icmp .ne 7, 3) := by decide +kernel
theorem dX5_append_25 : decode cX5_append 25 = .ok (.iconst 2, 1) := by decide +kernel
theorem dX5_append_26 : decode cX5_append 26 = .ok (.goto 4, 3) := by decide +kernel
theorem dX5_append_29 : decode cX5_append 29 = .ok (.iconst 0, 1) := by decide +kernel
theorem dX5_append_30 : decode cX5_append 30 = .ok (.putfield 39, 3) := by decide +kernel
theorem dX5_append_33 : decode cX5_append 33 = .ok (.aload_n 0, 1) := by decide +kernel
theorem dX5_append_34 : decode cX5_append 34 = .ok (.getfield 39, 3) := by decide +kernel
theorem dX5_append_37 : decode cX5_append 37 = .ok (.ifCond .le 5, 3) := by decide +kernel
theorem dX5_append_40 : decode cX5_append 40 = .ok (.iconst 0, 1) := by decide +kernel
theorem dX5_append_41 : decode cX5_append 41 = .ok (.ireturn, 1) := by decide +kernel
theorem dX5_append_42 : decode cX5_append 42 = .ok (.aload_n 0, 1) := by decide +kernel
theorem dX5_append_43 : decode cX5_append 43 = .ok (.getfield 20, 3) := by decide +kernel
theorem dX5_append_46 : decode cX5_append 46 = .ok (.aload_n 0, 1) := by decide +kernel
theorem dX5_append_47 : decode cX5_append 47 = .ok (.getfield 68, 3) := by decide +kernel
theorem dX5_append_50 : decode cX5_append 50 = .ok (.iload_n 1, 1) := by decide +kernel
theorem dX5_append_51 : decode cX5_append 51 = .ok (.iastore, 1) := by decide +kernel
theorem dX5_append_52 : decode cX5_append 52 = .ok (.aload_n 0, 1) := by decide +kernel
theorem dX5_append_53 : decode cX5_append 53 = .ok (.dup, 1) := by decide +kernel
theorem dX5_append_54 : decode cX5_append 54 = .ok (.getfield 68, 3) := by decide +kernel
theorem dX5_append_57 : decode cX5_append 57 = .ok (.iconst 1, 1) := by decide +kernel
theorem dX5_append_58 : decode cX5_append 58 = .ok (.iadd, 1) := by decide +kernel
theorem dX5_append_59 : decode cX5_append 59 = .ok (.putfield 68, 3) := by decide +kernel
theorem dX5_append_62 : decode cX5_append 62 = .ok (.aload_n 0, 1) := by decide +kernel
theorem dX5_append_63 : decode cX5_append 63 = .ok (.getfield 68, 3) := by decide +kernel
theorem dX5_append_66 : decode cX5_append 66 = .ok (.ireturn, 1) := by decide +kernel
theorem dX5_clearInput_0 : decode cX5_clearInput 0 = .ok (.aload_n 0, 1) := by decide +kernel
theorem dX5_clearInput_1 : decode cX5_clearInput 1 = .ok (.iconst 0, 1) := by decide +kernel
theorem dX5_clearInput_2 : decode cX5_clearInput 2 = .ok (.putfield 39, 3) := by decide +kernel
theorem dX5_clearInput_5 : decode cX5_clearInput 5 = .ok (.aload_n 0, 1) := by decide +kernel
theorem dX5_clearInput_6 : decode cX5_clearInput 6 = .ok (.getfield 68, 3) := by decide +kernel
theorem dX5_clearInput_9 : decode cX5_clearInput 9 = .ok (.istore_n 1, 1) := by decide +kernel
theorem dX5_clearInput_10 : decode cX5_clearInput 10 = .ok (.aload_n 0, 1) := by decide +kernel
theorem dX5_clearInput_11 : decode cX5_clearInput 11 = .ok (.iconst 0, 1) := by decide +kernel
theorem dX5_clearInput_12 : decode cX5_clearInput 12 = .ok (.putfield 68, 3) := by decide +kernel
theorem dX5_clearInput_15 : decode cX5_clearInput 15 = .ok (.iload_n 1, 1) := by decide +kernel
theorem dX5_clearInput_16 : decode cX5_clearInput 16 = .ok (.ireturn, 1) := by decide +kernel
theorem dX5_powerOf_0 : decode cX5_powerOf 0 = .ok (.iload_n 0, 1) := by decide +kernel
theorem dX5_powerOf_1 : decode cX5_powerOf 1 = .ok (.bipush 48, 2) := by decide +kernel
theorem dX5_powerOf_3 : decode cX5_powerOf 3 = .ok (.bipush 57, 2) := by decide +kernel
theorem dX5_powerOf_5 : decode cX5_powerOf 5 = .ok (.invokestatic 42, 3) := by decide +kernel
theorem dX5_powerOf_8 : decode cX5_powerOf 8 = .ok (.ifCond .eq 10, 3) := by decide +kernel
theorem dX5_powerOf_11 : decode cX5_powerOf 11 = .ok (.iload_n 0, 1) := by decide +kernel
theorem dX5_powerOf_12 : decode cX5_powerOf 12 = .ok (.bipush 48, 2) := by decide +kernel
theorem dX5_powerOf_14 : decode cX5_powerOf 14 = .ok (.isub, 1) := by decide +kernel
theorem dX5_powerOf_15 : decode cX5_powerOf 15 = .ok (.goto 25, 3) := by decide +kernel
theorem dX5_powerOf_18 : decode cX5_powerOf 18 = .ok (.iload_n 0, 1) := by decide +kernel
theorem dX5_powerOf_19 : decode cX5_powerOf 19 = .ok (.bipush 65, 2) := by decide +kernel
theorem dX5_powerOf_21 : decode cX5_powerOf 21 = .ok (.bipush 90, 2) := by decide +kernel
theorem dX5_powerOf_23 : decode cX5_powerOf 23 = .ok (.invokestatic 42, 3) := by decide +kernel
theorem dX5_powerOf_26 : decode cX5_powerOf 26 = .ok (.ifCond .eq 13, 3) := by decide +kernel
theorem dX5_powerOf_29 : decode cX5_powerOf 29 = .ok (.bipush 10, 2) := by decide +kernel
theorem dX5_powerOf_31 : decode cX5_powerOf 31 = .ok (.iload_n 0, 1) := by decide +kernel
theorem dX5_powerOf_32 : decode cX5_powerOf 32 = .ok (.iadd, 1) := by decide +kernel
theorem dX5_powerOf_33 : decode cX5_powerOf 33 = .ok (.bipush 65, 2) := by decide +kernel
theorem dX5_powerOf_35 : decode cX5_powerOf 35 = .ok (.isub, 1) := by decide +kernel
theorem dX5_powerOf_36 : decode cX5_powerOf 36 = .ok (.goto 4, 3) := by decide +kernel
theorem dX5_powerOf_39 : decode cX5_powerOf 39 = .ok (.iconst (-1), 1) := by decide +kernel
theorem dX5_powerOf_40 : decode cX5_powerOf 40 = .ok (.ireturn, 1) := by decide +kernel
theorem dX5_rightLength_0 : decode cX5_rightLength 0 = .ok (.iconst 0, 1) := by decide +kernel
theorem dX5_rightLength_1 : decode cX5_rightLength 1 = .ok (.istore_n 1, 1) := by decide +kernel
theorem dX5_rightLength_2 : decode cX5_rightLength 2 = .ok (.iload_n 1, 1) := by decide +kernel
theorem dX5_rightLength_3 : decode cX5_rightLength 3 = .ok (.aload_n 0, 1) := by decide +kernel
theorem dX5_rightLength_4 : decode cX5_rightLength 4 = .ok (.getfield 68, 3) := by decide +kernel
theorem dX5_rightLength_7 : decode cX5_rightLength 7 = .ok (.if_icmp .ge 22, 3) := by decide +kernel
theorem dX5_rightLength_10 : decode cX5_rightLength 10 = .ok (.aload_n 0, 1) := by decide +kernel
theorem dX5_rightLength_11 : decode cX5_rightLength 11 = .ok (.getfield 20, 3) := by decide +kernel
theorem dX5_rightLength_14 : decode cX5_rightLength 14 = .ok (.iload_n 1, 1) := by decide +kernel
theorem dX5_rightLength_15 : decode cX5_rightLength 15 = .ok (.iaload, 1) := by decide +kernel
theorem dX5_rightLength_16 : decode cX5_rightLength 16 = .ok (.invokestatic 71, 3) := by decide +kernel
theorem dX5_rightLength_19 : decode cX5_rightLength 19 = .ok (.iconst (-1), 1) := by decide +kernel
theorem dX5_rightLength_20 : decode cX5_rightLength 20 = .ok (.if_icmp .eq 9, 3) := by decide +kernel
theorem dX5_rightLength_23 : decode cX5_rightLength 23 = .ok (.iinc 1 1, 3) := by decide +kernel
theorem dX5_rightLength_26 : decode cX5_rightLength 26 = .ok (.goto (-24), 3) := by decide +kernel
theorem dX5_rightLength_29 : decode cX5_rightLength 29 = .ok (.iload_n 1, 1) := by decide +kernel
theorem dX5_rightLength_30 : decode cX5_rightLength 30 = .ok (.ireturn, 1) := by decide +kernel
theorem dX5_firstError_0 : decode cX5_firstError 0 = .ok (.aload_n 0, 1) := by decide +kernel
theorem dX5_firstError_1 : decode cX5_firstError 1 = .ok (.iconst 0, 1) := by decide +kernel
theorem dX5_firstError_2 : decode cX5_firstError 2 = .ok (.putfield 39, 3) := by decide +kernel
theorem dX5_firstError_5 : decode cX5_firstError 5 = .ok (.aload_n 0, 1) := by decide +kernel
theorem dX5_firstError_6 : decode cX5_firstError 6 = .ok (.invokevirtual 75, 3) := by decide +kernel
theorem dX5_firstError_9 : decode cX5_firstError 9 = .ok (.ireturn, 1) := by decide +kernel
theorem dX5_load_0 : decode cX5_load 0 = .ok (.aload_n 0, 1) := by decide +kernel
theorem dX5_load_1 : decode cX5_load 1 = .ok (.aload_n 0, 1) := by decide +kernel
theorem dX5_load_2 : decode cX5_load 2 = .ok (.getfield 68, 3) := by decide +kernel
theorem dX5_load_5 : decode cX5_load 5 = .ok (.ifCond .le 30, 3) := by decide +kernel
theorem dX5_load_8 : decode cX5_load 8 = .ok (.aload_n 0, 1) := by decide +kernel
theorem dX5_load_9 : decode cX5_load 9 = .ok (.invokevirtual 75, 3) := by decide +kernel
theorem dX5_load_12 : decode cX5_load 12 = .ok (.aload_n 0, 1) := by decide +kernel
theorem dX5_load_13 : decode cX5_load 13 = .ok (.getfield 68, 3) := by decide +kernel
theorem dX5_load_16 : decode cX5_load 16 = .ok (.if_icmp .ne 19, 3) := by decide +kernel
theorem dX5_load_19 : decode cX5_load 19 = .ok (.aload_n 0, 1) := by decide +kernel
theorem dX5_load_20 : decode cX5_load 20 = .ok (.getfield 68, 3) := by decide +kernel
theorem dX5_load_23 : decode cX5_load 23 = .ok (.aload_n 0, 1) := by decide +kernel
theorem dX5_load_24 : decode cX5_load 24 = .ok (.getfield 7, 3) := by decide +kernel
theorem dX5_load_27 : decode cX5_load 27 = .ok (.irem, 1) := by decide +kernel
theorem dX5_load_28 : decode cX5_load 28 = .ok (.ifCond .ne 7, 3) := by decide +kernel
theorem dX5_load_31 : decode cX5_load 31 = .ok (.iconst 0, 1) := by decide +kernel
theorem dX5_load_32 : decode cX5_load 32 = .ok (.goto 4, 3) := by decide +kernel
theorem dX5_load_35 : decode cX5_load 35 = .ok (.iconst 1, 1) := by decide +kernel
theorem dX5_load_36 : decode cX5_load 36 = .ok (.putfield 39, 3) := by decide +kernel
theorem dX5_load_39 : decode cX5_load 39 = .ok (.aload_n 0, 1) := by decide +kernel
theorem dX5_load_40 : decode cX5_load 40 = .ok (.getfield 39, 3) := by decide +kernel
theorem dX5_load_43 : decode cX5_load 43 = .ok (.ifCond .le 5, 3) := by decide +kernel
theorem dX5_load_46 : decode cX5_load 46 = .ok (.iconst 0, 1) := by decide +kernel
theorem dX5_load_47 : decode cX5_load 47 = .ok (.ireturn, 1) := by decide +kernel
theorem dX5_load_48 : decode cX5_load 48 = .ok (.aload_n 0, 1) := by decide +kernel
theorem dX5_load_49 : decode cX5_load 49 = .ok (.getfield 68, 3) := by decide +kernel
theorem dX5_load_52 : decode cX5_load 52 = .ok (.aload_n 0, 1) := by decide +kernel
theorem dX5_load_53 : decode cX5_load 53 = .ok (.getfield 7, 3) := by decide +kernel
theorem dX5_load_56 : decode cX5_load 56 = .ok (.idiv, 1) := by decide +kernel
theorem dX5_load_57 : decode cX5_load 57 = .ok (.istore_n 1, 1) := by decide +kernel
theorem dX5_load_58 : decode cX5_load 58 = .ok (.iconst 0, 1) := by decide +kernel
theorem dX5_load_59 : decode cX5_load 59 = .ok (.istore_n 2, 1) := by decide +kernel
theorem dX5_load_60 : decode cX5_load 60 = .ok (.iload_n 2, 1) := by decide +kernel
theorem dX5_load_61 : decode cX5_load 61 = .ok (.iload_n 1, 1) := by decide +kernel
theorem dX5_load_62 : decode cX5_load 62 = .ok (.if_icmp .ge 61, 3) := by decide +kernel
theorem dX5_load_65 : decode cX5_load 65 = .ok (.aload_n 0, 1) := by decide +kernel
theorem dX5_load_66 : decode cX5_load 66 = .ok (.invokevirtual 65, 3) := by decide +kernel
theorem dX5_load_69 : decode cX5_load 69 = .ok (.iconst 0, 1) := by decide +kernel
theorem dX5_load_70 : decode cX5_load 70 = .ok (.istore_n 3, 1) := by decide +kernel
theorem dX5_load_71 : decode cX5_load 71 = .ok (.iload_n 3, 1) := by decide +kernel
theorem dX5_load_72 : decode cX5_load 72 = .ok (.aload_n 0, 1) := by decide +kernel
theorem dX5_load_73 : decode cX5_load 73 = .ok (.getfield 7, 3) := by decide +kernel
theorem dX5_load_76 : decode cX5_load 76 = .ok (.if_icmp .ge 41, 3) := by decide +kernel
theorem dX5_load_79 : decode cX5_load 79 = .ok (.aload_n 0, 1) := by decide +kernel
theorem dX5_load_80 : decode cX5_load 80 = .ok (.getfield 17, 3) := by decide +kernel
theorem dX5_load_83 : decode cX5_load 83 = .ok (.bipush 16, 2) := by decide +kernel
theorem dX5_load_85 : decode cX5_load 85 = .ok (.aload_n 0, 1) := by decide +kernel
theorem dX5_load_86 : decode cX5_load 86 = .ok (.getfield 46, 3) := by decide +kernel
theorem dX5_load_89 : decode cX5_load 89 = .ok (.iconst 1, 1) := by decide +kernel
theorem dX5_load_90 : decode cX5_load 90 = .ok (.isub, 1) := by decide +kernel
theorem dX5_load_91 : decode cX5_load 91 = .ok (.imul, 1) := by decide +kernel
theorem dX5_load_92 : decode cX5_load 92 = .ok (.iload_n 3, 1) := by decide +kernel
theorem dX5_load_93 : decode cX5_load 93 = .ok (.iadd, 1) := by decide +kernel
theorem dX5_load_94 : decode cX5_load 94 = .ok (.aload_n 0, 1) := by decide +kernel
theorem dX5_load_95 : decode cX5_load 95 = .ok (.getfield 20, 3) := by decide +kernel
theorem dX5_load_98 : decode cX5_load 98 = .ok (.aload_n 0, 1) := by decide +kernel
theorem dX5_load_99 : decode cX5_load 99 = .ok (.getfield 7, 3) := by decide +kernel
theorem dX5_load_102 : decode cX5_load 102 = .ok (.iload_n 2, 1) := by decide +kernel
theorem dX5_load_103 : decode cX5_load 103 = .ok (.imul, 1) := by decide +kernel
theorem dX5_load_104 : decode cX5_load 104 = .ok (.iload_n 3, 1) := by decide +kernel
theorem dX5_load_105 : decode cX5_load 105 = .ok (.iadd, 1) := by decide +kernel
theorem dX5_load_106 : decode cX5_load 106 = .ok (.iaload, 1) := by decide +kernel
theorem dX5_load_107 : decode cX5_load 107 = .ok (.invokestatic 71, 3) := by decide +kernel
theorem dX5_load_110 : decode cX5_load 110 = .ok (.iastore, 1) := by decide +kernel
theorem dX5_load_111 : decode cX5_load 111 = .ok (.iinc 3 1, 3) := by decide +kernel
theorem dX5_load_114 : decode cX5_load 114 = .ok (.goto (-43), 3) := by decide +kernel
theorem dX5_load_117 : decode cX5_load 117 = .ok (.iinc 2 1, 3) := by decide +kernel
theorem dX5_load_120 : decode cX5_load 120 = .ok (.goto (-60), 3) := by decide +kernel
theorem dX5_load_123 : decode cX5_load 123 = .ok (.aload_n 0, 1) := by decide +kernel
theorem dX5_load_124 : decode cX5_load 124 = .ok (.iconst 0, 1) := by decide +kernel
theorem dX5_load_125 : decode cX5_load 125 = .ok (.putfield 68, 3) := by decide +kernel
theorem dX5_load_128 : decode cX5_load 128 = .ok (.iload_n 1, 1) := by decide +kernel
theorem dX5_load_129 : decode cX5_load 129 = .ok (.ireturn, 1) := by decide +kernel
theorem dX5_treeOffset_0 : decode cX5_treeOffset 0 = .ok (.iconst 0, 1) := by decide +kernel
theorem dX5_treeOffset_1 : decode cX5_treeOffset 1 = .ok (.istore_n 3, 1) := by decide +kernel
theorem dX5_treeOffset_2 : decode cX5_treeOffset 2 = .ok (.iload_n 1, 1) := by decide +kernel
theorem dX5_treeOffset_3 : decode cX5_treeOffset 3 = .ok (.istore 4, 2) := by decide +kernel
theorem dX5_treeOffset_5 : decode cX5_treeOffset 5 = .ok (.iload_n 2, 1) := by decide +kernel
theorem dX5_treeOffset_6 : decode cX5_treeOffset 6 = .ok (.istore 5, 2) := by decide +kernel
theorem dX5_treeOffset_8 : decode cX5_treeOffset 8 = .ok (.aload_n 0, 1) := by decide +kernel
theorem dX5_treeOffset_9 : decode cX5_treeOffset 9 = .ok (.getfield 7, 3) := by decide +kernel
theorem dX5_treeOffset_12 : decode cX5_treeOffset 12 = .ok (.istore 6, 2) := by decide +kernel
theorem dX5_treeOffset_14 : decode cX5_treeOffset 14 = .ok (.iload 6, 2) := by decide +kernel
theorem dX5_treeOffset_16 : decode cX5_treeOffset 16 = .ok (.iconst 1, 1) := by decide +kernel
theorem dX5_treeOffset_17 : decode cX5_treeOffset 17 = .ok (.if_icmp .le 48, 3) := by decide +kernel
theorem dX5_treeOffset_20 : decode cX5_treeOffset 20 = .ok (.iload 4, 2) := by decide +kernel
theorem dX5_treeOffset_22 : decode cX5_treeOffset 22 = .ok (.iconst 2, 1) := by decide +kernel
theorem dX5_treeOffset_23 : decode cX5_treeOffset 23 = .ok (.idiv, 1) := by decide +kernel
theorem dX5_treeOffset_24 : decode cX5_treeOffset 24 = .ok (.istore 7, 2) := by decide +kernel
theorem dX5_treeOffset_26 : decode cX5_treeOffset 26 = .ok (.iload 5, 2) := by decide +kernel
theorem dX5_treeOffset_28 : decode cX5_treeOffset 28 = .ok (.iload 6, 2) := by decide +kernel
theorem dX5_treeOffset_30 : decode cX5_treeOffset 30 = .ok (.iconst 2, 1) := by decide +kernel
theorem dX5_treeOffset_31 : decode cX5_treeOffset 31 = .ok (.idiv, 1) := by decide +kernel
theorem dX5_treeOffset_32 : decode cX5_treeOffset 32 = .ok (.if_icmp .lt 20, 3) := by decide +kernel
theorem dX5_treeOffset_35 : decode cX5_treeOffset 35 = .ok (.iload_n 3, 1) := by decide +kernel
theorem dX5_treeOffset_36 : decode cX5_treeOffset 36 = .ok (.iload 4, 2) := by decide +kernel
theorem dX5_treeOffset_38 : decode cX5_treeOffset 38 = .ok (.iload 7, 2) := by decide +kernel
theorem dX5_treeOffset_40 : decode cX5_treeOffset 40 = .ok (.isub, 1) := by decide +kernel
theorem dX5_treeOffset_41 : decode cX5_treeOffset 41 = .ok (.iadd, 1) := by decide +kernel
theorem dX5_treeOffset_42 : decode cX5_treeOffset 42 = .ok (.istore_n 3, 1) := by decide +kernel
theorem dX5_treeOffset_43 : decode cX5_treeOffset 43 = .ok (.iload 5, 2) := by decide +kernel
theorem dX5_treeOffset_45 : decode cX5_treeOffset 45 = .ok (.iload 6, 2) := by decide +kernel
theorem dX5_treeOffset_47 : decode cX5_treeOffset 47 = .ok (.iconst 2, 1) := by decide +kernel
theorem dX5_treeOffset_48 : decode cX5_treeOffset 48 = .ok (.idiv, 1) := by decide +kernel
theorem dX5_treeOffset_49 : decode cX5_treeOffset 49 = .ok (.isub, 1) := by decide +kernel
theorem dX5_treeOffset_50 : decode cX5_treeOffset 50 = .ok (.istore 5, 2) := by decide +kernel
theorem dX5_treeOffset_52 : decode cX5_treeOffset 52 = .ok (.iload 7, 2) := by decide +kernel
theorem dX5_treeOffset_54 : decode cX5_treeOffset 54 = .ok (.istore 4, 2) := by decide +kernel
theorem dX5_treeOffset_56 : decode cX5_treeOffset 56 = .ok (.iload 6, 2) := by decide +kernel
theorem dX5_treeOffset_58 : decode cX5_treeOffset 58 = .ok (.iconst 2, 1) := by decide +kernel
theorem dX5_treeOffset_59 : decode cX5_treeOffset 59 = .ok (.idiv, 1) := by decide +kernel
theorem dX5_treeOffset_60 : decode cX5_treeOffset 60 = .ok (.istore 6, 2) := by decide +kernel
theorem dX5_treeOffset_62 : decode cX5_treeOffset 62 = .ok (.goto (-48), 3) := by decide +kernel
theorem dX5_treeOffset_65 : decode cX5_treeOffset 65 = .ok (.iload_n 3, 1) := by decide +kernel
theorem dX5_treeOffset_66 : decode cX5_treeOffset 66 = .ok (.ireturn, 1) := by decide +kernel
theorem dX5_straightOffset_0 : decode cX5_straightOffset 0 = .ok (.aload_n 0, 1) := by decide +kernel
theorem dX5_straightOffset_1 : decode cX5_straightOffset 1 = .ok (.getfield 7, 3) := by decide +kernel
theorem dX5_straightOffset_4 : decode cX5_straightOffset 4 = .ok (.iconst 1, 1) := by decide +kernel
theorem dX5_straightOffset_5 : decode cX5_straightOffset 5 = .ok (.isub, 1) := by decide +kernel
theorem dX5_straightOffset_6 : decode cX5_straightOffset 6 = .ok (.istore_n 3, 1) := by decide +kernel
theorem dX5_straightOffset_7 : decode cX5_straightOffset 7 = .ok (.iconst 2, 1) := by decide +kernel
theorem dX5_straightOffset_8 : decode cX5_straightOffset 8 = .ok (.iload_n 1, 1) := by decide +kernel
theorem dX5_straightOffset_9 : decode cX5_straightOffset 9 = .ok (.imul, 1) := by decide +kernel
theorem dX5_straightOffset_10 : decode cX5_straightOffset 10 = .ok (.iload_n 2, 1) := by decide +kernel
theorem dX5_straightOffset_11 : decode cX5_straightOffset 11 = .ok (.imul, 1) := by decide +kernel
theorem dX5_straightOffset_12 : decode cX5_straightOffset 12 = .ok (.iload_n 3, 1) := by decide +kernel
theorem dX5_straightOffset_13 : decode cX5_straightOffset 13 = .ok (.iadd, 1) := by decide +kernel
theorem dX5_straightOffset_14 : decode cX5_straightOffset 14 = .ok (.iconst 2, 1) := by decide +kernel
theorem dX5_straightOffset_15 : decode cX5_straightOffset 15 = .ok (.iload_n 3, 1) := by decide +kernel
theorem dX5_straightOffset_16 : decode cX5_straightOffset 16 = .ok (.imul, 1) := by decide +kernel
theorem dX5_straightOffset_17 : decode cX5_straightOffset 17 = .ok (.idiv, 1) := by decide +kernel
theorem dX5_straightOffset_18 : decode cX5_straightOffset 18 = .ok (.ireturn, 1) := by decide +kernel
theorem dX5_offsetBy_0 : decode cX5_offsetBy 0 = .ok (.iload_n 3, 1) := by decide +kernel
theorem dX5_offsetBy_1 : decode cX5_offsetBy 1 = .ok (.ifCond .eq 12, 3) := by decide +kernel
theorem dX5_offsetBy_4 : decode cX5_offsetBy 4 = .ok (.aload_n 0, 1) := by decide +kernel
theorem dX5_offsetBy_5 : decode cX5_offsetBy 5 = .ok (.iload_n 1, 1) := by decide +kernel
theorem dX5_offsetBy_6 : decode cX5_offsetBy 6 = .ok (.iload_n 2, 1) := by decide +kernel
theorem dX5_offsetBy_7 : decode cX5_offsetBy 7 = .ok (.invokevirtual 79, 3) := by decide +kernel
theorem dX5_offsetBy_10 : decode cX5_offsetBy 10 = .ok (.goto 9, 3) := by decide +kernel
theorem dX5_offsetBy_13 : decode cX5_offsetBy 13 = .ok (.aload_n 0, 1) := by decide +kernel
theorem dX5_offsetBy_14 : decode cX5_offsetBy 14 = .ok (.iload_n 1, 1) := by decide +kernel
theorem dX5_offsetBy_15 : decode cX5_offsetBy 15 = .ok (.iload_n 2, 1) := by decide +kernel
theorem dX5_offsetBy_16 : decode cX5_offsetBy 16 = .ok (.invokevirtual 83, 3) := by decide +kernel
theorem dX5_offsetBy_19 : decode cX5_offsetBy 19 = .ok (.ireturn, 1) := by decide +kernel
theorem dX5_isSlope_0 : decode cX5_isSlope 0 = .ok (.iload_n 1, 1) := by decide +kernel
theorem dX5_isSlope_1 : decode cX5_isSlope 1 = .ok (.iconst 0, 1) := by decide +kernel
theorem dX5_isSlope_2 : decode cX5_isSlope 2 = .ok (.aload_n 0, 1) := by decide +kernel
theorem dX5_isSlope_3 : decode cX5_isSlope 3 = .ok (.getfield 7, 3) := by decide +kernel
theorem dX5_isSlope_6 : decode cX5_isSlope 6 = .ok (.iconst 1, 1) := by decide +kernel
theorem dX5_isSlope_7 : decode cX5_isSlope 7 = .ok (.isub, 1) := by decide +kernel
theorem dX5_isSlope_8 : decode cX5_isSlope 8 = .ok (.invokestatic 42, 3) := by decide +kernel
theorem dX5_isSlope_11 : decode cX5_isSlope 11 = .ok (.ireturn, 1) := by decide +kernel
theorem dX5_offset_0 : decode cX5_offset 0 = .ok (.aload_n 0, 1) := by decide +kernel
theorem dX5_offset_1 : decode cX5_offset 1 = .ok (.aload_n 0, 1) := by decide +kernel
theorem dX5_offset_2 : decode cX5_offset 2 = .ok (.iload_n 1, 1) := by decide +kernel
theorem dX5_offset_3 : decode cX5_offset 3 = .ok (.invokevirtual 86, 3) := by decide +kernel
theorem dX5_offset_6 : decode cX5_offset 6 = .ok (.ifCond .eq 15, 3) := by decide +kernel
theorem dX5_offset_9 : decode cX5_offset 9 = .ok (.aload_n 0, 1) := by decide +kernel
theorem dX5_offset_10 : decode cX5_offset 10 = .ok (.iload_n 2, 1) := by decide +kernel
theorem dX5_offset_11 : decode cX5_offset 11 = .ok (.invokevirtual 61, 3) := by decide +kernel
theorem dX5_offset_14 : decode cX5_offset 14 = .ok (.ifCond .eq 7, 3) := by decide +kernel
theorem dX5_offset_17 : decode cX5_offset 17 = .ok (.iconst 0, 1) := by decide +kernel
theorem dX5_offset_18 : decode cX5_offset 18 = .ok (.goto 4, 3) := by decide +kernel
theorem dX5_offset_21 : decode cX5_offset 21 = .ok (.iconst 1, 1) := by decide +kernel
theorem dX5_offset_22 : decode cX5_offset 22 = .ok (.putfield 39, 3) := by decide +kernel
theorem dX5_offset_25 : decode cX5_offset 25 = .ok (.aload_n 0, 1) := by decide +kernel
theorem dX5_offset_26 : decode cX5_offset 26 = .ok (.getfield 39, 3) := by decide +kernel
theorem dX5_offset_29 : decode cX5_offset 29 = .ok (.ifCond .le 7, 3) := by decide +kernel
theorem dX5_offset_32 : decode cX5_offset 32 = .ok (.iconst 0, 1) := by decide +kernel
theorem dX5_offset_33 : decode cX5_offset 33 = .ok (.goto 10, 3) := by decide +kernel
theorem dX5_offset_36 : decode cX5_offset 36 = .ok (.aload_n 0, 1) := by decide +kernel
theorem dX5_offset_37 : decode cX5_offset 37 = .ok (.iload_n 1, 1) := by decide +kernel
theorem dX5_offset_38 : decode cX5_offset 38 = .ok (.iload_n 2, 1) := by decide +kernel
theorem dX5_offset_39 : decode cX5_offset 39 = .ok (.iload_n 3, 1) := by decide +kernel
theorem dX5_offset_40 : decode cX5_offset 40 = .ok (.invokevirtual 89, 3) := by decide +kernel
theorem dX5_offset_43 : decode cX5_offset 43 = .ok (.ireturn, 1) := by decide +kernel
theorem dX5_bendOf_0 : decode cX5_bendOf 0 = .ok (.iconst 0, 1) := by decide +kernel
theorem dX5_bendOf_1 : decode cX5_bendOf 1 = .ok (.istore_n 2, 1) := by decide +kernel
theorem dX5_bendOf_2 : decode cX5_bendOf 2 = .ok (.iconst 0, 1) := by decide +kernel
theorem dX5_bendOf_3 : decode cX5_bendOf 3 = .ok (.istore_n 3, 1) := by decide +kernel
theorem dX5_bendOf_4 : decode cX5_bendOf 4 = .ok (.iload_n 3, 1) := by decide +kernel
theorem dX5_bendOf_5 : decode cX5_bendOf 5 = .ok (.aload_n 0, 1) := by decide +kernel
theorem dX5_bendOf_6 : decode cX5_bendOf 6 = .ok (.getfield 7, 3) := by decide +kernel
theorem dX5_bendOf_9 : decode cX5_bendOf 9 = .ok (.if_icmp .ge 52, 3) := by decide +kernel
theorem dX5_bendOf_12 : decode cX5_bendOf 12 = .ok (.aload_n 0, 1) := by decide +kernel
theorem dX5_bendOf_13 : decode cX5_bendOf 13 = .ok (.iload_n 1, 1) := by decide +kernel
theorem dX5_bendOf_14 : decode cX5_bendOf 14 = .ok (.iload_n 3, 1) := by decide +kernel
theorem dX5_bendOf_15 : decode cX5_bendOf 15 = .ok (.invokevirtual 83, 3) := by decide +kernel
theorem dX5_bendOf_18 : decode cX5_bendOf 18 = .ok (.aload_n 0, 1) := by decide +kernel
theorem dX5_bendOf_19 : decode cX5_bendOf 19 = .ok (.iload_n 1, 1) := by decide +kernel
theorem dX5_bendOf_20 : decode cX5_bendOf 20 = .ok (.iload_n 3, 1) := by decide +kernel
theorem dX5_bendOf_21 : decode cX5_bendOf 21 = .ok (.invokevirtual 79, 3) := by decide +kernel
theorem dX5_bendOf_24 : decode cX5_bendOf 24 = .ok (.isub, 1) := by decide +kernel
theorem dX5_bendOf_25 : decode cX5_bendOf 25 = .ok (.istore 4, 2) := by decide +kernel
theorem dX5_bendOf_27 : decode cX5_bendOf 27 = .ok (.iload 4, 2) := by decide +kernel
theorem dX5_bendOf_29 : decode cX5_bendOf 29 = .ok (.ifCond .ge 9, 3) := by decide +kernel
theorem dX5_bendOf_32 : decode cX5_bendOf 32 = .ok (.iload 4, 2) := by decide +kernel
theorem dX5_bendOf_34 : decode cX5_bendOf 34 = .ok (.ineg, 1) := by decide +kernel
theorem dX5_bendOf_35 : decode cX5_bendOf 35 = .ok (.goto 5, 3) := by decide +kernel
theorem dX5_bendOf_38 : decode cX5_bendOf 38 = .ok (.iload 4, 2) := by decide +kernel
theorem dX5_bendOf_40 : decode cX5_bendOf 40 = .ok (.istore 4, 2) := by decide +kernel
theorem dX5_bendOf_42 : decode cX5_bendOf 42 = .ok (.iload 4, 2) := by decide +kernel
theorem dX5_bendOf_44 : decode cX5_bendOf 44 = .ok (.iload_n 2, 1) := by decide +kernel
theorem dX5_bendOf_45 : decode cX5_bendOf 45 = .ok (.if_icmp .le 8, 3) := by decide +kernel
theorem dX5_bendOf_48 : decode cX5_bendOf 48 = .ok (.iload 4, 2) := by decide +kernel
theorem dX5_bendOf_50 : decode cX5_bendOf 50 = .ok (.goto 4, 3) := by decide +kernel
theorem dX5_bendOf_53 : decode cX5_bendOf 53 = .ok (.iload_n 2, 1) := by decide +kernel
theorem dX5_bendOf_54 : decode cX5_bendOf 54 = .ok (.istore_n 2, 1) := by decide +kernel
theorem dX5_bendOf_55 : decode cX5_bendOf 55 = .ok (.iinc 3 1, 3) := by decide +kernel
theorem dX5_bendOf_58 : decode cX5_bendOf 58 = .ok (.goto (-54), 3) := by decide +kernel
theorem dX5_bendOf_61 : decode cX5_bendOf 61 = .ok (.iload_n 2, 1) := by decide +kernel
theorem dX5_bendOf_62 : decode cX5_bendOf 62 = .ok (.ireturn, 1) := by decide +kernel
theorem dX5_bend_0 : decode cX5_bend 0 = .ok (.aload_n 0, 1) := by decide +kernel
theorem dX5_bend_1 : decode cX5_bend 1 = .ok (.aload_n 0, 1) := by decide +kernel
theorem dX5_bend_2 : decode cX5_bend 2 = .ok (.iload_n 1, 1) := by decide +kernel
theorem dX5_bend_3 : decode cX5_bend 3 = .ok (.invokevirtual 86, 3) := by decide +kernel
theorem dX5_bend_6 : decode cX5_bend 6 = .ok (.ifCond .eq 7, 3) := by decide +kernel
theorem dX5_bend_9 : decode cX5_bend 9 = .ok (.iconst 0, 1) := by decide +kernel
theorem dX5_bend_10 : decode cX5_bend 10 = .ok (.goto 4, 3) := by decide +kernel
theorem dX5_bend_13 : decode cX5_bend 13 = .ok (.iconst 1, 1) := by decide +kernel
theorem dX5_bend_14 : decode cX5_bend 14 = .ok (.putfield 39, 3) := by decide +kernel
theorem dX5_bend_17 : decode cX5_bend 17 = .ok (.aload_n 0, 1) := by decide +kernel
theorem dX5_bend_18 : decode cX5_bend 18 = .ok (.getfield 39, 3) := by decide +kernel
theorem dX5_bend_21 : decode cX5_bend 21 = .ok (.ifCond .le 7, 3) := by decide +kernel
theorem dX5_bend_24 : decode cX5_bend 24 = .ok (.iconst 0, 1) := by decide +kernel
theorem dX5_bend_25 : decode cX5_bend 25 = .ok (.goto 8, 3) := by decide +kernel
theorem dX5_bend_28 : decode cX5_bend 28 = .ok (.aload_n 0, 1) := by decide +kernel
theorem dX5_bend_29 : decode cX5_bend 29 = .ok (.iload_n 1, 1) := by decide +kernel
theorem dX5_bend_30 : decode cX5_bend 30 = .ok (.invokevirtual 93, 3) := by decide +kernel
theorem dX5_bend_33 : decode cX5_bend 33 = .ok (.ireturn, 1) := by decide +kernel
theorem dX5_inject_0 : decode cX5_inject 0 = .ok (.aload_n 0, 1) := by decide +kernel
theorem dX5_inject_1 : decode cX5_inject 1 = .ok (.iload_n 1, 1) := by decide +kernel
theorem dX5_inject_2 : decode cX5_inject 2 = .ok (.invokevirtual 86, 3) := by decide +kernel
theorem dX5_inject_5 : decode cX5_inject 5 = .ok (.ifCond .eq 25, 3) := by decide +kernel
theorem dX5_inject_8 : decode cX5_inject 8 = .ok (.aload_n 0, 1) := by decide +kernel
theorem dX5_inject_9 : decode cX5_inject 9 = .ok (.iload_n 2, 1) := by decide +kernel
theorem dX5_inject_10 : decode cX5_inject 10 = .ok (.invokevirtual 96, 3) := by decide +kernel
theorem dX5_inject_13 : decode cX5_inject 13 = .ok (.ifCond .eq 17, 3) := by decide +kernel
theorem dX5_inject_16 : decode cX5_inject 16 = .ok (.iload_n 2, 1) := by decide +kernel
theorem dX5_inject_17 : decode cX5_inject 17 = .ok (.iload_n 1, 1) := by decide +kernel
theorem dX5_inject_18 : decode cX5_inject 18 = .ok (.iadd, 1) := by decide +kernel
theorem dX5_inject_19 : decode cX5_inject 19 = .ok (.aload_n 0, 1) := by decide +kernel
theorem dX5_inject_20 : decode cX5_inject 20 = .ok (.getfield 46, 3) := by decide +kernel
theorem dX5_inject_23 : decode cX5_inject 23 = .ok (.if_icmp .ge 7, 3) := by decide +kernel
theorem dX5_inject_26 : decode cX5_inject 26 = .ok (.iconst 1, 1) := by decide +kernel
theorem dX5_inject_27 : decode cX5_inject 27 = .ok (.goto 4, 3) := by decide +kernel
theorem dX5_inject_30 : decode cX5_inject 30 = .ok (.iconst 0, 1) := by decide +kernel
theorem dX5_inject_31 : decode cX5_inject 31 = .ok (.istore 4, 2) := by decide +kernel
theorem dX5_inject_33 : decode cX5_inject 33 = .ok (.aload_n 0, 1) := by decide +kernel
theorem dX5_inject_34 : decode cX5_inject 34 = .ok (.iload 4, 2) := by decide +kernel
theorem dX5_inject_36 : decode cX5_inject 36 = .ok (.ifCond .ne 7, 3) := by decide +kernel
theorem dX5_inject_39 : decode cX5_inject 39 = .ok (.iconst 1, 1) := by decide +kernel
theorem dX5_inject_40 : decode cX5_inject 40 = .ok (.goto 19, 3) := by decide +kernel
theorem dX5_inject_43 : decode cX5_inject 43 = .ok (.iload_n 3, 1) := by decide +kernel
theorem dX5_inject_44 : decode cX5_inject 44 = .ok (.iconst 1, 1) := by decide +kernel
theorem dX5_inject_45 : decode cX5_inject 45 = .ok (.sipush 9999, 3) := by decide +kernel
theorem dX5_inject_48 : decode cX5_inject 48 = .ok (.invokestatic 42, 3) := by decide +kernel
theorem dX5_inject_51 : decode cX5_inject 51 = .ok (.ifCond .eq 7, 3) := by decide +kernel
theorem dX5_inject_54 : decode cX5_inject 54 = .ok (.iconst 0, 1) := by decide +kernel
theorem dX5_inject_55 : decode cX5_inject 55 = .ok (.goto 4, 3) := by decide +kernel
theorem dX5_inject_58 : decode cX5_inject 58 = .ok (.iconst 2, 1) := by decide +kernel
theorem dX5_inject_59 : decode cX5_inject 59 = .ok (.putfield 39, 3) := by decide +kernel
theorem dX5_inject_62 : decode cX5_inject 62 = .ok (.iconst 0, 1) := by decide +kernel
theorem dX5_inject_63 : decode cX5_inject 63 = .ok (.istore 5, 2) := by decide +kernel
theorem dX5_inject_65 : decode cX5_inject 65 = .ok (.iconst 0, 1) := by decide +kernel
theorem dX5_inject_66 : decode cX5_inject 66 = .ok (.istore 6, 2) := by decide +kernel
theorem dX5_inject_68 : decode cX5_inject 68 = .ok (.iload 6, 2) := by decide +kernel
theorem dX5_inject_70 : decode cX5_inject 70 = .ok (.aload_n 0, 1) := by decide +kernel
theorem dX5_inject_71 : decode cX5_inject 71 = .ok (.getfield 7, 3) := by decide +kernel
theorem dX5_inject_74 : decode cX5_inject 74 = .ok (.if_icmp .ge 91, 3) := by decide +kernel
theorem dX5_inject_77 : decode cX5_inject 77 = .ok (.aload_n 0, 1) := by decide +kernel
theorem dX5_inject_78 : decode cX5_inject 78 = .ok (.getfield 39, 3) := by decide +kernel
theorem dX5_inject_81 : decode cX5_inject 81 = .ok (.ifCond .ne 84, 3) := by decide +kernel
theorem dX5_inject_84 : decode cX5_inject 84 = .ok (.bipush 16, 2) := by decide +kernel
theorem dX5_inject_86 : decode cX5_inject 86 = .ok (.iload_n 2, 1) := by decide +kernel
theorem dX5_inject_87 : decode cX5_inject 87 = .ok (.aload_n 0, 1) := by decide +kernel
theorem dX5_inject_88 : decode cX5_inject 88 = .ok (.iload_n 1, 1) := by decide +kernel
theorem dX5_inject_89 : decode cX5_inject 89 = .ok (.iload 6, 2) := by decide +kernel
theorem dX5_inject_91 : decode cX5_inject 91 = .ok (.invokevirtual 79, 3) := by decide +kernel
theorem dX5_inject_94 : decode cX5_inject 94 = .ok (.iadd, 1) := by decide +kernel
theorem dX5_inject_95 : decode cX5_inject 95 = .ok (.imul, 1) := by decide +kernel
theorem dX5_inject_96 : decode cX5_inject 96 = .ok (.iload 6, 2) := by decide +kernel
theorem dX5_inject_98 : decode cX5_inject 98 = .ok (.iadd, 1) := by decide +kernel
theorem dX5_inject_99 : decode cX5_inject 99 = .ok (.istore 7, 2) := by decide +kernel
theorem dX5_inject_101 : decode cX5_inject 101 = .ok (.aload_n 0, 1) := by decide +kernel
theorem dX5_inject_102 : decode cX5_inject 102 = .ok (.getfield 17, 3) := by decide +kernel
theorem dX5_inject_105 : decode cX5_inject 105 = .ok (.iload 7, 2) := by decide +kernel
theorem dX5_inject_107 : decode cX5_inject 107 = .ok (.iaload, 1) := by decide +kernel
theorem dX5_inject_108 : decode cX5_inject 108 = .ok (.iload_n 3, 1) := by decide +kernel
theorem dX5_inject_109 : decode cX5_inject 109 = .ok (.iadd, 1) := by decide +kernel
theorem dX5_inject_110 : decode cX5_inject 110 = .ok (.istore 8, 2) := by decide +kernel
theorem dX5_inject_112 : decode cX5_inject 112 = .ok (.iload 8, 2) := by decide +kernel
theorem dX5_inject_114 : decode cX5_inject 114 = .ok (.sipush 9999, 3) := by decide +kernel
theorem dX5_inject_117 : decode cX5_inject 117 = .ok (.if_icmp .le 9, 3) := by decide +kernel
theorem dX5_inject_120 : decode cX5_inject 120 = .ok (.sipush 9999, 3) := by decide +kernel
theorem dX5_inject_123 : decode cX5_inject 123 = .ok (.goto 5, 3) := by decide +kernel
theorem dX5_inject_126 : decode cX5_inject 126 = .ok (.iload 8, 2) := by decide +kernel
theorem dX5_inject_128 : decode cX5_inject 128 = .ok (.istore 8, 2) := by decide +kernel
theorem dX5_inject_130 : decode cX5_inject 130 = .ok (.iload 5, 2) := by decide +kernel
theorem dX5_inject_132 : decode cX5_inject 132 = .ok (.iload 8, 2) := by decide +kernel
theorem dX5_inject_134 : decode cX5_inject 134 = .ok (.aload_n 0, 1) := by decide +kernel
theorem dX5_inject_135 : decode cX5_inject 135 = .ok (.getfield 17, 3) := by decide +kernel
theorem dX5_inject_138 : decode cX5_inject 138 = .ok (.iload 7, 2) := by decide +kernel
theorem dX5_inject_140 : decode cX5_inject 140 = .ok (.iaload, 1) := by decide +kernel
theorem dX5_inject_141 : decode cX5_inject 141 = .ok (.isub, 1) := by decide +kernel
theorem dX5_inject_142 : decode cX5_inject 142 = .ok (.iadd, 1) := by decide +kernel
theorem dX5_inject_143 : decode cX5_inject 143 = .ok (.istore 5, 2) := by decide +kernel
theorem dX5_inject_145 : decode cX5_inject 145 = .ok (.aload_n 0, 1) := by decide +kernel
theorem dX5_inject_146 : decode cX5_inject 146 = .ok (.getfield 17, 3) := by decide +kernel
theorem dX5_inject_149 : decode cX5_inject 149 = .ok (.iload 7, 2) := by decide +kernel
theorem dX5_inject_151 : decode cX5_inject 151 = .ok (.iload 8, 2) := by decide +kernel
theorem dX5_inject_153 : decode cX5_inject 153 = .ok (.iastore, 1) := by decide +kernel
theorem dX5_inject_154 : decode cX5_inject 154 = .ok (.aload_n 0, 1) := by decide +kernel
theorem dX5_inject_155 : decode cX5_inject 155 = .ok (.iconst 0, 1) := by decide +kernel
theorem dX5_inject_156 : decode cX5_inject 156 = .ok (.putfield 55, 3) := by decide +kernel
theorem dX5_inject_159 : decode cX5_inject 159 = .ok (.iinc 6 1, 3) := by decide +kernel
theorem dX5_inject_162 : decode cX5_inject 162 = .ok (.goto (-94), 3) := by decide +kernel
theorem dX5_inject_165 : decode cX5_inject 165 = .ok (.iload 5, 2) := by decide +kernel
theorem dX5_inject_167 : decode cX5_inject 167 = .ok (.ireturn, 1) := by decide +kernel
theorem dX5_power_0 : decode cX5_power 0 = .ok (.aload_n 0, 1) := by decide +kernel
theorem dX5_power_1 : decode cX5_power 1 = .ok (.aload_n 0, 1) := by decide +kernel
theorem dX5_power_2 : decode cX5_power 2 = .ok (.iload_n 1, 1) := by decide +kernel
theorem dX5_power_3 : decode cX5_power 3 = .ok (.invokevirtual 61, 3) := by decide +kernel
theorem dX5_power_6 : decode cX5_power 6 = .ok (.ifCond .eq 15, 3) := by decide +kernel
theorem dX5_power_9 : decode cX5_power 9 = .ok (.aload_n 0, 1) := by decide +kernel
theorem dX5_power_10 : decode cX5_power 10 = .ok (.iload_n 2, 1) := by decide +kernel
theorem dX5_power_11 : decode cX5_power 11 = .ok (.invokevirtual 96, 3) := by decide +kernel
theorem dX5_power_14 : decode cX5_power 14 = .ok (.ifCond .eq 7, 3) := by decide +kernel
theorem dX5_power_17 : decode cX5_power 17 = .ok (.iconst 0, 1) := by decide +kernel
theorem dX5_power_18 : decode cX5_power 18 = .ok (.goto 4, 3) := by decide +kernel
theorem dX5_power_21 : decode cX5_power 21 = .ok (.iconst 1, 1) := by decide +kernel
theorem dX5_power_22 : decode cX5_power 22 = .ok (.putfield 39, 3) := by decide +kernel
theorem dX5_power_25 : decode cX5_power 25 = .ok (.aload_n 0, 1) := by decide +kernel
theorem dX5_power_26 : decode cX5_power 26 = .ok (.getfield 39, 3) := by decide +kernel
theorem dX5_power_29 : decode cX5_power 29 = .ok (.ifCond .le 7, 3) := by decide +kernel
theorem dX5_power_32 : decode cX5_power 32 = .ok (.iconst 0, 1) := by decide +kernel
theorem dX5_power_33 : decode cX5_power 33 = .ok (.goto 14, 3) := by decide +kernel
theorem dX5_power_36 : decode cX5_power 36 = .ok (.aload_n 0, 1) := by decide +kernel
theorem dX5_power_37 : decode cX5_power 37 = .ok (.getfield 17, 3) := by decide +kernel
theorem dX5_power_40 : decode cX5_power 40 = .ok (.bipush 16, 2) := by decide +kernel
theorem dX5_power_42 : decode cX5_power 42 = .ok (.iload_n 2, 1) := by decide +kernel
theorem dX5_power_43 : decode cX5_power 43 = .ok (.imul, 1) := by decide +kernel
theorem dX5_power_44 : decode cX5_power 44 = .ok (.iload_n 1, 1) := by decide +kernel
theorem dX5_power_45 : decode cX5_power 45 = .ok (.iadd, 1) := by decide +kernel
theorem dX5_power_46 : decode cX5_power 46 = .ok (.iaload, 1) := by decide +kernel
theorem dX5_power_47 : decode cX5_power 47 = .ok (.ireturn, 1) := by decide +kernel
theorem dX5_ones_0 : decode cX5_ones 0 = .ok (.iconst 0, 1) := by decide +kernel
theorem dX5_ones_1 : decode cX5_ones 1 = .ok (.istore_n 1, 1) := by decide +kernel
theorem dX5_ones_2 : decode cX5_ones 2 = .ok (.iconst 0, 1) := by decide +kernel
theorem dX5_ones_3 : decode cX5_ones 3 = .ok (.istore_n 2, 1) := by decide +kernel
theorem dX5_ones_4 : decode cX5_ones 4 = .ok (.iload_n 2, 1) := by decide +kernel
theorem dX5_ones_5 : decode cX5_ones 5 = .ok (.bipush 16, 2) := by decide +kernel
theorem dX5_ones_7 : decode cX5_ones 7 = .ok (.if_icmp .ge 17, 3) := by decide +kernel
theorem dX5_ones_10 : decode cX5_ones 10 = .ok (.iload_n 1, 1) := by decide +kernel
theorem dX5_ones_11 : decode cX5_ones 11 = .ok (.iload_n 0, 1) := by decide +kernel
theorem dX5_ones_12 : decode cX5_ones 12 = .ok (.iload_n 2, 1) := by decide +kernel
theorem dX5_ones_13 : decode cX5_ones 13 = .ok (.ishr, 1) := by decide +kernel
theorem dX5_ones_14 : decode cX5_ones 14 = .ok (.iconst 1, 1) := by decide +kernel
theorem dX5_ones_15 : decode cX5_ones 15 = .ok (.iand, 1) := by decide +kernel
theorem dX5_ones_16 : decode cX5_ones 16 = .ok (.iadd, 1) := by decide +kernel
theorem dX5_ones_17 : decode cX5_ones 17 = .ok (.istore_n 1, 1) := by decide +kernel
theorem dX5_ones_18 : decode cX5_ones 18 = .ok (.iinc 2 1, 3) := by decide +kernel
theorem dX5_ones_21 : decode cX5_ones 21 = .ok (.goto (-17), 3) := by decide +kernel
theorem dX5_ones_24 : decode cX5_ones 24 = .ok (.iload_n 1, 1) := by decide +kernel
theorem dX5_ones_25 : decode cX5_ones 25 = .ok (.ireturn, 1) := by decide +kernel
theorem dX5_countOf_0 : decode cX5_countOf 0 = .ok (.iload_n 1, 1) := by decide +kernel
theorem dX5_countOf_1 : decode cX5_countOf 1 = .ok (.ifCond .ne 10, 3) := by decide +kernel
theorem dX5_countOf_4 : decode cX5_countOf 4 = .ok (.aload_n 0, 1) := by decide +kernel
theorem dX5_countOf_5 : decode cX5_countOf 5 = .ok (.getfield 7, 3) := by decide +kernel
theorem dX5_countOf_8 : decode cX5_countOf 8 = .ok (.goto 46, 3) := by decide +kernel
theorem dX5_countOf_11 : decode cX5_countOf 11 = .ok (.iload_n 1, 1) := by decide +kernel
theorem dX5_countOf_12 : decode cX5_countOf 12 = .ok (.iconst 1, 1) := by decide +kernel
theorem dX5_countOf_13 : decode cX5_countOf 13 = .ok (.if_icmp .ne 10, 3) := by decide +kernel
theorem dX5_countOf_16 : decode cX5_countOf 16 = .ok (.aload_n 0, 1) := by decide +kernel
theorem dX5_countOf_17 : decode cX5_countOf 17 = .ok (.getfield 46, 3) := by decide +kernel
theorem dX5_countOf_20 : decode cX5_countOf 20 = .ok (.goto 34, 3) := by decide +kernel
theorem dX5_countOf_23 : decode cX5_countOf 23 = .ok (.iload_n 1, 1) := by decide +kernel
theorem dX5_countOf_24 : decode cX5_countOf 24 = .ok (.iconst 2, 1) := by decide +kernel
theorem dX5_countOf_25 : decode cX5_countOf 25 = .ok (.if_icmp .ne 10, 3) := by decide +kernel
theorem dX5_countOf_28 : decode cX5_countOf 28 = .ok (.aload_n 0, 1) := by decide +kernel
theorem dX5_countOf_29 : decode cX5_countOf 29 = .ok (.getfield 49, 3) := by decide +kernel
theorem dX5_countOf_32 : decode cX5_countOf 32 = .ok (.goto 22, 3) := by decide +kernel
theorem dX5_countOf_35 : decode cX5_countOf 35 = .ok (.iload_n 1, 1) := by decide +kernel
theorem dX5_countOf_36 : decode cX5_countOf 36 = .ok (.iconst 3, 1) := by decide +kernel
theorem dX5_countOf_37 : decode cX5_countOf 37 = .ok (.if_icmp .ne 13, 3) := by decide +kernel
theorem dX5_countOf_40 : decode cX5_countOf 40 = .ok (.aload_n 0, 1) := by decide +kernel
theorem dX5_countOf_41 : decode cX5_countOf 41 = .ok (.getfield 52, 3) := by decide +kernel
theorem dX5_countOf_44 : decode cX5_countOf 44 = .ok (.invokestatic 99, 3) := by decide +kernel
theorem dX5_countOf_47 : decode cX5_countOf 47 = .ok (.goto 7, 3) := by decide +kernel
theorem dX5_countOf_50 : decode cX5_countOf 50 = .ok (.aload_n 0, 1) := by decide +kernel
theorem dX5_countOf_51 : decode cX5_countOf 51 = .ok (.getfield 55, 3) := by decide +kernel
theorem dX5_countOf_54 : decode cX5_countOf 54 = .ok (.ireturn, 1) := by decide +kernel
theorem dX5_count_0 : decode cX5_count 0 = .ok (.aload_n 0, 1) := by decide +kernel
theorem dX5_count_1 : decode cX5_count 1 = .ok (.iload_n 1, 1) := by decide +kernel
theorem dX5_count_2 : decode cX5_count 2 = .ok (.iconst 0, 1) := by decide +kernel
theorem dX5_count_3 : decode cX5_count 3 = .ok (.iconst 4, 1) := by decide +kernel
theorem dX5_count_4 : decode cX5_count 4 = .ok (.invokestatic 42, 3) := by decide +kernel
theorem dX5_count_7 : decode cX5_count 7 = .ok (.ifCond .eq 7, 3) := by decide +kernel
theorem dX5_count_10 : decode cX5_count 10 = .ok (.iconst 0, 1) := by decide +kernel
theorem dX5_count_11 : decode cX5_count 11 = .ok (.goto 4, 3) := by decide +kernel
theorem dX5_count_14 : decode cX5_count 14 = .ok (.iconst 1, 1) := by decide +kernel
theorem dX5_count_15 : decode cX5_count 15 = .ok (.putfield 39, 3) := by decide +kernel
theorem dX5_count_18 : decode cX5_count 18 = .ok (.aload_n 0, 1) := by decide +kernel
theorem dX5_count_19 : decode cX5_count 19 = .ok (.getfield 39, 3) := by decide +kernel
theorem dX5_count_22 : decode cX5_count 22 = .ok (.ifCond .le 7, 3) := by decide +kernel
theorem dX5_count_25 : decode cX5_count 25 = .ok (.iconst 0, 1) := by decide +kernel
theorem dX5_count_26 : decode cX5_count 26 = .ok (.goto 8, 3) := by decide +kernel
theorem dX5_count_29 : decode cX5_count 29 = .ok (.aload_n 0, 1) := by decide +kernel
theorem dX5_count_30 : decode cX5_count 30 = .ok (.iload_n 1, 1) := by decide +kernel
theorem dX5_count_31 : decode cX5_count 31 = .ok (.invokevirtual 102, 3) := by decide +kernel
theorem dX5_count_34 : decode cX5_count 34 = .ok (.ireturn, 1) := by decide +kernel
theorem dX5_isMasked_0 : decode cX5_isMasked 0 = .ok (.aload_n 0, 1) := by decide +kernel
theorem dX5_isMasked_1 : decode cX5_isMasked 1 = .ok (.getfield 52, 3) := by decide +kernel
theorem dX5_isMasked_4 : decode cX5_isMasked 4 = .ok (.iload_n 1, 1) := by decide +kernel
theorem dX5_isMasked_5 : decode cX5_isMasked 5 = .ok (.ishr, 1) := by decide +kernel
theorem dX5_isMasked_6 : decode cX5_isMasked 6 = .ok (.iconst 1, 1) := by decide +kernel
theorem dX5_isMasked_7 : decode cX5_isMasked 7 = .ok (.iand, 1) := by decide +kernel
theorem dX5_isMasked_8 : decode cX5_isMasked 8 = .ok (.iconst 1, 1) := by decide +kernel
theorem dX5_isMasked_9 : decode cX5_isMasked 9 = .ok (.if_icmp .ne 7, 3) := by decide +kernel
theorem dX5_isMasked_12 : decode cX5_isMasked 12 = .ok (.iconst 1, 1) := by decide +kernel
theorem dX5_isMasked_13 : decode cX5_isMasked 13 = .ok (.goto 4, 3) := by decide +kernel
theorem dX5_isMasked_16 : decode cX5_isMasked 16 = .ok (.iconst 0, 1) := by decide +kernel
theorem dX5_isMasked_17 : decode cX5_isMasked 17 = .ok (.ireturn, 1) := by decide +kernel
theorem dX5_setMasked_0 : decode cX5_setMasked 0 = .ok (.aload_n 0, 1) := by decide +kernel
theorem dX5_setMasked_1 : decode cX5_setMasked 1 = .ok (.aload_n 0, 1) := by decide +kernel
theorem dX5_setMasked_2 : decode cX5_setMasked 2 = .ok (.iload_n 1, 1) := by decide +kernel
theorem dX5_setMasked_3 : decode cX5_setMasked 3 = .ok (.invokevirtual 61, 3) := by decide +kernel
theorem dX5_setMasked_6 : decode cX5_setMasked 6 = .ok (.ifCond .eq 7, 3) := by decide +kernel
theorem dX5_setMasked_9 : decode cX5_setMasked 9 = .ok (.iconst 0, 1) := by decide +kernel
theorem dX5_setMasked_10 : decode cX5_setMasked 10 = .ok (.goto 4, 3) := by decide +kernel
theorem dX5_setMasked_13 : decode cX5_setMasked 13 = .ok (.iconst 1, 1) := by decide +kernel
theorem dX5_setMasked_14 : decode cX5_setMasked 14 = .ok (.putfield 39, 3) := by decide +kernel
theorem dX5_setMasked_17 : decode cX5_setMasked 17 = .ok (.aload_n 0, 1) := by decide +kernel
theorem dX5_setMasked_18 : decode cX5_setMasked 18 = .ok (.getfield 39, 3) := by decide +kernel
theorem dX5_setMasked_21 : decode cX5_setMasked 21 = .ok (.ifCond .le 5, 3) := by decide +kernel
theorem dX5_setMasked_24 : decode cX5_setMasked 24 = .ok (.iconst 0, 1) := by decide +kernel
theorem dX5_setMasked_25 : decode cX5_setMasked 25 = .ok (.ireturn, 1) := by decide +kernel
theorem dX5_setMasked_26 : decode cX5_setMasked 26 = .ok (.aload_n 0, 1) := by decide +kernel
theorem dX5_setMasked_27 : decode cX5_setMasked 27 = .ok (.iload_n 1, 1) := by decide +kernel
theorem dX5_setMasked_28 : decode cX5_setMasked 28 = .ok (.invokevirtual 105, 3) := by decide +kernel
theorem dX5_setMasked_31 : decode cX5_setMasked 31 = .ok (.istore_n 3, 1) := by decide +kernel
theorem dX5_setMasked_32 : decode cX5_setMasked 32 = .ok (.aload_n 0, 1) := by decide +kernel
theorem dX5_setMasked_33 : decode cX5_setMasked 33 = .ok (.iload_n 2, 1) := by decide +kernel
theorem dX5_setMasked_34 : decode cX5_setMasked 34 = .ok (.ifCond .eq 14, 3) := by decide +kernel
theorem dX5_setMasked_37 : decode cX5_setMasked 37 = .ok (.aload_n 0, 1) := by decide +kernel
theorem dX5_setMasked_38 : decode cX5_setMasked 38 = .ok (.getfield 52, 3) := by decide +kernel
theorem dX5_setMasked_41 : decode cX5_setMasked 41 = .ok (.iconst 1, 1) := by decide +kernel
theorem dX5_setMasked_42 : decode cX5_setMasked 42 = .ok (.iload_n 1, 1) := by decide +kernel
theorem dX5_setMasked_43 : decode cX5_setMasked 43 = .ok (.ishl, 1) := by decide +kernel
theorem dX5_setMasked_44 : decode cX5_setMasked 44 = .ok (.ior, 1) := by decide +kernel
theorem dX5_setMasked_45 : decode cX5_setMasked 45 = .ok (.goto 13, 3) := by decide +kernel
theorem dX5_setMasked_48 : decode cX5_setMasked 48 = .ok (.aload_n 0, 1) := by decide +kernel
theorem dX5_setMasked_49 : decode cX5_setMasked 49 = .ok (.getfield 52, 3) := by decide +kernel
theorem dX5_setMasked_52 : decode cX5_setMasked 52 = .ok (.iconst 1, 1) := by decide +kernel
theorem dX5_setMasked_53 : decode cX5_setMasked 53 = .ok (.iload_n 1, 1) := by decide +kernel
theorem dX5_setMasked_54 : decode cX5_setMasked 54 = .ok (.ishl, 1) := by decide +kernel
theorem dX5_setMasked_55 : decode cX5_setMasked 55 = .ok (.iconst (-1), 1) := by decide +kernel
theorem dX5_setMasked_56 : decode cX5_setMasked 56 = .ok (.ixor, 1) := by decide +kernel
theorem dX5_setMasked_57 : decode cX5_setMasked 57 = .ok (.iand, 1) := by decide +kernel
theorem dX5_setMasked_58 : decode cX5_setMasked 58 = .ok (.putfield 52, 3) := by decide +kernel
theorem dX5_setMasked_61 : decode cX5_setMasked 61 = .ok (.aload_n 0, 1) := by decide +kernel
theorem dX5_setMasked_62 : decode cX5_setMasked 62 = .ok (.iconst 0, 1) := by decide +kernel
theorem dX5_setMasked_63 : decode cX5_setMasked 63 = .ok (.putfield 55, 3) := by decide +kernel
theorem dX5_setMasked_66 : decode cX5_setMasked 66 = .ok (.iload_n 3, 1) := by decide +kernel
theorem dX5_setMasked_67 : decode cX5_setMasked 67 = .ok (.ireturn, 1) := by decide +kernel
theorem dX5_sumOf_0 : decode cX5_sumOf 0 = .ok (.iconst 0, 1) := by decide +kernel
theorem dX5_sumOf_1 : decode cX5_sumOf 1 = .ok (.istore_n 2, 1) := by decide +kernel
theorem dX5_sumOf_2 : decode cX5_sumOf 2 = .ok (.iconst 0, 1) := by decide +kernel
theorem dX5_sumOf_3 : decode cX5_sumOf 3 = .ok (.istore_n 3, 1) := by decide +kernel
theorem dX5_sumOf_4 : decode cX5_sumOf 4 = .ok (.iload_n 3, 1) := by decide +kernel
theorem dX5_sumOf_5 : decode cX5_sumOf 5 = .ok (.aload_n 0, 1) := by decide +kernel
theorem dX5_sumOf_6 : decode cX5_sumOf 6 = .ok (.getfield 46, 3) := by decide +kernel
theorem dX5_sumOf_9 : decode cX5_sumOf 9 = .ok (.if_icmp .ge 23, 3) := by decide +kernel
theorem dX5_sumOf_12 : decode cX5_sumOf 12 = .ok (.iload_n 2, 1) := by decide +kernel
theorem dX5_sumOf_13 : decode cX5_sumOf 13 = .ok (.aload_n 0, 1) := by decide +kernel
theorem dX5_sumOf_14 : decode cX5_sumOf 14 = .ok (.getfield 17, 3) := by decide +kernel
theorem dX5_sumOf_17 : decode cX5_sumOf 17 = .ok (.bipush 16, 2) := by decide +kernel
theorem dX5_sumOf_19 : decode cX5_sumOf 19 = .ok (.iload_n 3, 1) := by decide +kernel
theorem dX5_sumOf_20 : decode cX5_sumOf 20 = .ok (.imul, 1) := by decide +kernel
theorem dX5_sumOf_21 : decode cX5_sumOf 21 = .ok (.iload_n 1, 1) := by decide +kernel
theorem dX5_sumOf_22 : decode cX5_sumOf 22 = .ok (.iadd, 1) := by decide +kernel
theorem dX5_sumOf_23 : decode cX5_sumOf 23 = .ok (.iaload, 1) := by decide +kernel
theorem dX5_sumOf_24 : decode cX5_sumOf 24 = .ok (.iadd, 1) := by decide +kernel
theorem dX5_sumOf_25 : decode cX5_sumOf 25 = .ok (.istore_n 2, 1) := by decide +kernel
theorem dX5_sumOf_26 : decode cX5_sumOf 26 = .ok (.iinc 3 1, 3) := by decide +kernel
theorem dX5_sumOf_29 : decode cX5_sumOf 29 = .ok (.goto (-25), 3) := by decide +kernel
theorem dX5_sumOf_32 : decode cX5_sumOf 32 = .ok (.iload_n 2, 1) := by decide +kernel
theorem dX5_sumOf_33 : decode cX5_sumOf 33 = .ok (.ireturn, 1) := by decide +kernel
theorem dX5_channelSum_0 : decode cX5_channelSum 0 = .ok (.aload_n 0, 1) := by decide +kernel
theorem dX5_channelSum_1 : decode cX5_channelSum 1 = .ok (.aload_n 0, 1) := by decide +kernel
theorem dX5_channelSum_2 : decode cX5_channelSum 2 = .ok (.iload_n 1, 1) := by decide +kernel
theorem dX5_channelSum_3 : decode cX5_channelSum 3 = .ok (.invokevirtual 61, 3) := by decide +kernel
theorem dX5_channelSum_6 : decode cX5_channelSum 6 = .ok (.ifCond .eq 7, 3) := by decide +kernel
theorem dX5_channelSum_9 : decode cX5_channelSum 9 = .ok (.iconst 0, 1) := by decide +kernel
theorem dX5_channelSum_10 : decode cX5_channelSum 10 = .ok (.goto 4, 3) := by decide +kernel
theorem dX5_channelSum_13 : decode cX5_channelSum 13 = .ok (.iconst 1, 1) := by decide +kernel
theorem dX5_channelSum_14 : decode cX5_channelSum 14 = .ok (.putfield 39, 3) := by decide +kernel
theorem dX5_channelSum_17 : decode cX5_channelSum 17 = .ok (.aload_n 0, 1) := by decide +kernel
theorem dX5_channelSum_18 : decode cX5_channelSum 18 = .ok (.getfield 39, 3) := by decide +kernel
theorem dX5_channelSum_21 : decode cX5_channelSum 21 = .ok (.ifCond .le 7, 3) := by decide +kernel
theorem dX5_channelSum_24 : decode cX5_channelSum 24 = .ok (.iconst 0, 1) := by decide +kernel
theorem dX5_channelSum_25 : decode cX5_channelSum 25 = .ok (.goto 8, 3) := by decide +kernel
theorem dX5_channelSum_28 : decode cX5_channelSum 28 = .ok (.aload_n 0, 1) := by decide +kernel
theorem dX5_channelSum_29 : decode cX5_channelSum 29 = .ok (.iload_n 1, 1) := by decide +kernel
theorem dX5_channelSum_30 : decode cX5_channelSum 30 = .ok (.invokevirtual 108, 3) := by decide +kernel
theorem dX5_channelSum_33 : decode cX5_channelSum 33 = .ok (.ireturn, 1) := by decide +kernel
theorem dX5_strike_0 : decode cX5_strike 0 = .ok (.aload_n 0, 1) := by decide +kernel
theorem dX5_strike_1 : decode cX5_strike 1 = .ok (.iload_n 1, 1) := by decide +kernel
theorem dX5_strike_2 : decode cX5_strike 2 = .ok (.iconst 0, 1) := by decide +kernel
theorem dX5_strike_3 : decode cX5_strike 3 = .ok (.aload_n 0, 1) := by decide +kernel
theorem dX5_strike_4 : decode cX5_strike 4 = .ok (.getfield 7, 3) := by decide +kernel
theorem dX5_strike_7 : decode cX5_strike 7 = .ok (.invokestatic 42, 3) := by decide +kernel
theorem dX5_strike_10 : decode cX5_strike 10 = .ok (.ifCond .eq 7, 3) := by decide +kernel
theorem dX5_strike_13 : decode cX5_strike 13 = .ok (.iconst 0, 1) := by decide +kernel
theorem dX5_strike_14 : decode cX5_strike 14 = .ok (.goto 4, 3) := by decide +kernel
theorem dX5_strike_17 : decode cX5_strike 17 = .ok (.iconst 1, 1) := by decide +kernel
theorem dX5_strike_18 : decode cX5_strike 18 = .ok (.putfield 39, 3) := by decide +kernel
theorem dX5_strike_21 : decode cX5_strike 21 = .ok (.aload_n 0, 1) := by decide +kernel
theorem dX5_strike_22 : decode cX5_strike 22 = .ok (.getfield 39, 3) := by decide +kernel
theorem dX5_strike_25 : decode cX5_strike 25 = .ok (.ifCond .le 5, 3) := by decide +kernel
theorem dX5_strike_28 : decode cX5_strike 28 = .ok (.iconst 0, 1) := by decide +kernel
theorem dX5_strike_29 : decode cX5_strike 29 = .ok (.ireturn, 1) := by decide +kernel
theorem dX5_strike_30 : decode cX5_strike 30 = .ok (.iconst 0, 1) := by decide +kernel
theorem dX5_strike_31 : decode cX5_strike 31 = .ok (.istore_n 2, 1) := by decide +kernel
theorem dX5_strike_32 : decode cX5_strike 32 = .ok (.iconst 0, 1) := by decide +kernel
theorem dX5_strike_33 : decode cX5_strike 33 = .ok (.istore_n 3, 1) := by decide +kernel
theorem dX5_strike_34 : decode cX5_strike 34 = .ok (.iload_n 3, 1) := by decide +kernel
theorem dX5_strike_35 : decode cX5_strike 35 = .ok (.iload_n 1, 1) := by decide +kernel
theorem dX5_strike_36 : decode cX5_strike 36 = .ok (.if_icmp .ge 108, 3) := by decide +kernel
theorem dX5_strike_39 : decode cX5_strike 39 = .ok (.iconst (-1), 1) := by decide +kernel
theorem dX5_strike_40 : decode cX5_strike 40 = .ok (.istore 4, 2) := by decide +kernel
theorem dX5_strike_42 : decode cX5_strike 42 = .ok (.iconst 0, 1) := by decide +kernel
theorem dX5_strike_43 : decode cX5_strike 43 = .ok (.istore 5, 2) := by decide +kernel
theorem dX5_strike_45 : decode cX5_strike 45 = .ok (.iload 5, 2) := by decide +kernel
theorem dX5_strike_47 : decode cX5_strike 47 = .ok (.aload_n 0, 1) := by decide +kernel
theorem dX5_strike_48 : decode cX5_strike 48 = .ok (.getfield 7, 3) := by decide +kernel
theorem dX5_strike_51 : decode cX5_strike 51 = .ok (.if_icmp .ge 60, 3) := by decide +kernel
theorem dX5_strike_54 : decode cX5_strike 54 = .ok (.aload_n 0, 1) := by decide +kernel
theorem dX5_strike_55 : decode cX5_strike 55 = .ok (.iload 5, 2) := by decide +kernel
theorem dX5_strike_57 : decode cX5_strike 57 = .ok (.invokevirtual 105, 3) := by decide +kernel
theorem dX5_strike_60 : decode cX5_strike 60 = .ok (.ifCond .ne 28, 3) := by decide +kernel
theorem dX5_strike_63 : decode cX5_strike 63 = .ok (.iload 4, 2) := by decide +kernel
theorem dX5_strike_65 : decode cX5_strike 65 = .ok (.iconst (-1), 1) := by decide +kernel
theorem dX5_strike_66 : decode cX5_strike 66 = .ok (.if_icmp .eq 18, 3) := by decide +kernel
theorem dX5_strike_69 : decode cX5_strike 69 = .ok (.aload_n 0, 1) := by decide +kernel
theorem dX5_strike_70 : decode cX5_strike 70 = .ok (.iload 5, 2) := by decide +kernel
theorem dX5_strike_72 : decode cX5_strike 72 = .ok (.invokevirtual 108, 3) := by decide +kernel
theorem dX5_strike_75 : decode cX5_strike 75 = .ok (.aload_n 0, 1) := by decide +kernel
theorem dX5_strike_76 : decode cX5_strike 76 = .ok (.iload 4, 2) := by decide +kernel
theorem dX5_strike_78 : decode cX5_strike 78 = .ok (.invokevirtual 108, 3) := by decide +kernel
theorem dX5_strike_81 : decode cX5_strike 81 = .ok (.if_icmp .le 7, 3) := by decide +kernel
theorem dX5_strike_84 : decode cX5_strike 84 = .ok (.iconst 1, 1) := by decide +kernel
theorem dX5_strike_85 : decode cX5_strike 85 = .ok (.goto 4, 3) := by decide +kernel
theorem dX5_strike_88 : decode cX5_strike 88 = .ok (.iconst 0, 1) := by decide +kernel
theorem dX5_strike_89 : decode cX5_strike 89 = .ok (.istore 6, 2) := by decide +kernel
theorem dX5_strike_91 : decode cX5_strike 91 = .ok (.iload 6, 2) := by decide +kernel
theorem dX5_strike_93 : decode cX5_strike 93 = .ok (.ifCond .eq 8, 3) := by decide +kernel
theorem dX5_strike_96 : decode cX5_strike 96 = .ok (.iload 5, 2) := by decide +kernel
theorem dX5_strike_98 : decode cX5_strike 98 = .ok (.goto 5, 3) := by decide +kernel
theorem dX5_strike_101 : decode cX5_strike 101 = .ok (.iload 4, 2) := by decide +kernel
theorem dX5_strike_103 : decode cX5_strike 103 = .ok (.istore 4, 2) := by decide +kernel
theorem dX5_strike_105 : decode cX5_strike 105 = .ok (.iinc 5 1, 3) := by decide +kernel
theorem dX5_strike_108 : decode cX5_strike 108 = .ok (.goto (-63), 3) := by decide +kernel
theorem dX5_strike_111 : decode cX5_strike 111 = .ok (.iload_n 2, 1) := by decide +kernel
theorem dX5_strike_112 : decode cX5_strike 112 = .ok (.iload 4, 2) := by decide +kernel
theorem dX5_strike_114 : decode cX5_strike 114 = .ok (.iconst (-1), 1) := by decide +kernel
theorem dX5_strike_115 : decode cX5_strike 115 = .ok (.if_icmp .ne 7, 3) := by decide +kernel
theorem dX5_strike_118 : decode cX5_strike 118 = .ok (.iconst 0, 1) := by decide +kernel
theorem dX5_strike_119 : decode cX5_strike 119 = .ok (.goto 7, 3) := by decide +kernel
theorem dX5_strike_122 : decode cX5_strike 122 = .ok (.iconst 1, 1) := by decide +kernel
theorem dX5_strike_123 : decode cX5_strike 123 = .ok (.iload 4, 2) := by decide +kernel
theorem dX5_strike_125 : decode cX5_strike 125 = .ok (.ishl, 1) := by decide +kernel
theorem dX5_strike_126 : decode cX5_strike 126 = .ok (.ior, 1) := by decide +kernel
theorem dX5_strike_127 : decode cX5_strike 127 = .ok (.istore_n 2, 1) := by decide +kernel
theorem dX5_strike_128 : decode cX5_strike 128 = .ok (.aload_n 0, 1) := by decide +kernel
theorem dX5_strike_129 : decode cX5_strike 129 = .ok (.dup, 1) := by decide +kernel
theorem dX5_strike_130 : decode cX5_strike 130 = .ok (.getfield 52, 3) := by decide +kernel
theorem dX5_strike_133 : decode cX5_strike 133 = .ok (.iload_n 2, 1) := by decide +kernel
theorem dX5_strike_134 : decode cX5_strike 134 = .ok (.ior, 1) := by decide +kernel
theorem dX5_strike_135 : decode cX5_strike 135 = .ok (.putfield 52, 3) := by decide +kernel
theorem dX5_strike_138 : decode cX5_strike 138 = .ok (.iinc 3 1, 3) := by decide +kernel
theorem dX5_strike_141 : decode cX5_strike 141 = .ok (.goto (-107), 3) := by decide +kernel
theorem dX5_strike_144 : decode cX5_strike 144 = .ok (.aload_n 0, 1) := by decide +kernel
theorem dX5_strike_145 : decode cX5_strike 145 = .ok (.iconst 0, 1) := by decide +kernel
theorem dX5_strike_146 : decode cX5_strike 146 = .ok (.putfield 55, 3) := by decide +kernel
theorem dX5_strike_149 : decode cX5_strike 149 = .ok (.iload_n 2, 1) := by decide +kernel
theorem dX5_strike_150 : decode cX5_strike 150 = .ok (.ireturn, 1) := by decide +kernel
theorem dX5_lineBy_0 : decode cX5_lineBy 0 = .ok (.iconst 0, 1) := by decide +kernel
theorem dX5_lineBy_1 : decode cX5_lineBy 1 = .ok (.istore 4, 2) := by decide +kernel
theorem dX5_lineBy_3 : decode cX5_lineBy 3 = .ok (.iconst 0, 1) := by decide +kernel
theorem dX5_lineBy_4 : decode cX5_lineBy 4 = .ok (.istore 5, 2) := by decide +kernel
theorem dX5_lineBy_6 : decode cX5_lineBy 6 = .ok (.iload 5, 2) := by decide +kernel
theorem dX5_lineBy_8 : decode cX5_lineBy 8 = .ok (.aload_n 0, 1) := by decide +kernel
theorem dX5_lineBy_9 : decode cX5_lineBy 9 = .ok (.getfield 7, 3) := by decide +kernel
theorem dX5_lineBy_12 : decode cX5_lineBy 12 = .ok (.if_icmp .ge 48, 3) := by decide +kernel
theorem dX5_lineBy_15 : decode cX5_lineBy 15 = .ok (.iload 4, 2) := by decide +kernel
theorem dX5_lineBy_17 : decode cX5_lineBy 17 = .ok (.aload_n 0, 1) := by decide +kernel
theorem dX5_lineBy_18 : decode cX5_lineBy 18 = .ok (.iload 5, 2) := by decide +kernel
theorem dX5_lineBy_20 : decode cX5_lineBy 20 = .ok (.invokevirtual 105, 3) := by decide +kernel
theorem dX5_lineBy_23 : decode cX5_lineBy 23 = .ok (.ifCond .eq 7, 3) := by decide +kernel
theorem dX5_lineBy_26 : decode cX5_lineBy 26 = .ok (.iconst 0, 1) := by decide +kernel
theorem dX5_lineBy_27 : decode cX5_lineBy 27 = .ok (.goto 24, 3) := by decide +kernel
theorem dX5_lineBy_30 : decode cX5_lineBy 30 = .ok (.aload_n 0, 1) := by decide +kernel
theorem dX5_lineBy_31 : decode cX5_lineBy 31 = .ok (.getfield 17, 3) := by decide +kernel
theorem dX5_lineBy_34 : decode cX5_lineBy 34 = .ok (.bipush 16, 2) := by decide +kernel
theorem dX5_lineBy_36 : decode cX5_lineBy 36 = .ok (.iload_n 2, 1) := by decide +kernel
theorem dX5_lineBy_37 : decode cX5_lineBy 37 = .ok (.aload_n 0, 1) := by decide +kernel
theorem dX5_lineBy_38 : decode cX5_lineBy 38 = .ok (.iload_n 1, 1) := by decide +kernel
theorem dX5_lineBy_39 : decode cX5_lineBy 39 = .ok (.iload 5, 2) := by decide +kernel
theorem dX5_lineBy_41 : decode cX5_lineBy 41 = .ok (.iload_n 3, 1) := by decide +kernel
theorem dX5_lineBy_42 : decode cX5_lineBy 42 = .ok (.invokevirtual 89, 3) := by decide +kernel
theorem dX5_lineBy_45 : decode cX5_lineBy 45 = .ok (.iadd, 1) := by decide +kernel
theorem dX5_lineBy_46 : decode cX5_lineBy 46 = .ok (.imul, 1) := by decide +kernel
theorem dX5_lineBy_47 : decode cX5_lineBy 47 = .ok (.iload 5, 2) := by decide +kernel
theorem dX5_lineBy_49 : decode cX5_lineBy 49 = .ok (.iadd, 1) := by decide +kernel
theorem dX5_lineBy_50 : decode cX5_lineBy 50 = .ok (.iaload, 1) := by decide +kernel
theorem dX5_lineBy_51 : decode cX5_lineBy 51 = .ok (.iadd, 1) := by decide +kernel
theorem dX5_lineBy_52 : decode cX5_lineBy 52 = .ok (.istore 4, 2) := by decide +kernel
theorem dX5_lineBy_54 : decode cX5_lineBy 54 = .ok (.iinc 5 1, 3) := by decide +kernel
theorem dX5_lineBy_57 : decode cX5_lineBy 57 = .ok (.goto (-51), 3) := by decide +kernel
theorem dX5_lineBy_60 : decode cX5_lineBy 60 = .ok (.iload 4, 2) := by decide +kernel
theorem dX5_lineBy_62 : decode cX5_lineBy 62 = .ok (.ireturn, 1) := by decide +kernel
theorem dX5_linesOf_0 : decode cX5_linesOf 0 = .ok (.aload_n 0, 1) := by decide +kernel
theorem dX5_linesOf_1 : decode cX5_linesOf 1 = .ok (.getfield 46, 3) := by decide +kernel
theorem dX5_linesOf_4 : decode cX5_linesOf 4 = .ok (.iload_n 1, 1) := by decide +kernel
theorem dX5_linesOf_5 : decode cX5_linesOf 5 = .ok (.if_icmp .le 12, 3) := by decide +kernel
theorem dX5_linesOf_8 : decode cX5_linesOf 8 = .ok (.aload_n 0, 1) := by decide +kernel
theorem dX5_linesOf_9 : decode cX5_linesOf 9 = .ok (.getfield 46, 3) := by decide +kernel
theorem dX5_linesOf_12 : decode cX5_linesOf 12 = .ok (.iload_n 1, 1) := by decide +kernel
theorem dX5_linesOf_13 : decode cX5_linesOf 13 = .ok (.isub, 1) := by decide +kernel
theorem dX5_linesOf_14 : decode cX5_linesOf 14 = .ok (.goto 4, 3) := by decide +kernel
theorem dX5_linesOf_17 : decode cX5_linesOf 17 = .ok (.iconst 0, 1) := by decide +kernel
theorem dX5_linesOf_18 : decode cX5_linesOf 18 = .ok (.ireturn, 1) := by decide +kernel
theorem dX5_isBox_0 : decode cX5_isBox 0 = .ok (.aload_n 0, 1) := by decide +kernel
theorem dX5_isBox_1 : decode cX5_isBox 1 = .ok (.iload_n 1, 1) := by decide +kernel
theorem dX5_isBox_2 : decode cX5_isBox 2 = .ok (.invokevirtual 86, 3) := by decide +kernel
theorem dX5_isBox_5 : decode cX5_isBox 5 = .ok (.ifCond .eq 22, 3) := by decide +kernel
theorem dX5_isBox_8 : decode cX5_isBox 8 = .ok (.iload_n 2, 1) := by decide +kernel
theorem dX5_isBox_9 : decode cX5_isBox 9 = .ok (.ifCond .lt 18, 3) := by decide +kernel
theorem dX5_isBox_12 : decode cX5_isBox 12 = .ok (.iload_n 2, 1) := by decide +kernel
theorem dX5_isBox_13 : decode cX5_isBox 13 = .ok (.aload_n 0, 1) := by decide +kernel
theorem dX5_isBox_14 : decode cX5_isBox 14 = .ok (.iload_n 1, 1) := by decide +kernel
theorem dX5_isBox_15 : decode cX5_isBox 15 = .ok (.invokevirtual 111, 3) := by decide +kernel
theorem dX5_isBox_18 : decode cX5_isBox 18 = .ok (.iload_n 3, 1) := by decide +kernel
theorem dX5_isBox_19 : decode cX5_isBox 19 = .ok (.isub, 1) := by decide +kernel
theorem dX5_isBox_20 : decode cX5_isBox 20 = .ok (.if_icmp .gt 7, 3) := by decide +kernel
theorem dX5_isBox_23 : decode cX5_isBox 23 = .ok (.iconst 1, 1) := by decide +kernel
theorem dX5_isBox_24 : decode cX5_isBox 24 = .ok (.goto 4, 3) := by decide +kernel
theorem dX5_isBox_27 : decode cX5_isBox 27 = .ok (.iconst 0, 1) := by decide +kernel
theorem dX5_isBox_28 : decode cX5_isBox 28 = .ok (.ireturn, 1) := by decide +kernel
theorem dX5_lineSum_0 : decode cX5_lineSum 0 = .ok (.aload_n 0, 1) := by decide +kernel
theorem dX5_lineSum_1 : decode cX5_lineSum 1 = .ok (.aload_n 0, 1) := by decide +kernel
theorem dX5_lineSum_2 : decode cX5_lineSum 2 = .ok (.iload_n 1, 1) := by decide +kernel
theorem dX5_lineSum_3 : decode cX5_lineSum 3 = .ok (.iload_n 2, 1) := by decide +kernel
theorem dX5_lineSum_4 : decode cX5_lineSum 4 = .ok (.iconst 1, 1) := by decide +kernel
theorem dX5_lineSum_5 : decode cX5_lineSum 5 = .ok (.invokevirtual 114, 3) := by decide +kernel
theorem dX5_lineSum_8 : decode cX5_lineSum 8 = .ok (.ifCond .eq 7, 3) := by decide +kernel
theorem dX5_lineSum_11 : decode cX5_lineSum 11 = .ok (.iconst 0, 1) := by decide +kernel
theorem dX5_lineSum_12 : decode cX5_lineSum 12 = .ok (.goto 4, 3) := by decide +kernel
theorem dX5_lineSum_15 : decode cX5_lineSum 15 = .ok (.iconst 1, 1) := by decide +kernel
theorem dX5_lineSum_16 : decode cX5_lineSum 16 = .ok (.putfield 39, 3) := by decide +kernel
theorem dX5_lineSum_19 : decode cX5_lineSum 19 = .ok (.aload_n 0, 1) := by decide +kernel
theorem dX5_lineSum_20 : decode cX5_lineSum 20 = .ok (.getfield 39, 3) := by decide +kernel
theorem dX5_lineSum_23 : decode cX5_lineSum 23 = .ok (.ifCond .le 7, 3) := by decide +kernel
theorem dX5_lineSum_26 : decode cX5_lineSum 26 = .ok (.iconst 0, 1) := by decide +kernel
theorem dX5_lineSum_27 : decode cX5_lineSum 27 = .ok (.goto 10, 3) := by decide +kernel
theorem dX5_lineSum_30 : decode cX5_lineSum 30 = .ok (.aload_n 0, 1) := by decide +kernel
theorem dX5_lineSum_31 : decode cX5_lineSum 31 = .ok (.iload_n 1, 1) := by decide +kernel
theorem dX5_lineSum_32 : decode cX5_lineSum 32 = .ok (.iload_n 2, 1) := by decide +kernel
theorem dX5_lineSum_33 : decode cX5_lineSum 33 = .ok (.iload_n 3, 1) := by decide +kernel
theorem dX5_lineSum_34 : decode cX5_lineSum 34 = .ok (.invokevirtual 117, 3) := by decide +kernel
theorem dX5_lineSum_37 : decode cX5_lineSum 37 = .ok (.ireturn, 1) := by decide +kernel
theorem dX5_sumOfLines_0 : decode cX5_sumOfLines 0 = .ok (.lconst 0, 1) := by decide +kernel
theorem dX5_sumOfLines_1 : decode cX5_sumOfLines 1 = .ok (.lstore_n 2, 1) := by decide +kernel
theorem dX5_sumOfLines_2 : decode cX5_sumOfLines 2 = .ok (.iconst 0, 1) := by decide +kernel
theorem dX5_sumOfLines_3 : decode cX5_sumOfLines 3 = .ok (.istore 4, 2) := by decide +kernel
theorem dX5_sumOfLines_5 : decode cX5_sumOfLines 5 = .ok (.iload 4, 2) := by decide +kernel
theorem dX5_sumOfLines_7 : decode cX5_sumOfLines 7 = .ok (.aload_n 0, 1) := by decide +kernel
theorem dX5_sumOfLines_8 : decode cX5_sumOfLines 8 = .ok (.iload_n 1, 1) := by decide +kernel
theorem dX5_sumOfLines_9 : decode cX5_sumOfLines 9 = .ok (.invokevirtual 111, 3) := by decide +kernel
theorem dX5_sumOfLines_12 : decode cX5_sumOfLines 12 = .ok (.if_icmp .ge 21, 3) := by decide +kernel
theorem dX5_sumOfLines_15 : decode cX5_sumOfLines 15 = .ok (.lload_n 2, 1) := by decide +kernel
theorem dX5_sumOfLines_16 : decode cX5_sumOfLines 16 = .ok (.aload_n 0, 1) := by decide +kernel
theorem dX5_sumOfLines_17 : decode cX5_sumOfLines 17 = .ok (.iload_n 1, 1) := by decide +kernel
theorem dX5_sumOfLines_18 : decode cX5_sumOfLines 18 = .ok (.iload 4, 2) := by decide +kernel
theorem dX5_sumOfLines_20 : decode cX5_sumOfLines 20 = .ok (.iconst 0, 1) := by decide +kernel
theorem dX5_sumOfLines_21 : decode cX5_sumOfLines 21 = .ok (.invokevirtual 117, 3) := by decide +kernel
theorem dX5_sumOfLines_24 : decode cX5_sumOfLines 24 = .ok (.i2l, 1) := by decide +kernel
theorem dX5_sumOfLines_25 : decode cX5_sumOfLines 25 = .ok (.ladd, 1) := by decide +kernel
theorem dX5_sumOfLines_26 : decode cX5_sumOfLines 26 = .ok (.lstore_n 2, 1) := by decide +kernel
theorem dX5_sumOfLines_27 : decode cX5_sumOfLines 27 = .ok (.iinc 4 1, 3) := by decide +kernel
theorem dX5_sumOfLines_30 : decode cX5_sumOfLines 30 = .ok (.goto (-25), 3) := by decide +kernel
theorem dX5_sumOfLines_33 : decode cX5_sumOfLines 33 = .ok (.lload_n 2, 1) := by decide +kernel
theorem dX5_sumOfLines_34 : decode cX5_sumOfLines 34 = .ok (.lreturn, 1) := by decide +kernel
theorem dX5_mean_0 : decode cX5_mean 0 = .ok (.aload_n 0, 1) := by decide +kernel
theorem dX5_mean_1 : decode cX5_mean 1 = .ok (.aload_n 0, 1) := by decide +kernel
theorem dX5_mean_2 : decode cX5_mean 2 = .ok (.iload_n 1, 1) := by decide +kernel
theorem dX5_mean_3 : decode cX5_mean 3 = .ok (.invokevirtual 86, 3) := by decide +kernel
theorem dX5_mean_6 : decode cX5_mean 6 = .ok (.ifCond .eq 7, 3) := by decide +kernel
theorem dX5_mean_9 : decode cX5_mean 9 = .ok (.iconst 0, 1) := by decide +kernel
theorem dX5_mean_10 : decode cX5_mean 10 = .ok (.goto 4, 3) := by decide +kernel
theorem dX5_mean_13 : decode cX5_mean 13 = .ok (.iconst 1, 1) := by decide +kernel
theorem dX5_mean_14 : decode cX5_mean 14 = .ok (.putfield 39, 3) := by decide +kernel
theorem dX5_mean_17 : decode cX5_mean 17 = .ok (.aload_n 0, 1) := by decide +kernel
theorem dX5_mean_18 : decode cX5_mean 18 = .ok (.getfield 39, 3) := by decide +kernel
theorem dX5_mean_21 : decode cX5_mean 21 = .ok (.ifCond .gt 11, 3) := by decide +kernel
theorem dX5_mean_24 : decode cX5_mean 24 = .ok (.aload_n 0, 1) := by decide +kernel
theorem dX5_mean_25 : decode cX5_mean 25 = .ok (.iload_n 1, 1) := by decide +kernel
theorem dX5_mean_26 : decode cX5_mean 26 = .ok (.invokevirtual 111, 3) := by decide +kernel
theorem dX5_mean_29 : decode cX5_mean 29 = .ok (.ifCond .ne 7, 3) := by decide +kernel
theorem dX5_mean_32 : decode cX5_mean 32 = .ok (.dconst 0, 1) := by decide +kernel
theorem dX5_mean_33 : decode cX5_mean 33 = .ok (.goto 16, 3) := by decide +kernel
theorem dX5_mean_36 : decode cX5_mean 36 = .ok (.aload_n 0, 1) := by decide +kernel
theorem dX5_mean_37 : decode cX5_mean 37 = .ok (.iload_n 1, 1) := by decide +kernel
theorem dX5_mean_38 : decode cX5_mean 38 = .ok (.invokevirtual 120, 3) := by decide +kernel
theorem dX5_mean_41 : decode cX5_mean 41 = .ok (.l2d, 1) := by decide +kernel
theorem dX5_mean_42 : decode cX5_mean 42 = .ok (.aload_n 0, 1) := by decide +kernel
theorem dX5_mean_43 : decode cX5_mean 43 = .ok (.iload_n 1, 1) := by decide +kernel
theorem dX5_mean_44 : decode cX5_mean 44 = .ok (.invokevirtual 111, 3) := by decide +kernel
theorem dX5_mean_47 : decode cX5_mean 47 = .ok (.i2d, 1) := by decide +kernel
theorem dX5_mean_48 : decode cX5_mean 48 = .ok (.ddiv, 1) := by decide +kernel
theorem dX5_mean_49 : decode cX5_mean 49 = .ok (.dreturn, 1) := by decide +kernel
theorem dX5_layLines_0 : decode cX5_layLines 0 = .ok (.aload_n 0, 1) := by decide +kernel
theorem dX5_layLines_1 : decode cX5_layLines 1 = .ok (.aload_n 0, 1) := by decide +kernel
theorem dX5_layLines_2 : decode cX5_layLines 2 = .ok (.iload_n 1, 1) := by decide +kernel
theorem dX5_layLines_3 : decode cX5_layLines 3 = .ok (.invokevirtual 111, 3) := by decide +kernel
theorem dX5_layLines_6 : decode cX5_layLines 6 = .ok (.i2l, 1) := by decide +kernel
theorem dX5_layLines_7 : decode cX5_layLines 7 = .ok (.putfield 124, 3) := by decide +kernel
theorem dX5_layLines_10 : decode cX5_layLines 10 = .ok (.aload_n 0, 1) := by decide +kernel
theorem dX5_layLines_11 : decode cX5_layLines 11 = .ok (.lconst 0, 1) := by decide +kernel
theorem dX5_layLines_12 : decode cX5_layLines 12 = .ok (.putfield 128, 3) := by decide +kernel
theorem dX5_layLines_15 : decode cX5_layLines 15 = .ok (.aload_n 0, 1) := by decide +kernel
theorem dX5_layLines_16 : decode cX5_layLines 16 = .ok (.lconst 0, 1) := by decide +kernel
theorem dX5_layLines_17 : decode cX5_layLines 17 = .ok (.putfield 131, 3) := by decide +kernel
theorem dX5_layLines_20 : decode cX5_layLines 20 = .ok (.iconst 0, 1) := by decide +kernel
theorem dX5_layLines_21 : decode cX5_layLines 21 = .ok (.istore_n 2, 1) := by decide +kernel
theorem dX5_layLines_22 : decode cX5_layLines 22 = .ok (.iload_n 2, 1) := by decide +kernel
theorem dX5_layLines_23 : decode cX5_layLines 23 = .ok (.aload_n 0, 1) := by decide +kernel
theorem dX5_layLines_24 : decode cX5_layLines 24 = .ok (.iload_n 1, 1) := by decide +kernel
theorem dX5_layLines_25 : decode cX5_layLines 25 = .ok (.invokevirtual 111, 3) := by decide +kernel
theorem dX5_layLines_28 : decode cX5_layLines 28 = .ok (.if_icmp .ge 62, 3) := by decide +kernel
theorem dX5_layLines_31 : decode cX5_layLines 31 = .ok (.aload_n 0, 1) := by decide +kernel
theorem dX5_layLines_32 : decode cX5_layLines 32 = .ok (.getfield 36, 3) := by decide +kernel
theorem dX5_layLines_35 : decode cX5_layLines 35 = .ok (.iload_n 2, 1) := by decide +kernel
theorem dX5_layLines_36 : decode cX5_layLines 36 = .ok (.aload_n 0, 1) := by decide +kernel
theorem dX5_layLines_37 : decode cX5_layLines 37 = .ok (.iload_n 1, 1) := by decide +kernel
theorem dX5_layLines_38 : decode cX5_layLines 38 = .ok (.iload_n 2, 1) := by decide +kernel
theorem dX5_layLines_39 : decode cX5_layLines 39 = .ok (.iconst 0, 1) := by decide +kernel
theorem dX5_layLines_40 : decode cX5_layLines 40 = .ok (.invokevirtual 117, 3) := by decide +kernel
theorem dX5_layLines_43 : decode cX5_layLines 43 = .ok (.iastore, 1) := by decide +kernel
theorem dX5_layLines_44 : decode cX5_layLines 44 = .ok (.aload_n 0, 1) := by decide +kernel
theorem dX5_layLines_45 : decode cX5_layLines 45 = .ok (.dup, 1) := by decide +kernel
theorem dX5_layLines_46 : decode cX5_layLines 46 = .ok (.getfield 128, 3) := by decide +kernel
theorem dX5_layLines_49 : decode cX5_layLines 49 = .ok (.aload_n 0, 1) := by decide +kernel
theorem dX5_layLines_50 : decode cX5_layLines 50 = .ok (.getfield 36, 3) := by decide +kernel
theorem dX5_layLines_53 : decode cX5_layLines 53 = .ok (.iload_n 2, 1) := by decide +kernel
theorem dX5_layLines_54 : decode cX5_layLines 54 = .ok (.iaload, 1) := by decide +kernel
theorem dX5_layLines_55 : decode cX5_layLines 55 = .ok (.i2l, 1) := by decide +kernel
theorem dX5_layLines_56 : decode cX5_layLines 56 = .ok (.ladd, 1) := by decide +kernel
theorem dX5_layLines_57 : decode cX5_layLines 57 = .ok (.putfield 128, 3) := by decide +kernel
theorem dX5_layLines_60 : decode cX5_layLines 60 = .ok (.aload_n 0, 1) := by decide +kernel
theorem dX5_layLines_61 : decode cX5_layLines 61 = .ok (.dup, 1) := by decide +kernel
theorem dX5_layLines_62 : decode cX5_layLines 62 = .ok (.getfield 131, 3) := by decide +kernel
theorem dX5_layLines_65 : decode cX5_layLines 65 = .ok (.aload_n 0, 1) := by decide +kernel
theorem dX5_layLines_66 : decode cX5_layLines 66 = .ok (.getfield 36, 3) := by decide +kernel
theorem dX5_layLines_69 : decode cX5_layLines 69 = .ok (.iload_n 2, 1) := by decide +kernel
theorem dX5_layLines_70 : decode cX5_layLines 70 = .ok (.iaload, 1) := by decide +kernel
theorem dX5_layLines_71 : decode cX5_layLines 71 = .ok (.i2l, 1) := by decide +kernel
theorem dX5_layLines_72 : decode cX5_layLines 72 = .ok (.aload_n 0, 1) := by decide +kernel
theorem dX5_layLines_73 : decode cX5_layLines 73 = .ok (.getfield 36, 3) := by decide +kernel
theorem dX5_layLines_76 : decode cX5_layLines 76 = .ok (.iload_n 2, 1) := by decide +kernel
theorem dX5_layLines_77 : decode cX5_layLines 77 = .ok (.iaload, 1) := by decide +kernel
theorem dX5_layLines_78 : decode cX5_layLines 78 = .ok (.i2l, 1) := by decide +kernel
theorem dX5_layLines_79 : decode cX5_layLines 79 = .ok (.lmul, 1) := by decide +kernel
theorem dX5_layLines_80 : decode cX5_layLines 80 = .ok (.ladd, 1) := by decide +kernel
theorem dX5_layLines_81 : decode cX5_layLines 81 = .ok (.putfield 131, 3) := by decide +kernel
theorem dX5_layLines_84 : decode cX5_layLines 84 = .ok (.iinc 2 1, 3) := by decide +kernel
theorem dX5_layLines_87 : decode cX5_layLines 87 = .ok (.goto (-65), 3) := by decide +kernel
theorem dX5_layLines_90 : decode cX5_layLines 90 = .ok (.return_, 1) := by decide +kernel
theorem dX5_boxBy_0 : decode cX5_boxBy 0 = .ok (.iconst 0, 1) := by decide +kernel
theorem dX5_boxBy_1 : decode cX5_boxBy 1 = .ok (.istore_n 3, 1) := by decide +kernel
theorem dX5_boxBy_2 : decode cX5_boxBy 2 = .ok (.iload_n 1, 1) := by decide +kernel
theorem dX5_boxBy_3 : decode cX5_boxBy 3 = .ok (.istore 4, 2) := by decide +kernel
theorem dX5_boxBy_5 : decode cX5_boxBy 5 = .ok (.iload 4, 2) := by decide +kernel
theorem dX5_boxBy_7 : decode cX5_boxBy 7 = .ok (.iload_n 1, 1) := by decide +kernel
theorem dX5_boxBy_8 : decode cX5_boxBy 8 = .ok (.iload_n 2, 1) := by decide +kernel
theorem dX5_boxBy_9 : decode cX5_boxBy 9 = .ok (.iadd, 1) := by decide +kernel
theorem dX5_boxBy_10 : decode cX5_boxBy 10 = .ok (.if_icmp .ge 19, 3) := by decide +kernel
theorem dX5_boxBy_13 : decode cX5_boxBy 13 = .ok (.iload_n 3, 1) := by decide +kernel
theorem dX5_boxBy_14 : decode cX5_boxBy 14 = .ok (.aload_n 0, 1) := by decide +kernel
theorem dX5_boxBy_15 : decode cX5_boxBy 15 = .ok (.getfield 36, 3) := by decide +kernel
theorem dX5_boxBy_18 : decode cX5_boxBy 18 = .ok (.iload 4, 2) := by decide +kernel
theorem dX5_boxBy_20 : decode cX5_boxBy 20 = .ok (.iaload, 1) := by decide +kernel
theorem dX5_boxBy_21 : decode cX5_boxBy 21 = .ok (.iadd, 1) := by decide +kernel
theorem dX5_boxBy_22 : decode cX5_boxBy 22 = .ok (.istore_n 3, 1) := by decide +kernel
theorem dX5_boxBy_23 : decode cX5_boxBy 23 = .ok (.iinc 4 1, 3) := by decide +kernel
theorem dX5_boxBy_26 : decode cX5_boxBy 26 = .ok (.goto (-21), 3) := by decide +kernel
theorem dX5_boxBy_29 : decode cX5_boxBy 29 = .ok (.iload_n 3, 1) := by decide +kernel
theorem dX5_boxBy_30 : decode cX5_boxBy 30 = .ok (.ireturn, 1) := by decide +kernel
theorem dX5_scoreBy_0 : decode cX5_scoreBy 0 = .ok (.aload_n 0, 1) := by decide +kernel
theorem dX5_scoreBy_1 : decode cX5_scoreBy 1 = .ok (.getfield 124, 3) := by decide +kernel
theorem dX5_scoreBy_4 : decode cX5_scoreBy 4 = .ok (.aload_n 0, 1) := by decide +kernel
theorem dX5_scoreBy_5 : decode cX5_scoreBy 5 = .ok (.getfield 131, 3) := by decide +kernel
theorem dX5_scoreBy_8 : decode cX5_scoreBy 8 = .ok (.lmul, 1) := by decide +kernel
theorem dX5_scoreBy_9 : decode cX5_scoreBy 9 = .ok (.aload_n 0, 1) := by decide +kernel
theorem dX5_scoreBy_10 : decode cX5_scoreBy 10 = .ok (.getfield 128, 3) := by decide +kernel
theorem dX5_scoreBy_13 : decode cX5_scoreBy 13 = .ok (.aload_n 0, 1) := by decide +kernel
theorem dX5_scoreBy_14 : decode cX5_scoreBy 14 = .ok (.getfield 128, 3) := by decide +kernel
theorem dX5_scoreBy_17 : decode cX5_scoreBy 17 = .ok (.lmul, 1) := by decide +kernel
theorem dX5_scoreBy_18 : decode cX5_scoreBy 18 = .ok (.lsub, 1) := by decide +kernel
theorem dX5_scoreBy_19 : decode cX5_scoreBy 19 = .ok (.lstore_n 3, 1) := by decide +kernel
theorem dX5_scoreBy_20 : decode cX5_scoreBy 20 = .ok (.aload_n 0, 1) := by decide +kernel
theorem dX5_scoreBy_21 : decode cX5_scoreBy 21 = .ok (.getfield 124, 3) := by decide +kernel
theorem dX5_scoreBy_24 : decode cX5_scoreBy 24 = .ok (.aload_n 0, 1) := by decide +kernel
theorem dX5_scoreBy_25 : decode cX5_scoreBy 25 = .ok (.iload_n 1, 1) := by decide +kernel
theorem dX5_scoreBy_26 : decode cX5_scoreBy 26 = .ok (.iload_n 2, 1) := by decide +kernel
theorem dX5_scoreBy_27 : decode cX5_scoreBy 27 = .ok (.invokevirtual 134, 3) := by decide +kernel
theorem dX5_scoreBy_30 : decode cX5_scoreBy 30 = .ok (.i2l, 1) := by decide +kernel
theorem dX5_scoreBy_31 : decode cX5_scoreBy 31 = .ok (.lmul, 1) := by decide +kernel
theorem dX5_scoreBy_32 : decode cX5_scoreBy 32 = .ok (.iload_n 2, 1) := by decide +kernel
theorem dX5_scoreBy_33 : decode cX5_scoreBy 33 = .ok (.i2l, 1) := by decide +kernel
theorem dX5_scoreBy_34 : decode cX5_scoreBy 34 = .ok (.aload_n 0, 1) := by decide +kernel
theorem dX5_scoreBy_35 : decode cX5_scoreBy 35 = .ok (.getfield 128, 3) := by decide +kernel
theorem dX5_scoreBy_38 : decode cX5_scoreBy 38 = .ok (.lmul, 1) := by decide +kernel
theorem dX5_scoreBy_39 : decode cX5_scoreBy 39 = .ok (.lsub, 1) := by decide +kernel
theorem dX5_scoreBy_40 : decode cX5_scoreBy 40 = .ok (.lstore 5, 2) := by decide +kernel
theorem dX5_scoreBy_42 : decode cX5_scoreBy 42 = .ok (.lload 5, 2) := by decide +kernel
theorem dX5_scoreBy_44 : decode cX5_scoreBy 44 = .ok (.lconst 0, 1) := by decide +kernel
theorem dX5_scoreBy_45 : decode cX5_scoreBy 45 = .ok (.lcmp, 1) := by decide +kernel
theorem dX5_scoreBy_46 : decode cX5_scoreBy 46 = .ok (.ifCond .le 26, 3) := by decide +kernel
theorem dX5_scoreBy_49 : decode cX5_scoreBy 49 = .ok (.lload_n 3, 1) := by decide +kernel
theorem dX5_scoreBy_50 : decode cX5_scoreBy 50 = .ok (.lconst 0, 1) := by decide +kernel
theorem dX5_scoreBy_51 : decode cX5_scoreBy 51 = .ok (.lcmp, 1) := by decide +kernel
theorem dX5_scoreBy_52 : decode cX5_scoreBy 52 = .ok (.ifCond .le 20, 3) := by decide +kernel
theorem dX5_scoreBy_55 : decode cX5_scoreBy 55 = .ok (.ldc2_w 137, 3) := by decide +kernel
theorem dX5_scoreBy_58 : decode cX5_scoreBy 58 = .ok (.lload 5, 2) := by decide +kernel
theorem dX5_scoreBy_60 : decode cX5_scoreBy 60 = .ok (.lmul, 1) := by decide +kernel
theorem dX5_scoreBy_61 : decode cX5_scoreBy 61 = .ok (.lload 5, 2) := by decide +kernel
theorem dX5_scoreBy_63 : decode cX5_scoreBy 63 = .ok (.lmul, 1) := by decide +kernel
theorem dX5_scoreBy_64 : decode cX5_scoreBy 64 = .ok (.iload_n 2, 1) := by decide +kernel
theorem dX5_scoreBy_65 : decode cX5_scoreBy 65 = .ok (.i2l, 1) := by decide +kernel
theorem dX5_scoreBy_66 : decode cX5_scoreBy 66 = .ok (.lload_n 3, 1) := by decide +kernel
theorem dX5_scoreBy_67 : decode cX5_scoreBy 67 = .ok (.lmul, 1) := by decide +kernel
theorem dX5_scoreBy_68 : decode cX5_scoreBy 68 = .ok (.ldiv, 1) := by decide +kernel
theorem dX5_scoreBy_69 : decode cX5_scoreBy 69 = .ok (.goto 4, 3) := by decide +kernel
theorem dX5_scoreBy_72 : decode cX5_scoreBy 72 = .ok (.lconst 0, 1) := by decide +kernel
theorem dX5_scoreBy_73 : decode cX5_scoreBy 73 = .ok (.lreturn, 1) := by decide +kernel
theorem dX5_boxSum_0 : decode cX5_boxSum 0 = .ok (.aload_n 0, 1) := by decide +kernel
theorem dX5_boxSum_1 : decode cX5_boxSum 1 = .ok (.iload_n 3, 1) := by decide +kernel
theorem dX5_boxSum_2 : decode cX5_boxSum 2 = .ok (.iconst 1, 1) := by decide +kernel
theorem dX5_boxSum_3 : decode cX5_boxSum 3 = .ok (.bipush 8, 2) := by decide +kernel
theorem dX5_boxSum_5 : decode cX5_boxSum 5 = .ok (.invokestatic 42, 3) := by decide +kernel
theorem dX5_boxSum_8 : decode cX5_boxSum 8 = .ok (.ifCond .ne 7, 3) := by decide +kernel
theorem dX5_boxSum_11 : decode cX5_boxSum 11 = .ok (.iconst 1, 1) := by decide +kernel
theorem dX5_boxSum_12 : decode cX5_boxSum 12 = .ok (.goto 18, 3) := by decide +kernel
theorem dX5_boxSum_15 : decode cX5_boxSum 15 = .ok (.aload_n 0, 1) := by decide +kernel
theorem dX5_boxSum_16 : decode cX5_boxSum 16 = .ok (.iload_n 1, 1) := by decide +kernel
theorem dX5_boxSum_17 : decode cX5_boxSum 17 = .ok (.iload_n 2, 1) := by decide +kernel
theorem dX5_boxSum_18 : decode cX5_boxSum 18 = .ok (.iload_n 3, 1) := by decide +kernel
theorem dX5_boxSum_19 : decode cX5_boxSum 19 = .ok (.invokevirtual 114, 3) := by decide +kernel
theorem dX5_boxSum_22 : decode cX5_boxSum 22 = .ok (.ifCond .eq 7, 3) := by decide +kernel
theorem dX5_boxSum_25 : decode cX5_boxSum 25 = .ok (.iconst 0, 1) := by decide +kernel
theorem dX5_boxSum_26 : decode cX5_boxSum 26 = .ok (.goto 4, 3) := by decide +kernel
theorem dX5_boxSum_29 : decode cX5_boxSum 29 = .ok (.iconst 2, 1) := by decide +kernel
theorem dX5_boxSum_30 : decode cX5_boxSum 30 = .ok (.putfield 39, 3) := by decide +kernel
theorem dX5_boxSum_33 : decode cX5_boxSum 33 = .ok (.aload_n 0, 1) := by decide +kernel
theorem dX5_boxSum_34 : decode cX5_boxSum 34 = .ok (.getfield 39, 3) := by decide +kernel
theorem dX5_boxSum_37 : decode cX5_boxSum 37 = .ok (.ifCond .le 5, 3) := by decide +kernel
theorem dX5_boxSum_40 : decode cX5_boxSum 40 = .ok (.iconst 0, 1) := by decide +kernel
theorem dX5_boxSum_41 : decode cX5_boxSum 41 = .ok (.ireturn, 1) := by decide +kernel
theorem dX5_boxSum_42 : decode cX5_boxSum 42 = .ok (.aload_n 0, 1) := by decide +kernel
theorem dX5_boxSum_43 : decode cX5_boxSum 43 = .ok (.iload_n 1, 1) := by decide +kernel
theorem dX5_boxSum_44 : decode cX5_boxSum 44 = .ok (.invokevirtual 139, 3) := by decide +kernel
theorem dX5_boxSum_47 : decode cX5_boxSum 47 = .ok (.aload_n 0, 1) := by decide +kernel
theorem dX5_boxSum_48 : decode cX5_boxSum 48 = .ok (.iload_n 2, 1) := by decide +kernel
theorem dX5_boxSum_49 : decode cX5_boxSum 49 = .ok (.iload_n 3, 1) := by decide +kernel
theorem dX5_boxSum_50 : decode cX5_boxSum 50 = .ok (.invokevirtual 134, 3) := by decide +kernel
theorem dX5_boxSum_53 : decode cX5_boxSum 53 = .ok (.ireturn, 1) := by decide +kernel
theorem dX5_score_0 : decode cX5_score 0 = .ok (.aload_n 0, 1) := by decide +kernel
theorem dX5_score_1 : decode cX5_score 1 = .ok (.iload_n 3, 1) := by decide +kernel
theorem dX5_score_2 : decode cX5_score 2 = .ok (.iconst 1, 1) := by decide +kernel
theorem dX5_score_3 : decode cX5_score 3 = .ok (.bipush 8, 2) := by decide +kernel
theorem dX5_score_5 : decode cX5_score 5 = .ok (.invokestatic 42, 3) := by decide +kernel
theorem dX5_score_8 : decode cX5_score 8 = .ok (.ifCond .ne 7, 3) := by decide +kernel
theorem dX5_score_11 : decode cX5_score 11 = .ok (.iconst 1, 1) := by decide +kernel
theorem dX5_score_12 : decode cX5_score 12 = .ok (.goto 18, 3) := by decide +kernel
theorem dX5_score_15 : decode cX5_score 15 = .ok (.aload_n 0, 1) := by decide +kernel
theorem dX5_score_16 : decode cX5_score 16 = .ok (.iload_n 1, 1) := by decide +kernel
theorem dX5_score_17 : decode cX5_score 17 = .ok (.iload_n 2, 1) := by decide +kernel
theorem dX5_score_18 : decode cX5_score 18 = .ok (.iload_n 3, 1) := by decide +kernel
theorem dX5_score_19 : decode cX5_score 19 = .ok (.invokevirtual 114, 3) := by decide +kernel
theorem dX5_score_22 : decode cX5_score 22 = .ok (.ifCond .eq 7, 3) := by decide +kernel
theorem dX5_score_25 : decode cX5_score 25 = .ok (.iconst 0, 1) := by decide +kernel
theorem dX5_score_26 : decode cX5_score 26 = .ok (.goto 4, 3) := by decide +kernel
theorem dX5_score_29 : decode cX5_score 29 = .ok (.iconst 2, 1) := by decide +kernel
theorem dX5_score_30 : decode cX5_score 30 = .ok (.putfield 39, 3) := by decide +kernel
theorem dX5_score_33 : decode cX5_score 33 = .ok (.aload_n 0, 1) := by decide +kernel
theorem dX5_score_34 : decode cX5_score 34 = .ok (.getfield 39, 3) := by decide +kernel
theorem dX5_score_37 : decode cX5_score 37 = .ok (.ifCond .le 5, 3) := by decide +kernel
theorem dX5_score_40 : decode cX5_score 40 = .ok (.lconst 0, 1) := by decide +kernel
theorem dX5_score_41 : decode cX5_score 41 = .ok (.lreturn, 1) := by decide +kernel
theorem dX5_score_42 : decode cX5_score 42 = .ok (.aload_n 0, 1) := by decide +kernel
theorem dX5_score_43 : decode cX5_score 43 = .ok (.iload_n 1, 1) := by decide +kernel
theorem dX5_score_44 : decode cX5_score 44 = .ok (.invokevirtual 139, 3) := by decide +kernel
theorem dX5_score_47 : decode cX5_score 47 = .ok (.aload_n 0, 1) := by decide +kernel
theorem dX5_score_48 : decode cX5_score 48 = .ok (.iload_n 2, 1) := by decide +kernel
theorem dX5_score_49 : decode cX5_score 49 = .ok (.iload_n 3, 1) := by decide +kernel
theorem dX5_score_50 : decode cX5_score 50 = .ok (.invokevirtual 143, 3) := by decide +kernel
theorem dX5_score_53 : decode cX5_score 53 = .ok (.lreturn, 1) := by decide +kernel
theorem dX5_isApart_0 : decode cX5_isApart 0 = .ok (.iconst 1, 1) := by decide +kernel
theorem dX5_isApart_1 : decode cX5_isApart 1 = .ok (.istore_n 3, 1) := by decide +kernel
theorem dX5_isApart_2 : decode cX5_isApart 2 = .ok (.iconst 0, 1) := by decide +kernel
theorem dX5_isApart_3 : decode cX5_isApart 3 = .ok (.istore 4, 2) := by decide +kernel
theorem dX5_isApart_5 : decode cX5_isApart 5 = .ok (.iload 4, 2) := by decide +kernel
theorem dX5_isApart_7 : decode cX5_isApart 7 = .ok (.aload_n 0, 1) := by decide +kernel
theorem dX5_isApart_8 : decode cX5_isApart 8 = .ok (.getfield 55, 3) := by decide +kernel
theorem dX5_isApart_11 : decode cX5_isApart 11 = .ok (.if_icmp .ge 63, 3) := by decide +kernel
theorem dX5_isApart_14 : decode cX5_isApart 14 = .ok (.aload_n 0, 1) := by decide +kernel
theorem dX5_isApart_15 : decode cX5_isApart 15 = .ok (.getfield 26, 3) := by decide +kernel
theorem dX5_isApart_18 : decode cX5_isApart 18 = .ok (.iload 4, 2) := by decide +kernel
theorem dX5_isApart_20 : decode cX5_isApart 20 = .ok (.iaload, 1) := by decide +kernel
theorem dX5_isApart_21 : decode cX5_isApart 21 = .ok (.aload_n 0, 1) := by decide +kernel
theorem dX5_isApart_22 : decode cX5_isApart 22 = .ok (.getfield 29, 3) := by decide +kernel
theorem dX5_isApart_25 : decode cX5_isApart 25 = .ok (.iload 4, 2) := by decide +kernel
theorem dX5_isApart_27 : decode cX5_isApart 27 = .ok (.iaload, 1) := by decide +kernel
theorem dX5_isApart_28 : decode cX5_isApart 28 = .ok (.iadd, 1) := by decide +kernel
theorem dX5_isApart_29 : decode cX5_isApart 29 = .ok (.iconst 1, 1) := by decide +kernel
theorem dX5_isApart_30 : decode cX5_isApart 30 = .ok (.isub, 1) := by decide +kernel
theorem dX5_isApart_31 : decode cX5_isApart 31 = .ok (.aload_n 0, 1) := by decide +kernel
theorem dX5_isApart_32 : decode cX5_isApart 32 = .ok (.getfield 23, 3) := by decide +kernel
theorem dX5_isApart_35 : decode cX5_isApart 35 = .ok (.iload 4, 2) := by decide +kernel
theorem dX5_isApart_37 : decode cX5_isApart 37 = .ok (.iaload, 1) := by decide +kernel
theorem dX5_isApart_38 : decode cX5_isApart 38 = .ok (.iadd, 1) := by decide +kernel
theorem dX5_isApart_39 : decode cX5_isApart 39 = .ok (.istore 5, 2) := by decide +kernel
theorem dX5_isApart_41 : decode cX5_isApart 41 = .ok (.iload_n 3, 1) := by decide +kernel
theorem dX5_isApart_42 : decode cX5_isApart 42 = .ok (.ifCond .eq 24, 3) := by decide +kernel
theorem dX5_isApart_45 : decode cX5_isApart 45 = .ok (.iload_n 2, 1) := by decide +kernel
theorem dX5_isApart_46 : decode cX5_isApart 46 = .ok (.aload_n 0, 1) := by decide +kernel
theorem dX5_isApart_47 : decode cX5_isApart 47 = .ok (.getfield 26, 3) := by decide +kernel
theorem dX5_isApart_50 : decode cX5_isApart 50 = .ok (.iload 4, 2) := by decide +kernel
theorem dX5_isApart_52 : decode cX5_isApart 52 = .ok (.iaload, 1) := by decide +kernel
theorem dX5_isApart_53 : decode cX5_isApart 53 = .ok (.if_icmp .lt 9, 3) := by decide +kernel
theorem dX5_isApart_56 : decode cX5_isApart 56 = .ok (.iload_n 1, 1) := by decide +kernel
theorem dX5_isApart_57 : decode cX5_isApart 57 = .ok (.iload 5, 2) := by decide +kernel
theorem dX5_isApart_59 : decode cX5_isApart 59 = .ok (.if_icmp .le 7, 3) := by decide +kernel
theorem dX5_isApart_62 : decode cX5_isApart 62 = .ok (.iconst 1, 1) := by decide +kernel
theorem dX5_isApart_63 : decode cX5_isApart 63 = .ok (.goto 4, 3) := by decide +kernel
theorem dX5_isApart_66 : decode cX5_isApart 66 = .ok (.iconst 0, 1) := by decide +kernel
theorem dX5_isApart_67 : decode cX5_isApart 67 = .ok (.istore_n 3, 1) := by decide +kernel
theorem dX5_isApart_68 : decode cX5_isApart 68 = .ok (.iinc 4 1, 3) := by decide +kernel
theorem dX5_isApart_71 : decode cX5_isApart 71 = .ok (.goto (-66), 3) := by decide +kernel
theorem dX5_isApart_74 : decode cX5_isApart 74 = .ok (.iload_n 3, 1) := by decide +kernel
theorem dX5_isApart_75 : decode cX5_isApart 75 = .ok (.ireturn, 1) := by decide +kernel
theorem dX5_lookThrough_0 : decode cX5_lookThrough 0 = .ok (.aload_n 0, 1) := by decide +kernel
theorem dX5_lookThrough_1 : decode cX5_lookThrough 1 = .ok (.iload_n 1, 1) := by decide +kernel
theorem dX5_lookThrough_2 : decode cX5_lookThrough 2 = .ok (.invokevirtual 139, 3) := by decide +kernel
theorem dX5_lookThrough_5 : decode cX5_lookThrough 5 = .ok (.iconst 0, 1) := by decide +kernel
theorem dX5_lookThrough_6 : decode cX5_lookThrough 6 = .ok (.istore 5, 2) := by decide +kernel
theorem dX5_lookThrough_8 : decode cX5_lookThrough 8 = .ok (.iload 5, 2) := by decide +kernel
theorem dX5_lookThrough_10 : decode cX5_lookThrough 10 = .ok (.aload_n 0, 1) := by decide +kernel
theorem dX5_lookThrough_11 : decode cX5_lookThrough 11 = .ok (.iload_n 1, 1) := by decide +kernel
theorem dX5_lookThrough_12 : decode cX5_lookThrough 12 = .ok (.invokevirtual 111, 3) := by decide +kernel
theorem dX5_lookThrough_15 : decode cX5_lookThrough 15 = .ok (.if_icmp .ge 130, 3) := by decide +kernel
theorem dX5_lookThrough_18 : decode cX5_lookThrough 18 = .ok (.iconst 1, 1) := by decide +kernel
theorem dX5_lookThrough_19 : decode cX5_lookThrough 19 = .ok (.istore 6, 2) := by decide +kernel
theorem dX5_lookThrough_21 : decode cX5_lookThrough 21 = .ok (.iload 6, 2) := by decide +kernel
theorem dX5_lookThrough_23 : decode cX5_lookThrough 23 = .ok (.iload 4, 2) := by decide +kernel
theorem dX5_lookThrough_25 : decode cX5_lookThrough 25 = .ok (.if_icmp .gt 114, 3) := by decide +kernel
theorem dX5_lookThrough_28 : decode cX5_lookThrough 28 = .ok (.aload_n 0, 1) := by decide +kernel
theorem dX5_lookThrough_29 : decode cX5_lookThrough 29 = .ok (.iload_n 1, 1) := by decide +kernel
theorem dX5_lookThrough_30 : decode cX5_lookThrough 30 = .ok (.iload 5, 2) := by decide +kernel
theorem dX5_lookThrough_32 : decode cX5_lookThrough 32 = .ok (.iload 6, 2) := by decide +kernel
theorem dX5_lookThrough_34 : decode cX5_lookThrough 34 = .ok (.invokevirtual 114, 3) := by decide +kernel
theorem dX5_lookThrough_37 : decode cX5_lookThrough 37 = .ok (.ifCond .eq 102, 3) := by decide +kernel
theorem dX5_lookThrough_40 : decode cX5_lookThrough 40 = .ok (.aload_n 0, 1) := by decide +kernel
theorem dX5_lookThrough_41 : decode cX5_lookThrough 41 = .ok (.iload 5, 2) := by decide +kernel
theorem dX5_lookThrough_43 : decode cX5_lookThrough 43 = .ok (.iload 6, 2) := by decide +kernel
theorem dX5_lookThrough_45 : decode cX5_lookThrough 45 = .ok (.invokevirtual 143, 3) := by decide +kernel
theorem dX5_lookThrough_48 : decode cX5_lookThrough 48 = .ok (.lstore 7, 2) := by decide +kernel
theorem dX5_lookThrough_50 : decode cX5_lookThrough 50 = .ok (.lload 7, 2) := by decide +kernel
theorem dX5_lookThrough_52 : decode cX5_lookThrough 52 = .ok (.lload_n 2, 1) := by decide +kernel
theorem dX5_lookThrough_53 : decode cX5_lookThrough 53 = .ok (.lcmp, 1) := by decide +kernel
theorem dX5_lookThrough_54 : decode cX5_lookThrough 54 = .ok (.ifCond .lt 79, 3) := by decide +kernel
theorem dX5_lookThrough_57 : decode cX5_lookThrough 57 = .ok (.lload 7, 2) := by decide +kernel
theorem dX5_lookThrough_59 : decode cX5_lookThrough 59 = .ok (.aload_n 0, 1) := by decide +kernel
theorem dX5_lookThrough_60 : decode cX5_lookThrough 60 = .ok (.getfield 32, 3) := by decide +kernel
theorem dX5_lookThrough_63 : decode cX5_lookThrough 63 = .ok (.aload_n 0, 1) := by decide +kernel
theorem dX5_lookThrough_64 : decode cX5_lookThrough 64 = .ok (.getfield 55, 3) := by decide +kernel
theorem dX5_lookThrough_67 : decode cX5_lookThrough 67 = .ok (.laload, 1) := by decide +kernel
theorem dX5_lookThrough_68 : decode cX5_lookThrough 68 = .ok (.lcmp, 1) := by decide +kernel
theorem dX5_lookThrough_69 : decode cX5_lookThrough 69 = .ok (.ifCond .le 64, 3) := by decide +kernel
theorem dX5_lookThrough_72 : decode cX5_lookThrough 72 = .ok (.aload_n 0, 1) := by decide +kernel
theorem dX5_lookThrough_73 : decode cX5_lookThrough 73 = .ok (.iload 5, 2) := by decide +kernel
theorem dX5_lookThrough_75 : decode cX5_lookThrough 75 = .ok (.iload 5, 2) := by decide +kernel
theorem dX5_lookThrough_77 : decode cX5_lookThrough 77 = .ok (.iload 6, 2) := by decide +kernel
theorem dX5_lookThrough_79 : decode cX5_lookThrough 79 = .ok (.iadd, 1) := by decide +kernel
theorem dX5_lookThrough_80 : decode cX5_lookThrough 80 = .ok (.iconst 1, 1) := by decide +kernel
theorem dX5_lookThrough_81 : decode cX5_lookThrough 81 = .ok (.isub, 1) := by decide +kernel
theorem dX5_lookThrough_82 : decode cX5_lookThrough 82 = .ok (.iload_n 1, 1) := by decide +kernel
theorem dX5_lookThrough_83 : decode cX5_lookThrough 83 = .ok (.iadd, 1) := by decide +kernel
theorem dX5_lookThrough_84 : decode cX5_lookThrough 84 = .ok (.invokevirtual 147, 3) := by decide +kernel
theorem dX5_lookThrough_87 : decode cX5_lookThrough 87 = .ok (.ifCond .eq 46, 3) := by decide +kernel
theorem dX5_lookThrough_90 : decode cX5_lookThrough 90 = .ok (.aload_n 0, 1) := by decide +kernel
theorem dX5_lookThrough_91 : decode cX5_lookThrough 91 = .ok (.getfield 23, 3) := by decide +kernel
theorem dX5_lookThrough_94 : decode cX5_lookThrough 94 = .ok (.aload_n 0, 1) := by decide +kernel
theorem dX5_lookThrough_95 : decode cX5_lookThrough 95 = .ok (.getfield 55, 3) := by decide +kernel
theorem dX5_lookThrough_98 : decode cX5_lookThrough 98 = .ok (.iload_n 1, 1) := by decide +kernel
theorem dX5_lookThrough_99 : decode cX5_lookThrough 99 = .ok (.iastore, 1) := by decide +kernel
theorem dX5_lookThrough_100 : decode cX5_lookThrough 100 = .ok (.aload_n 0, 1) := by decide +kernel
theorem dX5_lookThrough_101 : decode cX5_lookThrough 101 = .ok (.getfield 26, 3) := by decide +kernel
theorem dX5_lookThrough_104 : decode cX5_lookThrough 104 = .ok (.aload_n 0, 1) := by decide +kernel
theorem dX5_lookThrough_105 : decode cX5_lookThrough 105 = .ok (.getfield 55, 3) := by decide +kernel
theorem dX5_lookThrough_108 : decode cX5_lookThrough 108 = .ok (.iload 5, 2) := by decide +kernel
theorem dX5_lookThrough_110 : decode cX5_lookThrough 110 = .ok (.iastore, 1) := by decide +kernel
theorem dX5_lookThrough_111 : decode cX5_lookThrough 111 = .ok (.aload_n 0, 1) := by decide +kernel
theorem dX5_lookThrough_112 : decode cX5_lookThrough 112 = .ok (.getfield 29, 3) := by decide +kernel
theorem dX5_lookThrough_115 : decode cX5_lookThrough 115 = .ok (.aload_n 0, 1) := by decide +kernel
theorem dX5_lookThrough_116 : decode cX5_lookThrough 116 = .ok (.getfield 55, 3) := by decide +kernel
theorem dX5_lookThrough_119 : decode cX5_lookThrough 119 = .ok (.iload 6, 2) := by decide +kernel
theorem dX5_lookThrough_121 : decode cX5_lookThrough 121 = .ok (.iastore, 1) := by decide +kernel
theorem dX5_lookThrough_122 : decode cX5_lookThrough 122 = .ok (.aload_n 0, 1) := by decide +kernel
theorem dX5_lookThrough_123 : decode cX5_lookThrough 123 = .ok (.getfield 32, 3) := by decide +kernel
theorem dX5_lookThrough_126 : decode cX5_lookThrough 126 = .ok (.aload_n 0, 1) := by decide +kernel
theorem dX5_lookThrough_127 : decode cX5_lookThrough 127 = .ok (.getfield 55, 3) := by decide +kernel
theorem dX5_lookThrough_130 : decode cX5_lookThrough 130 = .ok (.lload 7, 2) := by decide +kernel
theorem dX5_lookThrough_132 : decode cX5_lookThrough 132 = .ok (.lastore, 1) := by decide +kernel
theorem dX5_lookThrough_133 : decode cX5_lookThrough 133 = .ok (.iinc 6 1, 3) := by decide +kernel
theorem dX5_lookThrough_136 : decode cX5_lookThrough 136 = .ok (.goto (-115), 3) := by decide +kernel
theorem dX5_lookThrough_139 : decode cX5_lookThrough 139 = .ok (.iinc 5 1, 3) := by decide +kernel
theorem dX5_lookThrough_142 : decode cX5_lookThrough 142 = .ok (.goto (-134), 3) := by decide +kernel
theorem dX5_lookThrough_145 : decode cX5_lookThrough 145 = .ok (.return_, 1) := by decide +kernel
theorem dX5_findNext_0 : decode cX5_findNext 0 = .ok (.aload_n 0, 1) := by decide +kernel
theorem dX5_findNext_1 : decode cX5_findNext 1 = .ok (.getfield 32, 3) := by decide +kernel
theorem dX5_findNext_4 : decode cX5_findNext 4 = .ok (.aload_n 0, 1) := by decide +kernel
theorem dX5_findNext_5 : decode cX5_findNext 5 = .ok (.getfield 55, 3) := by decide +kernel
theorem dX5_findNext_8 : decode cX5_findNext 8 = .ok (.lconst 0, 1) := by decide +kernel
theorem dX5_findNext_9 : decode cX5_findNext 9 = .ok (.lastore, 1) := by decide +kernel
theorem dX5_findNext_10 : decode cX5_findNext 10 = .ok (.iconst 0, 1) := by decide +kernel
theorem dX5_findNext_11 : decode cX5_findNext 11 = .ok (.istore 4, 2) := by decide +kernel
theorem dX5_findNext_13 : decode cX5_findNext 13 = .ok (.iload 4, 2) := by decide +kernel
theorem dX5_findNext_15 : decode cX5_findNext 15 = .ok (.aload_n 0, 1) := by decide +kernel
theorem dX5_findNext_16 : decode cX5_findNext 16 = .ok (.getfield 7, 3) := by decide +kernel
theorem dX5_findNext_19 : decode cX5_findNext 19 = .ok (.if_icmp .ge 17, 3) := by decide +kernel
theorem dX5_findNext_22 : decode cX5_findNext 22 = .ok (.aload_n 0, 1) := by decide +kernel
theorem dX5_findNext_23 : decode cX5_findNext 23 = .ok (.iload 4, 2) := by decide +kernel
theorem dX5_findNext_25 : decode cX5_findNext 25 = .ok (.lload_n 1, 1) := by decide +kernel
theorem dX5_findNext_26 : decode cX5_findNext 26 = .ok (.iload_n 3, 1) := by decide +kernel
theorem dX5_findNext_27 : decode cX5_findNext 27 = .ok (.invokevirtual 151, 3) := by decide +kernel
theorem dX5_findNext_30 : decode cX5_findNext 30 = .ok (.iinc 4 1, 3) := by decide +kernel
theorem dX5_findNext_33 : decode cX5_findNext 33 = .ok (.goto (-20), 3) := by decide +kernel
theorem dX5_findNext_36 : decode cX5_findNext 36 = .ok (.aload_n 0, 1) := by decide +kernel
theorem dX5_findNext_37 : decode cX5_findNext 37 = .ok (.getfield 32, 3) := by decide +kernel
theorem dX5_findNext_40 : decode cX5_findNext 40 = .ok (.aload_n 0, 1) := by decide +kernel
theorem dX5_findNext_41 : decode cX5_findNext 41 = .ok (.getfield 55, 3) := by decide +kernel
theorem dX5_findNext_44 : decode cX5_findNext 44 = .ok (.laload, 1) := by decide +kernel
theorem dX5_findNext_45 : decode cX5_findNext 45 = .ok (.lconst 0, 1) := by decide +kernel
theorem dX5_findNext_46 : decode cX5_findNext 46 = .ok (.lcmp, 1) := by decide +kernel
theorem dX5_findNext_47 : decode cX5_findNext 47 = .ok (.ifCond .le 7, 3) := by decide +kernel
theorem dX5_findNext_50 : decode cX5_findNext 50 = .ok (.iconst 1, 1) := by decide +kernel
theorem dX5_findNext_51 : decode cX5_findNext 51 = .ok (.goto 4, 3) := by decide +kernel
theorem dX5_findNext_54 : decode cX5_findNext 54 = .ok (.iconst 0, 1) := by decide +kernel
theorem dX5_findNext_55 : decode cX5_findNext 55 = .ok (.ireturn, 1) := by decide +kernel
theorem dX5_find_0 : decode cX5_find 0 = .ok (.aload_n 0, 1) := by decide +kernel
theorem dX5_find_1 : decode cX5_find 1 = .ok (.lload_n 1, 1) := by decide +kernel
theorem dX5_find_2 : decode cX5_find 2 = .ok (.lconst 0, 1) := by decide +kernel
theorem dX5_find_3 : decode cX5_find 3 = .ok (.lcmp, 1) := by decide +kernel
theorem dX5_find_4 : decode cX5_find 4 = .ok (.ifCond .lt 17, 3) := by decide +kernel
theorem dX5_find_7 : decode cX5_find 7 = .ok (.iload_n 3, 1) := by decide +kernel
theorem dX5_find_8 : decode cX5_find 8 = .ok (.iconst 1, 1) := by decide +kernel
theorem dX5_find_9 : decode cX5_find 9 = .ok (.bipush 8, 2) := by decide +kernel
theorem dX5_find_11 : decode cX5_find 11 = .ok (.invokestatic 42, 3) := by decide +kernel
theorem dX5_find_14 : decode cX5_find 14 = .ok (.ifCond .eq 7, 3) := by decide +kernel
theorem dX5_find_17 : decode cX5_find 17 = .ok (.iconst 0, 1) := by decide +kernel
theorem dX5_find_18 : decode cX5_find 18 = .ok (.goto 4, 3) := by decide +kernel
theorem dX5_find_21 : decode cX5_find 21 = .ok (.iconst 1, 1) := by decide +kernel
theorem dX5_find_22 : decode cX5_find 22 = .ok (.putfield 39, 3) := by decide +kernel
theorem dX5_find_25 : decode cX5_find 25 = .ok (.aload_n 0, 1) := by decide +kernel
theorem dX5_find_26 : decode cX5_find 26 = .ok (.getfield 39, 3) := by decide +kernel
theorem dX5_find_29 : decode cX5_find 29 = .ok (.ifCond .le 5, 3) := by decide +kernel
theorem dX5_find_32 : decode cX5_find 32 = .ok (.iconst 0, 1) := by decide +kernel
theorem dX5_find_33 : decode cX5_find 33 = .ok (.ireturn, 1) := by decide +kernel
theorem dX5_find_34 : decode cX5_find 34 = .ok (.aload_n 0, 1) := by decide +kernel
theorem dX5_find_35 : decode cX5_find 35 = .ok (.iconst 0, 1) := by decide +kernel
theorem dX5_find_36 : decode cX5_find 36 = .ok (.putfield 55, 3) := by decide +kernel
theorem dX5_find_39 : decode cX5_find 39 = .ok (.aload_n 0, 1) := by decide +kernel
theorem dX5_find_40 : decode cX5_find 40 = .ok (.getfield 55, 3) := by decide +kernel
theorem dX5_find_43 : decode cX5_find 43 = .ok (.bipush 8, 2) := by decide +kernel
theorem dX5_find_45 : decode cX5_find 45 = .ok (.if_icmp .ge 25, 3) := by decide +kernel
theorem dX5_find_48 : decode cX5_find 48 = .ok (.aload_n 0, 1) := by decide +kernel
theorem dX5_find_49 : decode cX5_find 49 = .ok (.lload_n 1, 1) := by decide +kernel
theorem dX5_find_50 : decode cX5_find 50 = .ok (.iload_n 3, 1) := by decide +kernel
theorem dX5_find_51 : decode cX5_find 51 = .ok (.invokevirtual 155, 3) := by decide +kernel
theorem dX5_find_54 : decode cX5_find 54 = .ok (.ifCond .eq 16, 3) := by decide +kernel
theorem dX5_find_57 : decode cX5_find 57 = .ok (.aload_n 0, 1) := by decide +kernel
theorem dX5_find_58 : decode cX5_find 58 = .ok (.dup, 1) := by decide +kernel
theorem dX5_find_59 : decode cX5_find 59 = .ok (.getfield 55, 3) := by decide +kernel
theorem dX5_find_62 : decode cX5_find 62 = .ok (.iconst 1, 1) := by decide +kernel
theorem dX5_find_63 : decode cX5_find 63 = .ok (.iadd, 1) := by decide +kernel
theorem dX5_find_64 : decode cX5_find 64 = .ok (.putfield 55, 3) := by decide +kernel
theorem dX5_find_67 : decode cX5_find 67 = .ok (.goto (-28), 3) := by decide +kernel
theorem dX5_find_70 : decode cX5_find 70 = .ok (.aload_n 0, 1) := by decide +kernel
theorem dX5_find_71 : decode cX5_find 71 = .ok (.getfield 55, 3) := by decide +kernel
theorem dX5_find_74 : decode cX5_find 74 = .ok (.ireturn, 1) := by decide +kernel
theorem dX5_told_0 : decode cX5_told 0 = .ok (.iload_n 2, 1) := by decide +kernel
theorem dX5_told_1 : decode cX5_told 1 = .ok (.tableswitch 62 0 3 #[31, 39, 47, 55], 31) := by decide +kernel
theorem dX5_told_32 : decode cX5_told 32 = .ok (.aload_n 0, 1) := by decide +kernel
theorem dX5_told_33 : decode cX5_told 33 = .ok (.getfield 23, 3) := by decide +kernel
theorem dX5_told_36 : decode cX5_told 36 = .ok (.iload_n 1, 1) := by decide +kernel
theorem dX5_told_37 : decode cX5_told 37 = .ok (.iaload, 1) := by decide +kernel
theorem dX5_told_38 : decode cX5_told 38 = .ok (.i2l, 1) := by decide +kernel
theorem dX5_told_39 : decode cX5_told 39 = .ok (.lreturn, 1) := by decide +kernel
theorem dX5_told_40 : decode cX5_told 40 = .ok (.aload_n 0, 1) := by decide +kernel
theorem dX5_told_41 : decode cX5_told 41 = .ok (.getfield 26, 3) := by decide +kernel
theorem dX5_told_44 : decode cX5_told 44 = .ok (.iload_n 1, 1) := by decide +kernel
theorem dX5_told_45 : decode cX5_told 45 = .ok (.iaload, 1) := by decide +kernel
theorem dX5_told_46 : decode cX5_told 46 = .ok (.i2l, 1) := by decide +kernel
theorem dX5_told_47 : decode cX5_told 47 = .ok (.lreturn, 1) := by decide +kernel
theorem dX5_told_48 : decode cX5_told 48 = .ok (.aload_n 0, 1) := by decide +kernel
theorem dX5_told_49 : decode cX5_told 49 = .ok (.getfield 29, 3) := by decide +kernel
theorem dX5_told_52 : decode cX5_told 52 = .ok (.iload_n 1, 1) := by decide +kernel
theorem dX5_told_53 : decode cX5_told 53 = .ok (.iaload, 1) := by decide +kernel
theorem dX5_told_54 : decode cX5_told 54 = .ok (.i2l, 1) := by decide +kernel
theorem dX5_told_55 : decode cX5_told 55 = .ok (.lreturn, 1) := by decide +kernel
theorem dX5_told_56 : decode cX5_told 56 = .ok (.aload_n 0, 1) := by decide +kernel
theorem dX5_told_57 : decode cX5_told 57 = .ok (.getfield 32, 3) := by decide +kernel
theorem dX5_told_60 : decode cX5_told 60 = .ok (.iload_n 1, 1) := by decide +kernel
theorem dX5_told_61 : decode cX5_told 61 = .ok (.laload, 1) := by decide +kernel
theorem dX5_told_62 : decode cX5_told 62 = .ok (.lreturn, 1) := by decide +kernel
theorem dX5_told_63 : decode cX5_told 63 = .ok (.aload_n 0, 1) := by decide +kernel
theorem dX5_told_64 : decode cX5_told 64 = .ok (.getfield 26, 3) := by decide +kernel
theorem dX5_told_67 : decode cX5_told 67 = .ok (.iload_n 1, 1) := by decide +kernel
theorem dX5_told_68 : decode cX5_told 68 = .ok (.iaload, 1) := by decide +kernel
theorem dX5_told_69 : decode cX5_told 69 = .ok (.aload_n 0, 1) := by decide +kernel
theorem dX5_told_70 : decode cX5_told 70 = .ok (.getfield 49, 3) := by decide +kernel
theorem dX5_told_73 : decode cX5_told 73 = .ok (.iadd, 1) := by decide +kernel
theorem dX5_told_74 : decode cX5_told 74 = .ok (.i2l, 1) := by decide +kernel
theorem dX5_told_75 : decode cX5_told 75 = .ok (.lreturn, 1) := by decide +kernel
theorem dX5_candidate_0 : decode cX5_candidate 0 = .ok (.aload_n 0, 1) := by decide +kernel
theorem dX5_candidate_1 : decode cX5_candidate 1 = .ok (.iload_n 1, 1) := by decide +kernel
theorem dX5_candidate_2 : decode cX5_candidate 2 = .ok (.iconst 0, 1) := by decide +kernel
theorem dX5_candidate_3 : decode cX5_candidate 3 = .ok (.aload_n 0, 1) := by decide +kernel
theorem dX5_candidate_4 : decode cX5_candidate 4 = .ok (.getfield 55, 3) := by decide +kernel
theorem dX5_candidate_7 : decode cX5_candidate 7 = .ok (.iconst 1, 1) := by decide +kernel
theorem dX5_candidate_8 : decode cX5_candidate 8 = .ok (.isub, 1) := by decide +kernel
theorem dX5_candidate_9 : decode cX5_candidate 9 = .ok (.invokestatic 42, 3) := by decide +kernel
theorem dX5_candidate_12 : decode cX5_candidate 12 = .ok (.ifCond .ne 7, 3) := by decide +kernel
theorem dX5_candidate_15 : decode cX5_candidate 15 = .ok (.iconst 1, 1) := by decide +kernel
theorem dX5_candidate_16 : decode cX5_candidate 16 = .ok (.goto 17, 3) := by decide +kernel
theorem dX5_candidate_19 : decode cX5_candidate 19 = .ok (.iload_n 2, 1) := by decide +kernel
theorem dX5_candidate_20 : decode cX5_candidate 20 = .ok (.iconst 0, 1) := by decide +kernel
theorem dX5_candidate_21 : decode cX5_candidate 21 = .ok (.iconst 4, 1) := by decide +kernel
theorem dX5_candidate_22 : decode cX5_candidate 22 = .ok (.invokestatic 42, 3) := by decide +kernel
theorem dX5_candidate_25 : decode cX5_candidate 25 = .ok (.ifCond .eq 7, 3) := by decide +kernel
theorem dX5_candidate_28 : decode cX5_candidate 28 = .ok (.iconst 0, 1) := by decide +kernel
theorem dX5_candidate_29 : decode cX5_candidate 29 = .ok (.goto 4, 3) := by decide +kernel
theorem dX5_candidate_32 : decode cX5_candidate 32 = .ok (.iconst 2, 1) := by decide +kernel
theorem dX5_candidate_33 : decode cX5_candidate 33 = .ok (.putfield 39, 3) := by decide +kernel
theorem dX5_candidate_36 : decode cX5_candidate 36 = .ok (.aload_n 0, 1) := by decide +kernel
theorem dX5_candidate_37 : decode cX5_candidate 37 = .ok (.getfield 39, 3) := by decide +kernel
theorem dX5_candidate_40 : decode cX5_candidate 40 = .ok (.ifCond .le 7, 3) := by decide +kernel
theorem dX5_candidate_43 : decode cX5_candidate 43 = .ok (.lconst 0, 1) := by decide +kernel
theorem dX5_candidate_44 : decode cX5_candidate 44 = .ok (.goto 9, 3) := by decide +kernel
theorem dX5_candidate_47 : decode cX5_candidate 47 = .ok (.aload_n 0, 1) := by decide +kernel
theorem dX5_candidate_48 : decode cX5_candidate 48 = .ok (.iload_n 1, 1) := by decide +kernel
theorem dX5_candidate_49 : decode cX5_candidate 49 = .ok (.iload_n 2, 1) := by decide +kernel
theorem dX5_candidate_50 : decode cX5_candidate 50 = .ok (.invokevirtual 159, 3) := by decide +kernel
theorem dX5_candidate_53 : decode cX5_candidate 53 = .ok (.lreturn, 1) := by decide +kernel
theorem dX5_candidateAt_0 : decode cX5_candidateAt 0 = .ok (.aload_n 0, 1) := by decide +kernel
theorem dX5_candidateAt_1 : decode cX5_candidateAt 1 = .ok (.aload_n 0, 1) := by decide +kernel
theorem dX5_candidateAt_2 : decode cX5_candidateAt 2 = .ok (.iload_n 1, 1) := by decide +kernel
theorem dX5_candidateAt_3 : decode cX5_candidateAt 3 = .ok (.invokevirtual 96, 3) := by decide +kernel
theorem dX5_candidateAt_6 : decode cX5_candidateAt 6 = .ok (.ifCond .eq 7, 3) := by decide +kernel
theorem dX5_candidateAt_9 : decode cX5_candidateAt 9 = .ok (.iconst 0, 1) := by decide +kernel
theorem dX5_candidateAt_10 : decode cX5_candidateAt 10 = .ok (.goto 4, 3) := by decide +kernel
theorem dX5_candidateAt_13 : decode cX5_candidateAt 13 = .ok (.iconst 1, 1) := by decide +kernel
theorem dX5_candidateAt_14 : decode cX5_candidateAt 14 = .ok (.putfield 39, 3) := by decide +kernel
theorem dX5_candidateAt_17 : decode cX5_candidateAt 17 = .ok (.iconst (-1), 1) := by decide +kernel
theorem dX5_candidateAt_18 : decode cX5_candidateAt 18 = .ok (.istore_n 2, 1) := by decide +kernel
theorem dX5_candidateAt_19 : decode cX5_candidateAt 19 = .ok (.aload_n 0, 1) := by decide +kernel
theorem dX5_candidateAt_20 : decode cX5_candidateAt 20 = .ok (.getfield 55, 3) := by decide +kernel
theorem dX5_candidateAt_23 : decode cX5_candidateAt 23 = .ok (.iconst 1, 1) := by decide +kernel
theorem dX5_candidateAt_24 : decode cX5_candidateAt 24 = .ok (.isub, 1) := by decide +kernel
theorem dX5_candidateAt_25 : decode cX5_candidateAt 25 = .ok (.istore_n 3, 1) := by decide +kernel
theorem dX5_candidateAt_26 : decode cX5_candidateAt 26 = .ok (.iload_n 3, 1) := by decide +kernel
theorem dX5_candidateAt_27 : decode cX5_candidateAt 27 = .ok (.ifCond .lt 61, 3) := by decide +kernel
theorem dX5_candidateAt_30 : decode cX5_candidateAt 30 = .ok (.aload_n 0, 1) := by decide +kernel
theorem dX5_candidateAt_31 : decode cX5_candidateAt 31 = .ok (.getfield 39, 3) := by decide +kernel
theorem dX5_candidateAt_34 : decode cX5_candidateAt 34 = .ok (.ifCond .ne 54, 3) := by decide +kernel
theorem dX5_candidateAt_37 : decode cX5_candidateAt 37 = .ok (.iload_n 1, 1) := by decide +kernel
theorem dX5_candidateAt_38 : decode cX5_candidateAt 38 = .ok (.aload_n 0, 1) := by decide +kernel
theorem dX5_candidateAt_39 : decode cX5_candidateAt 39 = .ok (.getfield 26, 3) := by decide +kernel
theorem dX5_candidateAt_42 : decode cX5_candidateAt 42 = .ok (.iload_n 3, 1) := by decide +kernel
theorem dX5_candidateAt_43 : decode cX5_candidateAt 43 = .ok (.iaload, 1) := by decide +kernel
theorem dX5_candidateAt_44 : decode cX5_candidateAt 44 = .ok (.aload_n 0, 1) := by decide +kernel
theorem dX5_candidateAt_45 : decode cX5_candidateAt 45 = .ok (.getfield 26, 3) := by decide +kernel
theorem dX5_candidateAt_48 : decode cX5_candidateAt 48 = .ok (.iload_n 3, 1) := by decide +kernel
theorem dX5_candidateAt_49 : decode cX5_candidateAt 49 = .ok (.iaload, 1) := by decide +kernel
theorem dX5_candidateAt_50 : decode cX5_candidateAt 50 = .ok (.aload_n 0, 1) := by decide +kernel
theorem dX5_candidateAt_51 : decode cX5_candidateAt 51 = .ok (.getfield 29, 3) := by decide +kernel
theorem dX5_candidateAt_54 : decode cX5_candidateAt 54 = .ok (.iload_n 3, 1) := by decide +kernel
theorem dX5_candidateAt_55 : decode cX5_candidateAt 55 = .ok (.iaload, 1) := by decide +kernel
theorem dX5_candidateAt_56 : decode cX5_candidateAt 56 = .ok (.iadd, 1) := by decide +kernel
theorem dX5_candidateAt_57 : decode cX5_candidateAt 57 = .ok (.iconst 1, 1) := by decide +kernel
theorem dX5_candidateAt_58 : decode cX5_candidateAt 58 = .ok (.isub, 1) := by decide +kernel
theorem dX5_candidateAt_59 : decode cX5_candidateAt 59 = .ok (.aload_n 0, 1) := by decide +kernel
theorem dX5_candidateAt_60 : decode cX5_candidateAt 60 = .ok (.getfield 23, 3) := by decide +kernel
theorem dX5_candidateAt_63 : decode cX5_candidateAt 63 = .ok (.iload_n 3, 1) := by decide +kernel
theorem dX5_candidateAt_64 : decode cX5_candidateAt 64 = .ok (.iaload, 1) := by decide +kernel
theorem dX5_candidateAt_65 : decode cX5_candidateAt 65 = .ok (.iadd, 1) := by decide +kernel
theorem dX5_candidateAt_66 : decode cX5_candidateAt 66 = .ok (.invokestatic 42, 3) := by decide +kernel
theorem dX5_candidateAt_69 : decode cX5_candidateAt 69 = .ok (.istore 4, 2) := by decide +kernel
theorem dX5_candidateAt_71 : decode cX5_candidateAt 71 = .ok (.iload 4, 2) := by decide +kernel
theorem dX5_candidateAt_73 : decode cX5_candidateAt 73 = .ok (.ifCond .eq 7, 3) := by decide +kernel
theorem dX5_candidateAt_76 : decode cX5_candidateAt 76 = .ok (.iload_n 3, 1) := by decide +kernel
theorem dX5_candidateAt_77 : decode cX5_candidateAt 77 = .ok (.goto 4, 3) := by decide +kernel
theorem dX5_candidateAt_80 : decode cX5_candidateAt 80 = .ok (.iload_n 2, 1) := by decide +kernel
theorem dX5_candidateAt_81 : decode cX5_candidateAt 81 = .ok (.istore_n 2, 1) := by decide +kernel
theorem dX5_candidateAt_82 : decode cX5_candidateAt 82 = .ok (.iinc 3 (-1), 3) := by decide +kernel
theorem dX5_candidateAt_85 : decode cX5_candidateAt 85 = .ok (.goto (-59), 3) := by decide +kernel
theorem dX5_candidateAt_88 : decode cX5_candidateAt 88 = .ok (.aload_n 0, 1) := by decide +kernel
theorem dX5_candidateAt_89 : decode cX5_candidateAt 89 = .ok (.getfield 39, 3) := by decide +kernel
theorem dX5_candidateAt_92 : decode cX5_candidateAt 92 = .ok (.ifCond .le 7, 3) := by decide +kernel
theorem dX5_candidateAt_95 : decode cX5_candidateAt 95 = .ok (.iconst 0, 1) := by decide +kernel
theorem dX5_candidateAt_96 : decode cX5_candidateAt 96 = .ok (.goto 4, 3) := by decide +kernel
theorem dX5_candidateAt_99 : decode cX5_candidateAt 99 = .ok (.iload_n 2, 1) := by decide +kernel
theorem dX5_candidateAt_100 : decode cX5_candidateAt 100 = .ok (.ireturn, 1) := by decide +kernel
theorem dX5_mix_0 : decode cX5_mix 0 = .ok (.aload_n 0, 1) := by decide +kernel
theorem dX5_mix_1 : decode cX5_mix 1 = .ok (.ldc2_w 162, 3) := by decide +kernel
theorem dX5_mix_4 : decode cX5_mix 4 = .ok (.aload_n 0, 1) := by decide +kernel
theorem dX5_mix_5 : decode cX5_mix 5 = .ok (.getfield 164, 3) := by decide +kernel
theorem dX5_mix_8 : decode cX5_mix 8 = .ok (.lmul, 1) := by decide +kernel
theorem dX5_mix_9 : decode cX5_mix 9 = .ok (.lload_n 1, 1) := by decide +kernel
theorem dX5_mix_10 : decode cX5_mix 10 = .ok (.ladd, 1) := by decide +kernel
theorem dX5_mix_11 : decode cX5_mix 11 = .ok (.putfield 164, 3) := by decide +kernel
theorem dX5_mix_14 : decode cX5_mix 14 = .ok (.return_, 1) := by decide +kernel
theorem dX5_mixData_0 : decode cX5_mixData 0 = .ok (.iconst 0, 1) := by decide +kernel
theorem dX5_mixData_1 : decode cX5_mixData 1 = .ok (.istore_n 1, 1) := by decide +kernel
theorem dX5_mixData_2 : decode cX5_mixData 2 = .ok (.iload_n 1, 1) := by decide +kernel
theorem dX5_mixData_3 : decode cX5_mixData 3 = .ok (.aload_n 0, 1) := by decide +kernel
theorem dX5_mixData_4 : decode cX5_mixData 4 = .ok (.getfield 7, 3) := by decide +kernel
theorem dX5_mixData_7 : decode cX5_mixData 7 = .ok (.if_icmp .ge 47, 3) := by decide +kernel
theorem dX5_mixData_10 : decode cX5_mixData 10 = .ok (.aload_n 0, 1) := by decide +kernel
theorem dX5_mixData_11 : decode cX5_mixData 11 = .ok (.aload_n 0, 1) := by decide +kernel
theorem dX5_mixData_12 : decode cX5_mixData 12 = .ok (.iload_n 1, 1) := by decide +kernel
theorem dX5_mixData_13 : decode cX5_mixData 13 = .ok (.invokevirtual 105, 3) := by decide +kernel
theorem dX5_mixData_16 : decode cX5_mixData 16 = .ok (.ifCond .eq 7, 3) := by decide +kernel
theorem dX5_mixData_19 : decode cX5_mixData 19 = .ok (.lconst 1, 1) := by decide +kernel
theorem dX5_mixData_20 : decode cX5_mixData 20 = .ok (.goto 4, 3) := by decide +kernel
theorem dX5_mixData_23 : decode cX5_mixData 23 = .ok (.lconst 0, 1) := by decide +kernel
theorem dX5_mixData_24 : decode cX5_mixData 24 = .ok (.invokevirtual 167, 3) := by decide +kernel
theorem dX5_mixData_27 : decode cX5_mixData 27 = .ok (.aload_n 0, 1) := by decide +kernel
theorem dX5_mixData_28 : decode cX5_mixData 28 = .ok (.aload_n 0, 1) := by decide +kernel
theorem dX5_mixData_29 : decode cX5_mixData 29 = .ok (.iload_n 1, 1) := by decide +kernel
theorem dX5_mixData_30 : decode cX5_mixData 30 = .ok (.invokevirtual 108, 3) := by decide +kernel
theorem dX5_mixData_33 : decode cX5_mixData 33 = .ok (.i2l, 1) := by decide +kernel
theorem dX5_mixData_34 : decode cX5_mixData 34 = .ok (.invokevirtual 167, 3) := by decide +kernel
theorem dX5_mixData_37 : decode cX5_mixData 37 = .ok (.aload_n 0, 1) := by decide +kernel
theorem dX5_mixData_38 : decode cX5_mixData 38 = .ok (.aload_n 0, 1) := by decide +kernel
theorem dX5_mixData_39 : decode cX5_mixData 39 = .ok (.getfield 13, 3) := by decide +kernel
theorem dX5_mixData_42 : decode cX5_mixData 42 = .ok (.iload_n 1, 1) := by decide +kernel
theorem dX5_mixData_43 : decode cX5_mixData 43 = .ok (.iaload, 1) := by decide +kernel
theorem dX5_mixData_44 : decode cX5_mixData 44 = .ok (.i2l, 1) := by decide +kernel
theorem dX5_mixData_45 : decode cX5_mixData 45 = .ok (.invokevirtual 167, 3) := by decide +kernel
theorem dX5_mixData_48 : decode cX5_mixData 48 = .ok (.iinc 1 1, 3) := by decide +kernel
theorem dX5_mixData_51 : decode cX5_mixData 51 = .ok (.goto (-49), 3) := by decide +kernel
theorem dX5_mixData_54 : decode cX5_mixData 54 = .ok (.iconst 0, 1) := by decide +kernel
theorem dX5_mixData_55 : decode cX5_mixData 55 = .ok (.istore_n 1, 1) := by decide +kernel
theorem dX5_mixData_56 : decode cX5_mixData 56 = .ok (.iload_n 1, 1) := by decide +kernel
theorem dX5_mixData_57 : decode cX5_mixData 57 = .ok (.bipush 16, 2) := by decide +kernel
theorem dX5_mixData_59 : decode cX5_mixData 59 = .ok (.aload_n 0, 1) := by decide +kernel
theorem dX5_mixData_60 : decode cX5_mixData 60 = .ok (.getfield 46, 3) := by decide +kernel
theorem dX5_mixData_63 : decode cX5_mixData 63 = .ok (.imul, 1) := by decide +kernel
theorem dX5_mixData_64 : decode cX5_mixData 64 = .ok (.if_icmp .ge 31, 3) := by decide +kernel
theorem dX5_mixData_67 : decode cX5_mixData 67 = .ok (.iload_n 1, 1) := by decide +kernel
theorem dX5_mixData_68 : decode cX5_mixData 68 = .ok (.bipush 16, 2) := by decide +kernel
theorem dX5_mixData_70 : decode cX5_mixData 70 = .ok (.irem, 1) := by decide +kernel
theorem dX5_mixData_71 : decode cX5_mixData 71 = .ok (.aload_n 0, 1) := by decide +kernel
theorem dX5_mixData_72 : decode cX5_mixData 72 = .ok (.getfield 7, 3) := by decide +kernel
theorem dX5_mixData_75 : decode cX5_mixData 75 = .ok (.if_icmp .ge 14, 3) := by decide +kernel
theorem dX5_mixData_78 : decode cX5_mixData 78 = .ok (.aload_n 0, 1) := by decide +kernel
theorem dX5_mixData_79 : decode cX5_mixData 79 = .ok (.aload_n 0, 1) := by decide +kernel
theorem dX5_mixData_80 : decode cX5_mixData 80 = .ok (.getfield 17, 3) := by decide +kernel
theorem dX5_mixData_83 : decode cX5_mixData 83 = .ok (.iload_n 1, 1) := by decide +kernel
theorem dX5_mixData_84 : decode cX5_mixData 84 = .ok (.iaload, 1) := by decide +kernel
theorem dX5_mixData_85 : decode cX5_mixData 85 = .ok (.i2l, 1) := by decide +kernel
theorem dX5_mixData_86 : decode cX5_mixData 86 = .ok (.invokevirtual 167, 3) := by decide +kernel
theorem dX5_mixData_89 : decode cX5_mixData 89 = .ok (.iinc 1 1, 3) := by decide +kernel
theorem dX5_mixData_92 : decode cX5_mixData 92 = .ok (.goto (-36), 3) := by decide +kernel
theorem dX5_mixData_95 : decode cX5_mixData 95 = .ok (.iconst 0, 1) := by decide +kernel
theorem dX5_mixData_96 : decode cX5_mixData 96 = .ok (.istore_n 1, 1) := by decide +kernel
theorem dX5_mixData_97 : decode cX5_mixData 97 = .ok (.iload_n 1, 1) := by decide +kernel
theorem dX5_mixData_98 : decode cX5_mixData 98 = .ok (.aload_n 0, 1) := by decide +kernel
theorem dX5_mixData_99 : decode cX5_mixData 99 = .ok (.getfield 7, 3) := by decide +kernel
theorem dX5_mixData_102 : decode cX5_mixData 102 = .ok (.if_icmp .ge 48, 3) := by decide +kernel
theorem dX5_mixData_105 : decode cX5_mixData 105 = .ok (.aload_n 0, 1) := by decide +kernel
theorem dX5_mixData_106 : decode cX5_mixData 106 = .ok (.aload_n 0, 1) := by decide +kernel
theorem dX5_mixData_107 : decode cX5_mixData 107 = .ok (.iload_n 1, 1) := by decide +kernel
theorem dX5_mixData_108 : decode cX5_mixData 108 = .ok (.invokevirtual 93, 3) := by decide +kernel
theorem dX5_mixData_111 : decode cX5_mixData 111 = .ok (.i2l, 1) := by decide +kernel
theorem dX5_mixData_112 : decode cX5_mixData 112 = .ok (.invokevirtual 167, 3) := by decide +kernel
theorem dX5_mixData_115 : decode cX5_mixData 115 = .ok (.iconst 0, 1) := by decide +kernel
theorem dX5_mixData_116 : decode cX5_mixData 116 = .ok (.istore_n 2, 1) := by decide +kernel
theorem dX5_mixData_117 : decode cX5_mixData 117 = .ok (.iload_n 2, 1) := by decide +kernel
theorem dX5_mixData_118 : decode cX5_mixData 118 = .ok (.aload_n 0, 1) := by decide +kernel
theorem dX5_mixData_119 : decode cX5_mixData 119 = .ok (.iload_n 1, 1) := by decide +kernel
theorem dX5_mixData_120 : decode cX5_mixData 120 = .ok (.invokevirtual 111, 3) := by decide +kernel
theorem dX5_mixData_123 : decode cX5_mixData 123 = .ok (.if_icmp .ge 21, 3) := by decide +kernel
theorem dX5_mixData_126 : decode cX5_mixData 126 = .ok (.aload_n 0, 1) := by decide +kernel
theorem dX5_mixData_127 : decode cX5_mixData 127 = .ok (.aload_n 0, 1) := by decide +kernel
theorem dX5_mixData_128 : decode cX5_mixData 128 = .ok (.iload_n 1, 1) := by decide +kernel
theorem dX5_mixData_129 : decode cX5_mixData 129 = .ok (.iload_n 2, 1) := by decide +kernel
theorem dX5_mixData_130 : decode cX5_mixData 130 = .ok (.iconst 0, 1) := by decide +kernel
theorem dX5_mixData_131 : decode cX5_mixData 131 = .ok (.invokevirtual 117, 3) := by decide +kernel
theorem dX5_mixData_134 : decode cX5_mixData 134 = .ok (.i2l, 1) := by decide +kernel
theorem dX5_mixData_135 : decode cX5_mixData 135 = .ok (.invokevirtual 167, 3) := by decide +kernel
theorem dX5_mixData_138 : decode cX5_mixData 138 = .ok (.iinc 2 1, 3) := by decide +kernel
theorem dX5_mixData_141 : decode cX5_mixData 141 = .ok (.goto (-24), 3) := by decide +kernel
theorem dX5_mixData_144 : decode cX5_mixData 144 = .ok (.iinc 1 1, 3) := by decide +kernel
theorem dX5_mixData_147 : decode cX5_mixData 147 = .ok (.goto (-50), 3) := by decide +kernel
theorem dX5_mixData_150 : decode cX5_mixData 150 = .ok (.return_, 1) := by decide +kernel
theorem dX5_digest_0 : decode cX5_digest 0 = .ok (.aload_n 0, 1) := by decide +kernel
theorem dX5_digest_1 : decode cX5_digest 1 = .ok (.iconst 0, 1) := by decide +kernel
theorem dX5_digest_2 : decode cX5_digest 2 = .ok (.putfield 39, 3) := by decide +kernel
theorem dX5_digest_5 : decode cX5_digest 5 = .ok (.aload_n 0, 1) := by decide +kernel
theorem dX5_digest_6 : decode cX5_digest 6 = .ok (.ldc2_w 171, 3) := by decide +kernel
theorem dX5_digest_9 : decode cX5_digest 9 = .ok (.putfield 164, 3) := by decide +kernel
theorem dX5_digest_12 : decode cX5_digest 12 = .ok (.iconst 0, 1) := by decide +kernel
theorem dX5_digest_13 : decode cX5_digest 13 = .ok (.istore_n 1, 1) := by decide +kernel
theorem dX5_digest_14 : decode cX5_digest 14 = .ok (.iload_n 1, 1) := by decide +kernel
theorem dX5_digest_15 : decode cX5_digest 15 = .ok (.iconst 5, 1) := by decide +kernel
theorem dX5_digest_16 : decode cX5_digest 16 = .ok (.if_icmp .ge 19, 3) := by decide +kernel
theorem dX5_digest_19 : decode cX5_digest 19 = .ok (.aload_n 0, 1) := by decide +kernel
theorem dX5_digest_20 : decode cX5_digest 20 = .ok (.aload_n 0, 1) := by decide +kernel
theorem dX5_digest_21 : decode cX5_digest 21 = .ok (.iload_n 1, 1) := by decide +kernel
theorem dX5_digest_22 : decode cX5_digest 22 = .ok (.invokevirtual 102, 3) := by decide +kernel
theorem dX5_digest_25 : decode cX5_digest 25 = .ok (.i2l, 1) := by decide +kernel
theorem dX5_digest_26 : decode cX5_digest 26 = .ok (.invokevirtual 167, 3) := by decide +kernel
theorem dX5_digest_29 : decode cX5_digest 29 = .ok (.iinc 1 1, 3) := by decide +kernel
theorem dX5_digest_32 : decode cX5_digest 32 = .ok (.goto (-18), 3) := by decide +kernel
theorem dX5_digest_35 : decode cX5_digest 35 = .ok (.aload_n 0, 1) := by decide +kernel
theorem dX5_digest_36 : decode cX5_digest 36 = .ok (.invokevirtual 173, 3) := by decide +kernel
theorem dX5_digest_39 : decode cX5_digest 39 = .ok (.iconst 0, 1) := by decide +kernel
theorem dX5_digest_40 : decode cX5_digest 40 = .ok (.istore_n 1, 1) := by decide +kernel
theorem dX5_digest_41 : decode cX5_digest 41 = .ok (.iload_n 1, 1) := by decide +kernel
theorem dX5_digest_42 : decode cX5_digest 42 = .ok (.iconst 5, 1) := by decide +kernel
theorem dX5_digest_43 : decode cX5_digest 43 = .ok (.aload_n 0, 1) := by decide +kernel
theorem dX5_digest_44 : decode cX5_digest 44 = .ok (.getfield 55, 3) := by decide +kernel
theorem dX5_digest_47 : decode cX5_digest 47 = .ok (.imul, 1) := by decide +kernel
theorem dX5_digest_48 : decode cX5_digest 48 = .ok (.if_icmp .ge 23, 3) := by decide +kernel
theorem dX5_digest_51 : decode cX5_digest 51 = .ok (.aload_n 0, 1) := by decide +kernel
theorem dX5_digest_52 : decode cX5_digest 52 = .ok (.aload_n 0, 1) := by decide +kernel
theorem dX5_digest_53 : decode cX5_digest 53 = .ok (.iload_n 1, 1) := by decide +kernel
theorem dX5_digest_54 : decode cX5_digest 54 = .ok (.iconst 5, 1) := by decide +kernel
theorem dX5_digest_55 : decode cX5_digest 55 = .ok (.idiv, 1) := by decide +kernel
theorem dX5_digest_56 : decode cX5_digest 56 = .ok (.iload_n 1, 1) := by decide +kernel
theorem dX5_digest_57 : decode cX5_digest 57 = .ok (.iconst 5, 1) := by decide +kernel
theorem dX5_digest_58 : decode cX5_digest 58 = .ok (.irem, 1) := by decide +kernel
theorem dX5_digest_59 : decode cX5_digest 59 = .ok (.invokevirtual 159, 3) := by decide +kernel
theorem dX5_digest_62 : decode cX5_digest 62 = .ok (.invokevirtual 167, 3) := by decide +kernel
theorem dX5_digest_65 : decode cX5_digest 65 = .ok (.iinc 1 1, 3) := by decide +kernel
theorem dX5_digest_68 : decode cX5_digest 68 = .ok (.goto (-27), 3) := by decide +kernel
theorem dX5_digest_71 : decode cX5_digest 71 = .ok (.aload_n 0, 1) := by decide +kernel
theorem dX5_digest_72 : decode cX5_digest 72 = .ok (.aload_n 0, 1) := by decide +kernel
theorem dX5_digest_73 : decode cX5_digest 73 = .ok (.getfield 68, 3) := by decide +kernel
theorem dX5_digest_76 : decode cX5_digest 76 = .ok (.i2l, 1) := by decide +kernel
theorem dX5_digest_77 : decode cX5_digest 77 = .ok (.invokevirtual 167, 3) := by decide +kernel
theorem dX5_digest_80 : decode cX5_digest 80 = .ok (.iconst 0, 1) := by decide +kernel
theorem dX5_digest_81 : decode cX5_digest 81 = .ok (.istore_n 1, 1) := by decide +kernel
theorem dX5_digest_82 : decode cX5_digest 82 = .ok (.iload_n 1, 1) := by decide +kernel
theorem dX5_digest_83 : decode cX5_digest 83 = .ok (.aload_n 0, 1) := by decide +kernel
theorem dX5_digest_84 : decode cX5_digest 84 = .ok (.getfield 68, 3) := by decide +kernel
theorem dX5_digest_87 : decode cX5_digest 87 = .ok (.if_icmp .ge 20, 3) := by decide +kernel
theorem dX5_digest_90 : decode cX5_digest 90 = .ok (.aload_n 0, 1) := by decide +kernel
theorem dX5_digest_91 : decode cX5_digest 91 = .ok (.aload_n 0, 1) := by decide +kernel
theorem dX5_digest_92 : decode cX5_digest 92 = .ok (.getfield 20, 3) := by decide +kernel
theorem dX5_digest_95 : decode cX5_digest 95 = .ok (.iload_n 1, 1) := by decide +kernel
theorem dX5_digest_96 : decode cX5_digest 96 = .ok (.iaload, 1) := by decide +kernel
theorem dX5_digest_97 : decode cX5_digest 97 = .ok (.i2l, 1) := by decide +kernel
theorem dX5_digest_98 : decode cX5_digest 98 = .ok (.invokevirtual 167, 3) := by decide +kernel
theorem dX5_digest_101 : decode cX5_digest 101 = .ok (.iinc 1 1, 3) := by decide +kernel
theorem dX5_digest_104 : decode cX5_digest 104 = .ok (.goto (-22), 3) := by decide +kernel
theorem dX5_digest_107 : decode cX5_digest 107 = .ok (.aload_n 0, 1) := by decide +kernel
theorem dX5_digest_108 : decode cX5_digest 108 = .ok (.getfield 164, 3) := by decide +kernel
theorem dX5_digest_111 : decode cX5_digest 111 = .ok (.lreturn, 1) := by decide +kernel
end
section
theorem dL_law_0 : decode cL_law 0 = .ok (.new 8, 3) := by decide +kernel
theorem dL_law_3 : decode cL_law 3 = .ok (.dup, 1) := by decide +kernel
theorem dL_law_4 : decode cL_law 4 = .ok (.invokespecial 82, 3) := by decide +kernel
theorem dL_law_7 : decode cL_law 7 = .ok (.astore_n 1, 1) := by decide +kernel
theorem dL_law_8 : decode cL_law 8 = .ok (.new 83, 3) := by decide +kernel
theorem dL_law_11 : decode cL_law 11 = .ok (.dup, 1) := by decide +kernel
theorem dL_law_12 : decode cL_law 12 = .ok (.invokespecial 85, 3) := by decide +kernel
theorem dL_law_15 : decode cL_law 15 = .ok (.astore_n 2, 1) := by decide +kernel
theorem dL_law_16 : decode cL_law 16 = .ok (.iconst 1, 1) := by decide +kernel
theorem dL_law_17 : decode cL_law 17 = .ok (.newarray .long, 2) := by decide +kernel
theorem dL_law_19 : decode cL_law 19 = .ok (.astore_n 3, 1) := by decide +kernel
theorem dL_law_20 : decode cL_law 20 = .ok (.iconst 1, 1) := by decide +kernel
theorem dL_law_21 : decode cL_law 21 = .ok (.newarray .double, 2) := by decide +kernel
theorem dL_law_23 : decode cL_law 23 = .ok (.astore 4, 2) := by decide +kernel
theorem dL_law_25 : decode cL_law 25 = .ok (.iconst 0, 1) := by decide +kernel
theorem dL_law_26 : decode cL_law 26 = .ok (.istore 5, 2) := by decide +kernel
theorem dL_law_28 : decode cL_law 28 = .ok (.iload 5, 2) := by decide +kernel
theorem dL_law_30 : decode cL_law 30 = .ok (.aload_n 0, 1) := by decide +kernel
theorem dL_law_31 : decode cL_law 31 = .ok (.arraylength, 1) := by decide +kernel
theorem dL_law_32 : decode cL_law 32 = .ok (.iconst 4, 1) := by decide +kernel
theorem dL_law_33 : decode cL_law 33 = .ok (.isub, 1) := by decide +kernel
theorem dL_law_34 : decode cL_law 34 = .ok (.if_icmp .gt 1515, 3) := by decide +kernel
theorem dL_law_37 : decode cL_law 37 = .ok (.aload_n 0, 1) := by decide +kernel
theorem dL_law_38 : decode cL_law 38 = .ok (.iload 5, 2) := by decide +kernel
theorem dL_law_40 : decode cL_law 40 = .ok (.iaload, 1) := by decide +kernel
theorem dL_law_41 : decode cL_law 41 = .ok (.bipush 31, 2) := by decide +kernel
theorem dL_law_43 : decode cL_law 43 = .ok (.iand, 1) := by decide +kernel
theorem dL_law_44 : decode cL_law 44 = .ok (.tableswitch 1499 0 22 #[108, 164, 232, 245, 301, 314, 327, 371, 451, 519, 575, 666, 722, 778, 874, 930, 1026, 1103, 1183, 1262, 1362, 1429, 1485], 108) := by decide +kernel
theorem dL_law_152 : decode cL_law 152 = .ok (.aload_n 1, 1) := by decide +kernel
theorem dL_law_153 : decode cL_law 153 = .ok (.aload_n 0, 1) := by decide +kernel
theorem dL_law_154 : decode cL_law 154 = .ok (.iload 5, 2) := by decide +kernel
theorem dL_law_156 : decode cL_law 156 = .ok (.iconst 1, 1) := by decide +kernel
theorem dL_law_157 : decode cL_law 157 = .ok (.iadd, 1) := by decide +kernel
theorem dL_law_158 : decode cL_law 158 = .ok (.iaload, 1) := by decide +kernel
theorem dL_law_159 : decode cL_law 159 = .ok (.aload_n 3, 1) := by decide +kernel
theorem dL_law_160 : decode cL_law 160 = .ok (.invokestatic 86, 3) := by decide +kernel
theorem dL_law_163 : decode cL_law 163 = .ok (.istore 6, 2) := by decide +kernel
theorem dL_law_165 : decode cL_law 165 = .ok (.aload_n 2, 1) := by decide +kernel
theorem dL_law_166 : decode cL_law 166 = .ok (.aload_n 0, 1) := by decide +kernel
theorem dL_law_167 : decode cL_law 167 = .ok (.iload 5, 2) := by decide +kernel
theorem dL_law_169 : decode cL_law 169 = .ok (.iconst 1, 1) := by decide +kernel
theorem dL_law_170 : decode cL_law 170 = .ok (.iadd, 1) := by decide +kernel
theorem dL_law_171 : decode cL_law 171 = .ok (.iaload, 1) := by decide +kernel
theorem dL_law_172 : decode cL_law 172 = .ok (.invokevirtual 91, 3) := by decide +kernel
theorem dL_law_175 : decode cL_law 175 = .ok (.istore 7, 2) := by decide +kernel
theorem dL_law_177 : decode cL_law 177 = .ok (.aload_n 2, 1) := by decide +kernel
theorem dL_law_178 : decode cL_law 178 = .ok (.invokevirtual 92, 3) := by decide +kernel
theorem dL_law_181 : decode cL_law 181 = .ok (.iload 6, 2) := by decide +kernel
theorem dL_law_183 : decode cL_law 183 = .ok (.if_icmp .eq 5, 3) := by decide +kernel
theorem dL_law_186 : decode cL_law 186 = .ok (.iconst 0, 1) := by decide +kernel
theorem dL_law_187 : decode cL_law 187 = .ok (.ireturn, 1) := by decide +kernel
theorem dL_law_188 : decode cL_law 188 = .ok (.iload 6, 2) := by decide +kernel
theorem dL_law_190 : decode cL_law 190 = .ok (.ifCond .ne 15, 3) := by decide +kernel
theorem dL_law_193 : decode cL_law 193 = .ok (.aload_n 3, 1) := by decide +kernel
theorem dL_law_194 : decode cL_law 194 = .ok (.iconst 0, 1) := by decide +kernel
theorem dL_law_195 : decode cL_law 195 = .ok (.laload, 1) := by decide +kernel
theorem dL_law_196 : decode cL_law 196 = .ok (.iload 7, 2) := by decide +kernel
theorem dL_law_198 : decode cL_law 198 = .ok (.i2l, 1) := by decide +kernel
theorem dL_law_199 : decode cL_law 199 = .ok (.lcmp, 1) := by decide +kernel
theorem dL_law_200 : decode cL_law 200 = .ok (.ifCond .eq 5, 3) := by decide +kernel
theorem dL_law_203 : decode cL_law 203 = .ok (.iconst 0, 1) := by decide +kernel
theorem dL_law_204 : decode cL_law 204 = .ok (.ireturn, 1) := by decide +kernel
theorem dL_law_205 : decode cL_law 205 = .ok (.goto 1338, 3) := by decide +kernel
theorem dL_law_208 : decode cL_law 208 = .ok (.aload_n 1, 1) := by decide +kernel
theorem dL_law_209 : decode cL_law 209 = .ok (.aload_n 0, 1) := by decide +kernel
theorem dL_law_210 : decode cL_law 210 = .ok (.iload 5, 2) := by decide +kernel
theorem dL_law_212 : decode cL_law 212 = .ok (.iconst 1, 1) := by decide +kernel
theorem dL_law_213 : decode cL_law 213 = .ok (.iadd, 1) := by decide +kernel
theorem dL_law_214 : decode cL_law 214 = .ok (.iaload, 1) := by decide +kernel
theorem dL_law_215 : decode cL_law 215 = .ok (.aload_n 0, 1) := by decide +kernel
theorem dL_law_216 : decode cL_law 216 = .ok (.iload 5, 2) := by decide +kernel
theorem dL_law_218 : decode cL_law 218 = .ok (.iconst 2, 1) := by decide +kernel
theorem dL_law_219 : decode cL_law 219 = .ok (.iadd, 1) := by decide +kernel
theorem dL_law_220 : decode cL_law 220 = .ok (.iaload, 1) := by decide +kernel
theorem dL_law_221 : decode cL_law 221 = .ok (.aload_n 3, 1) := by decide +kernel
theorem dL_law_222 : decode cL_law 222 = .ok (.invokestatic 95, 3) := by decide +kernel
theorem dL_law_225 : decode cL_law 225 = .ok (.istore 6, 2) := by decide +kernel
theorem dL_law_227 : decode cL_law 227 = .ok (.aload_n 2, 1) := by decide +kernel
theorem dL_law_228 : decode cL_law 228 = .ok (.aload_n 0, 1) := by decide +kernel
theorem dL_law_229 : decode cL_law 229 = .ok (.iload 5, 2) := by decide +kernel
theorem dL_law_231 : decode cL_law 231 = .ok (.iconst 1, 1) := by decide +kernel
theorem dL_law_232 : decode cL_law 232 = .ok (.iadd, 1) := by decide +kernel
theorem dL_law_233 : decode cL_law 233 = .ok (.iaload, 1) := by decide +kernel
theorem dL_law_234 : decode cL_law 234 = .ok (.aload_n 0, 1) := by decide +kernel
theorem dL_law_235 : decode cL_law 235 = .ok (.iload 5, 2) := by decide +kernel
theorem dL_law_237 : decode cL_law 237 = .ok (.iconst 2, 1) := by decide +kernel
theorem dL_law_238 : decode cL_law 238 = .ok (.iadd, 1) := by decide +kernel
theorem dL_law_239 : decode cL_law 239 = .ok (.iaload, 1) := by decide +kernel
theorem dL_law_240 : decode cL_law 240 = .ok (.invokevirtual 98, 3) := by decide +kernel
theorem dL_law_243 : decode cL_law 243 = .ok (.istore 7, 2) := by decide +kernel
theorem dL_law_245 : decode cL_law 245 = .ok (.aload_n 2, 1) := by decide +kernel
theorem dL_law_246 : decode cL_law 246 = .ok (.invokevirtual 92, 3) := by decide +kernel
theorem dL_law_249 : decode cL_law 249 = .ok (.iload 6, 2) := by decide +kernel
theorem dL_law_251 : decode cL_law 251 = .ok (.if_icmp .eq 5, 3) := by decide +kernel
theorem dL_law_254 : decode cL_law 254 = .ok (.iconst 0, 1) := by decide +kernel
theorem dL_law_255 : decode cL_law 255 = .ok (.ireturn, 1) := by decide +kernel
theorem dL_law_256 : decode cL_law 256 = .ok (.iload 6, 2) := by decide +kernel
theorem dL_law_258 : decode cL_law 258 = .ok (.ifCond .ne 15, 3) := by decide +kernel
theorem dL_law_261 : decode cL_law 261 = .ok (.aload_n 3, 1) := by decide +kernel
theorem dL_law_262 : decode cL_law 262 = .ok (.iconst 0, 1) := by decide +kernel
theorem dL_law_263 : decode cL_law 263 = .ok (.laload, 1) := by decide +kernel
theorem dL_law_264 : decode cL_law 264 = .ok (.iload 7, 2) := by decide +kernel
theorem dL_law_266 : decode cL_law 266 = .ok (.i2l, 1) := by decide +kernel
theorem dL_law_267 : decode cL_law 267 = .ok (.lcmp, 1) := by decide +kernel
theorem dL_law_268 : decode cL_law 268 = .ok (.ifCond .eq 5, 3) := by decide +kernel
theorem dL_law_271 : decode cL_law 271 = .ok (.iconst 0, 1) := by decide +kernel
theorem dL_law_272 : decode cL_law 272 = .ok (.ireturn, 1) := by decide +kernel
theorem dL_law_273 : decode cL_law 273 = .ok (.goto 1270, 3) := by decide +kernel
theorem dL_law_276 : decode cL_law 276 = .ok (.aload_n 1, 1) := by decide +kernel
theorem dL_law_277 : decode cL_law 277 = .ok (.invokevirtual 99, 3) := by decide +kernel
theorem dL_law_280 : decode cL_law 280 = .ok (.aload_n 2, 1) := by decide +kernel
theorem dL_law_281 : decode cL_law 281 = .ok (.invokevirtual 102, 3) := by decide +kernel
theorem dL_law_284 : decode cL_law 284 = .ok (.if_icmp .eq 1259, 3) := by decide +kernel
theorem dL_law_287 : decode cL_law 287 = .ok (.iconst 0, 1) := by decide +kernel
theorem dL_law_288 : decode cL_law 288 = .ok (.ireturn, 1) := by decide +kernel
theorem dL_law_289 : decode cL_law 289 = .ok (.aload_n 1, 1) := by decide +kernel
theorem dL_law_290 : decode cL_law 290 = .ok (.aload_n 0, 1) := by decide +kernel
theorem dL_law_291 : decode cL_law 291 = .ok (.iload 5, 2) := by decide +kernel
theorem dL_law_293 : decode cL_law 293 = .ok (.iconst 1, 1) := by decide +kernel
theorem dL_law_294 : decode cL_law 294 = .ok (.iadd, 1) := by decide +kernel
theorem dL_law_295 : decode cL_law 295 = .ok (.iaload, 1) := by decide +kernel
theorem dL_law_296 : decode cL_law 296 = .ok (.aload_n 3, 1) := by decide +kernel
theorem dL_law_297 : decode cL_law 297 = .ok (.invokestatic 103, 3) := by decide +kernel
theorem dL_law_300 : decode cL_law 300 = .ok (.istore 6, 2) := by decide +kernel
theorem dL_law_302 : decode cL_law 302 = .ok (.aload_n 2, 1) := by decide +kernel
theorem dL_law_303 : decode cL_law 303 = .ok (.aload_n 0, 1) := by decide +kernel
theorem dL_law_304 : decode cL_law 304 = .ok (.iload 5, 2) := by decide +kernel
theorem dL_law_306 : decode cL_law 306 = .ok (.iconst 1, 1) := by decide +kernel
theorem dL_law_307 : decode cL_law 307 = .ok (.iadd, 1) := by decide +kernel
theorem dL_law_308 : decode cL_law 308 = .ok (.iaload, 1) := by decide +kernel
theorem dL_law_309 : decode cL_law 309 = .ok (.invokevirtual 105, 3) := by decide +kernel
theorem dL_law_312 : decode cL_law 312 = .ok (.istore 7, 2) := by decide +kernel
theorem dL_law_314 : decode cL_law 314 = .ok (.aload_n 2, 1) := by decide +kernel
theorem dL_law_315 : decode cL_law 315 = .ok (.invokevirtual 92, 3) := by decide +kernel
theorem dL_law_318 : decode cL_law 318 = .ok (.iload 6, 2) := by decide +kernel
theorem dL_law_320 : decode cL_law 320 = .ok (.if_icmp .eq 5, 3) := by decide +kernel
theorem dL_law_323 : decode cL_law 323 = .ok (.iconst 0, 1) := by decide +kernel
theorem dL_law_324 : decode cL_law 324 = .ok (.ireturn, 1) := by decide +kernel
theorem dL_law_325 : decode cL_law 325 = .ok (.iload 6, 2) := by decide +kernel
theorem dL_law_327 : decode cL_law 327 = .ok (.ifCond .ne 15, 3) := by decide +kernel
theorem dL_law_330 : decode cL_law 330 = .ok (.aload_n 3, 1) := by decide +kernel
theorem dL_law_331 : decode cL_law 331 = .ok (.iconst 0, 1) := by decide +kernel
theorem dL_law_332 : decode cL_law 332 = .ok (.laload, 1) := by decide +kernel
theorem dL_law_333 : decode cL_law 333 = .ok (.iload 7, 2) := by decide +kernel
theorem dL_law_335 : decode cL_law 335 = .ok (.i2l, 1) := by decide +kernel
theorem dL_law_336 : decode cL_law 336 = .ok (.lcmp, 1) := by decide +kernel
theorem dL_law_337 : decode cL_law 337 = .ok (.ifCond .eq 5, 3) := by decide +kernel
theorem dL_law_340 : decode cL_law 340 = .ok (.iconst 0, 1) := by decide +kernel
theorem dL_law_341 : decode cL_law 341 = .ok (.ireturn, 1) := by decide +kernel
theorem dL_law_342 : decode cL_law 342 = .ok (.goto 1201, 3) := by decide +kernel
theorem dL_law_345 : decode cL_law 345 = .ok (.aload_n 1, 1) := by decide +kernel
theorem dL_law_346 : decode cL_law 346 = .ok (.invokevirtual 106, 3) := by decide +kernel
theorem dL_law_349 : decode cL_law 349 = .ok (.aload_n 2, 1) := by decide +kernel
theorem dL_law_350 : decode cL_law 350 = .ok (.invokevirtual 109, 3) := by decide +kernel
theorem dL_law_353 : decode cL_law 353 = .ok (.if_icmp .eq 1190, 3) := by decide +kernel
theorem dL_law_356 : decode cL_law 356 = .ok (.iconst 0, 1) := by decide +kernel
theorem dL_law_357 : decode cL_law 357 = .ok (.ireturn, 1) := by decide +kernel
theorem dL_law_358 : decode cL_law 358 = .ok (.aload_n 1, 1) := by decide +kernel
theorem dL_law_359 : decode cL_law 359 = .ok (.invokevirtual 110, 3) := by decide +kernel
theorem dL_law_362 : decode cL_law 362 = .ok (.aload_n 2, 1) := by decide +kernel
theorem dL_law_363 : decode cL_law 363 = .ok (.invokevirtual 113, 3) := by decide +kernel
theorem dL_law_366 : decode cL_law 366 = .ok (.if_icmp .eq 1177, 3) := by decide +kernel
theorem dL_law_369 : decode cL_law 369 = .ok (.iconst 0, 1) := by decide +kernel
theorem dL_law_370 : decode cL_law 370 = .ok (.ireturn, 1) := by decide +kernel
theorem dL_law_371 : decode cL_law 371 = .ok (.aload_n 1, 1) := by decide +kernel
theorem dL_law_372 : decode cL_law 372 = .ok (.aload_n 3, 1) := by decide +kernel
theorem dL_law_373 : decode cL_law 373 = .ok (.invokestatic 114, 3) := by decide +kernel
theorem dL_law_376 : decode cL_law 376 = .ok (.istore 6, 2) := by decide +kernel
theorem dL_law_378 : decode cL_law 378 = .ok (.aload_n 2, 1) := by decide +kernel
theorem dL_law_379 : decode cL_law 379 = .ok (.invokevirtual 117, 3) := by decide +kernel
theorem dL_law_382 : decode cL_law 382 = .ok (.istore 7, 2) := by decide +kernel
theorem dL_law_384 : decode cL_law 384 = .ok (.aload_n 2, 1) := by decide +kernel
theorem dL_law_385 : decode cL_law 385 = .ok (.invokevirtual 92, 3) := by decide +kernel
theorem dL_law_388 : decode cL_law 388 = .ok (.iload 6, 2) := by decide +kernel
theorem dL_law_390 : decode cL_law 390 = .ok (.if_icmp .eq 5, 3) := by decide +kernel
theorem dL_law_393 : decode cL_law 393 = .ok (.iconst 0, 1) := by decide +kernel
theorem dL_law_394 : decode cL_law 394 = .ok (.ireturn, 1) := by decide +kernel
theorem dL_law_395 : decode cL_law 395 = .ok (.iload 6, 2) := by decide +kernel
theorem dL_law_397 : decode cL_law 397 = .ok (.ifCond .ne 15, 3) := by decide +kernel
theorem dL_law_400 : decode cL_law 400 = .ok (.aload_n 3, 1) := by decide +kernel
theorem dL_law_401 : decode cL_law 401 = .ok (.iconst 0, 1) := by decide +kernel
theorem dL_law_402 : decode cL_law 402 = .ok (.laload, 1) := by decide +kernel
theorem dL_law_403 : decode cL_law 403 = .ok (.iload 7, 2) := by decide +kernel
theorem dL_law_405 : decode cL_law 405 = .ok (.i2l, 1) := by decide +kernel
theorem dL_law_406 : decode cL_law 406 = .ok (.lcmp, 1) := by decide +kernel
theorem dL_law_407 : decode cL_law 407 = .ok (.ifCond .eq 5, 3) := by decide +kernel
theorem dL_law_410 : decode cL_law 410 = .ok (.iconst 0, 1) := by decide +kernel
theorem dL_law_411 : decode cL_law 411 = .ok (.ireturn, 1) := by decide +kernel
theorem dL_law_412 : decode cL_law 412 = .ok (.goto 1131, 3) := by decide +kernel
theorem dL_law_415 : decode cL_law 415 = .ok (.aload_n 1, 1) := by decide +kernel
theorem dL_law_416 : decode cL_law 416 = .ok (.aload_n 0, 1) := by decide +kernel
theorem dL_law_417 : decode cL_law 417 = .ok (.iload 5, 2) := by decide +kernel
theorem dL_law_419 : decode cL_law 419 = .ok (.iconst 1, 1) := by decide +kernel
theorem dL_law_420 : decode cL_law 420 = .ok (.iadd, 1) := by decide +kernel
theorem dL_law_421 : decode cL_law 421 = .ok (.iaload, 1) := by decide +kernel
theorem dL_law_422 : decode cL_law 422 = .ok (.aload_n 0, 1) := by decide +kernel
theorem dL_law_423 : decode cL_law 423 = .ok (.iload 5, 2) := by decide +kernel
theorem dL_law_425 : decode cL_law 425 = .ok (.iconst 2, 1) := by decide +kernel
theorem dL_law_426 : decode cL_law 426 = .ok (.iadd, 1) := by decide +kernel
theorem dL_law_427 : decode cL_law 427 = .ok (.iaload, 1) := by decide +kernel
theorem dL_law_428 : decode cL_law 428 = .ok (.aload_n 0, 1) := by decide +kernel
theorem dL_law_429 : decode cL_law 429 = .ok (.iload 5, 2) := by decide +kernel
theorem dL_law_431 : decode cL_law 431 = .ok (.iconst 3, 1) := by decide +kernel
theorem dL_law_432 : decode cL_law 432 = .ok (.iadd, 1) := by decide +kernel
theorem dL_law_433 : decode cL_law 433 = .ok (.iaload, 1) := by decide +kernel
theorem dL_law_434 : decode cL_law 434 = .ok (.aload_n 3, 1) := by decide +kernel
theorem dL_law_435 : decode cL_law 435 = .ok (.invokestatic 118, 3) := by decide +kernel
theorem dL_law_438 : decode cL_law 438 = .ok (.istore 6, 2) := by decide +kernel
theorem dL_law_440 : decode cL_law 440 = .ok (.aload_n 2, 1) := by decide +kernel
theorem dL_law_441 : decode cL_law 441 = .ok (.aload_n 0, 1) := by decide +kernel
theorem dL_law_442 : decode cL_law 442 = .ok (.iload 5, 2) := by decide +kernel
theorem dL_law_444 : decode cL_law 444 = .ok (.iconst 1, 1) := by decide +kernel
theorem dL_law_445 : decode cL_law 445 = .ok (.iadd, 1) := by decide +kernel
theorem dL_law_446 : decode cL_law 446 = .ok (.iaload, 1) := by decide +kernel
theorem dL_law_447 : decode cL_law 447 = .ok (.aload_n 0, 1) := by decide +kernel
theorem dL_law_448 : decode cL_law 448 = .ok (.iload 5, 2) := by decide +kernel
theorem dL_law_450 : decode cL_law 450 = .ok (.iconst 2, 1) := by decide +kernel
theorem dL_law_451 : decode cL_law 451 = .ok (.iadd, 1) := by decide +kernel
theorem dL_law_452 : decode cL_law 452 = .ok (.iaload, 1) := by decide +kernel
theorem dL_law_453 : decode cL_law 453 = .ok (.aload_n 0, 1) := by decide +kernel
theorem dL_law_454 : decode cL_law 454 = .ok (.iload 5, 2) := by decide +kernel
theorem dL_law_456 : decode cL_law 456 = .ok (.iconst 3, 1) := by decide +kernel
theorem dL_law_457 : decode cL_law 457 = .ok (.iadd, 1) := by decide +kernel
theorem dL_law_458 : decode cL_law 458 = .ok (.iaload, 1) := by decide +kernel
theorem dL_law_459 : decode cL_law 459 = .ok (.invokevirtual 121, 3) := by decide +kernel
theorem dL_law_462 : decode cL_law 462 = .ok (.istore 7, 2) := by decide +kernel
theorem dL_law_464 : decode cL_law 464 = .ok (.aload_n 2, 1) := by decide +kernel
theorem dL_law_465 : decode cL_law 465 = .ok (.invokevirtual 92, 3) := by decide +kernel
theorem dL_law_468 : decode cL_law 468 = .ok (.iload 6, 2) := by decide +kernel
theorem dL_law_470 : decode cL_law 470 = .ok (.if_icmp .eq 5, 3) := by decide +kernel
theorem dL_law_473 : decode cL_law 473 = .ok (.iconst 0, 1) := by decide +kernel
theorem dL_law_474 : decode cL_law 474 = .ok (.ireturn, 1) := by decide +kernel
theorem dL_law_475 : decode cL_law 475 = .ok (.iload 6, 2) := by decide +kernel
theorem dL_law_477 : decode cL_law 477 = .ok (.ifCond .ne 15, 3) := by decide +kernel
theorem dL_law_480 : decode cL_law 480 = .ok (.aload_n 3, 1) := by decide +kernel
theorem dL_law_481 : decode cL_law 481 = .ok (.iconst 0, 1) := by decide +kernel
theorem dL_law_482 : decode cL_law 482 = .ok (.laload, 1) := by decide +kernel
theorem dL_law_483 : decode cL_law 483 = .ok (.iload 7, 2) := by decide +kernel
theorem dL_law_485 : decode cL_law 485 = .ok (.i2l, 1) := by decide +kernel
theorem dL_law_486 : decode cL_law 486 = .ok (.lcmp, 1) := by decide +kernel
theorem dL_law_487 : decode cL_law 487 = .ok (.ifCond .eq 5, 3) := by decide +kernel
theorem dL_law_490 : decode cL_law 490 = .ok (.iconst 0, 1) := by decide +kernel
theorem dL_law_491 : decode cL_law 491 = .ok (.ireturn, 1) := by decide +kernel
theorem dL_law_492 : decode cL_law 492 = .ok (.goto 1051, 3) := by decide +kernel
theorem dL_law_495 : decode cL_law 495 = .ok (.aload_n 1, 1) := by decide +kernel
theorem dL_law_496 : decode cL_law 496 = .ok (.aload_n 0, 1) := by decide +kernel
theorem dL_law_497 : decode cL_law 497 = .ok (.iload 5, 2) := by decide +kernel
theorem dL_law_499 : decode cL_law 499 = .ok (.iconst 1, 1) := by decide +kernel
theorem dL_law_500 : decode cL_law 500 = .ok (.iadd, 1) := by decide +kernel
theorem dL_law_501 : decode cL_law 501 = .ok (.iaload, 1) := by decide +kernel
theorem dL_law_502 : decode cL_law 502 = .ok (.aload_n 0, 1) := by decide +kernel
theorem dL_law_503 : decode cL_law 503 = .ok (.iload 5, 2) := by decide +kernel
theorem dL_law_505 : decode cL_law 505 = .ok (.iconst 2, 1) := by decide +kernel
theorem dL_law_506 : decode cL_law 506 = .ok (.iadd, 1) := by decide +kernel
theorem dL_law_507 : decode cL_law 507 = .ok (.iaload, 1) := by decide +kernel
theorem dL_law_508 : decode cL_law 508 = .ok (.aload_n 3, 1) := by decide +kernel
theorem dL_law_509 : decode cL_law 509 = .ok (.invokestatic 122, 3) := by decide +kernel
theorem dL_law_512 : decode cL_law 512 = .ok (.istore 6, 2) := by decide +kernel
theorem dL_law_514 : decode cL_law 514 = .ok (.aload_n 2, 1) := by decide +kernel
theorem dL_law_515 : decode cL_law 515 = .ok (.aload_n 0, 1) := by decide +kernel
theorem dL_law_516 : decode cL_law 516 = .ok (.iload 5, 2) := by decide +kernel
theorem dL_law_518 : decode cL_law 518 = .ok (.iconst 1, 1) := by decide +kernel
theorem dL_law_519 : decode cL_law 519 = .ok (.iadd, 1) := by decide +kernel
theorem dL_law_520 : decode cL_law 520 = .ok (.iaload, 1) := by decide +kernel
theorem dL_law_521 : decode cL_law 521 = .ok (.aload_n 0, 1) := by decide +kernel
theorem dL_law_522 : decode cL_law 522 = .ok (.iload 5, 2) := by decide +kernel
theorem dL_law_524 : decode cL_law 524 = .ok (.iconst 2, 1) := by decide +kernel
theorem dL_law_525 : decode cL_law 525 = .ok (.iadd, 1) := by decide +kernel
theorem dL_law_526 : decode cL_law 526 = .ok (.iaload, 1) := by decide +kernel
theorem dL_law_527 : decode cL_law 527 = .ok (.invokevirtual 124, 3) := by decide +kernel
theorem dL_law_530 : decode cL_law 530 = .ok (.istore 7, 2) := by decide +kernel
theorem dL_law_532 : decode cL_law 532 = .ok (.aload_n 2, 1) := by decide +kernel
theorem dL_law_533 : decode cL_law 533 = .ok (.invokevirtual 92, 3) := by decide +kernel
theorem dL_law_536 : decode cL_law 536 = .ok (.iload 6, 2) := by decide +kernel
theorem dL_law_538 : decode cL_law 538 = .ok (.if_icmp .eq 5, 3) := by decide +kernel
theorem dL_law_541 : decode cL_law 541 = .ok (.iconst 0, 1) := by decide +kernel
theorem dL_law_542 : decode cL_law 542 = .ok (.ireturn, 1) := by decide +kernel
theorem dL_law_543 : decode cL_law 543 = .ok (.iload 6, 2) := by decide +kernel
theorem dL_law_545 : decode cL_law 545 = .ok (.ifCond .ne 15, 3) := by decide +kernel
theorem dL_law_548 : decode cL_law 548 = .ok (.aload_n 3, 1) := by decide +kernel
theorem dL_law_549 : decode cL_law 549 = .ok (.iconst 0, 1) := by decide +kernel
theorem dL_law_550 : decode cL_law 550 = .ok (.laload, 1) := by decide +kernel
theorem dL_law_551 : decode cL_law 551 = .ok (.iload 7, 2) := by decide +kernel
theorem dL_law_553 : decode cL_law 553 = .ok (.i2l, 1) := by decide +kernel
theorem dL_law_554 : decode cL_law 554 = .ok (.lcmp, 1) := by decide +kernel
theorem dL_law_555 : decode cL_law 555 = .ok (.ifCond .eq 5, 3) := by decide +kernel
theorem dL_law_558 : decode cL_law 558 = .ok (.iconst 0, 1) := by decide +kernel
theorem dL_law_559 : decode cL_law 559 = .ok (.ireturn, 1) := by decide +kernel
theorem dL_law_560 : decode cL_law 560 = .ok (.goto 983, 3) := by decide +kernel
theorem dL_law_563 : decode cL_law 563 = .ok (.aload_n 1, 1) := by decide +kernel
theorem dL_law_564 : decode cL_law 564 = .ok (.aload_n 0, 1) := by decide +kernel
theorem dL_law_565 : decode cL_law 565 = .ok (.iload 5, 2) := by decide +kernel
theorem dL_law_567 : decode cL_law 567 = .ok (.iconst 1, 1) := by decide +kernel
theorem dL_law_568 : decode cL_law 568 = .ok (.iadd, 1) := by decide +kernel
theorem dL_law_569 : decode cL_law 569 = .ok (.iaload, 1) := by decide +kernel
theorem dL_law_570 : decode cL_law 570 = .ok (.aload_n 3, 1) := by decide +kernel
theorem dL_law_571 : decode cL_law 571 = .ok (.invokestatic 125, 3) := by decide +kernel
theorem dL_law_574 : decode cL_law 574 = .ok (.istore 6, 2) := by decide +kernel
theorem dL_law_576 : decode cL_law 576 = .ok (.aload_n 2, 1) := by decide +kernel
theorem dL_law_577 : decode cL_law 577 = .ok (.aload_n 0, 1) := by decide +kernel
theorem dL_law_578 : decode cL_law 578 = .ok (.iload 5, 2) := by decide +kernel
theorem dL_law_580 : decode cL_law 580 = .ok (.iconst 1, 1) := by decide +kernel
theorem dL_law_581 : decode cL_law 581 = .ok (.iadd, 1) := by decide +kernel
theorem dL_law_582 : decode cL_law 582 = .ok (.iaload, 1) := by decide +kernel
theorem dL_law_583 : decode cL_law 583 = .ok (.invokevirtual 127, 3) := by decide +kernel
theorem dL_law_586 : decode cL_law 586 = .ok (.istore 7, 2) := by decide +kernel
theorem dL_law_588 : decode cL_law 588 = .ok (.aload_n 2, 1) := by decide +kernel
theorem dL_law_589 : decode cL_law 589 = .ok (.invokevirtual 92, 3) := by decide +kernel
theorem dL_law_592 : decode cL_law 592 = .ok (.iload 6, 2) := by decide +kernel
theorem dL_law_594 : decode cL_law 594 = .ok (.if_icmp .eq 5, 3) := by decide +kernel
theorem dL_law_597 : decode cL_law 597 = .ok (.iconst 0, 1) := by decide +kernel
theorem dL_law_598 : decode cL_law 598 = .ok (.ireturn, 1) := by decide +kernel
theorem dL_law_599 : decode cL_law 599 = .ok (.iload 6, 2) := by decide +kernel
theorem dL_law_601 : decode cL_law 601 = .ok (.ifCond .ne 15, 3) := by decide +kernel
theorem dL_law_604 : decode cL_law 604 = .ok (.aload_n 3, 1) := by decide +kernel
theorem dL_law_605 : decode cL_law 605 = .ok (.iconst 0, 1) := by decide +kernel
theorem dL_law_606 : decode cL_law 606 = .ok (.laload, 1) := by decide +kernel
theorem dL_law_607 : decode cL_law 607 = .ok (.iload 7, 2) := by decide +kernel
theorem dL_law_609 : decode cL_law 609 = .ok (.i2l, 1) := by decide +kernel
theorem dL_law_610 : decode cL_law 610 = .ok (.lcmp, 1) := by decide +kernel
theorem dL_law_611 : decode cL_law 611 = .ok (.ifCond .eq 5, 3) := by decide +kernel
theorem dL_law_614 : decode cL_law 614 = .ok (.iconst 0, 1) := by decide +kernel
theorem dL_law_615 : decode cL_law 615 = .ok (.ireturn, 1) := by decide +kernel
theorem dL_law_616 : decode cL_law 616 = .ok (.goto 927, 3) := by decide +kernel
theorem dL_law_619 : decode cL_law 619 = .ok (.aload_n 1, 1) := by decide +kernel
theorem dL_law_620 : decode cL_law 620 = .ok (.aload_n 0, 1) := by decide +kernel
theorem dL_law_621 : decode cL_law 621 = .ok (.iload 5, 2) := by decide +kernel
theorem dL_law_623 : decode cL_law 623 = .ok (.iconst 1, 1) := by decide +kernel
theorem dL_law_624 : decode cL_law 624 = .ok (.iadd, 1) := by decide +kernel
theorem dL_law_625 : decode cL_law 625 = .ok (.iaload, 1) := by decide +kernel
theorem dL_law_626 : decode cL_law 626 = .ok (.aload_n 0, 1) := by decide +kernel
theorem dL_law_627 : decode cL_law 627 = .ok (.iload 5, 2) := by decide +kernel
theorem dL_law_629 : decode cL_law 629 = .ok (.iconst 2, 1) := by decide +kernel
theorem dL_law_630 : decode cL_law 630 = .ok (.iadd, 1) := by decide +kernel
theorem dL_law_631 : decode cL_law 631 = .ok (.iaload, 1) := by decide +kernel
theorem dL_law_632 : decode cL_law 632 = .ok (.ifCond .eq 7, 3) := by decide +kernel
theorem dL_law_635 : decode cL_law 635 = .ok (.iconst 1, 1) := by decide +kernel
theorem dL_law_636 : decode cL_law 636 = .ok (.goto 4, 3) := by decide +kernel
theorem dL_law_639 : decode cL_law 639 = .ok (.iconst 0, 1) := by decide +kernel
theorem dL_law_640 : decode cL_law 640 = .ok (.aload_n 3, 1) := by decide +kernel
theorem dL_law_641 : decode cL_law 641 = .ok (.invokestatic 128, 3) := by decide +kernel
theorem dL_law_644 : decode cL_law 644 = .ok (.istore 6, 2) := by decide +kernel
theorem dL_law_646 : decode cL_law 646 = .ok (.aload_n 2, 1) := by decide +kernel
theorem dL_law_647 : decode cL_law 647 = .ok (.aload_n 0, 1) := by decide +kernel
theorem dL_law_648 : decode cL_law 648 = .ok (.iload 5, 2) := by decide +kernel
theorem dL_law_650 : decode cL_law 650 = .ok (.iconst 1, 1) := by decide +kernel
theorem dL_law_651 : decode cL_law 651 = .ok (.iadd, 1) := by decide +kernel
theorem dL_law_652 : decode cL_law 652 = .ok (.iaload, 1) := by decide +kernel
theorem dL_law_653 : decode cL_law 653 = .ok (.aload_n 0, 1) := by decide +kernel
theorem dL_law_654 : decode cL_law 654 = .ok (.iload 5, 2) := by decide +kernel
theorem dL_law_656 : decode cL_law 656 = .ok (.iconst 2, 1) := by decide +kernel
theorem dL_law_657 : decode cL_law 657 = .ok (.iadd, 1) := by decide +kernel
theorem dL_law_658 : decode cL_law 658 = .ok (.iaload, 1) := by decide +kernel
theorem dL_law_659 : decode cL_law 659 = .ok (.ifCond .eq 7, 3) := by decide +kernel
theorem dL_law_662 : decode cL_law 662 = .ok (.iconst 1, 1) := by decide +kernel
theorem dL_law_663 : decode cL_law 663 = .ok (.goto 4, 3) := by decide +kernel
theorem dL_law_666 : decode cL_law 666 = .ok (.iconst 0, 1) := by decide +kernel
theorem dL_law_667 : decode cL_law 667 = .ok (.invokevirtual 131, 3) := by decide +kernel
theorem dL_law_670 : decode cL_law 670 = .ok (.istore 7, 2) := by decide +kernel
theorem dL_law_672 : decode cL_law 672 = .ok (.aload_n 2, 1) := by decide +kernel
theorem dL_law_673 : decode cL_law 673 = .ok (.invokevirtual 92, 3) := by decide +kernel
theorem dL_law_676 : decode cL_law 676 = .ok (.iload 6, 2) := by decide +kernel
theorem dL_law_678 : decode cL_law 678 = .ok (.if_icmp .eq 5, 3) := by decide +kernel
theorem dL_law_681 : decode cL_law 681 = .ok (.iconst 0, 1) := by decide +kernel
theorem dL_law_682 : decode cL_law 682 = .ok (.ireturn, 1) := by decide +kernel
theorem dL_law_683 : decode cL_law 683 = .ok (.iload 6, 2) := by decide +kernel
theorem dL_law_685 : decode cL_law 685 = .ok (.ifCond .ne 22, 3) := by decide +kernel
theorem dL_law_688 : decode cL_law 688 = .ok (.aload_n 3, 1) := by decide +kernel
theorem dL_law_689 : decode cL_law 689 = .ok (.iconst 0, 1) := by decide +kernel
theorem dL_law_690 : decode cL_law 690 = .ok (.laload, 1) := by decide +kernel
theorem dL_law_691 : decode cL_law 691 = .ok (.iload 7, 2) := by decide +kernel
theorem dL_law_693 : decode cL_law 693 = .ok (.ifCond .eq 7, 3) := by decide +kernel
theorem dL_law_696 : decode cL_law 696 = .ok (.lconst 1, 1) := by decide +kernel
theorem dL_law_697 : decode cL_law 697 = .ok (.goto 4, 3) := by decide +kernel
theorem dL_law_700 : decode cL_law 700 = .ok (.lconst 0, 1) := by decide +kernel
theorem dL_law_701 : decode cL_law 701 = .ok (.lcmp, 1) := by decide +kernel
theorem dL_law_702 : decode cL_law 702 = .ok (.ifCond .eq 5, 3) := by decide +kernel
theorem dL_law_705 : decode cL_law 705 = .ok (.iconst 0, 1) := by decide +kernel
theorem dL_law_706 : decode cL_law 706 = .ok (.ireturn, 1) := by decide +kernel
theorem dL_law_707 : decode cL_law 707 = .ok (.goto 836, 3) := by decide +kernel
theorem dL_law_710 : decode cL_law 710 = .ok (.aload_n 1, 1) := by decide +kernel
theorem dL_law_711 : decode cL_law 711 = .ok (.aload_n 0, 1) := by decide +kernel
theorem dL_law_712 : decode cL_law 712 = .ok (.iload 5, 2) := by decide +kernel
theorem dL_law_714 : decode cL_law 714 = .ok (.iconst 1, 1) := by decide +kernel
theorem dL_law_715 : decode cL_law 715 = .ok (.iadd, 1) := by decide +kernel
theorem dL_law_716 : decode cL_law 716 = .ok (.iaload, 1) := by decide +kernel
theorem dL_law_717 : decode cL_law 717 = .ok (.aload_n 3, 1) := by decide +kernel
theorem dL_law_718 : decode cL_law 718 = .ok (.invokestatic 132, 3) := by decide +kernel
theorem dL_law_721 : decode cL_law 721 = .ok (.istore 6, 2) := by decide +kernel
theorem dL_law_723 : decode cL_law 723 = .ok (.aload_n 2, 1) := by decide +kernel
theorem dL_law_724 : decode cL_law 724 = .ok (.aload_n 0, 1) := by decide +kernel
theorem dL_law_725 : decode cL_law 725 = .ok (.iload 5, 2) := by decide +kernel
theorem dL_law_727 : decode cL_law 727 = .ok (.iconst 1, 1) := by decide +kernel
theorem dL_law_728 : decode cL_law 728 = .ok (.iadd, 1) := by decide +kernel
theorem dL_law_729 : decode cL_law 729 = .ok (.iaload, 1) := by decide +kernel
theorem dL_law_730 : decode cL_law 730 = .ok (.invokevirtual 134, 3) := by decide +kernel
theorem dL_law_733 : decode cL_law 733 = .ok (.istore 7, 2) := by decide +kernel
theorem dL_law_735 : decode cL_law 735 = .ok (.aload_n 2, 1) := by decide +kernel
theorem dL_law_736 : decode cL_law 736 = .ok (.invokevirtual 92, 3) := by decide +kernel
theorem dL_law_739 : decode cL_law 739 = .ok (.iload 6, 2) := by decide +kernel
theorem dL_law_741 : decode cL_law 741 = .ok (.if_icmp .eq 5, 3) := by decide +kernel
theorem dL_law_744 : decode cL_law 744 = .ok (.iconst 0, 1) := by decide +kernel
theorem dL_law_745 : decode cL_law 745 = .ok (.ireturn, 1) := by decide +kernel
theorem dL_law_746 : decode cL_law 746 = .ok (.iload 6, 2) := by decide +kernel
theorem dL_law_748 : decode cL_law 748 = .ok (.ifCond .ne 15, 3) := by decide +kernel
theorem dL_law_751 : decode cL_law 751 = .ok (.aload_n 3, 1) := by decide +kernel
theorem dL_law_752 : decode cL_law 752 = .ok (.iconst 0, 1) := by decide +kernel
theorem dL_law_753 : decode cL_law 753 = .ok (.laload, 1) := by decide +kernel
theorem dL_law_754 : decode cL_law 754 = .ok (.iload 7, 2) := by decide +kernel
theorem dL_law_756 : decode cL_law 756 = .ok (.i2l, 1) := by decide +kernel
theorem dL_law_757 : decode cL_law 757 = .ok (.lcmp, 1) := by decide +kernel
theorem dL_law_758 : decode cL_law 758 = .ok (.ifCond .eq 5, 3) := by decide +kernel
theorem dL_law_761 : decode cL_law 761 = .ok (.iconst 0, 1) := by decide +kernel
theorem dL_law_762 : decode cL_law 762 = .ok (.ireturn, 1) := by decide +kernel
theorem dL_law_763 : decode cL_law 763 = .ok (.goto 780, 3) := by decide +kernel
theorem dL_law_766 : decode cL_law 766 = .ok (.aload_n 1, 1) := by decide +kernel
theorem dL_law_767 : decode cL_law 767 = .ok (.aload_n 0, 1) := by decide +kernel
theorem dL_law_768 : decode cL_law 768 = .ok (.iload 5, 2) := by decide +kernel
theorem dL_law_770 : decode cL_law 770 = .ok (.iconst 1, 1) := by decide +kernel
theorem dL_law_771 : decode cL_law 771 = .ok (.iadd, 1) := by decide +kernel
theorem dL_law_772 : decode cL_law 772 = .ok (.iaload, 1) := by decide +kernel
theorem dL_law_773 : decode cL_law 773 = .ok (.aload_n 3, 1) := by decide +kernel
theorem dL_law_774 : decode cL_law 774 = .ok (.invokestatic 135, 3) := by decide +kernel
theorem dL_law_777 : decode cL_law 777 = .ok (.istore 6, 2) := by decide +kernel
theorem dL_law_779 : decode cL_law 779 = .ok (.aload_n 2, 1) := by decide +kernel
theorem dL_law_780 : decode cL_law 780 = .ok (.aload_n 0, 1) := by decide +kernel
theorem dL_law_781 : decode cL_law 781 = .ok (.iload 5, 2) := by decide +kernel
theorem dL_law_783 : decode cL_law 783 = .ok (.iconst 1, 1) := by decide +kernel
theorem dL_law_784 : decode cL_law 784 = .ok (.iadd, 1) := by decide +kernel
theorem dL_law_785 : decode cL_law 785 = .ok (.iaload, 1) := by decide +kernel
theorem dL_law_786 : decode cL_law 786 = .ok (.invokevirtual 137, 3) := by decide +kernel
theorem dL_law_789 : decode cL_law 789 = .ok (.istore 7, 2) := by decide +kernel
theorem dL_law_791 : decode cL_law 791 = .ok (.aload_n 2, 1) := by decide +kernel
theorem dL_law_792 : decode cL_law 792 = .ok (.invokevirtual 92, 3) := by decide +kernel
theorem dL_law_795 : decode cL_law 795 = .ok (.iload 6, 2) := by decide +kernel
theorem dL_law_797 : decode cL_law 797 = .ok (.if_icmp .eq 5, 3) := by decide +kernel
theorem dL_law_800 : decode cL_law 800 = .ok (.iconst 0, 1) := by decide +kernel
theorem dL_law_801 : decode cL_law 801 = .ok (.ireturn, 1) := by decide +kernel
theorem dL_law_802 : decode cL_law 802 = .ok (.iload 6, 2) := by decide +kernel
theorem dL_law_804 : decode cL_law 804 = .ok (.ifCond .ne 15, 3) := by decide +kernel
theorem dL_law_807 : decode cL_law 807 = .ok (.aload_n 3, 1) := by decide +kernel
theorem dL_law_808 : decode cL_law 808 = .ok (.iconst 0, 1) := by decide +kernel
theorem dL_law_809 : decode cL_law 809 = .ok (.laload, 1) := by decide +kernel
theorem dL_law_810 : decode cL_law 810 = .ok (.iload 7, 2) := by decide +kernel
theorem dL_law_812 : decode cL_law 812 = .ok (.i2l, 1) := by decide +kernel
theorem dL_law_813 : decode cL_law 813 = .ok (.lcmp, 1) := by decide +kernel
theorem dL_law_814 : decode cL_law 814 = .ok (.ifCond .eq 5, 3) := by decide +kernel
theorem dL_law_817 : decode cL_law 817 = .ok (.iconst 0, 1) := by decide +kernel
theorem dL_law_818 : decode cL_law 818 = .ok (.ireturn, 1) := by decide +kernel
theorem dL_law_819 : decode cL_law 819 = .ok (.goto 724, 3) := by decide +kernel
theorem dL_law_822 : decode cL_law 822 = .ok (.aload_n 1, 1) := by decide +kernel
theorem dL_law_823 : decode cL_law 823 = .ok (.aload_n 0, 1) := by decide +kernel
theorem dL_law_824 : decode cL_law 824 = .ok (.iload 5, 2) := by decide +kernel
theorem dL_law_826 : decode cL_law 826 = .ok (.iconst 1, 1) := by decide +kernel
theorem dL_law_827 : decode cL_law 827 = .ok (.iadd, 1) := by decide +kernel
theorem dL_law_828 : decode cL_law 828 = .ok (.iaload, 1) := by decide +kernel
theorem dL_law_829 : decode cL_law 829 = .ok (.aload_n 0, 1) := by decide +kernel
theorem dL_law_830 : decode cL_law 830 = .ok (.iload 5, 2) := by decide +kernel
theorem dL_law_832 : decode cL_law 832 = .ok (.iconst 2, 1) := by decide +kernel
theorem dL_law_833 : decode cL_law 833 = .ok (.iadd, 1) := by decide +kernel
theorem dL_law_834 : decode cL_law 834 = .ok (.iaload, 1) := by decide +kernel
theorem dL_law_835 : decode cL_law 835 = .ok (.aload_n 0, 1) := by decide +kernel
theorem dL_law_836 : decode cL_law 836 = .ok (.iload 5, 2) := by decide +kernel
theorem dL_law_838 : decode cL_law 838 = .ok (.iconst 3, 1) := by decide +kernel
theorem dL_law_839 : decode cL_law 839 = .ok (.iadd, 1) := by decide +kernel
theorem dL_law_840 : decode cL_law 840 = .ok (.iaload, 1) := by decide +kernel
theorem dL_law_841 : decode cL_law 841 = .ok (.ifCond .eq 7, 3) := by decide +kernel
theorem dL_law_844 : decode cL_law 844 = .ok (.iconst 1, 1) := by decide +kernel
theorem dL_law_845 : decode cL_law 845 = .ok (.goto 4, 3) := by decide +kernel
theorem dL_law_848 : decode cL_law 848 = .ok (.iconst 0, 1) := by decide +kernel
theorem dL_law_849 : decode cL_law 849 = .ok (.aload_n 3, 1) := by decide +kernel
theorem dL_law_850 : decode cL_law 850 = .ok (.invokestatic 138, 3) := by decide +kernel
theorem dL_law_853 : decode cL_law 853 = .ok (.istore 6, 2) := by decide +kernel
theorem dL_law_855 : decode cL_law 855 = .ok (.aload_n 2, 1) := by decide +kernel
theorem dL_law_856 : decode cL_law 856 = .ok (.aload_n 0, 1) := by decide +kernel
theorem dL_law_857 : decode cL_law 857 = .ok (.iload 5, 2) := by decide +kernel
theorem dL_law_859 : decode cL_law 859 = .ok (.iconst 1, 1) := by decide +kernel
theorem dL_law_860 : decode cL_law 860 = .ok (.iadd, 1) := by decide +kernel
theorem dL_law_861 : decode cL_law 861 = .ok (.iaload, 1) := by decide +kernel
theorem dL_law_862 : decode cL_law 862 = .ok (.aload_n 0, 1) := by decide +kernel
theorem dL_law_863 : decode cL_law 863 = .ok (.iload 5, 2) := by decide +kernel
theorem dL_law_865 : decode cL_law 865 = .ok (.iconst 2, 1) := by decide +kernel
theorem dL_law_866 : decode cL_law 866 = .ok (.iadd, 1) := by decide +kernel
theorem dL_law_867 : decode cL_law 867 = .ok (.iaload, 1) := by decide +kernel
theorem dL_law_868 : decode cL_law 868 = .ok (.aload_n 0, 1) := by decide +kernel
theorem dL_law_869 : decode cL_law 869 = .ok (.iload 5, 2) := by decide +kernel
theorem dL_law_871 : decode cL_law 871 = .ok (.iconst 3, 1) := by decide +kernel
theorem dL_law_872 : decode cL_law 872 = .ok (.iadd, 1) := by decide +kernel
theorem dL_law_873 : decode cL_law 873 = .ok (.iaload, 1) := by decide +kernel
theorem dL_law_874 : decode cL_law 874 = .ok (.ifCond .eq 7, 3) := by decide +kernel
theorem dL_law_877 : decode cL_law 877 = .ok (.iconst 1, 1) := by decide +kernel
theorem dL_law_878 : decode cL_law 878 = .ok (.goto 4, 3) := by decide +kernel
theorem dL_law_881 : decode cL_law 881 = .ok (.iconst 0, 1) := by decide +kernel
theorem dL_law_882 : decode cL_law 882 = .ok (.invokevirtual 141, 3) := by decide +kernel
theorem dL_law_885 : decode cL_law 885 = .ok (.istore 7, 2) := by decide +kernel
theorem dL_law_887 : decode cL_law 887 = .ok (.aload_n 2, 1) := by decide +kernel
theorem dL_law_888 : decode cL_law 888 = .ok (.invokevirtual 92, 3) := by decide +kernel
theorem dL_law_891 : decode cL_law 891 = .ok (.iload 6, 2) := by decide +kernel
theorem dL_law_893 : decode cL_law 893 = .ok (.if_icmp .eq 5, 3) := by decide +kernel
theorem dL_law_896 : decode cL_law 896 = .ok (.iconst 0, 1) := by decide +kernel
theorem dL_law_897 : decode cL_law 897 = .ok (.ireturn, 1) := by decide +kernel
theorem dL_law_898 : decode cL_law 898 = .ok (.iload 6, 2) := by decide +kernel
theorem dL_law_900 : decode cL_law 900 = .ok (.ifCond .ne 15, 3) := by decide +kernel
theorem dL_law_903 : decode cL_law 903 = .ok (.aload_n 3, 1) := by decide +kernel
theorem dL_law_904 : decode cL_law 904 = .ok (.iconst 0, 1) := by decide +kernel
theorem dL_law_905 : decode cL_law 905 = .ok (.laload, 1) := by decide +kernel
theorem dL_law_906 : decode cL_law 906 = .ok (.iload 7, 2) := by decide +kernel
theorem dL_law_908 : decode cL_law 908 = .ok (.i2l, 1) := by decide +kernel
theorem dL_law_909 : decode cL_law 909 = .ok (.lcmp, 1) := by decide +kernel
theorem dL_law_910 : decode cL_law 910 = .ok (.ifCond .eq 5, 3) := by decide +kernel
theorem dL_law_913 : decode cL_law 913 = .ok (.iconst 0, 1) := by decide +kernel
theorem dL_law_914 : decode cL_law 914 = .ok (.ireturn, 1) := by decide +kernel
theorem dL_law_915 : decode cL_law 915 = .ok (.goto 628, 3) := by decide +kernel
theorem dL_law_918 : decode cL_law 918 = .ok (.aload_n 1, 1) := by decide +kernel
theorem dL_law_919 : decode cL_law 919 = .ok (.aload_n 0, 1) := by decide +kernel
theorem dL_law_920 : decode cL_law 920 = .ok (.iload 5, 2) := by decide +kernel
theorem dL_law_922 : decode cL_law 922 = .ok (.iconst 1, 1) := by decide +kernel
theorem dL_law_923 : decode cL_law 923 = .ok (.iadd, 1) := by decide +kernel
theorem dL_law_924 : decode cL_law 924 = .ok (.iaload, 1) := by decide +kernel
theorem dL_law_925 : decode cL_law 925 = .ok (.aload_n 3, 1) := by decide +kernel
theorem dL_law_926 : decode cL_law 926 = .ok (.invokestatic 142, 3) := by decide +kernel
theorem dL_law_929 : decode cL_law 929 = .ok (.istore 6, 2) := by decide +kernel
theorem dL_law_931 : decode cL_law 931 = .ok (.aload_n 2, 1) := by decide +kernel
theorem dL_law_932 : decode cL_law 932 = .ok (.aload_n 0, 1) := by decide +kernel
theorem dL_law_933 : decode cL_law 933 = .ok (.iload 5, 2) := by decide +kernel
theorem dL_law_935 : decode cL_law 935 = .ok (.iconst 1, 1) := by decide +kernel
theorem dL_law_936 : decode cL_law 936 = .ok (.iadd, 1) := by decide +kernel
theorem dL_law_937 : decode cL_law 937 = .ok (.iaload, 1) := by decide +kernel
theorem dL_law_938 : decode cL_law 938 = .ok (.invokevirtual 144, 3) := by decide +kernel
theorem dL_law_941 : decode cL_law 941 = .ok (.istore 7, 2) := by decide +kernel
theorem dL_law_943 : decode cL_law 943 = .ok (.aload_n 2, 1) := by decide +kernel
theorem dL_law_944 : decode cL_law 944 = .ok (.invokevirtual 92, 3) := by decide +kernel
theorem dL_law_947 : decode cL_law 947 = .ok (.iload 6, 2) := by decide +kernel
theorem dL_law_949 : decode cL_law 949 = .ok (.if_icmp .eq 5, 3) := by decide +kernel
theorem dL_law_952 : decode cL_law 952 = .ok (.iconst 0, 1) := by decide +kernel
theorem dL_law_953 : decode cL_law 953 = .ok (.ireturn, 1) := by decide +kernel
theorem dL_law_954 : decode cL_law 954 = .ok (.iload 6, 2) := by decide +kernel
theorem dL_law_956 : decode cL_law 956 = .ok (.ifCond .ne 15, 3) := by decide +kernel
theorem dL_law_959 : decode cL_law 959 = .ok (.aload_n 3, 1) := by decide +kernel
theorem dL_law_960 : decode cL_law 960 = .ok (.iconst 0, 1) := by decide +kernel
theorem dL_law_961 : decode cL_law 961 = .ok (.laload, 1) := by decide +kernel
theorem dL_law_962 : decode cL_law 962 = .ok (.iload 7, 2) := by decide +kernel
theorem dL_law_964 : decode cL_law 964 = .ok (.i2l, 1) := by decide +kernel
theorem dL_law_965 : decode cL_law 965 = .ok (.lcmp, 1) := by decide +kernel
theorem dL_law_966 : decode cL_law 966 = .ok (.ifCond .eq 5, 3) := by decide +kernel
theorem dL_law_969 : decode cL_law 969 = .ok (.iconst 0, 1) := by decide +kernel
theorem dL_law_970 : decode cL_law 970 = .ok (.ireturn, 1) := by decide +kernel
theorem dL_law_971 : decode cL_law 971 = .ok (.goto 572, 3) := by decide +kernel
theorem dL_law_974 : decode cL_law 974 = .ok (.aload_n 1, 1) := by decide +kernel
theorem dL_law_975 : decode cL_law 975 = .ok (.aload_n 0, 1) := by decide +kernel
theorem dL_law_976 : decode cL_law 976 = .ok (.iload 5, 2) := by decide +kernel
theorem dL_law_978 : decode cL_law 978 = .ok (.iconst 1, 1) := by decide +kernel
theorem dL_law_979 : decode cL_law 979 = .ok (.iadd, 1) := by decide +kernel
theorem dL_law_980 : decode cL_law 980 = .ok (.iaload, 1) := by decide +kernel
theorem dL_law_981 : decode cL_law 981 = .ok (.aload_n 0, 1) := by decide +kernel
theorem dL_law_982 : decode cL_law 982 = .ok (.iload 5, 2) := by decide +kernel
theorem dL_law_984 : decode cL_law 984 = .ok (.iconst 2, 1) := by decide +kernel
theorem dL_law_985 : decode cL_law 985 = .ok (.iadd, 1) := by decide +kernel
theorem dL_law_986 : decode cL_law 986 = .ok (.iaload, 1) := by decide +kernel
theorem dL_law_987 : decode cL_law 987 = .ok (.aload_n 0, 1) := by decide +kernel
theorem dL_law_988 : decode cL_law 988 = .ok (.iload 5, 2) := by decide +kernel
theorem dL_law_990 : decode cL_law 990 = .ok (.iconst 3, 1) := by decide +kernel
theorem dL_law_991 : decode cL_law 991 = .ok (.iadd, 1) := by decide +kernel
theorem dL_law_992 : decode cL_law 992 = .ok (.iaload, 1) := by decide +kernel
theorem dL_law_993 : decode cL_law 993 = .ok (.ifCond .eq 7, 3) := by decide +kernel
theorem dL_law_996 : decode cL_law 996 = .ok (.iconst 1, 1) := by decide +kernel
theorem dL_law_997 : decode cL_law 997 = .ok (.goto 4, 3) := by decide +kernel
theorem dL_law_1000 : decode cL_law 1000 = .ok (.iconst 0, 1) := by decide +kernel
theorem dL_law_1001 : decode cL_law 1001 = .ok (.aload_n 3, 1) := by decide +kernel
theorem dL_law_1002 : decode cL_law 1002 = .ok (.invokestatic 145, 3) := by decide +kernel
theorem dL_law_1005 : decode cL_law 1005 = .ok (.istore 6, 2) := by decide +kernel
theorem dL_law_1007 : decode cL_law 1007 = .ok (.aload_n 2, 1) := by decide +kernel
theorem dL_law_1008 : decode cL_law 1008 = .ok (.aload_n 0, 1) := by decide +kernel
theorem dL_law_1009 : decode cL_law 1009 = .ok (.iload 5, 2) := by decide +kernel
theorem dL_law_1011 : decode cL_law 1011 = .ok (.iconst 1, 1) := by decide +kernel
theorem dL_law_1012 : decode cL_law 1012 = .ok (.iadd, 1) := by decide +kernel
theorem dL_law_1013 : decode cL_law 1013 = .ok (.iaload, 1) := by decide +kernel
theorem dL_law_1014 : decode cL_law 1014 = .ok (.aload_n 0, 1) := by decide +kernel
theorem dL_law_1015 : decode cL_law 1015 = .ok (.iload 5, 2) := by decide +kernel
theorem dL_law_1017 : decode cL_law 1017 = .ok (.iconst 2, 1) := by decide +kernel
theorem dL_law_1018 : decode cL_law 1018 = .ok (.iadd, 1) := by decide +kernel
theorem dL_law_1019 : decode cL_law 1019 = .ok (.iaload, 1) := by decide +kernel
theorem dL_law_1020 : decode cL_law 1020 = .ok (.aload_n 0, 1) := by decide +kernel
theorem dL_law_1021 : decode cL_law 1021 = .ok (.iload 5, 2) := by decide +kernel
theorem dL_law_1023 : decode cL_law 1023 = .ok (.iconst 3, 1) := by decide +kernel
theorem dL_law_1024 : decode cL_law 1024 = .ok (.iadd, 1) := by decide +kernel
theorem dL_law_1025 : decode cL_law 1025 = .ok (.iaload, 1) := by decide +kernel
theorem dL_law_1026 : decode cL_law 1026 = .ok (.ifCond .eq 7, 3) := by decide +kernel
theorem dL_law_1029 : decode cL_law 1029 = .ok (.iconst 1, 1) := by decide +kernel
theorem dL_law_1030 : decode cL_law 1030 = .ok (.goto 4, 3) := by decide +kernel
theorem dL_law_1033 : decode cL_law 1033 = .ok (.iconst 0, 1) := by decide +kernel
theorem dL_law_1034 : decode cL_law 1034 = .ok (.invokevirtual 147, 3) := by decide +kernel
theorem dL_law_1037 : decode cL_law 1037 = .ok (.istore 7, 2) := by decide +kernel
theorem dL_law_1039 : decode cL_law 1039 = .ok (.aload_n 2, 1) := by decide +kernel
theorem dL_law_1040 : decode cL_law 1040 = .ok (.invokevirtual 92, 3) := by decide +kernel
theorem dL_law_1043 : decode cL_law 1043 = .ok (.iload 6, 2) := by decide +kernel
theorem dL_law_1045 : decode cL_law 1045 = .ok (.if_icmp .eq 5, 3) := by decide +kernel
theorem dL_law_1048 : decode cL_law 1048 = .ok (.iconst 0, 1) := by decide +kernel
theorem dL_law_1049 : decode cL_law 1049 = .ok (.ireturn, 1) := by decide +kernel
theorem dL_law_1050 : decode cL_law 1050 = .ok (.iload 6, 2) := by decide +kernel
theorem dL_law_1052 : decode cL_law 1052 = .ok (.ifCond .ne 15, 3) := by decide +kernel
theorem dL_law_1055 : decode cL_law 1055 = .ok (.aload_n 3, 1) := by decide +kernel
theorem dL_law_1056 : decode cL_law 1056 = .ok (.iconst 0, 1) := by decide +kernel
theorem dL_law_1057 : decode cL_law 1057 = .ok (.laload, 1) := by decide +kernel
theorem dL_law_1058 : decode cL_law 1058 = .ok (.iload 7, 2) := by decide +kernel
theorem dL_law_1060 : decode cL_law 1060 = .ok (.i2l, 1) := by decide +kernel
theorem dL_law_1061 : decode cL_law 1061 = .ok (.lcmp, 1) := by decide +kernel
theorem dL_law_1062 : decode cL_law 1062 = .ok (.ifCond .eq 5, 3) := by decide +kernel
theorem dL_law_1065 : decode cL_law 1065 = .ok (.iconst 0, 1) := by decide +kernel
theorem dL_law_1066 : decode cL_law 1066 = .ok (.ireturn, 1) := by decide +kernel
theorem dL_law_1067 : decode cL_law 1067 = .ok (.goto 476, 3) := by decide +kernel
theorem dL_law_1070 : decode cL_law 1070 = .ok (.aload_n 1, 1) := by decide +kernel
theorem dL_law_1071 : decode cL_law 1071 = .ok (.aload_n 0, 1) := by decide +kernel
theorem dL_law_1072 : decode cL_law 1072 = .ok (.iload 5, 2) := by decide +kernel
theorem dL_law_1074 : decode cL_law 1074 = .ok (.iconst 1, 1) := by decide +kernel
theorem dL_law_1075 : decode cL_law 1075 = .ok (.iadd, 1) := by decide +kernel
theorem dL_law_1076 : decode cL_law 1076 = .ok (.iaload, 1) := by decide +kernel
theorem dL_law_1077 : decode cL_law 1077 = .ok (.aload 4, 2) := by decide +kernel
theorem dL_law_1079 : decode cL_law 1079 = .ok (.invokestatic 148, 3) := by decide +kernel
theorem dL_law_1082 : decode cL_law 1082 = .ok (.istore 6, 2) := by decide +kernel
theorem dL_law_1084 : decode cL_law 1084 = .ok (.aload_n 2, 1) := by decide +kernel
theorem dL_law_1085 : decode cL_law 1085 = .ok (.aload_n 0, 1) := by decide +kernel
theorem dL_law_1086 : decode cL_law 1086 = .ok (.iload 5, 2) := by decide +kernel
theorem dL_law_1088 : decode cL_law 1088 = .ok (.iconst 1, 1) := by decide +kernel
theorem dL_law_1089 : decode cL_law 1089 = .ok (.iadd, 1) := by decide +kernel
theorem dL_law_1090 : decode cL_law 1090 = .ok (.iaload, 1) := by decide +kernel
theorem dL_law_1091 : decode cL_law 1091 = .ok (.invokevirtual 151, 3) := by decide +kernel
theorem dL_law_1094 : decode cL_law 1094 = .ok (.dstore 7, 2) := by decide +kernel
theorem dL_law_1096 : decode cL_law 1096 = .ok (.aload_n 2, 1) := by decide +kernel
theorem dL_law_1097 : decode cL_law 1097 = .ok (.invokevirtual 92, 3) := by decide +kernel
theorem dL_law_1100 : decode cL_law 1100 = .ok (.iload 6, 2) := by decide +kernel
theorem dL_law_1102 : decode cL_law 1102 = .ok (.if_icmp .eq 5, 3) := by decide +kernel
theorem dL_law_1105 : decode cL_law 1105 = .ok (.iconst 0, 1) := by decide +kernel
theorem dL_law_1106 : decode cL_law 1106 = .ok (.ireturn, 1) := by decide +kernel
theorem dL_law_1107 : decode cL_law 1107 = .ok (.iload 6, 2) := by decide +kernel
theorem dL_law_1109 : decode cL_law 1109 = .ok (.ifCond .ne 35, 3) := by decide +kernel
theorem dL_law_1112 : decode cL_law 1112 = .ok (.aload 4, 2) := by decide +kernel
theorem dL_law_1114 : decode cL_law 1114 = .ok (.iconst 0, 1) := by decide +kernel
theorem dL_law_1115 : decode cL_law 1115 = .ok (.daload, 1) := by decide +kernel
theorem dL_law_1116 : decode cL_law 1116 = .ok (.dload 7, 2) := by decide +kernel
theorem dL_law_1118 : decode cL_law 1118 = .ok (.dcmp .l, 1) := by decide +kernel
theorem dL_law_1119 : decode cL_law 1119 = .ok (.ifCond .eq 25, 3) := by decide +kernel
theorem dL_law_1122 : decode cL_law 1122 = .ok (.aload 4, 2) := by decide +kernel
theorem dL_law_1124 : decode cL_law 1124 = .ok (.iconst 0, 1) := by decide +kernel
theorem dL_law_1125 : decode cL_law 1125 = .ok (.daload, 1) := by decide +kernel
theorem dL_law_1126 : decode cL_law 1126 = .ok (.aload 4, 2) := by decide +kernel
theorem dL_law_1128 : decode cL_law 1128 = .ok (.iconst 0, 1) := by decide +kernel
theorem dL_law_1129 : decode cL_law 1129 = .ok (.daload, 1) := by decide +kernel
theorem dL_law_1130 : decode cL_law 1130 = .ok (.dcmp .l, 1) := by decide +kernel
theorem dL_law_1131 : decode cL_law 1131 = .ok (.ifCond .eq 11, 3) := by decide +kernel
theorem dL_law_1134 : decode cL_law 1134 = .ok (.dload 7, 2) := by decide +kernel
theorem dL_law_1136 : decode cL_law 1136 = .ok (.dload 7, 2) := by decide +kernel
theorem dL_law_1138 : decode cL_law 1138 = .ok (.dcmp .l, 1) := by decide +kernel
theorem dL_law_1139 : decode cL_law 1139 = .ok (.ifCond .ne 5, 3) := by decide +kernel
theorem dL_law_1142 : decode cL_law 1142 = .ok (.iconst 0, 1) := by decide +kernel
theorem dL_law_1143 : decode cL_law 1143 = .ok (.ireturn, 1) := by decide +kernel
theorem dL_law_1144 : decode cL_law 1144 = .ok (.goto 399, 3) := by decide +kernel
theorem dL_law_1147 : decode cL_law 1147 = .ok (.aload_n 1, 1) := by decide +kernel
theorem dL_law_1148 : decode cL_law 1148 = .ok (.aload_n 0, 1) := by decide +kernel
theorem dL_law_1149 : decode cL_law 1149 = .ok (.iload 5, 2) := by decide +kernel
theorem dL_law_1151 : decode cL_law 1151 = .ok (.iconst 1, 1) := by decide +kernel
theorem dL_law_1152 : decode cL_law 1152 = .ok (.iadd, 1) := by decide +kernel
theorem dL_law_1153 : decode cL_law 1153 = .ok (.iaload, 1) := by decide +kernel
theorem dL_law_1154 : decode cL_law 1154 = .ok (.aload_n 0, 1) := by decide +kernel
theorem dL_law_1155 : decode cL_law 1155 = .ok (.iload 5, 2) := by decide +kernel
theorem dL_law_1157 : decode cL_law 1157 = .ok (.iconst 2, 1) := by decide +kernel
theorem dL_law_1158 : decode cL_law 1158 = .ok (.iadd, 1) := by decide +kernel
theorem dL_law_1159 : decode cL_law 1159 = .ok (.iaload, 1) := by decide +kernel
theorem dL_law_1160 : decode cL_law 1160 = .ok (.aload_n 0, 1) := by decide +kernel
theorem dL_law_1161 : decode cL_law 1161 = .ok (.iload 5, 2) := by decide +kernel
theorem dL_law_1163 : decode cL_law 1163 = .ok (.iconst 3, 1) := by decide +kernel
theorem dL_law_1164 : decode cL_law 1164 = .ok (.iadd, 1) := by decide +kernel
theorem dL_law_1165 : decode cL_law 1165 = .ok (.iaload, 1) := by decide +kernel
theorem dL_law_1166 : decode cL_law 1166 = .ok (.aload_n 3, 1) := by decide +kernel
theorem dL_law_1167 : decode cL_law 1167 = .ok (.invokestatic 152, 3) := by decide +kernel
theorem dL_law_1170 : decode cL_law 1170 = .ok (.istore 6, 2) := by decide +kernel
theorem dL_law_1172 : decode cL_law 1172 = .ok (.aload_n 2, 1) := by decide +kernel
theorem dL_law_1173 : decode cL_law 1173 = .ok (.aload_n 0, 1) := by decide +kernel
theorem dL_law_1174 : decode cL_law 1174 = .ok (.iload 5, 2) := by decide +kernel
theorem dL_law_1176 : decode cL_law 1176 = .ok (.iconst 1, 1) := by decide +kernel
theorem dL_law_1177 : decode cL_law 1177 = .ok (.iadd, 1) := by decide +kernel
theorem dL_law_1178 : decode cL_law 1178 = .ok (.iaload, 1) := by decide +kernel
theorem dL_law_1179 : decode cL_law 1179 = .ok (.aload_n 0, 1) := by decide +kernel
theorem dL_law_1180 : decode cL_law 1180 = .ok (.iload 5, 2) := by decide +kernel
theorem dL_law_1182 : decode cL_law 1182 = .ok (.iconst 2, 1) := by decide +kernel
theorem dL_law_1183 : decode cL_law 1183 = .ok (.iadd, 1) := by decide +kernel
theorem dL_law_1184 : decode cL_law 1184 = .ok (.iaload, 1) := by decide +kernel
theorem dL_law_1185 : decode cL_law 1185 = .ok (.aload_n 0, 1) := by decide +kernel
theorem dL_law_1186 : decode cL_law 1186 = .ok (.iload 5, 2) := by decide +kernel
theorem dL_law_1188 : decode cL_law 1188 = .ok (.iconst 3, 1) := by decide +kernel
theorem dL_law_1189 : decode cL_law 1189 = .ok (.iadd, 1) := by decide +kernel
theorem dL_law_1190 : decode cL_law 1190 = .ok (.iaload, 1) := by decide +kernel
theorem dL_law_1191 : decode cL_law 1191 = .ok (.invokevirtual 154, 3) := by decide +kernel
theorem dL_law_1194 : decode cL_law 1194 = .ok (.istore 7, 2) := by decide +kernel
theorem dL_law_1196 : decode cL_law 1196 = .ok (.aload_n 2, 1) := by decide +kernel
theorem dL_law_1197 : decode cL_law 1197 = .ok (.invokevirtual 92, 3) := by decide +kernel
theorem dL_law_1200 : decode cL_law 1200 = .ok (.iload 6, 2) := by decide +kernel
theorem dL_law_1202 : decode cL_law 1202 = .ok (.if_icmp .eq 5, 3) := by decide +kernel
theorem dL_law_1205 : decode cL_law 1205 = .ok (.iconst 0, 1) := by decide +kernel
theorem dL_law_1206 : decode cL_law 1206 = .ok (.ireturn, 1) := by decide +kernel
theorem dL_law_1207 : decode cL_law 1207 = .ok (.iload 6, 2) := by decide +kernel
theorem dL_law_1209 : decode cL_law 1209 = .ok (.ifCond .ne 15, 3) := by decide +kernel
theorem dL_law_1212 : decode cL_law 1212 = .ok (.aload_n 3, 1) := by decide +kernel
theorem dL_law_1213 : decode cL_law 1213 = .ok (.iconst 0, 1) := by decide +kernel
theorem dL_law_1214 : decode cL_law 1214 = .ok (.laload, 1) := by decide +kernel
theorem dL_law_1215 : decode cL_law 1215 = .ok (.iload 7, 2) := by decide +kernel
theorem dL_law_1217 : decode cL_law 1217 = .ok (.i2l, 1) := by decide +kernel
theorem dL_law_1218 : decode cL_law 1218 = .ok (.lcmp, 1) := by decide +kernel
theorem dL_law_1219 : decode cL_law 1219 = .ok (.ifCond .eq 5, 3) := by decide +kernel
theorem dL_law_1222 : decode cL_law 1222 = .ok (.iconst 0, 1) := by decide +kernel
theorem dL_law_1223 : decode cL_law 1223 = .ok (.ireturn, 1) := by decide +kernel
theorem dL_law_1224 : decode cL_law 1224 = .ok (.goto 319, 3) := by decide +kernel
theorem dL_law_1227 : decode cL_law 1227 = .ok (.aload_n 1, 1) := by decide +kernel
theorem dL_law_1228 : decode cL_law 1228 = .ok (.aload_n 0, 1) := by decide +kernel
theorem dL_law_1229 : decode cL_law 1229 = .ok (.iload 5, 2) := by decide +kernel
theorem dL_law_1231 : decode cL_law 1231 = .ok (.iconst 1, 1) := by decide +kernel
theorem dL_law_1232 : decode cL_law 1232 = .ok (.iadd, 1) := by decide +kernel
theorem dL_law_1233 : decode cL_law 1233 = .ok (.iaload, 1) := by decide +kernel
theorem dL_law_1234 : decode cL_law 1234 = .ok (.aload_n 0, 1) := by decide +kernel
theorem dL_law_1235 : decode cL_law 1235 = .ok (.iload 5, 2) := by decide +kernel
theorem dL_law_1237 : decode cL_law 1237 = .ok (.iconst 2, 1) := by decide +kernel
theorem dL_law_1238 : decode cL_law 1238 = .ok (.iadd, 1) := by decide +kernel
theorem dL_law_1239 : decode cL_law 1239 = .ok (.iaload, 1) := by decide +kernel
theorem dL_law_1240 : decode cL_law 1240 = .ok (.aload_n 0, 1) := by decide +kernel
theorem dL_law_1241 : decode cL_law 1241 = .ok (.iload 5, 2) := by decide +kernel
theorem dL_law_1243 : decode cL_law 1243 = .ok (.iconst 3, 1) := by decide +kernel
theorem dL_law_1244 : decode cL_law 1244 = .ok (.iadd, 1) := by decide +kernel
theorem dL_law_1245 : decode cL_law 1245 = .ok (.iaload, 1) := by decide +kernel
theorem dL_law_1246 : decode cL_law 1246 = .ok (.aload_n 3, 1) := by decide +kernel
theorem dL_law_1247 : decode cL_law 1247 = .ok (.invokestatic 155, 3) := by decide +kernel
theorem dL_law_1250 : decode cL_law 1250 = .ok (.istore 6, 2) := by decide +kernel
theorem dL_law_1252 : decode cL_law 1252 = .ok (.aload_n 2, 1) := by decide +kernel
theorem dL_law_1253 : decode cL_law 1253 = .ok (.aload_n 0, 1) := by decide +kernel
theorem dL_law_1254 : decode cL_law 1254 = .ok (.iload 5, 2) := by decide +kernel
theorem dL_law_1256 : decode cL_law 1256 = .ok (.iconst 1, 1) := by decide +kernel
theorem dL_law_1257 : decode cL_law 1257 = .ok (.iadd, 1) := by decide +kernel
theorem dL_law_1258 : decode cL_law 1258 = .ok (.iaload, 1) := by decide +kernel
theorem dL_law_1259 : decode cL_law 1259 = .ok (.aload_n 0, 1) := by decide +kernel
theorem dL_law_1260 : decode cL_law 1260 = .ok (.iload 5, 2) := by decide +kernel
theorem dL_law_1262 : decode cL_law 1262 = .ok (.iconst 2, 1) := by decide +kernel
theorem dL_law_1263 : decode cL_law 1263 = .ok (.iadd, 1) := by decide +kernel
theorem dL_law_1264 : decode cL_law 1264 = .ok (.iaload, 1) := by decide +kernel
theorem dL_law_1265 : decode cL_law 1265 = .ok (.aload_n 0, 1) := by decide +kernel
theorem dL_law_1266 : decode cL_law 1266 = .ok (.iload 5, 2) := by decide +kernel
theorem dL_law_1268 : decode cL_law 1268 = .ok (.iconst 3, 1) := by decide +kernel
theorem dL_law_1269 : decode cL_law 1269 = .ok (.iadd, 1) := by decide +kernel
theorem dL_law_1270 : decode cL_law 1270 = .ok (.iaload, 1) := by decide +kernel
theorem dL_law_1271 : decode cL_law 1271 = .ok (.invokevirtual 157, 3) := by decide +kernel
theorem dL_law_1274 : decode cL_law 1274 = .ok (.lstore 7, 2) := by decide +kernel
theorem dL_law_1276 : decode cL_law 1276 = .ok (.aload_n 2, 1) := by decide +kernel
theorem dL_law_1277 : decode cL_law 1277 = .ok (.invokevirtual 92, 3) := by decide +kernel
theorem dL_law_1280 : decode cL_law 1280 = .ok (.iload 6, 2) := by decide +kernel
theorem dL_law_1282 : decode cL_law 1282 = .ok (.if_icmp .eq 5, 3) := by decide +kernel
theorem dL_law_1285 : decode cL_law 1285 = .ok (.iconst 0, 1) := by decide +kernel
theorem dL_law_1286 : decode cL_law 1286 = .ok (.ireturn, 1) := by decide +kernel
theorem dL_law_1287 : decode cL_law 1287 = .ok (.iload 6, 2) := by decide +kernel
theorem dL_law_1289 : decode cL_law 1289 = .ok (.ifCond .ne 14, 3) := by decide +kernel
theorem dL_law_1292 : decode cL_law 1292 = .ok (.aload_n 3, 1) := by decide +kernel
theorem dL_law_1293 : decode cL_law 1293 = .ok (.iconst 0, 1) := by decide +kernel
theorem dL_law_1294 : decode cL_law 1294 = .ok (.laload, 1) := by decide +kernel
theorem dL_law_1295 : decode cL_law 1295 = .ok (.lload 7, 2) := by decide +kernel
theorem dL_law_1297 : decode cL_law 1297 = .ok (.lcmp, 1) := by decide +kernel
theorem dL_law_1298 : decode cL_law 1298 = .ok (.ifCond .eq 5, 3) := by decide +kernel
theorem dL_law_1301 : decode cL_law 1301 = .ok (.iconst 0, 1) := by decide +kernel
theorem dL_law_1302 : decode cL_law 1302 = .ok (.ireturn, 1) := by decide +kernel
theorem dL_law_1303 : decode cL_law 1303 = .ok (.goto 240, 3) := by decide +kernel
theorem dL_law_1306 : decode cL_law 1306 = .ok (.aload_n 1, 1) := by decide +kernel
theorem dL_law_1307 : decode cL_law 1307 = .ok (.aload_n 0, 1) := by decide +kernel
theorem dL_law_1308 : decode cL_law 1308 = .ok (.iload 5, 2) := by decide +kernel
theorem dL_law_1310 : decode cL_law 1310 = .ok (.iconst 1, 1) := by decide +kernel
theorem dL_law_1311 : decode cL_law 1311 = .ok (.iadd, 1) := by decide +kernel
theorem dL_law_1312 : decode cL_law 1312 = .ok (.iaload, 1) := by decide +kernel
theorem dL_law_1313 : decode cL_law 1313 = .ok (.i2l, 1) := by decide +kernel
theorem dL_law_1314 : decode cL_law 1314 = .ok (.bipush 32, 2) := by decide +kernel
theorem dL_law_1316 : decode cL_law 1316 = .ok (.lshl, 1) := by decide +kernel
theorem dL_law_1317 : decode cL_law 1317 = .ok (.aload_n 0, 1) := by decide +kernel
theorem dL_law_1318 : decode cL_law 1318 = .ok (.iload 5, 2) := by decide +kernel
theorem dL_law_1320 : decode cL_law 1320 = .ok (.iconst 2, 1) := by decide +kernel
theorem dL_law_1321 : decode cL_law 1321 = .ok (.iadd, 1) := by decide +kernel
theorem dL_law_1322 : decode cL_law 1322 = .ok (.iaload, 1) := by decide +kernel
theorem dL_law_1323 : decode cL_law 1323 = .ok (.i2l, 1) := by decide +kernel
theorem dL_law_1324 : decode cL_law 1324 = .ok (.ldc2_w 158, 3) := by decide +kernel
theorem dL_law_1327 : decode cL_law 1327 = .ok (.land, 1) := by decide +kernel
theorem dL_law_1328 : decode cL_law 1328 = .ok (.lor, 1) := by decide +kernel
theorem dL_law_1329 : decode cL_law 1329 = .ok (.aload_n 0, 1) := by decide +kernel
theorem dL_law_1330 : decode cL_law 1330 = .ok (.iload 5, 2) := by decide +kernel
theorem dL_law_1332 : decode cL_law 1332 = .ok (.iconst 3, 1) := by decide +kernel
theorem dL_law_1333 : decode cL_law 1333 = .ok (.iadd, 1) := by decide +kernel
theorem dL_law_1334 : decode cL_law 1334 = .ok (.iaload, 1) := by decide +kernel
theorem dL_law_1335 : decode cL_law 1335 = .ok (.aload_n 3, 1) := by decide +kernel
theorem dL_law_1336 : decode cL_law 1336 = .ok (.invokestatic 160, 3) := by decide +kernel
theorem dL_law_1339 : decode cL_law 1339 = .ok (.istore 6, 2) := by decide +kernel
theorem dL_law_1341 : decode cL_law 1341 = .ok (.aload_n 2, 1) := by decide +kernel
theorem dL_law_1342 : decode cL_law 1342 = .ok (.aload_n 0, 1) := by decide +kernel
theorem dL_law_1343 : decode cL_law 1343 = .ok (.iload 5, 2) := by decide +kernel
theorem dL_law_1345 : decode cL_law 1345 = .ok (.iconst 1, 1) := by decide +kernel
theorem dL_law_1346 : decode cL_law 1346 = .ok (.iadd, 1) := by decide +kernel
theorem dL_law_1347 : decode cL_law 1347 = .ok (.iaload, 1) := by decide +kernel
theorem dL_law_1348 : decode cL_law 1348 = .ok (.i2l, 1) := by decide +kernel
theorem dL_law_1349 : decode cL_law 1349 = .ok (.bipush 32, 2) := by decide +kernel
theorem dL_law_1351 : decode cL_law 1351 = .ok (.lshl, 1) := by decide +kernel
theorem dL_law_1352 : decode cL_law 1352 = .ok (.aload_n 0, 1) := by decide +kernel
theorem dL_law_1353 : decode cL_law 1353 = .ok (.iload 5, 2) := by decide +kernel
theorem dL_law_1355 : decode cL_law 1355 = .ok (.iconst 2, 1) := by decide +kernel
theorem dL_law_1356 : decode cL_law 1356 = .ok (.iadd, 1) := by decide +kernel
theorem dL_law_1357 : decode cL_law 1357 = .ok (.iaload, 1) := by decide +kernel
theorem dL_law_1358 : decode cL_law 1358 = .ok (.i2l, 1) := by decide +kernel
theorem dL_law_1359 : decode cL_law 1359 = .ok (.ldc2_w 158, 3) := by decide +kernel
theorem dL_law_1362 : decode cL_law 1362 = .ok (.land, 1) := by decide +kernel
theorem dL_law_1363 : decode cL_law 1363 = .ok (.lor, 1) := by decide +kernel
theorem dL_law_1364 : decode cL_law 1364 = .ok (.aload_n 0, 1) := by decide +kernel
theorem dL_law_1365 : decode cL_law 1365 = .ok (.iload 5, 2) := by decide +kernel
theorem dL_law_1367 : decode cL_law 1367 = .ok (.iconst 3, 1) := by decide +kernel
theorem dL_law_1368 : decode cL_law 1368 = .ok (.iadd, 1) := by decide +kernel
theorem dL_law_1369 : decode cL_law 1369 = .ok (.iaload, 1) := by decide +kernel
theorem dL_law_1370 : decode cL_law 1370 = .ok (.invokevirtual 163, 3) := by decide +kernel
theorem dL_law_1373 : decode cL_law 1373 = .ok (.istore 7, 2) := by decide +kernel
theorem dL_law_1375 : decode cL_law 1375 = .ok (.aload_n 2, 1) := by decide +kernel
theorem dL_law_1376 : decode cL_law 1376 = .ok (.invokevirtual 92, 3) := by decide +kernel
theorem dL_law_1379 : decode cL_law 1379 = .ok (.iload 6, 2) := by decide +kernel
theorem dL_law_1381 : decode cL_law 1381 = .ok (.if_icmp .eq 5, 3) := by decide +kernel
theorem dL_law_1384 : decode cL_law 1384 = .ok (.iconst 0, 1) := by decide +kernel
theorem dL_law_1385 : decode cL_law 1385 = .ok (.ireturn, 1) := by decide +kernel
theorem dL_law_1386 : decode cL_law 1386 = .ok (.iload 6, 2) := by decide +kernel
theorem dL_law_1388 : decode cL_law 1388 = .ok (.ifCond .ne 15, 3) := by decide +kernel
theorem dL_law_1391 : decode cL_law 1391 = .ok (.aload_n 3, 1) := by decide +kernel
theorem dL_law_1392 : decode cL_law 1392 = .ok (.iconst 0, 1) := by decide +kernel
theorem dL_law_1393 : decode cL_law 1393 = .ok (.laload, 1) := by decide +kernel
theorem dL_law_1394 : decode cL_law 1394 = .ok (.iload 7, 2) := by decide +kernel
theorem dL_law_1396 : decode cL_law 1396 = .ok (.i2l, 1) := by decide +kernel
theorem dL_law_1397 : decode cL_law 1397 = .ok (.lcmp, 1) := by decide +kernel
theorem dL_law_1398 : decode cL_law 1398 = .ok (.ifCond .eq 5, 3) := by decide +kernel
theorem dL_law_1401 : decode cL_law 1401 = .ok (.iconst 0, 1) := by decide +kernel
theorem dL_law_1402 : decode cL_law 1402 = .ok (.ireturn, 1) := by decide +kernel
theorem dL_law_1403 : decode cL_law 1403 = .ok (.goto 140, 3) := by decide +kernel
theorem dL_law_1406 : decode cL_law 1406 = .ok (.aload_n 1, 1) := by decide +kernel
theorem dL_law_1407 : decode cL_law 1407 = .ok (.aload_n 0, 1) := by decide +kernel
theorem dL_law_1408 : decode cL_law 1408 = .ok (.iload 5, 2) := by decide +kernel
theorem dL_law_1410 : decode cL_law 1410 = .ok (.iconst 1, 1) := by decide +kernel
theorem dL_law_1411 : decode cL_law 1411 = .ok (.iadd, 1) := by decide +kernel
theorem dL_law_1412 : decode cL_law 1412 = .ok (.iaload, 1) := by decide +kernel
theorem dL_law_1413 : decode cL_law 1413 = .ok (.aload_n 0, 1) := by decide +kernel
theorem dL_law_1414 : decode cL_law 1414 = .ok (.iload 5, 2) := by decide +kernel
theorem dL_law_1416 : decode cL_law 1416 = .ok (.iconst 2, 1) := by decide +kernel
theorem dL_law_1417 : decode cL_law 1417 = .ok (.iadd, 1) := by decide +kernel
theorem dL_law_1418 : decode cL_law 1418 = .ok (.iaload, 1) := by decide +kernel
theorem dL_law_1419 : decode cL_law 1419 = .ok (.aload_n 3, 1) := by decide +kernel
theorem dL_law_1420 : decode cL_law 1420 = .ok (.invokestatic 164, 3) := by decide +kernel
theorem dL_law_1423 : decode cL_law 1423 = .ok (.istore 6, 2) := by decide +kernel
theorem dL_law_1425 : decode cL_law 1425 = .ok (.aload_n 2, 1) := by decide +kernel
theorem dL_law_1426 : decode cL_law 1426 = .ok (.aload_n 0, 1) := by decide +kernel
theorem dL_law_1427 : decode cL_law 1427 = .ok (.iload 5, 2) := by decide +kernel
theorem dL_law_1429 : decode cL_law 1429 = .ok (.iconst 1, 1) := by decide +kernel
theorem dL_law_1430 : decode cL_law 1430 = .ok (.iadd, 1) := by decide +kernel
theorem dL_law_1431 : decode cL_law 1431 = .ok (.iaload, 1) := by decide +kernel
theorem dL_law_1432 : decode cL_law 1432 = .ok (.aload_n 0, 1) := by decide +kernel
theorem dL_law_1433 : decode cL_law 1433 = .ok (.iload 5, 2) := by decide +kernel
theorem dL_law_1435 : decode cL_law 1435 = .ok (.iconst 2, 1) := by decide +kernel
theorem dL_law_1436 : decode cL_law 1436 = .ok (.iadd, 1) := by decide +kernel
theorem dL_law_1437 : decode cL_law 1437 = .ok (.iaload, 1) := by decide +kernel
theorem dL_law_1438 : decode cL_law 1438 = .ok (.invokevirtual 166, 3) := by decide +kernel
theorem dL_law_1441 : decode cL_law 1441 = .ok (.lstore 7, 2) := by decide +kernel
theorem dL_law_1443 : decode cL_law 1443 = .ok (.aload_n 2, 1) := by decide +kernel
theorem dL_law_1444 : decode cL_law 1444 = .ok (.invokevirtual 92, 3) := by decide +kernel
theorem dL_law_1447 : decode cL_law 1447 = .ok (.iload 6, 2) := by decide +kernel
theorem dL_law_1449 : decode cL_law 1449 = .ok (.if_icmp .eq 5, 3) := by decide +kernel
theorem dL_law_1452 : decode cL_law 1452 = .ok (.iconst 0, 1) := by decide +kernel
theorem dL_law_1453 : decode cL_law 1453 = .ok (.ireturn, 1) := by decide +kernel
theorem dL_law_1454 : decode cL_law 1454 = .ok (.iload 6, 2) := by decide +kernel
theorem dL_law_1456 : decode cL_law 1456 = .ok (.ifCond .ne 14, 3) := by decide +kernel
theorem dL_law_1459 : decode cL_law 1459 = .ok (.aload_n 3, 1) := by decide +kernel
theorem dL_law_1460 : decode cL_law 1460 = .ok (.iconst 0, 1) := by decide +kernel
theorem dL_law_1461 : decode cL_law 1461 = .ok (.laload, 1) := by decide +kernel
theorem dL_law_1462 : decode cL_law 1462 = .ok (.lload 7, 2) := by decide +kernel
theorem dL_law_1464 : decode cL_law 1464 = .ok (.lcmp, 1) := by decide +kernel
theorem dL_law_1465 : decode cL_law 1465 = .ok (.ifCond .eq 5, 3) := by decide +kernel
theorem dL_law_1468 : decode cL_law 1468 = .ok (.iconst 0, 1) := by decide +kernel
theorem dL_law_1469 : decode cL_law 1469 = .ok (.ireturn, 1) := by decide +kernel
theorem dL_law_1470 : decode cL_law 1470 = .ok (.goto 73, 3) := by decide +kernel
theorem dL_law_1473 : decode cL_law 1473 = .ok (.aload_n 1, 1) := by decide +kernel
theorem dL_law_1474 : decode cL_law 1474 = .ok (.aload_n 0, 1) := by decide +kernel
theorem dL_law_1475 : decode cL_law 1475 = .ok (.iload 5, 2) := by decide +kernel
theorem dL_law_1477 : decode cL_law 1477 = .ok (.iconst 1, 1) := by decide +kernel
theorem dL_law_1478 : decode cL_law 1478 = .ok (.iadd, 1) := by decide +kernel
theorem dL_law_1479 : decode cL_law 1479 = .ok (.iaload, 1) := by decide +kernel
theorem dL_law_1480 : decode cL_law 1480 = .ok (.aload_n 3, 1) := by decide +kernel
theorem dL_law_1481 : decode cL_law 1481 = .ok (.invokestatic 167, 3) := by decide +kernel
theorem dL_law_1484 : decode cL_law 1484 = .ok (.istore 6, 2) := by decide +kernel
theorem dL_law_1486 : decode cL_law 1486 = .ok (.aload_n 2, 1) := by decide +kernel
theorem dL_law_1487 : decode cL_law 1487 = .ok (.aload_n 0, 1) := by decide +kernel
theorem dL_law_1488 : decode cL_law 1488 = .ok (.iload 5, 2) := by decide +kernel
theorem dL_law_1490 : decode cL_law 1490 = .ok (.iconst 1, 1) := by decide +kernel
theorem dL_law_1491 : decode cL_law 1491 = .ok (.iadd, 1) := by decide +kernel
theorem dL_law_1492 : decode cL_law 1492 = .ok (.iaload, 1) := by decide +kernel
theorem dL_law_1493 : decode cL_law 1493 = .ok (.invokevirtual 169, 3) := by decide +kernel
theorem dL_law_1496 : decode cL_law 1496 = .ok (.istore 7, 2) := by decide +kernel
theorem dL_law_1498 : decode cL_law 1498 = .ok (.aload_n 2, 1) := by decide +kernel
theorem dL_law_1499 : decode cL_law 1499 = .ok (.invokevirtual 92, 3) := by decide +kernel
theorem dL_law_1502 : decode cL_law 1502 = .ok (.iload 6, 2) := by decide +kernel
theorem dL_law_1504 : decode cL_law 1504 = .ok (.if_icmp .eq 5, 3) := by decide +kernel
theorem dL_law_1507 : decode cL_law 1507 = .ok (.iconst 0, 1) := by decide +kernel
theorem dL_law_1508 : decode cL_law 1508 = .ok (.ireturn, 1) := by decide +kernel
theorem dL_law_1509 : decode cL_law 1509 = .ok (.iload 6, 2) := by decide +kernel
theorem dL_law_1511 : decode cL_law 1511 = .ok (.ifCond .ne 15, 3) := by decide +kernel
theorem dL_law_1514 : decode cL_law 1514 = .ok (.aload_n 3, 1) := by decide +kernel
theorem dL_law_1515 : decode cL_law 1515 = .ok (.iconst 0, 1) := by decide +kernel
theorem dL_law_1516 : decode cL_law 1516 = .ok (.laload, 1) := by decide +kernel
theorem dL_law_1517 : decode cL_law 1517 = .ok (.iload 7, 2) := by decide +kernel
theorem dL_law_1519 : decode cL_law 1519 = .ok (.i2l, 1) := by decide +kernel
theorem dL_law_1520 : decode cL_law 1520 = .ok (.lcmp, 1) := by decide +kernel
theorem dL_law_1521 : decode cL_law 1521 = .ok (.ifCond .eq 5, 3) := by decide +kernel
theorem dL_law_1524 : decode cL_law 1524 = .ok (.iconst 0, 1) := by decide +kernel
theorem dL_law_1525 : decode cL_law 1525 = .ok (.ireturn, 1) := by decide +kernel
theorem dL_law_1526 : decode cL_law 1526 = .ok (.goto 17, 3) := by decide +kernel
theorem dL_law_1529 : decode cL_law 1529 = .ok (.aload_n 1, 1) := by decide +kernel
theorem dL_law_1530 : decode cL_law 1530 = .ok (.invokevirtual 170, 3) := by decide +kernel
theorem dL_law_1533 : decode cL_law 1533 = .ok (.aload_n 2, 1) := by decide +kernel
theorem dL_law_1534 : decode cL_law 1534 = .ok (.invokevirtual 174, 3) := by decide +kernel
theorem dL_law_1537 : decode cL_law 1537 = .ok (.lcmp, 1) := by decide +kernel
theorem dL_law_1538 : decode cL_law 1538 = .ok (.ifCond .eq 5, 3) := by decide +kernel
theorem dL_law_1541 : decode cL_law 1541 = .ok (.iconst 0, 1) := by decide +kernel
theorem dL_law_1542 : decode cL_law 1542 = .ok (.ireturn, 1) := by decide +kernel
theorem dL_law_1543 : decode cL_law 1543 = .ok (.iinc 5 4, 3) := by decide +kernel
theorem dL_law_1546 : decode cL_law 1546 = .ok (.goto (-1518), 3) := by decide +kernel
theorem dL_law_1549 : decode cL_law 1549 = .ok (.iconst 1, 1) := by decide +kernel
theorem dL_law_1550 : decode cL_law 1550 = .ok (.ireturn, 1) := by decide +kernel
end
section
/-! ===== BEGIN a constructor that throws (launches without stack traces) ===== -/
section VXIA
variable {p : Program} {l : Launch} {e : Env} {R : Room} {s : State} {m : MethodId} {args : Array Value} {below : List Frame} {meth : Method} {c : Code} {T : State} {locs : List Loc} {cells slots : Nat}
theorem vx_callI (X : Stand p l e R s m args below meth c T locs cells slots) (hexec : p.tables.exec = Jvm.exec) {own : String} {index : Nat} {y : MethodName} {bytes : ByteArray} {maxL : Nat}
    (hown : s.vm.findClass own = some m.cls) (hy1 : y.name = "<init>") (hlink : (Cond.methodLink own index y).before args s = true) (hinst : (Cond.instanceMethod y).before args s = true)
    (hcode : (Cond.code y bytes maxL none).before args s = true) (hy : y.cls ≠ "java/lang/invoke/MethodHandle" ∧ y.cls ≠ "java/lang/invoke/VarHandle")
    {W9 : Nat} {Pre : Pt → Array Value → Prop} {Post : Pt → Array Value → Option Value → Pt → Prop} {PostX : Pt → Array Value → Addr → Pt → Prop} (hK : vx_Back l R p e below s args y 3 W9 Pre Post PostX)
    {g : JFrame} (hg : g.method = m) (hsize : g.locals.size = c.maxLocals) {a : Addr} {argsL rest : List Value} (hlen : ∀ sig, parseMethodDescriptor y.desc = some sig → argsL.length = sig.parameters.length)
    (hstack : g.stack = argsL.reverse ++ .ref a :: rest) (hW : 2 * g.monitorRoom + (rest.map fun v => v.category).sum ≤ W9) (hdg : decode c.code g.pc = .ok (.invokespecial index, 3))
    (hpre : ∀ vm₁, s.WarmedH vm₁ → Pre ⟨T.setVm vm₁, locs, cells, slots⟩ (Value.ref a :: argsL).toArray) :
    (∃ (v : Option Value) (vm₁ : Vm) (B : Pt), s.WarmedH vm₁ ∧ Stand p l e R s m args below meth c B.U B.locs B.cells B.slots ∧ Post ⟨T.setVm vm₁, locs, cells, slots⟩ (Value.ref a :: argsL).toArray v B ∧
      ∀ target, Steps p.tables e below (B.U.setTop { g with pc := g.pc + 3, stack := v.toList ++ rest }) target → Steps p.tables e below (T.setTop g) target) ∨
    (∃ (q : Addr) (vm₁ : Vm) (B : Pt), s.WarmedH vm₁ ∧ Stand p l e R s m args below meth c B.U B.locs B.cells B.slots ∧ PostX ⟨T.setVm vm₁, locs, cells, slots⟩ (Value.ref a :: argsL).toArray q B ∧
      Steps p.tables e below (T.setTop g) ((B.U.setTop { g with stack := rest }).pushFrame (.throwing q))) := by
  subst hg
  have hpl : e.platform.magicAccessors = ({} : Platform).magicAccessors := by rw [X.admits.platform]
  obtain ⟨mk, methM, cM, kP, vm₁, hnamed, hmethM, hcodeM, -, hlocalsM, -, hkP, -, hW₁, hstep₁⟩ := Steps.initColdArgs (e := e) X.here hexec X.warmed hpl hown hy1 hy hlink hinst hcode (f := g) rfl hlen hstack hdg
  have X₁ := X.noted hW₁
  rcases hK g.method meth c ⟨T.setVm vm₁, locs, cells, slots⟩ { g with stack := rest } (.invokespecial index) mk (Value.ref a :: argsL).toArray X₁ rfl hsize hdg hW (X₁.named hnamed) (hpre vm₁ X₁.warmed) with ⟨v, B, X', hpost, hsteps⟩ | ⟨q, B, X', hpost, hsteps⟩
  · exact Or.inl ⟨v, vm₁, B, X₁.warmed, X', hpost, fun target h => hstep₁ _ fun acts => by rw [doInvoke_state]; exact hsteps.trans h⟩
  · exact Or.inr ⟨q, vm₁, B, X₁.warmed, X', hpost, hstep₁ _ fun acts => by rw [doInvoke_state]; exact hsteps⟩
end VXIA
section VXIB
variable {p : Program} {l : Launch} {e : Env} {R : Room} {s : State} {m : MethodId} {args : Array Value} {below : List Frame} {meth : Method} {c : Code} {H : Heap} {locs : List Loc} {cells slots : Nat}
variable {y : MethodName} {bytes cc : ByteArray} {maxL nL mc ms n index : Nat} {ret : Option FieldType} {ws : List Cond} {rm : Room} {Pc : Array Value → State → Prop} {Qc : Array Value → State → Outcome → State → Prop} {XC : String → State → State → Prop} {free : Addr → Prop} {Ts : List Cond} {own C : String} {b : Addr} {As rest : List Value} {g : JFrame}
theorem vx_runI (S : CallFix p m c cc nL s args Ts own) (hM : vx_Met l y ws rm Pc Qc XC mc ms free) (cw : CallB R s args own index y bytes maxL none ws rm mc ms n ∧ y.name = "<init>" ∧ (Cond.instanceMethod y).before args s = true) (hp : PreS s H Pc (.ref b :: As))
    (hg : g.method = m) (hn : As.length = n) (hsize : g.locals.size = nL) (hstack : g.stack = As.reverse ++ .ref b :: rest) (hW : 2 * g.monitorRoom + (rest.map fun v => v.category).sum ≤ 8) (hdg : decode cc g.pc = .ok (.invokespecial index, 3)) (hf : cells + mc ≤ R.cells ∧ slots + ms ≤ R.slots) :
    vx_Run p l e R s m args below meth c H locs cells slots mc ms g rest (Qc (Value.ref b :: As).toArray) XC free := by
  have hK : vx_Back l R p e below s args y 3 8 (PreOf R mc ms Pc) (PostOf Qc mc ms free) (vx_Post XC mc ms free) := vx_callBack cw.1 hM hp.1
  obtain ⟨⟨-, -, -, -, -, -, hcode, -, hy, hlen, hl⟩, hy1, hin⟩ := cw
  obtain ⟨hx, hb, hml, ho, -⟩ := S
  have hPc := hp.2
  intro T hT X
  rcases vx_callI X hx (bytes := bytes) (maxL := maxL) ho hy1 hl hin hcode hy hK hg (hsize.trans hml.symm) (a := b) (argsL := As) (rest := rest) (fun sig h => hn.trans (hlen sig h)) hstack hW (by rw [hb]; exact hdg)
    (fun vm₁ hW₁ => ⟨hf.1, hf.2, hPc (T.setVm vm₁) hT hW₁⟩) with ⟨v, vm₁, ⟨U', l2, c2, s2⟩, hW₁, X', ⟨g', mk, t, L, e1, e2, hq, h1, hL, h2, h3⟩, st⟩ | ⟨q, vm₁, ⟨U', l2, c2, s2⟩, hW₁, X', ⟨g', mk, t, L, E, ce, e1, e2, hq, hce, hcv, hcl, h1, hL, h2, h3⟩, st⟩
  · dsimp only [Pt.U, Pt.locs, Pt.cells, Pt.slots] at X' e1 e2 h1 h2 h3 st
    subst h1; subst h2; subst h3
    exact Or.inl ⟨v, (T.setVm vm₁).calling g' mk (Value.ref b :: As).toArray, t, U', L, hT, X', hL, e1, e2, hq, st⟩
  · dsimp only [Pt.U, Pt.locs, Pt.cells, Pt.slots] at X' e1 e2 h1 h2 h3 st hcl
    subst h1; subst h2; subst h3
    exact Or.inr ⟨q, (T.setVm vm₁).calling g' mk (Value.ref b :: As).toArray, t, U', L, E, ce, hT, X', hL, e1, e2, hq, hce, hcv, vx_cls hW₁ hcl, st⟩
end VXIB
/-! ===== END ===== -/
/-! ===== BEGIN a private constructor of a nest mate that throws ===== -/
section VXIC
variable {p : Program} {l : Launch} {e : Env} {R : Room} {s : State} {m : MethodId} {args : Array Value} {below : List Frame} {meth : Method} {c : Code} {T : State} {locs : List Loc} {cells slots : Nat}
theorem vx_callIN (X : Stand p l e R s m args below meth c T locs cells slots) (hexec : p.tables.exec = Jvm.exec) {own : String} {index : Nat} {host : String} {y : MethodName} {bytes : ByteArray} {maxL : Nat}
    (hown : s.vm.findClass own = some m.cls) (hy1 : y.name = "<init>") (hlink : (Cond.methodLinkNest own index y host).before args s = true) (hinst : (Cond.instanceMethod y).before args s = true)
    (hcode : (Cond.code y bytes maxL none).before args s = true) (hy : y.cls ≠ "java/lang/invoke/MethodHandle" ∧ y.cls ≠ "java/lang/invoke/VarHandle")
    {W9 : Nat} {Pre : Pt → Array Value → Prop} {Post : Pt → Array Value → Option Value → Pt → Prop} {PostX : Pt → Array Value → Addr → Pt → Prop} (hK : vx_Back l R p e below s args y 3 W9 Pre Post PostX)
    {g : JFrame} (hg : g.method = m) (hsize : g.locals.size = c.maxLocals) {a : Addr} {argsL rest : List Value} (hlen : ∀ sig, parseMethodDescriptor y.desc = some sig → argsL.length = sig.parameters.length)
    (hstack : g.stack = argsL.reverse ++ .ref a :: rest) (hW : 2 * g.monitorRoom + (rest.map fun v => v.category).sum ≤ W9) (hdg : decode c.code g.pc = .ok (.invokespecial index, 3))
    (hpre : ∀ vm₁, s.WarmedH vm₁ → Pre ⟨T.setVm vm₁, locs, cells, slots⟩ (Value.ref a :: argsL).toArray) :
    (∃ (v : Option Value) (vm₁ : Vm) (B : Pt), s.WarmedH vm₁ ∧ Stand p l e R s m args below meth c B.U B.locs B.cells B.slots ∧ Post ⟨T.setVm vm₁, locs, cells, slots⟩ (Value.ref a :: argsL).toArray v B ∧
      ∀ target, Steps p.tables e below (B.U.setTop { g with pc := g.pc + 3, stack := v.toList ++ rest }) target → Steps p.tables e below (T.setTop g) target) ∨
    (∃ (q : Addr) (vm₁ : Vm) (B : Pt), s.WarmedH vm₁ ∧ Stand p l e R s m args below meth c B.U B.locs B.cells B.slots ∧ PostX ⟨T.setVm vm₁, locs, cells, slots⟩ (Value.ref a :: argsL).toArray q B ∧
      Steps p.tables e below (T.setTop g) ((B.U.setTop { g with stack := rest }).pushFrame (.throwing q))) := by
  subst hg
  have hpl : e.platform.magicAccessors = ({} : Platform).magicAccessors := by rw [X.admits.platform]
  obtain ⟨mk, methM, cM, kP, vm₁, hnamed, hmethM, hcodeM, -, hlocalsM, -, hkP, -, hW₁, hstep₁⟩ := Steps.initColdArgsNest (e := e) X.here hexec X.warmed hpl hown hy1 hy hlink hinst hcode (f := g) rfl hlen hstack hdg
  have X₁ := X.noted hW₁
  rcases hK g.method meth c ⟨T.setVm vm₁, locs, cells, slots⟩ { g with stack := rest } (.invokespecial index) mk (Value.ref a :: argsL).toArray X₁ rfl hsize hdg hW (X₁.named hnamed) (hpre vm₁ X₁.warmed) with ⟨v, B, X', hpost, hsteps⟩ | ⟨q, B, X', hpost, hsteps⟩
  · exact Or.inl ⟨v, vm₁, B, X₁.warmed, X', hpost, fun target h => hstep₁ _ fun acts => by rw [doInvoke_state]; exact hsteps.trans h⟩
  · exact Or.inr ⟨q, vm₁, B, X₁.warmed, X', hpost, hstep₁ _ fun acts => by rw [doInvoke_state]; exact hsteps⟩
end VXIC
section VXID
variable {p : Program} {l : Launch} {e : Env} {R : Room} {s : State} {m : MethodId} {args : Array Value} {below : List Frame} {meth : Method} {c : Code} {H : Heap} {locs : List Loc} {cells slots : Nat}
theorem vx_runIN {y : MethodName} {bytes cc : ByteArray} {maxL nL mc ms n index : Nat} {ws : List Cond} {rm : Room} {Pc : Array Value → State → Prop} {Qc : Array Value → State → Outcome → State → Prop} {XC : String → State → State → Prop} {free : Addr → Prop} {Ts : List Cond} {own host : String} {b : Addr} {As rest : List Value} {g : JFrame}
    (S : CallFix p m c cc nL s args Ts own) (hM : vx_Met l y ws rm Pc Qc XC mc ms free) (cw : va_CN R s args own index y host bytes maxL none ws rm mc ms n ∧ y.name = "<init>" ∧ (Cond.instanceMethod y).before args s = true) (hp : PreS s H Pc (.ref b :: As))
    (hg : g.method = m) (hn : As.length = n) (hsize : g.locals.size = nL) (hstack : g.stack = As.reverse ++ .ref b :: rest) (hW : 2 * g.monitorRoom + (rest.map fun v => v.category).sum ≤ 8) (hdg : decode cc g.pc = .ok (.invokespecial index, 3)) (hf : cells + mc ≤ R.cells ∧ slots + ms ≤ R.slots) :
    vx_Run p l e R s m args below meth c H locs cells slots mc ms g rest (Qc (Value.ref b :: As).toArray) XC free := by
  obtain ⟨⟨⟨hrc, hrs, hfr, hlo, hws, hcw⟩, hcode, hini, hy, hlen, hl⟩, hx1, hx2⟩ := cw
  have hK : vx_Back l R p e below s args y 3 8 (PreOf R mc ms Pc) (PostOf Qc mc ms free) (vx_Post XC mc ms free) := vx_back (bytes := bytes) (maxL := maxL) (ret := none) hM hp.1 hrc hrs hfr hlo hws hcw (fun a' U hW => word_at hW (Or.inl (by first | rfl | simp [Cond.onTables, Cond.keeps, Cond.steady])) hini)
  obtain ⟨hx, hb, hml, ho, -⟩ := S
  have hPc := hp.2
  intro T hT X
  rcases vx_callIN X hx (bytes := bytes) (maxL := maxL) ho hx1 hl hx2 hcode hy hK hg (hsize.trans hml.symm) (a := b) (argsL := As) (rest := rest) (fun sig h => hn.trans (hlen sig h)) hstack hW (by rw [hb]; exact hdg)
    (fun vm₁ hW₁ => ⟨hf.1, hf.2, hPc (T.setVm vm₁) hT hW₁⟩) with ⟨v, vm₁, ⟨U', l2, c2, s2⟩, hW₁, X', ⟨g', mk, t, L, e1, e2, hq, h1, hL, h2, h3⟩, st⟩ | ⟨q, vm₁, ⟨U', l2, c2, s2⟩, hW₁, X', ⟨g', mk, t, L, E, ce, e1, e2, hq, hce, hcv, hcl, h1, hL, h2, h3⟩, st⟩
  · dsimp only [Pt.U, Pt.locs, Pt.cells, Pt.slots] at X' e1 e2 h1 h2 h3 st
    subst h1; subst h2; subst h3
    exact Or.inl ⟨v, (T.setVm vm₁).calling g' mk (Value.ref b :: As).toArray, t, U', L, hT, X', hL, e1, e2, hq, st⟩
  · dsimp only [Pt.U, Pt.locs, Pt.cells, Pt.slots] at X' e1 e2 h1 h2 h3 st hcl
    subst h1; subst h2; subst h3
    exact Or.inr ⟨q, (T.setVm vm₁).calling g' mk (Value.ref b :: As).toArray, t, U', L, E, ce, hT, X', hL, e1, e2, hq, hce, hcv, vx_cls hW₁ hcl, st⟩
end VXID
/-! ===== END ===== -/
/-! ===== BEGIN a private method of a nest mate that may throw (follows va_callVN, va_callSN, va_runVN, va_runSN) ===== -/
section
variable {p : Program} {l : Launch} {e : Env} {R : Room} {s : State} {m : MethodId} {args : Array Value} {below : List Frame} {meth : Method} {c : Code} {H : Heap} {locs : List Loc} {cells slots : Nat}
variable {T : State}
theorem vx_callVN (X : Stand p l e R s m args below meth c T locs cells slots) (hexec : p.tables.exec = Jvm.exec) {own C : String} {index : Nat} {host : String} {y : MethodName} {bytes : ByteArray} {maxL : Nat} {ret : Option FieldType}
    (hown : s.vm.findClass own = some m.cls) (hlink : (Cond.methodLinkNest own index y host).before args s = true) (hinst : (Cond.instanceMethod y).before args s = true) (hsel : (Cond.selects C y y).before args s = true)
    (hcode : (Cond.code y bytes maxL ret).before args s = true) (hy : y.cls ≠ "java/lang/invoke/MethodHandle" ∧ y.cls ≠ "java/lang/invoke/VarHandle")
    {W : Nat} {Pre : Pt → Array Value → Prop} {Post : Pt → Array Value → Option Value → Pt → Prop} {PostX : Pt → Array Value → Addr → Pt → Prop} (hK : vx_Back l R p e below s args y 3 W Pre Post PostX)
    {b : Addr} {cellB : Cell} (hcell : T.heap[b]? = some cellB) (hobj : cellB.vm.isStatics = false) (hcls : s.vm.findClass C = some cellB.cls)
    {g : JFrame} (hg : g.method = m) (hsize : g.locals.size = c.maxLocals) {argsL rest : List Value} (hlen : ∀ sig, parseMethodDescriptor y.desc = some sig → argsL.length = sig.parameters.length)
    (hstack : g.stack = argsL.reverse ++ .ref b :: rest) (hW : 2 * g.monitorRoom + (rest.map fun v => v.category).sum ≤ W) (hdg : decode c.code g.pc = .ok (.invokevirtual index, 3))
    (hpre : ∀ vm₁, s.WarmedH vm₁ → Pre ⟨T.setVm vm₁, locs, cells, slots⟩ (Value.ref b :: argsL).toArray) :
    (∃ (v : Option Value) (vm₁ : Vm) (B : Pt), s.WarmedH vm₁ ∧ Stand p l e R s m args below meth c B.U B.locs B.cells B.slots ∧ Post ⟨T.setVm vm₁, locs, cells, slots⟩ (Value.ref b :: argsL).toArray v B ∧
      ∀ target, Steps p.tables e below (B.U.setTop { g with pc := g.pc + 3, stack := v.toList ++ rest }) target → Steps p.tables e below (T.setTop g) target) ∨
    (∃ (q : Addr) (vm₁ : Vm) (B : Pt), s.WarmedH vm₁ ∧ Stand p l e R s m args below meth c B.U B.locs B.cells B.slots ∧ PostX ⟨T.setVm vm₁, locs, cells, slots⟩ (Value.ref b :: argsL).toArray q B ∧
      Steps p.tables e below (T.setTop g) ((B.U.setTop { g with stack := rest }).pushFrame (.throwing q))) := by
  obtain ⟨mk, methM, hnamed, hmethM, hstM, habM⟩ := Cond.instanceMethod_spec hinst
  obtain ⟨methM', cM, hmethM', -, -, -, -, -, -, hsigM⟩ := Cond.code_spec hnamed hcode
  cases hmethM.symm.trans hmethM'
  obtain ⟨c2, r2, m2, q1, q2, q3, q4, kP, hkP, hkPi⟩ := Cond.selects_spec hsel
  cases hcls.symm.trans q1
  cases (State.methodFound?_of_named hnamed hy).symm.trans q2
  cases hnamed.symm.trans q3
  have hselP : selectMethod e.platform s.vm cellB.cls mk = .method mk := by rw [Launch.admits_selectMethod X.admits]; exact q4
  obtain ⟨vm₁, X₁, hstep₁⟩ := X.invokevirtualNest hexec hown hlink hnamed hmethM hstM hkP hkPi hy (a := b) (cell := cellB) hcell
    (fun z h => by rw [h] at hobj; cases hobj) hselP hmethM habM hkP hkPi (g := g) hg (argsL := argsL) (rest := rest) (hlen _ hsigM) hstack hdg
  rcases hK m meth c ⟨T.setVm vm₁, locs, cells, slots⟩ { g with stack := rest } (.invokevirtual index) mk (Value.ref b :: argsL).toArray X₁ hg hsize hdg hW (X₁.named hnamed) (hpre vm₁ X₁.warmed) with ⟨v, B, X', hpost, hsteps⟩ | ⟨q, B, X', hpost, hsteps⟩
  · exact Or.inl ⟨v, vm₁, B, X₁.warmed, X', hpost, fun target h => hstep₁ _ fun acts => by rw [doInvoke_state]; exact hsteps.trans h⟩
  · exact Or.inr ⟨q, vm₁, B, X₁.warmed, X', hpost, hstep₁ _ fun acts => by rw [doInvoke_state]; exact hsteps⟩
theorem vx_callSN (X : Stand p l e R s m args below meth c T locs cells slots) (hexec : p.tables.exec = Jvm.exec) {own : String} {index : Nat} {host : String} {y : MethodName} {bytes : ByteArray} {maxL : Nat} {ret : Option FieldType}
    (hown : s.vm.findClass own = some m.cls) (hlink : (Cond.methodLinkNest own index y host).before args s = true) (hstat : (Cond.static y).before args s = true) (hinit : (Cond.initialized y.cls).before args s = true)
    (hcode : (Cond.code y bytes maxL ret).before args s = true) (hy : y.cls ≠ "java/lang/invoke/MethodHandle" ∧ y.cls ≠ "java/lang/invoke/VarHandle")
    {W : Nat} {Pre : Pt → Array Value → Prop} {Post : Pt → Array Value → Option Value → Pt → Prop} {PostX : Pt → Array Value → Addr → Pt → Prop} (hK : vx_Back l R p e below s args y 3 W Pre Post PostX)
    {g : JFrame} (hg : g.method = m) (hsize : g.locals.size = c.maxLocals) {argsL rest : List Value} (hlen : ∀ sig, parseMethodDescriptor y.desc = some sig → argsL.length = sig.parameters.length)
    (hstack : g.stack = argsL.reverse ++ rest) (hW : 2 * g.monitorRoom + (rest.map fun v => v.category).sum ≤ W) (hdg : decode c.code g.pc = .ok (.invokestatic index, 3))
    (hpre : ∀ vm₁, s.WarmedH vm₁ → Pre ⟨T.setVm vm₁, locs, cells, slots⟩ argsL.toArray) :
    (∃ (v : Option Value) (vm₁ : Vm) (B : Pt), s.WarmedH vm₁ ∧ Stand p l e R s m args below meth c B.U B.locs B.cells B.slots ∧ Post ⟨T.setVm vm₁, locs, cells, slots⟩ argsL.toArray v B ∧
      ∀ target, Steps p.tables e below (B.U.setTop { g with pc := g.pc + 3, stack := v.toList ++ rest }) target → Steps p.tables e below (T.setTop g) target) ∨
    (∃ (q : Addr) (vm₁ : Vm) (B : Pt), s.WarmedH vm₁ ∧ Stand p l e R s m args below meth c B.U B.locs B.cells B.slots ∧ PostX ⟨T.setVm vm₁, locs, cells, slots⟩ argsL.toArray q B ∧
      Steps p.tables e below (T.setTop g) ((B.U.setTop { g with stack := rest }).pushFrame (.throwing q))) := by
  obtain ⟨mk, hnamed⟩ := Cond.code_named hcode
  obtain ⟨methM, cM, hmethM, -, -, -, -, -, -, hsigM⟩ := Cond.code_spec hnamed hcode
  have hstatic : methM.isStatic = true := Cond.static_spec hnamed hmethM hstat
  obtain ⟨kP, hkP, -⟩ := className_of_methodNamed hnamed
  have hinitP : kP.init = .initialized := Cond.initialized_spec (findClass_of_methodNamed hnamed) hkP hinit
  obtain ⟨vm₁, X₁, hstep₁⟩ := X.invokestaticNest hexec hown hlink hnamed hmethM hstatic hkP hinitP hy (g := g) hg (argsL := argsL) (rest := rest) (hlen _ hsigM) hstack hdg
  rcases hK m meth c ⟨T.setVm vm₁, locs, cells, slots⟩ { g with stack := rest } (.invokestatic index) mk argsL.toArray X₁ hg hsize hdg hW (X₁.named hnamed) (hpre vm₁ X₁.warmed) with ⟨v, B, X', hpost, hsteps⟩ | ⟨q, B, X', hpost, hsteps⟩
  · exact Or.inl ⟨v, vm₁, B, X₁.warmed, X', hpost, fun target h => hstep₁ _ fun acts => by rw [doInvoke_state]; exact hsteps.trans h⟩
  · exact Or.inr ⟨q, vm₁, B, X₁.warmed, X', hpost, hstep₁ _ fun acts => by rw [doInvoke_state]; exact hsteps⟩
theorem vx_runVN {y : MethodName} {bytes cc : ByteArray} {maxL nL mc ms n index : Nat} {ret : Option FieldType} {ws : List Cond} {rm : Room} {Pc : Array Value → State → Prop} {Qc : Array Value → State → Outcome → State → Prop} {XC : String → State → State → Prop} {free : Addr → Prop} {Ts : List Cond} {own C host : String} {b : Addr} {As rest : List Value} {g : JFrame}
    (S : CallFix p m c cc nL s args Ts own) (hM : vx_Met l y ws rm Pc Qc XC mc ms free) (cw : va_CN R s args own index y host bytes maxL ret ws rm mc ms n ∧ (Cond.instanceMethod y).before args s = true ∧ (Cond.selects C y y).before args s = true) (hp : PreV s H C b Pc As)
    (hg : g.method = m) (hn : As.length = n) (hsize : g.locals.size = nL) (hstack : g.stack = As.reverse ++ .ref b :: rest) (hW : 2 * g.monitorRoom + (rest.map fun v => v.category).sum ≤ 8) (hdg : decode cc g.pc = .ok (.invokevirtual index, 3)) (hf : cells + mc ≤ R.cells ∧ slots + ms ≤ R.slots) :
    vx_Run p l e R s m args below meth c H locs cells slots mc ms g rest (Qc (Value.ref b :: As).toArray) XC free := by
  obtain ⟨⟨⟨hrc, hrs, hfr, hlo, hws, hcw⟩, hcode, hini, hy, hlen, hl⟩, hx1, hx2⟩ := cw
  have hK : vx_Back l R p e below s args y 3 8 (PreOf R mc ms Pc) (PostOf Qc mc ms free) (vx_Post XC mc ms free) := vx_back (bytes := bytes) (maxL := maxL) (ret := ret) hM hp.1 hrc hrs hfr hlo hws hcw (fun a' U hW => word_at hW (Or.inl (by first | rfl | simp [Cond.onTables, Cond.keeps, Cond.steady])) hini)
  obtain ⟨hx, hb, hml, ho, -⟩ := S
  obtain ⟨-, ⟨cellB, hcB, hoB, hclB⟩, hPc⟩ := hp
  intro T hT X
  rcases vx_callVN X hx (C := C) (bytes := bytes) (maxL := maxL) (ret := ret) ho hl hx1 hx2 hcode hy hK (by rw [hT]; exact hcB) hoB hclB hg (hsize.trans hml.symm) (argsL := As) (rest := rest) (fun sig h => hn.trans (hlen sig h)) hstack hW (by rw [hb]; exact hdg)
    (fun vm₁ hW₁ => ⟨hf.1, hf.2, hPc (T.setVm vm₁) hT hW₁⟩) with ⟨v, vm₁, ⟨U', l2, c2, s2⟩, hW₁, X', ⟨g', mk, t, L, e1, e2, hq, h1, hL, h2, h3⟩, st⟩ | ⟨q, vm₁, ⟨U', l2, c2, s2⟩, hW₁, X', ⟨g', mk, t, L, E, ce, e1, e2, hq, hce, hcv, hcl, h1, hL, h2, h3⟩, st⟩
  · dsimp only [Pt.U, Pt.locs, Pt.cells, Pt.slots] at X' e1 e2 h1 h2 h3 st
    subst h1; subst h2; subst h3
    exact Or.inl ⟨v, (T.setVm vm₁).calling g' mk (Value.ref b :: As).toArray, t, U', L, hT, X', hL, e1, e2, hq, st⟩
  · dsimp only [Pt.U, Pt.locs, Pt.cells, Pt.slots] at X' e1 e2 h1 h2 h3 st hcl
    subst h1; subst h2; subst h3
    exact Or.inr ⟨q, (T.setVm vm₁).calling g' mk (Value.ref b :: As).toArray, t, U', L, E, ce, hT, X', hL, e1, e2, hq, hce, hcv, vx_cls hW₁ hcl, st⟩
theorem vx_runSN {y : MethodName} {bytes cc : ByteArray} {maxL nL mc ms n index : Nat} {ret : Option FieldType} {ws : List Cond} {rm : Room} {Pc : Array Value → State → Prop} {Qc : Array Value → State → Outcome → State → Prop} {XC : String → State → State → Prop} {free : Addr → Prop} {Ts : List Cond} {own host : String} {As rest : List Value} {g : JFrame}
    (S : CallFix p m c cc nL s args Ts own) (hM : vx_Met l y ws rm Pc Qc XC mc ms free) (cw : va_CN R s args own index y host bytes maxL ret ws rm mc ms n ∧ (Cond.static y).before args s = true ∧ True) (hp : PreS s H Pc As)
    (hg : g.method = m) (hn : As.length = n) (hsize : g.locals.size = nL) (hstack : g.stack = As.reverse ++ rest) (hW : 2 * g.monitorRoom + (rest.map fun v => v.category).sum ≤ 8) (hdg : decode cc g.pc = .ok (.invokestatic index, 3)) (hf : cells + mc ≤ R.cells ∧ slots + ms ≤ R.slots) :
    vx_Run p l e R s m args below meth c H locs cells slots mc ms g rest (Qc As.toArray) XC free := by
  obtain ⟨⟨⟨hrc, hrs, hfr, hlo, hws, hcw⟩, hcode, hini, hy, hlen, hl⟩, hx1, hx2⟩ := cw
  have hK : vx_Back l R p e below s args y 3 8 (PreOf R mc ms Pc) (PostOf Qc mc ms free) (vx_Post XC mc ms free) := vx_back (bytes := bytes) (maxL := maxL) (ret := ret) hM hp.1 hrc hrs hfr hlo hws hcw (fun a' U hW => word_at hW (Or.inl (by first | rfl | simp [Cond.onTables, Cond.keeps, Cond.steady])) hini)
  obtain ⟨hx, hb, hml, ho, -⟩ := S
  have hPc := hp.2
  intro T hT X
  rcases vx_callSN X hx (bytes := bytes) (maxL := maxL) (ret := ret) ho hl hx1 hini hcode hy hK hg (hsize.trans hml.symm) (argsL := As) (rest := rest) (fun sig h => hn.trans (hlen sig h)) hstack hW (by rw [hb]; exact hdg)
    (fun vm₁ hW₁ => ⟨hf.1, hf.2, hPc (T.setVm vm₁) hT hW₁⟩) with ⟨v, vm₁, ⟨U', l2, c2, s2⟩, hW₁, X', ⟨g', mk, t, L, e1, e2, hq, h1, hL, h2, h3⟩, st⟩ | ⟨q, vm₁, ⟨U', l2, c2, s2⟩, hW₁, X', ⟨g', mk, t, L, E, ce, e1, e2, hq, hce, hcv, hcl, h1, hL, h2, h3⟩, st⟩
  · dsimp only [Pt.U, Pt.locs, Pt.cells, Pt.slots] at X' e1 e2 h1 h2 h3 st
    subst h1; subst h2; subst h3
    exact Or.inl ⟨v, (T.setVm vm₁).calling g' mk As.toArray, t, U', L, hT, X', hL, e1, e2, hq, st⟩
  · dsimp only [Pt.U, Pt.locs, Pt.cells, Pt.slots] at X' e1 e2 h1 h2 h3 st hcl
    subst h1; subst h2; subst h3
    exact Or.inr ⟨q, (T.setVm vm₁).calling g' mk As.toArray, t, U', L, E, ce, hT, X', hL, e1, e2, hq, hce, hcv, vx_cls hW₁ hcl, st⟩
end
/-! ===== END ===== -/
end
section

/-- the words that survive a warming, and those that are carried by name -/
def isNW : Cond → Bool
  | .castable _ _ => true
  | .declares _ => true
  | .fieldLinkNest .. => true
  | .methodLinkNest .. => true
  | _ => false
def GW : List Cond := lw_tbl.filter goodWord
def NWL : List Cond := tables_1.filter isNW
theorem nw_warm {w : Cond} (h : isNW w = true) {s U : State} (hW : s.WarmedH U.vm) (hZ : va_Nw w s) : va_Nw w U := by
  cases w <;> first
    | exact va_Nw.warmC hW hZ
    | exact va_Nw.warmD hW hZ
    | exact va_Nw.warmF hW hZ
    | exact va_Nw.warmM hW hZ
    | (simp [isNW] at h)
theorem nw_same {w : Cond} (h : isNW w = true) {u U : State} (e : u.vm = U.vm) (hZ : va_Nw w u) : va_Nw w U := by
  cases w <;> first
    | exact va_Nw.same rfl e hZ
    | (simp [isNW] at h)
/-- launch, class numbers, array classes -/
abbrev ET : Type := Launch × va_G × (Nat → ClassId)
abbrev GT : Type := Program × Room × State × MethodId × Array Value × List Frame × Method × Code × (State → Prop) × (Nat → Prop) × Nat × Env
def tysL (ca : Nat → ClassId) : List (ClassId × FieldType) := [(ca 0, .int), (ca 1, .long), (ca 2, .boolean), (ca 3, .double)]
def strL : List (String × Nat × String) := [("BurstFinder", 126, "what is not 0 to 4"), ("BurstFinder", 191, "no such candidate"), ("BurstFinder", 39, "channels is not 2, 4, 8 or 16"), ("BurstFinder", 238, "no such channel"), ("BurstFinder", 58, "power is not 0 to 9999"), ("BurstFinder", 70, "code is not 32 to 126"), ("BurstFinder", 77, "the buffer is full"), ("BurstFinder", 91, "the buffer does not consist of whole columns"), ("BurstFinder", 242, "no such slope"), ("BurstFinder", 246, "no such line"), ("BurstFinder", 101, "amplitude is not 1 to 9999"), ("BurstFinder", 240, "no such column"), ("BurstFinder", 136, "many is not 0 to the number of channels"), ("BurstFinder", 244, "width is not 1 to 8"), ("BurstFinder", 177, "threshold is negative")]
def EnvS (E : ET) (U : State) : Prop := va_K E.2.1 vwCl (tysL E.2.2) U ∧ (∀ w ∈ NWL, va_Nw w U) ∧ (∀ q ∈ strL, ∃ sa, vk_R q.1 q.2.1 q.2.2 sa U)
def HeapS (A : Nat → Prop) (U : State) (H : Heap) : Prop := vx_Zq Bundle.tN "UNASSIGNED_STACK" Bundle.steD A U H ∧ vx_Zq Bundle.tN "SUPPRESSED_SENTINEL" Bundle.listD A U H
theorem EnvS.warm {E : ET} {s U : State} (hW : s.WarmedH U.vm) (h : EnvS E s) : EnvS E U :=
  ⟨va_K.moved hW.alike h.1, fun w hw => nw_warm (List.mem_filter.mp hw).2 hW (h.2.1 w hw), fun q hq => by obtain ⟨sa, hs⟩ := h.2.2 q hq; exact ⟨sa, vk_R.warm hW hs⟩⟩
theorem EnvS.same {E : ET} {s U : State} (e : s.vm = U.vm) (h : EnvS E s) : EnvS E U :=
  ⟨va_K.moved (by rw [e]; exact Vm.Alike.refl U.vm) h.1, fun w hw => nw_same (List.mem_filter.mp hw).2 e (h.2.1 w hw), fun q hq => by obtain ⟨sa, hs⟩ := h.2.2 q hq; exact ⟨sa, vk_R.same e.symm hs⟩⟩
def QC (E : ET) (post : Option Value → va_W → Prop) (A : Nat → Prop) : Array Value → State → Outcome → State → Prop := fun _ st oc t => (∃ (r : Option Value) (u : va_W), oc = .returned r ∧ post r u ∧ va_P E.2.1 vwCl u t.heap ∧ va_D A u) ∧ va_F A st t
def XQ (E : ET) (px : String → va_W → Prop) (A : Nat → Prop) : String → State → State → Prop := fun X st t => ∃ u, px X u ∧ va_P E.2.1 vwCl u t.heap ∧ va_D A u ∧ va_F A st t
/-- the walk stands at pc with the locals lv, the stack st, the world w, k cells and n slots made so far -/
def V (E : ET) (G : GT) (k n pc : Nat) (lv : List (Nat × Value)) (st : List Value) (w : va_W) : Prop := match G with
  | (p, R, s, m, args, below, meth, c, Q, A, nL, e) => ∀ (H : Heap) (locs : List Loc) (ls : Array Slot), lv_has ls nL lv → va_P E.2.1 vwCl w H → va_D A w → va_S A s.heap H locs → W p E.1 e R s m args below meth c H locs k n Q (F0 m pc ls st)
/-- the same with an exception of the class X thrown over the frame -/
def VX (E : ET) (G : GT) (k n pc : Nat) (lv : List (Nat × Value)) (X : String) (w : va_W) : Prop := match G with
  | (p, R, s, m, args, below, meth, c, Q, A, nL, e) => ∀ (H : Heap) (locs : List Loc) (ls : Array Slot) (rest : List Value) (q : Addr) (ce : Cell), H[q]? = some ce → ce.vm = .none → s.vm.findClass X = some ce.cls → lv_has ls nL lv → va_P E.2.1 vwCl w H → va_D A w → va_S A s.heap H locs → vx_W p E.1 e R s m args below meth c H locs k n Q (F0 m pc ls rest) q
def OKG (E : ET) (G : GT) (cc : ByteArray) (own : String) (R0 : Room) (tb : List ExceptionTableEntry) : Prop := match G with
  | (p, R, s, m, args, below, meth, c, Q, A, nL, e) => p.tables.exec = Jvm.exec ∧ c.code = cc ∧ c.maxLocals = nL ∧ s.vm.findClass own = some m.cls ∧ (∀ w ∈ GW, w.before args s = true) ∧ EnvS E s ∧ meth.locks = false ∧ E.1.stackTraces = false ∧ (∀ q, s.heap.size ≤ q → A q) ∧ HeapS A s s.heap ∧ R = R0 ∧ c.exceptionTable.toList = tb
def OKR (E : ET) (G : GT) (post : Option Value → va_W → Prop) (px : String → va_W → Prop) (mc ms : Nat) (ret : Option FieldType) : Prop := match G with
  | (p, R, s, m, args, below, meth, c, Q, A, nL, e) => Q = vx_MQ below (QC E post A) (XQ E px A) args s mc ms A ∧ meth.sig.returnType = ret
def nLG (G : GT) : Nat := match G with
  | (p, R, s, m, args, below, meth, c, Q, A, nL, e) => nL
/-- what a local holds -/
def ldv (lv : List (Nat × Value)) (i : Nat) : Option Value := (lv.find? (fun q => q.1 == i)).map (fun q => q.2)
def st1 (lv : List (Nat × Value)) (i : Nat) (v : Value) : List (Nat × Value) := (i, v) :: lv.filter (fun q => !(q.1 == i) && !(q.1 + 1 == i && q.2.category == 2))
def st2 (lv : List (Nat × Value)) (i : Nat) (v : Value) : List (Nat × Value) := (i, v) :: lv.filter (fun q => !(q.1 == i) && (!(q.1 == i + 1) && !(q.1 + 1 == i && q.2.category == 2)))
theorem ldv_at {ls : Array Slot} {nL : Nat} {lv : List (Nat × Value)} {i : Nat} {v : Value} (h : lv_has ls nL lv) (hl : ldv lv i = some v) : ls[i]? = some (.val v) := by
  unfold ldv at hl
  cases hf : lv.find? (fun q => q.1 == i) with
  | none => rw [hf] at hl; cases hl
  | some q =>
    rw [hf] at hl
    have h1 := List.find?_some hf
    have h2 := List.mem_of_find?_eq_some hf
    have h3 : q.1 = i := by simpa using h1
    have h4 := h.2.2 q h2
    have h5 : q.2 = v := by simpa using hl
    rw [h3, h5] at h4
    exact h4
theorem ldv_mem {lv : List (Nat × Value)} {i : Nat} {v : Value} (hl : ldv lv i = some v) : ∃ k : Nat, lv[k]? = some (i, v) := by
  unfold ldv at hl
  cases hf : lv.find? (fun q => q.1 == i) with
  | none => rw [hf] at hl; cases hl
  | some q =>
    rw [hf] at hl
    have h1 := List.find?_some hf
    have h2 := List.mem_of_find?_eq_some hf
    have h3 : q.1 = i := by simpa using h1
    have h5 : q.2 = v := by simpa using hl
    obtain ⟨k, hk⟩ := List.getElem?_of_mem h2
    exact ⟨k, by rw [hk, ← h3, ← h5]⟩
/-- fewer locals, or the same in another order -/
def lvle (a b : List (Nat × Value)) : Bool := a.all (fun q => match ldv b q.1 with
  | some _ => true
  | none => false)
section VR
variable {E : ET} {G : GT} {cc : ByteArray} {own : String} {R0 : Room} {tb : List ExceptionTableEntry} {k n pc : Nat} {lv : List (Nat × Value)} {st : List Value} {w : va_W}
theorem v_cv {lv' : List (Nat × Value)} {st' : List Value} {w' : va_W} {pc' : Nat} (h : V E G k n pc' lv' st' w') (h1 : pc = pc' := by rfl) (h2 : lv = lv' := by rfl) (h3 : st = st' := by rfl) (h4 : w = w' := by rfl) : V E G k n pc lv st w := by
  subst h1; subst h2; subst h3; subst h4; exact h
theorem v_w {w' : va_W} (h4 : w = w') (h : V E G k n pc lv st w') : V E G k n pc lv st w := by
  subst h4; exact h
theorem v_st {st' : List Value} (h4 : st = st') (h : V E G k n pc lv st' w) : V E G k n pc lv st w := by
  subst h4; exact h
theorem v_lv {lv' : List (Nat × Value)} (h : ∀ q ∈ lv', q ∈ lv) (kk : V E G k n pc lv' st w) : V E G k n pc lv st w := by
  obtain ⟨p, R, s, m, args, below, meth, c, Q, A, nL, e⟩ := G
  intro H locs ls hl hP hD hS
  exact kk H locs ls ⟨hl.1, hl.2.1, fun q hq => hl.2.2 q (h q hq)⟩ hP hD hS
theorem v_widen {k' n' : Nat} (h1 : k ≤ k') (h2 : n ≤ n') (kk : V E G k' n' pc lv st w) : V E G k n pc lv st w := by
  obtain ⟨p, R, s, m, args, below, meth, c, Q, A, nL, e⟩ := G
  intro H locs ls hl hP hD hS
  exact W.widen h1 h2 (kk H locs ls hl hP hD hS)
theorem v_iconst {v : Int32} {z : Int} (O : OKG E G cc own R0 tb) (d : decode cc pc = .ok (.iconst z, 1)) (hv : Int32.ofInt z = v) (kk : V E G k n (pc + 1) lv (.int v :: st) w) : V E G k n pc lv st w := by
  obtain ⟨p, R, s, m, args, below, meth, c, Q, A, nL, e⟩ := G
  intro H locs ls hl hP hD hS
  exact lv_iconst O.1 O.2.1 d hv (kk H locs ls hl hP hD hS)
theorem v_bipush {v : Int32} {z : Int} (O : OKG E G cc own R0 tb) (d : decode cc pc = .ok (.bipush z, 2)) (hv : (Int8.ofInt z).toInt32 = v) (kk : V E G k n (pc + 2) lv (.int v :: st) w) : V E G k n pc lv st w := by
  obtain ⟨p, R, s, m, args, below, meth, c, Q, A, nL, e⟩ := G
  intro H locs ls hl hP hD hS
  exact lv_bipush O.1 O.2.1 d hv (kk H locs ls hl hP hD hS)
theorem v_sipush {v : Int32} {z : Int} (O : OKG E G cc own R0 tb) (d : decode cc pc = .ok (.sipush z, 3)) (hv : (Int16.ofInt z).toInt32 = v) (kk : V E G k n (pc + 3) lv (.int v :: st) w) : V E G k n pc lv st w := by
  obtain ⟨p, R, s, m, args, below, meth, c, Q, A, nL, e⟩ := G
  intro H locs ls hl hP hD hS
  exact lv_sipush O.1 O.2.1 d hv (kk H locs ls hl hP hD hS)
theorem v_lconst {v : Int64} {z : Fin 2} (O : OKG E G cc own R0 tb) (d : decode cc pc = .ok (.lconst z, 1)) (hv : Int64.ofNat (z : Nat) = v) (kk : V E G k n (pc + 1) lv (.long v :: st) w) : V E G k n pc lv st w := by
  obtain ⟨p, R, s, m, args, below, meth, c, Q, A, nL, e⟩ := G
  intro H locs ls hl hP hD hS
  exact lv_lconst O.1 O.2.1 d hv (kk H locs ls hl hP hD hS)
theorem v_dconst0 (O : OKG E G cc own R0 tb) (d : decode cc pc = .ok (.dconst 0, 1)) (kk : V E G k n (pc + 1) lv (.double 0 :: st) w) : V E G k n pc lv st w := by
  obtain ⟨p, R, s, m, args, below, meth, c, Q, A, nL, e⟩ := G
  intro H locs ls hl hP hD hS
  exact lv_dconst0 O.1 O.2.1 d (kk H locs ls hl hP hD hS)
theorem v_iload_n {x : Int32} {j : Fin 4} (O : OKG E G cc own R0 tb) (d : decode cc pc = .ok (.iload_n j, 1)) (hx : ldv lv (j : Nat) = some (.int x)) (kk : V E G k n (pc + 1) lv (.int x :: st) w) : V E G k n pc lv st w := by
  obtain ⟨p, R, s, m, args, below, meth, c, Q, A, nL, e⟩ := G
  intro H locs ls hl hP hD hS
  exact lv_iload_n O.1 O.2.1 d rfl (ldv_at hl hx) (kk H locs ls hl hP hD hS)
theorem v_iload {x : Int32} {j : Nat} (O : OKG E G cc own R0 tb) (d : decode cc pc = .ok (.iload j, 2)) (hx : ldv lv j = some (.int x)) (kk : V E G k n (pc + 2) lv (.int x :: st) w) : V E G k n pc lv st w := by
  obtain ⟨p, R, s, m, args, below, meth, c, Q, A, nL, e⟩ := G
  intro H locs ls hl hP hD hS
  exact lv_iload O.1 O.2.1 d (ldv_at hl hx) (kk H locs ls hl hP hD hS)
theorem v_istore_n {x : Int32} {j : Fin 4} (O : OKG E G cc own R0 tb) (d : decode cc pc = .ok (.istore_n j, 1)) (hj : (j : Nat) < nLG G) (kk : V E G k n (pc + 1) (st1 lv (j : Nat) (.int x)) st w) : V E G k n pc lv (.int x :: st) w := by
  obtain ⟨p, R, s, m, args, below, meth, c, Q, A, nL, e⟩ := G
  intro H locs ls hl hP hD hS
  exact lv_istore_n O.1 O.2.1 d rfl hl hj rfl (fun ls2 hl2 => kk H locs ls2 hl2 hP hD hS)
theorem v_istore {x : Int32} {j : Nat} (O : OKG E G cc own R0 tb) (d : decode cc pc = .ok (.istore j, 2)) (hj : j < nLG G) (kk : V E G k n (pc + 2) (st1 lv j (.int x)) st w) : V E G k n pc lv (.int x :: st) w := by
  obtain ⟨p, R, s, m, args, below, meth, c, Q, A, nL, e⟩ := G
  intro H locs ls hl hP hD hS
  exact lv_istore O.1 O.2.1 d hl hj rfl (fun ls2 hl2 => kk H locs ls2 hl2 hP hD hS)
theorem v_lload_n {x : Int64} {j : Fin 4} (O : OKG E G cc own R0 tb) (d : decode cc pc = .ok (.lload_n j, 1)) (hx : ldv lv (j : Nat) = some (.long x)) (kk : V E G k n (pc + 1) lv (.long x :: st) w) : V E G k n pc lv st w := by
  obtain ⟨p, R, s, m, args, below, meth, c, Q, A, nL, e⟩ := G
  intro H locs ls hl hP hD hS
  exact lv_lload_n O.1 O.2.1 d rfl (ldv_at hl hx) (kk H locs ls hl hP hD hS)
theorem v_lload {x : Int64} {j : Nat} (O : OKG E G cc own R0 tb) (d : decode cc pc = .ok (.lload j, 2)) (hx : ldv lv j = some (.long x)) (kk : V E G k n (pc + 2) lv (.long x :: st) w) : V E G k n pc lv st w := by
  obtain ⟨p, R, s, m, args, below, meth, c, Q, A, nL, e⟩ := G
  intro H locs ls hl hP hD hS
  exact lv_lload O.1 O.2.1 d (ldv_at hl hx) (kk H locs ls hl hP hD hS)
theorem v_lstore_n {x : Int64} {j : Fin 4} (O : OKG E G cc own R0 tb) (d : decode cc pc = .ok (.lstore_n j, 1)) (hj : (j : Nat) + 1 < nLG G) (kk : V E G k n (pc + 1) (st2 lv (j : Nat) (.long x)) st w) : V E G k n pc lv (.long x :: st) w := by
  obtain ⟨p, R, s, m, args, below, meth, c, Q, A, nL, e⟩ := G
  intro H locs ls hl hP hD hS
  exact lv_lstore_n O.1 O.2.1 d rfl hl hj rfl (fun ls2 hl2 => kk H locs ls2 hl2 hP hD hS)
theorem v_lstore {x : Int64} {j : Nat} (O : OKG E G cc own R0 tb) (d : decode cc pc = .ok (.lstore j, 2)) (hj : j + 1 < nLG G) (kk : V E G k n (pc + 2) (st2 lv j (.long x)) st w) : V E G k n pc lv (.long x :: st) w := by
  obtain ⟨p, R, s, m, args, below, meth, c, Q, A, nL, e⟩ := G
  intro H locs ls hl hP hD hS
  exact lv_lstore O.1 O.2.1 d hl hj rfl (fun ls2 hl2 => kk H locs ls2 hl2 hP hD hS)
theorem v_aload_n {x : Nat} {j : Fin 4} (O : OKG E G cc own R0 tb) (d : decode cc pc = .ok (.aload_n j, 1)) (hx : ldv lv (j : Nat) = some (.ref x)) (kk : V E G k n (pc + 1) lv (.ref x :: st) w) : V E G k n pc lv st w := by
  obtain ⟨p, R, s, m, args, below, meth, c, Q, A, nL, e⟩ := G
  intro H locs ls hl hP hD hS
  exact lv_aload_n O.1 O.2.1 d rfl (ldv_at hl hx) (kk H locs ls hl hP hD hS)
theorem v_aload {x : Nat} {j : Nat} (O : OKG E G cc own R0 tb) (d : decode cc pc = .ok (.aload j, 2)) (hx : ldv lv j = some (.ref x)) (kk : V E G k n (pc + 2) lv (.ref x :: st) w) : V E G k n pc lv st w := by
  obtain ⟨p, R, s, m, args, below, meth, c, Q, A, nL, e⟩ := G
  intro H locs ls hl hP hD hS
  exact lv_aload O.1 O.2.1 d (ldv_at hl hx) (kk H locs ls hl hP hD hS)
theorem v_astore_n {x : Nat} {j : Fin 4} (O : OKG E G cc own R0 tb) (d : decode cc pc = .ok (.astore_n j, 1)) (hj : (j : Nat) < nLG G) (kk : V E G k n (pc + 1) (st1 lv (j : Nat) (.ref x)) st w) : V E G k n pc lv (.ref x :: st) w := by
  obtain ⟨p, R, s, m, args, below, meth, c, Q, A, nL, e⟩ := G
  intro H locs ls hl hP hD hS
  exact lv_astore_n O.1 O.2.1 d rfl hl hj rfl (fun ls2 hl2 => kk H locs ls2 hl2 hP hD hS)
theorem v_astore {x : Nat} {j : Nat} (O : OKG E G cc own R0 tb) (d : decode cc pc = .ok (.astore j, 2)) (hj : j < nLG G) (kk : V E G k n (pc + 2) (st1 lv j (.ref x)) st w) : V E G k n pc lv (.ref x :: st) w := by
  obtain ⟨p, R, s, m, args, below, meth, c, Q, A, nL, e⟩ := G
  intro H locs ls hl hP hD hS
  exact lv_astore O.1 O.2.1 d hl hj rfl (fun ls2 hl2 => kk H locs ls2 hl2 hP hD hS)
theorem v_dload_n {x : UInt64} {j : Fin 4} (O : OKG E G cc own R0 tb) (d : decode cc pc = .ok (.dload_n j, 1)) (hx : ldv lv (j : Nat) = some (.double x)) (kk : V E G k n (pc + 1) lv (.double x :: st) w) : V E G k n pc lv st w := by
  obtain ⟨p, R, s, m, args, below, meth, c, Q, A, nL, e⟩ := G
  intro H locs ls hl hP hD hS
  exact lv_dload_n O.1 O.2.1 d rfl (ldv_at hl hx) (kk H locs ls hl hP hD hS)
theorem v_dload {x : UInt64} {j : Nat} (O : OKG E G cc own R0 tb) (d : decode cc pc = .ok (.dload j, 2)) (hx : ldv lv j = some (.double x)) (kk : V E G k n (pc + 2) lv (.double x :: st) w) : V E G k n pc lv st w := by
  obtain ⟨p, R, s, m, args, below, meth, c, Q, A, nL, e⟩ := G
  intro H locs ls hl hP hD hS
  exact lv_dload O.1 O.2.1 d (ldv_at hl hx) (kk H locs ls hl hP hD hS)
theorem v_dstore_n {x : UInt64} {j : Fin 4} (O : OKG E G cc own R0 tb) (d : decode cc pc = .ok (.dstore_n j, 1)) (hj : (j : Nat) + 1 < nLG G) (kk : V E G k n (pc + 1) (st2 lv (j : Nat) (.double x)) st w) : V E G k n pc lv (.double x :: st) w := by
  obtain ⟨p, R, s, m, args, below, meth, c, Q, A, nL, e⟩ := G
  intro H locs ls hl hP hD hS
  exact lv_dstore_n O.1 O.2.1 d rfl hl hj rfl (fun ls2 hl2 => kk H locs ls2 hl2 hP hD hS)
theorem v_dstore {x : UInt64} {j : Nat} (O : OKG E G cc own R0 tb) (d : decode cc pc = .ok (.dstore j, 2)) (hj : j + 1 < nLG G) (kk : V E G k n (pc + 2) (st2 lv j (.double x)) st w) : V E G k n pc lv (.double x :: st) w := by
  obtain ⟨p, R, s, m, args, below, meth, c, Q, A, nL, e⟩ := G
  intro H locs ls hl hP hD hS
  exact lv_dstore O.1 O.2.1 d hl hj rfl (fun ls2 hl2 => kk H locs ls2 hl2 hP hD hS)
theorem v_iinc {x : Int32} {i : Nat} {z : Int} (O : OKG E G cc own R0 tb) (d : decode cc pc = .ok (.iinc i z, 3)) (hx : ldv lv i = some (.int x)) (hj : i < nLG G) (kk : V E G k n (pc + 3) (st1 lv i (.int (x + Int32.ofInt z))) st w) : V E G k n pc lv st w := by
  obtain ⟨p, R, s, m, args, below, meth, c, Q, A, nL, e⟩ := G
  intro H locs ls hl hP hD hS
  obtain ⟨k9, hk9⟩ := ldv_mem hx
  exact lv_iinc (k := k9) O.1 O.2.1 d hl hk9 rfl hj rfl (fun ls2 hl2 => kk H locs ls2 hl2 hP hD hS)
theorem v_iincN {a b : Nat} {i : Nat} {z : Int} (O : OKG E G cc own R0 tb) (d : decode cc pc = .ok (.iinc i z, 3)) (hx : ldv lv i = some (.int (nI a))) (hz : Int32.ofInt z = nI b) (hj : i < nLG G) (kk : V E G k n (pc + 3) (st1 lv i (.int (nI (a + b)))) st w) : V E G k n pc lv st w :=
  v_iinc O d hx hj (by rw [hz, nI_add]; exact kk)
theorem v_iincD {a : Nat} {i : Nat} (O : OKG E G cc own R0 tb) (d : decode cc pc = .ok (.iinc i (-1), 3)) (hx : ldv lv i = some (.int (nI (a + 1)))) (hj : i < nLG G) (kk : V E G k n (pc + 3) (st1 lv i (.int (nI a))) st w) : V E G k n pc lv st w :=
  v_iinc O d hx hj (by rw [show (Int32.ofInt (-1)) = (-1 : Int32) from rfl, pk_m1]; exact kk)
theorem v_iadd {x y : Int32} (O : OKG E G cc own R0 tb) (d : decode cc pc = .ok (.iadd, 1)) (kk : V E G k n (pc + 1) lv (.int (x + y) :: st) w) : V E G k n pc lv (.int y :: .int x :: st) w := by
  obtain ⟨p, R, s, m, args, below, meth, c, Q, A, nL, e⟩ := G
  intro H locs ls hl hP hD hS
  exact lv_iadd O.1 O.2.1 d (kk H locs ls hl hP hD hS)
theorem v_isub {x y : Int32} (O : OKG E G cc own R0 tb) (d : decode cc pc = .ok (.isub, 1)) (kk : V E G k n (pc + 1) lv (.int (x - y) :: st) w) : V E G k n pc lv (.int y :: .int x :: st) w := by
  obtain ⟨p, R, s, m, args, below, meth, c, Q, A, nL, e⟩ := G
  intro H locs ls hl hP hD hS
  exact lv_isub O.1 O.2.1 d (kk H locs ls hl hP hD hS)
theorem v_imul {x y : Int32} (O : OKG E G cc own R0 tb) (d : decode cc pc = .ok (.imul, 1)) (kk : V E G k n (pc + 1) lv (.int (x * y) :: st) w) : V E G k n pc lv (.int y :: .int x :: st) w := by
  obtain ⟨p, R, s, m, args, below, meth, c, Q, A, nL, e⟩ := G
  intro H locs ls hl hP hD hS
  exact lv_imul O.1 O.2.1 d (kk H locs ls hl hP hD hS)
theorem v_iand {x y : Int32} (O : OKG E G cc own R0 tb) (d : decode cc pc = .ok (.iand, 1)) (kk : V E G k n (pc + 1) lv (.int (x &&& y) :: st) w) : V E G k n pc lv (.int y :: .int x :: st) w := by
  obtain ⟨p, R, s, m, args, below, meth, c, Q, A, nL, e⟩ := G
  intro H locs ls hl hP hD hS
  exact lv_iand O.1 O.2.1 d (kk H locs ls hl hP hD hS)
theorem v_ior {x y : Int32} (O : OKG E G cc own R0 tb) (d : decode cc pc = .ok (.ior, 1)) (kk : V E G k n (pc + 1) lv (.int (x ||| y) :: st) w) : V E G k n pc lv (.int y :: .int x :: st) w := by
  obtain ⟨p, R, s, m, args, below, meth, c, Q, A, nL, e⟩ := G
  intro H locs ls hl hP hD hS
  exact lv_ior O.1 O.2.1 d (kk H locs ls hl hP hD hS)
theorem v_ixor {x y : Int32} (O : OKG E G cc own R0 tb) (d : decode cc pc = .ok (.ixor, 1)) (kk : V E G k n (pc + 1) lv (.int (x ^^^ y) :: st) w) : V E G k n pc lv (.int y :: .int x :: st) w := by
  obtain ⟨p, R, s, m, args, below, meth, c, Q, A, nL, e⟩ := G
  intro H locs ls hl hP hD hS
  exact lv_ixor O.1 O.2.1 d (kk H locs ls hl hP hD hS)
theorem v_ishl {x y : Int32} (O : OKG E G cc own R0 tb) (d : decode cc pc = .ok (.ishl, 1)) (kk : V E G k n (pc + 1) lv (.int (x <<< (y &&& 31)) :: st) w) : V E G k n pc lv (.int y :: .int x :: st) w := by
  obtain ⟨p, R, s, m, args, below, meth, c, Q, A, nL, e⟩ := G
  intro H locs ls hl hP hD hS
  exact lv_ishl O.1 O.2.1 d (kk H locs ls hl hP hD hS)
theorem v_ishr {x y : Int32} (O : OKG E G cc own R0 tb) (d : decode cc pc = .ok (.ishr, 1)) (kk : V E G k n (pc + 1) lv (.int (x >>> (y &&& 31)) :: st) w) : V E G k n pc lv (.int y :: .int x :: st) w := by
  obtain ⟨p, R, s, m, args, below, meth, c, Q, A, nL, e⟩ := G
  intro H locs ls hl hP hD hS
  exact lv_ishr O.1 O.2.1 d (kk H locs ls hl hP hD hS)
theorem v_idiv {x y : Int32} (O : OKG E G cc own R0 tb) (d : decode cc pc = .ok (.idiv, 1)) (hne : ¬ y = 0) (kk : V E G k n (pc + 1) lv (.int (x / y) :: st) w) : V E G k n pc lv (.int y :: .int x :: st) w := by
  obtain ⟨p, R, s, m, args, below, meth, c, Q, A, nL, e⟩ := G
  intro H locs ls hl hP hD hS
  exact lv_idiv O.1 O.2.1 d hne (kk H locs ls hl hP hD hS)
theorem v_irem {x y : Int32} (O : OKG E G cc own R0 tb) (d : decode cc pc = .ok (.irem, 1)) (hne : ¬ y = 0) (kk : V E G k n (pc + 1) lv (.int (x - x / y * y) :: st) w) : V E G k n pc lv (.int y :: .int x :: st) w := by
  obtain ⟨p, R, s, m, args, below, meth, c, Q, A, nL, e⟩ := G
  intro H locs ls hl hP hD hS
  exact lv_irem O.1 O.2.1 d hne (kk H locs ls hl hP hD hS)
theorem v_ineg {x : Int32} (O : OKG E G cc own R0 tb) (d : decode cc pc = .ok (.ineg, 1)) (kk : V E G k n (pc + 1) lv (.int (-x) :: st) w) : V E G k n pc lv (.int x :: st) w := by
  obtain ⟨p, R, s, m, args, below, meth, c, Q, A, nL, e⟩ := G
  intro H locs ls hl hP hD hS
  exact lv_ineg O.1 O.2.1 d (kk H locs ls hl hP hD hS)
theorem v_ladd {x y : Int64} (O : OKG E G cc own R0 tb) (d : decode cc pc = .ok (.ladd, 1)) (kk : V E G k n (pc + 1) lv (.long (x + y) :: st) w) : V E G k n pc lv (.long y :: .long x :: st) w := by
  obtain ⟨p, R, s, m, args, below, meth, c, Q, A, nL, e⟩ := G
  intro H locs ls hl hP hD hS
  exact lv_ladd O.1 O.2.1 d (kk H locs ls hl hP hD hS)
theorem v_lsub {x y : Int64} (O : OKG E G cc own R0 tb) (d : decode cc pc = .ok (.lsub, 1)) (kk : V E G k n (pc + 1) lv (.long (x - y) :: st) w) : V E G k n pc lv (.long y :: .long x :: st) w := by
  obtain ⟨p, R, s, m, args, below, meth, c, Q, A, nL, e⟩ := G
  intro H locs ls hl hP hD hS
  exact lv_lsub O.1 O.2.1 d (kk H locs ls hl hP hD hS)
theorem v_lmul {x y : Int64} (O : OKG E G cc own R0 tb) (d : decode cc pc = .ok (.lmul, 1)) (kk : V E G k n (pc + 1) lv (.long (x * y) :: st) w) : V E G k n pc lv (.long y :: .long x :: st) w := by
  obtain ⟨p, R, s, m, args, below, meth, c, Q, A, nL, e⟩ := G
  intro H locs ls hl hP hD hS
  exact lv_lmul O.1 O.2.1 d (kk H locs ls hl hP hD hS)
theorem v_land {x y : Int64} (O : OKG E G cc own R0 tb) (d : decode cc pc = .ok (.land, 1)) (kk : V E G k n (pc + 1) lv (.long (x &&& y) :: st) w) : V E G k n pc lv (.long y :: .long x :: st) w := by
  obtain ⟨p, R, s, m, args, below, meth, c, Q, A, nL, e⟩ := G
  intro H locs ls hl hP hD hS
  exact lv_land O.1 O.2.1 d (kk H locs ls hl hP hD hS)
theorem v_lor {x y : Int64} (O : OKG E G cc own R0 tb) (d : decode cc pc = .ok (.lor, 1)) (kk : V E G k n (pc + 1) lv (.long (x ||| y) :: st) w) : V E G k n pc lv (.long y :: .long x :: st) w := by
  obtain ⟨p, R, s, m, args, below, meth, c, Q, A, nL, e⟩ := G
  intro H locs ls hl hP hD hS
  exact lv_lor O.1 O.2.1 d (kk H locs ls hl hP hD hS)
theorem v_ldiv {x y : Int64} (O : OKG E G cc own R0 tb) (d : decode cc pc = .ok (.ldiv, 1)) (hne : ¬ y = 0) (kk : V E G k n (pc + 1) lv (.long (x / y) :: st) w) : V E G k n pc lv (.long y :: .long x :: st) w := by
  obtain ⟨p, R, s, m, args, below, meth, c, Q, A, nL, e⟩ := G
  intro H locs ls hl hP hD hS
  exact lv_ldiv O.1 O.2.1 d hne (kk H locs ls hl hP hD hS)
theorem v_lshl {x : Int64} {y : Int32} (O : OKG E G cc own R0 tb) (d : decode cc pc = .ok (.lshl, 1)) (kk : V E G k n (pc + 1) lv (.long (x <<< (y.toInt64 &&& 63)) :: st) w) : V E G k n pc lv (.int y :: .long x :: st) w := by
  obtain ⟨p, R, s, m, args, below, meth, c, Q, A, nL, e⟩ := G
  intro H locs ls hl hP hD hS
  exact lv_lshl O.1 O.2.1 d rfl (kk H locs ls hl hP hD hS)
theorem v_i2l {x : Int32} (O : OKG E G cc own R0 tb) (d : decode cc pc = .ok (.i2l, 1)) (kk : V E G k n (pc + 1) lv (.long x.toInt64 :: st) w) : V E G k n pc lv (.int x :: st) w := by
  obtain ⟨p, R, s, m, args, below, meth, c, Q, A, nL, e⟩ := G
  intro H locs ls hl hP hD hS
  exact lv_i2l O.1 O.2.1 d rfl (kk H locs ls hl hP hD hS)
theorem v_i2d {x : Int32} (O : OKG E G cc own R0 tb) (d : decode cc pc = .ok (.i2d, 1)) (kk : V E G k n (pc + 1) lv (.double (FP.i2d x) :: st) w) : V E G k n pc lv (.int x :: st) w := by
  obtain ⟨p, R, s, m, args, below, meth, c, Q, A, nL, e⟩ := G
  intro H locs ls hl hP hD hS
  exact lv_i2d O.1 O.2.1 d (kk H locs ls hl hP hD hS)
theorem v_l2d {x : Int64} (O : OKG E G cc own R0 tb) (d : decode cc pc = .ok (.l2d, 1)) (kk : V E G k n (pc + 1) lv (.double (FP.l2d x) :: st) w) : V E G k n pc lv (.long x :: st) w := by
  obtain ⟨p, R, s, m, args, below, meth, c, Q, A, nL, e⟩ := G
  intro H locs ls hl hP hD hS
  exact lv_l2d O.1 O.2.1 d (kk H locs ls hl hP hD hS)
theorem v_ddiv {x y : UInt64} (O : OKG E G cc own R0 tb) (d : decode cc pc = .ok (.ddiv, 1)) (hne : vf_n64 (FP.ddiv x y)) (kk : V E G k n (pc + 1) lv (.double (FP.ddiv x y) :: st) w) : V E G k n pc lv (.double y :: .double x :: st) w := by
  obtain ⟨p, R, s, m, args, below, meth, c, Q, A, nL, e⟩ := G
  intro H locs ls hl hP hD hS
  exact lv_ddiv O.1 O.2.1 d hne (kk H locs ls hl hP hD hS)
theorem v_dcmp {x y : UInt64} {op : CmpOp} (O : OKG E G cc own R0 tb) (d : decode cc pc = .ok (.dcmp op, 1)) (kk : V E G k n (pc + 1) lv (.int (Op.cmpValue (FP.dcmp x y) op) :: st) w) : V E G k n pc lv (.double y :: .double x :: st) w := by
  obtain ⟨p, R, s, m, args, below, meth, c, Q, A, nL, e⟩ := G
  intro H locs ls hl hP hD hS
  exact lv_dcmp O.1 O.2.1 d (kk H locs ls hl hP hD hS)
theorem v_lcmp {x y : Int64} (O : OKG E G cc own R0 tb) (d : decode cc pc = .ok (.lcmp, 1)) (kk : V E G k n (pc + 1) lv (.int (lg_cmp x y) :: st) w) : V E G k n pc lv (.long y :: .long x :: st) w := by
  obtain ⟨p, R, s, m, args, below, meth, c, Q, A, nL, e⟩ := G
  intro H locs ls hl hP hD hS
  exact W.lcmp O.1 O.2.1 d (kk H locs ls hl hP hD hS)
theorem v_dup {v : Value} (O : OKG E G cc own R0 tb) (d : decode cc pc = .ok (.dup, 1)) (hv : v.category = 1) (kk : V E G k n (pc + 1) lv (v :: v :: st) w) : V E G k n pc lv (v :: st) w := by
  obtain ⟨p, R, s, m, args, below, meth, c, Q, A, nL, e⟩ := G
  intro H locs ls hl hP hD hS
  exact lv_dup O.1 O.2.1 d hv (kk H locs ls hl hP hD hS)
theorem v_dup2 {v u : Value} (O : OKG E G cc own R0 tb) (d : decode cc pc = .ok (.dup2, 1)) (hv : v.category = 1) (hu : u.category = 1) (kk : V E G k n (pc + 1) lv (v :: u :: v :: u :: st) w) : V E G k n pc lv (v :: u :: st) w := by
  obtain ⟨p, R, s, m, args, below, meth, c, Q, A, nL, e⟩ := G
  intro H locs ls hl hP hD hS
  exact lv_dup2_11 O.1 O.2.1 d hv hu (kk H locs ls hl hP hD hS)
theorem v_goto {z : Int} {tgt : Nat} (O : OKG E G cc own R0 tb) (d : decode cc pc = .ok (.goto z, 3)) (ht : (pc : Int) + z = (tgt : Int)) (kk : V E G k n tgt lv st w) : V E G k n pc lv st w := by
  obtain ⟨p, R, s, m, args, below, meth, c, Q, A, nL, e⟩ := G
  intro H locs ls hl hP hD hS
  exact lv_goto O.1 O.2.1 d ht (kk H locs ls hl hP hD hS)
theorem v_if_eq {x : Int32} {z : Int} {tgt : Nat} (O : OKG E G cc own R0 tb) (d : decode cc pc = .ok (.ifCond .eq z, 3)) (ht : (pc : Int) + z = (tgt : Int)) (kt : x = 0 → V E G k n tgt lv st w) (kf : ¬ x = 0 → V E G k n (pc + 3) lv st w) : V E G k n pc lv (.int x :: st) w := by
  obtain ⟨p, R, s, m, args, below, meth, c, Q, A, nL, e⟩ := G
  intro H locs ls hl hP hD hS
  exact lv_if_eq O.1 O.2.1 d ht (fun h => kt h H locs ls hl hP hD hS) (fun h => kf h H locs ls hl hP hD hS)
theorem v_icmp_eq {x y : Int32} {z : Int} {tgt : Nat} (O : OKG E G cc own R0 tb) (d : decode cc pc = .ok (.if_icmp .eq z, 3)) (ht : (pc : Int) + z = (tgt : Int)) (kt : x = y → V E G k n tgt lv st w) (kf : ¬ x = y → V E G k n (pc + 3) lv st w) : V E G k n pc lv (.int y :: .int x :: st) w := by
  obtain ⟨p, R, s, m, args, below, meth, c, Q, A, nL, e⟩ := G
  intro H locs ls hl hP hD hS
  exact lv_icmp_eq O.1 O.2.1 d ht (fun h => kt h H locs ls hl hP hD hS) (fun h => kf h H locs ls hl hP hD hS)
theorem v_if_ne {x : Int32} {z : Int} {tgt : Nat} (O : OKG E G cc own R0 tb) (d : decode cc pc = .ok (.ifCond .ne z, 3)) (ht : (pc : Int) + z = (tgt : Int)) (kt : ¬ x = 0 → V E G k n tgt lv st w) (kf : x = 0 → V E G k n (pc + 3) lv st w) : V E G k n pc lv (.int x :: st) w := by
  obtain ⟨p, R, s, m, args, below, meth, c, Q, A, nL, e⟩ := G
  intro H locs ls hl hP hD hS
  exact lv_if_ne O.1 O.2.1 d ht (fun h => kt h H locs ls hl hP hD hS) (fun h => kf h H locs ls hl hP hD hS)
theorem v_icmp_ne {x y : Int32} {z : Int} {tgt : Nat} (O : OKG E G cc own R0 tb) (d : decode cc pc = .ok (.if_icmp .ne z, 3)) (ht : (pc : Int) + z = (tgt : Int)) (kt : ¬ x = y → V E G k n tgt lv st w) (kf : x = y → V E G k n (pc + 3) lv st w) : V E G k n pc lv (.int y :: .int x :: st) w := by
  obtain ⟨p, R, s, m, args, below, meth, c, Q, A, nL, e⟩ := G
  intro H locs ls hl hP hD hS
  exact lv_icmp_ne O.1 O.2.1 d ht (fun h => kt h H locs ls hl hP hD hS) (fun h => kf h H locs ls hl hP hD hS)
theorem v_if_lt {x : Int32} {z : Int} {tgt : Nat} (O : OKG E G cc own R0 tb) (d : decode cc pc = .ok (.ifCond .lt z, 3)) (ht : (pc : Int) + z = (tgt : Int)) (kt : x < 0 → V E G k n tgt lv st w) (kf : ¬ x < 0 → V E G k n (pc + 3) lv st w) : V E G k n pc lv (.int x :: st) w := by
  obtain ⟨p, R, s, m, args, below, meth, c, Q, A, nL, e⟩ := G
  intro H locs ls hl hP hD hS
  exact lv_if_lt O.1 O.2.1 d ht (fun h => kt h H locs ls hl hP hD hS) (fun h => kf h H locs ls hl hP hD hS)
theorem v_icmp_lt {x y : Int32} {z : Int} {tgt : Nat} (O : OKG E G cc own R0 tb) (d : decode cc pc = .ok (.if_icmp .lt z, 3)) (ht : (pc : Int) + z = (tgt : Int)) (kt : x < y → V E G k n tgt lv st w) (kf : ¬ x < y → V E G k n (pc + 3) lv st w) : V E G k n pc lv (.int y :: .int x :: st) w := by
  obtain ⟨p, R, s, m, args, below, meth, c, Q, A, nL, e⟩ := G
  intro H locs ls hl hP hD hS
  exact lv_icmp_lt O.1 O.2.1 d ht (fun h => kt h H locs ls hl hP hD hS) (fun h => kf h H locs ls hl hP hD hS)
theorem v_if_ge {x : Int32} {z : Int} {tgt : Nat} (O : OKG E G cc own R0 tb) (d : decode cc pc = .ok (.ifCond .ge z, 3)) (ht : (pc : Int) + z = (tgt : Int)) (kt : 0 ≤ x → V E G k n tgt lv st w) (kf : ¬ 0 ≤ x → V E G k n (pc + 3) lv st w) : V E G k n pc lv (.int x :: st) w := by
  obtain ⟨p, R, s, m, args, below, meth, c, Q, A, nL, e⟩ := G
  intro H locs ls hl hP hD hS
  exact lv_if_ge O.1 O.2.1 d ht (fun h => kt h H locs ls hl hP hD hS) (fun h => kf h H locs ls hl hP hD hS)
theorem v_icmp_ge {x y : Int32} {z : Int} {tgt : Nat} (O : OKG E G cc own R0 tb) (d : decode cc pc = .ok (.if_icmp .ge z, 3)) (ht : (pc : Int) + z = (tgt : Int)) (kt : y ≤ x → V E G k n tgt lv st w) (kf : ¬ y ≤ x → V E G k n (pc + 3) lv st w) : V E G k n pc lv (.int y :: .int x :: st) w := by
  obtain ⟨p, R, s, m, args, below, meth, c, Q, A, nL, e⟩ := G
  intro H locs ls hl hP hD hS
  exact lv_icmp_ge O.1 O.2.1 d ht (fun h => kt h H locs ls hl hP hD hS) (fun h => kf h H locs ls hl hP hD hS)
theorem v_if_gt {x : Int32} {z : Int} {tgt : Nat} (O : OKG E G cc own R0 tb) (d : decode cc pc = .ok (.ifCond .gt z, 3)) (ht : (pc : Int) + z = (tgt : Int)) (kt : 0 < x → V E G k n tgt lv st w) (kf : ¬ 0 < x → V E G k n (pc + 3) lv st w) : V E G k n pc lv (.int x :: st) w := by
  obtain ⟨p, R, s, m, args, below, meth, c, Q, A, nL, e⟩ := G
  intro H locs ls hl hP hD hS
  exact lv_if_gt O.1 O.2.1 d ht (fun h => kt h H locs ls hl hP hD hS) (fun h => kf h H locs ls hl hP hD hS)
theorem v_icmp_gt {x y : Int32} {z : Int} {tgt : Nat} (O : OKG E G cc own R0 tb) (d : decode cc pc = .ok (.if_icmp .gt z, 3)) (ht : (pc : Int) + z = (tgt : Int)) (kt : y < x → V E G k n tgt lv st w) (kf : ¬ y < x → V E G k n (pc + 3) lv st w) : V E G k n pc lv (.int y :: .int x :: st) w := by
  obtain ⟨p, R, s, m, args, below, meth, c, Q, A, nL, e⟩ := G
  intro H locs ls hl hP hD hS
  exact lv_icmp_gt O.1 O.2.1 d ht (fun h => kt h H locs ls hl hP hD hS) (fun h => kf h H locs ls hl hP hD hS)
theorem v_if_le {x : Int32} {z : Int} {tgt : Nat} (O : OKG E G cc own R0 tb) (d : decode cc pc = .ok (.ifCond .le z, 3)) (ht : (pc : Int) + z = (tgt : Int)) (kt : x ≤ 0 → V E G k n tgt lv st w) (kf : ¬ x ≤ 0 → V E G k n (pc + 3) lv st w) : V E G k n pc lv (.int x :: st) w := by
  obtain ⟨p, R, s, m, args, below, meth, c, Q, A, nL, e⟩ := G
  intro H locs ls hl hP hD hS
  exact lv_if_le O.1 O.2.1 d ht (fun h => kt h H locs ls hl hP hD hS) (fun h => kf h H locs ls hl hP hD hS)
theorem v_icmp_le {x y : Int32} {z : Int} {tgt : Nat} (O : OKG E G cc own R0 tb) (d : decode cc pc = .ok (.if_icmp .le z, 3)) (ht : (pc : Int) + z = (tgt : Int)) (kt : x ≤ y → V E G k n tgt lv st w) (kf : ¬ x ≤ y → V E G k n (pc + 3) lv st w) : V E G k n pc lv (.int y :: .int x :: st) w := by
  obtain ⟨p, R, s, m, args, below, meth, c, Q, A, nL, e⟩ := G
  intro H locs ls hl hP hD hS
  exact lv_icmp_le O.1 O.2.1 d ht (fun h => kt h H locs ls hl hP hD hS) (fun h => kf h H locs ls hl hP hD hS)
theorem v_tableIn {dflt lo hi : Int} {offs : Array Int} {len : Nat} {x : Int32} {off : Int} {tgt : Nat} (O : OKG E G cc own R0 tb) (d : decode cc pc = .ok (.tableswitch dflt lo hi offs, len)) (h1 : ¬ x.toInt < lo) (h2 : ¬ hi < x.toInt) (ho : offs[(x.toInt - lo).toNat]? = some off) (ht : (pc : Int) + off = (tgt : Int)) (kk : V E G k n tgt lv st w) : V E G k n pc lv (.int x :: st) w := by
  obtain ⟨p, R, s, m, args, below, meth, c, Q, A, nL, e⟩ := G
  intro H locs ls hl hP hD hS
  exact lv_tableIn O.1 O.2.1 d h1 h2 ho ht (kk H locs ls hl hP hD hS)
theorem v_tableOut {dflt lo hi : Int} {offs : Array Int} {len : Nat} {x : Int32} {tgt : Nat} (O : OKG E G cc own R0 tb) (d : decode cc pc = .ok (.tableswitch dflt lo hi offs, len)) (h : x.toInt < lo ∨ hi < x.toInt) (ht : (pc : Int) + dflt = (tgt : Int)) (kk : V E G k n tgt lv st w) : V E G k n pc lv (.int x :: st) w := by
  obtain ⟨p, R, s, m, args, below, meth, c, Q, A, nL, e⟩ := G
  intro H locs ls hl hP hD hS
  exact lv_tableOut O.1 O.2.1 d h ht (kk H locs ls hl hP hD hS)
-- in numbers: nI a stands for the natural number a
theorem v_iaddN {a b : Nat} (O : OKG E G cc own R0 tb) (d : decode cc pc = .ok (.iadd, 1)) (kk : V E G k n (pc + 1) lv (.int (nI (a + b)) :: st) w) : V E G k n pc lv (.int (nI b) :: .int (nI a) :: st) w := v_iadd O d (by rw [nI_add]; exact kk)
theorem v_imulN {a b : Nat} (O : OKG E G cc own R0 tb) (d : decode cc pc = .ok (.imul, 1)) (kk : V E G k n (pc + 1) lv (.int (nI (a * b)) :: st) w) : V E G k n pc lv (.int (nI b) :: .int (nI a) :: st) w := v_imul O d (by rw [pk_mul]; exact kk)
theorem v_isubN {a b : Nat} (O : OKG E G cc own R0 tb) (d : decode cc pc = .ok (.isub, 1)) (h : b ≤ a) (kk : V E G k n (pc + 1) lv (.int (nI (a - b)) :: st) w) : V E G k n pc lv (.int (nI b) :: .int (nI a) :: st) w := v_isub O d (by rw [pk_sub h]; exact kk)
theorem v_idivN {a b : Nat} (O : OKG E G cc own R0 tb) (d : decode cc pc = .ok (.idiv, 1)) (ha : a < 2 ^ 31) (h0 : 0 < b) (hb : b < 2 ^ 31) (kk : V E G k n (pc + 1) lv (.int (nI (a / b)) :: st) w) : V E G k n pc lv (.int (nI b) :: .int (nI a) :: st) w := v_idiv O d (nI_ne0 h0 hb) (by rw [pk_div ha h0 hb]; exact kk)
theorem v_iremN {a b : Nat} (O : OKG E G cc own R0 tb) (d : decode cc pc = .ok (.irem, 1)) (ha : a < 2 ^ 31) (h0 : 0 < b) (hb : b < 2 ^ 31) (kk : V E G k n (pc + 1) lv (.int (nI (a % b)) :: st) w) : V E G k n pc lv (.int (nI b) :: .int (nI a) :: st) w := v_irem O d (nI_ne0 h0 hb) (by rw [pk_rem ha h0 hb]; exact kk)
theorem v_icmpN_ge {a b : Nat} {z : Int} {tgt : Nat} (O : OKG E G cc own R0 tb) (d : decode cc pc = .ok (.if_icmp .ge z, 3)) (ht : (pc : Int) + z = (tgt : Int)) (ha : a < 2 ^ 31) (hb : b < 2 ^ 31) (kt : b ≤ a → V E G k n tgt lv st w) (kf : a < b → V E G k n (pc + 3) lv st w) : V E G k n pc lv (.int (nI b) :: .int (nI a) :: st) w := v_icmp_ge O d ht (fun h => kt ((nI_leI hb ha).mp h)) (fun h => kf (Nat.lt_of_not_le (fun q => h ((nI_leI hb ha).mpr q))))
theorem v_icmpN_gt {a b : Nat} {z : Int} {tgt : Nat} (O : OKG E G cc own R0 tb) (d : decode cc pc = .ok (.if_icmp .gt z, 3)) (ht : (pc : Int) + z = (tgt : Int)) (ha : a < 2 ^ 31) (hb : b < 2 ^ 31) (kt : b < a → V E G k n tgt lv st w) (kf : a ≤ b → V E G k n (pc + 3) lv st w) : V E G k n pc lv (.int (nI b) :: .int (nI a) :: st) w := v_icmp_gt O d ht (fun h => kt ((nI_ltI hb ha).mp h)) (fun h => kf (Nat.le_of_not_lt (fun q => h ((nI_ltI hb ha).mpr q))))
theorem v_icmpN_le {a b : Nat} {z : Int} {tgt : Nat} (O : OKG E G cc own R0 tb) (d : decode cc pc = .ok (.if_icmp .le z, 3)) (ht : (pc : Int) + z = (tgt : Int)) (ha : a < 2 ^ 31) (hb : b < 2 ^ 31) (kt : a ≤ b → V E G k n tgt lv st w) (kf : b < a → V E G k n (pc + 3) lv st w) : V E G k n pc lv (.int (nI b) :: .int (nI a) :: st) w := v_icmp_le O d ht (fun h => kt ((nI_leI ha hb).mp h)) (fun h => kf (Nat.lt_of_not_le (fun q => h ((nI_leI ha hb).mpr q))))
theorem v_icmpN_lt {a b : Nat} {z : Int} {tgt : Nat} (O : OKG E G cc own R0 tb) (d : decode cc pc = .ok (.if_icmp .lt z, 3)) (ht : (pc : Int) + z = (tgt : Int)) (ha : a < 2 ^ 31) (hb : b < 2 ^ 31) (kt : a < b → V E G k n tgt lv st w) (kf : b ≤ a → V E G k n (pc + 3) lv st w) : V E G k n pc lv (.int (nI b) :: .int (nI a) :: st) w := v_icmp_lt O d ht (fun h => kt ((nI_ltI ha hb).mp h)) (fun h => kf (Nat.le_of_not_lt (fun q => h ((nI_ltI ha hb).mpr q))))
theorem v_icmpN_eq {a b : Nat} {z : Int} {tgt : Nat} (O : OKG E G cc own R0 tb) (d : decode cc pc = .ok (.if_icmp .eq z, 3)) (ht : (pc : Int) + z = (tgt : Int)) (ha : a < 2 ^ 31) (hb : b < 2 ^ 31) (kt : a = b → V E G k n tgt lv st w) (kf : a ≠ b → V E G k n (pc + 3) lv st w) : V E G k n pc lv (.int (nI b) :: .int (nI a) :: st) w := v_icmp_eq O d ht (fun h => kt ((nI_eq ha hb).mp h)) (fun h => kf (fun q => h ((nI_eq ha hb).mpr q)))
theorem v_icmpN_ne {a b : Nat} {z : Int} {tgt : Nat} (O : OKG E G cc own R0 tb) (d : decode cc pc = .ok (.if_icmp .ne z, 3)) (ht : (pc : Int) + z = (tgt : Int)) (ha : a < 2 ^ 31) (hb : b < 2 ^ 31) (kt : a ≠ b → V E G k n tgt lv st w) (kf : a = b → V E G k n (pc + 3) lv st w) : V E G k n pc lv (.int (nI b) :: .int (nI a) :: st) w := v_icmp_ne O d ht (fun h => kt (fun q => h ((nI_eq ha hb).mpr q))) (fun h => kf ((nI_eq ha hb).mp h))
theorem v_ifN_eq {a : Nat} {z : Int} {tgt : Nat} (O : OKG E G cc own R0 tb) (d : decode cc pc = .ok (.ifCond .eq z, 3)) (ht : (pc : Int) + z = (tgt : Int)) (ha : a < 2 ^ 31) (kt : a = 0 → V E G k n tgt lv st w) (kf : 0 < a → V E G k n (pc + 3) lv st w) : V E G k n pc lv (.int (nI a) :: st) w := v_if_eq O d ht (fun h => kt (by rcases Nat.eq_zero_or_pos a with q | q; exact q; exact absurd h (nI_ne0 q ha))) (fun h => kf (by rcases Nat.eq_zero_or_pos a with q | q; exact absurd (by rw [q]; exact nI_0) h; exact q))
theorem v_ifN_ne {a : Nat} {z : Int} {tgt : Nat} (O : OKG E G cc own R0 tb) (d : decode cc pc = .ok (.ifCond .ne z, 3)) (ht : (pc : Int) + z = (tgt : Int)) (ha : a < 2 ^ 31) (kt : 0 < a → V E G k n tgt lv st w) (kf : a = 0 → V E G k n (pc + 3) lv st w) : V E G k n pc lv (.int (nI a) :: st) w := v_if_ne O d ht (fun h => kt (by rcases Nat.eq_zero_or_pos a with q | q; exact absurd (by rw [q]; exact nI_0) h; exact q)) (fun h => kf (by rcases Nat.eq_zero_or_pos a with q | q; exact q; exact absurd h (nI_ne0 q ha)))
theorem v_ifN_le {a : Nat} {z : Int} {tgt : Nat} (O : OKG E G cc own R0 tb) (d : decode cc pc = .ok (.ifCond .le z, 3)) (ht : (pc : Int) + z = (tgt : Int)) (ha : a < 2 ^ 31) (kt : a = 0 → V E G k n tgt lv st w) (kf : 0 < a → V E G k n (pc + 3) lv st w) : V E G k n pc lv (.int (nI a) :: st) w := v_if_le O d ht (fun h => kt (by rcases Nat.eq_zero_or_pos a with q | q; exact q; exact absurd h (nI_nle q ha))) (fun h => kf (by rcases Nat.eq_zero_or_pos a with q | q; exact absurd (by rw [q, nI_0]; decide) h; exact q))
theorem v_ifN_gt {a : Nat} {z : Int} {tgt : Nat} (O : OKG E G cc own R0 tb) (d : decode cc pc = .ok (.ifCond .gt z, 3)) (ht : (pc : Int) + z = (tgt : Int)) (ha : a < 2 ^ 31) (kt : 0 < a → V E G k n tgt lv st w) (kf : a = 0 → V E G k n (pc + 3) lv st w) : V E G k n pc lv (.int (nI a) :: st) w := v_if_gt O d ht (fun h => kt (by rcases Nat.eq_zero_or_pos a with q | q; exact absurd h (by rw [q, nI_0]; decide); exact q)) (fun h => kf (by rcases Nat.eq_zero_or_pos a with q | q; exact q; exact absurd (by have := nI_lt q ha; rw [nI_0] at this; exact this) h))
theorem v_ifN_lt {a : Nat} {z : Int} {tgt : Nat} (O : OKG E G cc own R0 tb) (d : decode cc pc = .ok (.ifCond .lt z, 3)) (ha : a < 2 ^ 31) (kf : V E G k n (pc + 3) lv st w) (tg : Nat) (ht : (pc : Int) + z = (tg : Int)) : V E G k n pc lv (.int (nI a) :: st) w := v_if_lt O d ht (fun h => absurd h (nI_pos ha)) (fun _ => kf)
theorem v_ifN_ge {a : Nat} {z : Int} {tgt : Nat} (O : OKG E G cc own R0 tb) (d : decode cc pc = .ok (.ifCond .ge z, 3)) (ht : (pc : Int) + z = (tgt : Int)) (ha : a < 2 ^ 31) (kt : V E G k n tgt lv st w) : V E G k n pc lv (.int (nI a) :: st) w := v_if_ge O d ht (fun _ => kt) (fun h => absurd (nI_pos' ha) h)
-- truth values: bI b is 1 or 0
end VR
end
section
/-! the heap's rows, contracts, calls and throws over V -/
def bI (b : Bool) : Int32 := if b then 1 else 0
theorem gw_good {cd : Cond} (h : cd ∈ GW) : GoodIn GW (cd :: GW) := fun w hw => by
  have h1 : w ∈ GW := (List.mem_cons.mp hw).elim (fun e => e ▸ h) id
  exact ⟨h1, good_of_word (List.mem_filter.mp h1).2⟩
theorem nw_use {w : Cond} (h : w ∈ NWL) {A : Array Value} {U : State} (hZ : va_Nw w U) : w.before A U = true := by
  have h1 := (List.mem_filter.mp h).2
  cases w <;> first
    | exact va_Nw.use rfl hZ
    | (simp [isNW] at h1)
/-- a field's link: the class's number, the field's number -/
def FLk (own : String) (index ci kf : Nat) (C : String) (T : u_T) (N : Nat) : Prop := vwCl[ci]? = some (C, T, N) ∧ kf < N ∧ Cond.fieldLink own index (T kf).1 (T kf).2.1 (T kf).2.2.1 ∈ GW ∧ ∀ w ∈ u_ws C T N, w ∈ GW
def FLn (own : String) (index ci kf : Nat) (C : String) (T : u_T) (N : Nat) : Prop := vwCl[ci]? = some (C, T, N) ∧ kf < N ∧ Cond.fieldLinkNest own index (T kf).1 (T kf).2.1 (T kf).2.2.1 RX4 ∈ NWL ∧ ∀ w ∈ u_ws C T N, w ∈ GW
/-- a class's field types -/
def FTy (T : u_T) (N : Nat) : Prop := ∃ ty : Nat → FieldType, (∀ k, k < N → parseFieldDescriptor (T k).2.2.1 = some (ty k)) ∧ ∀ a, a < N → ∀ b, b < N → a ≠ b → (T a).2.1 ≠ (T b).2.1
def LkV (own : String) (index : Nat) (y : MethodName) (cd : Cond) (na : Nat) : Prop := cd ∈ GW ∧ Cond.methodLink own index y ∈ GW ∧ Cond.instanceMethod y ∈ GW ∧ Cond.selects y.cls y y ∈ GW ∧ Cond.initialized y.cls ∈ GW ∧ (y.cls ≠ "java/lang/invoke/MethodHandle" ∧ y.cls ≠ "java/lang/invoke/VarHandle" ∧ (parseMethodDescriptor y.desc).map (fun d => d.parameters.length) = some na)
def LkVN (own : String) (index : Nat) (y : MethodName) (cd : Cond) (na : Nat) : Prop := cd ∈ GW ∧ Cond.methodLinkNest own index y RX4 ∈ NWL ∧ Cond.instanceMethod y ∈ GW ∧ Cond.selects y.cls y y ∈ GW ∧ Cond.initialized y.cls ∈ GW ∧ (y.cls ≠ "java/lang/invoke/MethodHandle" ∧ y.cls ≠ "java/lang/invoke/VarHandle" ∧ (parseMethodDescriptor y.desc).map (fun d => d.parameters.length) = some na)
def LkS (own : String) (index : Nat) (y : MethodName) (cd : Cond) (na : Nat) : Prop := cd ∈ GW ∧ Cond.methodLink own index y ∈ GW ∧ Cond.static y ∈ GW ∧ Cond.initialized y.cls ∈ GW ∧ (y.cls ≠ "java/lang/invoke/MethodHandle" ∧ y.cls ≠ "java/lang/invoke/VarHandle" ∧ (parseMethodDescriptor y.desc).map (fun d => d.parameters.length) = some na)
def LkSN (own : String) (index : Nat) (y : MethodName) (cd : Cond) (na : Nat) : Prop := cd ∈ GW ∧ Cond.methodLinkNest own index y RX4 ∈ NWL ∧ Cond.static y ∈ GW ∧ Cond.initialized y.cls ∈ GW ∧ (y.cls ≠ "java/lang/invoke/MethodHandle" ∧ y.cls ≠ "java/lang/invoke/VarHandle" ∧ (parseMethodDescriptor y.desc).map (fun d => d.parameters.length) = some na)
/-- a throw's words: class, text, constructor -/
def ThOK (own : String) (ik is ic : Nat) (cls text : String) : Prop := Bundle.fit cls = true ∧ Cond.classLink own ik cls ∈ GW ∧ Cond.initialized cls ∈ GW ∧ (own, is, text) ∈ strL ∧ (∀ w ∈ vx_atS own ic cls ["java/lang/RuntimeException", "java/lang/Exception"], w ∈ GW ∨ w ∈ NWL) ∧ ∀ w ∈ Cond.classLink own ik cls :: Cond.initialized cls :: vx_atS own ic cls ["java/lang/RuntimeException", "java/lang/Exception"], vx_ot w = true
/-- a contract: from the world w with the arguments av the method comes back by post, or throws by px -/
def Ctr (E : ET) (y : MethodName) (cd : Cond) (rm : Room) (av : List Value) (w : va_W) (post : Option Value → va_W → Prop) (px : String → va_W → Prop) (mc ms : Nat) : Prop :=
  ∀ sz : Nat, vx_Met E.1 y (cd :: GW) rm (va_Pc av (fun U => U.heap.size = sz ∧ EnvS E U ∧ HeapS (va_A w sz) U U.heap ∧ va_P E.2.1 vwCl w U.heap ∧ va_D (fun _ => True) w)) (QC E post (va_A w sz)) (XQ E px (va_A w sz)) mc ms (va_A w sz)
def noX : String → va_W → Prop := fun _ _ => False
def noR : Option Value → va_W → Prop := fun _ _ => False
theorem ctr_of {E : ET} {y : MethodName} {cc : ByteArray} {maxL : Nat} {ret : Option FieldType} {rm : Room} {av : List Value} {w : va_W} {post : Option Value → va_W → Prop} {px : String → va_W → Prop} {mc ms : Nat} (hst : E.1.stackTraces = false) (hy : plainName y.cls = true) (hav : (lg_sl av).length ≤ maxL)
    (body : ∀ G : GT, OKG E G cc y.cls rm [] → OKR E G post px mc ms ret → nLG G = maxL → V E G 0 0 0 (lv_args 0 av) [] w) : Ctr E y (.code y cc maxL ret) rm av w post px mc ms := by
  intro sz
  refine vx_ofW (cc := cc) (maxL := maxL) (ret := ret) hy rfl ?_
  intro p e s m args below meth c s₁ B hml htb hv
  obtain ⟨rfl, hsz, hE, hH, hP, hD0⟩ := hv
  subst hsz
  have hts := atoms_spec (ws := .code y cc maxL ret :: GW) B.pre
  have hown : s.vm.findClass y.cls = some m.cls := findClass_of_methodNamed B.named
  have hl := lv_entry av (n := maxL) hav
  rw [lg_entry_eq]
  have htab : c.exceptionTable.toList = [] := by
    cases h : c.exceptionTable.toList with
    | nil => rfl
    | cons x r => exact absurd (htb x (by rw [h]; exact List.mem_cons_self)) id
  exact body (p, rm, s, m, av.toArray, below, meth, c, vx_MQ below (QC E post (va_A w s.heap.size)) (XQ E px (va_A w s.heap.size)) av.toArray s mc ms (va_A w s.heap.size), va_A w s.heap.size, maxL, e)
    ⟨B.exec, B.bytes, hml, hown, fun x hx => hts x (List.mem_cons_of_mem _ hx), hE, B.notSynchronized, hst, fun q h => Or.inr h, hH, rfl, htab⟩ ⟨rfl, B.returns⟩ rfl s.heap [] _ hl hP (hD0.self) va_S.rf
section VH
variable {E : ET} {G : GT} {cc : ByteArray} {own : String} {R0 : Room} {tb : List ExceptionTableEntry} {k n pc : Nat} {lv : List (Nat × Value)} {st : List Value} {w : va_W}
variable {post : Option Value → va_W → Prop} {px : String → va_W → Prop} {mc ms : Nat}
theorem v_get {C : String} {T : u_T} {N ci index a kf : Nat} {fs : List Value} {v : Value} (O : OKG E G cc own R0 tb) (d : decode cc pc = .ok (.getfield index, 3)) (L : FLk own index ci kf C T N) (q0 : Nat) (he : w[q0]? = some (a, .inr (ci, fs))) (hv : fs[kf]? = some v) (kk : V E G k n (pc + 3) lv (v :: st) w) : V E G k n pc lv (.ref a :: st) w := by
  obtain ⟨p, R, s, m, args, below, meth, c, Q, A, nL, e⟩ := G
  intro H locs ls hl hP hD hS
  obtain ⟨hx, hb, hml, hown, hts, hE, -⟩ := O
  exact va_get hx hb hts L.2.2.2 hown hE.1 hP q0 he L.1 kf L.2.1 (hts _ L.2.2.1) (fun _ h9 => h9) hv d (kk H locs ls hl hP hD hS)
theorem v_getN {C : String} {T : u_T} {N ci index a kf : Nat} {fs : List Value} {v : Value} (O : OKG E G cc own R0 tb) (d : decode cc pc = .ok (.getfield index, 3)) (L : FLn own index ci kf C T N) (q0 : Nat) (he : w[q0]? = some (a, .inr (ci, fs))) (hv : fs[kf]? = some v) (kk : V E G k n (pc + 3) lv (v :: st) w) : V E G k n pc lv (.ref a :: st) w := by
  obtain ⟨p, R, s, m, args, below, meth, c, Q, A, nL, e⟩ := G
  intro H locs ls hl hP hD hS
  obtain ⟨hx, hb, hml, hown, hts, hE, -⟩ := O
  exact va_getN (host := RX4) hx hb hts L.2.2.2 hown hE.1 hP q0 he L.1 kf L.2.1 (nw_use L.2.2.1 (hE.2.1 _ L.2.2.1)) (fun _ h9 => h9) hv d (kk H locs ls hl hP hD hS)
theorem v_put {C : String} {T : u_T} {N ci index a kf : Nat} {fs : List Value} {v : Value} {ty : FieldType} (O : OKG E G cc own R0 tb) (d : decode cc pc = .ok (.putfield index, 3)) (L : FLk own index ci kf C T N) (F : FTy T N) (q0 : Nat) (he : w[q0]? = some (a, .inr (ci, fs))) (hfin : (T kf).2.2.2 = false) (hd : parseFieldDescriptor (T kf).2.2.1 = some ty) (hn : narrow ty v = v) (hfit : fits ty v = true) (hlen : kf < fs.length) (kk : V E G k n (pc + 3) lv st (w.set q0 (a, .inr (ci, fs.set kf v)))) : V E G k n pc lv (v :: .ref a :: st) w := by
  obtain ⟨p, R, s, m, args, below, meth, c, Q, A, nL, e⟩ := G
  intro H locs ls hl hP hD hS
  obtain ⟨hx, hb, hml, hown, hts, hE, -⟩ := O
  obtain ⟨ty0, t1, t2⟩ := F
  exact va_put hx hb hts L.2.2.2 ty0 t1 t2 hown hE.1 hP hD hS q0 he L.1 kf L.2.1 (hts _ L.2.2.1) (fun _ h9 => h9) hfin hd hn hfit hlen d (fun H1 locs1 hP hD hS => kk H1 locs1 ls hl hP hD hS)
theorem v_putN {C : String} {T : u_T} {N ci index a kf : Nat} {fs : List Value} {v : Value} {ty : FieldType} (O : OKG E G cc own R0 tb) (d : decode cc pc = .ok (.putfield index, 3)) (L : FLn own index ci kf C T N) (F : FTy T N) (q0 : Nat) (he : w[q0]? = some (a, .inr (ci, fs))) (hfin : (T kf).2.2.2 = false) (hd : parseFieldDescriptor (T kf).2.2.1 = some ty) (hn : narrow ty v = v) (hfit : fits ty v = true) (hlen : kf < fs.length) (kk : V E G k n (pc + 3) lv st (w.set q0 (a, .inr (ci, fs.set kf v)))) : V E G k n pc lv (v :: .ref a :: st) w := by
  obtain ⟨p, R, s, m, args, below, meth, c, Q, A, nL, e⟩ := G
  intro H locs ls hl hP hD hS
  obtain ⟨hx, hb, hml, hown, hts, hE, -⟩ := O
  obtain ⟨ty0, t1, t2⟩ := F
  exact va_putN (host := RX4) hx hb hts L.2.2.2 ty0 t1 t2 hown hE.1 hP hD hS q0 he L.1 kf L.2.1 (nw_use L.2.2.1 (hE.2.1 _ L.2.2.1)) (fun _ h9 => h9) hfin hd hn hfit hlen d (fun H1 locs1 hP hD hS => kk H1 locs1 ls hl hP hD hS)
theorem v_iald {a len j : Nat} {f : Nat → Int32} (O : OKG E G cc own R0 tb) (d : decode cc pc = .ok (.iaload, 1)) (q0 : Nat) (he : w[q0]? = some (a, .inl (E.2.2 0, len, .inl f))) (hn : len < 2 ^ 31) (hj : j < len) (kk : V E G k n (pc + 1) lv (.int (f j) :: st) w) : V E G k n pc lv (.int (nI j) :: .ref a :: st) w := by
  obtain ⟨p, R, s, m, args, below, meth, c, Q, A, nL, e⟩ := G
  intro H locs ls hl hP hD hS
  obtain ⟨hx, hb, hml, hown, hts, hE, -⟩ := O
  refine va_iald hx hb hE.1 hP q0 0 he rfl (vp_in_nI hj hn) d ?_
  rw [nI_clamp (Nat.lt_trans hj hn)]
  exact kk H locs ls hl hP hD hS
theorem v_zald {a len j : Nat} {f : Nat → Int32} (O : OKG E G cc own R0 tb) (d : decode cc pc = .ok (.baload, 1)) (q0 : Nat) (he : w[q0]? = some (a, .inl (E.2.2 2, len, .inl f))) (hn : len < 2 ^ 31) (hj : j < len) (kk : V E G k n (pc + 1) lv (.int (f j) :: st) w) : V E G k n pc lv (.int (nI j) :: .ref a :: st) w := by
  obtain ⟨p, R, s, m, args, below, meth, c, Q, A, nL, e⟩ := G
  intro H locs ls hl hP hD hS
  obtain ⟨hx, hb, hml, hown, hts, hE, -⟩ := O
  refine va_zald hx hb hE.1 hP q0 2 he rfl (vp_in_nI hj hn) d ?_
  rw [nI_clamp (Nat.lt_trans hj hn)]
  exact kk H locs ls hl hP hD hS
theorem v_lald {a len j : Nat} {f : Nat → Int64} (O : OKG E G cc own R0 tb) (d : decode cc pc = .ok (.laload, 1)) (q0 : Nat) (he : w[q0]? = some (a, .inl (E.2.2 1, len, .inr (.inl f)))) (hn : len < 2 ^ 31) (hj : j < len) (kk : V E G k n (pc + 1) lv (.long (f j) :: st) w) : V E G k n pc lv (.int (nI j) :: .ref a :: st) w := by
  obtain ⟨p, R, s, m, args, below, meth, c, Q, A, nL, e⟩ := G
  intro H locs ls hl hP hD hS
  obtain ⟨hx, hb, hml, hown, hts, hE, -⟩ := O
  refine va_lald hx hb hE.1 hP q0 1 he rfl (vp_in_nI hj hn) d ?_
  rw [nI_clamp (Nat.lt_trans hj hn)]
  exact kk H locs ls hl hP hD hS
theorem v_dald {a len j : Nat} {f : Nat → UInt64} (O : OKG E G cc own R0 tb) (d : decode cc pc = .ok (.daload, 1)) (q0 : Nat) (he : w[q0]? = some (a, .inl (E.2.2 3, len, .inr (.inr (.inr (.inl f)))))) (hn : len < 2 ^ 31) (hj : j < len) (kk : V E G k n (pc + 1) lv (.double (f j) :: st) w) : V E G k n pc lv (.int (nI j) :: .ref a :: st) w := by
  obtain ⟨p, R, s, m, args, below, meth, c, Q, A, nL, e⟩ := G
  intro H locs ls hl hP hD hS
  obtain ⟨hx, hb, hml, hown, hts, hE, -⟩ := O
  refine va_dald hx hb hE.1 hP q0 3 he rfl (vp_in_nI hj hn) d ?_
  rw [nI_clamp (Nat.lt_trans hj hn)]
  exact kk H locs ls hl hP hD hS
theorem v_iast {a len j : Nat} {f : Nat → Int32} {x : Int32} (O : OKG E G cc own R0 tb) (d : decode cc pc = .ok (.iastore, 1)) (q0 : Nat) (he : w[q0]? = some (a, .inl (E.2.2 0, len, .inl f))) (hn : len < 2 ^ 31) (hj : j < len) (kk : V E G k n (pc + 1) lv st (w.set q0 (a, .inl (E.2.2 0, len, .inl (upd f j x))))) : V E G k n pc lv (.int x :: .int (nI j) :: .ref a :: st) w := by
  obtain ⟨p, R, s, m, args, below, meth, c, Q, A, nL, e⟩ := G
  intro H locs ls hl hP hD hS
  obtain ⟨hx, hb, hml, hown, hts, hE, -⟩ := O
  refine va_iast hx hb hE.1 hP hD hS q0 0 he rfl (vp_in_nI hj hn) d (fun H1 locs1 hP hD hS => ?_)
  rw [nI_clamp (Nat.lt_trans hj hn)] at hP hD
  exact kk H1 locs1 ls hl hP hD hS
theorem up_N (f : Nat → Nat) (j x : Nat) : upd (fun q => nI (f q)) j (nI x) = fun q => nI (va_up f j x q) := by
  funext q
  simp only [upd, va_up]
  by_cases h : q = j <;> simp [h]
theorem v_iastN {a len j x : Nat} {f : Nat → Nat} (O : OKG E G cc own R0 tb) (d : decode cc pc = .ok (.iastore, 1)) (q0 : Nat) (he : w[q0]? = some (a, .inl (E.2.2 0, len, .inl (fun q => nI (f q))))) (hn : len < 2 ^ 31) (hj : j < len) (kk : V E G k n (pc + 1) lv st (w.set q0 (a, .inl (E.2.2 0, len, .inl (fun q => nI (va_up f j x q)))))) : V E G k n pc lv (.int (nI x) :: .int (nI j) :: .ref a :: st) w :=
  v_iast O d q0 he hn hj (by rw [up_N]; exact kk)
theorem up_B (f : Nat → Bool) (j : Nat) (b : Bool) : upd (fun q => bI (f q)) j (vp_nar .boolean (bI b)) = fun q => bI (va_up f j b q) := by
  funext q
  simp only [upd, va_up]
  by_cases h : q = j
  · simp only [h, if_true]
    cases b <;> decide
  · simp only [h, if_false]
theorem v_zastB {a len j : Nat} {b : Bool} {f : Nat → Bool} (O : OKG E G cc own R0 tb) (d : decode cc pc = .ok (.bastore, 1)) (q0 : Nat) (he : w[q0]? = some (a, .inl (E.2.2 2, len, .inl (fun q => bI (f q))))) (hn : len < 2 ^ 31) (hj : j < len) (kk : V E G k n (pc + 1) lv st (w.set q0 (a, .inl (E.2.2 2, len, .inl (fun q => bI (va_up f j b q)))))) : V E G k n pc lv (.int (bI b) :: .int (nI j) :: .ref a :: st) w := by
  obtain ⟨p, R, s, m, args, below, meth, c, Q, A, nL, e⟩ := G
  intro H locs ls hl hP hD hS
  obtain ⟨hx, hb, hml, hown, hts, hE, -⟩ := O
  refine va_zast hx hb hE.1 hP hD hS q0 2 he rfl (vp_in_nI hj hn) d (fun H1 locs1 hP hD hS => ?_)
  rw [nI_clamp (Nat.lt_trans hj hn), up_B] at hP hD
  exact kk H1 locs1 ls hl hP hD hS
theorem v_last {a len j : Nat} {f : Nat → Int64} {x : Int64} (O : OKG E G cc own R0 tb) (d : decode cc pc = .ok (.lastore, 1)) (q0 : Nat) (he : w[q0]? = some (a, .inl (E.2.2 1, len, .inr (.inl f)))) (hn : len < 2 ^ 31) (hj : j < len) (kk : V E G k n (pc + 1) lv st (w.set q0 (a, .inl (E.2.2 1, len, .inr (.inl (vp_updL f j x)))))) : V E G k n pc lv (.long x :: .int (nI j) :: .ref a :: st) w := by
  obtain ⟨p, R, s, m, args, below, meth, c, Q, A, nL, e⟩ := G
  intro H locs ls hl hP hD hS
  obtain ⟨hx, hb, hml, hown, hts, hE, -⟩ := O
  refine va_last hx hb hE.1 hP hD hS q0 1 he rfl (vp_in_nI hj hn) d (fun H1 locs1 hP hD hS => ?_)
  rw [nI_clamp (Nat.lt_trans hj hn)] at hP hD
  exact kk H1 locs1 ls hl hP hD hS
theorem v_dast {a len j : Nat} {f : Nat → UInt64} {x : UInt64} (O : OKG E G cc own R0 tb) (d : decode cc pc = .ok (.dastore, 1)) (q0 : Nat) (he : w[q0]? = some (a, .inl (E.2.2 3, len, .inr (.inr (.inr (.inl f)))))) (hn : len < 2 ^ 31) (hj : j < len) (kk : V E G k n (pc + 1) lv st (w.set q0 (a, .inl (E.2.2 3, len, .inr (.inr (.inr (.inl (vf_upd f j x)))))))) : V E G k n pc lv (.double x :: .int (nI j) :: .ref a :: st) w := by
  obtain ⟨p, R, s, m, args, below, meth, c, Q, A, nL, e⟩ := G
  intro H locs ls hl hP hD hS
  obtain ⟨hx, hb, hml, hown, hts, hE, -⟩ := O
  refine va_dast hx hb hE.1 hP hD hS q0 3 he rfl (vp_in_nI hj hn) d (fun H1 locs1 hP hD hS => ?_)
  rw [nI_clamp (Nat.lt_trans hj hn)] at hP hD
  exact kk H1 locs1 ls hl hP hD hS
-- ends
theorem v_ireturn {x : Int32} (O : OKG E G cc own R0 tb) (OR : OKR E G post px mc ms (some .int)) (d : decode cc pc = .ok (.ireturn, 1)) (h : post (some (.int x)) w) (hk : k ≤ mc) (hn : n ≤ ms) : V E G k n pc lv [.int x] w := by
  obtain ⟨p, R, s, m, args, below, meth, c, Q, A, nL, e⟩ := G
  obtain ⟨hQ, hr⟩ := OR
  obtain ⟨hx, hb, -, -, -, -, hlocks, -⟩ := O
  subst hQ
  intro H locs ls hl hP hD hS
  refine vx_ret (W.widen hk hn ?_)
  exact W.iret hx hb hr (fun t ht hW => ⟨⟨_, w, rfl, h, by rw [ht]; exact hP, hD⟩, hS.F ht⟩) hS.2.2 d hlocks
theorem v_zreturn {x : Int32} (O : OKG E G cc own R0 tb) (OR : OKR E G post px mc ms (some .boolean)) (d : decode cc pc = .ok (.ireturn, 1)) (hb : narrow .boolean (.int x) = .int x) (h : post (some (.int x)) w) (hk : k ≤ mc) (hn : n ≤ ms) : V E G k n pc lv [.int x] w := by
  obtain ⟨p, R, s, m, args, below, meth, c, Q, A, nL, e⟩ := G
  obtain ⟨hQ, hr⟩ := OR
  obtain ⟨hx, hb2, -, -, -, -, hlocks, -⟩ := O
  subst hQ
  intro H locs ls hl hP hD hS
  refine vx_ret (W.widen hk hn ?_)
  exact W.zret hx hb2 hr hb (fun t ht hW => ⟨⟨_, w, rfl, h, by rw [ht]; exact hP, hD⟩, hS.F ht⟩) hS.2.2 d hlocks
theorem v_lreturn {x : Int64} (O : OKG E G cc own R0 tb) (OR : OKR E G post px mc ms (some .long)) (d : decode cc pc = .ok (.lreturn, 1)) (h : post (some (.long x)) w) (hk : k ≤ mc) (hn : n ≤ ms) : V E G k n pc lv [.long x] w := by
  obtain ⟨p, R, s, m, args, below, meth, c, Q, A, nL, e⟩ := G
  obtain ⟨hQ, hr⟩ := OR
  obtain ⟨hx, hb, -, -, -, -, hlocks, -⟩ := O
  subst hQ
  intro H locs ls hl hP hD hS
  refine vx_ret (W.widen hk hn ?_)
  exact W.lret hx hb hr (fun t ht hW => ⟨⟨_, w, rfl, h, by rw [ht]; exact hP, hD⟩, hS.F ht⟩) hS.2.2 d hlocks
theorem v_dreturn {x : UInt64} (O : OKG E G cc own R0 tb) (OR : OKR E G post px mc ms (some .double)) (d : decode cc pc = .ok (.dreturn, 1)) (h : post (some (.double x)) w) (hk : k ≤ mc) (hn : n ≤ ms) : V E G k n pc lv [.double x] w := by
  obtain ⟨p, R, s, m, args, below, meth, c, Q, A, nL, e⟩ := G
  obtain ⟨hQ, hr⟩ := OR
  obtain ⟨hx, hb, -, -, -, -, hlocks, -⟩ := O
  subst hQ
  intro H locs ls hl hP hD hS
  refine vx_ret (W.widen hk hn ?_)
  exact W.dret hx hb hr (fun t ht hW => ⟨⟨_, w, rfl, h, by rw [ht]; exact hP, hD⟩, hS.F ht⟩) hS.2.2 d hlocks
theorem v_return (O : OKG E G cc own R0 tb) (OR : OKR E G post px mc ms none) (d : decode cc pc = .ok (.return_, 1)) (h : post none w) (hk : k ≤ mc) (hn : n ≤ ms) : V E G k n pc lv [] w := by
  obtain ⟨p, R, s, m, args, below, meth, c, Q, A, nL, e⟩ := G
  obtain ⟨hQ, hr⟩ := OR
  obtain ⟨hx, hb, -, -, -, -, hlocks, -⟩ := O
  subst hQ
  intro H locs ls hl hP hD hS
  refine vx_ret (W.widen hk hn ?_)
  exact W.vret hx hb hr (fun t ht hW => ⟨⟨_, w, rfl, h, by rw [ht]; exact hP, hD⟩, hS.F ht⟩) hS.2.2 d hlocks
theorem v_throw {cls text : String} {ik is ic : Nat} {ret : Option FieldType} (O : OKG E G cc own R0 []) (OR : OKR E G post px mc ms ret) (TH : ThOK own ik is ic cls text) (d0 : decode cc pc = .ok (.new ik, 3)) (d3 : decode cc (pc + 3) = .ok (.dup, 1)) (d4 : decode cc (pc + 4) = .ok (.ldc is, 2)) (d6 : decode cc (pc + 6) = .ok (.invokespecial ic, 3)) (d9 : decode cc (pc + 9) = .ok (.athrow, 1))
    (h : px cls w) (hf : 5 < R0.frames) (hlo : (st.map fun v => v.category).sum + 82 ≤ R0.locals) (hc : k + 1 ≤ R0.cells) (hs : n + 6 ≤ R0.slots) (hk : k + 1 ≤ mc) (hn : n + 6 ≤ ms) : V E G k n pc lv st w := by
  obtain ⟨p, R, s, m, args, below, meth, c, Q, A, nL, e⟩ := G
  obtain ⟨hQ, hr⟩ := OR
  obtain ⟨hx, hb, hml, hown, hts, hE, hlocks, hnt, hA, hH, hR, htab⟩ := O
  obtain ⟨t1, t2, t3, t4, t5, t6⟩ := TH
  subst hQ
  subst hR
  obtain ⟨sa, hsa⟩ := hE.2.2 _ t4
  intro H locs ls hl hP hD hS
  refine vx_throwS (names := ["java/lang/RuntimeException", "java/lang/Exception"]) (A := A) hx hb hnt hown t1 (by decide +kernel) (hts _ t2) (hts _ t3) hsa (fun x hx2 => (t5 x hx2).elim (fun g => hts x g) (fun g => nw_use g (hE.2.1 x g))) t6 hH.1 hH.2 hS (by rw [hml]; exact hl.1) d0 d3 d4 d6 d9 (fun x hx2 => by rw [htab] at hx2; cases hx2) hf hlo hc hs hlocks ?_ hS.2.2 hk hn
  intro t hal hz hq
  refine ⟨w, h, hP.kept (fun j q hj => hq q.1 ((hP j q hj).lt)), hD, Nat.le_trans hS.1 hz, fun q h1 h2 => ?_⟩
  rw [hq q (Nat.lt_of_lt_of_le h1 hS.1)]
  exact hS.2.1 q h1 h2
/-- an exception goes on to the caller -/
theorem vx_pass {X : String} {ret : Option FieldType} (O : OKG E G cc own R0 []) (OR : OKR E G post px mc ms ret) (h : px X w) (hk : k ≤ mc) (hn : n ≤ ms) : VX E G k n pc lv X w := by
  obtain ⟨p, R, s, m, args, below, meth, c, Q, A, nL, e⟩ := G
  obtain ⟨hQ, hr⟩ := OR
  obtain ⟨hx, hb, hml, hown, hts, hE, hlocks, hnt, hA, hH, hR, htab⟩ := O
  subst hQ
  intro H locs ls rest q ce hcell hv hcl hl hP hD hS
  exact vx_out (fun x hx2 => by rw [htab] at hx2; cases hx2) hlocks hcell hv hcl (fun t ht _ => ⟨w, h, by rw [ht]; exact hP, hD, hS.F ht⟩) hS.2.2 hk hn
-- calls in one world
theorem blind_of {av : List Value} {sz : Nat} : FrameBlind (va_Pc av (fun U => U.heap.size = sz ∧ EnvS E U ∧ HeapS (va_A w sz) U U.heap ∧ va_P E.2.1 vwCl w U.heap ∧ va_D (fun _ => True) w)) := by
  intro a U g mk q
  obtain ⟨q0, q1, qE, qH, qP, qD⟩ := q
  exact ⟨q0, q1, EnvS.same (s := U) (U := U.calling g mk a) rfl qE, ⟨vx_Zq.moved (u := U) (U := U.calling g mk a) (Vm.Alike.refl U.vm) qH.1, vx_Zq.moved (u := U) (U := U.calling g mk a) (Vm.Alike.refl U.vm) qH.2⟩, qP, qD⟩
theorem pre_of {A : Nat → Prop} {s : State} {H : Heap} {locs : List Loc} {av : List Value} (hE : EnvS E s) (hH : HeapS A s s.heap) (hA : ∀ q, s.heap.size ≤ q → A q) (hP : va_P E.2.1 vwCl w H) (hD : va_D A w) (hS : va_S A s.heap H locs) (U : State) (hU : U.heap = H) (hW : s.WarmedH U.vm) : va_Pc av (fun U => U.heap.size = H.size ∧ EnvS E U ∧ HeapS (va_A w H.size) U U.heap ∧ va_P E.2.1 vwCl w U.heap ∧ va_D (fun _ => True) w) av.toArray U := by
  have hf : ∀ q, va_A w H.size q → A q := fun q h => by
    rcases h with ⟨j, e, h⟩ | h
    · exact hD.2 j (q, e) h
    · exact hA q (Nat.le_trans hS.1 h)
  refine ⟨rfl, by rw [hU], EnvS.warm hW hE, ?_, by rw [hU]; exact hP, hD.weaken (fun _ _ _ _ => trivial)⟩
  rw [hU]
  exact ⟨vx_Zq.narrow (vx_Zq.moved hW.alike (hH.1.kept hS.2.1)) hf, vx_Zq.narrow (vx_Zq.moved hW.alike (hH.2.kept hS.2.1)) hf⟩
/-- what comes behind a call's run -/
theorem v_back {p : Program} {R : Room} {s : State} {m : MethodId} {args : Array Value} {below : List Frame} {meth : Method} {c : Code} {Q : State → Prop} {A : Nat → Prop} {nL : Nat} {e : Env} {H : Heap} {locs : List Loc} {ls : Array Slot} {rest stk : List Value} {pc2 mc ms : Nat} {a : Array Value} {pst : Option Value → va_W → Prop} {psx : String → va_W → Prop}
    (hA : ∀ q, s.heap.size ≤ q → A q) (hl : lv_has ls nL lv) (hD : va_D A w) (hS : va_S A s.heap H locs)
    (run : vx_Run p E.1 e R s m args below meth c H locs k n mc ms (F0 m pc2 ls stk) rest (QC E pst (va_A w H.size) a) (XQ E psx (va_A w H.size)) (va_A w H.size))
    (kk : ∀ r u, pst r u → V E (p, R, s, m, args, below, meth, c, Q, A, nL, e) (k + mc) (n + ms) (pc2 + 3) lv (r.toList ++ rest) u)
    (kx : ∀ X u, psx X u → VX E (p, R, s, m, args, below, meth, c, Q, A, nL, e) (k + mc) (n + ms) pc2 lv X u) : W p E.1 e R s m args below meth c H locs k n Q (F0 m pc2 ls stk) := by
  have hf : ∀ q, va_A w H.size q → A q := fun q h => by
    rcases h with ⟨j, e, h⟩ | h
    · exact hD.2 j (q, e) h
    · exact hA q (Nat.le_trans hS.1 h)
  intro T hT X
  rcases run T hT X with ⟨v, st₀, t, T', L, h0, X', hL, e1, e2, ⟨⟨r, u, hoc, hp, hP1, hD1⟩, hF⟩, hgo⟩ | ⟨q, st₀, t, T', L, X9, ce, h0, X', hL, e1, e2, ⟨u, hp, hP1, hD1, hF⟩, hcell, hcv, hcl, hsteps⟩
  · cases hoc
    obtain ⟨-, -, hS1⟩ := vx_keep h0 e1 hS (fun q _ h => hf q h) hf hL hF
    obtain ⟨t2, a1, b1⟩ := kk _ u hp T'.heap (locs ++ L) ls hl (by rw [e1]; exact hP1) (hD1.weaken (fun _ _ _ h => hf _ h)) hS1 T' rfl X'
    exact ⟨t2, hgo t2 a1, b1⟩
  · obtain ⟨-, -, hS1⟩ := vx_keep h0 e1 hS (fun q _ h => hf q h) hf hL hF
    obtain ⟨t2, a1, b1⟩ := kx X9 u hp T'.heap (locs ++ L) ls rest q ce (by rw [e1]; exact hcell) hcv hcl hl (by rw [e1]; exact hP1) (hD1.weaken (fun _ _ _ h => hf _ h)) hS1 T' rfl X'
    exact ⟨t2, hsteps.trans a1, b1⟩
end VH
end
section
/-! calls: the callee's world is the caller's -/
section VC
variable {E : ET} {G : GT} {cc : ByteArray} {own : String} {R0 : Room} {tb : List ExceptionTableEntry} {k n pc : Nat} {lv : List (Nat × Value)} {st stk : List Value} {w : va_W}
variable {post : Option Value → va_W → Prop} {px : String → va_W → Prop} {mc ms : Nat} {y : MethodName} {bytes : ByteArray} {maxL index a ci : Nat} {ret : Option FieldType} {rm : Room} {As : List Value} {fs : List Value} {T : u_T} {N : Nat}
/-- the rooms of a call, in numbers -/
def rmOK (rm R0 : Room) (maxL mc ms k n : Nat) : Bool := rm.cells == mc && (rm.slots == ms && (Nat.ble (rm.frames + 1) R0.frames && (Nat.ble (8 + (maxL + 11) + rm.locals) R0.locals && (Nat.ble (k + mc) R0.cells && Nat.ble (n + ms) R0.slots))))
theorem rmOK_spec {rm R0 : Room} {maxL mc ms k n : Nat} (h : rmOK rm R0 maxL mc ms k n = true) : rm.cells = mc ∧ rm.slots = ms ∧ rm.frames + 1 ≤ R0.frames ∧ 8 + (maxL + 11) + rm.locals ≤ R0.locals ∧ k + mc ≤ R0.cells ∧ n + ms ≤ R0.slots := by
  simp only [rmOK, Bool.and_eq_true, beq_iff_eq, Nat.ble_eq] at h
  exact h
theorem v_callV (O : OKG E G cc own R0 tb) (d : decode cc pc = .ok (.invokevirtual index, 3)) (Lk : LkV own index y (.code y bytes maxL ret) As.length) (M : Ctr E y (.code y bytes maxL ret) rm (.ref a :: As) w post px mc ms) (q0 : Nat) (he : w[q0]? = some (a, .inr (ci, fs))) (hc : vwCl[ci]? = some (y.cls, T, N)) (hst : stk = As.reverse ++ .ref a :: st) (hW : Nat.ble (st.map fun v => v.category).sum 8 = true) (hR : rmOK rm R0 maxL mc ms k n = true)
    (kk : ∀ r u, post r u → V E G (k + mc) (n + ms) (pc + 3) lv (r.toList ++ st) u) (kx : ∀ X u, px X u → VX E G (k + mc) (n + ms) pc lv X u) : V E G k n pc lv stk w := by
  obtain ⟨p, R, s, m, args, below, meth, c, Q, A, nL, e⟩ := G
  obtain ⟨hx, hb, hml, hown, hts, hE, hlocks, hnt, hA, hH, hR2, htab⟩ := O
  obtain ⟨l1, l2, l3, l4, l5, l6⟩ := Lk
  obtain ⟨r1, r2, r3, r4, r5, r6⟩ := rmOK_spec hR
  subst hR2
  intro H locs ls hl hP hD hS
  refine v_back (w := w) hA hl hD hS (vx_runV (Ts := GW) (C := y.cls) (bytes := bytes) (maxL := maxL) (ret := ret) (As := As) (b := a) (rest := st) ⟨hx, hb, hml, hown, hts⟩ (M H.size) ⟨callB_of As.length hts (gw_good l1) rfl r1 r2 (hts _ l5) (hts _ l2) l6 ⟨r3, r4⟩, hts _ l3, hts _ l4⟩ ⟨blind_of, ?_, fun U hU hW => pre_of hE hH hA hP hD hS U hU hW⟩ rfl rfl hl.1 hst ?_ d ⟨r5, r6⟩) kk kx
  · exact va_recv hE.1 hP hc he
  · show 2 * 0 + _ ≤ 8
    have := Nat.le_of_ble_eq_true hW
    omega
theorem v_callVN (O : OKG E G cc own R0 tb) (d : decode cc pc = .ok (.invokevirtual index, 3)) (Lk : LkVN own index y (.code y bytes maxL ret) As.length) (M : Ctr E y (.code y bytes maxL ret) rm (.ref a :: As) w post px mc ms) (q0 : Nat) (he : w[q0]? = some (a, .inr (ci, fs))) (hc : vwCl[ci]? = some (y.cls, T, N)) (hst : stk = As.reverse ++ .ref a :: st) (hW : Nat.ble (st.map fun v => v.category).sum 8 = true) (hR : rmOK rm R0 maxL mc ms k n = true)
    (kk : ∀ r u, post r u → V E G (k + mc) (n + ms) (pc + 3) lv (r.toList ++ st) u) (kx : ∀ X u, px X u → VX E G (k + mc) (n + ms) pc lv X u) : V E G k n pc lv stk w := by
  obtain ⟨p, R, s, m, args, below, meth, c, Q, A, nL, e⟩ := G
  obtain ⟨hx, hb, hml, hown, hts, hE, hlocks, hnt, hA, hH, hR2, htab⟩ := O
  obtain ⟨l1, l2, l3, l4, l5, l6⟩ := Lk
  obtain ⟨r1, r2, r3, r4, r5, r6⟩ := rmOK_spec hR
  subst hR2
  intro H locs ls hl hP hD hS
  refine v_back (w := w) hA hl hD hS (vx_runVN (Ts := GW) (C := y.cls) (host := RX4) (bytes := bytes) (maxL := maxL) (ret := ret) (As := As) (b := a) (rest := st) ⟨hx, hb, hml, hown, hts⟩ (M H.size) ⟨va_cnB As.length hts (gw_good l1) rfl r1 r2 (hE.2.1 _ l2) (hts _ l5) l6 ⟨r3, r4⟩, hts _ l3, hts _ l4⟩ ⟨blind_of, ?_, fun U hU hW => pre_of hE hH hA hP hD hS U hU hW⟩ rfl rfl hl.1 hst ?_ d ⟨r5, r6⟩) kk kx
  · exact va_recv hE.1 hP hc he
  · show 2 * 0 + _ ≤ 8
    have := Nat.le_of_ble_eq_true hW
    omega
theorem v_callS (O : OKG E G cc own R0 tb) (d : decode cc pc = .ok (.invokestatic index, 3)) (Lk : LkS own index y (.code y bytes maxL ret) As.length) (M : Ctr E y (.code y bytes maxL ret) rm As w post px mc ms) (hst : stk = As.reverse ++ st) (hW : Nat.ble (st.map fun v => v.category).sum 8 = true) (hR : rmOK rm R0 maxL mc ms k n = true)
    (kk : ∀ r u, post r u → V E G (k + mc) (n + ms) (pc + 3) lv (r.toList ++ st) u) (kx : ∀ X u, px X u → VX E G (k + mc) (n + ms) pc lv X u) : V E G k n pc lv stk w := by
  obtain ⟨p, R, s, m, args, below, meth, c, Q, A, nL, e⟩ := G
  obtain ⟨hx, hb, hml, hown, hts, hE, hlocks, hnt, hA, hH, hR2, htab⟩ := O
  obtain ⟨l1, l2, l3, l5, l6⟩ := Lk
  obtain ⟨r1, r2, r3, r4, r5, r6⟩ := rmOK_spec hR
  subst hR2
  intro H locs ls hl hP hD hS
  refine v_back (w := w) hA hl hD hS (vx_runS (Ts := GW) (bytes := bytes) (maxL := maxL) (ret := ret) (As := As) (rest := st) ⟨hx, hb, hml, hown, hts⟩ (M H.size) ⟨callB_of As.length hts (gw_good l1) rfl r1 r2 (hts _ l5) (hts _ l2) l6 ⟨r3, r4⟩, hts _ l3⟩ ⟨blind_of, fun U hU hW => pre_of hE hH hA hP hD hS U hU hW⟩ rfl rfl hl.1 hst ?_ d ⟨r5, r6⟩) kk kx
  · show 2 * 0 + _ ≤ 8
    have := Nat.le_of_ble_eq_true hW
    omega
theorem v_callSN (O : OKG E G cc own R0 tb) (d : decode cc pc = .ok (.invokestatic index, 3)) (Lk : LkSN own index y (.code y bytes maxL ret) As.length) (M : Ctr E y (.code y bytes maxL ret) rm As w post px mc ms) (hst : stk = As.reverse ++ st) (hW : Nat.ble (st.map fun v => v.category).sum 8 = true) (hR : rmOK rm R0 maxL mc ms k n = true)
    (kk : ∀ r u, post r u → V E G (k + mc) (n + ms) (pc + 3) lv (r.toList ++ st) u) (kx : ∀ X u, px X u → VX E G (k + mc) (n + ms) pc lv X u) : V E G k n pc lv stk w := by
  obtain ⟨p, R, s, m, args, below, meth, c, Q, A, nL, e⟩ := G
  obtain ⟨hx, hb, hml, hown, hts, hE, hlocks, hnt, hA, hH, hR2, htab⟩ := O
  obtain ⟨l1, l2, l3, l5, l6⟩ := Lk
  obtain ⟨r1, r2, r3, r4, r5, r6⟩ := rmOK_spec hR
  subst hR2
  intro H locs ls hl hP hD hS
  refine v_back (w := w) hA hl hD hS (vx_runSN (Ts := GW) (host := RX4) (bytes := bytes) (maxL := maxL) (ret := ret) (As := As) (rest := st) ⟨hx, hb, hml, hown, hts⟩ (M H.size) ⟨va_cnB As.length hts (gw_good l1) rfl r1 r2 (hE.2.1 _ l2) (hts _ l5) l6 ⟨r3, r4⟩, hts _ l3, trivial⟩ ⟨blind_of, fun U hU hW => pre_of hE hH hA hP hD hS U hU hW⟩ rfl rfl hl.1 hst ?_ d ⟨r5, r6⟩) kk kx
  · show 2 * 0 + _ ≤ 8
    have := Nat.le_of_ble_eq_true hW
    omega
/-- a call that only comes back, with nothing made -/
theorem kx_no {E : ET} {G : GT} {k n pc : Nat} {lv : List (Nat × Value)} : ∀ X u, noX X u → VX E G k n pc lv X u := fun _ _ h => False.elim h
theorem kk_no {E : ET} {G : GT} {k n pc : Nat} {lv : List (Nat × Value)} {st : List Value} : ∀ r u, noR r u → V E G k n pc lv (r.toList ++ st) u := fun _ _ h => False.elim h
-- Math, System
def LkM (own : String) (index : Nat) (y : MethodName) (cd : Cond) : Prop := Cond.methodLink own index y ∈ GW ∧ Cond.static y ∈ GW ∧ Cond.initialized "java/lang/Math" ∈ GW ∧ cd ∈ GW
theorem v_max {x z : Int32} (O : OKG E G cc own R0 tb) (d : decode cc pc = .ok (.invokestatic index, 3)) (L : LkM own index Lib.Math.max.name (.code Lib.Math.max.name Lib.Math.max.code 2 (some .int))) (hf : 1 ≤ R0.frames) (hlo : (st.map fun v => v.category).sum + 13 ≤ R0.locals) (hc : k ≤ R0.cells) (hs : n ≤ R0.slots) (kk : V E G k n (pc + 3) lv (.int (if x < z then z else x) :: st) w) : V E G k n pc lv (.int z :: .int x :: st) w := by
  obtain ⟨p, R, s, m, args, below, meth, c, Q, A, nL, e⟩ := G
  obtain ⟨hx, hb, hml, hown, hts, hE, hlocks, hnt, hA, hH, hR2, htab⟩ := O
  subst hR2
  intro H locs ls hl hP hD hS
  exact va_mmax hx hb (hml.trans hl.1.symm) hown (hts _ L.1) (hts _ L.2.1) (hts _ L.2.2.1) (hts _ L.2.2.2) hf hlo hc hs d (kk H locs ls hl hP hD hS)
theorem v_min {x z : Int32} (O : OKG E G cc own R0 tb) (d : decode cc pc = .ok (.invokestatic index, 3)) (L : LkM own index Lib.Math.min.name (.code Lib.Math.min.name Lib.Math.min.code 2 (some .int))) (hf : 1 ≤ R0.frames) (hlo : (st.map fun v => v.category).sum + 13 ≤ R0.locals) (hc : k ≤ R0.cells) (hs : n ≤ R0.slots) (kk : V E G k n (pc + 3) lv (.int (if z < x then z else x) :: st) w) : V E G k n pc lv (.int z :: .int x :: st) w := by
  obtain ⟨p, R, s, m, args, below, meth, c, Q, A, nL, e⟩ := G
  obtain ⟨hx, hb, hml, hown, hts, hE, hlocks, hnt, hA, hH, hR2, htab⟩ := O
  subst hR2
  intro H locs ls hl hP hD hS
  exact va_mmin hx hb (hml.trans hl.1.symm) hown (hts _ L.1) (hts _ L.2.1) (hts _ L.2.2.1) (hts _ L.2.2.2) hf hlo hc hs d (kk H locs ls hl hP hD hS)
theorem v_abs {x : Int32} (O : OKG E G cc own R0 tb) (d : decode cc pc = .ok (.invokestatic index, 3)) (L : LkM own index Lib.Math.abs.name (.code Lib.Math.abs.name Lib.Math.abs.code 1 (some .int))) (hf : 1 ≤ R0.frames) (hlo : (st.map fun v => v.category).sum + 13 ≤ R0.locals) (hc : k ≤ R0.cells) (hs : n ≤ R0.slots) (kk : V E G k n (pc + 3) lv (.int (if 0 ≤ x then x else 0 - x) :: st) w) : V E G k n pc lv (.int x :: st) w := by
  obtain ⟨p, R, s, m, args, below, meth, c, Q, A, nL, e⟩ := G
  obtain ⟨hx, hb, hml, hown, hts, hE, hlocks, hnt, hA, hH, hR2, htab⟩ := O
  subst hR2
  intro H locs ls hl hP hD hS
  exact va_mabs hx hb (hml.trans hl.1.symm) hown (hts _ L.1) (hts _ L.2.1) (hts _ L.2.2.1) (hts _ L.2.2.2) hf hlo hc hs d (kk H locs ls hl hP hD hS)
theorem v_maxL {x z : Int64} (O : OKG E G cc own R0 tb) (d : decode cc pc = .ok (.invokestatic index, 3)) (L : LkM own index Lib.MathLoose.max_long.x (.code Lib.MathLoose.max_long.x Lib.MathLoose.max_long.code 4 (some .long))) (hf : 1 ≤ R0.frames) (hlo : (st.map fun v => v.category).sum + 15 ≤ R0.locals) (hc : k ≤ R0.cells) (hs : n ≤ R0.slots) (kk : V E G k n (pc + 3) lv (.long (if z < x then x else z) :: st) w) : V E G k n pc lv (.long z :: .long x :: st) w := by
  obtain ⟨p, R, s, m, args, below, meth, c, Q, A, nL, e⟩ := G
  obtain ⟨hx, hb, hml, hown, hts, hE, hlocks, hnt, hA, hH, hR2, htab⟩ := O
  subst hR2
  intro H locs ls hl hP hD hS
  exact va_mmax_long hx hb (hml.trans hl.1.symm) hown (hts _ L.1) (hts _ L.2.1) (hts _ L.2.2.1) (hts _ L.2.2.2) hf hlo hc hs d (kk H locs ls hl hP hD hS)
theorem cpy_N (f g : Nat → Nat) (sp dp z : Nat) : va_cpy (fun q => nI (f q)) (fun q => nI (g q)) sp dp z = fun q => nI (va_cpy f g sp dp z q) := by
  funext q
  simp only [va_cpy]
  split <;> rfl
/-- System.arraycopy within one array of numbers -/
theorem v_copy {len sp dp z : Nat} {f : Nat → Nat} (O : OKG E G cc own R0 tb) (d : decode cc pc = .ok (.invokestatic index, 3)) (L : Cond.methodLink own index arraycopyName ∈ GW ∧ Cond.native arraycopyName ∈ GW ∧ Cond.static arraycopyName ∈ GW ∧ Cond.initialized "java/lang/System" ∈ GW) (q0 : Nat) (he : w[q0]? = some (a, .inl (E.2.2 0, len, .inl (fun q => nI (f q))))) (hn : len < 2 ^ 31) (h4 : sp + z ≤ len) (h5 : dp + z ≤ len) (hf : 1 ≤ R0.frames) (hlo : (st.map fun v => v.category).sum + (nativeFrameWords "java/lang/System" "arraycopy" 5 + 11) ≤ R0.locals) (kk : V E G k n (pc + 3) lv st (w.set q0 (a, .inl (E.2.2 0, len, .inl (fun q => nI (va_cpy f f sp dp z q)))))) : V E G k n pc lv (.int (nI z) :: .int (nI dp) :: .ref a :: .int (nI sp) :: .ref a :: st) w := by
  obtain ⟨p, R, s, m, args, below, meth, c, Q, A, nL, e⟩ := G
  obtain ⟨hx, hb, hml, hown, hts, hE, hlocks, hnt, hA, hH, hR2, htab⟩ := O
  subst hR2
  intro H locs ls hl hP hD hS
  have c1 := nI_clamp (n := sp) (by omega)
  have c2 := nI_clamp (n := dp) (by omega)
  have c3 := nI_clamp (n := z) (by omega)
  refine va_copyi hx hb (hml.trans hl.1.symm) hown (hts _ L.1) (hts _ L.2.1) (hts _ L.2.2.1) (hts _ L.2.2.2) hE.1 hP hD hS q0 q0 0 0 he he rfl rfl rfl (nI_pos (by omega)) (nI_pos (by omega)) (nI_pos (by omega)) (by rw [c1, c3]; exact h4) (by rw [c2, c3]; exact h5) (fun i _ => rfl) hf hlo d (fun H1 locs1 hP hD hS => ?_)
  rw [c1, c2, c3, cpy_N] at hP hD
  exact kk H1 locs1 ls hl hP hD hS
end VC
end
section
theorem gwm (i : Nat) {w : Cond} (h : tables_1[i]? = some w) (hg : goodWord w = true) : w ∈ GW := List.mem_filter.mpr ⟨List.mem_append_right _ (List.mem_of_getElem? h), hg⟩
theorem gwp (i : Nat) {w : Cond} (h : (k2_sels lw_privs)[i]? = some w) (hg : goodWord w = true) : w ∈ GW := List.mem_filter.mpr ⟨List.mem_append_left _ (List.mem_of_getElem? h), hg⟩
theorem nwm (i : Nat) {w : Cond} (h : tables_1[i]? = some w) (hg : isNW w = true) : w ∈ NWL := List.mem_filter.mpr ⟨List.mem_of_getElem? h, hg⟩
theorem uwX0 : ∀ w ∈ u_ws RX0 TX0 6, w ∈ GW := by decide +kernel
theorem ftX0 : FTy TX0 6 := ⟨tyX0, tyX0_ok, nmX0⟩
theorem inX0 : Cond.initialized RX0 ∈ GW := gwm 5 (by decide +kernel) (by decide +kernel)
theorem uwX1 : ∀ w ∈ u_ws RX1 TX1 6, w ∈ GW := by decide +kernel
theorem ftX1 : FTy TX1 6 := ⟨tyX1, tyX1_ok, nmX1⟩
theorem inX1 : Cond.initialized RX1 ∈ GW := gwm 2 (by decide +kernel) (by decide +kernel)
theorem uwX2 : ∀ w ∈ u_ws RX2 TX2 7, w ∈ GW := by decide +kernel
theorem ftX2 : FTy TX2 7 := ⟨tyX2, tyX2_ok, nmX2⟩
theorem inX2 : Cond.initialized RX2 ∈ GW := gwm 4 (by decide +kernel) (by decide +kernel)
theorem uwX3 : ∀ w ∈ u_ws RX3 TX3 2, w ∈ GW := by decide +kernel
theorem ftX3 : FTy TX3 2 := ⟨tyX3, tyX3_ok, nmX3⟩
theorem inX3 : Cond.initialized RX3 ∈ GW := gwm 3 (by decide +kernel) (by decide +kernel)
theorem uwX4 : ∀ w ∈ u_ws RX4 TX4 4, w ∈ GW := by decide +kernel
theorem ftX4 : FTy TX4 4 := ⟨tyX4, tyX4_ok, nmX4⟩
theorem inX4 : Cond.initialized RX4 ∈ GW := gwm 1 (by decide +kernel) (by decide +kernel)
theorem uwX5 : ∀ w ∈ u_ws RX5 TX5 19, w ∈ GW := by decide +kernel
theorem ftX5 : FTy TX5 19 := ⟨tyX5, tyX5_ok, nmX5⟩
theorem inX5 : Cond.initialized RX5 ∈ GW := gwm 6 (by decide +kernel) (by decide +kernel)
theorem inL : Cond.initialized RL ∈ GW := gwm 0 (by decide +kernel) (by decide +kernel)
abbrev cdX0_init : Cond := .code yX0_init cX0_init 1 none
theorem mcX0_init : cdX0_init ∈ GW := gwm 111 (by decide +kernel) (by decide +kernel)
theorem miX0_init : Cond.instanceMethod yX0_init ∈ GW := gwm 110 (by decide +kernel) (by decide +kernel)
abbrev cdX0_firstWith : Cond := .code yX0_firstWith cX0_firstWith 4 (some .int)
theorem mcX0_firstWith : cdX0_firstWith ∈ GW := gwm 584 (by decide +kernel) (by decide +kernel)
theorem miX0_firstWith : Cond.instanceMethod yX0_firstWith ∈ GW := gwm 583 (by decide +kernel) (by decide +kernel)
theorem msX0_firstWith : Cond.selects yX0_firstWith.cls yX0_firstWith yX0_firstWith ∈ GW := gwp 34 (by decide +kernel) (by decide +kernel)
abbrev cdX0_addBest : Cond := .code yX0_addBest cX0_addBest 8 (some .boolean)
theorem mcX0_addBest : cdX0_addBest ∈ GW := gwm 576 (by decide +kernel) (by decide +kernel)
theorem miX0_addBest : Cond.instanceMethod yX0_addBest ∈ GW := gwm 575 (by decide +kernel) (by decide +kernel)
theorem msX0_addBest : Cond.selects yX0_addBest.cls yX0_addBest yX0_addBest ∈ GW := gwp 32 (by decide +kernel) (by decide +kernel)
abbrev cdX0_markFreeEnds : Cond := .code yX0_markFreeEnds cX0_markFreeEnds 4 none
theorem mcX0_markFreeEnds : cdX0_markFreeEnds ∈ GW := gwm 580 (by decide +kernel) (by decide +kernel)
theorem miX0_markFreeEnds : Cond.instanceMethod yX0_markFreeEnds ∈ GW := gwm 579 (by decide +kernel) (by decide +kernel)
theorem msX0_markFreeEnds : Cond.selects yX0_markFreeEnds.cls yX0_markFreeEnds yX0_markFreeEnds ∈ GW := gwp 33 (by decide +kernel) (by decide +kernel)
abbrev cdX0_tryBoxes : Cond := .code yX0_tryBoxes cX0_tryBoxes 11 none
theorem mcX0_tryBoxes : cdX0_tryBoxes ∈ GW := gwm 589 (by decide +kernel) (by decide +kernel)
theorem miX0_tryBoxes : Cond.instanceMethod yX0_tryBoxes ∈ GW := gwm 588 (by decide +kernel) (by decide +kernel)
theorem msX0_tryBoxes : Cond.selects yX0_tryBoxes.cls yX0_tryBoxes yX0_tryBoxes ∈ GW := gwp 35 (by decide +kernel) (by decide +kernel)
abbrev cdX1_init : Cond := .code yX1_init cX1_init 1 none
theorem mcX1_init : cdX1_init ∈ GW := gwm 27 (by decide +kernel) (by decide +kernel)
theorem miX1_init : Cond.instanceMethod yX1_init ∈ GW := gwm 26 (by decide +kernel) (by decide +kernel)
abbrev cdX1_beginAnew : Cond := .code yX1_beginAnew cX1_beginAnew 3 none
theorem mcX1_beginAnew : cdX1_beginAnew ∈ GW := gwm 377 (by decide +kernel) (by decide +kernel)
theorem miX1_beginAnew : Cond.instanceMethod yX1_beginAnew ∈ GW := gwm 376 (by decide +kernel) (by decide +kernel)
theorem msX1_beginAnew : Cond.selects yX1_beginAnew.cls yX1_beginAnew yX1_beginAnew ∈ GW := gwp 20 (by decide +kernel) (by decide +kernel)
abbrev cdX1_powerAt : Cond := .code yX1_powerAt cX1_powerAt 3 (some .int)
theorem mcX1_powerAt : cdX1_powerAt ∈ GW := gwm 199 (by decide +kernel) (by decide +kernel)
theorem miX1_powerAt : Cond.instanceMethod yX1_powerAt ∈ GW := gwm 198 (by decide +kernel) (by decide +kernel)
theorem msX1_powerAt : Cond.selects yX1_powerAt.cls yX1_powerAt yX1_powerAt ∈ GW := gwp 6 (by decide +kernel) (by decide +kernel)
abbrev cdX1_openColumn : Cond := .code yX1_openColumn cX1_openColumn 1 (some .int)
theorem mcX1_openColumn : cdX1_openColumn ∈ GW := gwm 161 (by decide +kernel) (by decide +kernel)
theorem miX1_openColumn : Cond.instanceMethod yX1_openColumn ∈ GW := gwm 160 (by decide +kernel) (by decide +kernel)
theorem msX1_openColumn : Cond.selects yX1_openColumn.cls yX1_openColumn yX1_openColumn ∈ GW := gwp 1 (by decide +kernel) (by decide +kernel)
abbrev cdX1_takePending : Cond := .code yX1_takePending cX1_takePending 3 none
theorem mcX1_takePending : cdX1_takePending ∈ GW := gwm 157 (by decide +kernel) (by decide +kernel)
theorem miX1_takePending : Cond.instanceMethod yX1_takePending ∈ GW := gwm 156 (by decide +kernel) (by decide +kernel)
theorem msX1_takePending : Cond.selects yX1_takePending.cls yX1_takePending yX1_takePending ∈ GW := gwp 0 (by decide +kernel) (by decide +kernel)
abbrev cdX1_takeColumn : Cond := .code yX1_takeColumn cX1_takeColumn 5 none
theorem mcX1_takeColumn : cdX1_takeColumn ∈ GW := gwm 433 (by decide +kernel) (by decide +kernel)
theorem miX1_takeColumn : Cond.instanceMethod yX1_takeColumn ∈ GW := gwm 432 (by decide +kernel) (by decide +kernel)
theorem msX1_takeColumn : Cond.selects yX1_takeColumn.cls yX1_takeColumn yX1_takeColumn ∈ GW := gwp 23 (by decide +kernel) (by decide +kernel)
abbrev cdX1_raise : Cond := .code yX1_raise cX1_raise 6 (some .int)
theorem mcX1_raise : cdX1_raise ∈ GW := gwm 456 (by decide +kernel) (by decide +kernel)
theorem miX1_raise : Cond.instanceMethod yX1_raise ∈ GW := gwm 455 (by decide +kernel) (by decide +kernel)
theorem msX1_raise : Cond.selects yX1_raise.cls yX1_raise yX1_raise ∈ GW := gwp 26 (by decide +kernel) (by decide +kernel)
abbrev cdX1_countMasked : Cond := .code yX1_countMasked cX1_countMasked 3 (some .int)
theorem mcX1_countMasked : cdX1_countMasked ∈ GW := gwm 231 (by decide +kernel) (by decide +kernel)
theorem miX1_countMasked : Cond.instanceMethod yX1_countMasked ∈ GW := gwm 230 (by decide +kernel) (by decide +kernel)
theorem msX1_countMasked : Cond.selects yX1_countMasked.cls yX1_countMasked yX1_countMasked ∈ GW := gwp 12 (by decide +kernel) (by decide +kernel)
abbrev cdX1_sumOfChannel : Cond := .code yX1_sumOfChannel cX1_sumOfChannel 4 (some .int)
theorem mcX1_sumOfChannel : cdX1_sumOfChannel ∈ GW := gwm 311 (by decide +kernel) (by decide +kernel)
theorem miX1_sumOfChannel : Cond.instanceMethod yX1_sumOfChannel ∈ GW := gwm 310 (by decide +kernel) (by decide +kernel)
theorem msX1_sumOfChannel : Cond.selects yX1_sumOfChannel.cls yX1_sumOfChannel yX1_sumOfChannel ∈ GW := gwp 15 (by decide +kernel) (by decide +kernel)
abbrev cdX1_loudestUnmasked : Cond := .code yX1_loudestUnmasked cX1_loudestUnmasked 5 (some .int)
theorem mcX1_loudestUnmasked : cdX1_loudestUnmasked ∈ GW := gwm 501 (by decide +kernel) (by decide +kernel)
theorem miX1_loudestUnmasked : Cond.instanceMethod yX1_loudestUnmasked ∈ GW := gwm 500 (by decide +kernel) (by decide +kernel)
theorem msX1_loudestUnmasked : Cond.selects yX1_loudestUnmasked.cls yX1_loudestUnmasked yX1_loudestUnmasked ∈ GW := gwp 28 (by decide +kernel) (by decide +kernel)
abbrev cdX2_init : Cond := .code yX2_init cX2_init 1 none
theorem mcX2_init : cdX2_init ∈ GW := gwm 78 (by decide +kernel) (by decide +kernel)
theorem miX2_init : Cond.instanceMethod yX2_init ∈ GW := gwm 77 (by decide +kernel) (by decide +kernel)
abbrev cdX2_sumAt : Cond := .code yX2_sumAt cX2_sumAt 3 (some .int)
theorem mcX2_sumAt : cdX2_sumAt ∈ GW := gwm 222 (by decide +kernel) (by decide +kernel)
theorem miX2_sumAt : Cond.instanceMethod yX2_sumAt ∈ GW := gwm 221 (by decide +kernel) (by decide +kernel)
theorem msX2_sumAt : Cond.selects yX2_sumAt.cls yX2_sumAt yX2_sumAt ∈ GW := gwp 11 (by decide +kernel) (by decide +kernel)
abbrev cdX2_linesOf : Cond := .code yX2_linesOf cX2_linesOf 2 (some .int)
theorem mcX2_linesOf : cdX2_linesOf ∈ GW := gwm 211 (by decide +kernel) (by decide +kernel)
theorem miX2_linesOf : Cond.instanceMethod yX2_linesOf ∈ GW := gwm 210 (by decide +kernel) (by decide +kernel)
theorem msX2_linesOf : Cond.selects yX2_linesOf.cls yX2_linesOf yX2_linesOf ∈ GW := gwp 9 (by decide +kernel) (by decide +kernel)
abbrev cdX2_refresh : Cond := .code yX2_refresh cX2_refresh 3 none
theorem mcX2_refresh : cdX2_refresh ∈ GW := gwm 191 (by decide +kernel) (by decide +kernel)
theorem miX2_refresh : Cond.instanceMethod yX2_refresh ∈ GW := gwm 190 (by decide +kernel) (by decide +kernel)
theorem msX2_refresh : Cond.selects yX2_refresh.cls yX2_refresh yX2_refresh ∈ GW := gwp 4 (by decide +kernel) (by decide +kernel)
abbrev cdX2_copyPowers : Cond := .code yX2_copyPowers cX2_copyPowers 4 none
theorem mcX2_copyPowers : cdX2_copyPowers ∈ GW := gwm 195 (by decide +kernel) (by decide +kernel)
theorem miX2_copyPowers : Cond.instanceMethod yX2_copyPowers ∈ GW := gwm 194 (by decide +kernel) (by decide +kernel)
theorem msX2_copyPowers : Cond.selects yX2_copyPowers.cls yX2_copyPowers yX2_copyPowers ∈ GW := gwp 5 (by decide +kernel) (by decide +kernel)
abbrev cdX2_joinBlocks : Cond := .code yX2_joinBlocks cX2_joinBlocks 4 none
theorem mcX2_joinBlocks : cdX2_joinBlocks ∈ GW := gwm 203 (by decide +kernel) (by decide +kernel)
theorem miX2_joinBlocks : Cond.instanceMethod yX2_joinBlocks ∈ GW := gwm 202 (by decide +kernel) (by decide +kernel)
theorem msX2_joinBlocks : Cond.selects yX2_joinBlocks.cls yX2_joinBlocks yX2_joinBlocks ∈ GW := gwp 7 (by decide +kernel) (by decide +kernel)
abbrev cdX2_joinRows : Cond := .code yX2_joinRows cX2_joinRows 10 none
theorem mcX2_joinRows : cdX2_joinRows ∈ GW := gwm 207 (by decide +kernel) (by decide +kernel)
theorem miX2_joinRows : Cond.instanceMethod yX2_joinRows ∈ GW := gwm 206 (by decide +kernel) (by decide +kernel)
theorem msX2_joinRows : Cond.selects yX2_joinRows.cls yX2_joinRows yX2_joinRows ∈ GW := gwp 8 (by decide +kernel) (by decide +kernel)
abbrev cdX2_measure : Cond := .code yX2_measure cX2_measure 10 none
theorem mcX2_measure : cdX2_measure ∈ GW := gwm 218 (by decide +kernel) (by decide +kernel)
theorem miX2_measure : Cond.instanceMethod yX2_measure ∈ GW := gwm 217 (by decide +kernel) (by decide +kernel)
theorem msX2_measure : Cond.selects yX2_measure.cls yX2_measure yX2_measure ∈ GW := gwp 10 (by decide +kernel) (by decide +kernel)
abbrev cdX2_sumOfBox : Cond := .code yX2_sumOfBox cX2_sumOfBox 6 (some .int)
theorem mcX2_sumOfBox : cdX2_sumOfBox ∈ GW := gwm 549 (by decide +kernel) (by decide +kernel)
theorem miX2_sumOfBox : Cond.instanceMethod yX2_sumOfBox ∈ GW := gwm 548 (by decide +kernel) (by decide +kernel)
theorem msX2_sumOfBox : Cond.selects yX2_sumOfBox.cls yX2_sumOfBox yX2_sumOfBox ∈ GW := gwp 30 (by decide +kernel) (by decide +kernel)
abbrev cdX2_scoreOf : Cond := .code yX2_scoreOf cX2_scoreOf 9 (some .long)
theorem mcX2_scoreOf : cdX2_scoreOf ∈ GW := gwm 560 (by decide +kernel) (by decide +kernel)
theorem miX2_scoreOf : Cond.instanceMethod yX2_scoreOf ∈ GW := gwm 559 (by decide +kernel) (by decide +kernel)
theorem msX2_scoreOf : Cond.selects yX2_scoreOf.cls yX2_scoreOf yX2_scoreOf ∈ GW := gwp 31 (by decide +kernel) (by decide +kernel)
abbrev cdX3_init : Cond := .code yX3_init cX3_init 1 none
theorem mcX3_init : cdX3_init ∈ GW := gwm 62 (by decide +kernel) (by decide +kernel)
theorem miX3_init : Cond.instanceMethod yX3_init ∈ GW := gwm 61 (by decide +kernel) (by decide +kernel)
abbrev cdX3_powerOf : Cond := .code yX3_powerOf cX3_powerOf 1 (some .int)
theorem mcX3_powerOf : cdX3_powerOf ∈ GW := gwm 183 (by decide +kernel) (by decide +kernel)
theorem mtX3_powerOf : Cond.static yX3_powerOf ∈ GW := gwm 182 (by decide +kernel) (by decide +kernel)
abbrev cdX3_indexOfFirstError : Cond := .code yX3_indexOfFirstError cX3_indexOfFirstError 2 (some .int)
theorem mcX3_indexOfFirstError : cdX3_indexOfFirstError ∈ GW := gwm 180 (by decide +kernel) (by decide +kernel)
theorem miX3_indexOfFirstError : Cond.instanceMethod yX3_indexOfFirstError ∈ GW := gwm 179 (by decide +kernel) (by decide +kernel)
theorem msX3_indexOfFirstError : Cond.selects yX3_indexOfFirstError.cls yX3_indexOfFirstError yX3_indexOfFirstError ∈ GW := gwp 3 (by decide +kernel) (by decide +kernel)
abbrev cdX3_hasWholeColumns : Cond := .code yX3_hasWholeColumns cX3_hasWholeColumns 2 (some .boolean)
theorem mcX3_hasWholeColumns : cdX3_hasWholeColumns ∈ GW := gwm 427 (by decide +kernel) (by decide +kernel)
theorem miX3_hasWholeColumns : Cond.instanceMethod yX3_hasWholeColumns ∈ GW := gwm 426 (by decide +kernel) (by decide +kernel)
theorem msX3_hasWholeColumns : Cond.selects yX3_hasWholeColumns.cls yX3_hasWholeColumns yX3_hasWholeColumns ∈ GW := gwp 22 (by decide +kernel) (by decide +kernel)
abbrev cdX4_init : Cond := .code yX4_init cX4_init 1 none
theorem mcX4_init : cdX4_init ∈ GW := gwm 19 (by decide +kernel) (by decide +kernel)
theorem miX4_init : Cond.instanceMethod yX4_init ∈ GW := gwm 18 (by decide +kernel) (by decide +kernel)
abbrev cdX4_setChannels : Cond := .code yX4_setChannels cX4_setChannels 3 (some .int)
theorem mcX4_setChannels : cdX4_setChannels ∈ GW := gwm 372 (by decide +kernel) (by decide +kernel)
theorem miX4_setChannels : Cond.instanceMethod yX4_setChannels ∈ GW := gwm 370 (by decide +kernel) (by decide +kernel)
theorem msX4_setChannels : Cond.selects yX4_setChannels.cls yX4_setChannels yX4_setChannels ∈ GW := gwm 371 (by decide +kernel) (by decide +kernel)
abbrev cdX4_setPending : Cond := .code yX4_setPending cX4_setPending 4 (some .int)
theorem mcX4_setPending : cdX4_setPending ∈ GW := gwm 385 (by decide +kernel) (by decide +kernel)
theorem miX4_setPending : Cond.instanceMethod yX4_setPending ∈ GW := gwm 383 (by decide +kernel) (by decide +kernel)
theorem msX4_setPending : Cond.selects yX4_setPending.cls yX4_setPending yX4_setPending ∈ GW := gwm 384 (by decide +kernel) (by decide +kernel)
abbrev cdX4_advance : Cond := .code yX4_advance cX4_advance 1 (some .int)
theorem mcX4_advance : cdX4_advance ∈ GW := gwm 153 (by decide +kernel) (by decide +kernel)
theorem miX4_advance : Cond.instanceMethod yX4_advance ∈ GW := gwm 151 (by decide +kernel) (by decide +kernel)
theorem msX4_advance : Cond.selects yX4_advance.cls yX4_advance yX4_advance ∈ GW := gwm 152 (by decide +kernel) (by decide +kernel)
abbrev cdX4_append : Cond := .code yX4_append cX4_append 2 (some .int)
theorem mcX4_append : cdX4_append ∈ GW := gwm 399 (by decide +kernel) (by decide +kernel)
theorem miX4_append : Cond.instanceMethod yX4_append ∈ GW := gwm 397 (by decide +kernel) (by decide +kernel)
theorem msX4_append : Cond.selects yX4_append.cls yX4_append yX4_append ∈ GW := gwm 398 (by decide +kernel) (by decide +kernel)
abbrev cdX4_clearInput : Cond := .code yX4_clearInput cX4_clearInput 2 (some .int)
theorem mcX4_clearInput : cdX4_clearInput ∈ GW := gwm 172 (by decide +kernel) (by decide +kernel)
theorem miX4_clearInput : Cond.instanceMethod yX4_clearInput ∈ GW := gwm 170 (by decide +kernel) (by decide +kernel)
theorem msX4_clearInput : Cond.selects yX4_clearInput.cls yX4_clearInput yX4_clearInput ∈ GW := gwm 171 (by decide +kernel) (by decide +kernel)
abbrev cdX4_firstError : Cond := .code yX4_firstError cX4_firstError 1 (some .int)
theorem mcX4_firstError : cdX4_firstError ∈ GW := gwm 176 (by decide +kernel) (by decide +kernel)
theorem miX4_firstError : Cond.instanceMethod yX4_firstError ∈ GW := gwm 174 (by decide +kernel) (by decide +kernel)
theorem msX4_firstError : Cond.selects yX4_firstError.cls yX4_firstError yX4_firstError ∈ GW := gwm 175 (by decide +kernel) (by decide +kernel)
abbrev cdX4_load : Cond := .code yX4_load cX4_load 3 (some .int)
theorem mcX4_load : cdX4_load ∈ GW := gwm 423 (by decide +kernel) (by decide +kernel)
theorem miX4_load : Cond.instanceMethod yX4_load ∈ GW := gwm 421 (by decide +kernel) (by decide +kernel)
theorem msX4_load : Cond.selects yX4_load.cls yX4_load yX4_load ∈ GW := gwm 422 (by decide +kernel) (by decide +kernel)
abbrev cdX4_inject : Cond := .code yX4_inject cX4_inject 7 (some .int)
theorem mcX4_inject : cdX4_inject ∈ GW := gwm 441 (by decide +kernel) (by decide +kernel)
theorem miX4_inject : Cond.instanceMethod yX4_inject ∈ GW := gwm 439 (by decide +kernel) (by decide +kernel)
theorem msX4_inject : Cond.selects yX4_inject.cls yX4_inject yX4_inject ∈ GW := gwm 440 (by decide +kernel) (by decide +kernel)
abbrev cdX4_power : Cond := .code yX4_power cX4_power 3 (some .int)
theorem mcX4_power : cdX4_power ∈ GW := gwm 466 (by decide +kernel) (by decide +kernel)
theorem miX4_power : Cond.instanceMethod yX4_power ∈ GW := gwm 464 (by decide +kernel) (by decide +kernel)
theorem msX4_power : Cond.selects yX4_power.cls yX4_power yX4_power ∈ GW := gwm 465 (by decide +kernel) (by decide +kernel)
abbrev cdX4_count : Cond := .code yX4_count cX4_count 2 (some .int)
theorem mcX4_count : cdX4_count ∈ GW := gwm 227 (by decide +kernel) (by decide +kernel)
theorem miX4_count : Cond.instanceMethod yX4_count ∈ GW := gwm 225 (by decide +kernel) (by decide +kernel)
theorem msX4_count : Cond.selects yX4_count.cls yX4_count yX4_count ∈ GW := gwm 226 (by decide +kernel) (by decide +kernel)
abbrev cdX4_setMasked : Cond := .code yX4_setMasked cX4_setMasked 4 (some .boolean)
theorem mcX4_setMasked : cdX4_setMasked ∈ GW := gwm 482 (by decide +kernel) (by decide +kernel)
theorem miX4_setMasked : Cond.instanceMethod yX4_setMasked ∈ GW := gwm 480 (by decide +kernel) (by decide +kernel)
theorem msX4_setMasked : Cond.selects yX4_setMasked.cls yX4_setMasked yX4_setMasked ∈ GW := gwm 481 (by decide +kernel) (by decide +kernel)
abbrev cdX4_channelSum : Cond := .code yX4_channelSum cX4_channelSum 2 (some .int)
theorem mcX4_channelSum : cdX4_channelSum ∈ GW := gwm 489 (by decide +kernel) (by decide +kernel)
theorem miX4_channelSum : Cond.instanceMethod yX4_channelSum ∈ GW := gwm 487 (by decide +kernel) (by decide +kernel)
theorem msX4_channelSum : Cond.selects yX4_channelSum.cls yX4_channelSum yX4_channelSum ∈ GW := gwm 488 (by decide +kernel) (by decide +kernel)
abbrev cdX4_strike : Cond := .code yX4_strike cX4_strike 5 (some .int)
theorem mcX4_strike : cdX4_strike ∈ GW := gwm 496 (by decide +kernel) (by decide +kernel)
theorem miX4_strike : Cond.instanceMethod yX4_strike ∈ GW := gwm 494 (by decide +kernel) (by decide +kernel)
theorem msX4_strike : Cond.selects yX4_strike.cls yX4_strike yX4_strike ∈ GW := gwm 495 (by decide +kernel) (by decide +kernel)
abbrev cdX4_offset : Cond := .code yX4_offset cX4_offset 4 (some .int)
theorem mcX4_offset : cdX4_offset ∈ GW := gwm 509 (by decide +kernel) (by decide +kernel)
theorem miX4_offset : Cond.instanceMethod yX4_offset ∈ GW := gwm 507 (by decide +kernel) (by decide +kernel)
theorem msX4_offset : Cond.selects yX4_offset.cls yX4_offset yX4_offset ∈ GW := gwm 508 (by decide +kernel) (by decide +kernel)
abbrev cdX4_bend : Cond := .code yX4_bend cX4_bend 2 (some .int)
theorem mcX4_bend : cdX4_bend ∈ GW := gwm 516 (by decide +kernel) (by decide +kernel)
theorem miX4_bend : Cond.instanceMethod yX4_bend ∈ GW := gwm 514 (by decide +kernel) (by decide +kernel)
theorem msX4_bend : Cond.selects yX4_bend.cls yX4_bend yX4_bend ∈ GW := gwm 515 (by decide +kernel) (by decide +kernel)
abbrev cdX4_lineSum : Cond := .code yX4_lineSum cX4_lineSum 4 (some .int)
theorem mcX4_lineSum : cdX4_lineSum ∈ GW := gwm 523 (by decide +kernel) (by decide +kernel)
theorem miX4_lineSum : Cond.instanceMethod yX4_lineSum ∈ GW := gwm 521 (by decide +kernel) (by decide +kernel)
theorem msX4_lineSum : Cond.selects yX4_lineSum.cls yX4_lineSum yX4_lineSum ∈ GW := gwm 522 (by decide +kernel) (by decide +kernel)
abbrev cdX4_mean : Cond := .code yX4_mean cX4_mean 3 (some .double)
theorem mcX4_mean : cdX4_mean ∈ GW := gwm 534 (by decide +kernel) (by decide +kernel)
theorem miX4_mean : Cond.instanceMethod yX4_mean ∈ GW := gwm 532 (by decide +kernel) (by decide +kernel)
theorem msX4_mean : Cond.selects yX4_mean.cls yX4_mean yX4_mean ∈ GW := gwm 533 (by decide +kernel) (by decide +kernel)
abbrev cdX4_boxSum : Cond := .code yX4_boxSum cX4_boxSum 4 (some .int)
theorem mcX4_boxSum : cdX4_boxSum ∈ GW := gwm 541 (by decide +kernel) (by decide +kernel)
theorem miX4_boxSum : Cond.instanceMethod yX4_boxSum ∈ GW := gwm 539 (by decide +kernel) (by decide +kernel)
theorem msX4_boxSum : Cond.selects yX4_boxSum.cls yX4_boxSum yX4_boxSum ∈ GW := gwm 540 (by decide +kernel) (by decide +kernel)
abbrev cdX4_score : Cond := .code yX4_score cX4_score 4 (some .long)
theorem mcX4_score : cdX4_score ∈ GW := gwm 556 (by decide +kernel) (by decide +kernel)
theorem miX4_score : Cond.instanceMethod yX4_score ∈ GW := gwm 554 (by decide +kernel) (by decide +kernel)
theorem msX4_score : Cond.selects yX4_score.cls yX4_score yX4_score ∈ GW := gwm 555 (by decide +kernel) (by decide +kernel)
abbrev cdX4_find : Cond := .code yX4_find cX4_find 7 (some .int)
theorem mcX4_find : cdX4_find ∈ GW := gwm 568 (by decide +kernel) (by decide +kernel)
theorem miX4_find : Cond.instanceMethod yX4_find ∈ GW := gwm 566 (by decide +kernel) (by decide +kernel)
theorem msX4_find : Cond.selects yX4_find.cls yX4_find yX4_find ∈ GW := gwm 567 (by decide +kernel) (by decide +kernel)
abbrev cdX4_candidate : Cond := .code yX4_candidate cX4_candidate 3 (some .long)
theorem mcX4_candidate : cdX4_candidate ∈ GW := gwm 344 (by decide +kernel) (by decide +kernel)
theorem miX4_candidate : Cond.instanceMethod yX4_candidate ∈ GW := gwm 342 (by decide +kernel) (by decide +kernel)
theorem msX4_candidate : Cond.selects yX4_candidate.cls yX4_candidate yX4_candidate ∈ GW := gwm 343 (by decide +kernel) (by decide +kernel)
abbrev cdX4_candidateAt : Cond := .code yX4_candidateAt cX4_candidateAt 2 (some .int)
theorem mcX4_candidateAt : cdX4_candidateAt ∈ GW := gwm 603 (by decide +kernel) (by decide +kernel)
theorem miX4_candidateAt : Cond.instanceMethod yX4_candidateAt ∈ GW := gwm 601 (by decide +kernel) (by decide +kernel)
theorem msX4_candidateAt : Cond.selects yX4_candidateAt.cls yX4_candidateAt yX4_candidateAt ∈ GW := gwm 602 (by decide +kernel) (by decide +kernel)
abbrev cdX4_digest : Cond := .code yX4_digest cX4_digest 4 (some .long)
theorem mcX4_digest : cdX4_digest ∈ GW := gwm 187 (by decide +kernel) (by decide +kernel)
theorem miX4_digest : Cond.instanceMethod yX4_digest ∈ GW := gwm 185 (by decide +kernel) (by decide +kernel)
theorem msX4_digest : Cond.selects yX4_digest.cls yX4_digest yX4_digest ∈ GW := gwm 186 (by decide +kernel) (by decide +kernel)
abbrev cdX4_mix : Cond := .code yX4_mix cX4_mix 4 (some .long)
theorem mcX4_mix : cdX4_mix ∈ GW := gwm 302 (by decide +kernel) (by decide +kernel)
theorem mtX4_mix : Cond.static yX4_mix ∈ GW := gwm 301 (by decide +kernel) (by decide +kernel)
abbrev cdX4_mixChannels : Cond := .code yX4_mixChannels cX4_mixChannels 6 (some .long)
theorem mcX4_mixChannels : cdX4_mixChannels ∈ GW := gwm 307 (by decide +kernel) (by decide +kernel)
theorem miX4_mixChannels : Cond.instanceMethod yX4_mixChannels ∈ GW := gwm 306 (by decide +kernel) (by decide +kernel)
theorem msX4_mixChannels : Cond.selects yX4_mixChannels.cls yX4_mixChannels yX4_mixChannels ∈ GW := gwp 14 (by decide +kernel) (by decide +kernel)
abbrev cdX4_mixColumns : Cond := .code yX4_mixColumns cX4_mixColumns 7 (some .long)
theorem mcX4_mixColumns : cdX4_mixColumns ∈ GW := gwm 316 (by decide +kernel) (by decide +kernel)
theorem miX4_mixColumns : Cond.instanceMethod yX4_mixColumns ∈ GW := gwm 315 (by decide +kernel) (by decide +kernel)
theorem msX4_mixColumns : Cond.selects yX4_mixColumns.cls yX4_mixColumns yX4_mixColumns ∈ GW := gwp 16 (by decide +kernel) (by decide +kernel)
abbrev cdX4_mixSlopes : Cond := .code yX4_mixSlopes cX4_mixSlopes 8 (some .long)
theorem mcX4_mixSlopes : cdX4_mixSlopes ∈ GW := gwm 321 (by decide +kernel) (by decide +kernel)
theorem miX4_mixSlopes : Cond.instanceMethod yX4_mixSlopes ∈ GW := gwm 320 (by decide +kernel) (by decide +kernel)
theorem msX4_mixSlopes : Cond.selects yX4_mixSlopes.cls yX4_mixSlopes yX4_mixSlopes ∈ GW := gwp 17 (by decide +kernel) (by decide +kernel)
abbrev cdX4_mixCandidates : Cond := .code yX4_mixCandidates cX4_mixCandidates 7 (some .long)
theorem mcX4_mixCandidates : cdX4_mixCandidates ∈ GW := gwm 340 (by decide +kernel) (by decide +kernel)
theorem miX4_mixCandidates : Cond.instanceMethod yX4_mixCandidates ∈ GW := gwm 339 (by decide +kernel) (by decide +kernel)
theorem msX4_mixCandidates : Cond.selects yX4_mixCandidates.cls yX4_mixCandidates yX4_mixCandidates ∈ GW := gwp 18 (by decide +kernel) (by decide +kernel)
abbrev cdX4_mixText : Cond := .code yX4_mixText cX4_mixText 6 (some .long)
theorem mcX4_mixText : cdX4_mixText ∈ GW := gwm 364 (by decide +kernel) (by decide +kernel)
theorem miX4_mixText : Cond.instanceMethod yX4_mixText ∈ GW := gwm 363 (by decide +kernel) (by decide +kernel)
theorem msX4_mixText : Cond.selects yX4_mixText.cls yX4_mixText yX4_mixText ∈ GW := gwp 19 (by decide +kernel) (by decide +kernel)
abbrev cdX4_requireChannel : Cond := .code yX4_requireChannel cX4_requireChannel 2 none
theorem mcX4_requireChannel : cdX4_requireChannel ∈ GW := gwm 389 (by decide +kernel) (by decide +kernel)
theorem miX4_requireChannel : Cond.instanceMethod yX4_requireChannel ∈ GW := gwm 388 (by decide +kernel) (by decide +kernel)
theorem msX4_requireChannel : Cond.selects yX4_requireChannel.cls yX4_requireChannel yX4_requireChannel ∈ GW := gwp 21 (by decide +kernel) (by decide +kernel)
abbrev cdX4_requireColumn : Cond := .code yX4_requireColumn cX4_requireColumn 2 none
theorem mcX4_requireColumn : cdX4_requireColumn ∈ GW := gwm 470 (by decide +kernel) (by decide +kernel)
theorem miX4_requireColumn : Cond.instanceMethod yX4_requireColumn ∈ GW := gwm 469 (by decide +kernel) (by decide +kernel)
theorem msX4_requireColumn : Cond.selects yX4_requireColumn.cls yX4_requireColumn yX4_requireColumn ∈ GW := gwp 27 (by decide +kernel) (by decide +kernel)
abbrev cdX4_requireSlope : Cond := .code yX4_requireSlope cX4_requireSlope 2 none
theorem mcX4_requireSlope : cdX4_requireSlope ∈ GW := gwm 449 (by decide +kernel) (by decide +kernel)
theorem miX4_requireSlope : Cond.instanceMethod yX4_requireSlope ∈ GW := gwm 448 (by decide +kernel) (by decide +kernel)
theorem msX4_requireSlope : Cond.selects yX4_requireSlope.cls yX4_requireSlope yX4_requireSlope ∈ GW := gwp 25 (by decide +kernel) (by decide +kernel)
abbrev cdX4_requireWidth : Cond := .code yX4_requireWidth cX4_requireWidth 1 none
theorem mcX4_requireWidth : cdX4_requireWidth ∈ GW := gwm 544 (by decide +kernel) (by decide +kernel)
theorem mtX4_requireWidth : Cond.static yX4_requireWidth ∈ GW := gwm 543 (by decide +kernel) (by decide +kernel)
abbrev cdX4_requireLines : Cond := .code yX4_requireLines cX4_requireLines 4 none
theorem mcX4_requireLines : cdX4_requireLines ∈ GW := gwm 445 (by decide +kernel) (by decide +kernel)
theorem miX4_requireLines : Cond.instanceMethod yX4_requireLines ∈ GW := gwm 444 (by decide +kernel) (by decide +kernel)
theorem msX4_requireLines : Cond.selects yX4_requireLines.cls yX4_requireLines yX4_requireLines ∈ GW := gwp 24 (by decide +kernel) (by decide +kernel)
abbrev cdX4_forgetResults : Cond := .code yX4_forgetResults cX4_forgetResults 1 none
theorem mcX4_forgetResults : cdX4_forgetResults ∈ GW := gwm 168 (by decide +kernel) (by decide +kernel)
theorem miX4_forgetResults : Cond.instanceMethod yX4_forgetResults ∈ GW := gwm 167 (by decide +kernel) (by decide +kernel)
theorem msX4_forgetResults : Cond.selects yX4_forgetResults.cls yX4_forgetResults yX4_forgetResults ∈ GW := gwp 2 (by decide +kernel) (by decide +kernel)
abbrev cdX4_treeOffset : Cond := .code yX4_treeOffset cX4_treeOffset 8 (some .int)
theorem mcX4_treeOffset : cdX4_treeOffset ∈ GW := gwm 327 (by decide +kernel) (by decide +kernel)
theorem mtX4_treeOffset : Cond.static yX4_treeOffset ∈ GW := gwm 326 (by decide +kernel) (by decide +kernel)
abbrev cdX4_straightOffset : Cond := .code yX4_straightOffset cX4_straightOffset 4 (some .int)
theorem mcX4_straightOffset : cdX4_straightOffset ∈ GW := gwm 330 (by decide +kernel) (by decide +kernel)
theorem mtX4_straightOffset : Cond.static yX4_straightOffset ∈ GW := gwm 329 (by decide +kernel) (by decide +kernel)
abbrev cdX4_greatestBend : Cond := .code yX4_greatestBend cX4_greatestBend 6 (some .int)
theorem mcX4_greatestBend : cdX4_greatestBend ∈ GW := gwm 324 (by decide +kernel) (by decide +kernel)
theorem mtX4_greatestBend : Cond.static yX4_greatestBend ∈ GW := gwm 323 (by decide +kernel) (by decide +kernel)
abbrev cdX4_straightSum : Cond := .code yX4_straightSum cX4_straightSum 6 (some .int)
theorem mcX4_straightSum : cdX4_straightSum ∈ GW := gwm 527 (by decide +kernel) (by decide +kernel)
theorem miX4_straightSum : Cond.instanceMethod yX4_straightSum ∈ GW := gwm 526 (by decide +kernel) (by decide +kernel)
theorem msX4_straightSum : Cond.selects yX4_straightSum.cls yX4_straightSum yX4_straightSum ∈ GW := gwp 29 (by decide +kernel) (by decide +kernel)
abbrev cdX5_init : Cond := .code yX5_init cX5_init 1 none
theorem mcX5_init : cdX5_init ∈ GW := gwm 609 (by decide +kernel) (by decide +kernel)
theorem miX5_init : Cond.instanceMethod yX5_init ∈ GW := gwm 608 (by decide +kernel) (by decide +kernel)
abbrev cdX5_thrown : Cond := .code yX5_thrown cX5_thrown 1 (some .int)
theorem mcX5_thrown : cdX5_thrown ∈ GW := gwm 672 (by decide +kernel) (by decide +kernel)
theorem miX5_thrown : Cond.instanceMethod yX5_thrown ∈ GW := gwm 670 (by decide +kernel) (by decide +kernel)
theorem msX5_thrown : Cond.selects yX5_thrown.cls yX5_thrown yX5_thrown ∈ GW := gwm 671 (by decide +kernel) (by decide +kernel)
abbrev cdX5_within : Cond := .code yX5_within cX5_within 3 (some .boolean)
theorem mcX5_within : cdX5_within ∈ GW := gwm 691 (by decide +kernel) (by decide +kernel)
theorem mtX5_within : Cond.static yX5_within ∈ GW := gwm 690 (by decide +kernel) (by decide +kernel)
abbrev cdX5_isChannel : Cond := .code yX5_isChannel cX5_isChannel 2 (some .boolean)
theorem mcX5_isChannel : cdX5_isChannel ∈ GW := gwm 688 (by decide +kernel) (by decide +kernel)
theorem miX5_isChannel : Cond.instanceMethod yX5_isChannel ∈ GW := gwm 687 (by decide +kernel) (by decide +kernel)
theorem msX5_isChannel : Cond.selects yX5_isChannel.cls yX5_isChannel yX5_isChannel ∈ GW := gwp 37 (by decide +kernel) (by decide +kernel)
abbrev cdX5_isColumn : Cond := .code yX5_isColumn cX5_isColumn 2 (some .boolean)
theorem mcX5_isColumn : cdX5_isColumn ∈ GW := gwm 758 (by decide +kernel) (by decide +kernel)
theorem miX5_isColumn : Cond.instanceMethod yX5_isColumn ∈ GW := gwm 757 (by decide +kernel) (by decide +kernel)
theorem msX5_isColumn : Cond.selects yX5_isColumn.cls yX5_isColumn yX5_isColumn ∈ GW := gwp 45 (by decide +kernel) (by decide +kernel)
abbrev cdX5_setChannels : Cond := .code yX5_setChannels cX5_setChannels 3 (some .int)
theorem mcX5_setChannels : cdX5_setChannels ∈ GW := gwm 676 (by decide +kernel) (by decide +kernel)
theorem miX5_setChannels : Cond.instanceMethod yX5_setChannels ∈ GW := gwm 674 (by decide +kernel) (by decide +kernel)
theorem msX5_setChannels : Cond.selects yX5_setChannels.cls yX5_setChannels yX5_setChannels ∈ GW := gwm 675 (by decide +kernel) (by decide +kernel)
abbrev cdX5_clearPending : Cond := .code yX5_clearPending cX5_clearPending 2 none
theorem mcX5_clearPending : cdX5_clearPending ∈ GW := gwm 680 (by decide +kernel) (by decide +kernel)
theorem miX5_clearPending : Cond.instanceMethod yX5_clearPending ∈ GW := gwm 679 (by decide +kernel) (by decide +kernel)
theorem msX5_clearPending : Cond.selects yX5_clearPending.cls yX5_clearPending yX5_clearPending ∈ GW := gwp 36 (by decide +kernel) (by decide +kernel)
abbrev cdX5_setPending : Cond := .code yX5_setPending cX5_setPending 4 (some .int)
theorem mcX5_setPending : cdX5_setPending ∈ GW := gwm 684 (by decide +kernel) (by decide +kernel)
theorem miX5_setPending : Cond.instanceMethod yX5_setPending ∈ GW := gwm 682 (by decide +kernel) (by decide +kernel)
theorem msX5_setPending : Cond.selects yX5_setPending.cls yX5_setPending yX5_setPending ∈ GW := gwm 683 (by decide +kernel) (by decide +kernel)
abbrev cdX5_begin : Cond := .code yX5_begin cX5_begin 2 none
theorem mcX5_begin : cdX5_begin ∈ GW := gwm 699 (by decide +kernel) (by decide +kernel)
theorem miX5_begin : Cond.instanceMethod yX5_begin ∈ GW := gwm 698 (by decide +kernel) (by decide +kernel)
theorem msX5_begin : Cond.selects yX5_begin.cls yX5_begin yX5_begin ∈ GW := gwp 38 (by decide +kernel) (by decide +kernel)
abbrev cdX5_advance : Cond := .code yX5_advance cX5_advance 2 (some .int)
theorem mcX5_advance : cdX5_advance ∈ GW := gwm 695 (by decide +kernel) (by decide +kernel)
theorem miX5_advance : Cond.instanceMethod yX5_advance ∈ GW := gwm 693 (by decide +kernel) (by decide +kernel)
theorem msX5_advance : Cond.selects yX5_advance.cls yX5_advance yX5_advance ∈ GW := gwm 694 (by decide +kernel) (by decide +kernel)
abbrev cdX5_append : Cond := .code yX5_append cX5_append 2 (some .int)
theorem mcX5_append : cdX5_append ∈ GW := gwm 703 (by decide +kernel) (by decide +kernel)
theorem miX5_append : Cond.instanceMethod yX5_append ∈ GW := gwm 701 (by decide +kernel) (by decide +kernel)
theorem msX5_append : Cond.selects yX5_append.cls yX5_append yX5_append ∈ GW := gwm 702 (by decide +kernel) (by decide +kernel)
abbrev cdX5_clearInput : Cond := .code yX5_clearInput cX5_clearInput 2 (some .int)
theorem mcX5_clearInput : cdX5_clearInput ∈ GW := gwm 707 (by decide +kernel) (by decide +kernel)
theorem miX5_clearInput : Cond.instanceMethod yX5_clearInput ∈ GW := gwm 705 (by decide +kernel) (by decide +kernel)
theorem msX5_clearInput : Cond.selects yX5_clearInput.cls yX5_clearInput yX5_clearInput ∈ GW := gwm 706 (by decide +kernel) (by decide +kernel)
abbrev cdX5_powerOf : Cond := .code yX5_powerOf cX5_powerOf 1 (some .int)
theorem mcX5_powerOf : cdX5_powerOf ∈ GW := gwm 718 (by decide +kernel) (by decide +kernel)
theorem mtX5_powerOf : Cond.static yX5_powerOf ∈ GW := gwm 717 (by decide +kernel) (by decide +kernel)
abbrev cdX5_rightLength : Cond := .code yX5_rightLength cX5_rightLength 2 (some .int)
theorem mcX5_rightLength : cdX5_rightLength ∈ GW := gwm 715 (by decide +kernel) (by decide +kernel)
theorem miX5_rightLength : Cond.instanceMethod yX5_rightLength ∈ GW := gwm 714 (by decide +kernel) (by decide +kernel)
theorem msX5_rightLength : Cond.selects yX5_rightLength.cls yX5_rightLength yX5_rightLength ∈ GW := gwp 39 (by decide +kernel) (by decide +kernel)
abbrev cdX5_firstError : Cond := .code yX5_firstError cX5_firstError 1 (some .int)
theorem mcX5_firstError : cdX5_firstError ∈ GW := gwm 711 (by decide +kernel) (by decide +kernel)
theorem miX5_firstError : Cond.instanceMethod yX5_firstError ∈ GW := gwm 709 (by decide +kernel) (by decide +kernel)
theorem msX5_firstError : Cond.selects yX5_firstError.cls yX5_firstError yX5_firstError ∈ GW := gwm 710 (by decide +kernel) (by decide +kernel)
abbrev cdX5_load : Cond := .code yX5_load cX5_load 4 (some .int)
theorem mcX5_load : cdX5_load ∈ GW := gwm 722 (by decide +kernel) (by decide +kernel)
theorem miX5_load : Cond.instanceMethod yX5_load ∈ GW := gwm 720 (by decide +kernel) (by decide +kernel)
theorem msX5_load : Cond.selects yX5_load.cls yX5_load yX5_load ∈ GW := gwm 721 (by decide +kernel) (by decide +kernel)
abbrev cdX5_treeOffset : Cond := .code yX5_treeOffset cX5_treeOffset 8 (some .int)
theorem mcX5_treeOffset : cdX5_treeOffset ∈ GW := gwm 742 (by decide +kernel) (by decide +kernel)
theorem miX5_treeOffset : Cond.instanceMethod yX5_treeOffset ∈ GW := gwm 741 (by decide +kernel) (by decide +kernel)
theorem msX5_treeOffset : Cond.selects yX5_treeOffset.cls yX5_treeOffset yX5_treeOffset ∈ GW := gwp 43 (by decide +kernel) (by decide +kernel)
abbrev cdX5_straightOffset : Cond := .code yX5_straightOffset cX5_straightOffset 4 (some .int)
theorem mcX5_straightOffset : cdX5_straightOffset ∈ GW := gwm 738 (by decide +kernel) (by decide +kernel)
theorem miX5_straightOffset : Cond.instanceMethod yX5_straightOffset ∈ GW := gwm 737 (by decide +kernel) (by decide +kernel)
theorem msX5_straightOffset : Cond.selects yX5_straightOffset.cls yX5_straightOffset yX5_straightOffset ∈ GW := gwp 42 (by decide +kernel) (by decide +kernel)
abbrev cdX5_offsetBy : Cond := .code yX5_offsetBy cX5_offsetBy 4 (some .int)
theorem mcX5_offsetBy : cdX5_offsetBy ∈ GW := gwm 734 (by decide +kernel) (by decide +kernel)
theorem miX5_offsetBy : Cond.instanceMethod yX5_offsetBy ∈ GW := gwm 733 (by decide +kernel) (by decide +kernel)
theorem msX5_offsetBy : Cond.selects yX5_offsetBy.cls yX5_offsetBy yX5_offsetBy ∈ GW := gwp 41 (by decide +kernel) (by decide +kernel)
abbrev cdX5_isSlope : Cond := .code yX5_isSlope cX5_isSlope 2 (some .boolean)
theorem mcX5_isSlope : cdX5_isSlope ∈ GW := gwm 730 (by decide +kernel) (by decide +kernel)
theorem miX5_isSlope : Cond.instanceMethod yX5_isSlope ∈ GW := gwm 729 (by decide +kernel) (by decide +kernel)
theorem msX5_isSlope : Cond.selects yX5_isSlope.cls yX5_isSlope yX5_isSlope ∈ GW := gwp 40 (by decide +kernel) (by decide +kernel)
abbrev cdX5_offset : Cond := .code yX5_offset cX5_offset 4 (some .int)
theorem mcX5_offset : cdX5_offset ∈ GW := gwm 726 (by decide +kernel) (by decide +kernel)
theorem miX5_offset : Cond.instanceMethod yX5_offset ∈ GW := gwm 724 (by decide +kernel) (by decide +kernel)
theorem msX5_offset : Cond.selects yX5_offset.cls yX5_offset yX5_offset ∈ GW := gwm 725 (by decide +kernel) (by decide +kernel)
abbrev cdX5_bendOf : Cond := .code yX5_bendOf cX5_bendOf 5 (some .int)
theorem mcX5_bendOf : cdX5_bendOf ∈ GW := gwm 750 (by decide +kernel) (by decide +kernel)
theorem miX5_bendOf : Cond.instanceMethod yX5_bendOf ∈ GW := gwm 749 (by decide +kernel) (by decide +kernel)
theorem msX5_bendOf : Cond.selects yX5_bendOf.cls yX5_bendOf yX5_bendOf ∈ GW := gwp 44 (by decide +kernel) (by decide +kernel)
abbrev cdX5_bend : Cond := .code yX5_bend cX5_bend 2 (some .int)
theorem mcX5_bend : cdX5_bend ∈ GW := gwm 746 (by decide +kernel) (by decide +kernel)
theorem miX5_bend : Cond.instanceMethod yX5_bend ∈ GW := gwm 744 (by decide +kernel) (by decide +kernel)
theorem msX5_bend : Cond.selects yX5_bend.cls yX5_bend yX5_bend ∈ GW := gwm 745 (by decide +kernel) (by decide +kernel)
abbrev cdX5_inject : Cond := .code yX5_inject cX5_inject 9 (some .int)
theorem mcX5_inject : cdX5_inject ∈ GW := gwm 754 (by decide +kernel) (by decide +kernel)
theorem miX5_inject : Cond.instanceMethod yX5_inject ∈ GW := gwm 752 (by decide +kernel) (by decide +kernel)
theorem msX5_inject : Cond.selects yX5_inject.cls yX5_inject yX5_inject ∈ GW := gwm 753 (by decide +kernel) (by decide +kernel)
abbrev cdX5_power : Cond := .code yX5_power cX5_power 3 (some .int)
theorem mcX5_power : cdX5_power ∈ GW := gwm 762 (by decide +kernel) (by decide +kernel)
theorem miX5_power : Cond.instanceMethod yX5_power ∈ GW := gwm 760 (by decide +kernel) (by decide +kernel)
theorem msX5_power : Cond.selects yX5_power.cls yX5_power yX5_power ∈ GW := gwm 761 (by decide +kernel) (by decide +kernel)
abbrev cdX5_ones : Cond := .code yX5_ones cX5_ones 3 (some .int)
theorem mcX5_ones : cdX5_ones ∈ GW := gwm 773 (by decide +kernel) (by decide +kernel)
theorem mtX5_ones : Cond.static yX5_ones ∈ GW := gwm 772 (by decide +kernel) (by decide +kernel)
abbrev cdX5_countOf : Cond := .code yX5_countOf cX5_countOf 2 (some .int)
theorem mcX5_countOf : cdX5_countOf ∈ GW := gwm 770 (by decide +kernel) (by decide +kernel)
theorem miX5_countOf : Cond.instanceMethod yX5_countOf ∈ GW := gwm 769 (by decide +kernel) (by decide +kernel)
theorem msX5_countOf : Cond.selects yX5_countOf.cls yX5_countOf yX5_countOf ∈ GW := gwp 46 (by decide +kernel) (by decide +kernel)
abbrev cdX5_count : Cond := .code yX5_count cX5_count 2 (some .int)
theorem mcX5_count : cdX5_count ∈ GW := gwm 766 (by decide +kernel) (by decide +kernel)
theorem miX5_count : Cond.instanceMethod yX5_count ∈ GW := gwm 764 (by decide +kernel) (by decide +kernel)
theorem msX5_count : Cond.selects yX5_count.cls yX5_count yX5_count ∈ GW := gwm 765 (by decide +kernel) (by decide +kernel)
abbrev cdX5_isMasked : Cond := .code yX5_isMasked cX5_isMasked 2 (some .boolean)
theorem mcX5_isMasked : cdX5_isMasked ∈ GW := gwm 781 (by decide +kernel) (by decide +kernel)
theorem miX5_isMasked : Cond.instanceMethod yX5_isMasked ∈ GW := gwm 780 (by decide +kernel) (by decide +kernel)
theorem msX5_isMasked : Cond.selects yX5_isMasked.cls yX5_isMasked yX5_isMasked ∈ GW := gwp 47 (by decide +kernel) (by decide +kernel)
abbrev cdX5_setMasked : Cond := .code yX5_setMasked cX5_setMasked 4 (some .boolean)
theorem mcX5_setMasked : cdX5_setMasked ∈ GW := gwm 777 (by decide +kernel) (by decide +kernel)
theorem miX5_setMasked : Cond.instanceMethod yX5_setMasked ∈ GW := gwm 775 (by decide +kernel) (by decide +kernel)
theorem msX5_setMasked : Cond.selects yX5_setMasked.cls yX5_setMasked yX5_setMasked ∈ GW := gwm 776 (by decide +kernel) (by decide +kernel)
abbrev cdX5_sumOf : Cond := .code yX5_sumOf cX5_sumOf 4 (some .int)
theorem mcX5_sumOf : cdX5_sumOf ∈ GW := gwm 789 (by decide +kernel) (by decide +kernel)
theorem miX5_sumOf : Cond.instanceMethod yX5_sumOf ∈ GW := gwm 788 (by decide +kernel) (by decide +kernel)
theorem msX5_sumOf : Cond.selects yX5_sumOf.cls yX5_sumOf yX5_sumOf ∈ GW := gwp 48 (by decide +kernel) (by decide +kernel)
abbrev cdX5_channelSum : Cond := .code yX5_channelSum cX5_channelSum 2 (some .int)
theorem mcX5_channelSum : cdX5_channelSum ∈ GW := gwm 785 (by decide +kernel) (by decide +kernel)
theorem miX5_channelSum : Cond.instanceMethod yX5_channelSum ∈ GW := gwm 783 (by decide +kernel) (by decide +kernel)
theorem msX5_channelSum : Cond.selects yX5_channelSum.cls yX5_channelSum yX5_channelSum ∈ GW := gwm 784 (by decide +kernel) (by decide +kernel)
abbrev cdX5_strike : Cond := .code yX5_strike cX5_strike 7 (some .int)
theorem mcX5_strike : cdX5_strike ∈ GW := gwm 793 (by decide +kernel) (by decide +kernel)
theorem miX5_strike : Cond.instanceMethod yX5_strike ∈ GW := gwm 791 (by decide +kernel) (by decide +kernel)
theorem msX5_strike : Cond.selects yX5_strike.cls yX5_strike yX5_strike ∈ GW := gwm 792 (by decide +kernel) (by decide +kernel)
abbrev cdX5_lineBy : Cond := .code yX5_lineBy cX5_lineBy 6 (some .int)
theorem mcX5_lineBy : cdX5_lineBy ∈ GW := gwm 809 (by decide +kernel) (by decide +kernel)
theorem miX5_lineBy : Cond.instanceMethod yX5_lineBy ∈ GW := gwm 808 (by decide +kernel) (by decide +kernel)
theorem msX5_lineBy : Cond.selects yX5_lineBy.cls yX5_lineBy yX5_lineBy ∈ GW := gwp 51 (by decide +kernel) (by decide +kernel)
abbrev cdX5_linesOf : Cond := .code yX5_linesOf cX5_linesOf 2 (some .int)
theorem mcX5_linesOf : cdX5_linesOf ∈ GW := gwm 805 (by decide +kernel) (by decide +kernel)
theorem miX5_linesOf : Cond.instanceMethod yX5_linesOf ∈ GW := gwm 804 (by decide +kernel) (by decide +kernel)
theorem msX5_linesOf : Cond.selects yX5_linesOf.cls yX5_linesOf yX5_linesOf ∈ GW := gwp 50 (by decide +kernel) (by decide +kernel)
abbrev cdX5_isBox : Cond := .code yX5_isBox cX5_isBox 4 (some .boolean)
theorem mcX5_isBox : cdX5_isBox ∈ GW := gwm 801 (by decide +kernel) (by decide +kernel)
theorem miX5_isBox : Cond.instanceMethod yX5_isBox ∈ GW := gwm 800 (by decide +kernel) (by decide +kernel)
theorem msX5_isBox : Cond.selects yX5_isBox.cls yX5_isBox yX5_isBox ∈ GW := gwp 49 (by decide +kernel) (by decide +kernel)
abbrev cdX5_lineSum : Cond := .code yX5_lineSum cX5_lineSum 4 (some .int)
theorem mcX5_lineSum : cdX5_lineSum ∈ GW := gwm 797 (by decide +kernel) (by decide +kernel)
theorem miX5_lineSum : Cond.instanceMethod yX5_lineSum ∈ GW := gwm 795 (by decide +kernel) (by decide +kernel)
theorem msX5_lineSum : Cond.selects yX5_lineSum.cls yX5_lineSum yX5_lineSum ∈ GW := gwm 796 (by decide +kernel) (by decide +kernel)
abbrev cdX5_sumOfLines : Cond := .code yX5_sumOfLines cX5_sumOfLines 5 (some .long)
theorem mcX5_sumOfLines : cdX5_sumOfLines ∈ GW := gwm 817 (by decide +kernel) (by decide +kernel)
theorem miX5_sumOfLines : Cond.instanceMethod yX5_sumOfLines ∈ GW := gwm 816 (by decide +kernel) (by decide +kernel)
theorem msX5_sumOfLines : Cond.selects yX5_sumOfLines.cls yX5_sumOfLines yX5_sumOfLines ∈ GW := gwp 52 (by decide +kernel) (by decide +kernel)
abbrev cdX5_mean : Cond := .code yX5_mean cX5_mean 2 (some .double)
theorem mcX5_mean : cdX5_mean ∈ GW := gwm 813 (by decide +kernel) (by decide +kernel)
theorem miX5_mean : Cond.instanceMethod yX5_mean ∈ GW := gwm 811 (by decide +kernel) (by decide +kernel)
theorem msX5_mean : Cond.selects yX5_mean.cls yX5_mean yX5_mean ∈ GW := gwm 812 (by decide +kernel) (by decide +kernel)
abbrev cdX5_layLines : Cond := .code yX5_layLines cX5_layLines 3 none
theorem mcX5_layLines : cdX5_layLines ∈ GW := gwm 825 (by decide +kernel) (by decide +kernel)
theorem miX5_layLines : Cond.instanceMethod yX5_layLines ∈ GW := gwm 824 (by decide +kernel) (by decide +kernel)
theorem msX5_layLines : Cond.selects yX5_layLines.cls yX5_layLines yX5_layLines ∈ GW := gwp 53 (by decide +kernel) (by decide +kernel)
abbrev cdX5_boxBy : Cond := .code yX5_boxBy cX5_boxBy 5 (some .int)
theorem mcX5_boxBy : cdX5_boxBy ∈ GW := gwm 829 (by decide +kernel) (by decide +kernel)
theorem miX5_boxBy : Cond.instanceMethod yX5_boxBy ∈ GW := gwm 828 (by decide +kernel) (by decide +kernel)
theorem msX5_boxBy : Cond.selects yX5_boxBy.cls yX5_boxBy yX5_boxBy ∈ GW := gwp 54 (by decide +kernel) (by decide +kernel)
abbrev cdX5_scoreBy : Cond := .code yX5_scoreBy cX5_scoreBy 7 (some .long)
theorem mcX5_scoreBy : cdX5_scoreBy ∈ GW := gwm 837 (by decide +kernel) (by decide +kernel)
theorem miX5_scoreBy : Cond.instanceMethod yX5_scoreBy ∈ GW := gwm 836 (by decide +kernel) (by decide +kernel)
theorem msX5_scoreBy : Cond.selects yX5_scoreBy.cls yX5_scoreBy yX5_scoreBy ∈ GW := gwp 55 (by decide +kernel) (by decide +kernel)
abbrev cdX5_boxSum : Cond := .code yX5_boxSum cX5_boxSum 4 (some .int)
theorem mcX5_boxSum : cdX5_boxSum ∈ GW := gwm 821 (by decide +kernel) (by decide +kernel)
theorem miX5_boxSum : Cond.instanceMethod yX5_boxSum ∈ GW := gwm 819 (by decide +kernel) (by decide +kernel)
theorem msX5_boxSum : Cond.selects yX5_boxSum.cls yX5_boxSum yX5_boxSum ∈ GW := gwm 820 (by decide +kernel) (by decide +kernel)
abbrev cdX5_score : Cond := .code yX5_score cX5_score 4 (some .long)
theorem mcX5_score : cdX5_score ∈ GW := gwm 833 (by decide +kernel) (by decide +kernel)
theorem miX5_score : Cond.instanceMethod yX5_score ∈ GW := gwm 831 (by decide +kernel) (by decide +kernel)
theorem msX5_score : Cond.selects yX5_score.cls yX5_score yX5_score ∈ GW := gwm 832 (by decide +kernel) (by decide +kernel)
abbrev cdX5_isApart : Cond := .code yX5_isApart cX5_isApart 6 (some .boolean)
theorem mcX5_isApart : cdX5_isApart ∈ GW := gwm 854 (by decide +kernel) (by decide +kernel)
theorem miX5_isApart : Cond.instanceMethod yX5_isApart ∈ GW := gwm 853 (by decide +kernel) (by decide +kernel)
theorem msX5_isApart : Cond.selects yX5_isApart.cls yX5_isApart yX5_isApart ∈ GW := gwp 58 (by decide +kernel) (by decide +kernel)
abbrev cdX5_lookThrough : Cond := .code yX5_lookThrough cX5_lookThrough 9 none
theorem mcX5_lookThrough : cdX5_lookThrough ∈ GW := gwm 850 (by decide +kernel) (by decide +kernel)
theorem miX5_lookThrough : Cond.instanceMethod yX5_lookThrough ∈ GW := gwm 849 (by decide +kernel) (by decide +kernel)
theorem msX5_lookThrough : Cond.selects yX5_lookThrough.cls yX5_lookThrough yX5_lookThrough ∈ GW := gwp 57 (by decide +kernel) (by decide +kernel)
abbrev cdX5_findNext : Cond := .code yX5_findNext cX5_findNext 5 (some .boolean)
theorem mcX5_findNext : cdX5_findNext ∈ GW := gwm 846 (by decide +kernel) (by decide +kernel)
theorem miX5_findNext : Cond.instanceMethod yX5_findNext ∈ GW := gwm 845 (by decide +kernel) (by decide +kernel)
theorem msX5_findNext : Cond.selects yX5_findNext.cls yX5_findNext yX5_findNext ∈ GW := gwp 56 (by decide +kernel) (by decide +kernel)
abbrev cdX5_find : Cond := .code yX5_find cX5_find 4 (some .int)
theorem mcX5_find : cdX5_find ∈ GW := gwm 842 (by decide +kernel) (by decide +kernel)
theorem miX5_find : Cond.instanceMethod yX5_find ∈ GW := gwm 840 (by decide +kernel) (by decide +kernel)
theorem msX5_find : Cond.selects yX5_find.cls yX5_find yX5_find ∈ GW := gwm 841 (by decide +kernel) (by decide +kernel)
abbrev cdX5_told : Cond := .code yX5_told cX5_told 3 (some .long)
theorem mcX5_told : cdX5_told ∈ GW := gwm 862 (by decide +kernel) (by decide +kernel)
theorem miX5_told : Cond.instanceMethod yX5_told ∈ GW := gwm 861 (by decide +kernel) (by decide +kernel)
theorem msX5_told : Cond.selects yX5_told.cls yX5_told yX5_told ∈ GW := gwp 59 (by decide +kernel) (by decide +kernel)
abbrev cdX5_candidate : Cond := .code yX5_candidate cX5_candidate 3 (some .long)
theorem mcX5_candidate : cdX5_candidate ∈ GW := gwm 858 (by decide +kernel) (by decide +kernel)
theorem miX5_candidate : Cond.instanceMethod yX5_candidate ∈ GW := gwm 856 (by decide +kernel) (by decide +kernel)
theorem msX5_candidate : Cond.selects yX5_candidate.cls yX5_candidate yX5_candidate ∈ GW := gwm 857 (by decide +kernel) (by decide +kernel)
abbrev cdX5_candidateAt : Cond := .code yX5_candidateAt cX5_candidateAt 5 (some .int)
theorem mcX5_candidateAt : cdX5_candidateAt ∈ GW := gwm 866 (by decide +kernel) (by decide +kernel)
theorem miX5_candidateAt : Cond.instanceMethod yX5_candidateAt ∈ GW := gwm 864 (by decide +kernel) (by decide +kernel)
theorem msX5_candidateAt : Cond.selects yX5_candidateAt.cls yX5_candidateAt yX5_candidateAt ∈ GW := gwm 865 (by decide +kernel) (by decide +kernel)
abbrev cdX5_mix : Cond := .code yX5_mix cX5_mix 3 none
theorem mcX5_mix : cdX5_mix ∈ GW := gwm 875 (by decide +kernel) (by decide +kernel)
theorem miX5_mix : Cond.instanceMethod yX5_mix ∈ GW := gwm 874 (by decide +kernel) (by decide +kernel)
theorem msX5_mix : Cond.selects yX5_mix.cls yX5_mix yX5_mix ∈ GW := gwp 60 (by decide +kernel) (by decide +kernel)
abbrev cdX5_mixData : Cond := .code yX5_mixData cX5_mixData 3 none
theorem mcX5_mixData : cdX5_mixData ∈ GW := gwm 880 (by decide +kernel) (by decide +kernel)
theorem miX5_mixData : Cond.instanceMethod yX5_mixData ∈ GW := gwm 879 (by decide +kernel) (by decide +kernel)
theorem msX5_mixData : Cond.selects yX5_mixData.cls yX5_mixData yX5_mixData ∈ GW := gwp 61 (by decide +kernel) (by decide +kernel)
abbrev cdX5_digest : Cond := .code yX5_digest cX5_digest 2 (some .long)
theorem mcX5_digest : cdX5_digest ∈ GW := gwm 870 (by decide +kernel) (by decide +kernel)
theorem miX5_digest : Cond.instanceMethod yX5_digest ∈ GW := gwm 868 (by decide +kernel) (by decide +kernel)
theorem msX5_digest : Cond.selects yX5_digest.cls yX5_digest yX5_digest ∈ GW := gwm 869 (by decide +kernel) (by decide +kernel)
abbrev cdL_setChannels : Cond := .codeWith yL_setChannels cL_setChannels 4 (some .int) [(0, 9, 12, 13)]
theorem mcL_setChannels : cdL_setChannels ∈ GW := gwm 367 (by decide +kernel) (by decide +kernel)
theorem mtL_setChannels : Cond.static yL_setChannels ∈ GW := gwm 366 (by decide +kernel) (by decide +kernel)
abbrev cdL_setPending : Cond := .codeWith yL_setPending cL_setPending 5 (some .int) [(0, 10, 13, 19), (0, 10, 17, 13)]
theorem mcL_setPending : cdL_setPending ∈ GW := gwm 380 (by decide +kernel) (by decide +kernel)
theorem mtL_setPending : Cond.static yL_setPending ∈ GW := gwm 379 (by decide +kernel) (by decide +kernel)
abbrev cdL_append : Cond := .codeWith yL_append cL_append 4 (some .int) [(0, 9, 12, 13), (0, 9, 15, 24)]
theorem mcL_append : cdL_append ∈ GW := gwm 394 (by decide +kernel) (by decide +kernel)
theorem mtL_append : Cond.static yL_append ∈ GW := gwm 393 (by decide +kernel) (by decide +kernel)
abbrev cdL_load : Cond := .codeWith yL_load cL_load 3 (some .int) [(0, 8, 11, 24)]
theorem mcL_load : cdL_load ∈ GW := gwm 419 (by decide +kernel) (by decide +kernel)
theorem mtL_load : Cond.static yL_load ∈ GW := gwm 418 (by decide +kernel) (by decide +kernel)
abbrev cdL_inject : Cond := .codeWith yL_inject cL_inject 6 (some .int) [(0, 12, 15, 19), (0, 12, 19, 13)]
theorem mcL_inject : cdL_inject ∈ GW := gwm 437 (by decide +kernel) (by decide +kernel)
theorem mtL_inject : Cond.static yL_inject ∈ GW := gwm 436 (by decide +kernel) (by decide +kernel)
abbrev cdL_power : Cond := .codeWith yL_power cL_power 5 (some .int) [(0, 10, 13, 19)]
theorem mcL_power : cdL_power ∈ GW := gwm 462 (by decide +kernel) (by decide +kernel)
theorem mtL_power : Cond.static yL_power ∈ GW := gwm 461 (by decide +kernel) (by decide +kernel)
abbrev cdL_count : Cond := .codeWith yL_count cL_count 4 (some .int) [(0, 9, 12, 13)]
theorem mcL_count : cdL_count ∈ GW := gwm 474 (by decide +kernel) (by decide +kernel)
theorem mtL_count : Cond.static yL_count ∈ GW := gwm 473 (by decide +kernel) (by decide +kernel)
abbrev cdL_setMasked : Cond := .codeWith yL_setMasked cL_setMasked 5 (some .int) [(0, 17, 20, 19)]
theorem mcL_setMasked : cdL_setMasked ∈ GW := gwm 478 (by decide +kernel) (by decide +kernel)
theorem mtL_setMasked : Cond.static yL_setMasked ∈ GW := gwm 477 (by decide +kernel) (by decide +kernel)
abbrev cdL_channelSum : Cond := .codeWith yL_channelSum cL_channelSum 4 (some .int) [(0, 9, 12, 19)]
theorem mcL_channelSum : cdL_channelSum ∈ GW := gwm 485 (by decide +kernel) (by decide +kernel)
theorem mtL_channelSum : Cond.static yL_channelSum ∈ GW := gwm 484 (by decide +kernel) (by decide +kernel)
abbrev cdL_strike : Cond := .codeWith yL_strike cL_strike 4 (some .int) [(0, 9, 12, 13)]
theorem mcL_strike : cdL_strike ∈ GW := gwm 492 (by decide +kernel) (by decide +kernel)
theorem mtL_strike : Cond.static yL_strike ∈ GW := gwm 491 (by decide +kernel) (by decide +kernel)
abbrev cdL_offset : Cond := .codeWith yL_offset cL_offset 6 (some .int) [(0, 12, 15, 19)]
theorem mcL_offset : cdL_offset ∈ GW := gwm 505 (by decide +kernel) (by decide +kernel)
theorem mtL_offset : Cond.static yL_offset ∈ GW := gwm 504 (by decide +kernel) (by decide +kernel)
abbrev cdL_bend : Cond := .codeWith yL_bend cL_bend 4 (some .int) [(0, 9, 12, 19)]
theorem mcL_bend : cdL_bend ∈ GW := gwm 512 (by decide +kernel) (by decide +kernel)
theorem mtL_bend : Cond.static yL_bend ∈ GW := gwm 511 (by decide +kernel) (by decide +kernel)
abbrev cdL_lineSum : Cond := .codeWith yL_lineSum cL_lineSum 6 (some .int) [(0, 12, 15, 19)]
theorem mcL_lineSum : cdL_lineSum ∈ GW := gwm 519 (by decide +kernel) (by decide +kernel)
theorem mtL_lineSum : Cond.static yL_lineSum ∈ GW := gwm 518 (by decide +kernel) (by decide +kernel)
abbrev cdL_mean : Cond := .codeWith yL_mean cL_mean 4 (some .int) [(0, 8, 11, 19)]
theorem mcL_mean : cdL_mean ∈ GW := gwm 530 (by decide +kernel) (by decide +kernel)
theorem mtL_mean : Cond.static yL_mean ∈ GW := gwm 529 (by decide +kernel) (by decide +kernel)
abbrev cdL_boxSum : Cond := .codeWith yL_boxSum cL_boxSum 6 (some .int) [(0, 12, 15, 13), (0, 12, 19, 19)]
theorem mcL_boxSum : cdL_boxSum ∈ GW := gwm 537 (by decide +kernel) (by decide +kernel)
theorem mtL_boxSum : Cond.static yL_boxSum ∈ GW := gwm 536 (by decide +kernel) (by decide +kernel)
abbrev cdL_score : Cond := .codeWith yL_score cL_score 6 (some .int) [(0, 11, 14, 13), (0, 11, 18, 19)]
theorem mcL_score : cdL_score ∈ GW := gwm 552 (by decide +kernel) (by decide +kernel)
theorem mtL_score : Cond.static yL_score ∈ GW := gwm 551 (by decide +kernel) (by decide +kernel)
abbrev cdL_find : Cond := .codeWith yL_find cL_find 6 (some .int) [(0, 11, 14, 13)]
theorem mcL_find : cdL_find ∈ GW := gwm 564 (by decide +kernel) (by decide +kernel)
theorem mtL_find : Cond.static yL_find ∈ GW := gwm 563 (by decide +kernel) (by decide +kernel)
abbrev cdL_candidate : Cond := .codeWith yL_candidate cL_candidate 5 (some .int) [(0, 9, 12, 19), (0, 9, 16, 13)]
theorem mcL_candidate : cdL_candidate ∈ GW := gwm 595 (by decide +kernel) (by decide +kernel)
theorem mtL_candidate : Cond.static yL_candidate ∈ GW := gwm 594 (by decide +kernel) (by decide +kernel)
abbrev cdL_candidateAt : Cond := .codeWith yL_candidateAt cL_candidateAt 4 (some .int) [(0, 9, 12, 19)]
theorem mcL_candidateAt : cdL_candidateAt ∈ GW := gwm 599 (by decide +kernel) (by decide +kernel)
theorem mtL_candidateAt : Cond.static yL_candidateAt ∈ GW := gwm 598 (by decide +kernel) (by decide +kernel)
theorem clX2_77 : Cond.constantLong RX2 77 1000 ∈ GW := gwm 561 (by decide +kernel) (by decide +kernel)
theorem clX4_208 : Cond.constantLong RX4 208 1867 ∈ GW := gwm 223 (by decide +kernel) (by decide +kernel)
theorem clX4_232 : Cond.constantLong RX4 232 31 ∈ GW := gwm 303 (by decide +kernel) (by decide +kernel)
theorem clL_158 : Cond.constantLong RL 158 4294967295 ∈ GW := gwm 881 (by decide +kernel) (by decide +kernel)
theorem clX5_137 : Cond.constantLong RX5 137 1000 ∈ GW := gwm 838 (by decide +kernel) (by decide +kernel)
theorem clX5_162 : Cond.constantLong RX5 162 31 ∈ GW := gwm 876 (by decide +kernel) (by decide +kernel)
theorem clX5_171 : Cond.constantLong RX5 171 1867 ∈ GW := gwm 871 (by decide +kernel) (by decide +kernel)
theorem flX0_15 : FLk RX0 15 0 1 RX0 TX0 6 := ⟨rfl, by decide, gwm 115 (by decide +kernel) (by decide +kernel), uwX0⟩
theorem flX0_19 : FLk RX0 19 0 2 RX0 TX0 6 := ⟨rfl, by decide, gwm 117 (by decide +kernel) (by decide +kernel), uwX0⟩
theorem flX0_22 : FLk RX0 22 0 3 RX0 TX0 6 := ⟨rfl, by decide, gwm 119 (by decide +kernel) (by decide +kernel), uwX0⟩
theorem flX0_25 : FLk RX0 25 0 4 RX0 TX0 6 := ⟨rfl, by decide, gwm 121 (by decide +kernel) (by decide +kernel), uwX0⟩
theorem flX0_29 : FLk RX0 29 0 5 RX0 TX0 6 := ⟨rfl, by decide, gwm 123 (by decide +kernel) (by decide +kernel), uwX0⟩
theorem flX0_9 : FLk RX0 9 0 0 RX0 TX0 6 := ⟨rfl, by decide, gwm 113 (by decide +kernel) (by decide +kernel), uwX0⟩
theorem flX1_15 : FLk RX1 15 1 1 RX1 TX1 6 := ⟨rfl, by decide, gwm 32 (by decide +kernel) (by decide +kernel), uwX1⟩
theorem flX1_18 : FLk RX1 18 1 2 RX1 TX1 6 := ⟨rfl, by decide, gwm 35 (by decide +kernel) (by decide +kernel), uwX1⟩
theorem flX1_21 : FLk RX1 21 1 3 RX1 TX1 6 := ⟨rfl, by decide, gwm 37 (by decide +kernel) (by decide +kernel), uwX1⟩
theorem flX1_25 : FLk RX1 25 1 4 RX1 TX1 6 := ⟨rfl, by decide, gwm 38 (by decide +kernel) (by decide +kernel), uwX1⟩
theorem flX1_28 : FLk RX1 28 1 5 RX1 TX1 6 := ⟨rfl, by decide, gwm 40 (by decide +kernel) (by decide +kernel), uwX1⟩
theorem flX1_9 : FLk RX1 9 1 0 RX1 TX1 6 := ⟨rfl, by decide, gwm 29 (by decide +kernel) (by decide +kernel), uwX1⟩
theorem flX2_15 : FLk RX2 15 2 1 RX2 TX2 7 := ⟨rfl, by decide, gwm 82 (by decide +kernel) (by decide +kernel), uwX2⟩
theorem flX2_19 : FLk RX2 19 2 2 RX2 TX2 7 := ⟨rfl, by decide, gwm 84 (by decide +kernel) (by decide +kernel), uwX2⟩
theorem flX2_22 : FLk RX2 22 2 3 RX2 TX2 7 := ⟨rfl, by decide, gwm 86 (by decide +kernel) (by decide +kernel), uwX2⟩
theorem flX2_26 : FLk RX2 26 2 4 RX2 TX2 7 := ⟨rfl, by decide, gwm 87 (by decide +kernel) (by decide +kernel), uwX2⟩
theorem flX2_29 : FLk RX2 29 2 5 RX2 TX2 7 := ⟨rfl, by decide, gwm 88 (by decide +kernel) (by decide +kernel), uwX2⟩
theorem flX2_33 : FLk RX2 33 2 6 RX2 TX2 7 := ⟨rfl, by decide, gwm 90 (by decide +kernel) (by decide +kernel), uwX2⟩
theorem flX2_9 : FLk RX2 9 2 0 RX2 TX2 7 := ⟨rfl, by decide, gwm 80 (by decide +kernel) (by decide +kernel), uwX2⟩
theorem flX3_15 : FLk RX3 15 3 1 RX3 TX3 2 := ⟨rfl, by decide, gwm 66 (by decide +kernel) (by decide +kernel), uwX3⟩
theorem flX3_9 : FLk RX3 9 3 0 RX3 TX3 2 := ⟨rfl, by decide, gwm 64 (by decide +kernel) (by decide +kernel), uwX3⟩
theorem flX4_10 : FLk RX4 10 4 0 RX4 TX4 4 := ⟨rfl, by decide, gwm 137 (by decide +kernel) (by decide +kernel), uwX4⟩
theorem flX4_19 : FLk RX4 19 4 1 RX4 TX4 4 := ⟨rfl, by decide, gwm 138 (by decide +kernel) (by decide +kernel), uwX4⟩
theorem flX4_26 : FLk RX4 26 4 2 RX4 TX4 4 := ⟨rfl, by decide, gwm 139 (by decide +kernel) (by decide +kernel), uwX4⟩
theorem flX4_33 : FLk RX4 33 4 3 RX4 TX4 4 := ⟨rfl, by decide, gwm 140 (by decide +kernel) (by decide +kernel), uwX4⟩
theorem flX5_124 : FLk RX5 124 5 15 RX5 TX5 19 := ⟨rfl, by decide, gwm 626 (by decide +kernel) (by decide +kernel), uwX5⟩
theorem flX5_128 : FLk RX5 128 5 16 RX5 TX5 19 := ⟨rfl, by decide, gwm 627 (by decide +kernel) (by decide +kernel), uwX5⟩
theorem flX5_13 : FLk RX5 13 5 5 RX5 TX5 19 := ⟨rfl, by decide, gwm 616 (by decide +kernel) (by decide +kernel), uwX5⟩
theorem flX5_131 : FLk RX5 131 5 17 RX5 TX5 19 := ⟨rfl, by decide, gwm 628 (by decide +kernel) (by decide +kernel), uwX5⟩
theorem flX5_164 : FLk RX5 164 5 18 RX5 TX5 19 := ⟨rfl, by decide, gwm 629 (by decide +kernel) (by decide +kernel), uwX5⟩
theorem flX5_17 : FLk RX5 17 5 6 RX5 TX5 19 := ⟨rfl, by decide, gwm 617 (by decide +kernel) (by decide +kernel), uwX5⟩
theorem flX5_20 : FLk RX5 20 5 8 RX5 TX5 19 := ⟨rfl, by decide, gwm 619 (by decide +kernel) (by decide +kernel), uwX5⟩
theorem flX5_23 : FLk RX5 23 5 10 RX5 TX5 19 := ⟨rfl, by decide, gwm 621 (by decide +kernel) (by decide +kernel), uwX5⟩
theorem flX5_26 : FLk RX5 26 5 11 RX5 TX5 19 := ⟨rfl, by decide, gwm 622 (by decide +kernel) (by decide +kernel), uwX5⟩
theorem flX5_29 : FLk RX5 29 5 12 RX5 TX5 19 := ⟨rfl, by decide, gwm 623 (by decide +kernel) (by decide +kernel), uwX5⟩
theorem flX5_32 : FLk RX5 32 5 13 RX5 TX5 19 := ⟨rfl, by decide, gwm 624 (by decide +kernel) (by decide +kernel), uwX5⟩
theorem flX5_36 : FLk RX5 36 5 14 RX5 TX5 19 := ⟨rfl, by decide, gwm 625 (by decide +kernel) (by decide +kernel), uwX5⟩
theorem flX5_39 : FLk RX5 39 5 0 RX5 TX5 19 := ⟨rfl, by decide, gwm 611 (by decide +kernel) (by decide +kernel), uwX5⟩
theorem flX5_46 : FLk RX5 46 5 2 RX5 TX5 19 := ⟨rfl, by decide, gwm 613 (by decide +kernel) (by decide +kernel), uwX5⟩
theorem flX5_49 : FLk RX5 49 5 3 RX5 TX5 19 := ⟨rfl, by decide, gwm 614 (by decide +kernel) (by decide +kernel), uwX5⟩
theorem flX5_52 : FLk RX5 52 5 4 RX5 TX5 19 := ⟨rfl, by decide, gwm 615 (by decide +kernel) (by decide +kernel), uwX5⟩
theorem flX5_55 : FLk RX5 55 5 9 RX5 TX5 19 := ⟨rfl, by decide, gwm 620 (by decide +kernel) (by decide +kernel), uwX5⟩
theorem flX5_68 : FLk RX5 68 5 7 RX5 TX5 19 := ⟨rfl, by decide, gwm 618 (by decide +kernel) (by decide +kernel), uwX5⟩
theorem flX5_7 : FLk RX5 7 5 1 RX5 TX5 19 := ⟨rfl, by decide, gwm 612 (by decide +kernel) (by decide +kernel), uwX5⟩
theorem flX0_32 : FLn RX0 32 2 2 RX2 TX2 7 := ⟨rfl, by decide, nwm 85 (by decide +kernel) (by decide +kernel), uwX2⟩
theorem flX0_40 : FLn RX0 40 2 1 RX2 TX2 7 := ⟨rfl, by decide, nwm 83 (by decide +kernel) (by decide +kernel), uwX2⟩
theorem flX1_42 : FLn RX1 42 3 1 RX3 TX3 2 := ⟨rfl, by decide, nwm 68 (by decide +kernel) (by decide +kernel), uwX3⟩
theorem flX2_42 : FLn RX2 42 1 0 RX1 TX1 6 := ⟨rfl, by decide, nwm 31 (by decide +kernel) (by decide +kernel), uwX1⟩
theorem flX2_47 : FLn RX2 47 1 1 RX1 TX1 6 := ⟨rfl, by decide, nwm 34 (by decide +kernel) (by decide +kernel), uwX1⟩
theorem flX2_59 : FLn RX2 59 1 5 RX1 TX1 6 := ⟨rfl, by decide, nwm 41 (by decide +kernel) (by decide +kernel), uwX1⟩
theorem flX4_117 : FLn RX4 117 1 2 RX1 TX1 6 := ⟨rfl, by decide, nwm 36 (by decide +kernel) (by decide +kernel), uwX1⟩
theorem flX4_123 : FLn RX4 123 0 0 RX0 TX0 6 := ⟨rfl, by decide, nwm 114 (by decide +kernel) (by decide +kernel), uwX0⟩
theorem flX4_128 : FLn RX4 128 1 5 RX1 TX1 6 := ⟨rfl, by decide, nwm 42 (by decide +kernel) (by decide +kernel), uwX1⟩
theorem flX4_163 : FLn RX4 163 2 5 RX2 TX2 7 := ⟨rfl, by decide, nwm 89 (by decide +kernel) (by decide +kernel), uwX2⟩
theorem flX4_194 : FLn RX4 194 0 1 RX0 TX0 6 := ⟨rfl, by decide, nwm 116 (by decide +kernel) (by decide +kernel), uwX0⟩
theorem flX4_197 : FLn RX4 197 0 2 RX0 TX0 6 := ⟨rfl, by decide, nwm 118 (by decide +kernel) (by decide +kernel), uwX0⟩
theorem flX4_199 : FLn RX4 199 0 3 RX0 TX0 6 := ⟨rfl, by decide, nwm 120 (by decide +kernel) (by decide +kernel), uwX0⟩
theorem flX4_202 : FLn RX4 202 0 4 RX0 TX0 6 := ⟨rfl, by decide, nwm 122 (by decide +kernel) (by decide +kernel), uwX0⟩
theorem flX4_248 : FLn RX4 248 2 0 RX2 TX2 7 := ⟨rfl, by decide, nwm 81 (by decide +kernel) (by decide +kernel), uwX2⟩
theorem flX4_44 : FLn RX4 44 1 0 RX1 TX1 6 := ⟨rfl, by decide, nwm 30 (by decide +kernel) (by decide +kernel), uwX1⟩
theorem flX4_60 : FLn RX4 60 1 4 RX1 TX1 6 := ⟨rfl, by decide, nwm 39 (by decide +kernel) (by decide +kernel), uwX1⟩
theorem flX4_67 : FLn RX4 67 1 1 RX1 TX1 6 := ⟨rfl, by decide, nwm 33 (by decide +kernel) (by decide +kernel), uwX1⟩
theorem flX4_72 : FLn RX4 72 3 0 RX3 TX3 2 := ⟨rfl, by decide, nwm 65 (by decide +kernel) (by decide +kernel), uwX3⟩
theorem flX4_80 : FLn RX4 80 3 1 RX3 TX3 2 := ⟨rfl, by decide, nwm 67 (by decide +kernel) (by decide +kernel), uwX3⟩
theorem lkX0_36 : LkV RX0 36 yX0_markFreeEnds cdX0_markFreeEnds 1 := ⟨mcX0_markFreeEnds, gwm 577 (by decide +kernel) (by decide +kernel), miX0_markFreeEnds, msX0_markFreeEnds, inX0, by decide +kernel⟩
theorem lkX0_46 : LkV RX0 46 yX0_tryBoxes cdX0_tryBoxes 4 := ⟨mcX0_tryBoxes, gwm 586 (by decide +kernel) (by decide +kernel), miX0_tryBoxes, msX0_tryBoxes, inX0, by decide +kernel⟩
theorem lkX0_50 : LkV RX0 50 yX0_firstWith cdX0_firstWith 1 := ⟨mcX0_firstWith, gwm 581 (by decide +kernel) (by decide +kernel), miX0_firstWith, msX0_firstWith, inX0, by decide +kernel⟩
theorem lkX0_53 : LkM RX0 53 Lib.Math.min.name (.code Lib.Math.min.name Lib.Math.min.code 2 (some .int)) := ⟨gwm 590 (by decide +kernel) (by decide +kernel), gwm 458 (by decide +kernel) (by decide +kernel), gwm 14 (by decide +kernel) (by decide +kernel), gwm 459 (by decide +kernel) (by decide +kernel)⟩
theorem lkX1_32 : Cond.methodLink RX1 32 arraycopyName ∈ GW ∧ Cond.native arraycopyName ∈ GW ∧ Cond.static arraycopyName ∈ GW ∧ Cond.initialized "java/lang/System" ∈ GW := ⟨gwm 162 (by decide +kernel) (by decide +kernel), gwm 164 (by decide +kernel) (by decide +kernel), gwm 163 (by decide +kernel) (by decide +kernel), gwm 12 (by decide +kernel) (by decide +kernel)⟩
theorem lkX1_38 : LkV RX1 38 yX1_openColumn cdX1_openColumn 0 := ⟨mcX1_openColumn, gwm 158 (by decide +kernel) (by decide +kernel), miX1_openColumn, msX1_openColumn, inX1, by decide +kernel⟩
theorem lkX1_51 : LkM RX1 51 Lib.Math.min.name (.code Lib.Math.min.name Lib.Math.min.code 2 (some .int)) := ⟨gwm 457 (by decide +kernel) (by decide +kernel), gwm 458 (by decide +kernel) (by decide +kernel), gwm 14 (by decide +kernel) (by decide +kernel), gwm 459 (by decide +kernel) (by decide +kernel)⟩
theorem lkX1_57 : LkV RX1 57 yX1_powerAt cdX1_powerAt 2 := ⟨mcX1_powerAt, gwm 312 (by decide +kernel) (by decide +kernel), miX1_powerAt, msX1_powerAt, inX1, by decide +kernel⟩
theorem lkX1_60 : LkV RX1 60 yX1_sumOfChannel cdX1_sumOfChannel 1 := ⟨mcX1_sumOfChannel, gwm 502 (by decide +kernel) (by decide +kernel), miX1_sumOfChannel, msX1_sumOfChannel, inX1, by decide +kernel⟩
theorem lkX2_36 : LkM RX2 36 Lib.Math.max.name (.code Lib.Math.max.name Lib.Math.max.code 2 (some .int)) := ⟨gwm 212 (by decide +kernel) (by decide +kernel), gwm 213 (by decide +kernel) (by decide +kernel), gwm 14 (by decide +kernel) (by decide +kernel), gwm 214 (by decide +kernel) (by decide +kernel)⟩
theorem lkX2_48 : LkV RX2 48 yX2_copyPowers cdX2_copyPowers 1 := ⟨mcX2_copyPowers, gwm 192 (by decide +kernel) (by decide +kernel), miX2_copyPowers, msX2_copyPowers, inX2, by decide +kernel⟩
theorem lkX2_52 : LkV RX2 52 yX2_joinBlocks cdX2_joinBlocks 1 := ⟨mcX2_joinBlocks, gwm 200 (by decide +kernel) (by decide +kernel), miX2_joinBlocks, msX2_joinBlocks, inX2, by decide +kernel⟩
theorem lkX2_56 : LkV RX2 56 yX2_measure cdX2_measure 1 := ⟨mcX2_measure, gwm 215 (by decide +kernel) (by decide +kernel), miX2_measure, msX2_measure, inX2, by decide +kernel⟩
theorem lkX2_66 : LkV RX2 66 yX2_joinRows cdX2_joinRows 3 := ⟨mcX2_joinRows, gwm 204 (by decide +kernel) (by decide +kernel), miX2_joinRows, msX2_joinRows, inX2, by decide +kernel⟩
theorem lkX2_70 : LkV RX2 70 yX2_linesOf cdX2_linesOf 1 := ⟨mcX2_linesOf, gwm 208 (by decide +kernel) (by decide +kernel), miX2_linesOf, msX2_linesOf, inX2, by decide +kernel⟩
theorem lkX2_74 : LkV RX2 74 yX2_sumAt cdX2_sumAt 2 := ⟨mcX2_sumAt, gwm 219 (by decide +kernel) (by decide +kernel), miX2_sumAt, msX2_sumAt, inX2, by decide +kernel⟩
theorem lkX3_19 : LkS RX3 19 yX3_powerOf cdX3_powerOf 1 := ⟨mcX3_powerOf, gwm 181 (by decide +kernel) (by decide +kernel), mtX3_powerOf, inX3, by decide +kernel⟩
theorem lkX3_23 : LkV RX3 23 yX3_indexOfFirstError cdX3_indexOfFirstError 0 := ⟨mcX3_indexOfFirstError, gwm 428 (by decide +kernel) (by decide +kernel), miX3_indexOfFirstError, msX3_indexOfFirstError, inX3, by decide +kernel⟩
theorem lkX4_103 : LkS RX4 103 yX4_straightOffset cdX4_straightOffset 3 := ⟨mcX4_straightOffset, gwm 328 (by decide +kernel) (by decide +kernel), mtX4_straightOffset, inX4, by decide +kernel⟩
theorem lkX4_110 : LkV RX4 110 yX4_requireColumn cdX4_requireColumn 1 := ⟨mcX4_requireColumn, gwm 467 (by decide +kernel) (by decide +kernel), miX4_requireColumn, msX4_requireColumn, inX4, by decide +kernel⟩
theorem lkX4_141 : LkV RX4 141 yX4_requireSlope cdX4_requireSlope 1 := ⟨mcX4_requireSlope, gwm 446 (by decide +kernel) (by decide +kernel), miX4_requireSlope, msX4_requireSlope, inX4, by decide +kernel⟩
theorem lkX4_144 : LkS RX4 144 yX4_treeOffset cdX4_treeOffset 3 := ⟨mcX4_treeOffset, gwm 325 (by decide +kernel) (by decide +kernel), mtX4_treeOffset, inX4, by decide +kernel⟩
theorem lkX4_147 : LkS RX4 147 yX4_greatestBend cdX4_greatestBend 2 := ⟨mcX4_greatestBend, gwm 322 (by decide +kernel) (by decide +kernel), mtX4_greatestBend, inX4, by decide +kernel⟩
theorem lkX4_150 : LkV RX4 150 yX4_straightSum cdX4_straightSum 2 := ⟨mcX4_straightSum, gwm 524 (by decide +kernel) (by decide +kernel), miX4_straightSum, msX4_straightSum, inX4, by decide +kernel⟩
theorem lkX4_167 : LkS RX4 167 yX4_requireWidth cdX4_requireWidth 1 := ⟨mcX4_requireWidth, gwm 542 (by decide +kernel) (by decide +kernel), mtX4_requireWidth, inX4, by decide +kernel⟩
theorem lkX4_179 : LkM RX4 179 Lib.MathLoose.max_long.x (.code Lib.MathLoose.max_long.x Lib.MathLoose.max_long.code 4 (some .long)) := ⟨gwm 570 (by decide +kernel) (by decide +kernel), gwm 571 (by decide +kernel) (by decide +kernel), gwm 14 (by decide +kernel) (by decide +kernel), gwm 572 (by decide +kernel) (by decide +kernel)⟩
theorem lkX4_210 : LkV RX4 210 yX4_count cdX4_count 1 := ⟨mcX4_count, gwm 224 (by decide +kernel) (by decide +kernel), miX4_count, msX4_count, inX4, by decide +kernel⟩
theorem lkX4_213 : LkS RX4 213 yX4_mix cdX4_mix 2 := ⟨mcX4_mix, gwm 300 (by decide +kernel) (by decide +kernel), mtX4_mix, inX4, by decide +kernel⟩
theorem lkX4_216 : LkV RX4 216 yX4_mixChannels cdX4_mixChannels 1 := ⟨mcX4_mixChannels, gwm 304 (by decide +kernel) (by decide +kernel), miX4_mixChannels, msX4_mixChannels, inX4, by decide +kernel⟩
theorem lkX4_220 : LkV RX4 220 yX4_mixColumns cdX4_mixColumns 1 := ⟨mcX4_mixColumns, gwm 313 (by decide +kernel) (by decide +kernel), miX4_mixColumns, msX4_mixColumns, inX4, by decide +kernel⟩
theorem lkX4_223 : LkV RX4 223 yX4_mixSlopes cdX4_mixSlopes 1 := ⟨mcX4_mixSlopes, gwm 318 (by decide +kernel) (by decide +kernel), miX4_mixSlopes, msX4_mixSlopes, inX4, by decide +kernel⟩
theorem lkX4_226 : LkV RX4 226 yX4_mixCandidates cdX4_mixCandidates 1 := ⟨mcX4_mixCandidates, gwm 337 (by decide +kernel) (by decide +kernel), miX4_mixCandidates, msX4_mixCandidates, inX4, by decide +kernel⟩
theorem lkX4_229 : LkV RX4 229 yX4_mixText cdX4_mixText 1 := ⟨mcX4_mixText, gwm 361 (by decide +kernel) (by decide +kernel), miX4_mixText, msX4_mixText, inX4, by decide +kernel⟩
theorem lkX4_234 : LkV RX4 234 yX4_candidate cdX4_candidate 2 := ⟨mcX4_candidate, gwm 341 (by decide +kernel) (by decide +kernel), miX4_candidate, msX4_candidate, inX4, by decide +kernel⟩
theorem lkX4_252 : LkM RX4 252 Lib.Math.abs.name (.code Lib.Math.abs.name Lib.Math.abs.code 1 (some .int)) := ⟨gwm 331 (by decide +kernel) (by decide +kernel), gwm 332 (by decide +kernel) (by decide +kernel), gwm 14 (by decide +kernel) (by decide +kernel), gwm 333 (by decide +kernel) (by decide +kernel)⟩
theorem lkX4_255 : LkM RX4 255 Lib.Math.max.name (.code Lib.Math.max.name Lib.Math.max.code 2 (some .int)) := ⟨gwm 334 (by decide +kernel) (by decide +kernel), gwm 213 (by decide +kernel) (by decide +kernel), gwm 14 (by decide +kernel) (by decide +kernel), gwm 214 (by decide +kernel) (by decide +kernel)⟩
theorem lkX4_52 : LkV RX4 52 yX4_forgetResults cdX4_forgetResults 0 := ⟨mcX4_forgetResults, gwm 165 (by decide +kernel) (by decide +kernel), miX4_forgetResults, msX4_forgetResults, inX4, by decide +kernel⟩
theorem lkX4_55 : LkV RX4 55 yX4_requireChannel cdX4_requireChannel 1 := ⟨mcX4_requireChannel, gwm 386 (by decide +kernel) (by decide +kernel), miX4_requireChannel, msX4_requireChannel, inX4, by decide +kernel⟩
theorem lkX4_97 : LkV RX4 97 yX4_requireLines cdX4_requireLines 3 := ⟨mcX4_requireLines, gwm 442 (by decide +kernel) (by decide +kernel), miX4_requireLines, msX4_requireLines, inX4, by decide +kernel⟩
theorem lkL_102 : LkV RL 102 yX5_advance cdX5_advance 0 := ⟨mcX5_advance, gwm 692 (by decide +kernel) (by decide +kernel), miX5_advance, msX5_advance, inX5, by decide +kernel⟩
theorem lkL_105 : LkV RL 105 yX5_append cdX5_append 1 := ⟨mcX5_append, gwm 700 (by decide +kernel) (by decide +kernel), miX5_append, msX5_append, inX5, by decide +kernel⟩
theorem lkL_106 : LkV RL 106 yX4_clearInput cdX4_clearInput 0 := ⟨mcX4_clearInput, gwm 169 (by decide +kernel) (by decide +kernel), miX4_clearInput, msX4_clearInput, inX4, by decide +kernel⟩
theorem lkL_109 : LkV RL 109 yX5_clearInput cdX5_clearInput 0 := ⟨mcX5_clearInput, gwm 704 (by decide +kernel) (by decide +kernel), miX5_clearInput, msX5_clearInput, inX5, by decide +kernel⟩
theorem lkL_110 : LkV RL 110 yX4_firstError cdX4_firstError 0 := ⟨mcX4_firstError, gwm 173 (by decide +kernel) (by decide +kernel), miX4_firstError, msX4_firstError, inX4, by decide +kernel⟩
theorem lkL_113 : LkV RL 113 yX5_firstError cdX5_firstError 0 := ⟨mcX5_firstError, gwm 708 (by decide +kernel) (by decide +kernel), miX5_firstError, msX5_firstError, inX5, by decide +kernel⟩
theorem lkL_117 : LkV RL 117 yX5_load cdX5_load 0 := ⟨mcX5_load, gwm 719 (by decide +kernel) (by decide +kernel), miX5_load, msX5_load, inX5, by decide +kernel⟩
theorem lkL_121 : LkV RL 121 yX5_inject cdX5_inject 3 := ⟨mcX5_inject, gwm 751 (by decide +kernel) (by decide +kernel), miX5_inject, msX5_inject, inX5, by decide +kernel⟩
theorem lkL_124 : LkV RL 124 yX5_power cdX5_power 2 := ⟨mcX5_power, gwm 759 (by decide +kernel) (by decide +kernel), miX5_power, msX5_power, inX5, by decide +kernel⟩
theorem lkL_127 : LkV RL 127 yX5_count cdX5_count 1 := ⟨mcX5_count, gwm 763 (by decide +kernel) (by decide +kernel), miX5_count, msX5_count, inX5, by decide +kernel⟩
theorem lkL_131 : LkV RL 131 yX5_setMasked cdX5_setMasked 2 := ⟨mcX5_setMasked, gwm 774 (by decide +kernel) (by decide +kernel), miX5_setMasked, msX5_setMasked, inX5, by decide +kernel⟩
theorem lkL_134 : LkV RL 134 yX5_channelSum cdX5_channelSum 1 := ⟨mcX5_channelSum, gwm 782 (by decide +kernel) (by decide +kernel), miX5_channelSum, msX5_channelSum, inX5, by decide +kernel⟩
theorem lkL_137 : LkV RL 137 yX5_strike cdX5_strike 1 := ⟨mcX5_strike, gwm 790 (by decide +kernel) (by decide +kernel), miX5_strike, msX5_strike, inX5, by decide +kernel⟩
theorem lkL_141 : LkV RL 141 yX5_offset cdX5_offset 3 := ⟨mcX5_offset, gwm 723 (by decide +kernel) (by decide +kernel), miX5_offset, msX5_offset, inX5, by decide +kernel⟩
theorem lkL_144 : LkV RL 144 yX5_bend cdX5_bend 1 := ⟨mcX5_bend, gwm 743 (by decide +kernel) (by decide +kernel), miX5_bend, msX5_bend, inX5, by decide +kernel⟩
theorem lkL_147 : LkV RL 147 yX5_lineSum cdX5_lineSum 3 := ⟨mcX5_lineSum, gwm 794 (by decide +kernel) (by decide +kernel), miX5_lineSum, msX5_lineSum, inX5, by decide +kernel⟩
theorem lkL_15 : LkV RL 15 yX4_setPending cdX4_setPending 2 := ⟨mcX4_setPending, gwm 382 (by decide +kernel) (by decide +kernel), miX4_setPending, msX4_setPending, inX4, by decide +kernel⟩
theorem lkL_151 : LkV RL 151 yX5_mean cdX5_mean 1 := ⟨mcX5_mean, gwm 810 (by decide +kernel) (by decide +kernel), miX5_mean, msX5_mean, inX5, by decide +kernel⟩
theorem lkL_154 : LkV RL 154 yX5_boxSum cdX5_boxSum 3 := ⟨mcX5_boxSum, gwm 818 (by decide +kernel) (by decide +kernel), miX5_boxSum, msX5_boxSum, inX5, by decide +kernel⟩
theorem lkL_157 : LkV RL 157 yX5_score cdX5_score 3 := ⟨mcX5_score, gwm 830 (by decide +kernel) (by decide +kernel), miX5_score, msX5_score, inX5, by decide +kernel⟩
theorem lkL_163 : LkV RL 163 yX5_find cdX5_find 2 := ⟨mcX5_find, gwm 839 (by decide +kernel) (by decide +kernel), miX5_find, msX5_find, inX5, by decide +kernel⟩
theorem lkL_166 : LkV RL 166 yX5_candidate cdX5_candidate 2 := ⟨mcX5_candidate, gwm 855 (by decide +kernel) (by decide +kernel), miX5_candidate, msX5_candidate, inX5, by decide +kernel⟩
theorem lkL_169 : LkV RL 169 yX5_candidateAt cdX5_candidateAt 1 := ⟨mcX5_candidateAt, gwm 863 (by decide +kernel) (by decide +kernel), miX5_candidateAt, msX5_candidateAt, inX5, by decide +kernel⟩
theorem lkL_170 : LkV RL 170 yX4_digest cdX4_digest 0 := ⟨mcX4_digest, gwm 184 (by decide +kernel) (by decide +kernel), miX4_digest, msX4_digest, inX4, by decide +kernel⟩
theorem lkL_174 : LkV RL 174 yX5_digest cdX5_digest 0 := ⟨mcX5_digest, gwm 867 (by decide +kernel) (by decide +kernel), miX5_digest, msX5_digest, inX5, by decide +kernel⟩
theorem lkL_21 : LkV RL 21 yX4_append cdX4_append 1 := ⟨mcX4_append, gwm 396 (by decide +kernel) (by decide +kernel), miX4_append, msX4_append, inX4, by decide +kernel⟩
theorem lkL_26 : LkV RL 26 yX4_load cdX4_load 0 := ⟨mcX4_load, gwm 420 (by decide +kernel) (by decide +kernel), miX4_load, msX4_load, inX4, by decide +kernel⟩
theorem lkL_30 : LkV RL 30 yX4_inject cdX4_inject 3 := ⟨mcX4_inject, gwm 438 (by decide +kernel) (by decide +kernel), miX4_inject, msX4_inject, inX4, by decide +kernel⟩
theorem lkL_34 : LkV RL 34 yX4_power cdX4_power 2 := ⟨mcX4_power, gwm 463 (by decide +kernel) (by decide +kernel), miX4_power, msX4_power, inX4, by decide +kernel⟩
theorem lkL_37 : LkV RL 37 yX4_count cdX4_count 1 := ⟨mcX4_count, gwm 475 (by decide +kernel) (by decide +kernel), miX4_count, msX4_count, inX4, by decide +kernel⟩
theorem lkL_40 : LkV RL 40 yX4_setMasked cdX4_setMasked 2 := ⟨mcX4_setMasked, gwm 479 (by decide +kernel) (by decide +kernel), miX4_setMasked, msX4_setMasked, inX4, by decide +kernel⟩
theorem lkL_44 : LkV RL 44 yX4_channelSum cdX4_channelSum 1 := ⟨mcX4_channelSum, gwm 486 (by decide +kernel) (by decide +kernel), miX4_channelSum, msX4_channelSum, inX4, by decide +kernel⟩
theorem lkL_47 : LkV RL 47 yX4_strike cdX4_strike 1 := ⟨mcX4_strike, gwm 493 (by decide +kernel) (by decide +kernel), miX4_strike, msX4_strike, inX4, by decide +kernel⟩
theorem lkL_50 : LkV RL 50 yX4_offset cdX4_offset 3 := ⟨mcX4_offset, gwm 506 (by decide +kernel) (by decide +kernel), miX4_offset, msX4_offset, inX4, by decide +kernel⟩
theorem lkL_54 : LkV RL 54 yX4_bend cdX4_bend 1 := ⟨mcX4_bend, gwm 513 (by decide +kernel) (by decide +kernel), miX4_bend, msX4_bend, inX4, by decide +kernel⟩
theorem lkL_57 : LkV RL 57 yX4_lineSum cdX4_lineSum 3 := ⟨mcX4_lineSum, gwm 520 (by decide +kernel) (by decide +kernel), miX4_lineSum, msX4_lineSum, inX4, by decide +kernel⟩
theorem lkL_60 : LkV RL 60 yX4_mean cdX4_mean 1 := ⟨mcX4_mean, gwm 531 (by decide +kernel) (by decide +kernel), miX4_mean, msX4_mean, inX4, by decide +kernel⟩
theorem lkL_64 : LkV RL 64 yX4_boxSum cdX4_boxSum 3 := ⟨mcX4_boxSum, gwm 538 (by decide +kernel) (by decide +kernel), miX4_boxSum, msX4_boxSum, inX4, by decide +kernel⟩
theorem lkL_67 : LkV RL 67 yX4_score cdX4_score 3 := ⟨mcX4_score, gwm 553 (by decide +kernel) (by decide +kernel), miX4_score, msX4_score, inX4, by decide +kernel⟩
theorem lkL_7 : LkV RL 7 yX4_setChannels cdX4_setChannels 1 := ⟨mcX4_setChannels, gwm 369 (by decide +kernel) (by decide +kernel), miX4_setChannels, msX4_setChannels, inX4, by decide +kernel⟩
theorem lkL_71 : LkV RL 71 yX4_find cdX4_find 2 := ⟨mcX4_find, gwm 565 (by decide +kernel) (by decide +kernel), miX4_find, msX4_find, inX4, by decide +kernel⟩
theorem lkL_75 : LkV RL 75 yX4_candidate cdX4_candidate 2 := ⟨mcX4_candidate, gwm 596 (by decide +kernel) (by decide +kernel), miX4_candidate, msX4_candidate, inX4, by decide +kernel⟩
theorem lkL_79 : LkV RL 79 yX4_candidateAt cdX4_candidateAt 1 := ⟨mcX4_candidateAt, gwm 600 (by decide +kernel) (by decide +kernel), miX4_candidateAt, msX4_candidateAt, inX4, by decide +kernel⟩
theorem lkL_91 : LkV RL 91 yX5_setChannels cdX5_setChannels 1 := ⟨mcX5_setChannels, gwm 673 (by decide +kernel) (by decide +kernel), miX5_setChannels, msX5_setChannels, inX5, by decide +kernel⟩
theorem lkL_92 : LkV RL 92 yX5_thrown cdX5_thrown 0 := ⟨mcX5_thrown, gwm 669 (by decide +kernel) (by decide +kernel), miX5_thrown, msX5_thrown, inX5, by decide +kernel⟩
theorem lkL_98 : LkV RL 98 yX5_setPending cdX5_setPending 2 := ⟨mcX5_setPending, gwm 681 (by decide +kernel) (by decide +kernel), miX5_setPending, msX5_setPending, inX5, by decide +kernel⟩
theorem lkL_99 : LkV RL 99 yX4_advance cdX4_advance 0 := ⟨mcX4_advance, gwm 150 (by decide +kernel) (by decide +kernel), miX4_advance, msX4_advance, inX4, by decide +kernel⟩
theorem lkX5_102 : LkV RX5 102 yX5_countOf cdX5_countOf 1 := ⟨mcX5_countOf, gwm 767 (by decide +kernel) (by decide +kernel), miX5_countOf, msX5_countOf, inX5, by decide +kernel⟩
theorem lkX5_105 : LkV RX5 105 yX5_isMasked cdX5_isMasked 1 := ⟨mcX5_isMasked, gwm 778 (by decide +kernel) (by decide +kernel), miX5_isMasked, msX5_isMasked, inX5, by decide +kernel⟩
theorem lkX5_108 : LkV RX5 108 yX5_sumOf cdX5_sumOf 1 := ⟨mcX5_sumOf, gwm 786 (by decide +kernel) (by decide +kernel), miX5_sumOf, msX5_sumOf, inX5, by decide +kernel⟩
theorem lkX5_111 : LkV RX5 111 yX5_linesOf cdX5_linesOf 1 := ⟨mcX5_linesOf, gwm 802 (by decide +kernel) (by decide +kernel), miX5_linesOf, msX5_linesOf, inX5, by decide +kernel⟩
theorem lkX5_114 : LkV RX5 114 yX5_isBox cdX5_isBox 3 := ⟨mcX5_isBox, gwm 798 (by decide +kernel) (by decide +kernel), miX5_isBox, msX5_isBox, inX5, by decide +kernel⟩
theorem lkX5_117 : LkV RX5 117 yX5_lineBy cdX5_lineBy 3 := ⟨mcX5_lineBy, gwm 806 (by decide +kernel) (by decide +kernel), miX5_lineBy, msX5_lineBy, inX5, by decide +kernel⟩
theorem lkX5_120 : LkV RX5 120 yX5_sumOfLines cdX5_sumOfLines 1 := ⟨mcX5_sumOfLines, gwm 814 (by decide +kernel) (by decide +kernel), miX5_sumOfLines, msX5_sumOfLines, inX5, by decide +kernel⟩
theorem lkX5_134 : LkV RX5 134 yX5_boxBy cdX5_boxBy 2 := ⟨mcX5_boxBy, gwm 826 (by decide +kernel) (by decide +kernel), miX5_boxBy, msX5_boxBy, inX5, by decide +kernel⟩
theorem lkX5_139 : LkV RX5 139 yX5_layLines cdX5_layLines 1 := ⟨mcX5_layLines, gwm 822 (by decide +kernel) (by decide +kernel), miX5_layLines, msX5_layLines, inX5, by decide +kernel⟩
theorem lkX5_143 : LkV RX5 143 yX5_scoreBy cdX5_scoreBy 2 := ⟨mcX5_scoreBy, gwm 834 (by decide +kernel) (by decide +kernel), miX5_scoreBy, msX5_scoreBy, inX5, by decide +kernel⟩
theorem lkX5_147 : LkV RX5 147 yX5_isApart cdX5_isApart 2 := ⟨mcX5_isApart, gwm 851 (by decide +kernel) (by decide +kernel), miX5_isApart, msX5_isApart, inX5, by decide +kernel⟩
theorem lkX5_151 : LkV RX5 151 yX5_lookThrough cdX5_lookThrough 3 := ⟨mcX5_lookThrough, gwm 847 (by decide +kernel) (by decide +kernel), miX5_lookThrough, msX5_lookThrough, inX5, by decide +kernel⟩
theorem lkX5_155 : LkV RX5 155 yX5_findNext cdX5_findNext 2 := ⟨mcX5_findNext, gwm 843 (by decide +kernel) (by decide +kernel), miX5_findNext, msX5_findNext, inX5, by decide +kernel⟩
theorem lkX5_159 : LkV RX5 159 yX5_told cdX5_told 2 := ⟨mcX5_told, gwm 859 (by decide +kernel) (by decide +kernel), miX5_told, msX5_told, inX5, by decide +kernel⟩
theorem lkX5_167 : LkV RX5 167 yX5_mix cdX5_mix 1 := ⟨mcX5_mix, gwm 872 (by decide +kernel) (by decide +kernel), miX5_mix, msX5_mix, inX5, by decide +kernel⟩
theorem lkX5_173 : LkV RX5 173 yX5_mixData cdX5_mixData 0 := ⟨mcX5_mixData, gwm 877 (by decide +kernel) (by decide +kernel), miX5_mixData, msX5_mixData, inX5, by decide +kernel⟩
theorem lkX5_42 : LkS RX5 42 yX5_within cdX5_within 3 := ⟨mcX5_within, gwm 689 (by decide +kernel) (by decide +kernel), mtX5_within, inX5, by decide +kernel⟩
theorem lkX5_58 : LkV RX5 58 yX5_clearPending cdX5_clearPending 0 := ⟨mcX5_clearPending, gwm 677 (by decide +kernel) (by decide +kernel), miX5_clearPending, msX5_clearPending, inX5, by decide +kernel⟩
theorem lkX5_61 : LkV RX5 61 yX5_isChannel cdX5_isChannel 1 := ⟨mcX5_isChannel, gwm 685 (by decide +kernel) (by decide +kernel), miX5_isChannel, msX5_isChannel, inX5, by decide +kernel⟩
theorem lkX5_65 : LkV RX5 65 yX5_begin cdX5_begin 0 := ⟨mcX5_begin, gwm 696 (by decide +kernel) (by decide +kernel), miX5_begin, msX5_begin, inX5, by decide +kernel⟩
theorem lkX5_71 : LkS RX5 71 yX5_powerOf cdX5_powerOf 1 := ⟨mcX5_powerOf, gwm 716 (by decide +kernel) (by decide +kernel), mtX5_powerOf, inX5, by decide +kernel⟩
theorem lkX5_75 : LkV RX5 75 yX5_rightLength cdX5_rightLength 0 := ⟨mcX5_rightLength, gwm 712 (by decide +kernel) (by decide +kernel), miX5_rightLength, msX5_rightLength, inX5, by decide +kernel⟩
theorem lkX5_79 : LkV RX5 79 yX5_straightOffset cdX5_straightOffset 2 := ⟨mcX5_straightOffset, gwm 735 (by decide +kernel) (by decide +kernel), miX5_straightOffset, msX5_straightOffset, inX5, by decide +kernel⟩
theorem lkX5_83 : LkV RX5 83 yX5_treeOffset cdX5_treeOffset 2 := ⟨mcX5_treeOffset, gwm 739 (by decide +kernel) (by decide +kernel), miX5_treeOffset, msX5_treeOffset, inX5, by decide +kernel⟩
theorem lkX5_86 : LkV RX5 86 yX5_isSlope cdX5_isSlope 1 := ⟨mcX5_isSlope, gwm 727 (by decide +kernel) (by decide +kernel), miX5_isSlope, msX5_isSlope, inX5, by decide +kernel⟩
theorem lkX5_89 : LkV RX5 89 yX5_offsetBy cdX5_offsetBy 3 := ⟨mcX5_offsetBy, gwm 731 (by decide +kernel) (by decide +kernel), miX5_offsetBy, msX5_offsetBy, inX5, by decide +kernel⟩
theorem lkX5_93 : LkV RX5 93 yX5_bendOf cdX5_bendOf 1 := ⟨mcX5_bendOf, gwm 747 (by decide +kernel) (by decide +kernel), miX5_bendOf, msX5_bendOf, inX5, by decide +kernel⟩
theorem lkX5_96 : LkV RX5 96 yX5_isColumn cdX5_isColumn 1 := ⟨mcX5_isColumn, gwm 755 (by decide +kernel) (by decide +kernel), miX5_isColumn, msX5_isColumn, inX5, by decide +kernel⟩
theorem lkX5_99 : LkS RX5 99 yX5_ones cdX5_ones 1 := ⟨mcX5_ones, gwm 771 (by decide +kernel) (by decide +kernel), mtX5_ones, inX5, by decide +kernel⟩
theorem lkX0_42 : LkVN RX0 42 yX2_linesOf cdX2_linesOf 1 := ⟨mcX2_linesOf, nwm 585 (by decide +kernel) (by decide +kernel), miX2_linesOf, msX2_linesOf, inX2, by decide +kernel⟩
theorem lkX0_59 : LkVN RX0 59 yX2_sumAt cdX2_sumAt 2 := ⟨mcX2_sumAt, nwm 591 (by decide +kernel) (by decide +kernel), miX2_sumAt, msX2_sumAt, inX2, by decide +kernel⟩
theorem lkX0_62 : LkVN RX0 62 yX2_scoreOf cdX2_scoreOf 3 := ⟨mcX2_scoreOf, nwm 592 (by decide +kernel) (by decide +kernel), miX2_scoreOf, msX2_scoreOf, inX2, by decide +kernel⟩
theorem lkX1_47 : LkSN RX1 47 yX3_powerOf cdX3_powerOf 1 := ⟨mcX3_powerOf, nwm 434 (by decide +kernel) (by decide +kernel), mtX3_powerOf, inX3, by decide +kernel⟩
theorem lkX2_63 : LkVN RX2 63 yX1_powerAt cdX1_powerAt 2 := ⟨mcX1_powerAt, nwm 196 (by decide +kernel) (by decide +kernel), miX1_powerAt, msX1_powerAt, inX1, by decide +kernel⟩
theorem lkX4_107 : LkVN RX4 107 yX1_raise cdX1_raise 3 := ⟨mcX1_raise, nwm 453 (by decide +kernel) (by decide +kernel), miX1_raise, msX1_raise, inX1, by decide +kernel⟩
theorem lkX4_113 : LkVN RX4 113 yX1_powerAt cdX1_powerAt 2 := ⟨mcX1_powerAt, nwm 317 (by decide +kernel) (by decide +kernel), miX1_powerAt, msX1_powerAt, inX1, by decide +kernel⟩
theorem lkX4_120 : LkVN RX4 120 yX1_countMasked cdX1_countMasked 0 := ⟨mcX1_countMasked, nwm 228 (by decide +kernel) (by decide +kernel), miX1_countMasked, msX1_countMasked, inX1, by decide +kernel⟩
theorem lkX4_132 : LkVN RX4 132 yX1_sumOfChannel cdX1_sumOfChannel 1 := ⟨mcX1_sumOfChannel, nwm 308 (by decide +kernel) (by decide +kernel), miX1_sumOfChannel, msX1_sumOfChannel, inX1, by decide +kernel⟩
theorem lkX4_138 : LkVN RX4 138 yX1_loudestUnmasked cdX1_loudestUnmasked 0 := ⟨mcX1_loudestUnmasked, nwm 498 (by decide +kernel) (by decide +kernel), miX1_loudestUnmasked, msX1_loudestUnmasked, inX1, by decide +kernel⟩
theorem lkX4_153 : LkVN RX4 153 yX2_refresh cdX2_refresh 1 := ⟨mcX2_refresh, nwm 188 (by decide +kernel) (by decide +kernel), miX2_refresh, msX2_refresh, inX2, by decide +kernel⟩
theorem lkX4_157 : LkVN RX4 157 yX2_sumAt cdX2_sumAt 2 := ⟨mcX2_sumAt, nwm 336 (by decide +kernel) (by decide +kernel), miX2_sumAt, msX2_sumAt, inX2, by decide +kernel⟩
theorem lkX4_160 : LkVN RX4 160 yX2_linesOf cdX2_linesOf 1 := ⟨mcX2_linesOf, nwm 335 (by decide +kernel) (by decide +kernel), miX2_linesOf, msX2_linesOf, inX2, by decide +kernel⟩
theorem lkX4_170 : LkVN RX4 170 yX2_sumOfBox cdX2_sumOfBox 3 := ⟨mcX2_sumOfBox, nwm 546 (by decide +kernel) (by decide +kernel), miX2_sumOfBox, msX2_sumOfBox, inX2, by decide +kernel⟩
theorem lkX4_173 : LkVN RX4 173 yX2_scoreOf cdX2_scoreOf 3 := ⟨mcX2_scoreOf, nwm 557 (by decide +kernel) (by decide +kernel), miX2_scoreOf, msX2_scoreOf, inX2, by decide +kernel⟩
theorem lkX4_185 : LkVN RX4 185 yX0_addBest cdX0_addBest 3 := ⟨mcX0_addBest, nwm 573 (by decide +kernel) (by decide +kernel), miX0_addBest, msX0_addBest, inX0, by decide +kernel⟩
theorem lkX4_205 : LkVN RX4 205 yX0_firstWith cdX0_firstWith 1 := ⟨mcX0_firstWith, nwm 604 (by decide +kernel) (by decide +kernel), miX0_firstWith, msX0_firstWith, inX0, by decide +kernel⟩
theorem lkX4_48 : LkVN RX4 48 yX1_beginAnew cdX1_beginAnew 1 := ⟨mcX1_beginAnew, nwm 374 (by decide +kernel) (by decide +kernel), miX1_beginAnew, msX1_beginAnew, inX1, by decide +kernel⟩
theorem lkX4_64 : LkVN RX4 64 yX1_takePending cdX1_takePending 0 := ⟨mcX1_takePending, nwm 154 (by decide +kernel) (by decide +kernel), miX1_takePending, msX1_takePending, inX1, by decide +kernel⟩
theorem lkX4_83 : LkVN RX4 83 yX3_indexOfFirstError cdX3_indexOfFirstError 0 := ⟨mcX3_indexOfFirstError, nwm 177 (by decide +kernel) (by decide +kernel), miX3_indexOfFirstError, msX3_indexOfFirstError, inX3, by decide +kernel⟩
theorem lkX4_87 : LkVN RX4 87 yX3_hasWholeColumns cdX3_hasWholeColumns 1 := ⟨mcX3_hasWholeColumns, nwm 424 (by decide +kernel) (by decide +kernel), miX3_hasWholeColumns, msX3_hasWholeColumns, inX3, by decide +kernel⟩
theorem lkX4_93 : LkVN RX4 93 yX1_takeColumn cdX1_takeColumn 2 := ⟨mcX1_takeColumn, nwm 430 (by decide +kernel) (by decide +kernel), miX1_takeColumn, msX1_takeColumn, inX1, by decide +kernel⟩
theorem th_37_39 : ThOK RX4 37 39 41 "java/lang/IllegalArgumentException" "channels is not 2, 4, 8 or 16" := ⟨by decide +kernel, gwm 232 (by decide +kernel) (by decide +kernel), gwm 10 (by decide +kernel) (by decide +kernel), by decide +kernel, by decide +kernel, by decide +kernel⟩
theorem th_37_58 : ThOK RX4 37 58 41 "java/lang/IllegalArgumentException" "power is not 0 to 9999" := ⟨by decide +kernel, gwm 232 (by decide +kernel) (by decide +kernel), gwm 10 (by decide +kernel) (by decide +kernel), by decide +kernel, by decide +kernel, by decide +kernel⟩
theorem th_37_70 : ThOK RX4 37 70 41 "java/lang/IllegalArgumentException" "code is not 32 to 126" := ⟨by decide +kernel, gwm 232 (by decide +kernel) (by decide +kernel), gwm 10 (by decide +kernel) (by decide +kernel), by decide +kernel, by decide +kernel, by decide +kernel⟩
theorem th_37_101 : ThOK RX4 37 101 41 "java/lang/IllegalArgumentException" "amplitude is not 1 to 9999" := ⟨by decide +kernel, gwm 232 (by decide +kernel) (by decide +kernel), gwm 10 (by decide +kernel) (by decide +kernel), by decide +kernel, by decide +kernel, by decide +kernel⟩
theorem th_37_126 : ThOK RX4 37 126 41 "java/lang/IllegalArgumentException" "what is not 0 to 4" := ⟨by decide +kernel, gwm 232 (by decide +kernel) (by decide +kernel), gwm 10 (by decide +kernel) (by decide +kernel), by decide +kernel, by decide +kernel, by decide +kernel⟩
theorem th_37_136 : ThOK RX4 37 136 41 "java/lang/IllegalArgumentException" "many is not 0 to the number of channels" := ⟨by decide +kernel, gwm 232 (by decide +kernel) (by decide +kernel), gwm 10 (by decide +kernel) (by decide +kernel), by decide +kernel, by decide +kernel, by decide +kernel⟩
theorem th_37_177 : ThOK RX4 37 177 41 "java/lang/IllegalArgumentException" "threshold is negative" := ⟨by decide +kernel, gwm 232 (by decide +kernel) (by decide +kernel), gwm 10 (by decide +kernel) (by decide +kernel), by decide +kernel, by decide +kernel, by decide +kernel⟩
theorem th_37_244 : ThOK RX4 37 244 41 "java/lang/IllegalArgumentException" "width is not 1 to 8" := ⟨by decide +kernel, gwm 232 (by decide +kernel) (by decide +kernel), gwm 10 (by decide +kernel) (by decide +kernel), by decide +kernel, by decide +kernel, by decide +kernel⟩
theorem th_75_77 : ThOK RX4 75 77 79 "java/lang/IllegalStateException" "the buffer is full" := ⟨by decide +kernel, gwm 401 (by decide +kernel) (by decide +kernel), gwm 13 (by decide +kernel) (by decide +kernel), by decide +kernel, by decide +kernel, by decide +kernel⟩
theorem th_75_91 : ThOK RX4 75 91 79 "java/lang/IllegalStateException" "the buffer does not consist of whole columns" := ⟨by decide +kernel, gwm 401 (by decide +kernel) (by decide +kernel), gwm 13 (by decide +kernel) (by decide +kernel), by decide +kernel, by decide +kernel, by decide +kernel⟩
theorem th_189_191 : ThOK RX4 189 191 193 "java/lang/IndexOutOfBoundsException" "no such candidate" := ⟨by decide +kernel, gwm 345 (by decide +kernel) (by decide +kernel), gwm 11 (by decide +kernel) (by decide +kernel), by decide +kernel, by decide +kernel, by decide +kernel⟩
theorem th_189_238 : ThOK RX4 189 238 193 "java/lang/IndexOutOfBoundsException" "no such channel" := ⟨by decide +kernel, gwm 345 (by decide +kernel) (by decide +kernel), gwm 11 (by decide +kernel) (by decide +kernel), by decide +kernel, by decide +kernel, by decide +kernel⟩
theorem th_189_240 : ThOK RX4 189 240 193 "java/lang/IndexOutOfBoundsException" "no such column" := ⟨by decide +kernel, gwm 345 (by decide +kernel) (by decide +kernel), gwm 11 (by decide +kernel) (by decide +kernel), by decide +kernel, by decide +kernel, by decide +kernel⟩
theorem th_189_242 : ThOK RX4 189 242 193 "java/lang/IndexOutOfBoundsException" "no such slope" := ⟨by decide +kernel, gwm 345 (by decide +kernel) (by decide +kernel), gwm 11 (by decide +kernel) (by decide +kernel), by decide +kernel, by decide +kernel, by decide +kernel⟩
theorem th_189_246 : ThOK RX4 189 246 193 "java/lang/IndexOutOfBoundsException" "no such line" := ⟨by decide +kernel, gwm 345 (by decide +kernel) (by decide +kernel), gwm 11 (by decide +kernel) (by decide +kernel), by decide +kernel, by decide +kernel, by decide +kernel⟩
end
section
/-! the two worlds: the class's (18 cells) and the reference's (9 cells), in numbers -/
def WX (E : ET) (ad : Nat → Nat) (n t dr : Nat) (pw pe : Nat → Nat) (mk : Nat → Bool) (len : Nat) (cod : Nat → Nat) (fr : Bool) (ls lc u v : Nat) (su sp : Nat → Nat) (tot spr : Nat → Int64) (mm : Nat) (fs fc fw : Nat → Nat) (sc : Nat → Int64) (fe : Nat → Nat) : va_W :=
  [(ad 0, .inr (4, [.ref (ad 1), .ref (ad 2), .ref (ad 3), .ref (ad 4)])),
   (ad 1, .inr (1, [.int (nI n), .int (nI t), .int (nI dr), .ref (ad 5), .ref (ad 6), .ref (ad 7)])),
   (ad 2, .inr (3, [.int (nI len), .ref (ad 8)])),
   (ad 3, .inr (2, [.int (bI fr), .int (nI ls), .int (nI lc), .ref u, .ref v, .ref (ad 9), .ref (ad 10)])),
   (ad 4, .inr (0, [.int (nI mm), .ref (ad 11), .ref (ad 12), .ref (ad 13), .ref (ad 14), .ref (ad 15)])),
   (ad 5, .inl (E.2.2 0, 768, .inl (fun q => nI (pw q)))),
   (ad 6, .inl (E.2.2 0, 16, .inl (fun q => nI (pe q)))),
   (ad 7, .inl (E.2.2 2, 16, .inl (fun q => bI (mk q)))),
   (ad 8, .inl (E.2.2 0, 64, .inl (fun q => nI (cod q)))),
   (ad 9, .inl (E.2.2 1, 16, .inr (.inl tot))),
   (ad 10, .inl (E.2.2 1, 16, .inr (.inl spr))),
   (ad 11, .inl (E.2.2 0, 8, .inl (fun q => nI (fs q)))),
   (ad 12, .inl (E.2.2 0, 8, .inl (fun q => nI (fc q)))),
   (ad 13, .inl (E.2.2 0, 8, .inl (fun q => nI (fw q)))),
   (ad 14, .inl (E.2.2 1, 8, .inr (.inl sc))),
   (ad 15, .inl (E.2.2 0, 48, .inl (fun q => nI (fe q)))),
   (u, .inl (E.2.2 0, 768, .inl (fun q => nI (su q)))),
   (v, .inl (E.2.2 0, 768, .inl (fun q => nI (sp q))))]
def WM (E : ET) (ad : Nat → Nat) (th n t dr ms : Nat) (pe pw : Nat → Nat) (len : Nat) (cod : Nat → Nat) (mm : Nat) (fs fc fw : Nat → Nat) (sc : Nat → Int64) (li : Nat → Nat) (lm ls lq hs : Int64) : va_W :=
  [(ad 0, .inr (5, [.int (nI th), .int (nI n), .int (nI t), .int (nI dr), .int (nI ms), .ref (ad 1), .ref (ad 2), .int (nI len), .ref (ad 3), .int (nI mm), .ref (ad 4), .ref (ad 5), .ref (ad 6), .ref (ad 7), .ref (ad 8), .long lm, .long ls, .long lq, .long hs])),
   (ad 1, .inl (E.2.2 0, 16, .inl (fun q => nI (pe q)))),
   (ad 2, .inl (E.2.2 0, 768, .inl (fun q => nI (pw q)))),
   (ad 3, .inl (E.2.2 0, 64, .inl (fun q => nI (cod q)))),
   (ad 4, .inl (E.2.2 0, 8, .inl (fun q => nI (fs q)))),
   (ad 5, .inl (E.2.2 0, 8, .inl (fun q => nI (fc q)))),
   (ad 6, .inl (E.2.2 0, 8, .inl (fun q => nI (fw q)))),
   (ad 7, .inl (E.2.2 1, 8, .inr (.inl sc))),
   (ad 8, .inl (E.2.2 0, 48, .inl (fun q => nI (li q))))]
abbrev rmL (j : Nat) : Room := { frames := j, cells := 0, slots := 0, locals := 34 * j }
abbrev rmT (j : Nat) : Room := { frames := j, cells := 1, slots := 6, locals := 34 * j }
/-- comes back with r and the world w' -/
def pR (r : Option Value) (w' : va_W) : Option Value → va_W → Prop := fun r2 u => r2 = r ∧ u = w'
/-- throws X, the world as it was -/
def pX (X : String) (w' : va_W) : String → va_W → Prop := fun X2 u => X2 = X ∧ u = w'
section VD
variable {E : ET} {G : GT} {cc : ByteArray} {own : String} {R0 : Room} {tb : List ExceptionTableEntry} {k n pc : Nat} {lv : List (Nat × Value)} {st stk : List Value} {w w' : va_W} {r : Option Value}
variable {y : MethodName} {bytes : ByteArray} {maxL index a ci : Nat} {ret : Option FieldType} {rm : Room} {As : List Value} {fs : List Value} {T : u_T} {N : Nat} {X : String} {mc ms : Nat}
theorem v_V (O : OKG E G cc own R0 tb) (d : decode cc pc = .ok (.invokevirtual index, 3)) (Lk : LkV own index y (.code y bytes maxL ret) As.length) (M : Ctr E y (.code y bytes maxL ret) rm (.ref a :: As) w (pR r w') noX 0 0) (q0 : Nat) (he : w[q0]? = some (a, .inr (ci, fs))) (hc : vwCl[ci]? = some (y.cls, T, N)) (hst : stk = As.reverse ++ .ref a :: st) (hW : Nat.ble (st.map fun v => v.category).sum 8 = true) (hR : rmOK rm R0 maxL 0 0 0 0 = true) (hk : k ≤ R0.cells) (hn : n ≤ R0.slots)
    (kk : V E G k n (pc + 3) lv (r.toList ++ st) w') : V E G k n pc lv stk w :=
  v_callV O d Lk M q0 he hc hst hW (by
    obtain ⟨r1, r2, r3, r4, -, -⟩ := rmOK_spec hR
    simp only [rmOK, Bool.and_eq_true, beq_iff_eq, Nat.ble_eq]
    exact ⟨r1, r2, r3, r4, hk, hn⟩) (fun r2 u h => by obtain ⟨rfl, rfl⟩ := h; exact kk) kx_no
theorem v_VN (O : OKG E G cc own R0 tb) (d : decode cc pc = .ok (.invokevirtual index, 3)) (Lk : LkVN own index y (.code y bytes maxL ret) As.length) (M : Ctr E y (.code y bytes maxL ret) rm (.ref a :: As) w (pR r w') noX 0 0) (q0 : Nat) (he : w[q0]? = some (a, .inr (ci, fs))) (hc : vwCl[ci]? = some (y.cls, T, N)) (hst : stk = As.reverse ++ .ref a :: st) (hW : Nat.ble (st.map fun v => v.category).sum 8 = true) (hR : rmOK rm R0 maxL 0 0 0 0 = true) (hk : k ≤ R0.cells) (hn : n ≤ R0.slots)
    (kk : V E G k n (pc + 3) lv (r.toList ++ st) w') : V E G k n pc lv stk w :=
  v_callVN O d Lk M q0 he hc hst hW (by
    obtain ⟨r1, r2, r3, r4, -, -⟩ := rmOK_spec hR
    simp only [rmOK, Bool.and_eq_true, beq_iff_eq, Nat.ble_eq]
    exact ⟨r1, r2, r3, r4, hk, hn⟩) (fun r2 u h => by obtain ⟨rfl, rfl⟩ := h; exact kk) kx_no
theorem v_S (O : OKG E G cc own R0 tb) (d : decode cc pc = .ok (.invokestatic index, 3)) (Lk : LkS own index y (.code y bytes maxL ret) As.length) (M : Ctr E y (.code y bytes maxL ret) rm As w (pR r w') noX 0 0) (hst : stk = As.reverse ++ st) (hW : Nat.ble (st.map fun v => v.category).sum 8 = true) (hR : rmOK rm R0 maxL 0 0 0 0 = true) (hk : k ≤ R0.cells) (hn : n ≤ R0.slots)
    (kk : V E G k n (pc + 3) lv (r.toList ++ st) w') : V E G k n pc lv stk w :=
  v_callS O d Lk M hst hW (by
    obtain ⟨r1, r2, r3, r4, -, -⟩ := rmOK_spec hR
    simp only [rmOK, Bool.and_eq_true, beq_iff_eq, Nat.ble_eq]
    exact ⟨r1, r2, r3, r4, hk, hn⟩) (fun r2 u h => by obtain ⟨rfl, rfl⟩ := h; exact kk) kx_no
theorem v_SN (O : OKG E G cc own R0 tb) (d : decode cc pc = .ok (.invokestatic index, 3)) (Lk : LkSN own index y (.code y bytes maxL ret) As.length) (M : Ctr E y (.code y bytes maxL ret) rm As w (pR r w') noX 0 0) (hst : stk = As.reverse ++ st) (hW : Nat.ble (st.map fun v => v.category).sum 8 = true) (hR : rmOK rm R0 maxL 0 0 0 0 = true) (hk : k ≤ R0.cells) (hn : n ≤ R0.slots)
    (kk : V E G k n (pc + 3) lv (r.toList ++ st) w') : V E G k n pc lv stk w :=
  v_callSN O d Lk M hst hW (by
    obtain ⟨r1, r2, r3, r4, -, -⟩ := rmOK_spec hR
    simp only [rmOK, Bool.and_eq_true, beq_iff_eq, Nat.ble_eq]
    exact ⟨r1, r2, r3, r4, hk, hn⟩) (fun r2 u h => by obtain ⟨rfl, rfl⟩ := h; exact kk) kx_no
theorem v_ldc2 {v : Int64} (O : OKG E G cc own R0 tb) (d : decode cc pc = .ok (.ldc2_w index, 3)) (h : Cond.constantLong own index v ∈ GW) (kk : V E G k n (pc + 3) lv (.long v :: st) w) : V E G k n pc lv st w := by
  obtain ⟨p, R, s, m, args, below, meth, c, Q, A, nL, e⟩ := G
  obtain ⟨hx, hb, hml, hown, hts, -⟩ := O
  intro H locs ls hl hP hD hS
  exact lv_ldc2 hx hb hown (hts _ h) d (kk H locs ls hl hP hD hS)
end VD
end
section
section VD
variable {E : ET} {G : GT} {cc : ByteArray} {own : String} {R0 : Room} {tb : List ExceptionTableEntry} {k n pc : Nat} {lv : List (Nat × Value)} {st stk : List Value} {w w' : va_W} {v : Value}
variable {y : MethodName} {bytes : ByteArray} {maxL index a ci : Nat} {ret : Option FieldType} {rm : Room} {As : List Value} {fs : List Value} {T : u_T} {N : Nat} {X : String} {mc ms : Nat}
theorem v_V1 (O : OKG E G cc own R0 tb) (d : decode cc pc = .ok (.invokevirtual index, 3)) (Lk : LkV own index y (.code y bytes maxL ret) As.length) (M : Ctr E y (.code y bytes maxL ret) rm (.ref a :: As) w (pR (some v) w') noX 0 0) (q0 : Nat) (he : w[q0]? = some (a, .inr (ci, fs))) (hc : vwCl[ci]? = some (y.cls, T, N)) (hst : stk = As.reverse ++ .ref a :: st) (hW : Nat.ble (st.map fun v => v.category).sum 8 = true) (hR : rmOK rm R0 maxL 0 0 0 0 = true) (hk : k ≤ R0.cells) (hn : n ≤ R0.slots)
    (kk : V E G k n (pc + 3) lv (v :: st) w') : V E G k n pc lv stk w :=
  v_V O d Lk M q0 he hc hst hW hR hk hn kk
theorem v_V0 (O : OKG E G cc own R0 tb) (d : decode cc pc = .ok (.invokevirtual index, 3)) (Lk : LkV own index y (.code y bytes maxL ret) As.length) (M : Ctr E y (.code y bytes maxL ret) rm (.ref a :: As) w (pR none w') noX 0 0) (q0 : Nat) (he : w[q0]? = some (a, .inr (ci, fs))) (hc : vwCl[ci]? = some (y.cls, T, N)) (hst : stk = As.reverse ++ .ref a :: st) (hW : Nat.ble (st.map fun v => v.category).sum 8 = true) (hR : rmOK rm R0 maxL 0 0 0 0 = true) (hk : k ≤ R0.cells) (hn : n ≤ R0.slots)
    (kk : V E G k n (pc + 3) lv st w') : V E G k n pc lv stk w :=
  v_V O d Lk M q0 he hc hst hW hR hk hn kk
theorem v_VN1 (O : OKG E G cc own R0 tb) (d : decode cc pc = .ok (.invokevirtual index, 3)) (Lk : LkVN own index y (.code y bytes maxL ret) As.length) (M : Ctr E y (.code y bytes maxL ret) rm (.ref a :: As) w (pR (some v) w') noX 0 0) (q0 : Nat) (he : w[q0]? = some (a, .inr (ci, fs))) (hc : vwCl[ci]? = some (y.cls, T, N)) (hst : stk = As.reverse ++ .ref a :: st) (hW : Nat.ble (st.map fun v => v.category).sum 8 = true) (hR : rmOK rm R0 maxL 0 0 0 0 = true) (hk : k ≤ R0.cells) (hn : n ≤ R0.slots)
    (kk : V E G k n (pc + 3) lv (v :: st) w') : V E G k n pc lv stk w :=
  v_VN O d Lk M q0 he hc hst hW hR hk hn kk
theorem v_VN0 (O : OKG E G cc own R0 tb) (d : decode cc pc = .ok (.invokevirtual index, 3)) (Lk : LkVN own index y (.code y bytes maxL ret) As.length) (M : Ctr E y (.code y bytes maxL ret) rm (.ref a :: As) w (pR none w') noX 0 0) (q0 : Nat) (he : w[q0]? = some (a, .inr (ci, fs))) (hc : vwCl[ci]? = some (y.cls, T, N)) (hst : stk = As.reverse ++ .ref a :: st) (hW : Nat.ble (st.map fun v => v.category).sum 8 = true) (hR : rmOK rm R0 maxL 0 0 0 0 = true) (hk : k ≤ R0.cells) (hn : n ≤ R0.slots)
    (kk : V E G k n (pc + 3) lv st w') : V E G k n pc lv stk w :=
  v_VN O d Lk M q0 he hc hst hW hR hk hn kk
theorem v_S1 (O : OKG E G cc own R0 tb) (d : decode cc pc = .ok (.invokestatic index, 3)) (Lk : LkS own index y (.code y bytes maxL ret) As.length) (M : Ctr E y (.code y bytes maxL ret) rm As w (pR (some v) w') noX 0 0) (hst : stk = As.reverse ++ st) (hW : Nat.ble (st.map fun v => v.category).sum 8 = true) (hR : rmOK rm R0 maxL 0 0 0 0 = true) (hk : k ≤ R0.cells) (hn : n ≤ R0.slots)
    (kk : V E G k n (pc + 3) lv (v :: st) w') : V E G k n pc lv stk w :=
  v_S O d Lk M hst hW hR hk hn kk
theorem v_S0 (O : OKG E G cc own R0 tb) (d : decode cc pc = .ok (.invokestatic index, 3)) (Lk : LkS own index y (.code y bytes maxL ret) As.length) (M : Ctr E y (.code y bytes maxL ret) rm As w (pR none w') noX 0 0) (hst : stk = As.reverse ++ st) (hW : Nat.ble (st.map fun v => v.category).sum 8 = true) (hR : rmOK rm R0 maxL 0 0 0 0 = true) (hk : k ≤ R0.cells) (hn : n ≤ R0.slots)
    (kk : V E G k n (pc + 3) lv st w') : V E G k n pc lv stk w :=
  v_S O d Lk M hst hW hR hk hn kk
theorem v_SN1 (O : OKG E G cc own R0 tb) (d : decode cc pc = .ok (.invokestatic index, 3)) (Lk : LkSN own index y (.code y bytes maxL ret) As.length) (M : Ctr E y (.code y bytes maxL ret) rm As w (pR (some v) w') noX 0 0) (hst : stk = As.reverse ++ st) (hW : Nat.ble (st.map fun v => v.category).sum 8 = true) (hR : rmOK rm R0 maxL 0 0 0 0 = true) (hk : k ≤ R0.cells) (hn : n ≤ R0.slots)
    (kk : V E G k n (pc + 3) lv (v :: st) w') : V E G k n pc lv stk w :=
  v_SN O d Lk M hst hW hR hk hn kk
theorem v_SN0 (O : OKG E G cc own R0 tb) (d : decode cc pc = .ok (.invokestatic index, 3)) (Lk : LkSN own index y (.code y bytes maxL ret) As.length) (M : Ctr E y (.code y bytes maxL ret) rm As w (pR none w') noX 0 0) (hst : stk = As.reverse ++ st) (hW : Nat.ble (st.map fun v => v.category).sum 8 = true) (hR : rmOK rm R0 maxL 0 0 0 0 = true) (hk : k ≤ R0.cells) (hn : n ≤ R0.slots)
    (kk : V E G k n (pc + 3) lv st w') : V E G k n pc lv stk w :=
  v_SN O d Lk M hst hW hR hk hn kk
end VD
end
section
/-- the locals by their numbers -/
theorem v_ord {E : ET} {G : GT} {k n pc : Nat} {lv : List (Nat × Value)} {st : List Value} {w : va_W} (is : List Nat) (h : V E G k n pc (is.filterMap (fun i => (ldv lv i).map (fun v => (i, v)))) st w) : V E G k n pc lv st w := by
  refine v_lv ?_ h
  intro q hq
  obtain ⟨i, -, hi⟩ := List.mem_filterMap.mp hq
  cases hl : ldv lv i with
  | none => rw [hl] at hi; cases hi
  | some v =>
    rw [hl] at hi
    obtain ⟨k, hk⟩ := ldv_mem hl
    have e : q = (i, v) := by simpa using hi.symm
    rw [e]
    exact List.mem_of_getElem? hk
def sm (f : Nat → Nat) : Nat → Nat
  | 0 => 0
  | k + 1 => sm f k + f k
/-- the sum of the channel c over t columns -/
def chs (pw : Nat → Nat) (c t : Nat) : Nat := sm (fun q => pw (q * 16 + c)) t
theorem c_powerAt {E : ET} {ad : Nat → Nat} {n t dr : Nat} {pw pe : Nat → Nat} {mk : Nat → Bool} {len : Nat} {cod : Nat → Nat} {fr : Bool} {ls lc u v : Nat} {su sp : Nat → Nat} {tot spr : Nat → Int64} {mm : Nat} {fs fc fw : Nat → Nat} {sc : Nat → Int64} {fe : Nat → Nat} {c q : Nat} (hst : E.1.stackTraces = false) (hc : c < 16) (hq : q < 48) : Ctr E yX1_powerAt cdX1_powerAt (rmL 1) [.ref (ad 1), .int (nI c), .int (nI q)] (WX E ad n t dr pw pe mk len cod fr ls lc u v su sp tot spr mm fs fc fw sc fe) (pR (some (.int (nI (pw (q * 16 + c))))) (WX E ad n t dr pw pe mk len cod fr ls lc u v su sp tot spr mm fs fc fw sc fe)) noX 0 0 := by
  refine ctr_of hst (by decide) (Nat.le_of_ble_eq_true rfl) (fun G O OR hN => ?_)
  have O : OKG E G cX1_powerAt RX1 (rmL 1) [] := O
  have hN : nLG G = 3 := hN
  refine v_aload_n O dX1_powerAt_0 rfl ?_
  refine v_get O dX1_powerAt_1 flX1_21 1 rfl rfl ?_
  refine v_iload_n O dX1_powerAt_4 rfl ?_
  refine v_bipush (v := nI 16) O dX1_powerAt_5 (by decide) ?_
  refine v_imulN O dX1_powerAt_7 ?_
  refine v_iload_n O dX1_powerAt_8 rfl ?_
  refine v_iaddN O dX1_powerAt_9 ?_
  refine v_iald O dX1_powerAt_10 5 rfl (by decide) (by omega) ?_
  exact v_ireturn O OR dX1_powerAt_11 (⟨rfl, rfl⟩) (Nat.le_of_ble_eq_true rfl) (Nat.le_of_ble_eq_true rfl)
theorem lp_sumOfChannel {E : ET} {G : GT} (O : OKG E G cX1_sumOfChannel RX1 (rmL 2) []) (hN : nLG G = 4) {ad : Nat → Nat} {n t dr : Nat} {pw pe : Nat → Nat} {mk : Nat → Bool} {len : Nat} {cod : Nat → Nat} {fr : Bool} {ls lc u v : Nat} {su sp : Nat → Nat} {tot spr : Nat → Int64} {mm : Nat} {fs fc fw : Nat → Nat} {sc : Nat → Int64} {fe : Nat → Nat} {c : Nat} (hst : E.1.stackTraces = false) (hc : c < 16) (ht : t ≤ 48) (kk : V E G 0 0 27 [(0, .ref (ad 1)), (1, .int (nI c)), (2, .int (nI (chs pw c t))), (3, .int (nI t))] [] (WX E ad n t dr pw pe mk len cod fr ls lc u v su sp tot spr mm fs fc fw sc fe)) : ∀ j q : Nat, q ≤ t → j = t - q → V E G 0 0 4 [(0, .ref (ad 1)), (1, .int (nI c)), (2, .int (nI (chs pw c q))), (3, .int (nI q))] [] (WX E ad n t dr pw pe mk len cod fr ls lc u v su sp tot spr mm fs fc fw sc fe) := by
  intro j
  induction j using Nat.strongRecOn with
  | _ j ih =>
    intro q hq hj
    refine v_iload_n O dX1_sumOfChannel_4 rfl ?_
    refine v_aload_n O dX1_sumOfChannel_5 rfl ?_
    refine v_get O dX1_sumOfChannel_6 flX1_15 1 rfl rfl ?_
    refine v_icmpN_ge (tgt := 27) O dX1_sumOfChannel_9 (by decide) (by omega) (by omega) (fun h => ?_) (fun h => ?_)
    · have e : q = t := by omega
      subst e
      exact kk
    · refine v_iload_n O dX1_sumOfChannel_12 rfl ?_
      refine v_aload_n O dX1_sumOfChannel_13 rfl ?_
      refine v_iload_n O dX1_sumOfChannel_14 rfl ?_
      refine v_iload_n O dX1_sumOfChannel_15 rfl ?_
      refine v_V1 O dX1_sumOfChannel_16 lkX1_57 (c_powerAt hst (c := c) (q := q) hc (by omega)) 1 rfl rfl rfl rfl rfl (by first | exact hkc | exact Nat.zero_le _) (by first | exact hks | exact Nat.zero_le _) ?_
      refine v_iaddN O dX1_sumOfChannel_19 ?_
      refine v_istore_n O dX1_sumOfChannel_20 (by rw [hN]; decide) ?_
      refine v_iincN (b := 1) O dX1_sumOfChannel_21 rfl (by decide) (by rw [hN]; decide) ?_
      refine v_goto (tgt := 4) O dX1_sumOfChannel_24 (by decide) ?_
      refine v_ord [0, 1, 2, 3] ?_
      exact ih (j - 1) (by omega) (q + 1) (by omega) (by omega)
theorem c_sumOfChannel {E : ET} {ad : Nat → Nat} {n t dr : Nat} {pw pe : Nat → Nat} {mk : Nat → Bool} {len : Nat} {cod : Nat → Nat} {fr : Bool} {ls lc u v : Nat} {su sp : Nat → Nat} {tot spr : Nat → Int64} {mm : Nat} {fs fc fw : Nat → Nat} {sc : Nat → Int64} {fe : Nat → Nat} {c : Nat} (hst : E.1.stackTraces = false) (hc : c < 16) (ht : t ≤ 48) : Ctr E yX1_sumOfChannel cdX1_sumOfChannel (rmL 2) [.ref (ad 1), .int (nI c)] (WX E ad n t dr pw pe mk len cod fr ls lc u v su sp tot spr mm fs fc fw sc fe) (pR (some (.int (nI (chs pw c t)))) (WX E ad n t dr pw pe mk len cod fr ls lc u v su sp tot spr mm fs fc fw sc fe)) noX 0 0 := by
  refine ctr_of hst (by decide) (Nat.le_of_ble_eq_true rfl) (fun G O OR hN => ?_)
  have O : OKG E G cX1_sumOfChannel RX1 (rmL 2) [] := O
  have hN : nLG G = 4 := hN
  refine v_iconst (v := nI 0) O dX1_sumOfChannel_0 (by decide) ?_
  refine v_istore_n O dX1_sumOfChannel_1 (by rw [hN]; decide) ?_
  refine v_iconst (v := nI 0) O dX1_sumOfChannel_2 (by decide) ?_
  refine v_istore_n O dX1_sumOfChannel_3 (by rw [hN]; decide) ?_
  refine v_ord [0, 1, 2, 3] ?_
  refine lp_sumOfChannel O hN hst hc ht ?_ t 0 (by omega) (by omega)
  refine v_iload_n O dX1_sumOfChannel_27 rfl ?_
  exact v_ireturn O OR dX1_sumOfChannel_28 (⟨rfl, rfl⟩) (Nat.le_of_ble_eq_true rfl) (Nat.le_of_ble_eq_true rfl)
end
section
/-! plain facts on numbers and arrays, to paste: each family by itself; over the kit's rows on nI and upd -/
/-! ===== order of ints, in all its forms, and through longs ===== -/
theorem fa_lt (a b : Int32) : a < b ↔ a.toInt < b.toInt := Int32.lt_iff_toInt_lt
theorem fa_le (a b : Int32) : a ≤ b ↔ a.toInt ≤ b.toInt := Int32.le_iff_toInt_le
theorem fa_eq (a b : Int32) : a = b ↔ a.toInt = b.toInt := Int32.toInt_inj.symm
theorem fa_lt64 (a b : Int64) : a < b ↔ a.toInt < b.toInt := Int64.lt_iff_toInt_lt
theorem fa_le64 (a b : Int64) : a ≤ b ↔ a.toInt ≤ b.toInt := Int64.le_iff_toInt_le
theorem fa_eq64 (a b : Int64) : a = b ↔ a.toInt = b.toInt := Int64.toInt_inj.symm
/-- a comparison of two ints taken as longs -/
theorem fa_wide_lt (a b : Int32) : a.toInt64 < b.toInt64 ↔ a < b := by rw [fa_lt64, fa_lt, Int32.toInt_toInt64, Int32.toInt_toInt64]
theorem fa_wide_le (a b : Int32) : a.toInt64 ≤ b.toInt64 ↔ a ≤ b := by rw [fa_le64, fa_le, Int32.toInt_toInt64, Int32.toInt_toInt64]
theorem fa_wide_eq (a b : Int32) : a.toInt64 = b.toInt64 ↔ a = b := by rw [fa_eq64, fa_eq, Int32.toInt_toInt64, Int32.toInt_toInt64]
/-- one strict comparison gives all the others -/
theorem fa_of_lt {a b : Int32} (h : a < b) : a ≤ b ∧ ¬ b ≤ a ∧ ¬ b < a ∧ a ≠ b ∧ b ≠ a := by
  rw [fa_lt] at h
  refine ⟨?_, ?_, ?_, ?_, ?_⟩
  · rw [fa_le]; omega
  · rw [fa_le]; omega
  · rw [fa_lt]; omega
  · intro e; rw [fa_eq] at e; omega
  · intro e; rw [fa_eq] at e; omega
theorem fa_of_nlt {a b : Int32} (h : ¬ a < b) : b ≤ a := by
  rw [fa_lt] at h
  rw [fa_le]
  omega
theorem fa_of_nle {a b : Int32} (h : ¬ a ≤ b) : b < a := by
  rw [fa_le] at h
  rw [fa_lt]
  omega
theorem fa_le_ne {a b : Int32} (h : a ≤ b) (h2 : a ≠ b) : a < b := by
  rw [fa_le] at h
  rw [fa_lt]
  have h3 : a.toInt ≠ b.toInt := fun e => h2 ((fa_eq a b).mpr e)
  omega
theorem fa_three (a b : Int32) : a < b ∨ a = b ∨ b < a := by
  rw [fa_lt, fa_lt, fa_eq]
  omega
theorem fa_trans {a b c : Int32} (h : a < b) (h2 : b ≤ c) : a < c := by
  rw [fa_lt] at *
  rw [fa_le] at h2
  omega
/-! ===== small literals as numbers ===== -/
theorem fa_lit (n : Nat) : (OfNat.ofNat n : Int32) = nI n := rfl
theorem fa_litL (n : Nat) : (OfNat.ofNat n : Int64) = lN n := rfl
/-! ===== bits of a number: 'or', masks, one bit ===== -/
theorem fa_and (a b : Nat) : nI a &&& nI b = nI (a &&& b) := by
  apply Int32.toBitVec_inj.1
  show BitVec.ofNat 32 a &&& BitVec.ofNat 32 b = BitVec.ofNat 32 (a &&& b)
  apply BitVec.eq_of_getLsbD_eq
  intro i hi
  simp [hi]
theorem fa_or (a b : Nat) : nI a ||| nI b = nI (a ||| b) := by
  apply Int32.toBitVec_inj.1
  show BitVec.ofNat 32 a ||| BitVec.ofNat 32 b = BitVec.ofNat 32 (a ||| b)
  apply BitVec.eq_of_getLsbD_eq
  intro i hi
  simp [hi]
/-- a remainder by a power of two, as a mask -/
theorem fa_mask (n k : Nat) : nI n &&& nI (2 ^ k - 1) = nI (n % 2 ^ k) := by rw [fa_and, Nat.and_two_pow_sub_one_eq_mod]
/-- 'or' of a high part and a low one that don't meet is their sum -/
theorem fa_or_sum {a k : Nat} (b : Nat) (h : a < 2 ^ k) : nI (2 ^ k * b) ||| nI a = nI (2 ^ k * b + a) := by rw [fa_or, Nat.two_pow_add_eq_or_of_lt h]
/-- one bit, by 'and' with a power of two -/
theorem fa_bit {n j : Nat} (hj : j < 31) : nI n &&& nI (2 ^ j) = 0 ↔ n.testBit j = false := by
  have h2 : (2 : Nat) ^ j < 2 ^ 31 := Nat.pow_lt_pow_right (by decide) hj
  have hle : n &&& 2 ^ j ≤ 2 ^ j := Nat.and_le_right
  have e : n &&& 2 ^ j = 0 ↔ n.testBit j = false := by
    constructor
    · intro h
      have h1 : (n &&& 2 ^ j).testBit j = false := by rw [h]; simp
      rw [Nat.testBit_and] at h1
      first | simpa using h1 | simpa [Nat.testBit_two_pow_self] using h1 | simpa [Nat.testBit_two_pow] using h1
    · intro h
      apply Nat.eq_of_testBit_eq
      intro i
      rw [Nat.testBit_and]
      by_cases hi : j = i
      · subst hi; simp [h]
      · first | (simp [Nat.testBit_two_pow, hi]; done) | (simp [Nat.testBit_two_pow_of_ne hi]; done)
  rw [fa_and]
  constructor
  · intro h
    apply e.mp
    rcases Nat.eq_zero_or_pos (n &&& 2 ^ j) with z | z
    · exact z
    · exact absurd h (nI_ne0 z (Nat.lt_of_le_of_lt hle h2))
  · intro h
    rw [e.mpr h]; exact nI_0
/-- a remainder by a power of two of a number that isn't negative, as Java divides -/
theorem fa_rem {a k : Nat} (ha : a < 2 ^ 31) (hk : k < 31) : nI a - nI a / nI (2 ^ k) * nI (2 ^ k) = nI (a % 2 ^ k) := pk_rem ha (Nat.two_pow_pos k) (Nat.pow_lt_pow_right (by decide) hk)
/-! ===== cuts to a byte, a short ===== -/
theorem fa_byte_xor (x y : Int32) : (x ^^^ y).toInt8 = x.toInt8 ^^^ y.toInt8 := by
  apply Int8.toBitVec_inj.1
  apply BitVec.eq_of_getLsbD_eq
  intro i hi
  first | (simp [hi]; done) | (simp [hi, BitVec.getLsbD_setWidth, BitVec.getLsbD_signExtend]; done)
theorem fa_short_xor (x y : Int32) : (x ^^^ y).toInt16 = x.toInt16 ^^^ y.toInt16 := by
  apply Int16.toBitVec_inj.1
  apply BitVec.eq_of_getLsbD_eq
  intro i hi
  first | (simp [hi]; done) | (simp [hi, BitVec.getLsbD_setWidth, BitVec.getLsbD_signExtend]; done)
/-- the cut to a byte sees the low byte alone -/
theorem fa_byte_low (x : Int32) : (x &&& 255).toInt8 = x.toInt8 := by
  apply Int8.toBitVec_inj.1
  apply BitVec.eq_of_getLsbD_eq
  intro i hi
  have h2 : (255 : Int32).toBitVec.getLsbD i = true := by
    have : ∀ j : Fin 8, (255 : Int32).toBitVec.getLsbD j.val = true := by decide +kernel
    exact this ⟨i, hi⟩
  have h4 : (x &&& 255).toBitVec.getLsbD i = x.toBitVec.getLsbD i := by
    show (x.toBitVec &&& (255 : Int32).toBitVec).getLsbD i = _
    rw [BitVec.getLsbD_and, h2, Bool.and_true]
  have h3 : i < 32 := by omega
  first
    | (show (((x &&& 255).toBitVec).signExtend 8).getLsbD i = (x.toBitVec.signExtend 8).getLsbD i; rw [BitVec.getLsbD_signExtend, BitVec.getLsbD_signExtend, if_pos h3, if_pos h3, h4])
    | (show (((x &&& 255).toBitVec).setWidth 8).getLsbD i = (x.toBitVec.setWidth 8).getLsbD i; rw [BitVec.getLsbD_setWidth, BitVec.getLsbD_setWidth, h4])
    | (simp [hi, h3, h4]; done)
theorem fa_short_low (x : Int32) : (x &&& 65535).toInt16 = x.toInt16 := by
  apply Int16.toBitVec_inj.1
  apply BitVec.eq_of_getLsbD_eq
  intro i hi
  have h2 : (65535 : Int32).toBitVec.getLsbD i = true := by
    have : ∀ j : Fin 16, (65535 : Int32).toBitVec.getLsbD j.val = true := by decide +kernel
    exact this ⟨i, hi⟩
  have h4 : (x &&& 65535).toBitVec.getLsbD i = x.toBitVec.getLsbD i := by
    show (x.toBitVec &&& (65535 : Int32).toBitVec).getLsbD i = _
    rw [BitVec.getLsbD_and, h2, Bool.and_true]
  have h3 : i < 32 := by omega
  first
    | (show (((x &&& 65535).toBitVec).signExtend 16).getLsbD i = (x.toBitVec.signExtend 16).getLsbD i; rw [BitVec.getLsbD_signExtend, BitVec.getLsbD_signExtend, if_pos h3, if_pos h3, h4])
    | (show (((x &&& 65535).toBitVec).setWidth 16).getLsbD i = (x.toBitVec.setWidth 16).getLsbD i; rw [BitVec.getLsbD_setWidth, BitVec.getLsbD_setWidth, h4])
    | (simp [hi, h3, h4]; done)
/-- a small number is its own byte, its own short -/
theorem fa_byte_small {n : Nat} (h : n < 128) : (nI n).toInt8.toInt32 = nI n := by
  have : ∀ j : Fin 128, (nI j.val).toInt8.toInt32 = nI j.val := by decide +kernel
  exact this ⟨n, h⟩
/-! ===== absolute difference ===== -/
theorem fa_absdiff {a b : Nat} (ha : a < 2 ^ 31) (hb : b < 2 ^ 31) : (if nI a < nI b then nI b - nI a else nI a - nI b) = nI (if a < b then b - a else a - b) := by
  by_cases h : a < b
  · rw [if_pos (nI_lt h hb), if_pos h]
    exact pk_sub (Nat.le_of_lt h)
  · rw [if_neg (nI_nlt (Nat.le_of_not_lt h) ha), if_neg h]
    exact pk_sub (Nat.le_of_not_lt h)
/-! ===== an array behind i stores, a conditional store, a row copied ===== -/
/-- f where k < i, what stood there else -/
def fa_fill {α : Type} (f g : Nat → α) (i : Nat) : Nat → α := fun k => if k < i then f k else g k
theorem fa_fill_0 {α : Type} (f g : Nat → α) : fa_fill f g 0 = g := funext fun k => if_neg (Nat.not_lt_zero k)
theorem fa_fill_in {α : Type} {f g : Nat → α} {i k : Nat} (h : k < i) : fa_fill f g i k = f k := if_pos h
theorem fa_fill_out {α : Type} {f g : Nat → α} {i k : Nat} (h : i ≤ k) : fa_fill f g i k = g k := if_neg (Nat.not_lt.mpr h)
theorem fa_fill_succ (f g : Nat → Int32) (i : Nat) : upd (fa_fill f g i) i (f i) = fa_fill f g (i + 1) := by
  funext k
  by_cases e : k = i
  · subst e
    rw [pk_us]
    exact (if_pos (Nat.lt_succ_self k)).symm
  · rw [pk_un e]
    by_cases h : k < i
    · rw [fa_fill_in h, fa_fill_in (Nat.lt_succ_of_lt h)]
    · rw [fa_fill_out (Nat.le_of_not_lt h), fa_fill_out (by omega)]
/-- a store that changes nothing -/
theorem fa_upd_same {f : Nat → Int32} {i : Nat} {x : Int32} (h : f i = x) : upd f i x = f := by
  funext k
  by_cases e : k = i
  · subst e
    rw [pk_us, h]
  · rw [pk_un e]
/-- a store under a condition, told as one -/
theorem fa_upd_if (c : Prop) [Decidable c] (f : Nat → Int32) (i : Nat) (x : Int32) : (if c then upd f i x else f) = upd f i (if c then x else f i) := by
  by_cases h : c
  · rw [if_pos h, if_pos h]
  · rw [if_neg h, if_neg h, fa_upd_same rfl]
/-- two stores at one place, at two -/
theorem fa_upd_twice (f : Nat → Int32) (i : Nat) (x y : Int32) : upd (upd f i x) i y = upd f i y := by
  funext k
  by_cases e : k = i
  · subst e
    rw [pk_us, pk_us]
  · rw [pk_un e, pk_un e, pk_un e]
theorem fa_upd_swap (f : Nat → Int32) {i j : Nat} (h : i ≠ j) (x y : Int32) : upd (upd f i x) j y = upd (upd f j y) i x := by
  funext k
  by_cases e : k = i
  · subst e
    rw [pk_un h, pk_us, pk_us]
  · by_cases e2 : k = j
    · subst e2
      rw [pk_us, pk_un e, pk_us]
    · rw [pk_un e2, pk_un e, pk_un e, pk_un e2]
/-! ===== the first index with a property; a count ===== -/
/-- the first k < n with p k, n if there is none -/
def fa_first (p : Nat → Bool) : Nat → Nat
  | 0 => 0
  | n + 1 => if fa_first p n < n then fa_first p n else if p n then n else n + 1
theorem fa_first_le (p : Nat → Bool) : ∀ n, fa_first p n ≤ n
  | 0 => Nat.le_refl 0
  | n + 1 => by
    have ih := fa_first_le p n
    unfold fa_first
    split
    · omega
    · split
      · omega
      · omega
theorem fa_first_no (p : Nat → Bool) : ∀ n k, k < fa_first p n → p k = false
  | 0, k, h => absurd h (Nat.not_lt_zero k)
  | n + 1, k, h => by
    have ih := fa_first_no p n
    have hl := fa_first_le p n
    unfold fa_first at h
    split at h
    · exact ih k h
    · rename_i h1
      split at h
      · exact ih k (by omega)
      · rename_i h2
        by_cases e : k = n
        · subst e
          exact Bool.eq_false_iff.mpr h2
        · exact ih k (by omega)
theorem fa_first_yes (p : Nat → Bool) : ∀ n, fa_first p n < n → p (fa_first p n) = true
  | 0, h => absurd h (Nat.not_lt_zero _)
  | n + 1, h => by
    have ih := fa_first_yes p n
    have hl := fa_first_le p n
    unfold fa_first at h ⊢
    split at h
    · rename_i h1
      rw [if_pos h1]
      exact ih h1
    · rename_i h1
      rw [if_neg h1]
      split at h
      · rename_i h2
        rw [if_pos h2]
        exact h2
      · omega
/-- how many k < n have p k -/
def fa_cnt (p : Nat → Bool) : Nat → Nat
  | 0 => 0
  | n + 1 => fa_cnt p n + if p n then 1 else 0
theorem fa_cnt_le (p : Nat → Bool) : ∀ n, fa_cnt p n ≤ n
  | 0 => Nat.le_refl 0
  | n + 1 => by
    have ih := fa_cnt_le p n
    unfold fa_cnt
    split
    · omega
    · omega
theorem fa_cnt_yes {p : Nat → Bool} {n : Nat} (h : p n = true) : fa_cnt p (n + 1) = fa_cnt p n + 1 := by rw [fa_cnt, if_pos h]
theorem fa_cnt_no {p : Nat → Bool} {n : Nat} (h : p n = false) : fa_cnt p (n + 1) = fa_cnt p n := by rw [fa_cnt, if_neg (by rw [h]; decide)]; rfl
theorem fa_cnt_cong {p q : Nat → Bool} : ∀ {n : Nat}, (∀ k, k < n → p k = q k) → fa_cnt p n = fa_cnt q n
  | 0, _ => rfl
  | n + 1, h => by rw [fa_cnt, fa_cnt, fa_cnt_cong (fun k hk => h k (Nat.lt_succ_of_lt hk)), h n (Nat.lt_succ_self n)]
/-! ===== an answer carried into a post; a branch on a boolean answer ===== -/
theorem fa_post {α : Type} {P : α → Prop} {x y : α} (h : x = y) (hp : P y) : P x := h ▸ hp
theorem fa_post2 {α β : Type} {P : α → β → Prop} {x y : α} {u v : β} (h : x = y) (h2 : u = v) (hp : P y v) : P x u := h ▸ h2 ▸ hp
theorem fa_bool {r : Int32} {b : Bool} (h : r = if b then 1 else 0) : (r = 0 ↔ b = false) ∧ (¬ r = 0 ↔ b = true) := by
  subst h
  cases b
  · exact ⟨⟨fun _ => rfl, fun _ => rfl⟩, ⟨fun h => absurd rfl h, fun h => absurd h (by decide)⟩⟩
  · exact ⟨⟨fun h => absurd h (by decide), fun h => absurd h (by decide)⟩, ⟨fun _ => rfl, fun _ => by decide⟩⟩
/-- a boolean's narrowing changes nothing -/
theorem fa_bool_and {r : Int32} (h : r = 0 ∨ r = 1) : r &&& 1 = r := by
  rcases h with rfl | rfl
  · decide
  · decide
theorem fa_bool_prop {c : Prop} [Decidable c] {r : Int32} (h : r = if c then 1 else 0) : (r = 0 ↔ ¬ c) ∧ (¬ r = 0 ↔ c) := by
  subst h
  by_cases hc : c
  · rw [if_pos hc]
    exact ⟨⟨fun h => absurd h (by decide), fun h => absurd hc h⟩, ⟨fun _ => hc, fun _ => by decide⟩⟩
  · rw [if_neg hc]
    exact ⟨⟨fun _ => hc, fun _ => rfl⟩, ⟨fun h => absurd rfl h, fun h => absurd h hc⟩⟩
/-! plain facts to paste, each family by itself; over the kit's nI, lN and upd -/
/-! ===== drawers: more things than places ===== -/
theorem fb_holes : ∀ (m n : Nat) (f : Nat → Nat), (∀ i, i < n → f i < m) → (∀ i j, i < j → j < n → f i ≠ f j) → n ≤ m := by
  intro m
  induction m with
  | zero =>
    intro n f h1 _
    rcases Nat.eq_zero_or_pos n with h | h
    · omega
    · exact absurd (h1 0 h) (Nat.not_lt_zero _)
  | succ m ih =>
    intro n f h1 h2
    by_cases hx : ∃ i, i < n ∧ f i = m
    · obtain ⟨a, ha, hfa⟩ := hx
      have hg := ih (n - 1) (fun i => if i < a then f i else f (i + 1)) (by
        intro i hi
        by_cases q : i < a
        · simp only [if_pos q]
          have b1 := h1 i (by omega)
          have b2 := h2 i a q ha
          omega
        · simp only [if_neg q]
          have b1 := h1 (i + 1) (by omega)
          have b2 := h2 a (i + 1) (by omega) (by omega)
          omega) (by
        intro i j hij hj
        by_cases q : i < a
        · by_cases r : j < a
          · simp only [if_pos q, if_pos r]
            exact h2 i j hij (by omega)
          · simp only [if_pos q, if_neg r]
            exact h2 i (j + 1) (by omega) (by omega)
        · have r : ¬ j < a := by omega
          simp only [if_neg q, if_neg r]
          exact h2 (i + 1) (j + 1) (by omega) (by omega))
      omega
    · have hg := ih n f (fun i hi => by
        have b1 := h1 i hi
        have b2 : f i ≠ m := fun e => hx ⟨i, hi, e⟩
        omega) h2
      omega
/-- two of them in one place -/
theorem fb_twice {m n : Nat} {f : Nat → Nat} (h : ∀ i, i < n → f i < m) (hm : m < n) : ∃ i j, i < j ∧ j < n ∧ f i = f j := by
  refine Classical.byContradiction fun hx => ?_
  have := fb_holes m n f h (fun i j hij hj e => hx ⟨i, j, hij, hj, e⟩)
  omega
/-- as many as places, none twice: each place is taken -/
theorem fb_onto {n : Nat} {f : Nat → Nat} (h : ∀ i, i < n → f i < n) (h2 : ∀ i j, i < j → j < n → f i ≠ f j) {y : Nat} (hy : y < n) : ∃ i, i < n ∧ f i = y := by
  refine Classical.byContradiction fun hx => ?_
  have hne : ∀ i, i < n → f i ≠ y := fun i hi e => hx ⟨i, hi, e⟩
  have := fb_holes (n - 1) n (fun i => if f i < y then f i else f i - 1) (by
    intro i hi
    have b1 := h i hi
    have b2 := hne i hi
    by_cases q : f i < y
    · simp only [if_pos q]; omega
    · simp only [if_neg q]; omega) (by
    intro i j hij hj
    have b1 := hne i (by omega)
    have b2 := hne j hj
    have b3 := h2 i j hij hj
    by_cases q : f i < y
    · by_cases r : f j < y
      · simp only [if_pos q, if_pos r]; exact b3
      · simp only [if_pos q, if_neg r]; omega
    · by_cases r : f j < y
      · simp only [if_neg q, if_pos r]; omega
      · simp only [if_neg q, if_neg r]; omega)
  omega
/-! ===== how many places have a property ===== -/
def fb_ct (p : Nat → Bool) : Nat → Nat
  | 0 => 0
  | n + 1 => fb_ct p n + (if p n then 1 else 0)
theorem fb_ct_succ (p : Nat → Bool) (n : Nat) : fb_ct p (n + 1) = fb_ct p n + (if p n then 1 else 0) := rfl
theorem fb_ct_le (p : Nat → Bool) : ∀ n, fb_ct p n ≤ n
  | 0 => Nat.le_refl _
  | n + 1 => by
    have h := fb_ct_le p n
    rw [fb_ct_succ]
    split <;> omega
theorem fb_ct_step (p : Nat → Bool) (m : Nat) : ∀ n, fb_ct p m ≤ fb_ct p (m + n)
  | 0 => Nat.le_refl _
  | n + 1 => by
    have h := fb_ct_step p m n
    show fb_ct p m ≤ fb_ct p (m + n + 1)
    rw [fb_ct_succ]
    omega
theorem fb_ct_mono (p : Nat → Bool) {m n : Nat} (h : m ≤ n) : fb_ct p m ≤ fb_ct p n := by
  have := fb_ct_step p m (n - m)
  rwa [Nat.add_sub_cancel' h] at this
theorem fb_ct_cong {p q : Nat → Bool} : ∀ {n : Nat}, (∀ k, k < n → p k = q k) → fb_ct p n = fb_ct q n
  | 0, _ => rfl
  | n + 1, h => by
    rw [fb_ct_succ, fb_ct_succ, fb_ct_cong (fun k hk => h k (by omega)), h n (by omega)]
/-- one place changed -/
theorem fb_ct_out (p : Nat → Bool) (b : Bool) {i n : Nat} (h : n ≤ i) : fb_ct (fun k => if k = i then b else p k) n = fb_ct p n :=
  fb_ct_cong fun k hk => if_neg (by omega)
theorem fb_ct_upd (p : Nat → Bool) (b : Bool) {i : Nat} : ∀ {n : Nat}, i < n → fb_ct (fun k => if k = i then b else p k) n + (if p i then 1 else 0) = fb_ct p n + (if b then 1 else 0)
  | 0, h => absurd h (Nat.not_lt_zero i)
  | n + 1, h => by
    rw [fb_ct_succ, fb_ct_succ]
    rcases Nat.lt_or_ge i n with q | q
    · have := fb_ct_upd p b q
      have e : (if n = i then b else p n) = p n := if_neg (by omega)
      rw [e]
      omega
    · have e : i = n := by omega
      subst e
      rw [fb_ct_out p b (Nat.le_refl _)]
      simp only [if_true]
      omega
theorem fb_ct_sub {p q : Nat → Bool} : ∀ {n : Nat}, (∀ k, k < n → p k = true → q k = true) → fb_ct p n ≤ fb_ct q n
  | 0, _ => Nat.le_refl _
  | n + 1, h => by
    have h1 := fb_ct_sub (n := n) (p := p) (q := q) (fun k hk => h k (by omega))
    have h2 := h n (by omega)
    rw [fb_ct_succ, fb_ct_succ]
    cases hp : p n <;> cases hq : q n <;> simp_all <;> omega
theorem fb_ct_or {p q : Nat → Bool} : ∀ {n : Nat}, (∀ k, k < n → ¬ (p k = true ∧ q k = true)) → fb_ct (fun k => p k || q k) n = fb_ct p n + fb_ct q n
  | 0, _ => rfl
  | n + 1, h => by
    have h1 := fb_ct_or (n := n) (p := p) (q := q) (fun k hk => h k (by omega))
    have h2 := h n (by omega)
    rw [fb_ct_succ, fb_ct_succ, fb_ct_succ, h1]
    cases hp : p n <;> cases hq : q n <;> simp_all <;> omega
theorem fb_ct_not (p : Nat → Bool) : ∀ n, fb_ct p n + fb_ct (fun k => !p k) n = n
  | 0 => rfl
  | n + 1 => by
    have h := fb_ct_not p n
    rw [fb_ct_succ, fb_ct_succ]
    cases p n <;> simp <;> omega
theorem fb_ct_split (p : Nat → Bool) (m : Nat) : ∀ n, fb_ct p (m + n) = fb_ct p m + fb_ct (fun k => p (m + k)) n
  | 0 => rfl
  | n + 1 => by
    have h := fb_ct_split p m n
    show fb_ct p (m + n + 1) = _
    rw [fb_ct_succ, fb_ct_succ, h, Nat.add_assoc]
theorem fb_ct_zero {p : Nat → Bool} : ∀ {n : Nat}, fb_ct p n = 0 ↔ ∀ k, k < n → p k = false
  | 0 => ⟨fun _ k hk => absurd hk (Nat.not_lt_zero k), fun _ => rfl⟩
  | n + 1 => by
    have h := fb_ct_zero (p := p) (n := n)
    rw [fb_ct_succ]
    constructor
    · intro e k hk
      have e1 : fb_ct p n = 0 := by omega
      rcases Nat.lt_or_ge k n with q | q
      · exact h.mp e1 k q
      · have ek : k = n := by omega
        subst ek
        cases hp : p k
        · rfl
        · simp [hp] at e
    · intro a
      rw [h.mpr (fun k hk => a k (by omega)), a n (by omega)]
      rfl
theorem fb_ct_pos {p : Nat → Bool} {n : Nat} : 0 < fb_ct p n ↔ ∃ k, k < n ∧ p k = true := by
  constructor
  · intro h
    refine Classical.byContradiction fun hx => ?_
    have := fb_ct_zero.mpr (fun k hk => by
      cases hp : p k
      · rfl
      · exact absurd ⟨k, hk, hp⟩ hx : ∀ k, k < n → p k = false)
    omega
  · rintro ⟨k, hk, hp⟩
    rcases Nat.eq_zero_or_pos (fb_ct p n) with e | e
    · have := fb_ct_zero.mp e k hk
      rw [this] at hp
      cases hp
    · exact e
theorem fb_ct_all {p : Nat → Bool} {n : Nat} : fb_ct p n = n ↔ ∀ k, k < n → p k = true := by
  have h := fb_ct_not p n
  constructor
  · intro e k hk
    have z : fb_ct (fun k => !p k) n = 0 := by omega
    have := fb_ct_zero.mp z k hk
    cases hp : p k
    · simp [hp] at this
    · rfl
  · intro a
    have z : fb_ct (fun k => !p k) n = 0 := fb_ct_zero.mpr (fun k hk => by simp [a k hk])
    omega
/-- the k-th place with the property -/
theorem fb_ct_kth {p : Nat → Bool} {k : Nat} : ∀ {n : Nat}, k < fb_ct p n → ∃ i, i < n ∧ p i = true ∧ fb_ct p i = k
  | 0, h => absurd h (Nat.not_lt_zero k)
  | n + 1, h => by
    rcases Nat.lt_or_ge k (fb_ct p n) with q | q
    · obtain ⟨i, h1, h2⟩ := fb_ct_kth q
      exact ⟨i, by omega, h2⟩
    · rw [fb_ct_succ] at h
      cases hp : p n
      · simp [hp] at h; omega
      · simp [hp] at h
        exact ⟨n, by omega, hp, by omega⟩
theorem fb_ct_kth_one {p : Nat → Bool} {i j : Nat} (hi : p i = true) (hj : p j = true) (e : fb_ct p i = fb_ct p j) : i = j := by
  have key : ∀ a b : Nat, a < b → p a = true → fb_ct p a < fb_ct p b := by
    intro a b hab ha
    have h := fb_ct_mono p (show a + 1 ≤ b from hab)
    rw [fb_ct_succ, ha] at h
    simp at h
    omega
  rcases Nat.lt_trichotomy i j with q | q | q
  · have := key i j q hi; omega
  · exact q
  · have := key j i q hj; omega
/-! ===== sums over a range: one place changed, parts, bounds ===== -/
def fb_sm (f : Nat → Nat) : Nat → Nat
  | 0 => 0
  | n + 1 => fb_sm f n + f n
theorem fb_sm_succ (f : Nat → Nat) (n : Nat) : fb_sm f (n + 1) = fb_sm f n + f n := rfl
theorem fb_sm_cong {f g : Nat → Nat} : ∀ {n : Nat}, (∀ k, k < n → f k = g k) → fb_sm f n = fb_sm g n
  | 0, _ => rfl
  | n + 1, h => by rw [fb_sm_succ, fb_sm_succ, fb_sm_cong (fun k hk => h k (by omega)), h n (by omega)]
theorem fb_sm_out (f : Nat → Nat) (v : Nat) {i n : Nat} (h : n ≤ i) : fb_sm (fun k => if k = i then v else f k) n = fb_sm f n :=
  fb_sm_cong fun k hk => if_neg (by omega)
theorem fb_sm_upd (f : Nat → Nat) (v : Nat) {i : Nat} : ∀ {n : Nat}, i < n → fb_sm (fun k => if k = i then v else f k) n + f i = fb_sm f n + v
  | 0, h => absurd h (Nat.not_lt_zero i)
  | n + 1, h => by
    rw [fb_sm_succ, fb_sm_succ]
    rcases Nat.lt_or_ge i n with q | q
    · have := fb_sm_upd f v q
      have e : (if n = i then v else f n) = f n := if_neg (by omega)
      rw [e]
      omega
    · have e : i = n := by omega
      subst e
      rw [fb_sm_out f v (Nat.le_refl _)]
      simp only [if_true]
      omega
theorem fb_sm_add (f g : Nat → Nat) : ∀ n, fb_sm (fun k => f k + g k) n = fb_sm f n + fb_sm g n
  | 0 => rfl
  | n + 1 => by
    have h := fb_sm_add f g n
    rw [fb_sm_succ, fb_sm_succ, fb_sm_succ, h]
    omega
theorem fb_sm_le {f g : Nat → Nat} : ∀ {n : Nat}, (∀ k, k < n → f k ≤ g k) → fb_sm f n ≤ fb_sm g n
  | 0, _ => Nat.le_refl _
  | n + 1, h => by
    have h1 := fb_sm_le (n := n) (f := f) (g := g) (fun k hk => h k (by omega))
    have h2 := h n (by omega)
    rw [fb_sm_succ, fb_sm_succ]
    omega
theorem fb_sm_const (c : Nat) : ∀ n, fb_sm (fun _ => c) n = n * c
  | 0 => by rw [Nat.zero_mul]; rfl
  | n + 1 => by rw [fb_sm_succ, fb_sm_const c n, Nat.succ_mul]
theorem fb_sm_bound {f : Nat → Nat} {c n : Nat} (h : ∀ k, k < n → f k ≤ c) : fb_sm f n ≤ n * c := by
  rw [← fb_sm_const c n]
  exact fb_sm_le h
theorem fb_sm_mono (f : Nat → Nat) (m : Nat) : ∀ n, fb_sm f m ≤ fb_sm f (m + n)
  | 0 => Nat.le_refl _
  | n + 1 => by
    have h := fb_sm_mono f m n
    show fb_sm f m ≤ fb_sm f (m + n + 1)
    rw [fb_sm_succ]
    omega
theorem fb_sm_part (f : Nat → Nat) {i n : Nat} (h : i < n) : fb_sm f i + f i ≤ fb_sm f n := by
  have := fb_sm_mono f (i + 1) (n - (i + 1))
  rw [fb_sm_succ, show i + 1 + (n - (i + 1)) = n by omega] at this
  exact this
theorem fb_sm_split (f : Nat → Nat) (m : Nat) : ∀ n, fb_sm f (m + n) = fb_sm f m + fb_sm (fun k => f (m + k)) n
  | 0 => rfl
  | n + 1 => by
    have h := fb_sm_split f m n
    show fb_sm f (m + n + 1) = _
    rw [fb_sm_succ, fb_sm_succ, h, Nat.add_assoc]
theorem fb_sm_zero {f : Nat → Nat} {n : Nat} (h : fb_sm f n = 0) : ∀ k, k < n → f k = 0 := fun k hk => by
  have := fb_sm_part f hk
  omega
/-- the same over whole numbers -/
def fb_si (f : Nat → Int) : Nat → Int
  | 0 => 0
  | n + 1 => fb_si f n + f n
theorem fb_si_succ (f : Nat → Int) (n : Nat) : fb_si f (n + 1) = fb_si f n + f n := rfl
theorem fb_si_cong {f g : Nat → Int} : ∀ {n : Nat}, (∀ k, k < n → f k = g k) → fb_si f n = fb_si g n
  | 0, _ => rfl
  | n + 1, h => by rw [fb_si_succ, fb_si_succ, fb_si_cong (fun k hk => h k (by omega)), h n (by omega)]
theorem fb_si_out (f : Nat → Int) (v : Int) {i n : Nat} (h : n ≤ i) : fb_si (fun k => if k = i then v else f k) n = fb_si f n :=
  fb_si_cong fun k hk => if_neg (by omega)
theorem fb_si_upd (f : Nat → Int) (v : Int) {i : Nat} : ∀ {n : Nat}, i < n → fb_si (fun k => if k = i then v else f k) n = fb_si f n - f i + v
  | 0, h => absurd h (Nat.not_lt_zero i)
  | n + 1, h => by
    rw [fb_si_succ, fb_si_succ]
    rcases Nat.lt_or_ge i n with q | q
    · have := fb_si_upd f v q
      have e : (if n = i then v else f n) = f n := if_neg (by omega)
      rw [e]
      omega
    · have e : i = n := by omega
      subst e
      rw [fb_si_out f v (Nat.le_refl _)]
      simp only [if_true]
      omega
theorem fb_si_add (f g : Nat → Int) : ∀ n, fb_si (fun k => f k + g k) n = fb_si f n + fb_si g n
  | 0 => rfl
  | n + 1 => by
    have h := fb_si_add f g n
    rw [fb_si_succ, fb_si_succ, fb_si_succ, h]
    omega
theorem fb_si_sub (f g : Nat → Int) : ∀ n, fb_si (fun k => f k - g k) n = fb_si f n - fb_si g n
  | 0 => rfl
  | n + 1 => by
    have h := fb_si_sub f g n
    rw [fb_si_succ, fb_si_succ, fb_si_succ, h]
    omega
theorem fb_si_mul (c : Int) (f : Nat → Int) : ∀ n, fb_si (fun k => c * f k) n = c * fb_si f n
  | 0 => (Int.mul_zero c).symm
  | n + 1 => by
    have h := fb_si_mul c f n
    rw [fb_si_succ, fb_si_succ, h, Int.mul_add]
theorem fb_si_split (f : Nat → Int) (m : Nat) : ∀ n, fb_si f (m + n) = fb_si f m + fb_si (fun k => f (m + k)) n
  | 0 => (Int.add_zero _).symm
  | n + 1 => by
    have h := fb_si_split f m n
    show fb_si f (m + n + 1) = _
    rw [fb_si_succ, fb_si_succ, h, Int.add_assoc]
theorem fb_si_nat (f : Nat → Nat) : ∀ n, fb_si (fun k => (f k : Int)) n = (fb_sm f n : Int)
  | 0 => rfl
  | n + 1 => by
    have h := fb_si_nat f n
    rw [fb_si_succ, fb_sm_succ, h]
    omega
theorem fb_si_bound {f : Nat → Int} {c : Int} (hc : 0 ≤ c) : ∀ {n : Nat}, (∀ k, k < n → -c ≤ f k ∧ f k ≤ c) → -(n * c) ≤ fb_si f n ∧ fb_si f n ≤ n * c
  | 0, _ => by simp [fb_si]
  | n + 1, h => by
    have h1 := fb_si_bound (n := n) (f := f) hc (fun k hk => h k (by omega))
    have h2 := h n (by omega)
    have e : ((n + 1 : Nat) : Int) * c = n * c + c := by rw [Int.natCast_add, Int.add_mul]; simp
    rw [fb_si_succ, e]
    omega
/-! ===== bits of a long that isn't negative ===== -/
theorem fb_andL (a b : Nat) : lN a &&& lN b = lN (a &&& b) := by
  apply Int64.toBitVec_inj.1
  show BitVec.ofNat 64 a &&& BitVec.ofNat 64 b = BitVec.ofNat 64 (a &&& b)
  apply BitVec.eq_of_getLsbD_eq
  intro i hi
  simp [hi]
theorem fb_orL (a b : Nat) : lN a ||| lN b = lN (a ||| b) := by
  apply Int64.toBitVec_inj.1
  show BitVec.ofNat 64 a ||| BitVec.ofNat 64 b = BitVec.ofNat 64 (a ||| b)
  apply BitVec.eq_of_getLsbD_eq
  intro i hi
  simp [hi]
theorem fb_xorL (a b : Nat) : lN a ^^^ lN b = lN (a ^^^ b) := by
  apply Int64.toBitVec_inj.1
  show BitVec.ofNat 64 a ^^^ BitVec.ofNat 64 b = BitVec.ofNat 64 (a ^^^ b)
  apply BitVec.eq_of_getLsbD_eq
  intro i hi
  simp [hi]
theorem fb_xorI (a b : Nat) : nI a ^^^ nI b = nI (a ^^^ b) := by
  apply Int32.toBitVec_inj.1
  show BitVec.ofNat 32 a ^^^ BitVec.ofNat 32 b = BitVec.ofNat 32 (a ^^^ b)
  apply BitVec.eq_of_getLsbD_eq
  intro i hi
  simp [hi]
theorem fb_maskL (n k : Nat) : lN n &&& lN (2 ^ k - 1) = lN (n % 2 ^ k) := by rw [fb_andL, Nat.and_two_pow_sub_one_eq_mod]
theorem fb_or_sumL {a k : Nat} (b : Nat) (h : a < 2 ^ k) : lN (2 ^ k * b) ||| lN a = lN (2 ^ k * b + a) := by rw [fb_orL, Nat.two_pow_add_eq_or_of_lt h]
theorem fb_lN_inj {a b : Nat} (ha : a < 2 ^ 63) (hb : b < 2 ^ 63) : lN a = lN b ↔ a = b := by
  constructor
  · intro h
    have h1 : (BitVec.ofNat 64 a).toNat = (BitVec.ofNat 64 b).toNat := congrArg (fun x : Int64 => x.toBitVec.toNat) h
    rw [BitVec.toNat_ofNat, BitVec.toNat_ofNat, Nat.mod_eq_of_lt (by omega), Nat.mod_eq_of_lt (by omega)] at h1
    exact h1
  · rintro rfl; rfl
theorem fb_bit_nat (n j : Nat) : n &&& 2 ^ j = 0 ↔ n.testBit j = false := by
  constructor
  · intro h
    have h1 : (n &&& 2 ^ j).testBit j = false := by rw [h]; simp
    rw [Nat.testBit_and] at h1
    simpa using h1
  · intro h
    apply Nat.eq_of_testBit_eq
    intro i
    rw [Nat.testBit_and]
    by_cases hi : j = i
    · subst hi; simp [h]
    · first | (simp [Nat.testBit_two_pow, hi]; done) | (simp [Nat.testBit_two_pow_of_ne hi]; done)
/-- one bit of a long -/
theorem fb_bitL {n j : Nat} (hj : j < 63) : lN n &&& lN (2 ^ j) = 0 ↔ n.testBit j = false := by
  have h2 : (2 : Nat) ^ j < 2 ^ 63 := Nat.pow_lt_pow_right (by decide) hj
  have hle : n &&& 2 ^ j ≤ 2 ^ j := Nat.and_le_right
  rw [fb_andL, ← fb_bit_nat, show (0 : Int64) = lN 0 from rfl]
  exact fb_lN_inj (by omega) (by decide)
/-- a bit set, a bit taken off -/
theorem fb_bit_set (n j i : Nat) : (n ||| 2 ^ j).testBit i = (n.testBit i || decide (i = j)) := by
  rw [Nat.testBit_or]
  by_cases h : j = i
  · subst h; simp
  · have h2 : ¬ i = j := fun e => h e.symm
    first | (simp [Nat.testBit_two_pow, h, h2]; done) | (simp [Nat.testBit_two_pow_of_ne h, h2]; done)
theorem fb_bit_flip (n j i : Nat) : (n ^^^ 2 ^ j).testBit i = (n.testBit i ^^ decide (i = j)) := by
  rw [Nat.testBit_xor]
  by_cases h : j = i
  · subst h; simp
  · have h2 : ¬ i = j := fun e => h e.symm
    first | (simp [Nat.testBit_two_pow, h, h2]; done) | (simp [Nat.testBit_two_pow_of_ne h, h2]; done)
/-! ===== a stretch of an array written over by a function ===== -/
def fb_put {α : Type} (f g : Nat → α) (a n : Nat) : Nat → α := fun k => if a ≤ k ∧ k < a + n then g (k - a) else f k
theorem fb_put_0 {α : Type} (f g : Nat → α) (a : Nat) : fb_put f g a 0 = f := funext fun k => if_neg (by omega)
theorem fb_put_in {α : Type} {f g : Nat → α} {a n k : Nat} (h1 : a ≤ k) (h2 : k < a + n) : fb_put f g a n k = g (k - a) := if_pos ⟨h1, h2⟩
theorem fb_put_out {α : Type} {f g : Nat → α} {a n k : Nat} (h : k < a ∨ a + n ≤ k) : fb_put f g a n k = f k := if_neg (by omega)
theorem fb_put_succ (f g : Nat → Int32) (a n : Nat) : upd (fb_put f g a n) (a + n) (g n) = fb_put f g a (n + 1) := by
  funext k
  by_cases h : k = a + n
  · subst h
    simp [upd, fb_put]
  · by_cases h1 : a ≤ k ∧ k < a + n
    · have h2 : a ≤ k ∧ k < a + (n + 1) := by omega
      simp only [upd, fb_put, if_neg h, if_pos h1, if_pos h2]
    · have h2 : ¬ (a ≤ k ∧ k < a + (n + 1)) := by omega
      simp only [upd, fb_put, if_neg h, if_neg h1, if_neg h2]
/-- .. from the far end down -/
theorem fb_put_down (f g : Nat → Int32) {a n m : Nat} (h : m < n) : upd (fb_put f (fun k => g (k + (m + 1))) (a + (m + 1)) (n - (m + 1))) (a + m) (g m) = fb_put f (fun k => g (k + m)) (a + m) (n - m) := by
  funext k
  by_cases h0 : k = a + m
  · subst h0
    simp only [upd, if_true]
    rw [fb_put_in (by omega) (by omega)]
    exact congrArg g (by omega)
  · simp only [upd, if_neg h0]
    by_cases h1 : a + (m + 1) ≤ k ∧ k < a + (m + 1) + (n - (m + 1))
    · rw [fb_put_in h1.1 h1.2, fb_put_in (by omega) (by omega)]
      exact congrArg g (by omega)
    · rw [fb_put_out (by omega), fb_put_out (by omega)]
theorem fb_put_cong {α : Type} {f f2 g g2 : Nat → α} {a n : Nat} (hf : ∀ k, (k < a ∨ a + n ≤ k) → f k = f2 k) (hg : ∀ k, k < n → g k = g2 k) : fb_put f g a n = fb_put f2 g2 a n := by
  funext k
  by_cases h : a ≤ k ∧ k < a + n
  · rw [fb_put_in h.1 h.2, fb_put_in h.1 h.2, hg _ (by omega)]
  · rw [fb_put_out (by omega), fb_put_out (by omega), hf _ (by omega)]
/-! ===== the least, the first, the best so far; that there is one alone ===== -/
theorem fb_first {p : Nat → Prop} [DecidablePred p] : ∀ {n : Nat}, (∃ i, i < n ∧ p i) → ∃ i, i < n ∧ p i ∧ ∀ j, j < i → ¬ p j
  | 0, h => by obtain ⟨i, hi, -⟩ := h; exact absurd hi (Nat.not_lt_zero i)
  | n + 1, h => by
    by_cases q : ∃ i, i < n ∧ p i
    · obtain ⟨i, h1, h2⟩ := fb_first q
      exact ⟨i, by omega, h2⟩
    · obtain ⟨i, h1, h2⟩ := h
      have e : i = n := by
        rcases Nat.lt_or_ge i n with r | r
        · exact absurd ⟨i, r, h2⟩ q
        · omega
      subst e
      exact ⟨i, by omega, h2, fun j hj hp => q ⟨j, hj, hp⟩⟩
theorem fb_first_one {p : Nat → Prop} {i j : Nat} (hi : p i) (hi2 : ∀ k, k < i → ¬ p k) (hj : p j) (hj2 : ∀ k, k < j → ¬ p k) : i = j := by
  rcases Nat.lt_trichotomy i j with q | q | q
  · exact absurd hi (hj2 i q)
  · exact q
  · exact absurd hj (hi2 j q)
theorem fb_last {p : Nat → Prop} [DecidablePred p] : ∀ {n : Nat}, (∃ i, i < n ∧ p i) → ∃ i, i < n ∧ p i ∧ ∀ j, i < j → j < n → ¬ p j
  | 0, h => by obtain ⟨i, hi, -⟩ := h; exact absurd hi (Nat.not_lt_zero i)
  | n + 1, h => by
    by_cases q : p n
    · exact ⟨n, by omega, q, fun j h1 h2 => by omega⟩
    · obtain ⟨i, h1, h2⟩ := h
      have hi : i < n := by
        rcases Nat.lt_or_ge i n with r | r
        · exact r
        · have e : i = n := by omega
          subst e
          exact absurd h2 q
      obtain ⟨i2, a1, a2, a3⟩ := fb_last (n := n) ⟨i, hi, h2⟩
      refine ⟨i2, by omega, a2, fun j b1 b2 => ?_⟩
      rcases Nat.lt_or_ge j n with r | r
      · exact a3 j b1 r
      · have e : j = n := by omega
        subst e
        exact q
/-- the first greatest -/
theorem fb_best (f : Nat → Int) : ∀ {n : Nat}, 0 < n → ∃ i, i < n ∧ (∀ j, j < n → f j ≤ f i) ∧ ∀ j, j < i → f j < f i
  | 0, h => absurd h (Nat.lt_irrefl 0)
  | 1, _ => ⟨0, by omega, fun j hj => by have e : j = 0 := by omega
                                         subst e; exact Int.le_refl _, fun j hj => absurd hj (Nat.not_lt_zero j)⟩
  | n + 2, _ => by
    obtain ⟨i, h1, h2, h3⟩ := fb_best f (n := n + 1) (by omega)
    by_cases q : f i < f (n + 1)
    · refine ⟨n + 1, by omega, fun j hj => ?_, fun j hj => ?_⟩
      · rcases Nat.lt_or_ge j (n + 1) with r | r
        · have := h2 j r; omega
        · have e : j = n + 1 := by omega
          subst e; exact Int.le_refl _
      · have := h2 j hj; omega
    · refine ⟨i, by omega, fun j hj => ?_, h3⟩
      rcases Nat.lt_or_ge j (n + 1) with r | r
      · exact h2 j r
      · have e : j = n + 1 := by omega
        subst e; omega
theorem fb_best_one {f : Nat → Int} {n i j : Nat} (hi : i < n) (hi2 : ∀ k, k < n → f k ≤ f i) (hi3 : ∀ k, k < i → f k < f i) (hj : j < n) (hj2 : ∀ k, k < n → f k ≤ f j) (hj3 : ∀ k, k < j → f k < f j) : i = j := by
  rcases Nat.lt_trichotomy i j with q | q | q
  · have a := hj3 i q
    have b := hi2 j hj
    omega
  · exact q
  · have a := hi3 j q
    have b := hj2 i hi
    omega
/-- the first least -/
theorem fb_low (f : Nat → Int) {n : Nat} (h : 0 < n) : ∃ i, i < n ∧ (∀ j, j < n → f i ≤ f j) ∧ ∀ j, j < i → f i < f j := by
  obtain ⟨i, h1, h2, h3⟩ := fb_best (fun k => -f k) h
  exact ⟨i, h1, fun j hj => by have := h2 j hj; omega, fun j hj => by have := h3 j hj; omega⟩
/-! ===== signed ints as whole numbers, within bounds ===== -/
theorem fb_rng (x : Int32) : -2147483648 ≤ x.toInt ∧ x.toInt < 2147483648 := by
  have h1 := Int32.le_toInt x
  have h2 := Int32.toInt_lt x
  omega
theorem fb_bmod {z : Int} (h1 : -2147483648 ≤ z) (h2 : z < 2147483648) : z.bmod (2 ^ 32) = z := by
  rw [Int.bmod_eq_of_le (by omega) (by omega)]
theorem fb_addI {x y : Int32} (h1 : -2147483648 ≤ x.toInt + y.toInt) (h2 : x.toInt + y.toInt < 2147483648) : (x + y).toInt = x.toInt + y.toInt := by
  rw [Int32.toInt_add, fb_bmod h1 h2]
theorem fb_subI {x y : Int32} (h1 : -2147483648 ≤ x.toInt - y.toInt) (h2 : x.toInt - y.toInt < 2147483648) : (x - y).toInt = x.toInt - y.toInt := by
  rw [Int32.toInt_sub, fb_bmod h1 h2]
theorem fb_mulI {x y : Int32} (h1 : -2147483648 ≤ x.toInt * y.toInt) (h2 : x.toInt * y.toInt < 2147483648) : (x * y).toInt = x.toInt * y.toInt := by
  rw [Int32.toInt_mul, fb_bmod h1 h2]
theorem fb_negI {x : Int32} (h : x.toInt ≠ -2147483648) : (-x).toInt = -x.toInt := by
  have := fb_rng x
  rw [Int32.toInt_neg, fb_bmod (by omega) (by omega)]
theorem fb_ofI {z : Int} (h1 : -2147483648 ≤ z) (h2 : z < 2147483648) : (Int32.ofInt z).toInt = z := by
  rw [Int32.toInt_ofInt, fb_bmod h1 h2]
theorem fb_asI (x : Int32) : Int32.ofInt x.toInt = x := Int32.ofInt_toInt x
theorem fb_rngL (x : Int64) : -9223372036854775808 ≤ x.toInt ∧ x.toInt < 9223372036854775808 := by
  have h1 := Int64.le_toInt x
  have h2 := Int64.toInt_lt x
  omega
theorem fb_bmodL {z : Int} (h1 : -9223372036854775808 ≤ z) (h2 : z < 9223372036854775808) : z.bmod (2 ^ 64) = z := by
  rw [Int.bmod_eq_of_le (by omega) (by omega)]
theorem fb_addL {x y : Int64} (h1 : -9223372036854775808 ≤ x.toInt + y.toInt) (h2 : x.toInt + y.toInt < 9223372036854775808) : (x + y).toInt = x.toInt + y.toInt := by
  rw [Int64.toInt_add, fb_bmodL h1 h2]
theorem fb_subL {x y : Int64} (h1 : -9223372036854775808 ≤ x.toInt - y.toInt) (h2 : x.toInt - y.toInt < 9223372036854775808) : (x - y).toInt = x.toInt - y.toInt := by
  rw [Int64.toInt_sub, fb_bmodL h1 h2]
theorem fb_mulL {x y : Int64} (h1 : -9223372036854775808 ≤ x.toInt * y.toInt) (h2 : x.toInt * y.toInt < 9223372036854775808) : (x * y).toInt = x.toInt * y.toInt := by
  rw [Int64.toInt_mul, fb_bmodL h1 h2]
/-! ===== cuts of what is narrow already ===== -/
theorem fb_byte {x : Int32} (h1 : -128 ≤ x.toInt) (h2 : x.toInt < 128) : x.toInt8.toInt32 = x := by
  apply Int32.toInt_inj.1
  rw [Int8.toInt_toInt32, Int32.toInt_toInt8, Int.bmod_eq_of_le (by omega) (by omega)]
theorem fb_short {x : Int32} (h1 : -32768 ≤ x.toInt) (h2 : x.toInt < 32768) : x.toInt16.toInt32 = x := by
  apply Int32.toInt_inj.1
  rw [Int16.toInt_toInt32, Int32.toInt_toInt16, Int.bmod_eq_of_le (by omega) (by omega)]
theorem fb_byte_rng (x : Int32) : -128 ≤ x.toInt8.toInt32.toInt ∧ x.toInt8.toInt32.toInt < 128 := by
  rw [Int8.toInt_toInt32]
  have h1 := Int8.le_toInt x.toInt8
  have h2 := Int8.toInt_lt x.toInt8
  omega
theorem fb_short_rng (x : Int32) : -32768 ≤ x.toInt16.toInt32.toInt ∧ x.toInt16.toInt32.toInt < 32768 := by
  rw [Int16.toInt_toInt32]
  have h1 := Int16.le_toInt x.toInt16
  have h2 := Int16.toInt_lt x.toInt16
  omega
theorem fb_byte_twice (x : Int32) : x.toInt8.toInt32.toInt8.toInt32 = x.toInt8.toInt32 := fb_byte (fb_byte_rng x).1 (fb_byte_rng x).2
theorem fb_short_twice (x : Int32) : x.toInt16.toInt32.toInt16.toInt32 = x.toInt16.toInt32 := fb_short (fb_short_rng x).1 (fb_short_rng x).2
theorem fb_char {n : Nat} (h : n < 65536) : (nI n).toUInt32.toUInt16.toUInt32.toInt32 = nI n := by
  apply Int32.toBitVec_inj.1
  apply BitVec.eq_of_toNat_eq
  have e1 : (nI n).toBitVec.toNat = n := by
    show (BitVec.ofNat 32 n).toNat = n
    rw [BitVec.toNat_ofNat, Nat.mod_eq_of_lt (by omega)]
  have e2 : ((nI n).toUInt32.toUInt16.toUInt32).toNat = n := by
    rw [UInt16.toNat_toUInt32, UInt32.toNat_toUInt16]
    show (nI n).toBitVec.toNat % 2 ^ 16 = n
    rw [e1, Nat.mod_eq_of_lt (by omega)]
  rw [e1]
  exact e2
end
section
theorem s_l9 : ∀ n, n < 32 → ((nI n &&& 31).toBitVec.smod 32).toNat = n := by decide +kernel
theorem bI_0 {b : Bool} : bI b = 0 ↔ b = false := by cases b <;> decide
theorem bI_n0 {b : Bool} : ¬ bI b = 0 ↔ b = true := by cases b <;> decide
theorem bI_nar (b : Bool) : narrow .boolean (.int (bI b)) = .int (bI b) := by cases b <;> decide
section VB
variable {E : ET} {G : GT} {cc : ByteArray} {own : String} {R0 : Room} {tb : List ExceptionTableEntry} {k n pc : Nat} {lv : List (Nat × Value)} {st : List Value} {w : va_W} {z : Int} {tgt : Nat} {b : Bool} {x y : Int64}
theorem v_ifB_eq (O : OKG E G cc own R0 tb) (d : decode cc pc = .ok (.ifCond .eq z, 3)) (ht : (pc : Int) + z = (tgt : Int)) (kt : b = false → V E G k n tgt lv st w) (kf : b = true → V E G k n (pc + 3) lv st w) : V E G k n pc lv (.int (bI b) :: st) w := v_if_eq O d ht (fun h => kt (bI_0.mp h)) (fun h => kf (bI_n0.mp h))
theorem v_ifB_ne (O : OKG E G cc own R0 tb) (d : decode cc pc = .ok (.ifCond .ne z, 3)) (ht : (pc : Int) + z = (tgt : Int)) (kt : b = true → V E G k n tgt lv st w) (kf : b = false → V E G k n (pc + 3) lv st w) : V E G k n pc lv (.int (bI b) :: st) w := v_if_ne O d ht (fun h => kt (bI_n0.mp h)) (fun h => kf (bI_0.mp h))
theorem v_ifC_eq (O : OKG E G cc own R0 tb) (d : decode cc pc = .ok (.ifCond .eq z, 3)) (ht : (pc : Int) + z = (tgt : Int)) (kt : x = y → V E G k n tgt lv st w) (kf : ¬ x = y → V E G k n (pc + 3) lv st w) : V E G k n pc lv (.int (lg_cmp x y) :: st) w := v_if_eq O d ht (fun h => kt ((lg_cmp_eq x y).mp h)) (fun h => kf (fun q => h ((lg_cmp_eq x y).mpr q)))
theorem v_ifC_ne (O : OKG E G cc own R0 tb) (d : decode cc pc = .ok (.ifCond .ne z, 3)) (ht : (pc : Int) + z = (tgt : Int)) (kt : ¬ x = y → V E G k n tgt lv st w) (kf : x = y → V E G k n (pc + 3) lv st w) : V E G k n pc lv (.int (lg_cmp x y) :: st) w := v_if_ne O d ht (fun h => kt (fun q => h ((lg_cmp_eq x y).mpr q))) (fun h => kf ((lg_cmp_eq x y).mp h))
theorem v_ifC_lt (O : OKG E G cc own R0 tb) (d : decode cc pc = .ok (.ifCond .lt z, 3)) (ht : (pc : Int) + z = (tgt : Int)) (kt : x < y → V E G k n tgt lv st w) (kf : ¬ x < y → V E G k n (pc + 3) lv st w) : V E G k n pc lv (.int (lg_cmp x y) :: st) w := v_if_lt O d ht (fun h => kt ((lg_cmp_lt x y).mp h)) (fun h => kf (fun q => h ((lg_cmp_lt x y).mpr q)))
theorem v_ifC_ge (O : OKG E G cc own R0 tb) (d : decode cc pc = .ok (.ifCond .ge z, 3)) (ht : (pc : Int) + z = (tgt : Int)) (kt : y ≤ x → V E G k n tgt lv st w) (kf : ¬ y ≤ x → V E G k n (pc + 3) lv st w) : V E G k n pc lv (.int (lg_cmp x y) :: st) w := v_if_ge O d ht (fun h => kt ((lg_cmp_ge x y).mp h)) (fun h => kf (fun q => h ((lg_cmp_ge x y).mpr q)))
theorem v_ifC_gt (O : OKG E G cc own R0 tb) (d : decode cc pc = .ok (.ifCond .gt z, 3)) (ht : (pc : Int) + z = (tgt : Int)) (kt : y < x → V E G k n tgt lv st w) (kf : ¬ y < x → V E G k n (pc + 3) lv st w) : V E G k n pc lv (.int (lg_cmp x y) :: st) w := v_if_gt O d ht (fun h => kt ((lg_cmp_gt x y).mp h)) (fun h => kf (fun q => h ((lg_cmp_gt x y).mpr q)))
theorem v_ifC_le (O : OKG E G cc own R0 tb) (d : decode cc pc = .ok (.ifCond .le z, 3)) (ht : (pc : Int) + z = (tgt : Int)) (kt : x ≤ y → V E G k n tgt lv st w) (kf : ¬ x ≤ y → V E G k n (pc + 3) lv st w) : V E G k n pc lv (.int (lg_cmp x y) :: st) w := v_if_le O d ht (fun h => kt ((lg_cmp_le x y).mp h)) (fun h => kf (fun q => h ((lg_cmp_le x y).mpr q)))
theorem v_iandN {a b : Nat} (O : OKG E G cc own R0 tb) (d : decode cc pc = .ok (.iand, 1)) (kk : V E G k n (pc + 1) lv (.int (nI (a &&& b)) :: st) w) : V E G k n pc lv (.int (nI b) :: .int (nI a) :: st) w := v_iand O d (by rw [fa_and]; exact kk)
theorem v_iorN {a b : Nat} (O : OKG E G cc own R0 tb) (d : decode cc pc = .ok (.ior, 1)) (kk : V E G k n (pc + 1) lv (.int (nI (a ||| b)) :: st) w) : V E G k n pc lv (.int (nI b) :: .int (nI a) :: st) w := v_ior O d (by rw [fa_or]; exact kk)
theorem v_ishrN {a b : Nat} (O : OKG E G cc own R0 tb) (d : decode cc pc = .ok (.ishr, 1)) (ha : a < 2 ^ 31) (hb : b < 32) (kk : V E G k n (pc + 1) lv (.int (nI (a / 2 ^ b)) :: st) w) : V E G k n pc lv (.int (nI b) :: .int (nI a) :: st) w := v_ishr O d (by rw [pk_shrN ha _ b (s_l9 b hb)]; exact kk)
theorem v_ishl1 {b : Nat} (O : OKG E G cc own R0 tb) (d : decode cc pc = .ok (.ishl, 1)) (hb : b < 16) (kk : V E G k n (pc + 1) lv (.int (nI (2 ^ b)) :: st) w) : V E G k n pc lv (.int (nI b) :: .int (nI 1) :: st) w := v_ishl O d (by
  have h : 1 * 2 ^ b < 2 ^ 32 := by
    have := Nat.pow_le_pow_right (n := 2) (by decide) (show b ≤ 31 by omega)
    omega
  rw [pk_shlN (n := 1) _ b (s_l9 b (by omega)) h, Nat.one_mul]
  exact kk)
end VB
/-- a number of the script that lies in 0 .. n - 1 -/
def inR (x : Int32) (n : Nat) : Prop := 0 ≤ x.toInt ∧ x.toInt < n
theorem inR_of {x : Int32} {n : Nat} (h : inR x n) : ∃ j : Nat, j < n ∧ x = nI j := by
  obtain ⟨h1, h2⟩ := h
  have h3 := fb_rng x
  refine ⟨x.toInt.toNat, by omega, ?_⟩
  rw [fa_eq, nI_toInt (by omega)]
  omega
theorem inR_nI {j n : Nat} (hj : j < n) (hn : n < 2 ^ 31) : inR (nI j) n := by
  unfold inR
  rw [nI_toInt (by omega)]
  omega
theorem inR_iff {x : Int32} {n : Nat} (hn : n < 2 ^ 30) : (nI 0 ≤ x ∧ x ≤ nI n - nI 1) ↔ inR x n := by
  unfold inR
  rw [fa_le, fa_le, nI_toInt (by decide), pk_sub_toInt (by omega) (by decide)]
  omega
end
section
theorem c_within {E : ET} {w : va_W} (hst : E.1.stackTraces = false) (x lo hi : Int32) : Ctr E yX5_within cdX5_within (rmL 1) [.int x, .int lo, .int hi] w (pR (some (.int (bI (decide (lo ≤ x ∧ x ≤ hi))))) w) noX 0 0 := by
  refine ctr_of hst (by decide) (Nat.le_of_ble_eq_true rfl) (fun G O OR hN => ?_)
  have O : OKG E G cX5_within RX5 (rmL 1) [] := O
  have hN : nLG G = 3 := hN
  refine v_iload_n O dX5_within_0 rfl ?_
  refine v_iload_n O dX5_within_1 rfl ?_
  refine v_icmp_lt (tgt := 14) O dX5_within_2 (by decide) (fun h => ?_) (fun h => ?_)
  · refine v_iconst (v := nI 0) O dX5_within_14 (by decide) ?_
    exact v_zreturn O OR dX5_within_15 (by decide) (⟨by rw [decide_eq_false (fun q => by rw [fa_le] at q; rw [fa_lt] at h; omega)]; rfl, rfl⟩) (Nat.le_of_ble_eq_true rfl) (Nat.le_of_ble_eq_true rfl)
  · refine v_iload_n O dX5_within_5 rfl ?_
    refine v_iload_n O dX5_within_6 rfl ?_
    refine v_icmp_gt (tgt := 14) O dX5_within_7 (by decide) (fun h2 => ?_) (fun h2 => ?_)
    · refine v_iconst (v := nI 0) O dX5_within_14 (by decide) ?_
      exact v_zreturn O OR dX5_within_15 (by decide) (⟨by rw [decide_eq_false (fun q => by rw [fa_le, fa_le] at q; rw [fa_lt] at h2; omega)]; rfl, rfl⟩) (Nat.le_of_ble_eq_true rfl) (Nat.le_of_ble_eq_true rfl)
    · refine v_iconst (v := nI 1) O dX5_within_10 (by decide) ?_
      refine v_goto (tgt := 15) O dX5_within_11 (by decide) ?_
      exact v_zreturn O OR dX5_within_15 (by decide) (⟨by rw [decide_eq_true (by rw [fa_le, fa_le]; rw [fa_lt] at h h2; omega)]; rfl, rfl⟩) (Nat.le_of_ble_eq_true rfl) (Nat.le_of_ble_eq_true rfl)
theorem c_withinN {E : ET} {w : va_W} (hst : E.1.stackTraces = false) (a lo hi : Nat) (ha : a < 2 ^ 31) (h1 : lo < 2 ^ 31) (h2 : hi < 2 ^ 31) : Ctr E yX5_within cdX5_within (rmL 1) [.int (nI a), .int (nI lo), .int (nI hi)] w (pR (some (.int (bI (decide (lo ≤ a ∧ a ≤ hi))))) w) noX 0 0 := by
  have h := c_within (w := w) hst (nI a) (nI lo) (nI hi)
  have e : decide (nI lo ≤ nI a ∧ nI a ≤ nI hi) = decide (lo ≤ a ∧ a ≤ hi) := decide_eq_decide.mpr (by rw [nI_leI h1 ha, nI_leI ha h2])
  rw [e] at h
  exact h
/-- 0 ≤ x < n -/
def inB (x : Int32) (n : Nat) : Bool := decide (0 ≤ x.toInt) && decide (x.toInt < n)
theorem inB_iff {x : Int32} {n : Nat} : inB x n = true ↔ inR x n := by
  unfold inB inR
  simp
theorem inB_dec {x : Int32} {n : Nat} (hn : n < 2 ^ 30) : decide (nI 0 ≤ x ∧ x ≤ nI n - nI 1) = inB x n := by
  have := inR_iff (x := x) hn
  cases h : inB x n
  · exact decide_eq_false (fun q => by rw [inB_iff.mpr (this.mp q)] at h; cases h)
  · exact decide_eq_true (this.mpr (inB_iff.mp h))
theorem inB_nI {j n : Nat} (hj : j < n) (hn : n < 2 ^ 31) : inB (nI j) n = true := inB_iff.mpr (inR_nI hj hn)
theorem inB_of {x : Int32} {n : Nat} (h : inB x n = true) : ∃ j : Nat, j < n ∧ x = nI j := inR_of (inB_iff.mp h)
theorem c_isChannel {E : ET} {ad : Nat → Nat} {th n t dr ms : Nat} {pe pw : Nat → Nat} {len : Nat} {cod : Nat → Nat} {mm : Nat} {fs fc fw : Nat → Nat} {sc : Nat → Int64} {li : Nat → Nat} {lm ls lq hs : Int64} (hst : E.1.stackTraces = false) (hn : n ≤ 16) (x : Int32) : Ctr E yX5_isChannel cdX5_isChannel (rmL 2) [.ref (ad 0), .int x] (WM E ad th n t dr ms pe pw len cod mm fs fc fw sc li lm ls lq hs) (pR (some (.int (bI (inB x n)))) (WM E ad th n t dr ms pe pw len cod mm fs fc fw sc li lm ls lq hs)) noX 0 0 := by
  refine ctr_of hst (by decide) (Nat.le_of_ble_eq_true rfl) (fun G O OR hN => ?_)
  have O : OKG E G cX5_isChannel RX5 (rmL 2) [] := O
  have hN : nLG G = 2 := hN
  refine v_iload_n O dX5_isChannel_0 rfl ?_
  refine v_iconst (v := nI 0) O dX5_isChannel_1 (by decide) ?_
  refine v_aload_n O dX5_isChannel_2 rfl ?_
  refine v_get O dX5_isChannel_3 flX5_7 0 rfl rfl ?_
  refine v_iconst (v := nI 1) O dX5_isChannel_6 (by decide) ?_
  refine v_isub O dX5_isChannel_7 ?_
  refine v_S1 O dX5_isChannel_8 lkX5_42 (c_within hst x (nI 0) (nI n - nI 1)) rfl rfl rfl (by first | exact hkc | exact Nat.zero_le _) (by first | exact hks | exact Nat.zero_le _) ?_
  exact v_zreturn O OR dX5_isChannel_11 (bI_nar _) (⟨by rw [inB_dec (by omega)], rfl⟩) (Nat.le_of_ble_eq_true rfl) (Nat.le_of_ble_eq_true rfl)
theorem c_isSlope {E : ET} {ad : Nat → Nat} {th n t dr ms : Nat} {pe pw : Nat → Nat} {len : Nat} {cod : Nat → Nat} {mm : Nat} {fs fc fw : Nat → Nat} {sc : Nat → Int64} {li : Nat → Nat} {lm ls lq hs : Int64} (hst : E.1.stackTraces = false) (hn : n ≤ 16) (x : Int32) : Ctr E yX5_isSlope cdX5_isSlope (rmL 2) [.ref (ad 0), .int x] (WM E ad th n t dr ms pe pw len cod mm fs fc fw sc li lm ls lq hs) (pR (some (.int (bI (inB x n)))) (WM E ad th n t dr ms pe pw len cod mm fs fc fw sc li lm ls lq hs)) noX 0 0 := by
  refine ctr_of hst (by decide) (Nat.le_of_ble_eq_true rfl) (fun G O OR hN => ?_)
  have O : OKG E G cX5_isSlope RX5 (rmL 2) [] := O
  have hN : nLG G = 2 := hN
  refine v_iload_n O dX5_isSlope_0 rfl ?_
  refine v_iconst (v := nI 0) O dX5_isSlope_1 (by decide) ?_
  refine v_aload_n O dX5_isSlope_2 rfl ?_
  refine v_get O dX5_isSlope_3 flX5_7 0 rfl rfl ?_
  refine v_iconst (v := nI 1) O dX5_isSlope_6 (by decide) ?_
  refine v_isub O dX5_isSlope_7 ?_
  refine v_S1 O dX5_isSlope_8 lkX5_42 (c_within hst x (nI 0) (nI n - nI 1)) rfl rfl rfl (by first | exact hkc | exact Nat.zero_le _) (by first | exact hks | exact Nat.zero_le _) ?_
  exact v_zreturn O OR dX5_isSlope_11 (bI_nar _) (⟨by rw [inB_dec (by omega)], rfl⟩) (Nat.le_of_ble_eq_true rfl) (Nat.le_of_ble_eq_true rfl)
theorem c_isColumn {E : ET} {ad : Nat → Nat} {th n t dr ms : Nat} {pe pw : Nat → Nat} {len : Nat} {cod : Nat → Nat} {mm : Nat} {fs fc fw : Nat → Nat} {sc : Nat → Int64} {li : Nat → Nat} {lm ls lq hs : Int64} (hst : E.1.stackTraces = false) (ht : t ≤ 48) (x : Int32) : Ctr E yX5_isColumn cdX5_isColumn (rmL 2) [.ref (ad 0), .int x] (WM E ad th n t dr ms pe pw len cod mm fs fc fw sc li lm ls lq hs) (pR (some (.int (bI (inB x t)))) (WM E ad th n t dr ms pe pw len cod mm fs fc fw sc li lm ls lq hs)) noX 0 0 := by
  refine ctr_of hst (by decide) (Nat.le_of_ble_eq_true rfl) (fun G O OR hN => ?_)
  have O : OKG E G cX5_isColumn RX5 (rmL 2) [] := O
  have hN : nLG G = 2 := hN
  refine v_iload_n O dX5_isColumn_0 rfl ?_
  refine v_iconst (v := nI 0) O dX5_isColumn_1 (by decide) ?_
  refine v_aload_n O dX5_isColumn_2 rfl ?_
  refine v_get O dX5_isColumn_3 flX5_46 0 rfl rfl ?_
  refine v_iconst (v := nI 1) O dX5_isColumn_6 (by decide) ?_
  refine v_isub O dX5_isColumn_7 ?_
  refine v_S1 O dX5_isColumn_8 lkX5_42 (c_within hst x (nI 0) (nI t - nI 1)) rfl rfl rfl (by first | exact hkc | exact Nat.zero_le _) (by first | exact hks | exact Nat.zero_le _) ?_
  exact v_zreturn O OR dX5_isColumn_11 (bI_nar _) (⟨by rw [inB_dec (by omega)], rfl⟩) (Nat.le_of_ble_eq_true rfl) (Nat.le_of_ble_eq_true rfl)
theorem c_thrown {E : ET} {ad : Nat → Nat} {th n t dr ms : Nat} {pe pw : Nat → Nat} {len : Nat} {cod : Nat → Nat} {mm : Nat} {fs fc fw : Nat → Nat} {sc : Nat → Int64} {li : Nat → Nat} {lm ls lq hs : Int64} (hst : E.1.stackTraces = false) : Ctr E yX5_thrown cdX5_thrown (rmL 1) [.ref (ad 0)] (WM E ad th n t dr ms pe pw len cod mm fs fc fw sc li lm ls lq hs) (pR (some (.int (nI th))) (WM E ad th n t dr ms pe pw len cod mm fs fc fw sc li lm ls lq hs)) noX 0 0 := by
  refine ctr_of hst (by decide) (Nat.le_of_ble_eq_true rfl) (fun G O OR hN => ?_)
  have O : OKG E G cX5_thrown RX5 (rmL 1) [] := O
  have hN : nLG G = 1 := hN
  refine v_aload_n O dX5_thrown_0 rfl ?_
  refine v_get O dX5_thrown_1 flX5_39 0 rfl rfl ?_
  exact v_ireturn O OR dX5_thrown_4 (⟨rfl, rfl⟩) (Nat.le_of_ble_eq_true rfl) (Nat.le_of_ble_eq_true rfl)
/-- f, but z for k < i -/
def fil {α : Type} (f : Nat → α) (z : α) (i : Nat) : Nat → α := fun q => if q < i then z else f q
theorem fil_0 {α : Type} (f : Nat → α) (z : α) : fil f z 0 = f := by funext q; simp [fil]
theorem fil_s {α : Type} (f : Nat → α) (z : α) (i : Nat) : va_up (fil f z i) i z = fil f z (i + 1) := by
  funext q
  simp only [va_up, fil]
  by_cases h : q = i
  · subst h; simp
  · rw [if_neg h]
    by_cases h2 : q < i
    · rw [if_pos h2, if_pos (by omega)]
    · rw [if_neg h2, if_neg (by omega)]
theorem lp_clearPending {E : ET} {G : GT} {R0 : Room} {tb : List ExceptionTableEntry} (O : OKG E G cX5_clearPending RX5 R0 tb) (hN : nLG G = 2) {ad : Nat → Nat} {th n t dr ms : Nat} {pe pw : Nat → Nat} {len : Nat} {cod : Nat → Nat} {mm : Nat} {fs fc fw : Nat → Nat} {sc : Nat → Int64} {li : Nat → Nat} {lm ls lq hs : Int64} (kk : V E G 0 0 21 [(0, .ref (ad 0)), (1, .int (nI 16))] [] (WM E ad th n t dr ms (fil pe 0 16) pw len cod mm fs fc fw sc li lm ls lq hs)) : ∀ j q : Nat, q ≤ 16 → j = 16 - q → V E G 0 0 2 [(0, .ref (ad 0)), (1, .int (nI q))] [] (WM E ad th n t dr ms (fil pe 0 q) pw len cod mm fs fc fw sc li lm ls lq hs) := by
  intro j
  induction j using Nat.strongRecOn with
  | _ j ih =>
    intro q hq hj
    refine v_iload_n O dX5_clearPending_2 rfl ?_
    refine v_bipush (v := nI 16) O dX5_clearPending_3 (by decide) ?_
    refine v_icmpN_ge (tgt := 21) O dX5_clearPending_5 (by decide) (by omega) (by omega) (fun h => ?_) (fun h => ?_)
    · have e : q = 16 := by omega
      subst e
      exact kk
    · refine v_aload_n O dX5_clearPending_8 rfl ?_
      refine v_get O dX5_clearPending_9 flX5_13 0 rfl rfl ?_
      refine v_iload_n O dX5_clearPending_12 rfl ?_
      refine v_iconst (v := nI 0) O dX5_clearPending_13 (by decide) ?_
      refine v_iastN O dX5_clearPending_14 1 rfl (by decide) (by omega) ?_
      refine v_iincN (b := 1) O dX5_clearPending_15 rfl (by decide) (by rw [hN]; decide) ?_
      refine v_goto (tgt := 2) O dX5_clearPending_18 (by decide) ?_
      refine v_ord [0, 1] ?_
      refine v_w (w' := (WM E ad th n t dr ms (fil pe 0 (q + 1)) pw len cod mm fs fc fw sc li lm ls lq hs)) (by rw [fil_s]; rfl) ?_
      exact ih (j - 1) (by omega) (q + 1) (by omega) (by omega)
theorem c_clearPending {E : ET} {ad : Nat → Nat} {th n t dr ms : Nat} {pe pw : Nat → Nat} {len : Nat} {cod : Nat → Nat} {mm : Nat} {fs fc fw : Nat → Nat} {sc : Nat → Int64} {li : Nat → Nat} {lm ls lq hs : Int64} (hst : E.1.stackTraces = false) : Ctr E yX5_clearPending cdX5_clearPending (rmL 1) [.ref (ad 0)] (WM E ad th n t dr ms pe pw len cod mm fs fc fw sc li lm ls lq hs) (pR none (WM E ad th n t dr ms (fil pe 0 16) pw len cod mm fs fc fw sc li lm ls lq hs)) noX 0 0 := by
  refine ctr_of hst (by decide) (Nat.le_of_ble_eq_true rfl) (fun G O OR hN => ?_)
  have O : OKG E G cX5_clearPending RX5 (rmL 1) [] := O
  have hN : nLG G = 2 := hN
  refine v_iconst (v := nI 0) O dX5_clearPending_0 (by decide) ?_
  refine v_istore_n O dX5_clearPending_1 (by rw [hN]; decide) ?_
  refine v_ord [0, 1] ?_
  refine v_w (w' := (WM E ad th n t dr ms (fil pe 0 0) pw len cod mm fs fc fw sc li lm ls lq hs)) (by rw [fil_0]) ?_
  refine lp_clearPending O hN ?_ 16 0 (by omega) (by omega)
  exact v_return O OR dX5_clearPending_21 (⟨rfl, rfl⟩) (Nat.le_of_ble_eq_true rfl) (Nat.le_of_ble_eq_true rfl)
end
section
-- a column more
def bgT (t : Nat) : Nat := if t = 48 then 48 else t + 1
def bgD (t dr : Nat) : Nat := if t = 48 then dr + 1 else dr
def shK (pw : Nat → Nat) (i : Nat) : Nat → Nat := fun q => if q < i then pw (q + 16) else pw q
def bgP (t : Nat) (pw : Nat → Nat) : Nat → Nat := if t = 48 then shK pw 752 else pw
theorem shK_0 (pw : Nat → Nat) : shK pw 0 = pw := by funext q; simp [shK]
theorem shK_s (pw : Nat → Nat) (i : Nat) : va_up (shK pw i) i (shK pw i (i + 16)) = shK pw (i + 1) := by
  funext q
  simp only [va_up, shK]
  by_cases h : q = i
  · subst h
    rw [if_pos rfl, if_neg (by omega), if_pos (by omega)]
  · rw [if_neg h]
    by_cases h2 : q < i
    · rw [if_pos h2, if_pos (by omega)]
    · rw [if_neg h2, if_neg (by omega)]
theorem lp_begin {E : ET} {G : GT} {R0 : Room} {tb : List ExceptionTableEntry} (O : OKG E G cX5_begin RX5 R0 tb) (hN : nLG G = 2) {ad : Nat → Nat} {th n t dr ms : Nat} {pe pw : Nat → Nat} {len : Nat} {cod : Nat → Nat} {mm : Nat} {fs fc fw : Nat → Nat} {sc : Nat → Int64} {li : Nat → Nat} {lm ls lq hs : Int64} (kk : V E G 0 0 39 [(0, .ref (ad 0)), (1, .int (nI 752))] [] (WM E ad th n t dr ms pe (shK pw 752) len cod mm fs fc fw sc li lm ls lq hs)) : ∀ j q : Nat, q ≤ 752 → j = 752 - q → V E G 0 0 11 [(0, .ref (ad 0)), (1, .int (nI q))] [] (WM E ad th n t dr ms pe (shK pw q) len cod mm fs fc fw sc li lm ls lq hs) := by
  intro j
  induction j using Nat.strongRecOn with
  | _ j ih =>
    intro q hq hj
    refine v_iload_n O dX5_begin_11 rfl ?_
    refine v_sipush (v := nI 752) O dX5_begin_12 (by decide) ?_
    refine v_icmpN_ge (tgt := 39) O dX5_begin_15 (by decide) (by omega) (by omega) (fun h => ?_) (fun h => ?_)
    · have e : q = 752 := by omega
      subst e
      exact kk
    · refine v_aload_n O dX5_begin_18 rfl ?_
      refine v_get O dX5_begin_19 flX5_17 0 rfl rfl ?_
      refine v_iload_n O dX5_begin_22 rfl ?_
      refine v_aload_n O dX5_begin_23 rfl ?_
      refine v_get O dX5_begin_24 flX5_17 0 rfl rfl ?_
      refine v_iload_n O dX5_begin_27 rfl ?_
      refine v_bipush (v := nI 16) O dX5_begin_28 (by decide) ?_
      refine v_iaddN O dX5_begin_30 ?_
      refine v_iald O dX5_begin_31 2 rfl (by decide) (by omega) ?_
      refine v_iastN O dX5_begin_32 2 rfl (by decide) (by omega) ?_
      refine v_iincN (b := 1) O dX5_begin_33 rfl (by decide) (by rw [hN]; decide) ?_
      refine v_goto (tgt := 11) O dX5_begin_36 (by decide) ?_
      refine v_ord [0, 1] ?_
      refine v_w (w' := (WM E ad th n t dr ms pe (shK pw (q + 1)) len cod mm fs fc fw sc li lm ls lq hs)) (by rw [shK_s]; rfl) ?_
      exact ih (j - 1) (by omega) (q + 1) (by omega) (by omega)
theorem c_begin {E : ET} {ad : Nat → Nat} {th n t dr ms : Nat} {pe pw : Nat → Nat} {len : Nat} {cod : Nat → Nat} {mm : Nat} {fs fc fw : Nat → Nat} {sc : Nat → Int64} {li : Nat → Nat} {lm ls lq hs : Int64} (hst : E.1.stackTraces = false) (ht : t ≤ 48) : Ctr E yX5_begin cdX5_begin (rmL 1) [.ref (ad 0)] (WM E ad th n t dr ms pe pw len cod mm fs fc fw sc li lm ls lq hs) (pR none (WM E ad th n (bgT t) (bgD t dr) ms pe (bgP t pw) len cod (0) fs fc fw sc li lm ls lq hs)) noX 0 0 := by
  refine ctr_of hst (by decide) (Nat.le_of_ble_eq_true rfl) (fun G O OR hN => ?_)
  have O : OKG E G cX5_begin RX5 (rmL 1) [] := O
  have hN : nLG G = 2 := hN
  refine v_aload_n O dX5_begin_0 rfl ?_
  refine v_get O dX5_begin_1 flX5_46 0 rfl rfl ?_
  refine v_bipush (v := nI 48) O dX5_begin_4 (by decide) ?_
  refine v_icmpN_ne (tgt := 59) O dX5_begin_6 (by decide) (by omega) (by omega) (fun h => ?_) (fun h => ?_)
  · refine v_aload_n O dX5_begin_59 rfl ?_
    refine v_dup O dX5_begin_60 rfl ?_
    refine v_get O dX5_begin_61 flX5_46 0 rfl rfl ?_
    refine v_iconst (v := nI 1) O dX5_begin_64 (by decide) ?_
    refine v_iaddN O dX5_begin_65 ?_
    refine v_put (ty := .int) O dX5_begin_66 flX5_46 ftX5 0 rfl rfl (by decide +kernel) rfl rfl (Nat.le_of_ble_eq_true rfl) ?_
    refine v_aload_n O dX5_begin_69 rfl ?_
    refine v_iconst (v := nI 0) O dX5_begin_70 (by decide) ?_
    refine v_put (ty := .int) O dX5_begin_71 flX5_55 ftX5 0 rfl rfl (by decide +kernel) rfl rfl (Nat.le_of_ble_eq_true rfl) ?_
    exact v_return O OR dX5_begin_74 (⟨rfl, by simp only [bgT, bgD, bgP, if_neg h]; rfl⟩) (Nat.le_of_ble_eq_true rfl) (Nat.le_of_ble_eq_true rfl)
  · subst h
    refine v_iconst (v := nI 0) O dX5_begin_9 (by decide) ?_
    refine v_istore_n O dX5_begin_10 (by rw [hN]; decide) ?_
    refine v_ord [0, 1] ?_
    refine v_w (w' := (WM E ad th n (48) dr ms pe (shK pw 0) len cod mm fs fc fw sc li lm ls lq hs)) (by rw [shK_0]) ?_
    refine lp_begin O hN ?_ 752 0 (by omega) (by omega)
    refine v_aload_n O dX5_begin_39 rfl ?_
    refine v_dup O dX5_begin_40 rfl ?_
    refine v_get O dX5_begin_41 flX5_49 0 rfl rfl ?_
    refine v_iconst (v := nI 1) O dX5_begin_44 (by decide) ?_
    refine v_iaddN O dX5_begin_45 ?_
    refine v_put (ty := .int) O dX5_begin_46 flX5_49 ftX5 0 rfl rfl (by decide +kernel) rfl rfl (Nat.le_of_ble_eq_true rfl) ?_
    refine v_aload_n O dX5_begin_49 rfl ?_
    refine v_dup O dX5_begin_50 rfl ?_
    refine v_get O dX5_begin_51 flX5_46 0 rfl rfl ?_
    refine v_iconst (v := nI 1) O dX5_begin_54 (by decide) ?_
    refine v_isubN O dX5_begin_55 (by omega) ?_
    refine v_put (ty := .int) O dX5_begin_56 flX5_46 ftX5 0 rfl rfl (by decide +kernel) rfl rfl (Nat.le_of_ble_eq_true rfl) ?_
    refine v_aload_n O dX5_begin_59 rfl ?_
    refine v_dup O dX5_begin_60 rfl ?_
    refine v_get O dX5_begin_61 flX5_46 0 rfl rfl ?_
    refine v_iconst (v := nI 1) O dX5_begin_64 (by decide) ?_
    refine v_iaddN O dX5_begin_65 ?_
    refine v_put (ty := .int) O dX5_begin_66 flX5_46 ftX5 0 rfl rfl (by decide +kernel) rfl rfl (Nat.le_of_ble_eq_true rfl) ?_
    refine v_aload_n O dX5_begin_69 rfl ?_
    refine v_iconst (v := nI 0) O dX5_begin_70 (by decide) ?_
    refine v_put (ty := .int) O dX5_begin_71 flX5_55 ftX5 0 rfl rfl (by decide +kernel) rfl rfl (Nat.le_of_ble_eq_true rfl) ?_
    exact v_return O OR dX5_begin_74 (⟨rfl, rfl⟩) (Nat.le_of_ble_eq_true rfl) (Nat.le_of_ble_eq_true rfl)
-- characters
def isP (c : Nat) : Bool := decide (48 ≤ c ∧ c ≤ 57) || decide (65 ≤ c ∧ c ≤ 90)
def pv (c : Nat) : Nat := if c ≤ 57 then c - 48 else c - 55
def pvI (c : Nat) : Int32 := if isP c = true then nI (pv c) else -1
theorem pvI_m1 {c : Nat} (hc : c < 128) : pvI c = -1 ↔ isP c = false := by
  unfold pvI
  cases h : isP c
  · simp
  · rw [if_pos rfl]
    constructor
    · intro h2
      have h3 : (nI (pv c)).toInt = (-1 : Int32).toInt := by rw [h2]
      have h4 : pv c < 2 ^ 31 := by unfold pv; split <;> omega
      rw [nI_toInt h4] at h3
      have h5 : (-1 : Int32).toInt = -1 := by decide
      omega
    · intro h2; cases h2
theorem c_powerOfM {E : ET} {w : va_W} (hst : E.1.stackTraces = false) (c : Nat) (hc : c < 128) : Ctr E yX5_powerOf cdX5_powerOf (rmL 2) [.int (nI c)] w (pR (some (.int (pvI c))) w) noX 0 0 := by
  refine ctr_of hst (by decide) (Nat.le_of_ble_eq_true rfl) (fun G O OR hN => ?_)
  have O : OKG E G cX5_powerOf RX5 (rmL 2) [] := O
  have hN : nLG G = 1 := hN
  refine v_iload_n O dX5_powerOf_0 rfl ?_
  refine v_bipush (v := nI 48) O dX5_powerOf_1 (by decide) ?_
  refine v_bipush (v := nI 57) O dX5_powerOf_3 (by decide) ?_
  refine v_S1 O dX5_powerOf_5 lkX5_42 (c_withinN hst c 48 57 (by omega) (by decide) (by decide)) rfl rfl rfl (by first | exact hkc | exact Nat.zero_le _) (by first | exact hks | exact Nat.zero_le _) ?_
  refine v_ifB_eq (tgt := 18) O dX5_powerOf_8 (by decide) (fun h => ?_) (fun h => ?_)
  · refine v_iload_n O dX5_powerOf_18 rfl ?_
    refine v_bipush (v := nI 65) O dX5_powerOf_19 (by decide) ?_
    refine v_bipush (v := nI 90) O dX5_powerOf_21 (by decide) ?_
    refine v_S1 O dX5_powerOf_23 lkX5_42 (c_withinN hst c 65 90 (by omega) (by decide) (by decide)) rfl rfl rfl (by first | exact hkc | exact Nat.zero_le _) (by first | exact hks | exact Nat.zero_le _) ?_
    refine v_ifB_eq (tgt := 39) O dX5_powerOf_26 (by decide) (fun h2 => ?_) (fun h2 => ?_)
    · refine v_iconst (v := -1) O dX5_powerOf_39 (by decide) ?_
      exact v_ireturn O OR dX5_powerOf_40 (⟨by unfold pvI isP; rw [h, h2]; rfl, rfl⟩) (Nat.le_of_ble_eq_true rfl) (Nat.le_of_ble_eq_true rfl)
    · have h3 := of_decide_eq_true h2
      refine v_bipush (v := nI 10) O dX5_powerOf_29 (by decide) ?_
      refine v_iload_n O dX5_powerOf_31 rfl ?_
      refine v_iaddN O dX5_powerOf_32 ?_
      refine v_bipush (v := nI 65) O dX5_powerOf_33 (by decide) ?_
      refine v_isubN O dX5_powerOf_35 (by omega) ?_
      refine v_goto (tgt := 40) O dX5_powerOf_36 (by decide) ?_
      exact v_ireturn O OR dX5_powerOf_40 (⟨by unfold pvI isP; rw [h, h2]; simp only [Bool.or_true, if_true]; unfold pv; rw [if_neg (by omega), show 10 + c - 65 = c - 55 by omega], rfl⟩) (Nat.le_of_ble_eq_true rfl) (Nat.le_of_ble_eq_true rfl)
  · have h3 := of_decide_eq_true h
    refine v_iload_n O dX5_powerOf_11 rfl ?_
    refine v_bipush (v := nI 48) O dX5_powerOf_12 (by decide) ?_
    refine v_isubN O dX5_powerOf_14 (by omega) ?_
    refine v_goto (tgt := 40) O dX5_powerOf_15 (by decide) ?_
    exact v_ireturn O OR dX5_powerOf_40 (⟨by unfold pvI isP; rw [h]; simp only [Bool.true_or, if_true]; unfold pv; rw [if_pos (by omega)], rfl⟩) (Nat.le_of_ble_eq_true rfl) (Nat.le_of_ble_eq_true rfl)
/-- the first of len characters that is no power -/
def errAt (cod : Nat → Nat) (len : Nat) : Nat := fa_first (fun i => !isP (cod i)) len
theorem errAt_of {cod : Nat → Nat} {len i : Nat} (hi : i ≤ len) (h : ∀ j, j < i → isP (cod j) = true) (h2 : i = len ∨ isP (cod i) = false) : errAt cod len = i := by
  unfold errAt
  have a1 := fa_first_le (fun i => !isP (cod i)) len
  have a2 := fa_first_no (fun i => !isP (cod i)) len
  have a3 := fa_first_yes (fun i => !isP (cod i)) len
  rcases Nat.lt_trichotomy (fa_first (fun i => !isP (cod i)) len) i with q | q | q
  · have b1 := a3 (by omega)
    have b2 := h _ q
    simp only [b2] at b1
    cases b1
  · exact q
  · have b1 := a2 i q
    rcases h2 with e | e
    · omega
    · simp only [e] at b1
      cases b1
theorem lp_rightLength {E : ET} {G : GT} (O : OKG E G cX5_rightLength RX5 (rmL 3) []) (hN : nLG G = 2) {ad : Nat → Nat} {th n t dr ms : Nat} {pe pw : Nat → Nat} {len : Nat} {cod : Nat → Nat} {mm : Nat} {fs fc fw : Nat → Nat} {sc : Nat → Int64} {li : Nat → Nat} {lm ls lq hs : Int64} (hst : E.1.stackTraces = false) (hl : len ≤ 64) (hcod : ∀ j, j < len → cod j < 128) (kk : V E G 0 0 29 [(0, .ref (ad 0)), (1, .int (nI (errAt cod len)))] [] (WM E ad th n t dr ms pe pw len cod mm fs fc fw sc li lm ls lq hs)) : ∀ j q : Nat, q ≤ len → (∀ i, i < q → isP (cod i) = true) → j = len - q → V E G 0 0 2 [(0, .ref (ad 0)), (1, .int (nI q))] [] (WM E ad th n t dr ms pe pw len cod mm fs fc fw sc li lm ls lq hs) := by
  intro j
  induction j using Nat.strongRecOn with
  | _ j ih =>
    intro q hq hp hj
    refine v_iload_n O dX5_rightLength_2 rfl ?_
    refine v_aload_n O dX5_rightLength_3 rfl ?_
    refine v_get O dX5_rightLength_4 flX5_68 0 rfl rfl ?_
    refine v_icmpN_ge (tgt := 29) O dX5_rightLength_7 (by decide) (by omega) (by omega) (fun h => ?_) (fun h => ?_)
    · have e : errAt cod len = q := errAt_of hq hp (Or.inl (by omega))
      rw [e] at kk
      exact kk
    · refine v_aload_n O dX5_rightLength_10 rfl ?_
      refine v_get O dX5_rightLength_11 flX5_20 0 rfl rfl ?_
      refine v_iload_n O dX5_rightLength_14 rfl ?_
      refine v_iald O dX5_rightLength_15 3 rfl (by decide) (by omega) ?_
      refine v_S1 O dX5_rightLength_16 lkX5_71 (c_powerOfM hst (cod q) (hcod q (by omega))) rfl rfl rfl (by first | exact hkc | exact Nat.zero_le _) (by first | exact hks | exact Nat.zero_le _) ?_
      refine v_iconst (v := -1) O dX5_rightLength_19 (by decide) ?_
      refine v_icmp_eq (tgt := 29) O dX5_rightLength_20 (by decide) (fun h2 => ?_) (fun h2 => ?_)
      · have e : errAt cod len = q := errAt_of hq hp (Or.inr ((pvI_m1 (hcod q (by omega))).mp h2))
        rw [e] at kk
        exact kk
      · have h3 : isP (cod q) = true := by
          cases h4 : isP (cod q)
          · exact absurd ((pvI_m1 (hcod q (by omega))).mpr h4) h2
          · rfl
        refine v_iincN (b := 1) O dX5_rightLength_23 rfl (by decide) (by rw [hN]; decide) ?_
        refine v_goto (tgt := 2) O dX5_rightLength_26 (by decide) ?_
        refine v_ord [0, 1] ?_
        exact ih (j - 1) (by omega) (q + 1) (by omega) (fun i hi => by
          rcases Nat.lt_or_ge i q with g | g
          · exact hp i g
          · rw [show i = q by omega]; exact h3) (by omega)
theorem c_rightLength {E : ET} {ad : Nat → Nat} {th n t dr ms : Nat} {pe pw : Nat → Nat} {len : Nat} {cod : Nat → Nat} {mm : Nat} {fs fc fw : Nat → Nat} {sc : Nat → Int64} {li : Nat → Nat} {lm ls lq hs : Int64} (hst : E.1.stackTraces = false) (hl : len ≤ 64) (hcod : ∀ j, j < len → cod j < 128) : Ctr E yX5_rightLength cdX5_rightLength (rmL 3) [.ref (ad 0)] (WM E ad th n t dr ms pe pw len cod mm fs fc fw sc li lm ls lq hs) (pR (some (.int (nI (errAt cod len)))) (WM E ad th n t dr ms pe pw len cod mm fs fc fw sc li lm ls lq hs)) noX 0 0 := by
  refine ctr_of hst (by decide) (Nat.le_of_ble_eq_true rfl) (fun G O OR hN => ?_)
  have O : OKG E G cX5_rightLength RX5 (rmL 3) [] := O
  have hN : nLG G = 2 := hN
  refine v_iconst (v := nI 0) O dX5_rightLength_0 (by decide) ?_
  refine v_istore_n O dX5_rightLength_1 (by rw [hN]; decide) ?_
  refine v_ord [0, 1] ?_
  refine lp_rightLength O hN hst hl hcod ?_ len 0 (by omega) (fun i hi => by omega) (by omega)
  refine v_iload_n O dX5_rightLength_29 rfl ?_
  exact v_ireturn O OR dX5_rightLength_30 (⟨rfl, rfl⟩) (Nat.le_of_ble_eq_true rfl) (Nat.le_of_ble_eq_true rfl)
-- offsets
def tof : Nat → Nat → Nat → Nat
  | 0, _, _ => 0
  | k + 1, d, c => if 2 ^ k ≤ c then (d - d / 2) + tof k (d / 2) (c - 2 ^ k) else tof k (d / 2) c
theorem tof_le : ∀ k d c : Nat, tof k d c ≤ d
  | 0, d, c => Nat.zero_le d
  | k + 1, d, c => by
    unfold tof
    split
    · have := tof_le k (d / 2) (c - 2 ^ k)
      omega
    · have := tof_le k (d / 2) c
      omega
def sof (n d c : Nat) : Nat := (2 * d * c + (n - 1)) / (2 * (n - 1))
theorem sof_le {n d c : Nat} (hn : 2 ≤ n) (hc : c < n) : sof n d c ≤ d := by
  unfold sof
  apply Nat.le_of_lt_succ
  rw [Nat.div_lt_iff_lt_mul (by omega)]
  have h1 : d * c ≤ d * (n - 1) := Nat.mul_le_mul_left d (by omega)
  have h2 : d.succ * (2 * (n - 1)) = 2 * (d * (n - 1)) + 2 * (n - 1) := by rw [Nat.succ_mul, Nat.mul_left_comm]
  have h3 : 2 * d * c = 2 * (d * c) := Nat.mul_assoc 2 d c
  omega
theorem lp_treeOffsetM {E : ET} {G : GT} {R0 : Room} {tb : List ExceptionTableEntry} (O : OKG E G cX5_treeOffset RX5 R0 tb) (hN : nLG G = 8) {w : va_W} : ∀ k b d c acc : Nat, k ≤ 4 → b = 2 ^ k → d < 2 ^ 20 → c < 2 ^ 20 → acc + d < 2 ^ 20 → V E G 0 0 65 [(3, .int (nI (acc + tof k d c)))] [] w → V E G 0 0 14 [(3, .int (nI acc)), (4, .int (nI d)), (5, .int (nI c)), (6, .int (nI b))] [] w := by
  intro k
  induction k with
  | zero =>
    intro b d c acc hk hb hd hc ha kk
    have hb : b = 1 := hb
    subst hb
    refine v_iload O dX5_treeOffset_14 rfl ?_
    refine v_iconst (v := nI 1) O dX5_treeOffset_16 (by decide) ?_
    refine v_icmpN_le (tgt := 65) O dX5_treeOffset_17 (by decide) (by omega) (by omega) (fun h => ?_) (fun h => ?_)
    · refine v_ord [3] ?_
      exact kk
    · omega
  | succ k ih =>
    intro b d c acc hk hb hd hc ha kk
    have h2 : b = 2 * 2 ^ k := by rw [hb, Nat.pow_succ']
    have h16 : 2 ^ k ≤ 16 := Nat.pow_le_pow_right (n := 2) (i := k) (j := 4) (by decide) (by omega)
    have h1 : 1 ≤ 2 ^ k := Nat.one_le_two_pow
    have h3 : b / 2 = 2 ^ k := by omega
    refine v_iload O dX5_treeOffset_14 rfl ?_
    refine v_iconst (v := nI 1) O dX5_treeOffset_16 (by decide) ?_
    refine v_icmpN_le (tgt := 65) O dX5_treeOffset_17 (by decide) (by omega) (by omega) (fun h => ?_) (fun h => ?_)
    · omega
    · refine v_iload O dX5_treeOffset_20 rfl ?_
      refine v_iconst (v := nI 2) O dX5_treeOffset_22 (by decide) ?_
      refine v_idivN O dX5_treeOffset_23 (by omega) (by omega) (by omega) ?_
      refine v_istore O dX5_treeOffset_24 (by rw [hN]; decide) ?_
      refine v_iload O dX5_treeOffset_26 rfl ?_
      refine v_iload O dX5_treeOffset_28 rfl ?_
      refine v_iconst (v := nI 2) O dX5_treeOffset_30 (by decide) ?_
      refine v_idivN O dX5_treeOffset_31 (by omega) (by omega) (by omega) ?_
      refine v_icmpN_lt (tgt := 52) O dX5_treeOffset_32 (by decide) (by omega) (by omega) (fun h4 => ?_) (fun h4 => ?_)
      · refine v_iload O dX5_treeOffset_52 rfl ?_
        refine v_istore O dX5_treeOffset_54 (by rw [hN]; decide) ?_
        refine v_iload O dX5_treeOffset_56 rfl ?_
        refine v_iconst (v := nI 2) O dX5_treeOffset_58 (by decide) ?_
        refine v_idivN O dX5_treeOffset_59 (by omega) (by omega) (by omega) ?_
        refine v_istore O dX5_treeOffset_60 (by rw [hN]; decide) ?_
        refine v_goto (tgt := 14) O dX5_treeOffset_62 (by decide) ?_
        refine v_ord [3, 4, 5, 6] ?_
        refine ih (b / 2) (d / 2) c acc (by omega) h3 (by omega) hc (by omega) ?_
        unfold tof at kk
        rw [if_neg (by omega)] at kk
        exact kk
      · refine v_iload_n O dX5_treeOffset_35 rfl ?_
        refine v_iload O dX5_treeOffset_36 rfl ?_
        refine v_iload O dX5_treeOffset_38 rfl ?_
        refine v_isubN O dX5_treeOffset_40 (by omega) ?_
        refine v_iaddN O dX5_treeOffset_41 ?_
        refine v_istore_n O dX5_treeOffset_42 (by rw [hN]; decide) ?_
        refine v_iload O dX5_treeOffset_43 rfl ?_
        refine v_iload O dX5_treeOffset_45 rfl ?_
        refine v_iconst (v := nI 2) O dX5_treeOffset_47 (by decide) ?_
        refine v_idivN O dX5_treeOffset_48 (by omega) (by omega) (by omega) ?_
        refine v_isubN O dX5_treeOffset_49 (by omega) ?_
        refine v_istore O dX5_treeOffset_50 (by rw [hN]; decide) ?_
        refine v_iload O dX5_treeOffset_52 rfl ?_
        refine v_istore O dX5_treeOffset_54 (by rw [hN]; decide) ?_
        refine v_iload O dX5_treeOffset_56 rfl ?_
        refine v_iconst (v := nI 2) O dX5_treeOffset_58 (by decide) ?_
        refine v_idivN O dX5_treeOffset_59 (by omega) (by omega) (by omega) ?_
        refine v_istore O dX5_treeOffset_60 (by rw [hN]; decide) ?_
        refine v_goto (tgt := 14) O dX5_treeOffset_62 (by decide) ?_
        refine v_ord [3, 4, 5, 6] ?_
        refine ih (b / 2) (d / 2) (c - b / 2) (acc + (d - d / 2)) (by omega) h3 (by omega) (by omega) (by omega) ?_
        unfold tof at kk
        rw [if_pos (by omega), ← h3, ← Nat.add_assoc] at kk
        exact kk
theorem c_treeOffsetM {E : ET} {ad : Nat → Nat} {th n t dr ms : Nat} {pe pw : Nat → Nat} {len : Nat} {cod : Nat → Nat} {mm : Nat} {fs fc fw : Nat → Nat} {sc : Nat → Int64} {li : Nat → Nat} {lm ls lq hs : Int64} {K : Nat} (hst : E.1.stackTraces = false) (hK : K ≤ 4) (hn : n = 2 ^ K) (d c : Nat) (hd : d < 16) (hc : c < 16) : Ctr E yX5_treeOffset cdX5_treeOffset (rmL 1) [.ref (ad 0), .int (nI d), .int (nI c)] (WM E ad th n t dr ms pe pw len cod mm fs fc fw sc li lm ls lq hs) (pR (some (.int (nI (tof K d c)))) (WM E ad th n t dr ms pe pw len cod mm fs fc fw sc li lm ls lq hs)) noX 0 0 := by
  refine ctr_of hst (by decide) (Nat.le_of_ble_eq_true rfl) (fun G O OR hN => ?_)
  have O : OKG E G cX5_treeOffset RX5 (rmL 1) [] := O
  have hN : nLG G = 8 := hN
  refine v_iconst (v := nI 0) O dX5_treeOffset_0 (by decide) ?_
  refine v_istore_n O dX5_treeOffset_1 (by rw [hN]; decide) ?_
  refine v_iload_n O dX5_treeOffset_2 rfl ?_
  refine v_istore O dX5_treeOffset_3 (by rw [hN]; decide) ?_
  refine v_iload_n O dX5_treeOffset_5 rfl ?_
  refine v_istore O dX5_treeOffset_6 (by rw [hN]; decide) ?_
  refine v_aload_n O dX5_treeOffset_8 rfl ?_
  refine v_get O dX5_treeOffset_9 flX5_7 0 rfl rfl ?_
  refine v_istore O dX5_treeOffset_12 (by rw [hN]; decide) ?_
  refine v_ord [3, 4, 5, 6] ?_
  refine lp_treeOffsetM O hN K n d c 0 hK hn (by omega) (by omega) (by omega) ?_
  rw [Nat.zero_add]
  refine v_iload_n O dX5_treeOffset_65 rfl ?_
  exact v_ireturn O OR dX5_treeOffset_66 (⟨rfl, rfl⟩) (Nat.le_of_ble_eq_true rfl) (Nat.le_of_ble_eq_true rfl)
theorem c_straightOffsetM {E : ET} {ad : Nat → Nat} {th n t dr ms : Nat} {pe pw : Nat → Nat} {len : Nat} {cod : Nat → Nat} {mm : Nat} {fs fc fw : Nat → Nat} {sc : Nat → Int64} {li : Nat → Nat} {lm ls lq hs : Int64} (hst : E.1.stackTraces = false) (hn : 2 ≤ n) (hn2 : n ≤ 16) (d c : Nat) (hd : d < 16) (hc : c < 16) : Ctr E yX5_straightOffset cdX5_straightOffset (rmL 1) [.ref (ad 0), .int (nI d), .int (nI c)] (WM E ad th n t dr ms pe pw len cod mm fs fc fw sc li lm ls lq hs) (pR (some (.int (nI (sof n d c)))) (WM E ad th n t dr ms pe pw len cod mm fs fc fw sc li lm ls lq hs)) noX 0 0 := by
  have h9 : 2 * d * c ≤ 2 * d * 16 := Nat.mul_le_mul_left _ (by omega)
  refine ctr_of hst (by decide) (Nat.le_of_ble_eq_true rfl) (fun G O OR hN => ?_)
  have O : OKG E G cX5_straightOffset RX5 (rmL 1) [] := O
  have hN : nLG G = 4 := hN
  refine v_aload_n O dX5_straightOffset_0 rfl ?_
  refine v_get O dX5_straightOffset_1 flX5_7 0 rfl rfl ?_
  refine v_iconst (v := nI 1) O dX5_straightOffset_4 (by decide) ?_
  refine v_isubN O dX5_straightOffset_5 (by omega) ?_
  refine v_istore_n O dX5_straightOffset_6 (by rw [hN]; decide) ?_
  refine v_iconst (v := nI 2) O dX5_straightOffset_7 (by decide) ?_
  refine v_iload_n O dX5_straightOffset_8 rfl ?_
  refine v_imulN O dX5_straightOffset_9 ?_
  refine v_iload_n O dX5_straightOffset_10 rfl ?_
  refine v_imulN O dX5_straightOffset_11 ?_
  refine v_iload_n O dX5_straightOffset_12 rfl ?_
  refine v_iaddN O dX5_straightOffset_13 ?_
  refine v_iconst (v := nI 2) O dX5_straightOffset_14 (by decide) ?_
  refine v_iload_n O dX5_straightOffset_15 rfl ?_
  refine v_imulN O dX5_straightOffset_16 ?_
  refine v_idivN O dX5_straightOffset_17 (by omega) (by omega) (by omega) ?_
  exact v_ireturn O OR dX5_straightOffset_18 (⟨rfl, rfl⟩) (Nat.le_of_ble_eq_true rfl) (Nat.le_of_ble_eq_true rfl)
end
section
def oby (K n : Nat) (s : Bool) (d c : Nat) : Nat := if s = true then sof n d c else tof K d c
theorem oby_le {K n d c : Nat} {s : Bool} (hn : 2 ≤ n) (hc : c < n) : oby K n s d c ≤ d := by
  unfold oby
  split
  · exact sof_le hn hc
  · exact tof_le K d c
theorem two_le {K n : Nat} (h : n = 2 ^ K) (h1 : 1 ≤ K) (h2 : K ≤ 4) : 2 ≤ n ∧ n ≤ 16 := by
  subst h
  exact ⟨Nat.pow_le_pow_right (n := 2) (i := 1) (j := K) (by decide) h1, Nat.pow_le_pow_right (n := 2) (i := K) (j := 4) (by decide) h2⟩
theorem c_offsetBy {E : ET} {ad : Nat → Nat} {th n t dr ms : Nat} {pe pw : Nat → Nat} {len : Nat} {cod : Nat → Nat} {mm : Nat} {fs fc fw : Nat → Nat} {sc : Nat → Int64} {li : Nat → Nat} {lm ls lq hs : Int64} {K : Nat} (hst : E.1.stackTraces = false) (hK : 1 ≤ K) (hK4 : K ≤ 4) (hn : n = 2 ^ K) (d c : Nat) (s : Bool) (hd : d < 16) (hc : c < 16) : Ctr E yX5_offsetBy cdX5_offsetBy (rmL 2) [.ref (ad 0), .int (nI d), .int (nI c), .int (bI s)] (WM E ad th n t dr ms pe pw len cod mm fs fc fw sc li lm ls lq hs) (pR (some (.int (nI (oby K n s d c)))) (WM E ad th n t dr ms pe pw len cod mm fs fc fw sc li lm ls lq hs)) noX 0 0 := by
  obtain ⟨g1, g2⟩ := two_le hn hK hK4
  refine ctr_of hst (by decide) (Nat.le_of_ble_eq_true rfl) (fun G O OR hN => ?_)
  have O : OKG E G cX5_offsetBy RX5 (rmL 2) [] := O
  have hN : nLG G = 4 := hN
  refine v_iload_n O dX5_offsetBy_0 rfl ?_
  refine v_ifB_eq (tgt := 13) O dX5_offsetBy_1 (by decide) (fun h => ?_) (fun h => ?_)
  · refine v_aload_n O dX5_offsetBy_13 rfl ?_
    refine v_iload_n O dX5_offsetBy_14 rfl ?_
    refine v_iload_n O dX5_offsetBy_15 rfl ?_
    refine v_V1 O dX5_offsetBy_16 lkX5_83 (c_treeOffsetM hst hK4 hn d c hd hc) 0 rfl rfl rfl rfl rfl (by first | exact hkc | exact Nat.zero_le _) (by first | exact hks | exact Nat.zero_le _) ?_
    exact v_ireturn O OR dX5_offsetBy_19 (⟨by unfold oby; rw [h]; rfl, rfl⟩) (Nat.le_of_ble_eq_true rfl) (Nat.le_of_ble_eq_true rfl)
  · refine v_aload_n O dX5_offsetBy_4 rfl ?_
    refine v_iload_n O dX5_offsetBy_5 rfl ?_
    refine v_iload_n O dX5_offsetBy_6 rfl ?_
    refine v_V1 O dX5_offsetBy_7 lkX5_79 (c_straightOffsetM hst g1 g2 d c hd hc) 0 rfl rfl rfl rfl rfl (by first | exact hkc | exact Nat.zero_le _) (by first | exact hks | exact Nat.zero_le _) ?_
    refine v_goto (tgt := 19) O dX5_offsetBy_10 (by decide) ?_
    exact v_ireturn O OR dX5_offsetBy_19 (⟨by unfold oby; rw [h]; rfl, rfl⟩) (Nat.le_of_ble_eq_true rfl) (Nat.le_of_ble_eq_true rfl)
def adf (a b : Nat) : Nat := if b ≤ a then a - b else b - a
def bmx (f : Nat → Nat) : Nat → Nat
  | 0 => 0
  | k + 1 => max (bmx f k) (f k)
def bnd (K n d : Nat) (k : Nat) : Nat := bmx (fun c => adf (tof K d c) (sof n d c)) k
theorem sub_ge {a b : Nat} (ha : a < 2 ^ 30) (hb : b < 2 ^ 30) : 0 ≤ nI a - nI b ↔ b ≤ a := by
  rw [fa_le, pk_sub_toInt ha hb, show (0 : Int32).toInt = 0 from rfl]
  omega
theorem neg_sb {a b : Nat} (ha : a < 2 ^ 30) (hb : b < 2 ^ 30) (h : a ≤ b) : -(nI a - nI b) = nI (b - a) := by
  have e := pk_sub_toInt ha hb
  rw [fa_eq, fb_negI (by omega), e, nI_toInt (by omega)]
  omega
theorem zsub_sb {a b : Nat} (ha : a < 2 ^ 30) (hb : b < 2 ^ 30) (h : a ≤ b) : 0 - (nI a - nI b) = nI (b - a) := by
  have e := pk_sub_toInt ha hb
  rw [fa_eq, fb_subI (by rw [e, show (0 : Int32).toInt = 0 from rfl]; omega) (by rw [e, show (0 : Int32).toInt = 0 from rfl]; omega), e, nI_toInt (by omega), show (0 : Int32).toInt = 0 from rfl]
  omega
theorem bmx_le {f : Nat → Nat} {B : Nat} : ∀ k : Nat, (∀ c, c < k → f c ≤ B) → bmx f k ≤ B
  | 0, _ => Nat.zero_le B
  | k + 1, h => by
    have h1 := bmx_le (f := f) (B := B) k (fun c hc => h c (by omega))
    have h2 := h k (by omega)
    show max _ _ ≤ B
    omega
theorem adf_le {a b d : Nat} (ha : a ≤ d) (hb : b ≤ d) : adf a b ≤ d := by unfold adf; split <;> omega
theorem lp_bendOf {E : ET} {G : GT} (O : OKG E G cX5_bendOf RX5 (rmL 2) []) (hN : nLG G = 5) {ad : Nat → Nat} {th n t dr ms : Nat} {pe pw : Nat → Nat} {len : Nat} {cod : Nat → Nat} {mm : Nat} {fs fc fw : Nat → Nat} {sc : Nat → Int64} {li : Nat → Nat} {lm ls lq hs : Int64} {K d : Nat} (hst : E.1.stackTraces = false) (hK : 1 ≤ K) (hK4 : K ≤ 4) (hn : n = 2 ^ K) (hd : d < 16) (kk : V E G 0 0 61 [(2, .int (nI (bnd K n d n)))] [] (WM E ad th n t dr ms pe pw len cod mm fs fc fw sc li lm ls lq hs)) : ∀ j q : Nat, q ≤ n → j = n - q → V E G 0 0 4 [(0, .ref (ad 0)), (1, .int (nI d)), (2, .int (nI (bnd K n d q))), (3, .int (nI q))] [] (WM E ad th n t dr ms pe pw len cod mm fs fc fw sc li lm ls lq hs) := by
  obtain ⟨g1, g2⟩ := two_le hn hK hK4
  intro j
  induction j using Nat.strongRecOn with
  | _ j ih =>
    intro q hq hj
    have hb : bnd K n d q ≤ d := bmx_le q (fun c hc => adf_le (tof_le K d c) (sof_le g1 (by omega)))
    refine v_iload_n O dX5_bendOf_4 rfl ?_
    refine v_aload_n O dX5_bendOf_5 rfl ?_
    refine v_get O dX5_bendOf_6 flX5_7 0 rfl rfl ?_
    refine v_icmpN_ge (tgt := 61) O dX5_bendOf_9 (by decide) (by omega) (by omega) (fun h => ?_) (fun h => ?_)
    · have e : q = n := by omega
      subst e
      refine v_ord [2] ?_
      exact kk
    · have ht := tof_le K d q
      have hsf := sof_le (d := d) g1 h
      have hx : adf (tof K d q) (sof n d q) ≤ d := adf_le ht hsf
      have key : V E G 0 0 40 [(0, .ref (ad 0)), (1, .int (nI d)), (2, .int (nI (bnd K n d q))), (3, .int (nI q))] [.int (nI (adf (tof K d q) (sof n d q)))] (WM E ad th n t dr ms pe pw len cod mm fs fc fw sc li lm ls lq hs) := by
        have key2 : V E G 0 0 54 [(0, .ref (ad 0)), (1, .int (nI d)), (2, .int (nI (bnd K n d q))), (3, .int (nI q))] [.int (nI (bnd K n d (q + 1)))] (WM E ad th n t dr ms pe pw len cod mm fs fc fw sc li lm ls lq hs) := by
          refine v_istore_n O dX5_bendOf_54 (by rw [hN]; decide) ?_
          refine v_iincN (b := 1) O dX5_bendOf_55 rfl (by decide) (by rw [hN]; decide) ?_
          refine v_goto (tgt := 4) O dX5_bendOf_58 (by decide) ?_
          refine v_ord [0, 1, 2, 3] ?_
          exact ih (j - 1) (by omega) (q + 1) (by omega) (by omega)
        refine v_istore O dX5_bendOf_40 (by rw [hN]; decide) ?_
        refine v_iload O dX5_bendOf_42 rfl ?_
        refine v_iload_n O dX5_bendOf_44 rfl ?_
        refine v_icmpN_le (tgt := 53) O dX5_bendOf_45 (by decide) (by omega) (by omega) (fun h2 => ?_) (fun h2 => ?_)
        · refine v_iload_n O dX5_bendOf_53 rfl ?_
          refine v_ord [0, 1, 2, 3] ?_
          refine v_st ?_ key2
          rw [show bnd K n d (q + 1) = max (bnd K n d q) (adf (tof K d q) (sof n d q)) from rfl, Nat.max_eq_left h2]
        · refine v_iload O dX5_bendOf_48 rfl ?_
          refine v_goto (tgt := 54) O dX5_bendOf_50 (by decide) ?_
          refine v_ord [0, 1, 2, 3] ?_
          refine v_st ?_ key2
          rw [show bnd K n d (q + 1) = max (bnd K n d q) (adf (tof K d q) (sof n d q)) from rfl, Nat.max_eq_right (by omega)]
      refine v_aload_n O dX5_bendOf_12 rfl ?_
      refine v_iload_n O dX5_bendOf_13 rfl ?_
      refine v_iload_n O dX5_bendOf_14 rfl ?_
      refine v_V1 O dX5_bendOf_15 lkX5_83 (c_treeOffsetM hst hK4 hn d q hd (by omega)) 0 rfl rfl rfl rfl rfl (by first | exact hkc | exact Nat.zero_le _) (by first | exact hks | exact Nat.zero_le _) ?_
      refine v_aload_n O dX5_bendOf_18 rfl ?_
      refine v_iload_n O dX5_bendOf_19 rfl ?_
      refine v_iload_n O dX5_bendOf_20 rfl ?_
      refine v_V1 O dX5_bendOf_21 lkX5_79 (c_straightOffsetM hst g1 g2 d q hd (by omega)) 0 rfl rfl rfl rfl rfl (by first | exact hkc | exact Nat.zero_le _) (by first | exact hks | exact Nat.zero_le _) ?_
      refine v_isub O dX5_bendOf_24 ?_
      refine v_istore O dX5_bendOf_25 (by rw [hN]; decide) ?_
      refine v_iload O dX5_bendOf_27 rfl ?_
      refine v_if_ge (tgt := 38) O dX5_bendOf_29 (by decide) (fun h3 => ?_) (fun h3 => ?_)
      · refine v_iload O dX5_bendOf_38 rfl ?_
        refine v_ord [0, 1, 2, 3] ?_
        refine v_st ?_ key
        have h4 := (sub_ge (by omega) (by omega)).mp h3
        unfold adf
        rw [if_pos h4, pk_sub h4]
      · refine v_iload O dX5_bendOf_32 rfl ?_
        refine v_ineg O dX5_bendOf_34 ?_
        refine v_goto (tgt := 40) O dX5_bendOf_35 (by decide) ?_
        refine v_ord [0, 1, 2, 3] ?_
        refine v_st ?_ key
        have h4 : ¬ sof n d q ≤ tof K d q := fun z => h3 ((sub_ge (by omega) (by omega)).mpr z)
        unfold adf
        rw [if_neg h4, neg_sb (by omega) (by omega) (by omega)]
theorem c_bendOf {E : ET} {ad : Nat → Nat} {th n t dr ms : Nat} {pe pw : Nat → Nat} {len : Nat} {cod : Nat → Nat} {mm : Nat} {fs fc fw : Nat → Nat} {sc : Nat → Int64} {li : Nat → Nat} {lm ls lq hs : Int64} {K d : Nat} (hst : E.1.stackTraces = false) (hK : 1 ≤ K) (hK4 : K ≤ 4) (hn : n = 2 ^ K) (hd : d < 16) : Ctr E yX5_bendOf cdX5_bendOf (rmL 2) [.ref (ad 0), .int (nI d)] (WM E ad th n t dr ms pe pw len cod mm fs fc fw sc li lm ls lq hs) (pR (some (.int (nI (bnd K n d n)))) (WM E ad th n t dr ms pe pw len cod mm fs fc fw sc li lm ls lq hs)) noX 0 0 := by
  refine ctr_of hst (by decide) (Nat.le_of_ble_eq_true rfl) (fun G O OR hN => ?_)
  have O : OKG E G cX5_bendOf RX5 (rmL 2) [] := O
  have hN : nLG G = 5 := hN
  refine v_iconst (v := nI 0) O dX5_bendOf_0 (by decide) ?_
  refine v_istore_n O dX5_bendOf_1 (by rw [hN]; decide) ?_
  refine v_iconst (v := nI 0) O dX5_bendOf_2 (by decide) ?_
  refine v_istore_n O dX5_bendOf_3 (by rw [hN]; decide) ?_
  refine v_ord [0, 1, 2, 3] ?_
  refine lp_bendOf O hN hst hK hK4 hn hd ?_ n 0 (by omega) (by omega)
  refine v_iload_n O dX5_bendOf_61 rfl ?_
  exact v_ireturn O OR dX5_bendOf_62 (⟨rfl, rfl⟩) (Nat.le_of_ble_eq_true rfl) (Nat.le_of_ble_eq_true rfl)
-- masks
def mb (ms c : Nat) : Bool := decide (ms / 2 ^ c % 2 = 1)
theorem c_isMasked {E : ET} {ad : Nat → Nat} {th n t dr ms : Nat} {pe pw : Nat → Nat} {len : Nat} {cod : Nat → Nat} {mm : Nat} {fs fc fw : Nat → Nat} {sc : Nat → Int64} {li : Nat → Nat} {lm ls lq hs : Int64} (hst : E.1.stackTraces = false) (hm : ms < 65536) (c : Nat) (hc : c < 16) : Ctr E yX5_isMasked cdX5_isMasked (rmL 1) [.ref (ad 0), .int (nI c)] (WM E ad th n t dr ms pe pw len cod mm fs fc fw sc li lm ls lq hs) (pR (some (.int (bI (mb ms c)))) (WM E ad th n t dr ms pe pw len cod mm fs fc fw sc li lm ls lq hs)) noX 0 0 := by
  refine ctr_of hst (by decide) (Nat.le_of_ble_eq_true rfl) (fun G O OR hN => ?_)
  have O : OKG E G cX5_isMasked RX5 (rmL 1) [] := O
  have hN : nLG G = 2 := hN
  refine v_aload_n O dX5_isMasked_0 rfl ?_
  refine v_get O dX5_isMasked_1 flX5_52 0 rfl rfl ?_
  refine v_iload_n O dX5_isMasked_4 rfl ?_
  refine v_ishrN O dX5_isMasked_5 (by omega) (by omega) ?_
  refine v_iconst (v := nI 1) O dX5_isMasked_6 (by decide) ?_
  refine v_iandN O dX5_isMasked_7 ?_
  refine v_iconst (v := nI 1) O dX5_isMasked_8 (by decide) ?_
  rw [Nat.and_one_is_mod]
  refine v_icmpN_ne (tgt := 16) O dX5_isMasked_9 (by decide) (by omega) (by omega) (fun h => ?_) (fun h => ?_)
  · refine v_iconst (v := nI 0) O dX5_isMasked_16 (by decide) ?_
    exact v_zreturn O OR dX5_isMasked_17 (by decide) (⟨by unfold mb; rw [decide_eq_false h]; rfl, rfl⟩) (Nat.le_of_ble_eq_true rfl) (Nat.le_of_ble_eq_true rfl)
  · refine v_iconst (v := nI 1) O dX5_isMasked_12 (by decide) ?_
    refine v_goto (tgt := 17) O dX5_isMasked_13 (by decide) ?_
    exact v_zreturn O OR dX5_isMasked_17 (by decide) (⟨by unfold mb; rw [decide_eq_true h]; rfl, rfl⟩) (Nat.le_of_ble_eq_true rfl) (Nat.le_of_ble_eq_true rfl)
def ons (ms k : Nat) : Nat := sm (fun c => ms / 2 ^ c % 2) k
theorem lp_ones {E : ET} {G : GT} {R0 : Room} {tb : List ExceptionTableEntry} (O : OKG E G cX5_ones RX5 R0 tb) (hN : nLG G = 3) {w : va_W} {ms : Nat} (hm : ms < 65536) (kk : V E G 0 0 24 [(1, .int (nI (ons ms 16)))] [] w) : ∀ j q : Nat, q ≤ 16 → j = 16 - q → V E G 0 0 4 [(0, .int (nI ms)), (1, .int (nI (ons ms q))), (2, .int (nI q))] [] w := by
  intro j
  induction j using Nat.strongRecOn with
  | _ j ih =>
    intro q hq hj
    refine v_iload_n O dX5_ones_4 rfl ?_
    refine v_bipush (v := nI 16) O dX5_ones_5 (by decide) ?_
    refine v_icmpN_ge (tgt := 24) O dX5_ones_7 (by decide) (by omega) (by omega) (fun h => ?_) (fun h => ?_)
    · have e : q = 16 := by omega
      subst e
      refine v_ord [1] ?_
      exact kk
    · refine v_iload_n O dX5_ones_10 rfl ?_
      refine v_iload_n O dX5_ones_11 rfl ?_
      refine v_iload_n O dX5_ones_12 rfl ?_
      refine v_ishrN O dX5_ones_13 (by omega) (by omega) ?_
      refine v_iconst (v := nI 1) O dX5_ones_14 (by decide) ?_
      refine v_iandN O dX5_ones_15 ?_
      rw [Nat.and_one_is_mod]
      refine v_iaddN O dX5_ones_16 ?_
      refine v_istore_n O dX5_ones_17 (by rw [hN]; decide) ?_
      refine v_iincN (b := 1) O dX5_ones_18 rfl (by decide) (by rw [hN]; decide) ?_
      refine v_goto (tgt := 4) O dX5_ones_21 (by decide) ?_
      refine v_ord [0, 1, 2] ?_
      exact ih (j - 1) (by omega) (q + 1) (by omega) (by omega)
theorem c_ones {E : ET} {w : va_W} {ms : Nat} (hst : E.1.stackTraces = false) (hm : ms < 65536) : Ctr E yX5_ones cdX5_ones (rmL 1) [.int (nI ms)] w (pR (some (.int (nI (ons ms 16)))) w) noX 0 0 := by
  refine ctr_of hst (by decide) (Nat.le_of_ble_eq_true rfl) (fun G O OR hN => ?_)
  have O : OKG E G cX5_ones RX5 (rmL 1) [] := O
  have hN : nLG G = 3 := hN
  refine v_iconst (v := nI 0) O dX5_ones_0 (by decide) ?_
  refine v_istore_n O dX5_ones_1 (by rw [hN]; decide) ?_
  refine v_iconst (v := nI 0) O dX5_ones_2 (by decide) ?_
  refine v_istore_n O dX5_ones_3 (by rw [hN]; decide) ?_
  refine v_ord [0, 1, 2] ?_
  refine lp_ones O hN hm ?_ 16 0 (by omega) (by omega)
  refine v_iload_n O dX5_ones_24 rfl ?_
  exact v_ireturn O OR dX5_ones_25 (⟨rfl, rfl⟩) (Nat.le_of_ble_eq_true rfl) (Nat.le_of_ble_eq_true rfl)
def cnt5 (n t dr o mm a : Nat) : Nat := if a = 0 then n else if a = 1 then t else if a = 2 then dr else if a = 3 then o else mm
theorem c_countOf {E : ET} {ad : Nat → Nat} {th n t dr ms : Nat} {pe pw : Nat → Nat} {len : Nat} {cod : Nat → Nat} {mm : Nat} {fs fc fw : Nat → Nat} {sc : Nat → Int64} {li : Nat → Nat} {lm ls lq hs : Int64} (hst : E.1.stackTraces = false) (hm : ms < 65536) (a : Nat) (ha : a < 5) : Ctr E yX5_countOf cdX5_countOf (rmL 2) [.ref (ad 0), .int (nI a)] (WM E ad th n t dr ms pe pw len cod mm fs fc fw sc li lm ls lq hs) (pR (some (.int (nI (cnt5 n t dr (ons ms 16) mm a)))) (WM E ad th n t dr ms pe pw len cod mm fs fc fw sc li lm ls lq hs)) noX 0 0 := by
  unfold cnt5
  refine ctr_of hst (by decide) (Nat.le_of_ble_eq_true rfl) (fun G O OR hN => ?_)
  have O : OKG E G cX5_countOf RX5 (rmL 2) [] := O
  have hN : nLG G = 2 := hN
  refine v_iload_n O dX5_countOf_0 rfl ?_
  refine v_ifN_ne (tgt := 11) O dX5_countOf_1 (by decide) (by omega) (fun h => ?_) (fun h => ?_)
  · refine v_iload_n O dX5_countOf_11 rfl ?_
    refine v_iconst (v := nI 1) O dX5_countOf_12 (by decide) ?_
    refine v_icmpN_ne (tgt := 23) O dX5_countOf_13 (by decide) (by omega) (by omega) (fun h1 => ?_) (fun h1 => ?_)
    · refine v_iload_n O dX5_countOf_23 rfl ?_
      refine v_iconst (v := nI 2) O dX5_countOf_24 (by decide) ?_
      refine v_icmpN_ne (tgt := 35) O dX5_countOf_25 (by decide) (by omega) (by omega) (fun h2 => ?_) (fun h2 => ?_)
      · refine v_iload_n O dX5_countOf_35 rfl ?_
        refine v_iconst (v := nI 3) O dX5_countOf_36 (by decide) ?_
        refine v_icmpN_ne (tgt := 50) O dX5_countOf_37 (by decide) (by omega) (by omega) (fun h3 => ?_) (fun h3 => ?_)
        · refine v_aload_n O dX5_countOf_50 rfl ?_
          refine v_get O dX5_countOf_51 flX5_55 0 rfl rfl ?_
          exact v_ireturn O OR dX5_countOf_54 (⟨by rw [if_neg (by omega), if_neg (by omega), if_neg (by omega), if_neg (by omega)], rfl⟩) (Nat.le_of_ble_eq_true rfl) (Nat.le_of_ble_eq_true rfl)
        · refine v_aload_n O dX5_countOf_40 rfl ?_
          refine v_get O dX5_countOf_41 flX5_52 0 rfl rfl ?_
          refine v_S1 O dX5_countOf_44 lkX5_99 (c_ones hst hm) rfl rfl rfl (by first | exact hkc | exact Nat.zero_le _) (by first | exact hks | exact Nat.zero_le _) ?_
          refine v_goto (tgt := 54) O dX5_countOf_47 (by decide) ?_
          exact v_ireturn O OR dX5_countOf_54 (⟨by rw [if_neg (by omega), if_neg (by omega), if_neg (by omega), if_pos (by omega)], rfl⟩) (Nat.le_of_ble_eq_true rfl) (Nat.le_of_ble_eq_true rfl)
      · refine v_aload_n O dX5_countOf_28 rfl ?_
        refine v_get O dX5_countOf_29 flX5_49 0 rfl rfl ?_
        refine v_goto (tgt := 54) O dX5_countOf_32 (by decide) ?_
        exact v_ireturn O OR dX5_countOf_54 (⟨by rw [if_neg (by omega), if_neg (by omega), if_pos (by omega)], rfl⟩) (Nat.le_of_ble_eq_true rfl) (Nat.le_of_ble_eq_true rfl)
    · refine v_aload_n O dX5_countOf_16 rfl ?_
      refine v_get O dX5_countOf_17 flX5_46 0 rfl rfl ?_
      refine v_goto (tgt := 54) O dX5_countOf_20 (by decide) ?_
      exact v_ireturn O OR dX5_countOf_54 (⟨by rw [if_neg (by omega), if_pos (by omega)], rfl⟩) (Nat.le_of_ble_eq_true rfl) (Nat.le_of_ble_eq_true rfl)
  · refine v_aload_n O dX5_countOf_4 rfl ?_
    refine v_get O dX5_countOf_5 flX5_7 0 rfl rfl ?_
    refine v_goto (tgt := 54) O dX5_countOf_8 (by decide) ?_
    exact v_ireturn O OR dX5_countOf_54 (⟨by rw [if_pos (by omega)], rfl⟩) (Nat.le_of_ble_eq_true rfl) (Nat.le_of_ble_eq_true rfl)
theorem lp_sumOf {E : ET} {G : GT} {R0 : Room} {tb : List ExceptionTableEntry} (O : OKG E G cX5_sumOf RX5 R0 tb) (hN : nLG G = 4) {ad : Nat → Nat} {th n t dr ms : Nat} {pe pw : Nat → Nat} {len : Nat} {cod : Nat → Nat} {mm : Nat} {fs fc fw : Nat → Nat} {sc : Nat → Int64} {li : Nat → Nat} {lm ls lq hs : Int64} {c : Nat} (hc : c < 16) (ht : t ≤ 48) (kk : V E G 0 0 32 [(2, .int (nI (chs pw c t)))] [] (WM E ad th n t dr ms pe pw len cod mm fs fc fw sc li lm ls lq hs)) : ∀ j q : Nat, q ≤ t → j = t - q → V E G 0 0 4 [(0, .ref (ad 0)), (1, .int (nI c)), (2, .int (nI (chs pw c q))), (3, .int (nI q))] [] (WM E ad th n t dr ms pe pw len cod mm fs fc fw sc li lm ls lq hs) := by
  intro j
  induction j using Nat.strongRecOn with
  | _ j ih =>
    intro q hq hj
    refine v_iload_n O dX5_sumOf_4 rfl ?_
    refine v_aload_n O dX5_sumOf_5 rfl ?_
    refine v_get O dX5_sumOf_6 flX5_46 0 rfl rfl ?_
    refine v_icmpN_ge (tgt := 32) O dX5_sumOf_9 (by decide) (by omega) (by omega) (fun h => ?_) (fun h => ?_)
    · have e : q = t := by omega
      subst e
      refine v_ord [2] ?_
      exact kk
    · refine v_iload_n O dX5_sumOf_12 rfl ?_
      refine v_aload_n O dX5_sumOf_13 rfl ?_
      refine v_get O dX5_sumOf_14 flX5_17 0 rfl rfl ?_
      refine v_bipush (v := nI 16) O dX5_sumOf_17 (by decide) ?_
      refine v_iload_n O dX5_sumOf_19 rfl ?_
      refine v_imulN O dX5_sumOf_20 ?_
      refine v_iload_n O dX5_sumOf_21 rfl ?_
      refine v_iaddN O dX5_sumOf_22 ?_
      refine v_iald O dX5_sumOf_23 2 rfl (by decide) (by omega) ?_
      rw [Nat.mul_comm 16 q]
      refine v_iaddN O dX5_sumOf_24 ?_
      refine v_istore_n O dX5_sumOf_25 (by rw [hN]; decide) ?_
      refine v_iincN (b := 1) O dX5_sumOf_26 rfl (by decide) (by rw [hN]; decide) ?_
      refine v_goto (tgt := 4) O dX5_sumOf_29 (by decide) ?_
      refine v_ord [0, 1, 2, 3] ?_
      exact ih (j - 1) (by omega) (q + 1) (by omega) (by omega)
theorem c_sumOf {E : ET} {ad : Nat → Nat} {th n t dr ms : Nat} {pe pw : Nat → Nat} {len : Nat} {cod : Nat → Nat} {mm : Nat} {fs fc fw : Nat → Nat} {sc : Nat → Int64} {li : Nat → Nat} {lm ls lq hs : Int64} {c : Nat} (hst : E.1.stackTraces = false) (hc : c < 16) (ht : t ≤ 48) : Ctr E yX5_sumOf cdX5_sumOf (rmL 1) [.ref (ad 0), .int (nI c)] (WM E ad th n t dr ms pe pw len cod mm fs fc fw sc li lm ls lq hs) (pR (some (.int (nI (chs pw c t)))) (WM E ad th n t dr ms pe pw len cod mm fs fc fw sc li lm ls lq hs)) noX 0 0 := by
  refine ctr_of hst (by decide) (Nat.le_of_ble_eq_true rfl) (fun G O OR hN => ?_)
  have O : OKG E G cX5_sumOf RX5 (rmL 1) [] := O
  have hN : nLG G = 4 := hN
  refine v_iconst (v := nI 0) O dX5_sumOf_0 (by decide) ?_
  refine v_istore_n O dX5_sumOf_1 (by rw [hN]; decide) ?_
  refine v_iconst (v := nI 0) O dX5_sumOf_2 (by decide) ?_
  refine v_istore_n O dX5_sumOf_3 (by rw [hN]; decide) ?_
  refine v_ord [0, 1, 2, 3] ?_
  refine lp_sumOf O hN hc ht ?_ t 0 (by omega) (by omega)
  refine v_iload_n O dX5_sumOf_32 rfl ?_
  exact v_ireturn O OR dX5_sumOf_33 (⟨rfl, rfl⟩) (Nat.le_of_ble_eq_true rfl) (Nat.le_of_ble_eq_true rfl)
theorem c_linesOfM {E : ET} {ad : Nat → Nat} {th n t dr ms : Nat} {pe pw : Nat → Nat} {len : Nat} {cod : Nat → Nat} {mm : Nat} {fs fc fw : Nat → Nat} {sc : Nat → Int64} {li : Nat → Nat} {lm ls lq hs : Int64} (hst : E.1.stackTraces = false) (ht : t ≤ 48) (d : Nat) (hd : d < 16) : Ctr E yX5_linesOf cdX5_linesOf (rmL 1) [.ref (ad 0), .int (nI d)] (WM E ad th n t dr ms pe pw len cod mm fs fc fw sc li lm ls lq hs) (pR (some (.int (nI (t - d)))) (WM E ad th n t dr ms pe pw len cod mm fs fc fw sc li lm ls lq hs)) noX 0 0 := by
  refine ctr_of hst (by decide) (Nat.le_of_ble_eq_true rfl) (fun G O OR hN => ?_)
  have O : OKG E G cX5_linesOf RX5 (rmL 1) [] := O
  have hN : nLG G = 2 := hN
  refine v_aload_n O dX5_linesOf_0 rfl ?_
  refine v_get O dX5_linesOf_1 flX5_46 0 rfl rfl ?_
  refine v_iload_n O dX5_linesOf_4 rfl ?_
  refine v_icmpN_le (tgt := 17) O dX5_linesOf_5 (by decide) (by omega) (by omega) (fun h => ?_) (fun h => ?_)
  · refine v_iconst (v := nI 0) O dX5_linesOf_17 (by decide) ?_
    exact v_ireturn O OR dX5_linesOf_18 (⟨by rw [show t - d = 0 by omega], rfl⟩) (Nat.le_of_ble_eq_true rfl) (Nat.le_of_ble_eq_true rfl)
  · refine v_aload_n O dX5_linesOf_8 rfl ?_
    refine v_get O dX5_linesOf_9 flX5_46 0 rfl rfl ?_
    refine v_iload_n O dX5_linesOf_12 rfl ?_
    refine v_isubN O dX5_linesOf_13 (by omega) ?_
    refine v_goto (tgt := 18) O dX5_linesOf_14 (by decide) ?_
    exact v_ireturn O OR dX5_linesOf_18 (⟨rfl, rfl⟩) (Nat.le_of_ble_eq_true rfl) (Nat.le_of_ble_eq_true rfl)
end
section
def lin (mk : Nat → Bool) (pw : Nat → Nat) (n : Nat) (off : Nat → Nat) (q : Nat) : Nat := sm (fun c => if mk c = true then 0 else pw ((q + off c) * 16 + c)) n
theorem lp_lineBy {E : ET} {G : GT} (O : OKG E G cX5_lineBy RX5 (rmL 3) []) (hN : nLG G = 6) {ad : Nat → Nat} {th n t dr ms : Nat} {pe pw : Nat → Nat} {len : Nat} {cod : Nat → Nat} {mm : Nat} {fs fc fw : Nat → Nat} {sc : Nat → Int64} {li : Nat → Nat} {lm ls lq hs : Int64} {K d q : Nat} {s : Bool} (hst : E.1.stackTraces = false) (hK : 1 ≤ K) (hK4 : K ≤ 4) (hn : n = 2 ^ K) (hm : ms < 65536) (hd : d < n) (ht : t ≤ 48) (hq : q + d < t) (kk : V E G 0 0 60 [(4, .int (nI (lin (mb ms) pw n (oby K n s d) q)))] [] (WM E ad th n t dr ms pe pw len cod mm fs fc fw sc li lm ls lq hs)) : ∀ j c : Nat, c ≤ n → j = n - c → V E G 0 0 6 [(0, .ref (ad 0)), (1, .int (nI d)), (2, .int (nI q)), (3, .int (bI s)), (4, .int (nI (lin (mb ms) pw c (oby K n s d) q))), (5, .int (nI c))] [] (WM E ad th n t dr ms pe pw len cod mm fs fc fw sc li lm ls lq hs) := by
  obtain ⟨g1, g2⟩ := two_le hn hK hK4
  intro j
  induction j using Nat.strongRecOn with
  | _ j ih =>
    intro c hc hj
    refine v_iload O dX5_lineBy_6 rfl ?_
    refine v_aload_n O dX5_lineBy_8 rfl ?_
    refine v_get O dX5_lineBy_9 flX5_7 0 rfl rfl ?_
    refine v_icmpN_ge (tgt := 60) O dX5_lineBy_12 (by decide) (by omega) (by omega) (fun h => ?_) (fun h => ?_)
    · have e : c = n := by omega
      subst e
      refine v_ord [4] ?_
      exact kk
    · have ho := oby_le (K := K) (s := s) (d := d) g1 h
      have key : V E G 0 0 51 [(0, .ref (ad 0)), (1, .int (nI d)), (2, .int (nI q)), (3, .int (bI s)), (4, .int (nI (lin (mb ms) pw c (oby K n s d) q))), (5, .int (nI c))] [.int (nI (if mb ms c = true then 0 else pw ((q + oby K n s d c) * 16 + c))), .int (nI (lin (mb ms) pw c (oby K n s d) q))] (WM E ad th n t dr ms pe pw len cod mm fs fc fw sc li lm ls lq hs) := by
        refine v_iaddN O dX5_lineBy_51 ?_
        refine v_istore O dX5_lineBy_52 (by rw [hN]; decide) ?_
        refine v_iincN (b := 1) O dX5_lineBy_54 rfl (by decide) (by rw [hN]; decide) ?_
        refine v_goto (tgt := 6) O dX5_lineBy_57 (by decide) ?_
        refine v_ord [0, 1, 2, 3, 4, 5] ?_
        exact ih (j - 1) (by omega) (c + 1) (by omega) (by omega)
      refine v_iload O dX5_lineBy_15 rfl ?_
      refine v_aload_n O dX5_lineBy_17 rfl ?_
      refine v_iload O dX5_lineBy_18 rfl ?_
      refine v_V1 O dX5_lineBy_20 lkX5_105 (c_isMasked hst hm c (by omega)) 0 rfl rfl rfl rfl rfl (by first | exact hkc | exact Nat.zero_le _) (by first | exact hks | exact Nat.zero_le _) ?_
      refine v_ifB_eq (tgt := 30) O dX5_lineBy_23 (by decide) (fun h2 => ?_) (fun h2 => ?_)
      · refine v_aload_n O dX5_lineBy_30 rfl ?_
        refine v_get O dX5_lineBy_31 flX5_17 0 rfl rfl ?_
        refine v_bipush (v := nI 16) O dX5_lineBy_34 (by decide) ?_
        refine v_iload_n O dX5_lineBy_36 rfl ?_
        refine v_aload_n O dX5_lineBy_37 rfl ?_
        refine v_iload_n O dX5_lineBy_38 rfl ?_
        refine v_iload O dX5_lineBy_39 rfl ?_
        refine v_iload_n O dX5_lineBy_41 rfl ?_
        refine v_V1 O dX5_lineBy_42 lkX5_89 (c_offsetBy hst hK hK4 hn d c s (by omega) (by omega)) 0 rfl rfl rfl rfl rfl (by first | exact hkc | exact Nat.zero_le _) (by first | exact hks | exact Nat.zero_le _) ?_
        refine v_iaddN O dX5_lineBy_45 ?_
        refine v_imulN O dX5_lineBy_46 ?_
        refine v_iload O dX5_lineBy_47 rfl ?_
        refine v_iaddN O dX5_lineBy_49 ?_
        refine v_iald O dX5_lineBy_50 2 rfl (by decide) (by omega) ?_
        refine v_st ?_ key
        rw [if_neg (by rw [h2]; decide), Nat.mul_comm 16]
      · refine v_iconst (v := nI 0) O dX5_lineBy_26 (by decide) ?_
        refine v_goto (tgt := 51) O dX5_lineBy_27 (by decide) ?_
        refine v_st ?_ key
        rw [if_pos h2]
theorem c_lineBy {E : ET} {ad : Nat → Nat} {th n t dr ms : Nat} {pe pw : Nat → Nat} {len : Nat} {cod : Nat → Nat} {mm : Nat} {fs fc fw : Nat → Nat} {sc : Nat → Int64} {li : Nat → Nat} {lm ls lq hs : Int64} {K : Nat} (hst : E.1.stackTraces = false) (hK : 1 ≤ K) (hK4 : K ≤ 4) (hn : n = 2 ^ K) (hm : ms < 65536) (ht : t ≤ 48) (d q : Nat) (s : Bool) (hd : d < n) (hq : q + d < t) : Ctr E yX5_lineBy cdX5_lineBy (rmL 3) [.ref (ad 0), .int (nI d), .int (nI q), .int (bI s)] (WM E ad th n t dr ms pe pw len cod mm fs fc fw sc li lm ls lq hs) (pR (some (.int (nI (lin (mb ms) pw n (oby K n s d) q)))) (WM E ad th n t dr ms pe pw len cod mm fs fc fw sc li lm ls lq hs)) noX 0 0 := by
  refine ctr_of hst (by decide) (Nat.le_of_ble_eq_true rfl) (fun G O OR hN => ?_)
  have O : OKG E G cX5_lineBy RX5 (rmL 3) [] := O
  have hN : nLG G = 6 := hN
  refine v_iconst (v := nI 0) O dX5_lineBy_0 (by decide) ?_
  refine v_istore O dX5_lineBy_1 (by rw [hN]; decide) ?_
  refine v_iconst (v := nI 0) O dX5_lineBy_3 (by decide) ?_
  refine v_istore O dX5_lineBy_4 (by rw [hN]; decide) ?_
  refine v_ord [0, 1, 2, 3, 4, 5] ?_
  refine lp_lineBy O hN hst hK hK4 hn hm hd ht hq ?_ n 0 (by omega) (by omega)
  refine v_iload O dX5_lineBy_60 rfl ?_
  exact v_ireturn O OR dX5_lineBy_62 (⟨rfl, rfl⟩) (Nat.le_of_ble_eq_true rfl) (Nat.le_of_ble_eq_true rfl)
/-- does the box exist: slope x1, column x2, width wd -/
def bxB (n t : Nat) (x1 x2 : Int32) (wd : Nat) : Bool := inB x1 n && (decide (0 ≤ x2.toInt) && decide (x2.toInt + wd ≤ ((t - x1.toInt.toNat : Nat) : Int)))
theorem c_isBox {E : ET} {ad : Nat → Nat} {th n t dr ms : Nat} {pe pw : Nat → Nat} {len : Nat} {cod : Nat → Nat} {mm : Nat} {fs fc fw : Nat → Nat} {sc : Nat → Int64} {li : Nat → Nat} {lm ls lq hs : Int64} (hst : E.1.stackTraces = false) (hn : n ≤ 16) (ht : t ≤ 48) (x1 x2 : Int32) (wd : Nat) (hw : wd ≤ 8) : Ctr E yX5_isBox cdX5_isBox (rmL 3) [.ref (ad 0), .int x1, .int x2, .int (nI wd)] (WM E ad th n t dr ms pe pw len cod mm fs fc fw sc li lm ls lq hs) (pR (some (.int (bI (bxB n t x1 x2 wd)))) (WM E ad th n t dr ms pe pw len cod mm fs fc fw sc li lm ls lq hs)) noX 0 0 := by
  refine ctr_of hst (by decide) (Nat.le_of_ble_eq_true rfl) (fun G O OR hN => ?_)
  have O : OKG E G cX5_isBox RX5 (rmL 3) [] := O
  have hN : nLG G = 4 := hN
  refine v_aload_n O dX5_isBox_0 rfl ?_
  refine v_iload_n O dX5_isBox_1 rfl ?_
  refine v_V1 O dX5_isBox_2 lkX5_86 (c_isSlope hst hn x1) 0 rfl rfl rfl rfl rfl (by first | exact hkc | exact Nat.zero_le _) (by first | exact hks | exact Nat.zero_le _) ?_
  refine v_ifB_eq (tgt := 27) O dX5_isBox_5 (by decide) (fun h => ?_) (fun h => ?_)
  · refine v_iconst (v := nI 0) O dX5_isBox_27 (by decide) ?_
    exact v_zreturn O OR dX5_isBox_28 (by decide) (⟨by unfold bxB; rw [h]; rfl, rfl⟩) (Nat.le_of_ble_eq_true rfl) (Nat.le_of_ble_eq_true rfl)
  · obtain ⟨d, hd, rfl⟩ := inB_of h
    have hdi : (nI d).toInt.toNat = d := by rw [nI_toInt (by omega)]; omega
    refine v_iload_n O dX5_isBox_8 rfl ?_
    refine v_if_lt (tgt := 27) O dX5_isBox_9 (by decide) (fun h2 => ?_) (fun h2 => ?_)
    · refine v_iconst (v := nI 0) O dX5_isBox_27 (by decide) ?_
      exact v_zreturn O OR dX5_isBox_28 (by decide) (⟨by unfold bxB; rw [h, decide_eq_false (by rw [fa_lt, show (0 : Int32).toInt = 0 from rfl] at h2; omega)]; rfl, rfl⟩) (Nat.le_of_ble_eq_true rfl) (Nat.le_of_ble_eq_true rfl)
    · rw [fa_lt, show (0 : Int32).toInt = 0 from rfl] at h2
      refine v_iload_n O dX5_isBox_12 rfl ?_
      refine v_aload_n O dX5_isBox_13 rfl ?_
      refine v_iload_n O dX5_isBox_14 rfl ?_
      refine v_V1 O dX5_isBox_15 lkX5_111 (c_linesOfM hst ht d (by omega)) 0 rfl rfl rfl rfl rfl (by first | exact hkc | exact Nat.zero_le _) (by first | exact hks | exact Nat.zero_le _) ?_
      refine v_iload_n O dX5_isBox_18 rfl ?_
      refine v_isub O dX5_isBox_19 ?_
      refine v_icmp_gt (tgt := 27) O dX5_isBox_20 (by decide) (fun h3 => ?_) (fun h3 => ?_)
      · rw [fa_lt, pk_sub_toInt (by omega) (by omega)] at h3
        refine v_iconst (v := nI 0) O dX5_isBox_27 (by decide) ?_
        exact v_zreturn O OR dX5_isBox_28 (by decide) (⟨by unfold bxB; rw [h, hdi, decide_eq_true (by omega), decide_eq_false (by omega)]; rfl, rfl⟩) (Nat.le_of_ble_eq_true rfl) (Nat.le_of_ble_eq_true rfl)
      · rw [fa_lt, pk_sub_toInt (by omega) (by omega)] at h3
        refine v_iconst (v := nI 1) O dX5_isBox_23 (by decide) ?_
        refine v_goto (tgt := 28) O dX5_isBox_24 (by decide) ?_
        exact v_zreturn O OR dX5_isBox_28 (by decide) (⟨by unfold bxB; rw [h, hdi, decide_eq_true (by omega), decide_eq_true (by omega)]; rfl, rfl⟩) (Nat.le_of_ble_eq_true rfl) (Nat.le_of_ble_eq_true rfl)
def smL (f : Nat → Int64) : Nat → Int64
  | 0 => 0
  | k + 1 => smL f k + f k
/-- the line sum of slope d from column q, as a number and as a long -/
def lnN (ms : Nat) (pw : Nat → Nat) (K n d q : Nat) : Nat := lin (mb ms) pw n (oby K n false d) q
def lnL (ms : Nat) (pw : Nat → Nat) (K n d q : Nat) : Int64 := (nI (lnN ms pw K n d q)).toInt64
theorem lp_sumOfLines {E : ET} {G : GT} (O : OKG E G cX5_sumOfLines RX5 (rmL 4) []) (hN : nLG G = 5) {ad : Nat → Nat} {th n t dr ms : Nat} {pe pw : Nat → Nat} {len : Nat} {cod : Nat → Nat} {mm : Nat} {fs fc fw : Nat → Nat} {sc : Nat → Int64} {li : Nat → Nat} {lm ls lq hs : Int64} {K d : Nat} (hst : E.1.stackTraces = false) (hK : 1 ≤ K) (hK4 : K ≤ 4) (hn : n = 2 ^ K) (hm : ms < 65536) (hd : d < n) (ht : t ≤ 48) (kk : V E G 0 0 33 [(2, .long (smL (lnL ms pw K n d) (t - d)))] [] (WM E ad th n t dr ms pe pw len cod mm fs fc fw sc li lm ls lq hs)) : ∀ j q : Nat, q ≤ t - d → j = t - d - q → V E G 0 0 5 [(0, .ref (ad 0)), (1, .int (nI d)), (2, .long (smL (lnL ms pw K n d) q)), (4, .int (nI q))] [] (WM E ad th n t dr ms pe pw len cod mm fs fc fw sc li lm ls lq hs) := by
  obtain ⟨g1, g2⟩ := two_le hn hK hK4
  intro j
  induction j using Nat.strongRecOn with
  | _ j ih =>
    intro q hq hj
    refine v_iload O dX5_sumOfLines_5 rfl ?_
    refine v_aload_n O dX5_sumOfLines_7 rfl ?_
    refine v_iload_n O dX5_sumOfLines_8 rfl ?_
    refine v_V1 O dX5_sumOfLines_9 lkX5_111 (c_linesOfM hst ht d (by omega)) 0 rfl rfl rfl rfl rfl (by first | exact hkc | exact Nat.zero_le _) (by first | exact hks | exact Nat.zero_le _) ?_
    refine v_icmpN_ge (tgt := 33) O dX5_sumOfLines_12 (by decide) (by omega) (by omega) (fun h => ?_) (fun h => ?_)
    · have e : q = t - d := by omega
      subst e
      refine v_ord [2] ?_
      exact kk
    · refine v_lload_n O dX5_sumOfLines_15 rfl ?_
      refine v_aload_n O dX5_sumOfLines_16 rfl ?_
      refine v_iload_n O dX5_sumOfLines_17 rfl ?_
      refine v_iload O dX5_sumOfLines_18 rfl ?_
      refine v_iconst (v := bI false) O dX5_sumOfLines_20 (by decide) ?_
      refine v_V1 O dX5_sumOfLines_21 lkX5_117 (c_lineBy hst hK hK4 hn hm ht d q false hd (by omega)) 0 rfl rfl rfl rfl rfl (by first | exact hkc | exact Nat.zero_le _) (by first | exact hks | exact Nat.zero_le _) ?_
      refine v_i2l O dX5_sumOfLines_24 ?_
      refine v_ladd O dX5_sumOfLines_25 ?_
      refine v_lstore_n O dX5_sumOfLines_26 (by rw [hN]; decide) ?_
      refine v_iincN (b := 1) O dX5_sumOfLines_27 rfl (by decide) (by rw [hN]; decide) ?_
      refine v_goto (tgt := 5) O dX5_sumOfLines_30 (by decide) ?_
      refine v_ord [0, 1, 2, 4] ?_
      exact ih (j - 1) (by omega) (q + 1) (by omega) (by omega)
theorem c_sumOfLines {E : ET} {ad : Nat → Nat} {th n t dr ms : Nat} {pe pw : Nat → Nat} {len : Nat} {cod : Nat → Nat} {mm : Nat} {fs fc fw : Nat → Nat} {sc : Nat → Int64} {li : Nat → Nat} {lm ls lq hs : Int64} {K : Nat} (hst : E.1.stackTraces = false) (hK : 1 ≤ K) (hK4 : K ≤ 4) (hn : n = 2 ^ K) (hm : ms < 65536) (ht : t ≤ 48) (d : Nat) (hd : d < n) : Ctr E yX5_sumOfLines cdX5_sumOfLines (rmL 4) [.ref (ad 0), .int (nI d)] (WM E ad th n t dr ms pe pw len cod mm fs fc fw sc li lm ls lq hs) (pR (some (.long (smL (lnL ms pw K n d) (t - d)))) (WM E ad th n t dr ms pe pw len cod mm fs fc fw sc li lm ls lq hs)) noX 0 0 := by
  refine ctr_of hst (by decide) (Nat.le_of_ble_eq_true rfl) (fun G O OR hN => ?_)
  have O : OKG E G cX5_sumOfLines RX5 (rmL 4) [] := O
  have hN : nLG G = 5 := hN
  refine v_lconst (v := 0) O dX5_sumOfLines_0 (by decide) ?_
  refine v_lstore_n O dX5_sumOfLines_1 (by rw [hN]; decide) ?_
  refine v_iconst (v := nI 0) O dX5_sumOfLines_2 (by decide) ?_
  refine v_istore O dX5_sumOfLines_3 (by rw [hN]; decide) ?_
  refine v_ord [0, 1, 2, 4] ?_
  refine lp_sumOfLines O hN hst hK hK4 hn hm hd ht ?_ (t - d) 0 (by omega) (by omega)
  refine v_lload_n O dX5_sumOfLines_33 rfl ?_
  exact v_lreturn O OR dX5_sumOfLines_34 (⟨rfl, rfl⟩) (Nat.le_of_ble_eq_true rfl) (Nat.le_of_ble_eq_true rfl)
def fl2 {α : Type} (f g : Nat → α) (i : Nat) : Nat → α := fun q => if q < i then f q else g q
theorem fl2_0 {α : Type} (f g : Nat → α) : fl2 f g 0 = g := by funext q; simp [fl2]
theorem fl2_in {α : Type} {f g : Nat → α} {i q : Nat} (h : q < i) : fl2 f g i q = f q := if_pos h
theorem fl2_s {α : Type} (f g : Nat → α) (i : Nat) : va_up (fl2 f g i) i (f i) = fl2 f g (i + 1) := by
  funext q
  simp only [va_up, fl2]
  by_cases h : q = i
  · subst h; rw [if_pos rfl, if_pos (by omega)]
  · rw [if_neg h]
    by_cases h2 : q < i
    · rw [if_pos h2, if_pos (by omega)]
    · rw [if_neg h2, if_neg (by omega)]
def sqL (f : Nat → Int64) : Nat → Int64 := fun q => f q * f q
theorem lp_layLines {E : ET} {G : GT} (O : OKG E G cX5_layLines RX5 (rmL 4) []) (hN : nLG G = 3) {ad : Nat → Nat} {th n t dr ms : Nat} {pe pw : Nat → Nat} {len : Nat} {cod : Nat → Nat} {mm : Nat} {fs fc fw : Nat → Nat} {sc : Nat → Int64} {li : Nat → Nat} {lm ls lq hs : Int64} {K d : Nat} {lm0 : Int64} (hst : E.1.stackTraces = false) (hK : 1 ≤ K) (hK4 : K ≤ 4) (hn : n = 2 ^ K) (hm : ms < 65536) (hd : d < n) (ht : t ≤ 48) (kk : V E G 0 0 90 [] [] (WM E ad th n t dr ms pe pw len cod mm fs fc fw sc (fl2 (lnN ms pw K n d) li (t - d)) (lm0) (smL (lnL ms pw K n d) (t - d)) (smL (sqL (lnL ms pw K n d)) (t - d)) hs)) : ∀ j q : Nat, q ≤ t - d → j = t - d - q → V E G 0 0 22 [(0, .ref (ad 0)), (1, .int (nI d)), (2, .int (nI q))] [] (WM E ad th n t dr ms pe pw len cod mm fs fc fw sc (fl2 (lnN ms pw K n d) li q) (lm0) (smL (lnL ms pw K n d) q) (smL (sqL (lnL ms pw K n d)) q) hs) := by
  obtain ⟨g1, g2⟩ := two_le hn hK hK4
  intro j
  induction j using Nat.strongRecOn with
  | _ j ih =>
    intro q hq hj
    refine v_iload_n O dX5_layLines_22 rfl ?_
    refine v_aload_n O dX5_layLines_23 rfl ?_
    refine v_iload_n O dX5_layLines_24 rfl ?_
    refine v_V1 O dX5_layLines_25 lkX5_111 (c_linesOfM hst ht d (by omega)) 0 rfl rfl rfl rfl rfl (by first | exact hkc | exact Nat.zero_le _) (by first | exact hks | exact Nat.zero_le _) ?_
    refine v_icmpN_ge (tgt := 90) O dX5_layLines_28 (by decide) (by omega) (by omega) (fun h => ?_) (fun h => ?_)
    · have e : q = t - d := by omega
      subst e
      refine v_ord [] ?_
      exact kk
    · refine v_aload_n O dX5_layLines_31 rfl ?_
      refine v_get O dX5_layLines_32 flX5_36 0 rfl rfl ?_
      refine v_iload_n O dX5_layLines_35 rfl ?_
      refine v_aload_n O dX5_layLines_36 rfl ?_
      refine v_iload_n O dX5_layLines_37 rfl ?_
      refine v_iload_n O dX5_layLines_38 rfl ?_
      refine v_iconst (v := bI false) O dX5_layLines_39 (by decide) ?_
      refine v_V1 O dX5_layLines_40 lkX5_117 (c_lineBy hst hK hK4 hn hm ht d q false hd (by omega)) 0 rfl rfl rfl rfl rfl (by first | exact hkc | exact Nat.zero_le _) (by first | exact hks | exact Nat.zero_le _) ?_
      refine v_iastN O dX5_layLines_43 8 rfl (by decide) (by omega) ?_
      refine v_w (w' := (WM E ad th n t dr ms pe pw len cod mm fs fc fw sc (fl2 (lnN ms pw K n d) li (q + 1)) (lm0) (smL (lnL ms pw K n d) q) (smL (sqL (lnL ms pw K n d)) q) hs)) (by rw [← fl2_s]; rfl) ?_
      have e : fl2 (lnN ms pw K n d) li (q + 1) q = lnN ms pw K n d q := fl2_in (by omega)
      refine v_aload_n O dX5_layLines_44 rfl ?_
      refine v_dup O dX5_layLines_45 rfl ?_
      refine v_get O dX5_layLines_46 flX5_128 0 rfl rfl ?_
      refine v_aload_n O dX5_layLines_49 rfl ?_
      refine v_get O dX5_layLines_50 flX5_36 0 rfl rfl ?_
      refine v_iload_n O dX5_layLines_53 rfl ?_
      refine v_iald O dX5_layLines_54 8 rfl (by decide) (by omega) ?_
      refine v_i2l O dX5_layLines_55 ?_
      refine v_ladd O dX5_layLines_56 ?_
      refine v_put (ty := .long) O dX5_layLines_57 flX5_128 ftX5 0 rfl rfl (by decide +kernel) rfl rfl (Nat.le_of_ble_eq_true rfl) ?_
      refine v_aload_n O dX5_layLines_60 rfl ?_
      refine v_dup O dX5_layLines_61 rfl ?_
      refine v_get O dX5_layLines_62 flX5_131 0 rfl rfl ?_
      refine v_aload_n O dX5_layLines_65 rfl ?_
      refine v_get O dX5_layLines_66 flX5_36 0 rfl rfl ?_
      refine v_iload_n O dX5_layLines_69 rfl ?_
      refine v_iald O dX5_layLines_70 8 rfl (by decide) (by omega) ?_
      refine v_i2l O dX5_layLines_71 ?_
      refine v_aload_n O dX5_layLines_72 rfl ?_
      refine v_get O dX5_layLines_73 flX5_36 0 rfl rfl ?_
      refine v_iload_n O dX5_layLines_76 rfl ?_
      refine v_iald O dX5_layLines_77 8 rfl (by decide) (by omega) ?_
      refine v_i2l O dX5_layLines_78 ?_
      refine v_lmul O dX5_layLines_79 ?_
      refine v_ladd O dX5_layLines_80 ?_
      refine v_put (ty := .long) O dX5_layLines_81 flX5_131 ftX5 0 rfl rfl (by decide +kernel) rfl rfl (Nat.le_of_ble_eq_true rfl) ?_
      refine v_iincN (b := 1) O dX5_layLines_84 rfl (by decide) (by rw [hN]; decide) ?_
      refine v_goto (tgt := 22) O dX5_layLines_87 (by decide) ?_
      refine v_ord [0, 1, 2] ?_
      refine v_w (w' := (WM E ad th n t dr ms pe pw len cod mm fs fc fw sc (fl2 (lnN ms pw K n d) li (q + 1)) (lm0) (smL (lnL ms pw K n d) (q + 1)) (smL (sqL (lnL ms pw K n d)) (q + 1)) hs)) (by rw [e]; rfl) ?_
      exact ih (j - 1) (by omega) (q + 1) (by omega) (by omega)
theorem c_layLines {E : ET} {ad : Nat → Nat} {th n t dr ms : Nat} {pe pw : Nat → Nat} {len : Nat} {cod : Nat → Nat} {mm : Nat} {fs fc fw : Nat → Nat} {sc : Nat → Int64} {li : Nat → Nat} {lm ls lq hs : Int64} {K : Nat} (hst : E.1.stackTraces = false) (hK : 1 ≤ K) (hK4 : K ≤ 4) (hn : n = 2 ^ K) (hm : ms < 65536) (ht : t ≤ 48) (d : Nat) (hd : d < n) : Ctr E yX5_layLines cdX5_layLines (rmL 4) [.ref (ad 0), .int (nI d)] (WM E ad th n t dr ms pe pw len cod mm fs fc fw sc li lm ls lq hs) (pR none (WM E ad th n t dr ms pe pw len cod mm fs fc fw sc (fl2 (lnN ms pw K n d) li (t - d)) ((nI (t - d)).toInt64) (smL (lnL ms pw K n d) (t - d)) (smL (sqL (lnL ms pw K n d)) (t - d)) hs)) noX 0 0 := by
  obtain ⟨g1, g2⟩ := two_le hn hK hK4
  refine ctr_of hst (by decide) (Nat.le_of_ble_eq_true rfl) (fun G O OR hN => ?_)
  have O : OKG E G cX5_layLines RX5 (rmL 4) [] := O
  have hN : nLG G = 3 := hN
  refine v_aload_n O dX5_layLines_0 rfl ?_
  refine v_aload_n O dX5_layLines_1 rfl ?_
  refine v_iload_n O dX5_layLines_2 rfl ?_
  refine v_V1 O dX5_layLines_3 lkX5_111 (c_linesOfM hst ht d (by omega)) 0 rfl rfl rfl rfl rfl (by first | exact hkc | exact Nat.zero_le _) (by first | exact hks | exact Nat.zero_le _) ?_
  refine v_i2l O dX5_layLines_6 ?_
  refine v_put (ty := .long) O dX5_layLines_7 flX5_124 ftX5 0 rfl rfl (by decide +kernel) rfl rfl (Nat.le_of_ble_eq_true rfl) ?_
  refine v_aload_n O dX5_layLines_10 rfl ?_
  refine v_lconst (v := 0) O dX5_layLines_11 (by decide) ?_
  refine v_put (ty := .long) O dX5_layLines_12 flX5_128 ftX5 0 rfl rfl (by decide +kernel) rfl rfl (Nat.le_of_ble_eq_true rfl) ?_
  refine v_aload_n O dX5_layLines_15 rfl ?_
  refine v_lconst (v := 0) O dX5_layLines_16 (by decide) ?_
  refine v_put (ty := .long) O dX5_layLines_17 flX5_131 ftX5 0 rfl rfl (by decide +kernel) rfl rfl (Nat.le_of_ble_eq_true rfl) ?_
  refine v_iconst (v := nI 0) O dX5_layLines_20 (by decide) ?_
  refine v_istore_n O dX5_layLines_21 (by rw [hN]; decide) ?_
  refine v_ord [0, 1, 2] ?_
  refine v_w (w' := (WM E ad th n t dr ms pe pw len cod mm fs fc fw sc (fl2 (lnN ms pw K n d) li 0) ((nI (t - d)).toInt64) (smL (lnL ms pw K n d) 0) (smL (sqL (lnL ms pw K n d)) 0) hs)) (by rw [fl2_0]; rfl) ?_
  refine lp_layLines (lm := lm) (ls := ls) (lq := lq) O hN hst hK hK4 hn hm hd ht ?_ (t - d) 0 (by omega) (by omega)
  exact v_return O OR dX5_layLines_90 (⟨rfl, rfl⟩) (Nat.le_of_ble_eq_true rfl) (Nat.le_of_ble_eq_true rfl)
theorem lp_boxBy {E : ET} {G : GT} {R0 : Room} {tb : List ExceptionTableEntry} (O : OKG E G cX5_boxBy RX5 R0 tb) (hN : nLG G = 5) {ad : Nat → Nat} {th n t dr ms : Nat} {pe pw : Nat → Nat} {len : Nat} {cod : Nat → Nat} {mm : Nat} {fs fc fw : Nat → Nat} {sc : Nat → Int64} {li : Nat → Nat} {lm ls lq hs : Int64} {q wd : Nat} (hq : q + wd ≤ 48) (kk : V E G 0 0 29 [(3, .int (nI (sm (fun i => li (q + i)) wd)))] [] (WM E ad th n t dr ms pe pw len cod mm fs fc fw sc li lm ls lq hs)) : ∀ j i : Nat, i ≤ wd → j = wd - i → V E G 0 0 5 [(0, .ref (ad 0)), (1, .int (nI q)), (2, .int (nI wd)), (3, .int (nI (sm (fun i => li (q + i)) i))), (4, .int (nI (q + i)))] [] (WM E ad th n t dr ms pe pw len cod mm fs fc fw sc li lm ls lq hs) := by
  intro j
  induction j using Nat.strongRecOn with
  | _ j ih =>
    intro i hi hj
    refine v_iload O dX5_boxBy_5 rfl ?_
    refine v_iload_n O dX5_boxBy_7 rfl ?_
    refine v_iload_n O dX5_boxBy_8 rfl ?_
    refine v_iaddN O dX5_boxBy_9 ?_
    refine v_icmpN_ge (tgt := 29) O dX5_boxBy_10 (by decide) (by omega) (by omega) (fun h => ?_) (fun h => ?_)
    · have e : i = wd := by omega
      subst e
      refine v_ord [3] ?_
      exact kk
    · refine v_iload_n O dX5_boxBy_13 rfl ?_
      refine v_aload_n O dX5_boxBy_14 rfl ?_
      refine v_get O dX5_boxBy_15 flX5_36 0 rfl rfl ?_
      refine v_iload O dX5_boxBy_18 rfl ?_
      refine v_iald O dX5_boxBy_20 8 rfl (by decide) (by omega) ?_
      refine v_iaddN O dX5_boxBy_21 ?_
      refine v_istore_n O dX5_boxBy_22 (by rw [hN]; decide) ?_
      refine v_iincN (b := 1) O dX5_boxBy_23 rfl (by decide) (by rw [hN]; decide) ?_
      refine v_goto (tgt := 5) O dX5_boxBy_26 (by decide) ?_
      refine v_ord [0, 1, 2, 3, 4] ?_
      exact ih (j - 1) (by omega) (i + 1) (by omega) (by omega)
theorem c_boxBy {E : ET} {ad : Nat → Nat} {th n t dr ms : Nat} {pe pw : Nat → Nat} {len : Nat} {cod : Nat → Nat} {mm : Nat} {fs fc fw : Nat → Nat} {sc : Nat → Int64} {li : Nat → Nat} {lm ls lq hs : Int64} (hst : E.1.stackTraces = false) (q wd : Nat) (hq : q + wd ≤ 48) : Ctr E yX5_boxBy cdX5_boxBy (rmL 1) [.ref (ad 0), .int (nI q), .int (nI wd)] (WM E ad th n t dr ms pe pw len cod mm fs fc fw sc li lm ls lq hs) (pR (some (.int (nI (sm (fun i => li (q + i)) wd)))) (WM E ad th n t dr ms pe pw len cod mm fs fc fw sc li lm ls lq hs)) noX 0 0 := by
  refine ctr_of hst (by decide) (Nat.le_of_ble_eq_true rfl) (fun G O OR hN => ?_)
  have O : OKG E G cX5_boxBy RX5 (rmL 1) [] := O
  have hN : nLG G = 5 := hN
  refine v_iconst (v := nI 0) O dX5_boxBy_0 (by decide) ?_
  refine v_istore_n O dX5_boxBy_1 (by rw [hN]; decide) ?_
  refine v_iload_n O dX5_boxBy_2 rfl ?_
  refine v_istore O dX5_boxBy_3 (by rw [hN]; decide) ?_
  refine v_ord [0, 1, 2, 3, 4] ?_
  refine lp_boxBy O hN hq ?_ wd 0 (by omega) (by omega)
  refine v_iload_n O dX5_boxBy_29 rfl ?_
  exact v_ireturn O OR dX5_boxBy_30 (⟨rfl, rfl⟩) (Nat.le_of_ble_eq_true rfl) (Nat.le_of_ble_eq_true rfl)
def scE (N S : Int64) (b wd : Nat) : Int64 := N * (nI b).toInt64 - (nI wd).toInt64 * S
def scV (N S Q : Int64) : Int64 := N * Q - S * S
def scr (N S Q : Int64) (b wd : Nat) : Int64 := if 0 < scE N S b wd ∧ 0 < scV N S Q then 1000 * scE N S b wd * scE N S b wd / ((nI wd).toInt64 * scV N S Q) else 0
theorem le0_64 {x : Int64} : x ≤ 0 ↔ ¬ 0 < x := by
  rw [fa_le64, fa_lt64]; omega
theorem c_scoreBy {E : ET} {ad : Nat → Nat} {th n t dr ms : Nat} {pe pw : Nat → Nat} {len : Nat} {cod : Nat → Nat} {mm : Nat} {fs fc fw : Nat → Nat} {sc : Nat → Int64} {li : Nat → Nat} {lm ls lq hs : Int64} (hst : E.1.stackTraces = false) (q wd : Nat) (hq : q + wd ≤ 48) (hz : 0 < scV lm ls lq → ¬ (nI wd).toInt64 * scV lm ls lq = 0) : Ctr E yX5_scoreBy cdX5_scoreBy (rmL 2) [.ref (ad 0), .int (nI q), .int (nI wd)] (WM E ad th n t dr ms pe pw len cod mm fs fc fw sc li lm ls lq hs) (pR (some (.long (scr lm ls lq (sm (fun i => li (q + i)) wd) wd))) (WM E ad th n t dr ms pe pw len cod mm fs fc fw sc li lm ls lq hs)) noX 0 0 := by
  refine ctr_of hst (by decide) (Nat.le_of_ble_eq_true rfl) (fun G O OR hN => ?_)
  have O : OKG E G cX5_scoreBy RX5 (rmL 2) [] := O
  have hN : nLG G = 7 := hN
  refine v_aload_n O dX5_scoreBy_0 rfl ?_
  refine v_get O dX5_scoreBy_1 flX5_124 0 rfl rfl ?_
  refine v_aload_n O dX5_scoreBy_4 rfl ?_
  refine v_get O dX5_scoreBy_5 flX5_131 0 rfl rfl ?_
  refine v_lmul O dX5_scoreBy_8 ?_
  refine v_aload_n O dX5_scoreBy_9 rfl ?_
  refine v_get O dX5_scoreBy_10 flX5_128 0 rfl rfl ?_
  refine v_aload_n O dX5_scoreBy_13 rfl ?_
  refine v_get O dX5_scoreBy_14 flX5_128 0 rfl rfl ?_
  refine v_lmul O dX5_scoreBy_17 ?_
  refine v_lsub O dX5_scoreBy_18 ?_
  refine v_lstore_n O dX5_scoreBy_19 (by rw [hN]; decide) ?_
  refine v_aload_n O dX5_scoreBy_20 rfl ?_
  refine v_get O dX5_scoreBy_21 flX5_124 0 rfl rfl ?_
  refine v_aload_n O dX5_scoreBy_24 rfl ?_
  refine v_iload_n O dX5_scoreBy_25 rfl ?_
  refine v_iload_n O dX5_scoreBy_26 rfl ?_
  refine v_V1 O dX5_scoreBy_27 lkX5_134 (c_boxBy hst q wd hq) 0 rfl rfl rfl rfl rfl (by first | exact hkc | exact Nat.zero_le _) (by first | exact hks | exact Nat.zero_le _) ?_
  refine v_i2l O dX5_scoreBy_30 ?_
  refine v_lmul O dX5_scoreBy_31 ?_
  refine v_iload_n O dX5_scoreBy_32 rfl ?_
  refine v_i2l O dX5_scoreBy_33 ?_
  refine v_aload_n O dX5_scoreBy_34 rfl ?_
  refine v_get O dX5_scoreBy_35 flX5_128 0 rfl rfl ?_
  refine v_lmul O dX5_scoreBy_38 ?_
  refine v_lsub O dX5_scoreBy_39 ?_
  refine v_lstore O dX5_scoreBy_40 (by rw [hN]; decide) ?_
  refine v_lload O dX5_scoreBy_42 rfl ?_
  refine v_lconst (v := 0) O dX5_scoreBy_44 (by decide) ?_
  refine v_lcmp O dX5_scoreBy_45 ?_
  refine v_ifC_le (tgt := 72) O dX5_scoreBy_46 (by decide) (fun h => ?_) (fun h => ?_)
  · refine v_lconst (v := 0) O dX5_scoreBy_72 (by decide) ?_
    exact v_lreturn O OR dX5_scoreBy_73 (⟨by unfold scr; rw [if_neg (fun z => le0_64.mp h z.1)], rfl⟩) (Nat.le_of_ble_eq_true rfl) (Nat.le_of_ble_eq_true rfl)
  · have h : 0 < scE lm ls (sm (fun i => li (q + i)) wd) wd := Classical.not_not.mp (fun z => h (le0_64.mpr z))
    refine v_lload_n O dX5_scoreBy_49 rfl ?_
    refine v_lconst (v := 0) O dX5_scoreBy_50 (by decide) ?_
    refine v_lcmp O dX5_scoreBy_51 ?_
    refine v_ifC_le (tgt := 72) O dX5_scoreBy_52 (by decide) (fun h2 => ?_) (fun h2 => ?_)
    · refine v_lconst (v := 0) O dX5_scoreBy_72 (by decide) ?_
      exact v_lreturn O OR dX5_scoreBy_73 (⟨by unfold scr; rw [if_neg (fun z => le0_64.mp h2 z.2)], rfl⟩) (Nat.le_of_ble_eq_true rfl) (Nat.le_of_ble_eq_true rfl)
    · have h2 : 0 < scV lm ls lq := Classical.not_not.mp (fun z => h2 (le0_64.mpr z))
      refine v_ldc2 O dX5_scoreBy_55 clX5_137 ?_
      refine v_lload O dX5_scoreBy_58 rfl ?_
      refine v_lmul O dX5_scoreBy_60 ?_
      refine v_lload O dX5_scoreBy_61 rfl ?_
      refine v_lmul O dX5_scoreBy_63 ?_
      refine v_iload_n O dX5_scoreBy_64 rfl ?_
      refine v_i2l O dX5_scoreBy_65 ?_
      refine v_lload_n O dX5_scoreBy_66 rfl ?_
      refine v_lmul O dX5_scoreBy_67 ?_
      refine v_ldiv O dX5_scoreBy_68 (hz h2) ?_
      refine v_goto (tgt := 73) O dX5_scoreBy_69 (by decide) ?_
      exact v_lreturn O OR dX5_scoreBy_73 (⟨by unfold scr; rw [if_pos ⟨h, h2⟩]; rfl, rfl⟩) (Nat.le_of_ble_eq_true rfl) (Nat.le_of_ble_eq_true rfl)
def tld (fs fc fw : Nat → Nat) (sc : Nat → Int64) (dr i a : Nat) : Int64 := if a = 0 then (nI (fs i)).toInt64 else if a = 1 then (nI (fc i)).toInt64 else if a = 2 then (nI (fw i)).toInt64 else if a = 3 then sc i else (nI (fc i + dr)).toInt64
theorem c_told {E : ET} {ad : Nat → Nat} {th n t dr ms : Nat} {pe pw : Nat → Nat} {len : Nat} {cod : Nat → Nat} {mm : Nat} {fs fc fw : Nat → Nat} {sc : Nat → Int64} {li : Nat → Nat} {lm ls lq hs : Int64} (hst : E.1.stackTraces = false) (i a : Nat) (hi : i < 8) (ha : a < 5) : Ctr E yX5_told cdX5_told (rmL 1) [.ref (ad 0), .int (nI i), .int (nI a)] (WM E ad th n t dr ms pe pw len cod mm fs fc fw sc li lm ls lq hs) (pR (some (.long (tld fs fc fw sc dr i a))) (WM E ad th n t dr ms pe pw len cod mm fs fc fw sc li lm ls lq hs)) noX 0 0 := by
  refine ctr_of hst (by decide) (Nat.le_of_ble_eq_true rfl) (fun G O OR hN => ?_)
  have O : OKG E G cX5_told RX5 (rmL 1) [] := O
  have hN : nLG G = 3 := hN
  refine v_iload_n O dX5_told_0 rfl ?_
  rcases (show a = 0 ∨ a = 1 ∨ a = 2 ∨ a = 3 ∨ a = 4 by omega) with rfl | rfl | rfl | rfl | rfl
  · refine v_tableIn (off := 31) (tgt := 32) O dX5_told_1 (by decide) (by decide) (by decide) (by decide) ?_
    refine v_aload_n O dX5_told_32 rfl ?_
    refine v_get O dX5_told_33 flX5_23 0 rfl rfl ?_
    refine v_iload_n O dX5_told_36 rfl ?_
    refine v_iald O dX5_told_37 4 rfl (by decide) (by omega) ?_
    refine v_i2l O dX5_told_38 ?_
    exact v_lreturn O OR dX5_told_39 (⟨rfl, rfl⟩) (Nat.le_of_ble_eq_true rfl) (Nat.le_of_ble_eq_true rfl)
  · refine v_tableIn (off := 39) (tgt := 40) O dX5_told_1 (by decide) (by decide) (by decide) (by decide) ?_
    refine v_aload_n O dX5_told_40 rfl ?_
    refine v_get O dX5_told_41 flX5_26 0 rfl rfl ?_
    refine v_iload_n O dX5_told_44 rfl ?_
    refine v_iald O dX5_told_45 5 rfl (by decide) (by omega) ?_
    refine v_i2l O dX5_told_46 ?_
    exact v_lreturn O OR dX5_told_47 (⟨rfl, rfl⟩) (Nat.le_of_ble_eq_true rfl) (Nat.le_of_ble_eq_true rfl)
  · refine v_tableIn (off := 47) (tgt := 48) O dX5_told_1 (by decide) (by decide) (by decide) (by decide) ?_
    refine v_aload_n O dX5_told_48 rfl ?_
    refine v_get O dX5_told_49 flX5_29 0 rfl rfl ?_
    refine v_iload_n O dX5_told_52 rfl ?_
    refine v_iald O dX5_told_53 6 rfl (by decide) (by omega) ?_
    refine v_i2l O dX5_told_54 ?_
    exact v_lreturn O OR dX5_told_55 (⟨rfl, rfl⟩) (Nat.le_of_ble_eq_true rfl) (Nat.le_of_ble_eq_true rfl)
  · refine v_tableIn (off := 55) (tgt := 56) O dX5_told_1 (by decide) (by decide) (by decide) (by decide) ?_
    refine v_aload_n O dX5_told_56 rfl ?_
    refine v_get O dX5_told_57 flX5_32 0 rfl rfl ?_
    refine v_iload_n O dX5_told_60 rfl ?_
    refine v_lald O dX5_told_61 7 rfl (by decide) (by omega) ?_
    exact v_lreturn O OR dX5_told_62 (⟨rfl, rfl⟩) (Nat.le_of_ble_eq_true rfl) (Nat.le_of_ble_eq_true rfl)
  · refine v_tableOut (tgt := 63) O dX5_told_1 (by decide) (by decide) ?_
    refine v_aload_n O dX5_told_63 rfl ?_
    refine v_get O dX5_told_64 flX5_26 0 rfl rfl ?_
    refine v_iload_n O dX5_told_67 rfl ?_
    refine v_iald O dX5_told_68 5 rfl (by decide) (by omega) ?_
    refine v_aload_n O dX5_told_69 rfl ?_
    refine v_get O dX5_told_70 flX5_49 0 rfl rfl ?_
    refine v_iaddN O dX5_told_73 ?_
    refine v_i2l O dX5_told_74 ?_
    exact v_lreturn O OR dX5_told_75 (⟨rfl, rfl⟩) (Nat.le_of_ble_eq_true rfl) (Nat.le_of_ble_eq_true rfl)
theorem c_mixM {E : ET} {ad : Nat → Nat} {th n t dr ms : Nat} {pe pw : Nat → Nat} {len : Nat} {cod : Nat → Nat} {mm : Nat} {fs fc fw : Nat → Nat} {sc : Nat → Int64} {li : Nat → Nat} {lm ls lq hs : Int64} (hst : E.1.stackTraces = false) (x : Int64) : Ctr E yX5_mix cdX5_mix (rmL 1) [.ref (ad 0), .long x] (WM E ad th n t dr ms pe pw len cod mm fs fc fw sc li lm ls lq hs) (pR none (WM E ad th n t dr ms pe pw len cod mm fs fc fw sc li lm ls lq (31 * hs + x))) noX 0 0 := by
  refine ctr_of hst (by decide) (Nat.le_of_ble_eq_true rfl) (fun G O OR hN => ?_)
  have O : OKG E G cX5_mix RX5 (rmL 1) [] := O
  have hN : nLG G = 3 := hN
  refine v_aload_n O dX5_mix_0 rfl ?_
  refine v_ldc2 O dX5_mix_1 clX5_162 ?_
  refine v_aload_n O dX5_mix_4 rfl ?_
  refine v_get O dX5_mix_5 flX5_164 0 rfl rfl ?_
  refine v_lmul O dX5_mix_8 ?_
  refine v_lload_n O dX5_mix_9 rfl ?_
  refine v_ladd O dX5_mix_10 ?_
  refine v_put (ty := .long) O dX5_mix_11 flX5_164 ftX5 0 rfl rfl (by decide +kernel) rfl rfl (Nat.le_of_ble_eq_true rfl) ?_
  exact v_return O OR dX5_mix_14 (⟨rfl, rfl⟩) (Nat.le_of_ble_eq_true rfl) (Nat.le_of_ble_eq_true rfl)
end
section
-- the reference's public methods: m_.. where the document asks for an answer, mx_.. where for an exception
theorem m_setChannels {E : ET} {ad : Nat → Nat} {th n t dr ms : Nat} {pe pw : Nat → Nat} {len : Nat} {cod : Nat → Nat} {mm : Nat} {fs fc fw : Nat → Nat} {sc : Nat → Int64} {li : Nat → Nat} {lm ls lq hs : Int64} (hst : E.1.stackTraces = false) (n' : Nat) (hn : n' = 2 ∨ n' = 4 ∨ n' = 8 ∨ n' = 16) : Ctr E yX5_setChannels cdX5_setChannels (rmL 2) [.ref (ad 0), .int (nI n')] (WM E ad th n t dr ms pe pw len cod mm fs fc fw sc li lm ls lq hs) (pR (some (.int (nI n))) (WM E ad (0) (n') (0) (0) (0) (fil pe 0 16) pw len cod (0) fs fc fw sc li lm ls lq hs)) noX 0 0 := by
  refine ctr_of hst (by decide) (Nat.le_of_ble_eq_true rfl) (fun G O OR hN => ?_)
  have O : OKG E G cX5_setChannels RX5 (rmL 2) [] := O
  have hN : nLG G = 3 := hN
  have key : V E G 0 0 23 [(0, .ref (ad 0)), (1, .int (nI n'))] [.ref (ad 0)] (WM E ad th n t dr ms pe pw len cod mm fs fc fw sc li lm ls lq hs) := by
    refine v_iconst (v := nI 0) O dX5_setChannels_23 (by decide) ?_
    refine v_goto (tgt := 28) O dX5_setChannels_24 (by decide) ?_
    refine v_put (ty := .int) O dX5_setChannels_28 flX5_39 ftX5 0 rfl rfl (by decide +kernel) rfl rfl (Nat.le_of_ble_eq_true rfl) ?_
    refine v_aload_n O dX5_setChannels_31 rfl ?_
    refine v_get O dX5_setChannels_32 flX5_39 0 rfl rfl ?_
    refine v_ifN_le (tgt := 40) O dX5_setChannels_35 (by decide) (by omega) (fun h => ?_) (fun h => ?_)
    · refine v_aload_n O dX5_setChannels_40 rfl ?_
      refine v_get O dX5_setChannels_41 flX5_7 0 rfl rfl ?_
      refine v_istore_n O dX5_setChannels_44 (by rw [hN]; decide) ?_
      refine v_aload_n O dX5_setChannels_45 rfl ?_
      refine v_iload_n O dX5_setChannels_46 rfl ?_
      refine v_put (ty := .int) O dX5_setChannels_47 flX5_7 ftX5 0 rfl rfl (by decide +kernel) rfl rfl (Nat.le_of_ble_eq_true rfl) ?_
      refine v_aload_n O dX5_setChannels_50 rfl ?_
      refine v_iconst (v := nI 0) O dX5_setChannels_51 (by decide) ?_
      refine v_put (ty := .int) O dX5_setChannels_52 flX5_46 ftX5 0 rfl rfl (by decide +kernel) rfl rfl (Nat.le_of_ble_eq_true rfl) ?_
      refine v_aload_n O dX5_setChannels_55 rfl ?_
      refine v_iconst (v := nI 0) O dX5_setChannels_56 (by decide) ?_
      refine v_put (ty := .int) O dX5_setChannels_57 flX5_49 ftX5 0 rfl rfl (by decide +kernel) rfl rfl (Nat.le_of_ble_eq_true rfl) ?_
      refine v_aload_n O dX5_setChannels_60 rfl ?_
      refine v_iconst (v := nI 0) O dX5_setChannels_61 (by decide) ?_
      refine v_put (ty := .int) O dX5_setChannels_62 flX5_52 ftX5 0 rfl rfl (by decide +kernel) rfl rfl (Nat.le_of_ble_eq_true rfl) ?_
      refine v_aload_n O dX5_setChannels_65 rfl ?_
      refine v_iconst (v := nI 0) O dX5_setChannels_66 (by decide) ?_
      refine v_put (ty := .int) O dX5_setChannels_67 flX5_55 ftX5 0 rfl rfl (by decide +kernel) rfl rfl (Nat.le_of_ble_eq_true rfl) ?_
      refine v_aload_n O dX5_setChannels_70 rfl ?_
      refine v_w (w' := (WM E ad (0) (n') (0) (0) (0) pe pw len cod (0) fs fc fw sc li lm ls lq hs)) rfl ?_
      refine v_V0 O dX5_setChannels_71 lkX5_58 (c_clearPending hst) 0 rfl rfl rfl rfl rfl (by first | exact hkc | exact Nat.zero_le _) (by first | exact hks | exact Nat.zero_le _) ?_
      refine v_iload_n O dX5_setChannels_74 rfl ?_
      exact v_ireturn O OR dX5_setChannels_75 (⟨rfl, rfl⟩) (Nat.le_of_ble_eq_true rfl) (Nat.le_of_ble_eq_true rfl)
    · omega
  refine v_aload_n O dX5_setChannels_0 rfl ?_
  refine v_iload_n O dX5_setChannels_1 rfl ?_
  refine v_iconst (v := nI 2) O dX5_setChannels_2 (by decide) ?_
  refine v_icmpN_eq (tgt := 23) O dX5_setChannels_3 (by decide) (by omega) (by omega) (fun h1 => ?_) (fun h1 => ?_)
  · exact key
  · refine v_iload_n O dX5_setChannels_6 rfl ?_
    refine v_iconst (v := nI 4) O dX5_setChannels_7 (by decide) ?_
    refine v_icmpN_eq (tgt := 23) O dX5_setChannels_8 (by decide) (by omega) (by omega) (fun h2 => ?_) (fun h2 => ?_)
    · exact key
    · refine v_iload_n O dX5_setChannels_11 rfl ?_
      refine v_bipush (v := nI 8) O dX5_setChannels_12 (by decide) ?_
      refine v_icmpN_eq (tgt := 23) O dX5_setChannels_14 (by decide) (by omega) (by omega) (fun h3 => ?_) (fun h3 => ?_)
      · exact key
      · refine v_iload_n O dX5_setChannels_17 rfl ?_
        refine v_bipush (v := nI 16) O dX5_setChannels_18 (by decide) ?_
        refine v_icmpN_ne (tgt := 27) O dX5_setChannels_20 (by decide) (by omega) (by omega) (fun h4 => ?_) (fun h4 => ?_)
        · omega
        · exact key
theorem mx_setChannels {E : ET} {ad : Nat → Nat} {th n t dr ms : Nat} {pe pw : Nat → Nat} {len : Nat} {cod : Nat → Nat} {mm : Nat} {fs fc fw : Nat → Nat} {sc : Nat → Int64} {li : Nat → Nat} {lm ls lq hs : Int64} (hst : E.1.stackTraces = false) (x : Int32) (hx : ¬ x = nI 2 ∧ ¬ x = nI 4 ∧ ¬ x = nI 8 ∧ ¬ x = nI 16) : Ctr E yX5_setChannels cdX5_setChannels (rmL 2) [.ref (ad 0), .int x] (WM E ad th n t dr ms pe pw len cod mm fs fc fw sc li lm ls lq hs) (pR (some (.int (nI 0))) (WM E ad (1) n t dr ms pe pw len cod mm fs fc fw sc li lm ls lq hs)) noX 0 0 := by
  refine ctr_of hst (by decide) (Nat.le_of_ble_eq_true rfl) (fun G O OR hN => ?_)
  have O : OKG E G cX5_setChannels RX5 (rmL 2) [] := O
  have hN : nLG G = 3 := hN
  refine v_aload_n O dX5_setChannels_0 rfl ?_
  refine v_iload_n O dX5_setChannels_1 rfl ?_
  refine v_iconst (v := nI 2) O dX5_setChannels_2 (by decide) ?_
  refine v_icmp_eq (tgt := 23) O dX5_setChannels_3 (by decide) (fun h1 => ?_) (fun h1 => ?_)
  · exact absurd h1 hx.1
  · refine v_iload_n O dX5_setChannels_6 rfl ?_
    refine v_iconst (v := nI 4) O dX5_setChannels_7 (by decide) ?_
    refine v_icmp_eq (tgt := 23) O dX5_setChannels_8 (by decide) (fun h2 => ?_) (fun h2 => ?_)
    · exact absurd h2 hx.2.1
    · refine v_iload_n O dX5_setChannels_11 rfl ?_
      refine v_bipush (v := nI 8) O dX5_setChannels_12 (by decide) ?_
      refine v_icmp_eq (tgt := 23) O dX5_setChannels_14 (by decide) (fun h3 => ?_) (fun h3 => ?_)
      · exact absurd h3 hx.2.2.1
      · refine v_iload_n O dX5_setChannels_17 rfl ?_
        refine v_bipush (v := nI 16) O dX5_setChannels_18 (by decide) ?_
        refine v_icmp_ne (tgt := 27) O dX5_setChannels_20 (by decide) (fun h4 => ?_) (fun h4 => ?_)
        · refine v_iconst (v := nI 1) O dX5_setChannels_27 (by decide) ?_
          refine v_put (ty := .int) O dX5_setChannels_28 flX5_39 ftX5 0 rfl rfl (by decide +kernel) rfl rfl (Nat.le_of_ble_eq_true rfl) ?_
          refine v_aload_n O dX5_setChannels_31 rfl ?_
          refine v_get O dX5_setChannels_32 flX5_39 0 rfl rfl ?_
          refine v_ifN_le (tgt := 40) O dX5_setChannels_35 (by decide) (by omega) (fun h => ?_) (fun h => ?_)
          · omega
          · refine v_iconst (v := nI 0) O dX5_setChannels_38 (by decide) ?_
            exact v_ireturn O OR dX5_setChannels_39 (⟨rfl, rfl⟩) (Nat.le_of_ble_eq_true rfl) (Nat.le_of_ble_eq_true rfl)
        · exact absurd h4 hx.2.2.2
theorem m_setPending {E : ET} {ad : Nat → Nat} {th n t dr ms : Nat} {pe pw : Nat → Nat} {len : Nat} {cod : Nat → Nat} {mm : Nat} {fs fc fw : Nat → Nat} {sc : Nat → Int64} {li : Nat → Nat} {lm ls lq hs : Int64} (hst : E.1.stackTraces = false) (hn : n ≤ 16) (c p : Nat) (hc : c < n) (hp : p ≤ 9999) : Ctr E yX5_setPending cdX5_setPending (rmL 3) [.ref (ad 0), .int (nI c), .int (nI p)] (WM E ad th n t dr ms pe pw len cod mm fs fc fw sc li lm ls lq hs) (pR (some (.int (nI (pe c)))) (WM E ad (0) n t dr ms (va_up pe c p) pw len cod mm fs fc fw sc li lm ls lq hs)) noX 0 0 := by
  refine ctr_of hst (by decide) (Nat.le_of_ble_eq_true rfl) (fun G O OR hN => ?_)
  have O : OKG E G cX5_setPending RX5 (rmL 3) [] := O
  have hN : nLG G = 4 := hN
  refine v_aload_n O dX5_setPending_0 rfl ?_
  refine v_aload_n O dX5_setPending_1 rfl ?_
  refine v_iload_n O dX5_setPending_2 rfl ?_
  refine v_V1 O dX5_setPending_3 lkX5_61 (c_isChannel hst hn (nI c)) 0 rfl rfl rfl rfl rfl (by first | exact hkc | exact Nat.zero_le _) (by first | exact hks | exact Nat.zero_le _) ?_
  refine v_ifB_ne (tgt := 13) O dX5_setPending_6 (by decide) (fun h => ?_) (fun h => ?_)
  · refine v_iload_n O dX5_setPending_13 rfl ?_
    refine v_iconst (v := nI 0) O dX5_setPending_14 (by decide) ?_
    refine v_sipush (v := nI 9999) O dX5_setPending_15 (by decide) ?_
    refine v_S1 O dX5_setPending_18 lkX5_42 (c_withinN hst p 0 9999 (by omega) (by decide) (by decide)) rfl rfl rfl (by first | exact hkc | exact Nat.zero_le _) (by first | exact hks | exact Nat.zero_le _) ?_
    refine v_ifB_eq (tgt := 28) O dX5_setPending_21 (by decide) (fun h2 => ?_) (fun h2 => ?_)
    · exact absurd h2 (by simp [hp])
    · refine v_iconst (v := nI 0) O dX5_setPending_24 (by decide) ?_
      refine v_goto (tgt := 29) O dX5_setPending_25 (by decide) ?_
      refine v_put (ty := .int) O dX5_setPending_29 flX5_39 ftX5 0 rfl rfl (by decide +kernel) rfl rfl (Nat.le_of_ble_eq_true rfl) ?_
      refine v_aload_n O dX5_setPending_32 rfl ?_
      refine v_get O dX5_setPending_33 flX5_39 0 rfl rfl ?_
      refine v_ifN_le (tgt := 41) O dX5_setPending_36 (by decide) (by omega) (fun h3 => ?_) (fun h3 => ?_)
      · refine v_aload_n O dX5_setPending_41 rfl ?_
        refine v_get O dX5_setPending_42 flX5_13 0 rfl rfl ?_
        refine v_iload_n O dX5_setPending_45 rfl ?_
        refine v_iald O dX5_setPending_46 1 rfl (by decide) (by omega) ?_
        refine v_istore_n O dX5_setPending_47 (by rw [hN]; decide) ?_
        refine v_aload_n O dX5_setPending_48 rfl ?_
        refine v_get O dX5_setPending_49 flX5_13 0 rfl rfl ?_
        refine v_iload_n O dX5_setPending_52 rfl ?_
        refine v_iload_n O dX5_setPending_53 rfl ?_
        refine v_iastN O dX5_setPending_54 1 rfl (by decide) (by omega) ?_
        refine v_iload_n O dX5_setPending_55 rfl ?_
        exact v_ireturn O OR dX5_setPending_56 (⟨rfl, rfl⟩) (Nat.le_of_ble_eq_true rfl) (Nat.le_of_ble_eq_true rfl)
      · omega
  · rw [inB_nI hc (by omega)] at h; cases h
theorem mx_setPending1 {E : ET} {ad : Nat → Nat} {th n t dr ms : Nat} {pe pw : Nat → Nat} {len : Nat} {cod : Nat → Nat} {mm : Nat} {fs fc fw : Nat → Nat} {sc : Nat → Int64} {li : Nat → Nat} {lm ls lq hs : Int64} (hst : E.1.stackTraces = false) (hn : n ≤ 16) (x p : Int32) (hx : inB x n = false) : Ctr E yX5_setPending cdX5_setPending (rmL 3) [.ref (ad 0), .int x, .int p] (WM E ad th n t dr ms pe pw len cod mm fs fc fw sc li lm ls lq hs) (pR (some (.int (nI 0))) (WM E ad (1) n t dr ms pe pw len cod mm fs fc fw sc li lm ls lq hs)) noX 0 0 := by
  refine ctr_of hst (by decide) (Nat.le_of_ble_eq_true rfl) (fun G O OR hN => ?_)
  have O : OKG E G cX5_setPending RX5 (rmL 3) [] := O
  have hN : nLG G = 4 := hN
  refine v_aload_n O dX5_setPending_0 rfl ?_
  refine v_aload_n O dX5_setPending_1 rfl ?_
  refine v_iload_n O dX5_setPending_2 rfl ?_
  refine v_V1 O dX5_setPending_3 lkX5_61 (c_isChannel hst hn x) 0 rfl rfl rfl rfl rfl (by first | exact hkc | exact Nat.zero_le _) (by first | exact hks | exact Nat.zero_le _) ?_
  refine v_ifB_ne (tgt := 13) O dX5_setPending_6 (by decide) (fun h => ?_) (fun h => ?_)
  · rw [hx] at h; cases h
  · refine v_iconst (v := nI 1) O dX5_setPending_9 (by decide) ?_
    refine v_goto (tgt := 29) O dX5_setPending_10 (by decide) ?_
    refine v_put (ty := .int) O dX5_setPending_29 flX5_39 ftX5 0 rfl rfl (by decide +kernel) rfl rfl (Nat.le_of_ble_eq_true rfl) ?_
    refine v_aload_n O dX5_setPending_32 rfl ?_
    refine v_get O dX5_setPending_33 flX5_39 0 rfl rfl ?_
    refine v_ifN_le (tgt := 41) O dX5_setPending_36 (by decide) (by omega) (fun h3 => ?_) (fun h3 => ?_)
    · omega
    · refine v_iconst (v := nI 0) O dX5_setPending_39 (by decide) ?_
      exact v_ireturn O OR dX5_setPending_40 (⟨rfl, rfl⟩) (Nat.le_of_ble_eq_true rfl) (Nat.le_of_ble_eq_true rfl)
theorem mx_setPending2 {E : ET} {ad : Nat → Nat} {th n t dr ms : Nat} {pe pw : Nat → Nat} {len : Nat} {cod : Nat → Nat} {mm : Nat} {fs fc fw : Nat → Nat} {sc : Nat → Int64} {li : Nat → Nat} {lm ls lq hs : Int64} (hst : E.1.stackTraces = false) (hn : n ≤ 16) (x p : Int32) (hx : inB x n = true) (hp : ¬ (nI 0 ≤ p ∧ p ≤ nI 9999)) : Ctr E yX5_setPending cdX5_setPending (rmL 3) [.ref (ad 0), .int x, .int p] (WM E ad th n t dr ms pe pw len cod mm fs fc fw sc li lm ls lq hs) (pR (some (.int (nI 0))) (WM E ad (2) n t dr ms pe pw len cod mm fs fc fw sc li lm ls lq hs)) noX 0 0 := by
  refine ctr_of hst (by decide) (Nat.le_of_ble_eq_true rfl) (fun G O OR hN => ?_)
  have O : OKG E G cX5_setPending RX5 (rmL 3) [] := O
  have hN : nLG G = 4 := hN
  refine v_aload_n O dX5_setPending_0 rfl ?_
  refine v_aload_n O dX5_setPending_1 rfl ?_
  refine v_iload_n O dX5_setPending_2 rfl ?_
  refine v_V1 O dX5_setPending_3 lkX5_61 (c_isChannel hst hn x) 0 rfl rfl rfl rfl rfl (by first | exact hkc | exact Nat.zero_le _) (by first | exact hks | exact Nat.zero_le _) ?_
  refine v_ifB_ne (tgt := 13) O dX5_setPending_6 (by decide) (fun h => ?_) (fun h => ?_)
  · refine v_iload_n O dX5_setPending_13 rfl ?_
    refine v_iconst (v := nI 0) O dX5_setPending_14 (by decide) ?_
    refine v_sipush (v := nI 9999) O dX5_setPending_15 (by decide) ?_
    refine v_S1 O dX5_setPending_18 lkX5_42 (c_within hst p (nI 0) (nI 9999)) rfl rfl rfl (by first | exact hkc | exact Nat.zero_le _) (by first | exact hks | exact Nat.zero_le _) ?_
    refine v_ifB_eq (tgt := 28) O dX5_setPending_21 (by decide) (fun h2 => ?_) (fun h2 => ?_)
    · refine v_iconst (v := nI 2) O dX5_setPending_28 (by decide) ?_
      refine v_put (ty := .int) O dX5_setPending_29 flX5_39 ftX5 0 rfl rfl (by decide +kernel) rfl rfl (Nat.le_of_ble_eq_true rfl) ?_
      refine v_aload_n O dX5_setPending_32 rfl ?_
      refine v_get O dX5_setPending_33 flX5_39 0 rfl rfl ?_
      refine v_ifN_le (tgt := 41) O dX5_setPending_36 (by decide) (by omega) (fun h3 => ?_) (fun h3 => ?_)
      · omega
      · refine v_iconst (v := nI 0) O dX5_setPending_39 (by decide) ?_
        exact v_ireturn O OR dX5_setPending_40 (⟨rfl, rfl⟩) (Nat.le_of_ble_eq_true rfl) (Nat.le_of_ble_eq_true rfl)
    · exact absurd (of_decide_eq_true h2) hp
  · rw [hx] at h; cases h
/-- g laid into f from a on, i of it -/
def lay (f g : Nat → Nat) (a i : Nat) : Nat → Nat := fun q => if a ≤ q ∧ q < a + i then g (q - a) else f q
theorem lay_0 (f g : Nat → Nat) (a : Nat) : lay f g a 0 = f := by
  funext q
  exact if_neg (by omega)
theorem lay_s (f g : Nat → Nat) (a i : Nat) : va_up (lay f g a i) (a + i) (g i) = lay f g a (i + 1) := by
  funext q
  simp only [va_up, lay]
  by_cases h : q = a + i
  · subst h
    rw [if_pos rfl, if_pos (by omega), show a + i - a = i by omega]
  · rw [if_neg h]
    by_cases h2 : a ≤ q ∧ q < a + i
    · rw [if_pos h2, if_pos (by omega)]
    · rw [if_neg h2, if_neg (by omega)]
theorem lp_advanceM {E : ET} {G : GT} (O : OKG E G cX5_advance RX5 (rmL 2) []) (hN : nLG G = 2) {ad : Nat → Nat} {th n t dr ms : Nat} {pe pw : Nat → Nat} {len : Nat} {cod : Nat → Nat} {mm : Nat} {fs fc fw : Nat → Nat} {sc : Nat → Int64} {li : Nat → Nat} {lm ls lq hs : Int64} (h1 : 1 ≤ t) (ht : t ≤ 48) (kk : V E G 0 0 45 [(0, .ref (ad 0)), (1, .int (nI 16))] [] (WM E ad th n t dr ms pe (lay pw pe ((t - 1) * 16) 16) len cod mm fs fc fw sc li lm ls lq hs)) : ∀ j q : Nat, q ≤ 16 → j = 16 - q → V E G 0 0 11 [(0, .ref (ad 0)), (1, .int (nI q))] [] (WM E ad th n t dr ms pe (lay pw pe ((t - 1) * 16) q) len cod mm fs fc fw sc li lm ls lq hs) := by
  intro j
  induction j using Nat.strongRecOn with
  | _ j ih =>
    intro q hq hj
    refine v_iload_n O dX5_advance_11 rfl ?_
    refine v_bipush (v := nI 16) O dX5_advance_12 (by decide) ?_
    refine v_icmpN_ge (tgt := 45) O dX5_advance_14 (by decide) (by omega) (by omega) (fun h => ?_) (fun h => ?_)
    · have e : q = 16 := by omega
      subst e
      exact kk
    · refine v_aload_n O dX5_advance_17 rfl ?_
      refine v_get O dX5_advance_18 flX5_17 0 rfl rfl ?_
      refine v_bipush (v := nI 16) O dX5_advance_21 (by decide) ?_
      refine v_aload_n O dX5_advance_23 rfl ?_
      refine v_get O dX5_advance_24 flX5_46 0 rfl rfl ?_
      refine v_iconst (v := nI 1) O dX5_advance_27 (by decide) ?_
      refine v_isubN O dX5_advance_28 (by omega) ?_
      refine v_imulN O dX5_advance_29 ?_
      refine v_iload_n O dX5_advance_30 rfl ?_
      refine v_iaddN O dX5_advance_31 ?_
      refine v_aload_n O dX5_advance_32 rfl ?_
      refine v_get O dX5_advance_33 flX5_13 0 rfl rfl ?_
      refine v_iload_n O dX5_advance_36 rfl ?_
      refine v_iald O dX5_advance_37 1 rfl (by decide) (by omega) ?_
      refine v_iastN O dX5_advance_38 2 rfl (by decide) (by omega) ?_
      refine v_iincN (b := 1) O dX5_advance_39 rfl (by decide) (by rw [hN]; decide) ?_
      refine v_goto (tgt := 11) O dX5_advance_42 (by decide) ?_
      refine v_ord [0, 1] ?_
      refine v_w (w' := (WM E ad th n t dr ms pe (lay pw pe ((t - 1) * 16) (q + 1)) len cod mm fs fc fw sc li lm ls lq hs)) (by rw [← lay_s, Nat.mul_comm (t - 1) 16]; rfl) ?_
      exact ih (j - 1) (by omega) (q + 1) (by omega) (by omega)
theorem bgT_le {t : Nat} (ht : t ≤ 48) : 1 ≤ bgT t ∧ bgT t ≤ 48 := by unfold bgT; split <;> omega
theorem m_advance {E : ET} {ad : Nat → Nat} {th n t dr ms : Nat} {pe pw : Nat → Nat} {len : Nat} {cod : Nat → Nat} {mm : Nat} {fs fc fw : Nat → Nat} {sc : Nat → Int64} {li : Nat → Nat} {lm ls lq hs : Int64} (hst : E.1.stackTraces = false) (ht : t ≤ 48) : Ctr E yX5_advance cdX5_advance (rmL 2) [.ref (ad 0)] (WM E ad th n t dr ms pe pw len cod mm fs fc fw sc li lm ls lq hs) (pR (some (.int (nI (bgT t)))) (WM E ad (0) n (bgT t) (bgD t dr) ms (fil pe 0 16) (lay (bgP t pw) pe ((bgT t - 1) * 16) 16) len cod (0) fs fc fw sc li lm ls lq hs)) noX 0 0 := by
  obtain ⟨b1, b2⟩ := bgT_le ht
  refine ctr_of hst (by decide) (Nat.le_of_ble_eq_true rfl) (fun G O OR hN => ?_)
  have O : OKG E G cX5_advance RX5 (rmL 2) [] := O
  have hN : nLG G = 2 := hN
  refine v_aload_n O dX5_advance_0 rfl ?_
  refine v_iconst (v := nI 0) O dX5_advance_1 (by decide) ?_
  refine v_put (ty := .int) O dX5_advance_2 flX5_39 ftX5 0 rfl rfl (by decide +kernel) rfl rfl (Nat.le_of_ble_eq_true rfl) ?_
  refine v_aload_n O dX5_advance_5 rfl ?_
  refine v_w (w' := (WM E ad (0) n t dr ms pe pw len cod mm fs fc fw sc li lm ls lq hs)) rfl ?_
  refine v_V0 O dX5_advance_6 lkX5_65 (c_begin hst ht) 0 rfl rfl rfl rfl rfl (by first | exact hkc | exact Nat.zero_le _) (by first | exact hks | exact Nat.zero_le _) ?_
  refine v_iconst (v := nI 0) O dX5_advance_9 (by decide) ?_
  refine v_istore_n O dX5_advance_10 (by rw [hN]; decide) ?_
  refine v_ord [0, 1] ?_
  refine v_w (w' := (WM E ad (0) n (bgT t) (bgD t dr) ms pe (lay (bgP t pw) pe ((bgT t - 1) * 16) 0) len cod (0) fs fc fw sc li lm ls lq hs)) (by rw [lay_0]) ?_
  refine lp_advanceM O hN b1 b2 ?_ 16 0 (by omega) (by omega)
  refine v_aload_n O dX5_advance_45 rfl ?_
  refine v_V0 O dX5_advance_46 lkX5_58 (c_clearPending hst) 0 rfl rfl rfl rfl rfl (by first | exact hkc | exact Nat.zero_le _) (by first | exact hks | exact Nat.zero_le _) ?_
  refine v_aload_n O dX5_advance_49 rfl ?_
  refine v_get O dX5_advance_50 flX5_46 0 rfl rfl ?_
  exact v_ireturn O OR dX5_advance_53 (⟨rfl, rfl⟩) (Nat.le_of_ble_eq_true rfl) (Nat.le_of_ble_eq_true rfl)
theorem m_append {E : ET} {ad : Nat → Nat} {th n t dr ms : Nat} {pe pw : Nat → Nat} {len : Nat} {cod : Nat → Nat} {mm : Nat} {fs fc fw : Nat → Nat} {sc : Nat → Int64} {li : Nat → Nat} {lm ls lq hs : Int64} (hst : E.1.stackTraces = false) (c : Nat) (hc : 32 ≤ c ∧ c ≤ 126) (hl : len < 64) : Ctr E yX5_append cdX5_append (rmL 2) [.ref (ad 0), .int (nI c)] (WM E ad th n t dr ms pe pw len cod mm fs fc fw sc li lm ls lq hs) (pR (some (.int (nI (len + 1)))) (WM E ad (0) n t dr ms pe pw (len + 1) (va_up cod len c) mm fs fc fw sc li lm ls lq hs)) noX 0 0 := by
  refine ctr_of hst (by decide) (Nat.le_of_ble_eq_true rfl) (fun G O OR hN => ?_)
  have O : OKG E G cX5_append RX5 (rmL 2) [] := O
  have hN : nLG G = 2 := hN
  refine v_aload_n O dX5_append_0 rfl ?_
  refine v_iload_n O dX5_append_1 rfl ?_
  refine v_bipush (v := nI 32) O dX5_append_2 (by decide) ?_
  refine v_bipush (v := nI 126) O dX5_append_4 (by decide) ?_
  refine v_S1 O dX5_append_6 lkX5_42 (c_withinN hst c 32 126 (by omega) (by decide) (by decide)) rfl rfl rfl (by first | exact hkc | exact Nat.zero_le _) (by first | exact hks | exact Nat.zero_le _) ?_
  refine v_ifB_ne (tgt := 16) O dX5_append_9 (by decide) (fun h => ?_) (fun h => ?_)
  · refine v_aload_n O dX5_append_16 rfl ?_
    refine v_get O dX5_append_17 flX5_68 0 rfl rfl ?_
    refine v_bipush (v := nI 64) O dX5_append_20 (by decide) ?_
    refine v_icmpN_ne (tgt := 29) O dX5_append_22 (by decide) (by omega) (by omega) (fun h2 => ?_) (fun h2 => ?_)
    · refine v_iconst (v := nI 0) O dX5_append_29 (by decide) ?_
      refine v_put (ty := .int) O dX5_append_30 flX5_39 ftX5 0 rfl rfl (by decide +kernel) rfl rfl (Nat.le_of_ble_eq_true rfl) ?_
      refine v_aload_n O dX5_append_33 rfl ?_
      refine v_get O dX5_append_34 flX5_39 0 rfl rfl ?_
      refine v_ifN_le (tgt := 42) O dX5_append_37 (by decide) (by omega) (fun h3 => ?_) (fun h3 => ?_)
      · refine v_aload_n O dX5_append_42 rfl ?_
        refine v_get O dX5_append_43 flX5_20 0 rfl rfl ?_
        refine v_aload_n O dX5_append_46 rfl ?_
        refine v_get O dX5_append_47 flX5_68 0 rfl rfl ?_
        refine v_iload_n O dX5_append_50 rfl ?_
        refine v_iastN O dX5_append_51 3 rfl (by decide) (by omega) ?_
        refine v_aload_n O dX5_append_52 rfl ?_
        refine v_dup O dX5_append_53 rfl ?_
        refine v_get O dX5_append_54 flX5_68 0 rfl rfl ?_
        refine v_iconst (v := nI 1) O dX5_append_57 (by decide) ?_
        refine v_iaddN O dX5_append_58 ?_
        refine v_put (ty := .int) O dX5_append_59 flX5_68 ftX5 0 rfl rfl (by decide +kernel) rfl rfl (Nat.le_of_ble_eq_true rfl) ?_
        refine v_aload_n O dX5_append_62 rfl ?_
        refine v_get O dX5_append_63 flX5_68 0 rfl rfl ?_
        exact v_ireturn O OR dX5_append_66 (⟨rfl, rfl⟩) (Nat.le_of_ble_eq_true rfl) (Nat.le_of_ble_eq_true rfl)
      · omega
    · omega
  · exact absurd h (by simp [hc])
theorem mx_append1 {E : ET} {ad : Nat → Nat} {th n t dr ms : Nat} {pe pw : Nat → Nat} {len : Nat} {cod : Nat → Nat} {mm : Nat} {fs fc fw : Nat → Nat} {sc : Nat → Int64} {li : Nat → Nat} {lm ls lq hs : Int64} (hst : E.1.stackTraces = false) (x : Int32) (hx : ¬ (nI 32 ≤ x ∧ x ≤ nI 126)) : Ctr E yX5_append cdX5_append (rmL 2) [.ref (ad 0), .int x] (WM E ad th n t dr ms pe pw len cod mm fs fc fw sc li lm ls lq hs) (pR (some (.int (nI 0))) (WM E ad (1) n t dr ms pe pw len cod mm fs fc fw sc li lm ls lq hs)) noX 0 0 := by
  refine ctr_of hst (by decide) (Nat.le_of_ble_eq_true rfl) (fun G O OR hN => ?_)
  have O : OKG E G cX5_append RX5 (rmL 2) [] := O
  have hN : nLG G = 2 := hN
  refine v_aload_n O dX5_append_0 rfl ?_
  refine v_iload_n O dX5_append_1 rfl ?_
  refine v_bipush (v := nI 32) O dX5_append_2 (by decide) ?_
  refine v_bipush (v := nI 126) O dX5_append_4 (by decide) ?_
  refine v_S1 O dX5_append_6 lkX5_42 (c_within hst x (nI 32) (nI 126)) rfl rfl rfl (by first | exact hkc | exact Nat.zero_le _) (by first | exact hks | exact Nat.zero_le _) ?_
  refine v_ifB_ne (tgt := 16) O dX5_append_9 (by decide) (fun h => ?_) (fun h => ?_)
  · exact absurd (of_decide_eq_true h) hx
  · refine v_iconst (v := nI 1) O dX5_append_12 (by decide) ?_
    refine v_goto (tgt := 30) O dX5_append_13 (by decide) ?_
    refine v_put (ty := .int) O dX5_append_30 flX5_39 ftX5 0 rfl rfl (by decide +kernel) rfl rfl (Nat.le_of_ble_eq_true rfl) ?_
    refine v_aload_n O dX5_append_33 rfl ?_
    refine v_get O dX5_append_34 flX5_39 0 rfl rfl ?_
    refine v_ifN_le (tgt := 42) O dX5_append_37 (by decide) (by omega) (fun h3 => ?_) (fun h3 => ?_)
    · omega
    · refine v_iconst (v := nI 0) O dX5_append_40 (by decide) ?_
      exact v_ireturn O OR dX5_append_41 (⟨rfl, rfl⟩) (Nat.le_of_ble_eq_true rfl) (Nat.le_of_ble_eq_true rfl)
theorem mx_append2 {E : ET} {ad : Nat → Nat} {th n t dr ms : Nat} {pe pw : Nat → Nat} {len : Nat} {cod : Nat → Nat} {mm : Nat} {fs fc fw : Nat → Nat} {sc : Nat → Int64} {li : Nat → Nat} {lm ls lq hs : Int64} (hst : E.1.stackTraces = false) (x : Int32) (hx : nI 32 ≤ x ∧ x ≤ nI 126) (hl : len = 64) : Ctr E yX5_append cdX5_append (rmL 2) [.ref (ad 0), .int x] (WM E ad th n t dr ms pe pw len cod mm fs fc fw sc li lm ls lq hs) (pR (some (.int (nI 0))) (WM E ad (2) n t dr ms pe pw len cod mm fs fc fw sc li lm ls lq hs)) noX 0 0 := by
  refine ctr_of hst (by decide) (Nat.le_of_ble_eq_true rfl) (fun G O OR hN => ?_)
  have O : OKG E G cX5_append RX5 (rmL 2) [] := O
  have hN : nLG G = 2 := hN
  refine v_aload_n O dX5_append_0 rfl ?_
  refine v_iload_n O dX5_append_1 rfl ?_
  refine v_bipush (v := nI 32) O dX5_append_2 (by decide) ?_
  refine v_bipush (v := nI 126) O dX5_append_4 (by decide) ?_
  refine v_S1 O dX5_append_6 lkX5_42 (c_within hst x (nI 32) (nI 126)) rfl rfl rfl (by first | exact hkc | exact Nat.zero_le _) (by first | exact hks | exact Nat.zero_le _) ?_
  refine v_ifB_ne (tgt := 16) O dX5_append_9 (by decide) (fun h => ?_) (fun h => ?_)
  · refine v_aload_n O dX5_append_16 rfl ?_
    refine v_get O dX5_append_17 flX5_68 0 rfl rfl ?_
    refine v_bipush (v := nI 64) O dX5_append_20 (by decide) ?_
    refine v_icmpN_ne (tgt := 29) O dX5_append_22 (by decide) (by omega) (by omega) (fun h2 => ?_) (fun h2 => ?_)
    · omega
    · refine v_iconst (v := nI 2) O dX5_append_25 (by decide) ?_
      refine v_goto (tgt := 30) O dX5_append_26 (by decide) ?_
      refine v_put (ty := .int) O dX5_append_30 flX5_39 ftX5 0 rfl rfl (by decide +kernel) rfl rfl (Nat.le_of_ble_eq_true rfl) ?_
      refine v_aload_n O dX5_append_33 rfl ?_
      refine v_get O dX5_append_34 flX5_39 0 rfl rfl ?_
      refine v_ifN_le (tgt := 42) O dX5_append_37 (by decide) (by omega) (fun h3 => ?_) (fun h3 => ?_)
      · omega
      · refine v_iconst (v := nI 0) O dX5_append_40 (by decide) ?_
        exact v_ireturn O OR dX5_append_41 (⟨rfl, rfl⟩) (Nat.le_of_ble_eq_true rfl) (Nat.le_of_ble_eq_true rfl)
  · exact absurd hx (of_decide_eq_false h)
theorem m_clearInput {E : ET} {ad : Nat → Nat} {th n t dr ms : Nat} {pe pw : Nat → Nat} {len : Nat} {cod : Nat → Nat} {mm : Nat} {fs fc fw : Nat → Nat} {sc : Nat → Int64} {li : Nat → Nat} {lm ls lq hs : Int64} (hst : E.1.stackTraces = false) : Ctr E yX5_clearInput cdX5_clearInput (rmL 1) [.ref (ad 0)] (WM E ad th n t dr ms pe pw len cod mm fs fc fw sc li lm ls lq hs) (pR (some (.int (nI len))) (WM E ad (0) n t dr ms pe pw (0) cod mm fs fc fw sc li lm ls lq hs)) noX 0 0 := by
  refine ctr_of hst (by decide) (Nat.le_of_ble_eq_true rfl) (fun G O OR hN => ?_)
  have O : OKG E G cX5_clearInput RX5 (rmL 1) [] := O
  have hN : nLG G = 2 := hN
  refine v_aload_n O dX5_clearInput_0 rfl ?_
  refine v_iconst (v := nI 0) O dX5_clearInput_1 (by decide) ?_
  refine v_put (ty := .int) O dX5_clearInput_2 flX5_39 ftX5 0 rfl rfl (by decide +kernel) rfl rfl (Nat.le_of_ble_eq_true rfl) ?_
  refine v_aload_n O dX5_clearInput_5 rfl ?_
  refine v_get O dX5_clearInput_6 flX5_68 0 rfl rfl ?_
  refine v_istore_n O dX5_clearInput_9 (by rw [hN]; decide) ?_
  refine v_aload_n O dX5_clearInput_10 rfl ?_
  refine v_iconst (v := nI 0) O dX5_clearInput_11 (by decide) ?_
  refine v_put (ty := .int) O dX5_clearInput_12 flX5_68 ftX5 0 rfl rfl (by decide +kernel) rfl rfl (Nat.le_of_ble_eq_true rfl) ?_
  refine v_iload_n O dX5_clearInput_15 rfl ?_
  exact v_ireturn O OR dX5_clearInput_16 (⟨rfl, rfl⟩) (Nat.le_of_ble_eq_true rfl) (Nat.le_of_ble_eq_true rfl)
theorem m_firstError {E : ET} {ad : Nat → Nat} {th n t dr ms : Nat} {pe pw : Nat → Nat} {len : Nat} {cod : Nat → Nat} {mm : Nat} {fs fc fw : Nat → Nat} {sc : Nat → Int64} {li : Nat → Nat} {lm ls lq hs : Int64} (hst : E.1.stackTraces = false) (hl : len ≤ 64) (hcod : ∀ j, j < len → cod j < 128) : Ctr E yX5_firstError cdX5_firstError (rmL 4) [.ref (ad 0)] (WM E ad th n t dr ms pe pw len cod mm fs fc fw sc li lm ls lq hs) (pR (some (.int (nI (errAt cod len)))) (WM E ad (0) n t dr ms pe pw len cod mm fs fc fw sc li lm ls lq hs)) noX 0 0 := by
  refine ctr_of hst (by decide) (Nat.le_of_ble_eq_true rfl) (fun G O OR hN => ?_)
  have O : OKG E G cX5_firstError RX5 (rmL 4) [] := O
  have hN : nLG G = 1 := hN
  refine v_aload_n O dX5_firstError_0 rfl ?_
  refine v_iconst (v := nI 0) O dX5_firstError_1 (by decide) ?_
  refine v_put (ty := .int) O dX5_firstError_2 flX5_39 ftX5 0 rfl rfl (by decide +kernel) rfl rfl (Nat.le_of_ble_eq_true rfl) ?_
  refine v_aload_n O dX5_firstError_5 rfl ?_
  refine v_w (w' := (WM E ad (0) n t dr ms pe pw len cod mm fs fc fw sc li lm ls lq hs)) rfl ?_
  refine v_V1 O dX5_firstError_6 lkX5_75 (c_rightLength hst hl hcod) 0 rfl rfl rfl rfl rfl (by first | exact hkc | exact Nat.zero_le _) (by first | exact hks | exact Nat.zero_le _) ?_
  exact v_ireturn O OR dX5_firstError_9 (⟨rfl, rfl⟩) (Nat.le_of_ble_eq_true rfl) (Nat.le_of_ble_eq_true rfl)
theorem m_offset {E : ET} {ad : Nat → Nat} {th n t dr ms : Nat} {pe pw : Nat → Nat} {len : Nat} {cod : Nat → Nat} {mm : Nat} {fs fc fw : Nat → Nat} {sc : Nat → Int64} {li : Nat → Nat} {lm ls lq hs : Int64} {K : Nat} (hst : E.1.stackTraces = false) (hK : 1 ≤ K) (hK4 : K ≤ 4) (hn : n = 2 ^ K) (d c : Nat) (s : Bool) (hd : d < n) (hc : c < n) : Ctr E yX5_offset cdX5_offset (rmL 3) [.ref (ad 0), .int (nI d), .int (nI c), .int (bI s)] (WM E ad th n t dr ms pe pw len cod mm fs fc fw sc li lm ls lq hs) (pR (some (.int (nI (oby K n s d c)))) (WM E ad (0) n t dr ms pe pw len cod mm fs fc fw sc li lm ls lq hs)) noX 0 0 := by
  obtain ⟨g1, g2⟩ := two_le hn hK hK4
  refine ctr_of hst (by decide) (Nat.le_of_ble_eq_true rfl) (fun G O OR hN => ?_)
  have O : OKG E G cX5_offset RX5 (rmL 3) [] := O
  have hN : nLG G = 4 := hN
  refine v_aload_n O dX5_offset_0 rfl ?_
  refine v_aload_n O dX5_offset_1 rfl ?_
  refine v_iload_n O dX5_offset_2 rfl ?_
  refine v_V1 O dX5_offset_3 lkX5_86 (c_isSlope hst g2 (nI d)) 0 rfl rfl rfl rfl rfl (by first | exact hkc | exact Nat.zero_le _) (by first | exact hks | exact Nat.zero_le _) ?_
  refine v_ifB_eq (tgt := 21) O dX5_offset_6 (by decide) (fun h => ?_) (fun h => ?_)
  · rw [inB_nI hd (by omega)] at h; cases h
  · refine v_aload_n O dX5_offset_9 rfl ?_
    refine v_iload_n O dX5_offset_10 rfl ?_
    refine v_V1 O dX5_offset_11 lkX5_61 (c_isChannel hst g2 (nI c)) 0 rfl rfl rfl rfl rfl (by first | exact hkc | exact Nat.zero_le _) (by first | exact hks | exact Nat.zero_le _) ?_
    refine v_ifB_eq (tgt := 21) O dX5_offset_14 (by decide) (fun h2 => ?_) (fun h2 => ?_)
    · rw [inB_nI hc (by omega)] at h2; cases h2
    · refine v_iconst (v := nI 0) O dX5_offset_17 (by decide) ?_
      refine v_goto (tgt := 22) O dX5_offset_18 (by decide) ?_
      refine v_put (ty := .int) O dX5_offset_22 flX5_39 ftX5 0 rfl rfl (by decide +kernel) rfl rfl (Nat.le_of_ble_eq_true rfl) ?_
      refine v_aload_n O dX5_offset_25 rfl ?_
      refine v_get O dX5_offset_26 flX5_39 0 rfl rfl ?_
      refine v_ifN_le (tgt := 36) O dX5_offset_29 (by decide) (by omega) (fun h3 => ?_) (fun h3 => ?_)
      · refine v_aload_n O dX5_offset_36 rfl ?_
        refine v_iload_n O dX5_offset_37 rfl ?_
        refine v_iload_n O dX5_offset_38 rfl ?_
        refine v_iload_n O dX5_offset_39 rfl ?_
        refine v_w (w' := (WM E ad (0) n t dr ms pe pw len cod mm fs fc fw sc li lm ls lq hs)) rfl ?_
        refine v_V1 O dX5_offset_40 lkX5_89 (c_offsetBy hst hK hK4 hn d c s (by omega) (by omega)) 0 rfl rfl rfl rfl rfl (by first | exact hkc | exact Nat.zero_le _) (by first | exact hks | exact Nat.zero_le _) ?_
        exact v_ireturn O OR dX5_offset_43 (⟨rfl, rfl⟩) (Nat.le_of_ble_eq_true rfl) (Nat.le_of_ble_eq_true rfl)
      · omega
theorem mx_offset {E : ET} {ad : Nat → Nat} {th n t dr ms : Nat} {pe pw : Nat → Nat} {len : Nat} {cod : Nat → Nat} {mm : Nat} {fs fc fw : Nat → Nat} {sc : Nat → Int64} {li : Nat → Nat} {lm ls lq hs : Int64} (hst : E.1.stackTraces = false) (hn : n ≤ 16) (x y : Int32) (s : Bool) (hx : (inB x n && inB y n) = false) : Ctr E yX5_offset cdX5_offset (rmL 3) [.ref (ad 0), .int x, .int y, .int (bI s)] (WM E ad th n t dr ms pe pw len cod mm fs fc fw sc li lm ls lq hs) (pR (some (.int (nI 0))) (WM E ad (1) n t dr ms pe pw len cod mm fs fc fw sc li lm ls lq hs)) noX 0 0 := by
  refine ctr_of hst (by decide) (Nat.le_of_ble_eq_true rfl) (fun G O OR hN => ?_)
  have O : OKG E G cX5_offset RX5 (rmL 3) [] := O
  have hN : nLG G = 4 := hN
  have key : V E G 0 0 21 [(0, .ref (ad 0)), (1, .int x), (2, .int y), (3, .int (bI s))] [.ref (ad 0)] (WM E ad th n t dr ms pe pw len cod mm fs fc fw sc li lm ls lq hs) := by
    refine v_iconst (v := nI 1) O dX5_offset_21 (by decide) ?_
    refine v_put (ty := .int) O dX5_offset_22 flX5_39 ftX5 0 rfl rfl (by decide +kernel) rfl rfl (Nat.le_of_ble_eq_true rfl) ?_
    refine v_aload_n O dX5_offset_25 rfl ?_
    refine v_get O dX5_offset_26 flX5_39 0 rfl rfl ?_
    refine v_ifN_le (tgt := 36) O dX5_offset_29 (by decide) (by omega) (fun h3 => ?_) (fun h3 => ?_)
    · omega
    · refine v_iconst (v := nI 0) O dX5_offset_32 (by decide) ?_
      refine v_goto (tgt := 43) O dX5_offset_33 (by decide) ?_
      exact v_ireturn O OR dX5_offset_43 (⟨rfl, rfl⟩) (Nat.le_of_ble_eq_true rfl) (Nat.le_of_ble_eq_true rfl)
  refine v_aload_n O dX5_offset_0 rfl ?_
  refine v_aload_n O dX5_offset_1 rfl ?_
  refine v_iload_n O dX5_offset_2 rfl ?_
  refine v_V1 O dX5_offset_3 lkX5_86 (c_isSlope hst hn x) 0 rfl rfl rfl rfl rfl (by first | exact hkc | exact Nat.zero_le _) (by first | exact hks | exact Nat.zero_le _) ?_
  refine v_ifB_eq (tgt := 21) O dX5_offset_6 (by decide) (fun h => ?_) (fun h => ?_)
  · exact key
  · refine v_aload_n O dX5_offset_9 rfl ?_
    refine v_iload_n O dX5_offset_10 rfl ?_
    refine v_V1 O dX5_offset_11 lkX5_61 (c_isChannel hst hn y) 0 rfl rfl rfl rfl rfl (by first | exact hkc | exact Nat.zero_le _) (by first | exact hks | exact Nat.zero_le _) ?_
    refine v_ifB_eq (tgt := 21) O dX5_offset_14 (by decide) (fun h2 => ?_) (fun h2 => ?_)
    · exact key
    · rw [h, h2] at hx; cases hx
theorem m_bend {E : ET} {ad : Nat → Nat} {th n t dr ms : Nat} {pe pw : Nat → Nat} {len : Nat} {cod : Nat → Nat} {mm : Nat} {fs fc fw : Nat → Nat} {sc : Nat → Int64} {li : Nat → Nat} {lm ls lq hs : Int64} {K : Nat} (hst : E.1.stackTraces = false) (hK : 1 ≤ K) (hK4 : K ≤ 4) (hn : n = 2 ^ K) (d : Nat) (hd : d < n) : Ctr E yX5_bend cdX5_bend (rmL 3) [.ref (ad 0), .int (nI d)] (WM E ad th n t dr ms pe pw len cod mm fs fc fw sc li lm ls lq hs) (pR (some (.int (nI (bnd K n d n)))) (WM E ad (0) n t dr ms pe pw len cod mm fs fc fw sc li lm ls lq hs)) noX 0 0 := by
  obtain ⟨g1, g2⟩ := two_le hn hK hK4
  refine ctr_of hst (by decide) (Nat.le_of_ble_eq_true rfl) (fun G O OR hN => ?_)
  have O : OKG E G cX5_bend RX5 (rmL 3) [] := O
  have hN : nLG G = 2 := hN
  refine v_aload_n O dX5_bend_0 rfl ?_
  refine v_aload_n O dX5_bend_1 rfl ?_
  refine v_iload_n O dX5_bend_2 rfl ?_
  refine v_V1 O dX5_bend_3 lkX5_86 (c_isSlope hst g2 (nI d)) 0 rfl rfl rfl rfl rfl (by first | exact hkc | exact Nat.zero_le _) (by first | exact hks | exact Nat.zero_le _) ?_
  refine v_ifB_eq (tgt := 13) O dX5_bend_6 (by decide) (fun h => ?_) (fun h => ?_)
  · rw [inB_nI hd (by omega)] at h; cases h
  · refine v_iconst (v := nI 0) O dX5_bend_9 (by decide) ?_
    refine v_goto (tgt := 14) O dX5_bend_10 (by decide) ?_
    refine v_put (ty := .int) O dX5_bend_14 flX5_39 ftX5 0 rfl rfl (by decide +kernel) rfl rfl (Nat.le_of_ble_eq_true rfl) ?_
    refine v_aload_n O dX5_bend_17 rfl ?_
    refine v_get O dX5_bend_18 flX5_39 0 rfl rfl ?_
    refine v_ifN_le (tgt := 28) O dX5_bend_21 (by decide) (by omega) (fun h3 => ?_) (fun h3 => ?_)
    · refine v_aload_n O dX5_bend_28 rfl ?_
      refine v_iload_n O dX5_bend_29 rfl ?_
      refine v_w (w' := (WM E ad (0) n t dr ms pe pw len cod mm fs fc fw sc li lm ls lq hs)) rfl ?_
      refine v_V1 O dX5_bend_30 lkX5_93 (c_bendOf hst hK hK4 hn (by omega)) 0 rfl rfl rfl rfl rfl (by first | exact hkc | exact Nat.zero_le _) (by first | exact hks | exact Nat.zero_le _) ?_
      exact v_ireturn O OR dX5_bend_33 (⟨rfl, rfl⟩) (Nat.le_of_ble_eq_true rfl) (Nat.le_of_ble_eq_true rfl)
    · omega
theorem mx_bend {E : ET} {ad : Nat → Nat} {th n t dr ms : Nat} {pe pw : Nat → Nat} {len : Nat} {cod : Nat → Nat} {mm : Nat} {fs fc fw : Nat → Nat} {sc : Nat → Int64} {li : Nat → Nat} {lm ls lq hs : Int64} (hst : E.1.stackTraces = false) (hn : n ≤ 16) (x : Int32) (hx : inB x n = false) : Ctr E yX5_bend cdX5_bend (rmL 3) [.ref (ad 0), .int x] (WM E ad th n t dr ms pe pw len cod mm fs fc fw sc li lm ls lq hs) (pR (some (.int (nI 0))) (WM E ad (1) n t dr ms pe pw len cod mm fs fc fw sc li lm ls lq hs)) noX 0 0 := by
  refine ctr_of hst (by decide) (Nat.le_of_ble_eq_true rfl) (fun G O OR hN => ?_)
  have O : OKG E G cX5_bend RX5 (rmL 3) [] := O
  have hN : nLG G = 2 := hN
  refine v_aload_n O dX5_bend_0 rfl ?_
  refine v_aload_n O dX5_bend_1 rfl ?_
  refine v_iload_n O dX5_bend_2 rfl ?_
  refine v_V1 O dX5_bend_3 lkX5_86 (c_isSlope hst hn x) 0 rfl rfl rfl rfl rfl (by first | exact hkc | exact Nat.zero_le _) (by first | exact hks | exact Nat.zero_le _) ?_
  refine v_ifB_eq (tgt := 13) O dX5_bend_6 (by decide) (fun h => ?_) (fun h => ?_)
  · refine v_iconst (v := nI 1) O dX5_bend_13 (by decide) ?_
    refine v_put (ty := .int) O dX5_bend_14 flX5_39 ftX5 0 rfl rfl (by decide +kernel) rfl rfl (Nat.le_of_ble_eq_true rfl) ?_
    refine v_aload_n O dX5_bend_17 rfl ?_
    refine v_get O dX5_bend_18 flX5_39 0 rfl rfl ?_
    refine v_ifN_le (tgt := 28) O dX5_bend_21 (by decide) (by omega) (fun h3 => ?_) (fun h3 => ?_)
    · omega
    · refine v_iconst (v := nI 0) O dX5_bend_24 (by decide) ?_
      refine v_goto (tgt := 33) O dX5_bend_25 (by decide) ?_
      exact v_ireturn O OR dX5_bend_33 (⟨rfl, rfl⟩) (Nat.le_of_ble_eq_true rfl) (Nat.le_of_ble_eq_true rfl)
  · rw [hx] at h; cases h
theorem m_power {E : ET} {ad : Nat → Nat} {th n t dr ms : Nat} {pe pw : Nat → Nat} {len : Nat} {cod : Nat → Nat} {mm : Nat} {fs fc fw : Nat → Nat} {sc : Nat → Int64} {li : Nat → Nat} {lm ls lq hs : Int64} (hst : E.1.stackTraces = false) (hn : n ≤ 16) (ht : t ≤ 48) (c q : Nat) (hc : c < n) (hq : q < t) : Ctr E yX5_power cdX5_power (rmL 3) [.ref (ad 0), .int (nI c), .int (nI q)] (WM E ad th n t dr ms pe pw len cod mm fs fc fw sc li lm ls lq hs) (pR (some (.int (nI (pw (q * 16 + c))))) (WM E ad (0) n t dr ms pe pw len cod mm fs fc fw sc li lm ls lq hs)) noX 0 0 := by
  refine ctr_of hst (by decide) (Nat.le_of_ble_eq_true rfl) (fun G O OR hN => ?_)
  have O : OKG E G cX5_power RX5 (rmL 3) [] := O
  have hN : nLG G = 3 := hN
  refine v_aload_n O dX5_power_0 rfl ?_
  refine v_aload_n O dX5_power_1 rfl ?_
  refine v_iload_n O dX5_power_2 rfl ?_
  refine v_V1 O dX5_power_3 lkX5_61 (c_isChannel hst hn (nI c)) 0 rfl rfl rfl rfl rfl (by first | exact hkc | exact Nat.zero_le _) (by first | exact hks | exact Nat.zero_le _) ?_
  refine v_ifB_eq (tgt := 21) O dX5_power_6 (by decide) (fun h => ?_) (fun h => ?_)
  · rw [inB_nI hc (by omega)] at h; cases h
  · refine v_aload_n O dX5_power_9 rfl ?_
    refine v_iload_n O dX5_power_10 rfl ?_
    refine v_V1 O dX5_power_11 lkX5_96 (c_isColumn hst ht (nI q)) 0 rfl rfl rfl rfl rfl (by first | exact hkc | exact Nat.zero_le _) (by first | exact hks | exact Nat.zero_le _) ?_
    refine v_ifB_eq (tgt := 21) O dX5_power_14 (by decide) (fun h2 => ?_) (fun h2 => ?_)
    · rw [inB_nI hq (by omega)] at h2; cases h2
    · refine v_iconst (v := nI 0) O dX5_power_17 (by decide) ?_
      refine v_goto (tgt := 22) O dX5_power_18 (by decide) ?_
      refine v_put (ty := .int) O dX5_power_22 flX5_39 ftX5 0 rfl rfl (by decide +kernel) rfl rfl (Nat.le_of_ble_eq_true rfl) ?_
      refine v_aload_n O dX5_power_25 rfl ?_
      refine v_get O dX5_power_26 flX5_39 0 rfl rfl ?_
      refine v_ifN_le (tgt := 36) O dX5_power_29 (by decide) (by omega) (fun h3 => ?_) (fun h3 => ?_)
      · refine v_aload_n O dX5_power_36 rfl ?_
        refine v_get O dX5_power_37 flX5_17 0 rfl rfl ?_
        refine v_bipush (v := nI 16) O dX5_power_40 (by decide) ?_
        refine v_iload_n O dX5_power_42 rfl ?_
        refine v_imulN O dX5_power_43 ?_
        refine v_iload_n O dX5_power_44 rfl ?_
        refine v_iaddN O dX5_power_45 ?_
        refine v_iald O dX5_power_46 2 rfl (by decide) (by omega) ?_
        exact v_ireturn O OR dX5_power_47 (⟨by rw [Nat.mul_comm 16 q], rfl⟩) (Nat.le_of_ble_eq_true rfl) (Nat.le_of_ble_eq_true rfl)
      · omega
theorem mx_power {E : ET} {ad : Nat → Nat} {th n t dr ms : Nat} {pe pw : Nat → Nat} {len : Nat} {cod : Nat → Nat} {mm : Nat} {fs fc fw : Nat → Nat} {sc : Nat → Int64} {li : Nat → Nat} {lm ls lq hs : Int64} (hst : E.1.stackTraces = false) (hn : n ≤ 16) (ht : t ≤ 48) (x y : Int32) (hx : (inB x n && inB y t) = false) : Ctr E yX5_power cdX5_power (rmL 3) [.ref (ad 0), .int x, .int y] (WM E ad th n t dr ms pe pw len cod mm fs fc fw sc li lm ls lq hs) (pR (some (.int (nI 0))) (WM E ad (1) n t dr ms pe pw len cod mm fs fc fw sc li lm ls lq hs)) noX 0 0 := by
  refine ctr_of hst (by decide) (Nat.le_of_ble_eq_true rfl) (fun G O OR hN => ?_)
  have O : OKG E G cX5_power RX5 (rmL 3) [] := O
  have hN : nLG G = 3 := hN
  have key : V E G 0 0 21 [(0, .ref (ad 0)), (1, .int x), (2, .int y)] [.ref (ad 0)] (WM E ad th n t dr ms pe pw len cod mm fs fc fw sc li lm ls lq hs) := by
    refine v_iconst (v := nI 1) O dX5_power_21 (by decide) ?_
    refine v_put (ty := .int) O dX5_power_22 flX5_39 ftX5 0 rfl rfl (by decide +kernel) rfl rfl (Nat.le_of_ble_eq_true rfl) ?_
    refine v_aload_n O dX5_power_25 rfl ?_
    refine v_get O dX5_power_26 flX5_39 0 rfl rfl ?_
    refine v_ifN_le (tgt := 36) O dX5_power_29 (by decide) (by omega) (fun h3 => ?_) (fun h3 => ?_)
    · omega
    · refine v_iconst (v := nI 0) O dX5_power_32 (by decide) ?_
      refine v_goto (tgt := 47) O dX5_power_33 (by decide) ?_
      exact v_ireturn O OR dX5_power_47 (⟨rfl, rfl⟩) (Nat.le_of_ble_eq_true rfl) (Nat.le_of_ble_eq_true rfl)
  refine v_aload_n O dX5_power_0 rfl ?_
  refine v_aload_n O dX5_power_1 rfl ?_
  refine v_iload_n O dX5_power_2 rfl ?_
  refine v_V1 O dX5_power_3 lkX5_61 (c_isChannel hst hn x) 0 rfl rfl rfl rfl rfl (by first | exact hkc | exact Nat.zero_le _) (by first | exact hks | exact Nat.zero_le _) ?_
  refine v_ifB_eq (tgt := 21) O dX5_power_6 (by decide) (fun h => ?_) (fun h => ?_)
  · exact key
  · refine v_aload_n O dX5_power_9 rfl ?_
    refine v_iload_n O dX5_power_10 rfl ?_
    refine v_V1 O dX5_power_11 lkX5_96 (c_isColumn hst ht y) 0 rfl rfl rfl rfl rfl (by first | exact hkc | exact Nat.zero_le _) (by first | exact hks | exact Nat.zero_le _) ?_
    refine v_ifB_eq (tgt := 21) O dX5_power_14 (by decide) (fun h2 => ?_) (fun h2 => ?_)
    · exact key
    · rw [h, h2] at hx; cases hx
theorem m_count {E : ET} {ad : Nat → Nat} {th n t dr ms : Nat} {pe pw : Nat → Nat} {len : Nat} {cod : Nat → Nat} {mm : Nat} {fs fc fw : Nat → Nat} {sc : Nat → Int64} {li : Nat → Nat} {lm ls lq hs : Int64} (hst : E.1.stackTraces = false) (hm : ms < 65536) (a : Nat) (ha : a < 5) : Ctr E yX5_count cdX5_count (rmL 3) [.ref (ad 0), .int (nI a)] (WM E ad th n t dr ms pe pw len cod mm fs fc fw sc li lm ls lq hs) (pR (some (.int (nI (cnt5 n t dr (ons ms 16) mm a)))) (WM E ad (0) n t dr ms pe pw len cod mm fs fc fw sc li lm ls lq hs)) noX 0 0 := by
  refine ctr_of hst (by decide) (Nat.le_of_ble_eq_true rfl) (fun G O OR hN => ?_)
  have O : OKG E G cX5_count RX5 (rmL 3) [] := O
  have hN : nLG G = 2 := hN
  refine v_aload_n O dX5_count_0 rfl ?_
  refine v_iload_n O dX5_count_1 rfl ?_
  refine v_iconst (v := nI 0) O dX5_count_2 (by decide) ?_
  refine v_iconst (v := nI 4) O dX5_count_3 (by decide) ?_
  refine v_S1 O dX5_count_4 lkX5_42 (c_withinN hst a 0 4 (by omega) (by decide) (by decide)) rfl rfl rfl (by first | exact hkc | exact Nat.zero_le _) (by first | exact hks | exact Nat.zero_le _) ?_
  refine v_ifB_eq (tgt := 14) O dX5_count_7 (by decide) (fun h => ?_) (fun h => ?_)
  · exact absurd h (by simp; omega)
  · refine v_iconst (v := nI 0) O dX5_count_10 (by decide) ?_
    refine v_goto (tgt := 15) O dX5_count_11 (by decide) ?_
    refine v_put (ty := .int) O dX5_count_15 flX5_39 ftX5 0 rfl rfl (by decide +kernel) rfl rfl (Nat.le_of_ble_eq_true rfl) ?_
    refine v_aload_n O dX5_count_18 rfl ?_
    refine v_get O dX5_count_19 flX5_39 0 rfl rfl ?_
    refine v_ifN_le (tgt := 29) O dX5_count_22 (by decide) (by omega) (fun h3 => ?_) (fun h3 => ?_)
    · refine v_aload_n O dX5_count_29 rfl ?_
      refine v_iload_n O dX5_count_30 rfl ?_
      refine v_w (w' := (WM E ad (0) n t dr ms pe pw len cod mm fs fc fw sc li lm ls lq hs)) rfl ?_
      refine v_V1 O dX5_count_31 lkX5_102 (c_countOf hst hm a ha) 0 rfl rfl rfl rfl rfl (by first | exact hkc | exact Nat.zero_le _) (by first | exact hks | exact Nat.zero_le _) ?_
      exact v_ireturn O OR dX5_count_34 (⟨rfl, rfl⟩) (Nat.le_of_ble_eq_true rfl) (Nat.le_of_ble_eq_true rfl)
    · omega
theorem mx_count {E : ET} {ad : Nat → Nat} {th n t dr ms : Nat} {pe pw : Nat → Nat} {len : Nat} {cod : Nat → Nat} {mm : Nat} {fs fc fw : Nat → Nat} {sc : Nat → Int64} {li : Nat → Nat} {lm ls lq hs : Int64} (hst : E.1.stackTraces = false) (x : Int32) (hx : ¬ (nI 0 ≤ x ∧ x ≤ nI 4)) : Ctr E yX5_count cdX5_count (rmL 3) [.ref (ad 0), .int x] (WM E ad th n t dr ms pe pw len cod mm fs fc fw sc li lm ls lq hs) (pR (some (.int (nI 0))) (WM E ad (1) n t dr ms pe pw len cod mm fs fc fw sc li lm ls lq hs)) noX 0 0 := by
  refine ctr_of hst (by decide) (Nat.le_of_ble_eq_true rfl) (fun G O OR hN => ?_)
  have O : OKG E G cX5_count RX5 (rmL 3) [] := O
  have hN : nLG G = 2 := hN
  refine v_aload_n O dX5_count_0 rfl ?_
  refine v_iload_n O dX5_count_1 rfl ?_
  refine v_iconst (v := nI 0) O dX5_count_2 (by decide) ?_
  refine v_iconst (v := nI 4) O dX5_count_3 (by decide) ?_
  refine v_S1 O dX5_count_4 lkX5_42 (c_within hst x (nI 0) (nI 4)) rfl rfl rfl (by first | exact hkc | exact Nat.zero_le _) (by first | exact hks | exact Nat.zero_le _) ?_
  refine v_ifB_eq (tgt := 14) O dX5_count_7 (by decide) (fun h => ?_) (fun h => ?_)
  · refine v_iconst (v := nI 1) O dX5_count_14 (by decide) ?_
    refine v_put (ty := .int) O dX5_count_15 flX5_39 ftX5 0 rfl rfl (by decide +kernel) rfl rfl (Nat.le_of_ble_eq_true rfl) ?_
    refine v_aload_n O dX5_count_18 rfl ?_
    refine v_get O dX5_count_19 flX5_39 0 rfl rfl ?_
    refine v_ifN_le (tgt := 29) O dX5_count_22 (by decide) (by omega) (fun h3 => ?_) (fun h3 => ?_)
    · omega
    · refine v_iconst (v := nI 0) O dX5_count_25 (by decide) ?_
      refine v_goto (tgt := 34) O dX5_count_26 (by decide) ?_
      exact v_ireturn O OR dX5_count_34 (⟨rfl, rfl⟩) (Nat.le_of_ble_eq_true rfl) (Nat.le_of_ble_eq_true rfl)
  · exact absurd (of_decide_eq_true h) hx
theorem m_channelSum {E : ET} {ad : Nat → Nat} {th n t dr ms : Nat} {pe pw : Nat → Nat} {len : Nat} {cod : Nat → Nat} {mm : Nat} {fs fc fw : Nat → Nat} {sc : Nat → Int64} {li : Nat → Nat} {lm ls lq hs : Int64} (hst : E.1.stackTraces = false) (hn : n ≤ 16) (ht : t ≤ 48) (c : Nat) (hc : c < n) : Ctr E yX5_channelSum cdX5_channelSum (rmL 3) [.ref (ad 0), .int (nI c)] (WM E ad th n t dr ms pe pw len cod mm fs fc fw sc li lm ls lq hs) (pR (some (.int (nI (chs pw c t)))) (WM E ad (0) n t dr ms pe pw len cod mm fs fc fw sc li lm ls lq hs)) noX 0 0 := by
  refine ctr_of hst (by decide) (Nat.le_of_ble_eq_true rfl) (fun G O OR hN => ?_)
  have O : OKG E G cX5_channelSum RX5 (rmL 3) [] := O
  have hN : nLG G = 2 := hN
  refine v_aload_n O dX5_channelSum_0 rfl ?_
  refine v_aload_n O dX5_channelSum_1 rfl ?_
  refine v_iload_n O dX5_channelSum_2 rfl ?_
  refine v_V1 O dX5_channelSum_3 lkX5_61 (c_isChannel hst hn (nI c)) 0 rfl rfl rfl rfl rfl (by first | exact hkc | exact Nat.zero_le _) (by first | exact hks | exact Nat.zero_le _) ?_
  refine v_ifB_eq (tgt := 13) O dX5_channelSum_6 (by decide) (fun h => ?_) (fun h => ?_)
  · rw [inB_nI hc (by omega)] at h; cases h
  · refine v_iconst (v := nI 0) O dX5_channelSum_9 (by decide) ?_
    refine v_goto (tgt := 14) O dX5_channelSum_10 (by decide) ?_
    refine v_put (ty := .int) O dX5_channelSum_14 flX5_39 ftX5 0 rfl rfl (by decide +kernel) rfl rfl (Nat.le_of_ble_eq_true rfl) ?_
    refine v_aload_n O dX5_channelSum_17 rfl ?_
    refine v_get O dX5_channelSum_18 flX5_39 0 rfl rfl ?_
    refine v_ifN_le (tgt := 28) O dX5_channelSum_21 (by decide) (by omega) (fun h3 => ?_) (fun h3 => ?_)
    · refine v_aload_n O dX5_channelSum_28 rfl ?_
      refine v_iload_n O dX5_channelSum_29 rfl ?_
      refine v_w (w' := (WM E ad (0) n t dr ms pe pw len cod mm fs fc fw sc li lm ls lq hs)) rfl ?_
      refine v_V1 O dX5_channelSum_30 lkX5_108 (c_sumOf hst (by omega) ht) 0 rfl rfl rfl rfl rfl (by first | exact hkc | exact Nat.zero_le _) (by first | exact hks | exact Nat.zero_le _) ?_
      exact v_ireturn O OR dX5_channelSum_33 (⟨rfl, rfl⟩) (Nat.le_of_ble_eq_true rfl) (Nat.le_of_ble_eq_true rfl)
    · omega
theorem mx_channelSum {E : ET} {ad : Nat → Nat} {th n t dr ms : Nat} {pe pw : Nat → Nat} {len : Nat} {cod : Nat → Nat} {mm : Nat} {fs fc fw : Nat → Nat} {sc : Nat → Int64} {li : Nat → Nat} {lm ls lq hs : Int64} (hst : E.1.stackTraces = false) (hn : n ≤ 16) (x : Int32) (hx : inB x n = false) : Ctr E yX5_channelSum cdX5_channelSum (rmL 3) [.ref (ad 0), .int x] (WM E ad th n t dr ms pe pw len cod mm fs fc fw sc li lm ls lq hs) (pR (some (.int (nI 0))) (WM E ad (1) n t dr ms pe pw len cod mm fs fc fw sc li lm ls lq hs)) noX 0 0 := by
  refine ctr_of hst (by decide) (Nat.le_of_ble_eq_true rfl) (fun G O OR hN => ?_)
  have O : OKG E G cX5_channelSum RX5 (rmL 3) [] := O
  have hN : nLG G = 2 := hN
  refine v_aload_n O dX5_channelSum_0 rfl ?_
  refine v_aload_n O dX5_channelSum_1 rfl ?_
  refine v_iload_n O dX5_channelSum_2 rfl ?_
  refine v_V1 O dX5_channelSum_3 lkX5_61 (c_isChannel hst hn x) 0 rfl rfl rfl rfl rfl (by first | exact hkc | exact Nat.zero_le _) (by first | exact hks | exact Nat.zero_le _) ?_
  refine v_ifB_eq (tgt := 13) O dX5_channelSum_6 (by decide) (fun h => ?_) (fun h => ?_)
  · refine v_iconst (v := nI 1) O dX5_channelSum_13 (by decide) ?_
    refine v_put (ty := .int) O dX5_channelSum_14 flX5_39 ftX5 0 rfl rfl (by decide +kernel) rfl rfl (Nat.le_of_ble_eq_true rfl) ?_
    refine v_aload_n O dX5_channelSum_17 rfl ?_
    refine v_get O dX5_channelSum_18 flX5_39 0 rfl rfl ?_
    refine v_ifN_le (tgt := 28) O dX5_channelSum_21 (by decide) (by omega) (fun h3 => ?_) (fun h3 => ?_)
    · omega
    · refine v_iconst (v := nI 0) O dX5_channelSum_24 (by decide) ?_
      refine v_goto (tgt := 33) O dX5_channelSum_25 (by decide) ?_
      exact v_ireturn O OR dX5_channelSum_33 (⟨rfl, rfl⟩) (Nat.le_of_ble_eq_true rfl) (Nat.le_of_ble_eq_true rfl)
  · rw [hx] at h; cases h
end
section
-- load
def ldT (t : Nat) : Nat → Nat
  | 0 => t
  | k + 1 => bgT (ldT t k)
def ldD (t dr : Nat) : Nat → Nat
  | 0 => dr
  | k + 1 => bgD (ldT t k) (ldD t dr k)
def ldP (t : Nat) (pw cod : Nat → Nat) (n : Nat) : Nat → (Nat → Nat)
  | 0 => pw
  | k + 1 => lay (bgP (ldT t k) (ldP t pw cod n k)) (fun c => pv (cod (n * k + c))) ((bgT (ldT t k) - 1) * 16) n
theorem ldT_le {t : Nat} (ht : t ≤ 48) : ∀ k, ldT t k ≤ 48
  | 0 => ht
  | k + 1 => (bgT_le (ldT_le ht k)).2
theorem lp_loadIn {E : ET} {G : GT} (O : OKG E G cX5_load RX5 (rmL 4) []) (hN : nLG G = 4) {ad : Nat → Nat} {th n t dr ms : Nat} {pe pw : Nat → Nat} {len : Nat} {cod : Nat → Nat} {mm : Nat} {fs fc fw : Nat → Nat} {sc : Nat → Int64} {li : Nat → Nat} {lm ls lq hs : Int64} {many k n0 : Nat} (hst : E.1.stackTraces = false) (hn0 : n0 = n) (hn : n ≤ 16) (h1 : 1 ≤ t) (ht : t ≤ 48) (hl : len ≤ 64) (hk : n * k + n ≤ len) (hcod : ∀ j, j < len → cod j < 128 ∧ isP (cod j) = true) (kk : V E G 0 0 117 [(0, .ref (ad 0)), (1, .int (nI many)), (2, .int (nI k))] [] (WM E ad th n t dr ms pe (lay pw (fun c => pv (cod (n * k + c))) ((t - 1) * 16) n0) len cod mm fs fc fw sc li lm ls lq hs)) : ∀ j c : Nat, c ≤ n → j = n - c → V E G 0 0 71 [(0, .ref (ad 0)), (1, .int (nI many)), (2, .int (nI k)), (3, .int (nI c))] [] (WM E ad th n t dr ms pe (lay pw (fun c => pv (cod (n * k + c))) ((t - 1) * 16) c) len cod mm fs fc fw sc li lm ls lq hs) := by
  intro j
  induction j using Nat.strongRecOn with
  | _ j ih =>
    intro c hc hj
    refine v_iload_n O dX5_load_71 rfl ?_
    refine v_aload_n O dX5_load_72 rfl ?_
    refine v_get O dX5_load_73 flX5_7 0 rfl rfl ?_
    refine v_icmpN_ge (tgt := 117) O dX5_load_76 (by decide) (by omega) (by omega) (fun h => ?_) (fun h => ?_)
    · have e : c = n0 := by omega
      subst e
      refine v_ord [0, 1, 2] ?_
      exact kk
    · obtain ⟨hc1, hc2⟩ := hcod (n * k + c) (by omega)
      refine v_aload_n O dX5_load_79 rfl ?_
      refine v_get O dX5_load_80 flX5_17 0 rfl rfl ?_
      refine v_bipush (v := nI 16) O dX5_load_83 (by decide) ?_
      refine v_aload_n O dX5_load_85 rfl ?_
      refine v_get O dX5_load_86 flX5_46 0 rfl rfl ?_
      refine v_iconst (v := nI 1) O dX5_load_89 (by decide) ?_
      refine v_isubN O dX5_load_90 (by omega) ?_
      refine v_imulN O dX5_load_91 ?_
      refine v_iload_n O dX5_load_92 rfl ?_
      refine v_iaddN O dX5_load_93 ?_
      refine v_aload_n O dX5_load_94 rfl ?_
      refine v_get O dX5_load_95 flX5_20 0 rfl rfl ?_
      refine v_aload_n O dX5_load_98 rfl ?_
      refine v_get O dX5_load_99 flX5_7 0 rfl rfl ?_
      refine v_iload_n O dX5_load_102 rfl ?_
      refine v_imulN O dX5_load_103 ?_
      refine v_iload_n O dX5_load_104 rfl ?_
      refine v_iaddN O dX5_load_105 ?_
      refine v_iald O dX5_load_106 3 rfl (by decide) (by omega) ?_
      refine v_S1 O dX5_load_107 lkX5_71 (c_powerOfM hst (cod (n * k + c)) hc1) rfl rfl rfl (by first | exact hkc | exact Nat.zero_le _) (by first | exact hks | exact Nat.zero_le _) ?_
      rw [show pvI (cod (n * k + c)) = nI (pv (cod (n * k + c))) from if_pos hc2]
      refine v_iastN O dX5_load_110 2 rfl (by decide) (by omega) ?_
      refine v_iincN (b := 1) O dX5_load_111 rfl (by decide) (by rw [hN]; decide) ?_
      refine v_goto (tgt := 71) O dX5_load_114 (by decide) ?_
      refine v_ord [0, 1, 2, 3] ?_
      refine v_w (w' := (WM E ad th n t dr ms pe (lay pw (fun c => pv (cod (n * k + c))) ((t - 1) * 16) (c + 1)) len cod mm fs fc fw sc li lm ls lq hs)) (by rw [← lay_s, Nat.mul_comm (t - 1) 16]; rfl) ?_
      exact ih (j - 1) (by omega) (c + 1) (by omega) (by omega)
theorem lp_loadOut {E : ET} {G : GT} (O : OKG E G cX5_load RX5 (rmL 4) []) (hN : nLG G = 4) {ad : Nat → Nat} {th n t dr ms : Nat} {pe pw : Nat → Nat} {len : Nat} {cod : Nat → Nat} {mm : Nat} {fs fc fw : Nat → Nat} {sc : Nat → Int64} {li : Nat → Nat} {lm ls lq hs : Int64} {many : Nat} (hst : E.1.stackTraces = false) (hn : n ≤ 16) (ht : t ≤ 48) (hl : len ≤ 64) (hk : n * many = len) (hm : 1 ≤ many) (hm2 : many ≤ 64) (hcod : ∀ j, j < len → cod j < 128 ∧ isP (cod j) = true) (kk : V E G 0 0 123 [(0, .ref (ad 0)), (1, .int (nI many))] [] (WM E ad th n (ldT t many) (ldD t dr many) ms pe (ldP t pw cod n many) len cod (0) fs fc fw sc li lm ls lq hs)) : ∀ j k mm0 : Nat, k ≤ many → (1 ≤ k → mm0 = 0) → j = many - k → V E G 0 0 60 [(0, .ref (ad 0)), (1, .int (nI many)), (2, .int (nI k))] [] (WM E ad th n (ldT t k) (ldD t dr k) ms pe (ldP t pw cod n k) len cod (mm0) fs fc fw sc li lm ls lq hs) := by
  intro j
  induction j using Nat.strongRecOn with
  | _ j ih =>
    intro k mm0 hkm hz hj
    refine v_iload_n O dX5_load_60 rfl ?_
    refine v_iload_n O dX5_load_61 rfl ?_
    refine v_icmpN_ge (tgt := 123) O dX5_load_62 (by decide) (by omega) (by omega) (fun h => ?_) (fun h => ?_)
    · have e : k = many := by omega
      subst e
      rw [hz hm]
      refine v_ord [0, 1] ?_
      exact kk
    · have hq : n * (k + 1) ≤ n * many := Nat.mul_le_mul_left n h
      rw [Nat.mul_succ] at hq
      obtain ⟨b1, b2⟩ := bgT_le (ldT_le ht k)
      refine v_aload_n O dX5_load_65 rfl ?_
      refine v_V0 O dX5_load_66 lkX5_65 (c_begin hst (ldT_le ht k)) 0 rfl rfl rfl rfl rfl (by first | exact hkc | exact Nat.zero_le _) (by first | exact hks | exact Nat.zero_le _) ?_
      refine v_iconst (v := nI 0) O dX5_load_69 (by decide) ?_
      refine v_istore_n O dX5_load_70 (by rw [hN]; decide) ?_
      refine v_ord [0, 1, 2, 3] ?_
      refine v_w (w' := (WM E ad th n (bgT (ldT t k)) (bgD (ldT t k) (ldD t dr k)) ms pe (lay (bgP (ldT t k) (ldP t pw cod n k)) (fun c => pv (cod (n * k + c))) ((bgT (ldT t k) - 1) * 16) 0) len cod (0) fs fc fw sc li lm ls lq hs)) (by rw [lay_0]) ?_
      refine lp_loadIn O hN hst rfl hn b1 b2 hl (by omega) hcod ?_ n 0 (by omega) (by omega)
      refine v_iincN (b := 1) O dX5_load_117 rfl (by decide) (by rw [hN]; decide) ?_
      refine v_goto (tgt := 60) O dX5_load_120 (by decide) ?_
      refine v_ord [0, 1, 2] ?_
      exact ih (j - 1) (by omega) (k + 1) 0 (by omega) (fun _ => rfl) (by omega)
theorem m_load {E : ET} {ad : Nat → Nat} {th n t dr ms : Nat} {pe pw : Nat → Nat} {len : Nat} {cod : Nat → Nat} {mm : Nat} {fs fc fw : Nat → Nat} {sc : Nat → Int64} {li : Nat → Nat} {lm ls lq hs : Int64} (hst : E.1.stackTraces = false) (hn1 : 2 ≤ n) (hn : n ≤ 16) (ht : t ≤ 48) (hl : len ≤ 64) (h0 : 1 ≤ len) (hr : len % n = 0) (hcod : ∀ j, j < len → cod j < 128 ∧ isP (cod j) = true) : Ctr E yX5_load cdX5_load (rmL 4) [.ref (ad 0)] (WM E ad th n t dr ms pe pw len cod mm fs fc fw sc li lm ls lq hs) (pR (some (.int (nI (len / n)))) (WM E ad (0) n (ldT t (len / n)) (ldD t dr (len / n)) ms pe (ldP t pw cod n (len / n)) (0) cod (0) fs fc fw sc li lm ls lq hs)) noX 0 0 := by
  have hm := Nat.div_add_mod len n
  rw [hr, Nat.add_zero] at hm
  have hm1 : 1 ≤ len / n := by
    rcases Nat.eq_zero_or_pos (len / n) with e | e
    · rw [e] at hm; omega
    · exact e
  have hm2 : len / n ≤ len := Nat.div_le_self len n
  have hea : errAt cod len = len := errAt_of (Nat.le_refl _) (fun j hj => (hcod j hj).2) (Or.inl rfl)
  refine ctr_of hst (by decide) (Nat.le_of_ble_eq_true rfl) (fun G O OR hN => ?_)
  have O : OKG E G cX5_load RX5 (rmL 4) [] := O
  have hN : nLG G = 4 := hN
  refine v_aload_n O dX5_load_0 rfl ?_
  refine v_aload_n O dX5_load_1 rfl ?_
  refine v_get O dX5_load_2 flX5_68 0 rfl rfl ?_
  refine v_ifN_le (tgt := 35) O dX5_load_5 (by decide) (by omega) (fun h => ?_) (fun h => ?_)
  · omega
  · refine v_aload_n O dX5_load_8 rfl ?_
    refine v_V1 O dX5_load_9 lkX5_75 (c_rightLength hst hl (fun j hj => (hcod j hj).1)) 0 rfl rfl rfl rfl rfl (by first | exact hkc | exact Nat.zero_le _) (by first | exact hks | exact Nat.zero_le _) ?_
    rw [hea]
    refine v_aload_n O dX5_load_12 rfl ?_
    refine v_get O dX5_load_13 flX5_68 0 rfl rfl ?_
    refine v_icmpN_ne (tgt := 35) O dX5_load_16 (by decide) (by omega) (by omega) (fun h2 => ?_) (fun h2 => ?_)
    · omega
    · refine v_aload_n O dX5_load_19 rfl ?_
      refine v_get O dX5_load_20 flX5_68 0 rfl rfl ?_
      refine v_aload_n O dX5_load_23 rfl ?_
      refine v_get O dX5_load_24 flX5_7 0 rfl rfl ?_
      refine v_iremN O dX5_load_27 (by omega) (by omega) (by omega) ?_
      refine v_ifN_ne (tgt := 35) O dX5_load_28 (by decide) (by omega) (fun h3 => ?_) (fun h3 => ?_)
      · omega
      · refine v_iconst (v := nI 0) O dX5_load_31 (by decide) ?_
        refine v_goto (tgt := 36) O dX5_load_32 (by decide) ?_
        refine v_put (ty := .int) O dX5_load_36 flX5_39 ftX5 0 rfl rfl (by decide +kernel) rfl rfl (Nat.le_of_ble_eq_true rfl) ?_
        refine v_aload_n O dX5_load_39 rfl ?_
        refine v_get O dX5_load_40 flX5_39 0 rfl rfl ?_
        refine v_ifN_le (tgt := 48) O dX5_load_43 (by decide) (by omega) (fun h4 => ?_) (fun h4 => ?_)
        · refine v_aload_n O dX5_load_48 rfl ?_
          refine v_get O dX5_load_49 flX5_68 0 rfl rfl ?_
          refine v_aload_n O dX5_load_52 rfl ?_
          refine v_get O dX5_load_53 flX5_7 0 rfl rfl ?_
          refine v_idivN O dX5_load_56 (by omega) (by omega) (by omega) ?_
          refine v_istore_n O dX5_load_57 (by rw [hN]; decide) ?_
          refine v_iconst (v := nI 0) O dX5_load_58 (by decide) ?_
          refine v_istore_n O dX5_load_59 (by rw [hN]; decide) ?_
          refine v_ord [0, 1, 2] ?_
          refine v_w (w' := (WM E ad (0) n (ldT t 0) (ldD t dr 0) ms pe (ldP t pw cod n 0) len cod mm fs fc fw sc li lm ls lq hs)) rfl ?_
          refine lp_loadOut (mm := mm) O hN hst hn ht hl hm hm1 (by omega) hcod ?_ (len / n) 0 mm (by omega) (fun z => by omega) (by omega)
          refine v_aload_n O dX5_load_123 rfl ?_
          refine v_iconst (v := nI 0) O dX5_load_124 (by decide) ?_
          refine v_put (ty := .int) O dX5_load_125 flX5_68 ftX5 0 rfl rfl (by decide +kernel) rfl rfl (Nat.le_of_ble_eq_true rfl) ?_
          refine v_iload_n O dX5_load_128 rfl ?_
          exact v_ireturn O OR dX5_load_129 (⟨rfl, rfl⟩) (Nat.le_of_ble_eq_true rfl) (Nat.le_of_ble_eq_true rfl)
        · omega
theorem mx_load {E : ET} {ad : Nat → Nat} {th n t dr ms : Nat} {pe pw : Nat → Nat} {len : Nat} {cod : Nat → Nat} {mm : Nat} {fs fc fw : Nat → Nat} {sc : Nat → Int64} {li : Nat → Nat} {lm ls lq hs : Int64} (hst : E.1.stackTraces = false) (hn1 : 2 ≤ n) (hn : n ≤ 16) (hl : len ≤ 64) (hcod : ∀ j, j < len → cod j < 128) (hx : len = 0 ∨ errAt cod len ≠ len ∨ len % n ≠ 0) : Ctr E yX5_load cdX5_load (rmL 4) [.ref (ad 0)] (WM E ad th n t dr ms pe pw len cod mm fs fc fw sc li lm ls lq hs) (pR (some (.int (nI 0))) (WM E ad (1) n t dr ms pe pw len cod mm fs fc fw sc li lm ls lq hs)) noX 0 0 := by
  have hea := fa_first_le (fun i => !isP (cod i)) len
  have hea : errAt cod len ≤ len := hea
  have hmod := Nat.mod_lt len (show 0 < n by omega)
  refine ctr_of hst (by decide) (Nat.le_of_ble_eq_true rfl) (fun G O OR hN => ?_)
  have O : OKG E G cX5_load RX5 (rmL 4) [] := O
  have hN : nLG G = 4 := hN
  have key : V E G 0 0 35 [(0, .ref (ad 0))] [.ref (ad 0)] (WM E ad th n t dr ms pe pw len cod mm fs fc fw sc li lm ls lq hs) := by
    refine v_iconst (v := nI 1) O dX5_load_35 (by decide) ?_
    refine v_put (ty := .int) O dX5_load_36 flX5_39 ftX5 0 rfl rfl (by decide +kernel) rfl rfl (Nat.le_of_ble_eq_true rfl) ?_
    refine v_aload_n O dX5_load_39 rfl ?_
    refine v_get O dX5_load_40 flX5_39 0 rfl rfl ?_
    refine v_ifN_le (tgt := 48) O dX5_load_43 (by decide) (by omega) (fun h3 => ?_) (fun h3 => ?_)
    · omega
    · refine v_iconst (v := nI 0) O dX5_load_46 (by decide) ?_
      exact v_ireturn O OR dX5_load_47 (⟨rfl, rfl⟩) (Nat.le_of_ble_eq_true rfl) (Nat.le_of_ble_eq_true rfl)
  refine v_aload_n O dX5_load_0 rfl ?_
  refine v_aload_n O dX5_load_1 rfl ?_
  refine v_get O dX5_load_2 flX5_68 0 rfl rfl ?_
  refine v_ifN_le (tgt := 35) O dX5_load_5 (by decide) (by omega) (fun h => ?_) (fun h => ?_)
  · exact key
  · refine v_aload_n O dX5_load_8 rfl ?_
    refine v_V1 O dX5_load_9 lkX5_75 (c_rightLength hst hl hcod) 0 rfl rfl rfl rfl rfl (by first | exact hkc | exact Nat.zero_le _) (by first | exact hks | exact Nat.zero_le _) ?_
    refine v_aload_n O dX5_load_12 rfl ?_
    refine v_get O dX5_load_13 flX5_68 0 rfl rfl ?_
    refine v_icmpN_ne (tgt := 35) O dX5_load_16 (by decide) (by omega) (by omega) (fun h2 => ?_) (fun h2 => ?_)
    · exact key
    · refine v_aload_n O dX5_load_19 rfl ?_
      refine v_get O dX5_load_20 flX5_68 0 rfl rfl ?_
      refine v_aload_n O dX5_load_23 rfl ?_
      refine v_get O dX5_load_24 flX5_7 0 rfl rfl ?_
      refine v_iremN O dX5_load_27 (by omega) (by omega) (by omega) ?_
      refine v_ifN_ne (tgt := 35) O dX5_load_28 (by decide) (by omega) (fun h3 => ?_) (fun h3 => ?_)
      · exact key
      · omega
-- inject
def min9 (x : Nat) : Nat := if x ≤ 9999 then x else 9999
def injP (pw : Nat → Nat) (n q d am : Nat) : Nat → (Nat → Nat)
  | 0 => pw
  | c + 1 => va_up (injP pw n q d am c) ((q + sof n d c) * 16 + c) (min9 (injP pw n q d am c ((q + sof n d c) * 16 + c) + am))
def injS (pw : Nat → Nat) (n q d am : Nat) : Nat → Nat
  | 0 => 0
  | c + 1 => injS pw n q d am c + (min9 (injP pw n q d am c ((q + sof n d c) * 16 + c) + am) - injP pw n q d am c ((q + sof n d c) * 16 + c))
theorem min9_le (x : Nat) : min9 x ≤ 9999 := by unfold min9; split <;> omega
theorem injP_le {pw : Nat → Nat} {n q d am : Nat} (hp : ∀ j, pw j ≤ 9999) : ∀ c j, injP pw n q d am c j ≤ 9999
  | 0, j => hp j
  | c + 1, j => by
    unfold injP va_up
    split
    · exact min9_le _
    · exact injP_le hp c j
theorem lp_injectM {E : ET} {G : GT} (O : OKG E G cX5_inject RX5 (rmL 3) []) (hN : nLG G = 9) {ad : Nat → Nat} {th n t dr ms : Nat} {pe pw : Nat → Nat} {len : Nat} {cod : Nat → Nat} {mm : Nat} {fs fc fw : Nat → Nat} {sc : Nat → Int64} {li : Nat → Nat} {lm ls lq hs : Int64} {d q am : Nat} (hst : E.1.stackTraces = false) (hn1 : 2 ≤ n) (hn : n ≤ 16) (hd : d < n) (ht : t ≤ 48) (hq : q + d < t) (ha : am ≤ 9999) (hp : ∀ j, pw j ≤ 9999) (kk : V E G 0 0 165 [(5, .int (nI (injS pw n q d am n)))] [] (WM E ad (0) n t dr ms pe (injP pw n q d am n) len cod (0) fs fc fw sc li lm ls lq hs)) : ∀ j c mm0 : Nat, c ≤ n → (1 ≤ c → mm0 = 0) → j = n - c → V E G 0 0 68 [(0, .ref (ad 0)), (1, .int (nI d)), (2, .int (nI q)), (3, .int (nI am)), (5, .int (nI (injS pw n q d am c))), (6, .int (nI c))] [] (WM E ad (0) n t dr ms pe (injP pw n q d am c) len cod (mm0) fs fc fw sc li lm ls lq hs) := by
  intro j
  induction j using Nat.strongRecOn with
  | _ j ih =>
    intro c mm0 hc hz hj
    refine v_iload O dX5_inject_68 rfl ?_
    refine v_aload_n O dX5_inject_70 rfl ?_
    refine v_get O dX5_inject_71 flX5_7 0 rfl rfl ?_
    refine v_icmpN_ge (tgt := 165) O dX5_inject_74 (by decide) (by omega) (by omega) (fun h => ?_) (fun h => ?_)
    · have e : c = n := by omega
      subst e
      rw [hz (by omega)]
      refine v_ord [5] ?_
      exact kk
    · have ho := sof_le (d := d) hn1 h
      have hb := injP_le (n := n) (q := q) (d := d) (am := am) hp c ((q + sof n d c) * 16 + c)
      have h9 := min9_le (injP pw n q d am c ((q + sof n d c) * 16 + c) + am)
      have h8 : injP pw n q d am c ((q + sof n d c) * 16 + c) ≤ min9 (injP pw n q d am c ((q + sof n d c) * 16 + c) + am) := by unfold min9; split <;> omega
      have key : V E G 0 0 128 [(0, .ref (ad 0)), (1, .int (nI d)), (2, .int (nI q)), (3, .int (nI am)), (5, .int (nI (injS pw n q d am c))), (6, .int (nI c)), (7, .int (nI ((q + sof n d c) * 16 + c)))] [.int (nI (min9 (injP pw n q d am c ((q + sof n d c) * 16 + c) + am)))] (WM E ad (0) n t dr ms pe (injP pw n q d am c) len cod (mm0) fs fc fw sc li lm ls lq hs) := by
        refine v_istore O dX5_inject_128 (by rw [hN]; decide) ?_
        refine v_iload O dX5_inject_130 rfl ?_
        refine v_iload O dX5_inject_132 rfl ?_
        refine v_aload_n O dX5_inject_134 rfl ?_
        refine v_get O dX5_inject_135 flX5_17 0 rfl rfl ?_
        refine v_iload O dX5_inject_138 rfl ?_
        refine v_iald O dX5_inject_140 2 rfl (by decide) (by omega) ?_
        refine v_isubN O dX5_inject_141 (by omega) ?_
        refine v_iaddN O dX5_inject_142 ?_
        refine v_istore O dX5_inject_143 (by rw [hN]; decide) ?_
        refine v_aload_n O dX5_inject_145 rfl ?_
        refine v_get O dX5_inject_146 flX5_17 0 rfl rfl ?_
        refine v_iload O dX5_inject_149 rfl ?_
        refine v_iload O dX5_inject_151 rfl ?_
        refine v_iastN O dX5_inject_153 2 rfl (by decide) (by omega) ?_
        refine v_aload_n O dX5_inject_154 rfl ?_
        refine v_iconst (v := nI 0) O dX5_inject_155 (by decide) ?_
        refine v_put (ty := .int) O dX5_inject_156 flX5_55 ftX5 0 rfl rfl (by decide +kernel) rfl rfl (Nat.le_of_ble_eq_true rfl) ?_
        refine v_iincN (b := 1) O dX5_inject_159 rfl (by decide) (by rw [hN]; decide) ?_
        refine v_goto (tgt := 68) O dX5_inject_162 (by decide) ?_
        refine v_ord [0, 1, 2, 3, 5, 6] ?_
        refine v_w (w' := (WM E ad (0) n t dr ms pe (injP pw n q d am (c + 1)) len cod (0) fs fc fw sc li lm ls lq hs)) rfl ?_
        exact ih (j - 1) (by omega) (c + 1) 0 (by omega) (fun _ => rfl) (by omega)
      refine v_aload_n O dX5_inject_77 rfl ?_
      refine v_get O dX5_inject_78 flX5_39 0 rfl rfl ?_
      refine v_ifN_ne (tgt := 165) O dX5_inject_81 (by decide) (by omega) (fun h2 => ?_) (fun h2 => ?_)
      · omega
      · refine v_bipush (v := nI 16) O dX5_inject_84 (by decide) ?_
        refine v_iload_n O dX5_inject_86 rfl ?_
        refine v_aload_n O dX5_inject_87 rfl ?_
        refine v_iload_n O dX5_inject_88 rfl ?_
        refine v_iload O dX5_inject_89 rfl ?_
        refine v_V1 O dX5_inject_91 lkX5_79 (c_straightOffsetM hst hn1 hn d c (by omega) (by omega)) 0 rfl rfl rfl rfl rfl (by first | exact hkc | exact Nat.zero_le _) (by first | exact hks | exact Nat.zero_le _) ?_
        refine v_iaddN O dX5_inject_94 ?_
        refine v_imulN O dX5_inject_95 ?_
        refine v_iload O dX5_inject_96 rfl ?_
        rw [Nat.mul_comm 16]
        refine v_iaddN O dX5_inject_98 ?_
        refine v_istore O dX5_inject_99 (by rw [hN]; decide) ?_
        refine v_aload_n O dX5_inject_101 rfl ?_
        refine v_get O dX5_inject_102 flX5_17 0 rfl rfl ?_
        refine v_iload O dX5_inject_105 rfl ?_
        refine v_iald O dX5_inject_107 2 rfl (by decide) (by omega) ?_
        refine v_iload_n O dX5_inject_108 rfl ?_
        refine v_iaddN O dX5_inject_109 ?_
        refine v_istore O dX5_inject_110 (by rw [hN]; decide) ?_
        refine v_iload O dX5_inject_112 rfl ?_
        refine v_sipush (v := nI 9999) O dX5_inject_114 (by decide) ?_
        refine v_icmpN_le (tgt := 126) O dX5_inject_117 (by decide) (by omega) (by omega) (fun h3 => ?_) (fun h3 => ?_)
        · refine v_iload O dX5_inject_126 rfl ?_
          refine v_ord [0, 1, 2, 3, 5, 6, 7] ?_
          refine v_st ?_ key
          unfold min9
          rw [if_pos h3]
        · refine v_sipush (v := nI 9999) O dX5_inject_120 (by decide) ?_
          refine v_goto (tgt := 128) O dX5_inject_123 (by decide) ?_
          refine v_ord [0, 1, 2, 3, 5, 6, 7] ?_
          refine v_st ?_ key
          unfold min9
          rw [if_neg (by omega)]
theorem bxB_of {n t wd : Nat} {x1 x2 : Int32} (hn : n ≤ 16) (h : bxB n t x1 x2 wd = true) : ∃ d q : Nat, d < n ∧ x1 = nI d ∧ x2 = nI q ∧ q + wd ≤ t - d := by
  unfold bxB at h
  simp only [Bool.and_eq_true, decide_eq_true_eq] at h
  obtain ⟨h1, h2, h3⟩ := h
  obtain ⟨d, hd, rfl⟩ := inB_of h1
  have e1 : (nI d).toInt.toNat = d := by rw [nI_toInt (by omega)]; omega
  rw [e1] at h3
  have hr := fb_rng x2
  refine ⟨d, x2.toInt.toNat, hd, rfl, ?_, by omega⟩
  rw [fa_eq, nI_toInt (by omega)]
  omega
theorem bxB_nI {n t wd d q : Nat} (hn : n ≤ 16) (hd : d < n) (hq : q < 2 ^ 31) : bxB n t (nI d) (nI q) wd = decide (q + wd ≤ t - d) := by
  unfold bxB
  have e1 : (nI d).toInt.toNat = d := by rw [nI_toInt (by omega)]; omega
  rw [inB_nI hd (by omega), e1, nI_toInt hq, decide_eq_true (show (0 : Int) ≤ (q : Int) by omega), Bool.true_and, Bool.true_and]
  exact decide_eq_decide.mpr (by omega)
theorem m_inject {E : ET} {ad : Nat → Nat} {th n t dr ms : Nat} {pe pw : Nat → Nat} {len : Nat} {cod : Nat → Nat} {mm : Nat} {fs fc fw : Nat → Nat} {sc : Nat → Int64} {li : Nat → Nat} {lm ls lq hs : Int64} (hst : E.1.stackTraces = false) (hn1 : 2 ≤ n) (hn : n ≤ 16) (ht : t ≤ 48) (d q am : Nat) (hd : d < n) (hq : q + d < t) (ha1 : 1 ≤ am) (ha : am ≤ 9999) (hp : ∀ j, pw j ≤ 9999) : Ctr E yX5_inject cdX5_inject (rmL 3) [.ref (ad 0), .int (nI d), .int (nI q), .int (nI am)] (WM E ad th n t dr ms pe pw len cod mm fs fc fw sc li lm ls lq hs) (pR (some (.int (nI (injS pw n q d am n)))) (WM E ad (0) n t dr ms pe (injP pw n q d am n) len cod (0) fs fc fw sc li lm ls lq hs)) noX 0 0 := by
  refine ctr_of hst (by decide) (Nat.le_of_ble_eq_true rfl) (fun G O OR hN => ?_)
  have O : OKG E G cX5_inject RX5 (rmL 3) [] := O
  have hN : nLG G = 9 := hN
  refine v_aload_n O dX5_inject_0 rfl ?_
  refine v_iload_n O dX5_inject_1 rfl ?_
  refine v_V1 O dX5_inject_2 lkX5_86 (c_isSlope hst hn (nI d)) 0 rfl rfl rfl rfl rfl (by first | exact hkc | exact Nat.zero_le _) (by first | exact hks | exact Nat.zero_le _) ?_
  refine v_ifB_eq (tgt := 30) O dX5_inject_5 (by decide) (fun h => ?_) (fun h => ?_)
  · rw [inB_nI hd (by omega)] at h; cases h
  · refine v_aload_n O dX5_inject_8 rfl ?_
    refine v_iload_n O dX5_inject_9 rfl ?_
    refine v_V1 O dX5_inject_10 lkX5_96 (c_isColumn hst ht (nI q)) 0 rfl rfl rfl rfl rfl (by first | exact hkc | exact Nat.zero_le _) (by first | exact hks | exact Nat.zero_le _) ?_
    refine v_ifB_eq (tgt := 30) O dX5_inject_13 (by decide) (fun h2 => ?_) (fun h2 => ?_)
    · rw [inB_nI (show q < t by omega) (by omega)] at h2; cases h2
    · refine v_iload_n O dX5_inject_16 rfl ?_
      refine v_iload_n O dX5_inject_17 rfl ?_
      refine v_iaddN O dX5_inject_18 ?_
      refine v_aload_n O dX5_inject_19 rfl ?_
      refine v_get O dX5_inject_20 flX5_46 0 rfl rfl ?_
      refine v_icmpN_ge (tgt := 30) O dX5_inject_23 (by decide) (by omega) (by omega) (fun h3 => ?_) (fun h3 => ?_)
      · omega
      · refine v_iconst (v := bI true) O dX5_inject_26 (by decide) ?_
        refine v_goto (tgt := 31) O dX5_inject_27 (by decide) ?_
        refine v_istore O dX5_inject_31 (by rw [hN]; decide) ?_
        refine v_aload_n O dX5_inject_33 rfl ?_
        refine v_iload O dX5_inject_34 rfl ?_
        refine v_ifB_ne (tgt := 43) O dX5_inject_36 (by decide) (fun h4 => ?_) (fun h4 => ?_)
        · refine v_iload_n O dX5_inject_43 rfl ?_
          refine v_iconst (v := nI 1) O dX5_inject_44 (by decide) ?_
          refine v_sipush (v := nI 9999) O dX5_inject_45 (by decide) ?_
          refine v_S1 O dX5_inject_48 lkX5_42 (c_withinN hst am 1 9999 (by omega) (by decide) (by decide)) rfl rfl rfl (by first | exact hkc | exact Nat.zero_le _) (by first | exact hks | exact Nat.zero_le _) ?_
          refine v_ifB_eq (tgt := 58) O dX5_inject_51 (by decide) (fun h5 => ?_) (fun h5 => ?_)
          · exact absurd h5 (by simp [ha, ha1])
          · refine v_iconst (v := nI 0) O dX5_inject_54 (by decide) ?_
            refine v_goto (tgt := 59) O dX5_inject_55 (by decide) ?_
            refine v_put (ty := .int) O dX5_inject_59 flX5_39 ftX5 0 rfl rfl (by decide +kernel) rfl rfl (Nat.le_of_ble_eq_true rfl) ?_
            refine v_iconst (v := nI 0) O dX5_inject_62 (by decide) ?_
            refine v_istore O dX5_inject_63 (by rw [hN]; decide) ?_
            refine v_iconst (v := nI 0) O dX5_inject_65 (by decide) ?_
            refine v_istore O dX5_inject_66 (by rw [hN]; decide) ?_
            refine v_ord [0, 1, 2, 3, 5, 6] ?_
            refine v_w (w' := (WM E ad (0) n t dr ms pe (injP pw n q d am 0) len cod (mm) fs fc fw sc li lm ls lq hs)) rfl ?_
            refine lp_injectM (mm := mm) (th := th) O hN hst hn1 hn hd ht hq ha hp ?_ n 0 mm (by omega) (fun z => by omega) (by omega)
            refine v_iload O dX5_inject_165 rfl ?_
            exact v_ireturn O OR dX5_inject_167 (⟨rfl, rfl⟩) (Nat.le_of_ble_eq_true rfl) (Nat.le_of_ble_eq_true rfl)
        · cases h4
theorem mx_injectEnd {E : ET} {G : GT} (O : OKG E G cX5_inject RX5 (rmL 3) []) (hN : nLG G = 9) {ad : Nat → Nat} {th n t dr ms : Nat} {pe pw : Nat → Nat} {len : Nat} {cod : Nat → Nat} {mm : Nat} {fs fc fw : Nat → Nat} {sc : Nat → Int64} {li : Nat → Nat} {lm ls lq hs : Int64} {pc : Nat} {x1 x2 x3 : Int32} {e : Nat} (OR : OKR E G (pR (some (.int (nI 0))) (WM E ad (e) n t dr ms pe pw len cod mm fs fc fw sc li lm ls lq hs)) noX 0 0 (some .int)) (he : e = 1 ∨ e = 2) (hn : n ≤ 16) (hn1 : 2 ≤ n) : V E G 0 0 59 [(0, .ref (ad 0)), (1, .int x1), (2, .int x2), (3, .int x3)] [.int (nI e), .ref (ad 0)] (WM E ad th n t dr ms pe pw len cod mm fs fc fw sc li lm ls lq hs) := by
  refine v_put (ty := .int) O dX5_inject_59 flX5_39 ftX5 0 rfl rfl (by decide +kernel) rfl rfl (Nat.le_of_ble_eq_true rfl) ?_
  refine v_iconst (v := nI 0) O dX5_inject_62 (by decide) ?_
  refine v_istore O dX5_inject_63 (by rw [hN]; decide) ?_
  refine v_iconst (v := nI 0) O dX5_inject_65 (by decide) ?_
  refine v_istore O dX5_inject_66 (by rw [hN]; decide) ?_
  refine v_iload O dX5_inject_68 rfl ?_
  refine v_aload_n O dX5_inject_70 rfl ?_
  refine v_get O dX5_inject_71 flX5_7 0 rfl rfl ?_
  refine v_icmpN_ge (tgt := 165) O dX5_inject_74 (by decide) (by omega) (by omega) (fun h => ?_) (fun h => ?_)
  · omega
  · refine v_aload_n O dX5_inject_77 rfl ?_
    refine v_get O dX5_inject_78 flX5_39 0 rfl rfl ?_
    refine v_ifN_ne (tgt := 165) O dX5_inject_81 (by decide) (by omega) (fun h2 => ?_) (fun h2 => ?_)
    · refine v_iload O dX5_inject_165 rfl ?_
      exact v_ireturn O OR dX5_inject_167 (⟨rfl, rfl⟩) (Nat.le_of_ble_eq_true rfl) (Nat.le_of_ble_eq_true rfl)
    · omega
theorem mx_inject1 {E : ET} {ad : Nat → Nat} {th n t dr ms : Nat} {pe pw : Nat → Nat} {len : Nat} {cod : Nat → Nat} {mm : Nat} {fs fc fw : Nat → Nat} {sc : Nat → Int64} {li : Nat → Nat} {lm ls lq hs : Int64} (hst : E.1.stackTraces = false) (hn1 : 2 ≤ n) (hn : n ≤ 16) (ht : t ≤ 48) (x1 x2 x3 : Int32) (hx : bxB n t x1 x2 1 = false) : Ctr E yX5_inject cdX5_inject (rmL 3) [.ref (ad 0), .int x1, .int x2, .int x3] (WM E ad th n t dr ms pe pw len cod mm fs fc fw sc li lm ls lq hs) (pR (some (.int (nI 0))) (WM E ad (1) n t dr ms pe pw len cod mm fs fc fw sc li lm ls lq hs)) noX 0 0 := by
  refine ctr_of hst (by decide) (Nat.le_of_ble_eq_true rfl) (fun G O OR hN => ?_)
  have O : OKG E G cX5_inject RX5 (rmL 3) [] := O
  have hN : nLG G = 9 := hN
  have key : V E G 0 0 30 [(0, .ref (ad 0)), (1, .int x1), (2, .int x2), (3, .int x3)] [] (WM E ad th n t dr ms pe pw len cod mm fs fc fw sc li lm ls lq hs) := by
    refine v_iconst (v := bI false) O dX5_inject_30 (by decide) ?_
    refine v_istore O dX5_inject_31 (by rw [hN]; decide) ?_
    refine v_aload_n O dX5_inject_33 rfl ?_
    refine v_iload O dX5_inject_34 rfl ?_
    refine v_ifB_ne (tgt := 43) O dX5_inject_36 (by decide) (fun h4 => ?_) (fun h4 => ?_)
    · cases h4
    · refine v_iconst (v := nI 1) O dX5_inject_39 (by decide) ?_
      refine v_goto (tgt := 59) O dX5_inject_40 (by decide) ?_
      refine v_ord [0, 1, 2, 3] ?_
      exact mx_injectEnd (pc := 0) O hN OR (Or.inl rfl) hn hn1
  refine v_aload_n O dX5_inject_0 rfl ?_
  refine v_iload_n O dX5_inject_1 rfl ?_
  refine v_V1 O dX5_inject_2 lkX5_86 (c_isSlope hst hn x1) 0 rfl rfl rfl rfl rfl (by first | exact hkc | exact Nat.zero_le _) (by first | exact hks | exact Nat.zero_le _) ?_
  refine v_ifB_eq (tgt := 30) O dX5_inject_5 (by decide) (fun h => ?_) (fun h => ?_)
  · exact key
  · refine v_aload_n O dX5_inject_8 rfl ?_
    refine v_iload_n O dX5_inject_9 rfl ?_
    refine v_V1 O dX5_inject_10 lkX5_96 (c_isColumn hst ht x2) 0 rfl rfl rfl rfl rfl (by first | exact hkc | exact Nat.zero_le _) (by first | exact hks | exact Nat.zero_le _) ?_
    refine v_ifB_eq (tgt := 30) O dX5_inject_13 (by decide) (fun h2 => ?_) (fun h2 => ?_)
    · exact key
    · obtain ⟨d, hd, rfl⟩ := inB_of h
      obtain ⟨q, hq, rfl⟩ := inB_of h2
      rw [bxB_nI hn hd (by omega)] at hx
      have hx := of_decide_eq_false hx
      refine v_iload_n O dX5_inject_16 rfl ?_
      refine v_iload_n O dX5_inject_17 rfl ?_
      refine v_iaddN O dX5_inject_18 ?_
      refine v_aload_n O dX5_inject_19 rfl ?_
      refine v_get O dX5_inject_20 flX5_46 0 rfl rfl ?_
      refine v_icmpN_ge (tgt := 30) O dX5_inject_23 (by decide) (by omega) (by omega) (fun h3 => ?_) (fun h3 => ?_)
      · exact key
      · omega
theorem mx_inject2 {E : ET} {ad : Nat → Nat} {th n t dr ms : Nat} {pe pw : Nat → Nat} {len : Nat} {cod : Nat → Nat} {mm : Nat} {fs fc fw : Nat → Nat} {sc : Nat → Int64} {li : Nat → Nat} {lm ls lq hs : Int64} (hst : E.1.stackTraces = false) (hn1 : 2 ≤ n) (hn : n ≤ 16) (ht : t ≤ 48) (x1 x2 x3 : Int32) (hx : bxB n t x1 x2 1 = true) (h3 : ¬ (nI 1 ≤ x3 ∧ x3 ≤ nI 9999)) : Ctr E yX5_inject cdX5_inject (rmL 3) [.ref (ad 0), .int x1, .int x2, .int x3] (WM E ad th n t dr ms pe pw len cod mm fs fc fw sc li lm ls lq hs) (pR (some (.int (nI 0))) (WM E ad (2) n t dr ms pe pw len cod mm fs fc fw sc li lm ls lq hs)) noX 0 0 := by
  obtain ⟨d, q, hd, rfl, rfl, hq⟩ := bxB_of hn hx
  refine ctr_of hst (by decide) (Nat.le_of_ble_eq_true rfl) (fun G O OR hN => ?_)
  have O : OKG E G cX5_inject RX5 (rmL 3) [] := O
  have hN : nLG G = 9 := hN
  refine v_aload_n O dX5_inject_0 rfl ?_
  refine v_iload_n O dX5_inject_1 rfl ?_
  refine v_V1 O dX5_inject_2 lkX5_86 (c_isSlope hst hn (nI d)) 0 rfl rfl rfl rfl rfl (by first | exact hkc | exact Nat.zero_le _) (by first | exact hks | exact Nat.zero_le _) ?_
  refine v_ifB_eq (tgt := 30) O dX5_inject_5 (by decide) (fun h => ?_) (fun h => ?_)
  · rw [inB_nI hd (by omega)] at h; cases h
  · refine v_aload_n O dX5_inject_8 rfl ?_
    refine v_iload_n O dX5_inject_9 rfl ?_
    refine v_V1 O dX5_inject_10 lkX5_96 (c_isColumn hst ht (nI q)) 0 rfl rfl rfl rfl rfl (by first | exact hkc | exact Nat.zero_le _) (by first | exact hks | exact Nat.zero_le _) ?_
    refine v_ifB_eq (tgt := 30) O dX5_inject_13 (by decide) (fun h2 => ?_) (fun h2 => ?_)
    · rw [inB_nI (show q < t by omega) (by omega)] at h2; cases h2
    · refine v_iload_n O dX5_inject_16 rfl ?_
      refine v_iload_n O dX5_inject_17 rfl ?_
      refine v_iaddN O dX5_inject_18 ?_
      refine v_aload_n O dX5_inject_19 rfl ?_
      refine v_get O dX5_inject_20 flX5_46 0 rfl rfl ?_
      refine v_icmpN_ge (tgt := 30) O dX5_inject_23 (by decide) (by omega) (by omega) (fun h4 => ?_) (fun h4 => ?_)
      · omega
      · refine v_iconst (v := bI true) O dX5_inject_26 (by decide) ?_
        refine v_goto (tgt := 31) O dX5_inject_27 (by decide) ?_
        refine v_istore O dX5_inject_31 (by rw [hN]; decide) ?_
        refine v_aload_n O dX5_inject_33 rfl ?_
        refine v_iload O dX5_inject_34 rfl ?_
        refine v_ifB_ne (tgt := 43) O dX5_inject_36 (by decide) (fun h5 => ?_) (fun h5 => ?_)
        · refine v_iload_n O dX5_inject_43 rfl ?_
          refine v_iconst (v := nI 1) O dX5_inject_44 (by decide) ?_
          refine v_sipush (v := nI 9999) O dX5_inject_45 (by decide) ?_
          refine v_S1 O dX5_inject_48 lkX5_42 (c_within hst x3 (nI 1) (nI 9999)) rfl rfl rfl (by first | exact hkc | exact Nat.zero_le _) (by first | exact hks | exact Nat.zero_le _) ?_
          refine v_ifB_eq (tgt := 58) O dX5_inject_51 (by decide) (fun h6 => ?_) (fun h6 => ?_)
          · refine v_iconst (v := nI 2) O dX5_inject_58 (by decide) ?_
            refine v_ord [0, 1, 2, 3] ?_
            exact mx_injectEnd (pc := 0) O hN OR (Or.inr rfl) hn hn1
          · exact absurd (of_decide_eq_true h6) h3
        · cases h5
end
