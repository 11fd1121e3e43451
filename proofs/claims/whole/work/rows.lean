section
-- ===== PART A: goes FIRST, ahead of the names: the tables' words, and 'selects' of the private methods out of them =====
/-- a private method of a class that the tables say can be made, by its rows of tables_1 -/
def lw_okq (q : MethodName × Nat) : Prop := (q.1.cls ≠ "java/lang/invoke/MethodHandle" ∧ q.1.cls ≠ "java/lang/invoke/VarHandle") ∧ Cond.instantiable q.1.cls q.2 ∈ tables_1 ∧ Cond.privateMethod q.1 ∈ tables_1 ∧ Cond.instanceMethod q.1 ∈ tables_1
theorem lw_p0 : lw_okq (⟨"RoundStool", "isSlot", "(I)Z"⟩, 8) := ⟨⟨by decide +kernel, by decide +kernel⟩, List.mem_of_getElem? (i := 22) (by decide +kernel), List.mem_of_getElem? (i := 313) (by decide +kernel), List.mem_of_getElem? (i := 314) (by decide +kernel)⟩
theorem lw_p1 : lw_okq (⟨"RoundStool$Tape", "endOfRun", "(I)I"⟩, 6) := ⟨⟨by decide +kernel, by decide +kernel⟩, List.mem_of_getElem? (i := 36) (by decide +kernel), List.mem_of_getElem? (i := 359) (by decide +kernel), List.mem_of_getElem? (i := 360) (by decide +kernel)⟩
theorem lw_p2 : lw_okq (⟨"RoundStool$Tape", "kindOfRun", "(II)I"⟩, 6) := ⟨⟨by decide +kernel, by decide +kernel⟩, List.mem_of_getElem? (i := 36) (by decide +kernel), List.mem_of_getElem? (i := 372) (by decide +kernel), List.mem_of_getElem? (i := 373) (by decide +kernel)⟩
theorem lw_p3 : lw_okq (⟨"RoundStool$Tape", "kindOfWord", "(II)I"⟩, 6) := ⟨⟨by decide +kernel, by decide +kernel⟩, List.mem_of_getElem? (i := 36) (by decide +kernel), List.mem_of_getElem? (i := 376) (by decide +kernel), List.mem_of_getElem? (i := 377) (by decide +kernel)⟩
theorem lw_p4 : lw_okq (⟨"RoundStool$Tape", "isWord", "(Ljava/lang/String;II)Z"⟩, 6) := ⟨⟨by decide +kernel, by decide +kernel⟩, List.mem_of_getElem? (i := 36) (by decide +kernel), List.mem_of_getElem? (i := 381) (by decide +kernel), List.mem_of_getElem? (i := 382) (by decide +kernel)⟩
theorem lw_p5 : lw_okq (⟨"RoundStool$Tape", "numberOfRun", "(II)I"⟩, 6) := ⟨⟨by decide +kernel, by decide +kernel⟩, List.mem_of_getElem? (i := 36) (by decide +kernel), List.mem_of_getElem? (i := 438) (by decide +kernel), List.mem_of_getElem? (i := 439) (by decide +kernel)⟩
theorem lw_p6 : lw_okq (⟨"RoundStool$Tape", "addToken", "(III)V"⟩, 6) := ⟨⟨by decide +kernel, by decide +kernel⟩, List.mem_of_getElem? (i := 36) (by decide +kernel), List.mem_of_getElem? (i := 442) (by decide +kernel), List.mem_of_getElem? (i := 443) (by decide +kernel)⟩
theorem lw_p7 : lw_okq (⟨"RoundStool$Reader", "take", "()V"⟩, 12) := ⟨⟨by decide +kernel, by decide +kernel⟩, List.mem_of_getElem? (i := 30) (by decide +kernel), List.mem_of_getElem? (i := 446) (by decide +kernel), List.mem_of_getElem? (i := 447) (by decide +kernel)⟩
theorem lw_p8 : lw_okq (⟨"RoundStool$Reader", "readEnd", "()Z"⟩, 12) := ⟨⟨by decide +kernel, by decide +kernel⟩, List.mem_of_getElem? (i := 30) (by decide +kernel), List.mem_of_getElem? (i := 450) (by decide +kernel), List.mem_of_getElem? (i := 451) (by decide +kernel)⟩
theorem lw_p9 : lw_okq (⟨"RoundStool$Reader", "fail", "(I)Z"⟩, 12) := ⟨⟨by decide +kernel, by decide +kernel⟩, List.mem_of_getElem? (i := 30) (by decide +kernel), List.mem_of_getElem? (i := 454) (by decide +kernel), List.mem_of_getElem? (i := 455) (by decide +kernel)⟩
theorem lw_p10 : lw_okq (⟨"RoundStool$Reader", "readLift", "()Z"⟩, 12) := ⟨⟨by decide +kernel, by decide +kernel⟩, List.mem_of_getElem? (i := 30) (by decide +kernel), List.mem_of_getElem? (i := 458) (by decide +kernel), List.mem_of_getElem? (i := 459) (by decide +kernel)⟩
theorem lw_p11 : lw_okq (⟨"RoundStool$Reader", "readNumber", "(II)Z"⟩, 12) := ⟨⟨by decide +kernel, by decide +kernel⟩, List.mem_of_getElem? (i := 30) (by decide +kernel), List.mem_of_getElem? (i := 462) (by decide +kernel), List.mem_of_getElem? (i := 463) (by decide +kernel)⟩
theorem lw_p12 : lw_okq (⟨"RoundStool$Reader", "readToken", "(I)Z"⟩, 12) := ⟨⟨by decide +kernel, by decide +kernel⟩, List.mem_of_getElem? (i := 30) (by decide +kernel), List.mem_of_getElem? (i := 466) (by decide +kernel), List.mem_of_getElem? (i := 467) (by decide +kernel)⟩
theorem lw_p13 : lw_okq (⟨"RoundStool$Reader", "readAsked", "(III)Z"⟩, 12) := ⟨⟨by decide +kernel, by decide +kernel⟩, List.mem_of_getElem? (i := 30) (by decide +kernel), List.mem_of_getElem? (i := 470) (by decide +kernel), List.mem_of_getElem? (i := 471) (by decide +kernel)⟩
theorem lw_p14 : lw_okq (⟨"RoundStool$Reader", "append", "(I)V"⟩, 12) := ⟨⟨by decide +kernel, by decide +kernel⟩, List.mem_of_getElem? (i := 30) (by decide +kernel), List.mem_of_getElem? (i := 477) (by decide +kernel), List.mem_of_getElem? (i := 478) (by decide +kernel)⟩
theorem lw_p15 : lw_okq (⟨"RoundStool$Reader", "readSwap", "()Z"⟩, 12) := ⟨⟨by decide +kernel, by decide +kernel⟩, List.mem_of_getElem? (i := 30) (by decide +kernel), List.mem_of_getElem? (i := 485) (by decide +kernel), List.mem_of_getElem? (i := 486) (by decide +kernel)⟩
def lw_privs_1 : List (MethodName × Nat) := [(⟨"RoundStool", "isSlot", "(I)Z"⟩, 8), (⟨"RoundStool$Tape", "endOfRun", "(I)I"⟩, 6), (⟨"RoundStool$Tape", "kindOfRun", "(II)I"⟩, 6), (⟨"RoundStool$Tape", "kindOfWord", "(II)I"⟩, 6), (⟨"RoundStool$Tape", "isWord", "(Ljava/lang/String;II)Z"⟩, 6), (⟨"RoundStool$Tape", "numberOfRun", "(II)I"⟩, 6), (⟨"RoundStool$Tape", "addToken", "(III)V"⟩, 6), (⟨"RoundStool$Reader", "take", "()V"⟩, 12), (⟨"RoundStool$Reader", "readEnd", "()Z"⟩, 12), (⟨"RoundStool$Reader", "fail", "(I)Z"⟩, 12), (⟨"RoundStool$Reader", "readLift", "()Z"⟩, 12), (⟨"RoundStool$Reader", "readNumber", "(II)Z"⟩, 12), (⟨"RoundStool$Reader", "readToken", "(I)Z"⟩, 12), (⟨"RoundStool$Reader", "readAsked", "(III)Z"⟩, 12), (⟨"RoundStool$Reader", "append", "(I)V"⟩, 12), (⟨"RoundStool$Reader", "readSwap", "()Z"⟩, 12)]
theorem lw_r1 : ∀ q ∈ lw_privs_1, lw_okq q := List.forall_mem_cons.mpr ⟨lw_p0, List.forall_mem_cons.mpr ⟨lw_p1, List.forall_mem_cons.mpr ⟨lw_p2, List.forall_mem_cons.mpr ⟨lw_p3, List.forall_mem_cons.mpr ⟨lw_p4, List.forall_mem_cons.mpr ⟨lw_p5, List.forall_mem_cons.mpr ⟨lw_p6, List.forall_mem_cons.mpr ⟨lw_p7, List.forall_mem_cons.mpr ⟨lw_p8, List.forall_mem_cons.mpr ⟨lw_p9, List.forall_mem_cons.mpr ⟨lw_p10, List.forall_mem_cons.mpr ⟨lw_p11, List.forall_mem_cons.mpr ⟨lw_p12, List.forall_mem_cons.mpr ⟨lw_p13, List.forall_mem_cons.mpr ⟨lw_p14, List.forall_mem_cons.mpr ⟨lw_p15, fun _ h => absurd h List.not_mem_nil⟩⟩⟩⟩⟩⟩⟩⟩⟩⟩⟩⟩⟩⟩⟩⟩
theorem lw_p16 : lw_okq (⟨"RoundStool$Reader", "readTurn", "()Z"⟩, 12) := ⟨⟨by decide +kernel, by decide +kernel⟩, List.mem_of_getElem? (i := 30) (by decide +kernel), List.mem_of_getElem? (i := 489) (by decide +kernel), List.mem_of_getElem? (i := 490) (by decide +kernel)⟩
theorem lw_p17 : lw_okq (⟨"RoundStool$Reader", "readTimes", "()Z"⟩, 12) := ⟨⟨by decide +kernel, by decide +kernel⟩, List.mem_of_getElem? (i := 30) (by decide +kernel), List.mem_of_getElem? (i := 493) (by decide +kernel), List.mem_of_getElem? (i := 494) (by decide +kernel)⟩
theorem lw_p18 : lw_okq (⟨"RoundStool$Reader", "readClosing", "()Z"⟩, 12) := ⟨⟨by decide +kernel, by decide +kernel⟩, List.mem_of_getElem? (i := 30) (by decide +kernel), List.mem_of_getElem? (i := 497) (by decide +kernel), List.mem_of_getElem? (i := 498) (by decide +kernel)⟩
theorem lw_p19 : lw_okq (⟨"RoundStool$Cord", "countOver", "(I)V"⟩, 6) := ⟨⟨by decide +kernel, by decide +kernel⟩, List.mem_of_getElem? (i := 139) (by decide +kernel), List.mem_of_getElem? (i := 563) (by decide +kernel), List.mem_of_getElem? (i := 564) (by decide +kernel)⟩
theorem lw_p20 : lw_okq (⟨"RoundStool$Stool", "addRow", "(I)V"⟩, 9) := ⟨⟨by decide +kernel, by decide +kernel⟩, List.mem_of_getElem? (i := 131) (by decide +kernel), List.mem_of_getElem? (i := 594) (by decide +kernel), List.mem_of_getElem? (i := 595) (by decide +kernel)⟩
theorem lw_p21 : lw_okq (⟨"RoundStool$Lifts", "longestCommon", "(JJI)I"⟩, 1) := ⟨⟨by decide +kernel, by decide +kernel⟩, List.mem_of_getElem? (i := 238) (by decide +kernel), List.mem_of_getElem? (i := 686) (by decide +kernel), List.mem_of_getElem? (i := 687) (by decide +kernel)⟩
theorem lw_p22 : lw_okq (⟨"RoundStool", "fitsWithout", "(IJLRoundStool$Song;I)Z"⟩, 8) := ⟨⟨by decide +kernel, by decide +kernel⟩, List.mem_of_getElem? (i := 22) (by decide +kernel), List.mem_of_getElem? (i := 712) (by decide +kernel), List.mem_of_getElem? (i := 713) (by decide +kernel)⟩
theorem lw_p23 : lw_okq (⟨"RoundStool$Beats", "earliest", "(LRoundStool$Song;II)I"⟩, 2) := ⟨⟨by decide +kernel, by decide +kernel⟩, List.mem_of_getElem? (i := 248) (by decide +kernel), List.mem_of_getElem? (i := 726) (by decide +kernel), List.mem_of_getElem? (i := 727) (by decide +kernel)⟩
theorem lw_p24 : lw_okq (⟨"RoundStool$Stool", "layRows", "(LRoundStool$Song;)I"⟩, 9) := ⟨⟨by decide +kernel, by decide +kernel⟩, List.mem_of_getElem? (i := 131) (by decide +kernel), List.mem_of_getElem? (i := 751) (by decide +kernel), List.mem_of_getElem? (i := 752) (by decide +kernel)⟩
theorem lw_p25 : lw_okq (⟨"RoundStool$Stool", "countUnlike", "(J)I"⟩, 9) := ⟨⟨by decide +kernel, by decide +kernel⟩, List.mem_of_getElem? (i := 131) (by decide +kernel), List.mem_of_getElem? (i := 760) (by decide +kernel), List.mem_of_getElem? (i := 761) (by decide +kernel)⟩
theorem lw_p26 : lw_okq (⟨"RoundStool$Cord", "isCovered", "(III)Z"⟩, 6) := ⟨⟨by decide +kernel, by decide +kernel⟩, List.mem_of_getElem? (i := 139) (by decide +kernel), List.mem_of_getElem? (i := 772) (by decide +kernel), List.mem_of_getElem? (i := 773) (by decide +kernel)⟩
theorem lw_p27 : lw_okq (⟨"RoundStool", "countRings", "()I"⟩, 8) := ⟨⟨by decide +kernel, by decide +kernel⟩, List.mem_of_getElem? (i := 22) (by decide +kernel), List.mem_of_getElem? (i := 781) (by decide +kernel), List.mem_of_getElem? (i := 782) (by decide +kernel)⟩
theorem lw_p28 : lw_okq (⟨"RoundStool", "ringOf", "(I)I"⟩, 8) := ⟨⟨by decide +kernel, by decide +kernel⟩, List.mem_of_getElem? (i := 22) (by decide +kernel), List.mem_of_getElem? (i := 785) (by decide +kernel), List.mem_of_getElem? (i := 786) (by decide +kernel)⟩
theorem lw_p29 : lw_okq (⟨"RoundStoolModel", "begins", "(I)V"⟩, 30) := ⟨⟨by decide +kernel, by decide +kernel⟩, List.mem_of_getElem? (i := 836) (by decide +kernel), List.mem_of_getElem? (i := 842) (by decide +kernel), List.mem_of_getElem? (i := 843) (by decide +kernel)⟩
theorem lw_p30 : lw_okq (⟨"RoundStoolModel", "isSlot", "(I)Z"⟩, 30) := ⟨⟨by decide +kernel, by decide +kernel⟩, List.mem_of_getElem? (i := 836) (by decide +kernel), List.mem_of_getElem? (i := 952) (by decide +kernel), List.mem_of_getElem? (i := 953) (by decide +kernel)⟩
theorem lw_p31 : lw_okq (⟨"RoundStoolModel", "next0", "()V"⟩, 30) := ⟨⟨by decide +kernel, by decide +kernel⟩, List.mem_of_getElem? (i := 836) (by decide +kernel), List.mem_of_getElem? (i := 975) (by decide +kernel), List.mem_of_getElem? (i := 976) (by decide +kernel)⟩
def lw_privs_2 : List (MethodName × Nat) := [(⟨"RoundStool$Reader", "readTurn", "()Z"⟩, 12), (⟨"RoundStool$Reader", "readTimes", "()Z"⟩, 12), (⟨"RoundStool$Reader", "readClosing", "()Z"⟩, 12), (⟨"RoundStool$Cord", "countOver", "(I)V"⟩, 6), (⟨"RoundStool$Stool", "addRow", "(I)V"⟩, 9), (⟨"RoundStool$Lifts", "longestCommon", "(JJI)I"⟩, 1), (⟨"RoundStool", "fitsWithout", "(IJLRoundStool$Song;I)Z"⟩, 8), (⟨"RoundStool$Beats", "earliest", "(LRoundStool$Song;II)I"⟩, 2), (⟨"RoundStool$Stool", "layRows", "(LRoundStool$Song;)I"⟩, 9), (⟨"RoundStool$Stool", "countUnlike", "(J)I"⟩, 9), (⟨"RoundStool$Cord", "isCovered", "(III)Z"⟩, 6), (⟨"RoundStool", "countRings", "()I"⟩, 8), (⟨"RoundStool", "ringOf", "(I)I"⟩, 8), (⟨"RoundStoolModel", "begins", "(I)V"⟩, 30), (⟨"RoundStoolModel", "isSlot", "(I)Z"⟩, 30), (⟨"RoundStoolModel", "next0", "()V"⟩, 30)]
theorem lw_r2 : ∀ q ∈ lw_privs_2, lw_okq q := List.forall_mem_cons.mpr ⟨lw_p16, List.forall_mem_cons.mpr ⟨lw_p17, List.forall_mem_cons.mpr ⟨lw_p18, List.forall_mem_cons.mpr ⟨lw_p19, List.forall_mem_cons.mpr ⟨lw_p20, List.forall_mem_cons.mpr ⟨lw_p21, List.forall_mem_cons.mpr ⟨lw_p22, List.forall_mem_cons.mpr ⟨lw_p23, List.forall_mem_cons.mpr ⟨lw_p24, List.forall_mem_cons.mpr ⟨lw_p25, List.forall_mem_cons.mpr ⟨lw_p26, List.forall_mem_cons.mpr ⟨lw_p27, List.forall_mem_cons.mpr ⟨lw_p28, List.forall_mem_cons.mpr ⟨lw_p29, List.forall_mem_cons.mpr ⟨lw_p30, List.forall_mem_cons.mpr ⟨lw_p31, fun _ h => absurd h List.not_mem_nil⟩⟩⟩⟩⟩⟩⟩⟩⟩⟩⟩⟩⟩⟩⟩⟩
theorem lw_p32 : lw_okq (⟨"RoundStoolModel", "see", "(I)I"⟩, 30) := ⟨⟨by decide +kernel, by decide +kernel⟩, List.mem_of_getElem? (i := 836) (by decide +kernel), List.mem_of_getElem? (i := 979) (by decide +kernel), List.mem_of_getElem? (i := 980) (by decide +kernel)⟩
theorem lw_p33 : lw_okq (⟨"RoundStoolModel", "word", "()I"⟩, 30) := ⟨⟨by decide +kernel, by decide +kernel⟩, List.mem_of_getElem? (i := 836) (by decide +kernel), List.mem_of_getElem? (i := 986) (by decide +kernel), List.mem_of_getElem? (i := 987) (by decide +kernel)⟩
theorem lw_p34 : lw_okq (⟨"RoundStoolModel", "is", "(Ljava/lang/String;)Z"⟩, 30) := ⟨⟨by decide +kernel, by decide +kernel⟩, List.mem_of_getElem? (i := 836) (by decide +kernel), List.mem_of_getElem? (i := 991) (by decide +kernel), List.mem_of_getElem? (i := 992) (by decide +kernel)⟩
theorem lw_p35 : lw_okq (⟨"RoundStoolModel", "someSteps", "(I)Z"⟩, 30) := ⟨⟨by decide +kernel, by decide +kernel⟩, List.mem_of_getElem? (i := 836) (by decide +kernel), List.mem_of_getElem? (i := 1005) (by decide +kernel), List.mem_of_getElem? (i := 1006) (by decide +kernel)⟩
theorem lw_p36 : lw_okq (⟨"RoundStoolModel", "someTimes", "(I)Z"⟩, 30) := ⟨⟨by decide +kernel, by decide +kernel⟩, List.mem_of_getElem? (i := 836) (by decide +kernel), List.mem_of_getElem? (i := 1009) (by decide +kernel), List.mem_of_getElem? (i := 1010) (by decide +kernel)⟩
theorem lw_p37 : lw_okq (⟨"RoundStoolModel", "bad", "(I)Z"⟩, 30) := ⟨⟨by decide +kernel, by decide +kernel⟩, List.mem_of_getElem? (i := 836) (by decide +kernel), List.mem_of_getElem? (i := 1013) (by decide +kernel), List.mem_of_getElem? (i := 1014) (by decide +kernel)⟩
theorem lw_p38 : lw_okq (⟨"RoundStoolModel", "number", "(II)Z"⟩, 30) := ⟨⟨by decide +kernel, by decide +kernel⟩, List.mem_of_getElem? (i := 836) (by decide +kernel), List.mem_of_getElem? (i := 1017) (by decide +kernel), List.mem_of_getElem? (i := 1018) (by decide +kernel)⟩
theorem lw_p39 : lw_okq (⟨"RoundStoolModel", "need", "(I)Z"⟩, 30) := ⟨⟨by decide +kernel, by decide +kernel⟩, List.mem_of_getElem? (i := 836) (by decide +kernel), List.mem_of_getElem? (i := 1021) (by decide +kernel), List.mem_of_getElem? (i := 1022) (by decide +kernel)⟩
theorem lw_p40 : lw_okq (⟨"RoundStoolModel", "puts", "(IIII)V"⟩, 30) := ⟨⟨by decide +kernel, by decide +kernel⟩, List.mem_of_getElem? (i := 836) (by decide +kernel), List.mem_of_getElem? (i := 1025) (by decide +kernel), List.mem_of_getElem? (i := 1026) (by decide +kernel)⟩
theorem lw_p41 : lw_okq (⟨"RoundStoolModel", "aTurn", "()Z"⟩, 30) := ⟨⟨by decide +kernel, by decide +kernel⟩, List.mem_of_getElem? (i := 836) (by decide +kernel), List.mem_of_getElem? (i := 1029) (by decide +kernel), List.mem_of_getElem? (i := 1030) (by decide +kernel)⟩
theorem lw_p42 : lw_okq (⟨"RoundStoolModel", "aMove", "(I)Z"⟩, 30) := ⟨⟨by decide +kernel, by decide +kernel⟩, List.mem_of_getElem? (i := 836) (by decide +kernel), List.mem_of_getElem? (i := 1033) (by decide +kernel), List.mem_of_getElem? (i := 1034) (by decide +kernel)⟩
theorem lw_p43 : lw_okq (⟨"RoundStoolModel", "keeps", "()V"⟩, 30) := ⟨⟨by decide +kernel, by decide +kernel⟩, List.mem_of_getElem? (i := 836) (by decide +kernel), List.mem_of_getElem? (i := 1045) (by decide +kernel), List.mem_of_getElem? (i := 1046) (by decide +kernel)⟩
theorem lw_p44 : lw_okq (⟨"RoundStoolModel", "singsTruly", "(I)I"⟩, 30) := ⟨⟨by decide +kernel, by decide +kernel⟩, List.mem_of_getElem? (i := 836) (by decide +kernel), List.mem_of_getElem? (i := 1049) (by decide +kernel), List.mem_of_getElem? (i := 1050) (by decide +kernel)⟩
theorem lw_p45 : lw_okq (⟨"RoundStoolModel", "sitsNow", "()V"⟩, 30) := ⟨⟨by decide +kernel, by decide +kernel⟩, List.mem_of_getElem? (i := 836) (by decide +kernel), List.mem_of_getElem? (i := 1053) (by decide +kernel), List.mem_of_getElem? (i := 1054) (by decide +kernel)⟩
theorem lw_p46 : lw_okq (⟨"RoundStoolModel", "ofMove", "(III)I"⟩, 30) := ⟨⟨by decide +kernel, by decide +kernel⟩, List.mem_of_getElem? (i := 836) (by decide +kernel), List.mem_of_getElem? (i := 1057) (by decide +kernel), List.mem_of_getElem? (i := 1058) (by decide +kernel)⟩
theorem lw_p47 : lw_okq (⟨"RoundStoolModel", "draw", "(I)I"⟩, 30) := ⟨⟨by decide +kernel, by decide +kernel⟩, List.mem_of_getElem? (i := 836) (by decide +kernel), List.mem_of_getElem? (i := 1061) (by decide +kernel), List.mem_of_getElem? (i := 1062) (by decide +kernel)⟩
def lw_privs_3 : List (MethodName × Nat) := [(⟨"RoundStoolModel", "see", "(I)I"⟩, 30), (⟨"RoundStoolModel", "word", "()I"⟩, 30), (⟨"RoundStoolModel", "is", "(Ljava/lang/String;)Z"⟩, 30), (⟨"RoundStoolModel", "someSteps", "(I)Z"⟩, 30), (⟨"RoundStoolModel", "someTimes", "(I)Z"⟩, 30), (⟨"RoundStoolModel", "bad", "(I)Z"⟩, 30), (⟨"RoundStoolModel", "number", "(II)Z"⟩, 30), (⟨"RoundStoolModel", "need", "(I)Z"⟩, 30), (⟨"RoundStoolModel", "puts", "(IIII)V"⟩, 30), (⟨"RoundStoolModel", "aTurn", "()Z"⟩, 30), (⟨"RoundStoolModel", "aMove", "(I)Z"⟩, 30), (⟨"RoundStoolModel", "keeps", "()V"⟩, 30), (⟨"RoundStoolModel", "singsTruly", "(I)I"⟩, 30), (⟨"RoundStoolModel", "sitsNow", "()V"⟩, 30), (⟨"RoundStoolModel", "ofMove", "(III)I"⟩, 30), (⟨"RoundStoolModel", "draw", "(I)I"⟩, 30)]
theorem lw_r3 : ∀ q ∈ lw_privs_3, lw_okq q := List.forall_mem_cons.mpr ⟨lw_p32, List.forall_mem_cons.mpr ⟨lw_p33, List.forall_mem_cons.mpr ⟨lw_p34, List.forall_mem_cons.mpr ⟨lw_p35, List.forall_mem_cons.mpr ⟨lw_p36, List.forall_mem_cons.mpr ⟨lw_p37, List.forall_mem_cons.mpr ⟨lw_p38, List.forall_mem_cons.mpr ⟨lw_p39, List.forall_mem_cons.mpr ⟨lw_p40, List.forall_mem_cons.mpr ⟨lw_p41, List.forall_mem_cons.mpr ⟨lw_p42, List.forall_mem_cons.mpr ⟨lw_p43, List.forall_mem_cons.mpr ⟨lw_p44, List.forall_mem_cons.mpr ⟨lw_p45, List.forall_mem_cons.mpr ⟨lw_p46, List.forall_mem_cons.mpr ⟨lw_p47, fun _ h => absurd h List.not_mem_nil⟩⟩⟩⟩⟩⟩⟩⟩⟩⟩⟩⟩⟩⟩⟩⟩
theorem lw_p48 : lw_okq (⟨"RoundStoolModel", "moves", "(IIZZIZ)I"⟩, 30) := ⟨⟨by decide +kernel, by decide +kernel⟩, List.mem_of_getElem? (i := 836) (by decide +kernel), List.mem_of_getElem? (i := 1067) (by decide +kernel), List.mem_of_getElem? (i := 1068) (by decide +kernel)⟩
theorem lw_p49 : lw_okq (⟨"RoundStoolModel", "turns", "(I)V"⟩, 30) := ⟨⟨by decide +kernel, by decide +kernel⟩, List.mem_of_getElem? (i := 836) (by decide +kernel), List.mem_of_getElem? (i := 1071) (by decide +kernel), List.mem_of_getElem? (i := 1072) (by decide +kernel)⟩
theorem lw_p50 : lw_okq (⟨"RoundStoolModel", "lifts", "(IIZ)V"⟩, 30) := ⟨⟨by decide +kernel, by decide +kernel⟩, List.mem_of_getElem? (i := 836) (by decide +kernel), List.mem_of_getElem? (i := 1075) (by decide +kernel), List.mem_of_getElem? (i := 1076) (by decide +kernel)⟩
theorem lw_p51 : lw_okq (⟨"RoundStoolModel", "goesOver", "(IIZ)V"⟩, 30) := ⟨⟨by decide +kernel, by decide +kernel⟩, List.mem_of_getElem? (i := 836) (by decide +kernel), List.mem_of_getElem? (i := 1079) (by decide +kernel), List.mem_of_getElem? (i := 1080) (by decide +kernel)⟩
theorem lw_p52 : lw_okq (⟨"RoundStoolModel", "swaps", "(IIZ)V"⟩, 30) := ⟨⟨by decide +kernel, by decide +kernel⟩, List.mem_of_getElem? (i := 836) (by decide +kernel), List.mem_of_getElem? (i := 1083) (by decide +kernel), List.mem_of_getElem? (i := 1084) (by decide +kernel)⟩
theorem lw_p53 : lw_okq (⟨"RoundStoolModel", "writes", "(I)V"⟩, 30) := ⟨⟨by decide +kernel, by decide +kernel⟩, List.mem_of_getElem? (i := 836) (by decide +kernel), List.mem_of_getElem? (i := 1087) (by decide +kernel), List.mem_of_getElem? (i := 1088) (by decide +kernel)⟩
theorem lw_p54 : lw_okq (⟨"RoundStoolModel", "slotOf", "(I)I"⟩, 30) := ⟨⟨by decide +kernel, by decide +kernel⟩, List.mem_of_getElem? (i := 836) (by decide +kernel), List.mem_of_getElem? (i := 1103) (by decide +kernel), List.mem_of_getElem? (i := 1104) (by decide +kernel)⟩
theorem lw_p55 : lw_okq (⟨"RoundStoolModel", "sings", "(IZI)V"⟩, 30) := ⟨⟨by decide +kernel, by decide +kernel⟩, List.mem_of_getElem? (i := 836) (by decide +kernel), List.mem_of_getElem? (i := 1119) (by decide +kernel), List.mem_of_getElem? (i := 1120) (by decide +kernel)⟩
theorem lw_p56 : lw_okq (⟨"RoundStoolModel", "isAsNow", "(I)Z"⟩, 30) := ⟨⟨by decide +kernel, by decide +kernel⟩, List.mem_of_getElem? (i := 836) (by decide +kernel), List.mem_of_getElem? (i := 1123) (by decide +kernel), List.mem_of_getElem? (i := 1124) (by decide +kernel)⟩
theorem lw_p57 : lw_okq (⟨"RoundStoolModel", "laysFar", "()V"⟩, 30) := ⟨⟨by decide +kernel, by decide +kernel⟩, List.mem_of_getElem? (i := 836) (by decide +kernel), List.mem_of_getElem? (i := 1139) (by decide +kernel), List.mem_of_getElem? (i := 1140) (by decide +kernel)⟩
theorem lw_p58 : lw_okq (⟨"RoundStoolModel", "comes", "(II)V"⟩, 30) := ⟨⟨by decide +kernel, by decide +kernel⟩, List.mem_of_getElem? (i := 836) (by decide +kernel), List.mem_of_getElem? (i := 1143) (by decide +kernel), List.mem_of_getElem? (i := 1144) (by decide +kernel)⟩
theorem lw_p59 : lw_okq (⟨"RoundStoolModel", "placeOf", "(I)I"⟩, 30) := ⟨⟨by decide +kernel, by decide +kernel⟩, List.mem_of_getElem? (i := 836) (by decide +kernel), List.mem_of_getElem? (i := 1147) (by decide +kernel), List.mem_of_getElem? (i := 1148) (by decide +kernel)⟩
theorem lw_p60 : lw_okq (⟨"RoundStoolModel", "liftedOf", "(III)I"⟩, 30) := ⟨⟨by decide +kernel, by decide +kernel⟩, List.mem_of_getElem? (i := 836) (by decide +kernel), List.mem_of_getElem? (i := 1153) (by decide +kernel), List.mem_of_getElem? (i := 1154) (by decide +kernel)⟩
theorem lw_p61 : lw_okq (⟨"RoundStoolModel", "farOf", "(I)I"⟩, 30) := ⟨⟨by decide +kernel, by decide +kernel⟩, List.mem_of_getElem? (i := 836) (by decide +kernel), List.mem_of_getElem? (i := 1157) (by decide +kernel), List.mem_of_getElem? (i := 1158) (by decide +kernel)⟩
theorem lw_p62 : lw_okq (⟨"RoundStoolModel", "sitsAtFirst", "()V"⟩, 30) := ⟨⟨by decide +kernel, by decide +kernel⟩, List.mem_of_getElem? (i := 836) (by decide +kernel), List.mem_of_getElem? (i := 1165) (by decide +kernel), List.mem_of_getElem? (i := 1166) (by decide +kernel)⟩
theorem lw_p63 : lw_okq (⟨"RoundStoolModel", "isWanted", "()Z"⟩, 30) := ⟨⟨by decide +kernel, by decide +kernel⟩, List.mem_of_getElem? (i := 836) (by decide +kernel), List.mem_of_getElem? (i := 1169) (by decide +kernel), List.mem_of_getElem? (i := 1170) (by decide +kernel)⟩
def lw_privs_4 : List (MethodName × Nat) := [(⟨"RoundStoolModel", "moves", "(IIZZIZ)I"⟩, 30), (⟨"RoundStoolModel", "turns", "(I)V"⟩, 30), (⟨"RoundStoolModel", "lifts", "(IIZ)V"⟩, 30), (⟨"RoundStoolModel", "goesOver", "(IIZ)V"⟩, 30), (⟨"RoundStoolModel", "swaps", "(IIZ)V"⟩, 30), (⟨"RoundStoolModel", "writes", "(I)V"⟩, 30), (⟨"RoundStoolModel", "slotOf", "(I)I"⟩, 30), (⟨"RoundStoolModel", "sings", "(IZI)V"⟩, 30), (⟨"RoundStoolModel", "isAsNow", "(I)Z"⟩, 30), (⟨"RoundStoolModel", "laysFar", "()V"⟩, 30), (⟨"RoundStoolModel", "comes", "(II)V"⟩, 30), (⟨"RoundStoolModel", "placeOf", "(I)I"⟩, 30), (⟨"RoundStoolModel", "liftedOf", "(III)I"⟩, 30), (⟨"RoundStoolModel", "farOf", "(I)I"⟩, 30), (⟨"RoundStoolModel", "sitsAtFirst", "()V"⟩, 30), (⟨"RoundStoolModel", "isWanted", "()Z"⟩, 30)]
theorem lw_r4 : ∀ q ∈ lw_privs_4, lw_okq q := List.forall_mem_cons.mpr ⟨lw_p48, List.forall_mem_cons.mpr ⟨lw_p49, List.forall_mem_cons.mpr ⟨lw_p50, List.forall_mem_cons.mpr ⟨lw_p51, List.forall_mem_cons.mpr ⟨lw_p52, List.forall_mem_cons.mpr ⟨lw_p53, List.forall_mem_cons.mpr ⟨lw_p54, List.forall_mem_cons.mpr ⟨lw_p55, List.forall_mem_cons.mpr ⟨lw_p56, List.forall_mem_cons.mpr ⟨lw_p57, List.forall_mem_cons.mpr ⟨lw_p58, List.forall_mem_cons.mpr ⟨lw_p59, List.forall_mem_cons.mpr ⟨lw_p60, List.forall_mem_cons.mpr ⟨lw_p61, List.forall_mem_cons.mpr ⟨lw_p62, List.forall_mem_cons.mpr ⟨lw_p63, fun _ h => absurd h List.not_mem_nil⟩⟩⟩⟩⟩⟩⟩⟩⟩⟩⟩⟩⟩⟩⟩⟩
theorem lw_p64 : lw_okq (⟨"RoundStoolModel", "isWantedBehind", "(IIII)Z"⟩, 30) := ⟨⟨by decide +kernel, by decide +kernel⟩, List.mem_of_getElem? (i := 836) (by decide +kernel), List.mem_of_getElem? (i := 1177) (by decide +kernel), List.mem_of_getElem? (i := 1178) (by decide +kernel)⟩
theorem lw_p65 : lw_okq (⟨"RoundStoolModel", "singsAlone", "(I)V"⟩, 30) := ⟨⟨by decide +kernel, by decide +kernel⟩, List.mem_of_getElem? (i := 836) (by decide +kernel), List.mem_of_getElem? (i := 1185) (by decide +kernel), List.mem_of_getElem? (i := 1186) (by decide +kernel)⟩
theorem lw_p66 : lw_okq (⟨"RoundStoolModel", "comesAgain", "(II)Z"⟩, 30) := ⟨⟨by decide +kernel, by decide +kernel⟩, List.mem_of_getElem? (i := 836) (by decide +kernel), List.mem_of_getElem? (i := 1193) (by decide +kernel), List.mem_of_getElem? (i := 1194) (by decide +kernel)⟩
theorem lw_p67 : lw_okq (⟨"RoundStoolModel", "doCross", "(III)Z"⟩, 30) := ⟨⟨by decide +kernel, by decide +kernel⟩, List.mem_of_getElem? (i := 836) (by decide +kernel), List.mem_of_getElem? (i := 1201) (by decide +kernel), List.mem_of_getElem? (i := 1202) (by decide +kernel)⟩
theorem lw_p68 : lw_okq (⟨"RoundStoolModel", "isFree", "(II)Z"⟩, 30) := ⟨⟨by decide +kernel, by decide +kernel⟩, List.mem_of_getElem? (i := 836) (by decide +kernel), List.mem_of_getElem? (i := 1220) (by decide +kernel), List.mem_of_getElem? (i := 1221) (by decide +kernel)⟩
theorem lw_p69 : lw_okq (⟨"RoundStoolModel", "ring", "(I)I"⟩, 30) := ⟨⟨by decide +kernel, by decide +kernel⟩, List.mem_of_getElem? (i := 836) (by decide +kernel), List.mem_of_getElem? (i := 1228) (by decide +kernel), List.mem_of_getElem? (i := 1229) (by decide +kernel)⟩
theorem lw_p70 : lw_okq (⟨"RoundStoolModel", "isLeast", "(I)Z"⟩, 30) := ⟨⟨by decide +kernel, by decide +kernel⟩, List.mem_of_getElem? (i := 836) (by decide +kernel), List.mem_of_getElem? (i := 1232) (by decide +kernel), List.mem_of_getElem? (i := 1233) (by decide +kernel)⟩
def lw_privs_5 : List (MethodName × Nat) := [(⟨"RoundStoolModel", "isWantedBehind", "(IIII)Z"⟩, 30), (⟨"RoundStoolModel", "singsAlone", "(I)V"⟩, 30), (⟨"RoundStoolModel", "comesAgain", "(II)Z"⟩, 30), (⟨"RoundStoolModel", "doCross", "(III)Z"⟩, 30), (⟨"RoundStoolModel", "isFree", "(II)Z"⟩, 30), (⟨"RoundStoolModel", "ring", "(I)I"⟩, 30), (⟨"RoundStoolModel", "isLeast", "(I)Z"⟩, 30)]
theorem lw_r5 : ∀ q ∈ lw_privs_5, lw_okq q := List.forall_mem_cons.mpr ⟨lw_p64, List.forall_mem_cons.mpr ⟨lw_p65, List.forall_mem_cons.mpr ⟨lw_p66, List.forall_mem_cons.mpr ⟨lw_p67, List.forall_mem_cons.mpr ⟨lw_p68, List.forall_mem_cons.mpr ⟨lw_p69, List.forall_mem_cons.mpr ⟨lw_p70, fun _ h => absurd h List.not_mem_nil⟩⟩⟩⟩⟩⟩⟩
def lw_privs : List (MethodName × Nat) := lw_privs_1 ++ (lw_privs_2 ++ (lw_privs_3 ++ (lw_privs_4 ++ (lw_privs_5))))
def lw_tbl : List Cond := k2_sels lw_privs ++ tables_1
theorem lw_privs_ok : ∀ q ∈ lw_privs, lw_okq q := by
  show ∀ q ∈ lw_privs_1 ++ (lw_privs_2 ++ (lw_privs_3 ++ (lw_privs_4 ++ (lw_privs_5)))), lw_okq q
  exact List.forall_mem_append.mpr ⟨lw_r1, List.forall_mem_append.mpr ⟨lw_r2, List.forall_mem_append.mpr ⟨lw_r3, List.forall_mem_append.mpr ⟨lw_r4, lw_r5⟩⟩⟩⟩
-- ===== end of PART A; then your names; then what follows =====
end
section
/-! ===== BEGIN words of one list among another's, by their places ===== -/
theorem goodIn_r {big : List Cond} (ws : List Cond) (ps : List Nat) (hp : ws = ps.filterMap (fun i => big[i]?)) (h : ws.all goodWord = true) : GoodIn big ws := by
  intro w hw
  have h1 := List.all_eq_true.mp h w hw
  rw [hp] at hw
  obtain ⟨i, -, hi⟩ := List.mem_filterMap.mp hw
  have hm : w ∈ big := by first | exact List.mem_of_getElem? hi | exact List.getElem?_mem hi
  exact ⟨hm, good_of_word h1⟩
theorem goodIn_app {big a b : List Cond} (ha : GoodIn big a) (hb : GoodIn big b) : GoodIn big (a ++ b) := fun w h => (List.mem_append.mp h).elim (ha w) (hb w)
theorem goodIn_ca {big a b : List Cond} {c : Cond} (ha : GoodIn big (c :: a)) (hb : GoodIn big b) : GoodIn big (c :: (a ++ b)) := fun w h => (List.mem_cons.mp h).elim (fun e => ha w (List.mem_cons.mpr (Or.inl e))) (fun h => (List.mem_append.mp h).elim (fun h => ha w (List.mem_cons.mpr (Or.inr h))) (hb w))
theorem goodIn_sub {big ws : List Cond} (hm : ∀ w ∈ ws, w ∈ big) (h : ws.all goodWord = true) : GoodIn big ws := fun w hw => ⟨hm w hw, good_of_word (List.all_eq_true.mp h w hw)⟩
/-! ===== END ===== -/

/-! ===== BEGIN printed: names, fields, word lists, decode rows ===== -/
def RX0 : String := "RoundStool$Beats"
def TX0 : u_T := fun k => match k with
  | 0 => ("RoundStool$Beats", "beatOfMove", "[I", true)
  | _ => ("RoundStool$Beats", "moving", "[I", true)
def tyX0 : Nat → FieldType := fun k => match k with
  | 0 => .array .int
  | _ => .array .int
abbrev wsX00 : List Cond := u_ws RX0 TX0 2
theorem nmX0 : ∀ a, a < 2 → ∀ b, b < 2 → a ≠ b → (TX0 a).2.1 ≠ (TX0 b).2.1 := by decide +kernel
theorem tyX0_ok : ∀ k, k < 2 → parseFieldDescriptor (TX0 k).2.2.1 = some (tyX0 k) := by decide +kernel
abbrev cX0_init : ByteArray := prog_2_method_1_code
def yX0_init : MethodName := ⟨RX0, "<init>", "()V"⟩
abbrev cX0_needed : ByteArray := prog_2_method_2_code
def yX0_needed : MethodName := ⟨RX0, "needed", "(LRoundStool$Song;I)I"⟩
abbrev cX0_earliest : ByteArray := prog_2_method_3_code
def yX0_earliest : MethodName := ⟨RX0, "earliest", "(LRoundStool$Song;II)I"⟩
def RX1 : String := "RoundStool$Cord"
def TX1 : u_T := fun k => match k with
  | 0 => ("RoundStool$Cord", "ring", "J", false)
  | 1 => ("RoundStool$Cord", "state", "I", false)
  | 2 => ("RoundStool$Cord", "sung", "I", false)
  | 3 => ("RoundStool$Cord", "rows", "I", false)
  | 4 => ("RoundStool$Cord", "moved", "[I", true)
  | _ => ("RoundStool$Cord", "overs", "[I", true)
def tyX1 : Nat → FieldType := fun k => match k with
  | 0 => .long
  | 1 => .int
  | 2 => .int
  | 3 => .int
  | 4 => .array .int
  | _ => .array .int
abbrev wsX10 : List Cond := u_ws RX1 TX1 6
theorem nmX1 : ∀ a, a < 6 → ∀ b, b < 6 → a ≠ b → (TX1 a).2.1 ≠ (TX1 b).2.1 := by decide +kernel
theorem tyX1_ok : ∀ k, k < 6 → parseFieldDescriptor (TX1 k).2.2.1 = some (tyX1 k) := by decide +kernel
abbrev cX1_init : ByteArray := prog_3_method_1_code
def yX1_init : MethodName := ⟨RX1, "<init>", "()V"⟩
abbrev cX1_startAnew : ByteArray := prog_3_method_2_code
def yX1_startAnew : MethodName := ⟨RX1, "startAnew", "(I)V"⟩
abbrev cX1_copy : ByteArray := prog_3_method_3_code
def yX1_copy : MethodName := ⟨RX1, "copy", "(LRoundStool$Cord;)V"⟩
abbrev cX1_timesOver : ByteArray := prog_3_method_4_code
def yX1_timesOver : MethodName := ⟨RX1, "timesOver", "(II)I"⟩
abbrev cX1_isOverLike : ByteArray := prog_3_method_5_code
def yX1_isOverLike : MethodName := ⟨RX1, "isOverLike", "(LRoundStool$Cord;)Z"⟩
abbrev cX1_draw : ByteArray := prog_3_method_6_code
def yX1_draw : MethodName := ⟨RX1, "draw", "(I)I"⟩
abbrev cX1_singInThought : ByteArray := prog_3_method_7_code
def yX1_singInThought : MethodName := ⟨RX1, "singInThought", "(LRoundStool$Song;JI)V"⟩
abbrev cX1_make : ByteArray := prog_3_method_8_code
def yX1_make : MethodName := ⟨RX1, "make", "(IJI)Z"⟩
abbrev cX1_countOver : ByteArray := prog_3_method_9_code
def yX1_countOver : MethodName := ⟨RX1, "countOver", "(I)V"⟩
abbrev cX1_leastFree : ByteArray := prog_3_method_10_code
def yX1_leastFree : MethodName := ⟨RX1, "leastFree", "(II)I"⟩
abbrev cX1_isCovered : ByteArray := prog_3_method_11_code
def yX1_isCovered : MethodName := ⟨RX1, "isCovered", "(III)Z"⟩
def RX2 : String := "RoundStool$History"
def TX2 : u_T := fun k => match k with
  | 0 => ("RoundStool$History", "count", "I", false)
  | 1 => ("RoundStool$History", "next", "I", false)
  | _ => ("RoundStool$History", "cords", "[LRoundStool$Cord;", true)
def tyX2 : Nat → FieldType := fun k => match k with
  | 0 => .int
  | 1 => .int
  | _ => .array (.object "RoundStool$Cord")
abbrev wsX20 : List Cond := u_ws RX2 TX2 3
theorem nmX2 : ∀ a, a < 3 → ∀ b, b < 3 → a ≠ b → (TX2 a).2.1 ≠ (TX2 b).2.1 := by decide +kernel
theorem tyX2_ok : ∀ k, k < 3 → parseFieldDescriptor (TX2 k).2.2.1 = some (tyX2 k) := by decide +kernel
abbrev cX2_init : ByteArray := prog_4_method_1_code
def yX2_init : MethodName := ⟨RX2, "<init>", "()V"⟩
abbrev cX2_remember : ByteArray := prog_4_method_2_code
def yX2_remember : MethodName := ⟨RX2, "remember", "(LRoundStool$Cord;)V"⟩
abbrev cX2_goBack : ByteArray := prog_4_method_3_code
def yX2_goBack : MethodName := ⟨RX2, "goBack", "(LRoundStool$Cord;)Z"⟩
abbrev cX2_forget : ByteArray := prog_4_method_4_code
def yX2_forget : MethodName := ⟨RX2, "forget", "()V"⟩
def RX3 : String := "RoundStool$Lifts"
def TX3 : u_T := fun k => match k with
  | _ => ("RoundStool$Lifts", "common", "[I", true)
def tyX3 : Nat → FieldType := fun k => match k with
  | _ => .array .int
abbrev wsX30 : List Cond := u_ws RX3 TX3 1
theorem nmX3 : ∀ a, a < 1 → ∀ b, b < 1 → a ≠ b → (TX3 a).2.1 ≠ (TX3 b).2.1 := by decide +kernel
theorem tyX3_ok : ∀ k, k < 1 → parseFieldDescriptor (TX3 k).2.2.1 = some (tyX3 k) := by decide +kernel
abbrev cX3_init : ByteArray := prog_5_method_1_code
def yX3_init : MethodName := ⟨RX3, "<init>", "()V"⟩
abbrev cX3_needed : ByteArray := prog_5_method_2_code
def yX3_needed : MethodName := ⟨RX3, "needed", "(JJI)I"⟩
abbrev cX3_firstOf : ByteArray := prog_5_method_3_code
def yX3_firstOf : MethodName := ⟨RX3, "firstOf", "(IJJI)I"⟩
abbrev cX3_isSameColours : ByteArray := prog_5_method_4_code
def yX3_isSameColours : MethodName := ⟨RX3, "isSameColours", "(JJI)Z"⟩
abbrev cX3_countOf : ByteArray := prog_5_method_5_code
def yX3_countOf : MethodName := ⟨RX3, "countOf", "(IJI)I"⟩
abbrev cX3_longestCommon : ByteArray := prog_5_method_6_code
def yX3_longestCommon : MethodName := ⟨RX3, "longestCommon", "(JJI)I"⟩
def RX4 : String := "RoundStool$Move"
def TX4 : u_T := fun k => match k with
  | _ => ("", "", "", false)
def tyX4 : Nat → FieldType := fun k => match k with
  | _ => .int
abbrev wsX40 : List Cond := u_ws RX4 TX4 0
theorem nmX4 : ∀ a, a < 0 → ∀ b, b < 0 → a ≠ b → (TX4 a).2.1 ≠ (TX4 b).2.1 := by decide +kernel
theorem tyX4_ok : ∀ k, k < 0 → parseFieldDescriptor (TX4 k).2.2.1 = some (tyX4 k) := by decide +kernel
abbrev cX4_packed : ByteArray := prog_6_method_2_code
def yX4_packed : MethodName := ⟨RX4, "packed", "(IIII)I"⟩
abbrev cX4_kind : ByteArray := prog_6_method_3_code
def yX4_kind : MethodName := ⟨RX4, "kind", "(I)I"⟩
abbrev cX4_from : ByteArray := prog_6_method_4_code
def yX4_from : MethodName := ⟨RX4, "from", "(I)I"⟩
abbrev cX4_to : ByteArray := prog_6_method_5_code
def yX4_to : MethodName := ⟨RX4, "to", "(I)I"⟩
abbrev cX4_asked : ByteArray := prog_6_method_6_code
def yX4_asked : MethodName := ⟨RX4, "asked", "(I)I"⟩
abbrev cX4_withoutAsking : ByteArray := prog_6_method_7_code
def yX4_withoutAsking : MethodName := ⟨RX4, "withoutAsking", "(I)I"⟩
abbrev cX4_mirrored : ByteArray := prog_6_method_8_code
def yX4_mirrored : MethodName := ⟨RX4, "mirrored", "(II)I"⟩
abbrev cX4_isTurn : ByteArray := prog_6_method_9_code
def yX4_isTurn : MethodName := ⟨RX4, "isTurn", "(I)Z"⟩
abbrev cX4_findsColour : ByteArray := prog_6_method_10_code
def yX4_findsColour : MethodName := ⟨RX4, "findsColour", "(IJJ)Z"⟩
abbrev cX4_madeOn : ByteArray := prog_6_method_11_code
def yX4_madeOn : MethodName := ⟨RX4, "madeOn", "(JIJI)J"⟩
abbrev cX4_cross : ByteArray := prog_6_method_12_code
def yX4_cross : MethodName := ⟨RX4, "cross", "(II)Z"⟩
abbrev cX4_isBetween : ByteArray := prog_6_method_13_code
def yX4_isBetween : MethodName := ⟨RX4, "isBetween", "(III)Z"⟩
def RX5 : String := "RoundStool$Reader"
def TX5 : u_T := fun k => match k with
  | 0 => ("RoundStool$Reader", "fault", "I", false)
  | 1 => ("RoundStool$Reader", "place", "I", false)
  | 2 => ("RoundStool$Reader", "tape", "LRoundStool$Tape;", true)
  | 3 => ("RoundStool$Reader", "draft", "LRoundStool$Song;", true)
  | 4 => ("RoundStool$Reader", "slots", "I", false)
  | 5 => ("RoundStool$Reader", "taken", "I", false)
  | 6 => ("RoundStool$Reader", "kind", "I", false)
  | 7 => ("RoundStool$Reader", "number", "I", false)
  | 8 => ("RoundStool$Reader", "tooMany", "Z", false)
  | 9 => ("RoundStool$Reader", "open", "I", false)
  | 10 => ("RoundStool$Reader", "bodyStart", "[I", true)
  | _ => ("RoundStool$Reader", "repeats", "[I", true)
def tyX5 : Nat → FieldType := fun k => match k with
  | 0 => .int
  | 1 => .int
  | 2 => .object "RoundStool$Tape"
  | 3 => .object "RoundStool$Song"
  | 4 => .int
  | 5 => .int
  | 6 => .int
  | 7 => .int
  | 8 => .boolean
  | 9 => .int
  | 10 => .array .int
  | _ => .array .int
abbrev wsX50 : List Cond := u_ws RX5 TX5 12
theorem nmX5 : ∀ a, a < 12 → ∀ b, b < 12 → a ≠ b → (TX5 a).2.1 ≠ (TX5 b).2.1 := by decide +kernel
theorem tyX5_ok : ∀ k, k < 12 → parseFieldDescriptor (TX5 k).2.2.1 = some (tyX5 k) := by decide +kernel
abbrev cX5_init : ByteArray := prog_7_method_1_code
def yX5_init : MethodName := ⟨RX5, "<init>", "()V"⟩
abbrev cX5_forgetFault : ByteArray := prog_7_method_2_code
def yX5_forgetFault : MethodName := ⟨RX5, "forgetFault", "()V"⟩
abbrev cX5_read : ByteArray := prog_7_method_3_code
def yX5_read : MethodName := ⟨RX5, "read", "(I)Z"⟩
abbrev cX5_fail : ByteArray := prog_7_method_4_code
def yX5_fail : MethodName := ⟨RX5, "fail", "(I)Z"⟩
abbrev cX5_take : ByteArray := prog_7_method_5_code
def yX5_take : MethodName := ⟨RX5, "take", "()V"⟩
abbrev cX5_readToken : ByteArray := prog_7_method_6_code
def yX5_readToken : MethodName := ⟨RX5, "readToken", "(I)Z"⟩
abbrev cX5_readNumber : ByteArray := prog_7_method_7_code
def yX5_readNumber : MethodName := ⟨RX5, "readNumber", "(II)Z"⟩
abbrev cX5_readEnd : ByteArray := prog_7_method_8_code
def yX5_readEnd : MethodName := ⟨RX5, "readEnd", "()Z"⟩
abbrev cX5_readLift : ByteArray := prog_7_method_9_code
def yX5_readLift : MethodName := ⟨RX5, "readLift", "()Z"⟩
abbrev cX5_readSwap : ByteArray := prog_7_method_10_code
def yX5_readSwap : MethodName := ⟨RX5, "readSwap", "()Z"⟩
abbrev cX5_readAsked : ByteArray := prog_7_method_11_code
def yX5_readAsked : MethodName := ⟨RX5, "readAsked", "(III)Z"⟩
abbrev cX5_readTurn : ByteArray := prog_7_method_12_code
def yX5_readTurn : MethodName := ⟨RX5, "readTurn", "()Z"⟩
abbrev cX5_readTimes : ByteArray := prog_7_method_13_code
def yX5_readTimes : MethodName := ⟨RX5, "readTimes", "()Z"⟩
abbrev cX5_readClosing : ByteArray := prog_7_method_14_code
def yX5_readClosing : MethodName := ⟨RX5, "readClosing", "()Z"⟩
abbrev cX5_append : ByteArray := prog_7_method_15_code
def yX5_append : MethodName := ⟨RX5, "append", "(I)V"⟩
def RX6 : String := "RoundStool$Ring"
def TX6 : u_T := fun k => match k with
  | _ => ("", "", "", false)
def tyX6 : Nat → FieldType := fun k => match k with
  | _ => .int
abbrev wsX60 : List Cond := u_ws RX6 TX6 0
theorem nmX6 : ∀ a, a < 0 → ∀ b, b < 0 → a ≠ b → (TX6 a).2.1 ≠ (TX6 b).2.1 := by decide +kernel
theorem tyX6_ok : ∀ k, k < 0 → parseFieldDescriptor (TX6 k).2.2.1 = some (tyX6 k) := by decide +kernel
abbrev cX6_home : ByteArray := prog_8_method_2_code
def yX6_home : MethodName := ⟨RX6, "home", "(I)J"⟩
abbrev cX6_get : ByteArray := prog_8_method_3_code
def yX6_get : MethodName := ⟨RX6, "get", "(JI)I"⟩
abbrev cX6_with : ByteArray := prog_8_method_4_code
def yX6_with : MethodName := ⟨RX6, "with", "(JII)J"⟩
abbrev cX6_slotWith : ByteArray := prog_8_method_5_code
def yX6_slotWith : MethodName := ⟨RX6, "slotWith", "(JII)I"⟩
abbrev cX6_lifted : ByteArray := prog_8_method_6_code
def yX6_lifted : MethodName := ⟨RX6, "lifted", "(JII)J"⟩
abbrev cX6_swapped : ByteArray := prog_8_method_7_code
def yX6_swapped : MethodName := ⟨RX6, "swapped", "(JII)J"⟩
abbrev cX6_turned : ByteArray := prog_8_method_8_code
def yX6_turned : MethodName := ⟨RX6, "turned", "(JII)J"⟩
abbrev cX6_lowest : ByteArray := prog_8_method_9_code
def yX6_lowest : MethodName := ⟨RX6, "lowest", "(I)J"⟩
def RX7 : String := "RoundStool$Song"
def TX7 : u_T := fun k => match k with
  | 0 => ("RoundStool$Song", "size", "I", false)
  | _ => ("RoundStool$Song", "moves", "[I", true)
def tyX7 : Nat → FieldType := fun k => match k with
  | 0 => .int
  | _ => .array .int
abbrev wsX70 : List Cond := u_ws RX7 TX7 2
theorem nmX7 : ∀ a, a < 2 → ∀ b, b < 2 → a ≠ b → (TX7 a).2.1 ≠ (TX7 b).2.1 := by decide +kernel
theorem tyX7_ok : ∀ k, k < 2 → parseFieldDescriptor (TX7 k).2.2.1 = some (tyX7 k) := by decide +kernel
abbrev cX7_init : ByteArray := prog_9_method_1_code
def yX7_init : MethodName := ⟨RX7, "<init>", "()V"⟩
abbrev cX7_copy : ByteArray := prog_9_method_2_code
def yX7_copy : MethodName := ⟨RX7, "copy", "(LRoundStool$Song;)V"⟩
abbrev cX7_add : ByteArray := prog_9_method_3_code
def yX7_add : MethodName := ⟨RX7, "add", "(I)Z"⟩
abbrev cX7_sungFrom : ByteArray := prog_9_method_4_code
def yX7_sungFrom : MethodName := ⟨RX7, "sungFrom", "(JJII)J"⟩
abbrev cX7_mirroredFrom : ByteArray := prog_9_method_5_code
def yX7_mirroredFrom : MethodName := ⟨RX7, "mirroredFrom", "(JJI)J"⟩
abbrev cX7_singingsBack : ByteArray := prog_9_method_6_code
def yX7_singingsBack : MethodName := ⟨RX7, "singingsBack", "(JJI)I"⟩
def RX8 : String := "RoundStool$Stool"
def TX8 : u_T := fun k => match k with
  | 0 => ("RoundStool$Stool", "slots", "I", false)
  | 1 => ("RoundStool$Stool", "slip", "I", false)
  | 2 => ("RoundStool$Stool", "dye", "J", false)
  | 3 => ("RoundStool$Stool", "wanted", "J", false)
  | 4 => ("RoundStool$Stool", "nameRows", "[I", true)
  | 5 => ("RoundStool$Stool", "songs", "[LRoundStool$Song;", true)
  | 6 => ("RoundStool$Stool", "cord", "LRoundStool$Cord;", true)
  | 7 => ("RoundStool$Stool", "outsideRows", "[I", true)
  | _ => ("RoundStool$Stool", "laidRows", "[I", true)
def tyX8 : Nat → FieldType := fun k => match k with
  | 0 => .int
  | 1 => .int
  | 2 => .long
  | 3 => .long
  | 4 => .array .int
  | 5 => .array (.object "RoundStool$Song")
  | 6 => .object "RoundStool$Cord"
  | 7 => .array .int
  | _ => .array .int
abbrev wsX80 : List Cond := u_ws RX8 TX8 9
theorem nmX8 : ∀ a, a < 9 → ∀ b, b < 9 → a ≠ b → (TX8 a).2.1 ≠ (TX8 b).2.1 := by decide +kernel
theorem tyX8_ok : ∀ k, k < 9 → parseFieldDescriptor (TX8 k).2.2.1 = some (tyX8 k) := by decide +kernel
abbrev cX8_init : ByteArray := prog_10_method_1_code
def yX8_init : MethodName := ⟨RX8, "<init>", "()V"⟩
abbrev cX8_startAnew : ByteArray := prog_10_method_2_code
def yX8_startAnew : MethodName := ⟨RX8, "startAnew", "(I)V"⟩
abbrev cX8_copy : ByteArray := prog_10_method_3_code
def yX8_copy : MethodName := ⟨RX8, "copy", "(LRoundStool$Stool;)V"⟩
abbrev cX8_seen : ByteArray := prog_10_method_4_code
def yX8_seen : MethodName := ⟨RX8, "seen", "(J)J"⟩
abbrev cX8_singOnce : ByteArray := prog_10_method_5_code
def yX8_singOnce : MethodName := ⟨RX8, "singOnce", "(LRoundStool$Song;)I"⟩
abbrev cX8_addRow : ByteArray := prog_10_method_6_code
def yX8_addRow : MethodName := ⟨RX8, "addRow", "(I)V"⟩
abbrev cX8_rowPart : ByteArray := prog_10_method_7_code
def yX8_rowPart : MethodName := ⟨RX8, "rowPart", "(II)I"⟩
abbrev cX8_rowsComeAgain : ByteArray := prog_10_method_8_code
def yX8_rowsComeAgain : MethodName := ⟨RX8, "rowsComeAgain", "(II)Z"⟩
abbrev cX8_strandsToDye : ByteArray := prog_10_method_9_code
def yX8_strandsToDye : MethodName := ⟨RX8, "strandsToDye", "(LRoundStool$Song;)I"⟩
abbrev cX8_layRows : ByteArray := prog_10_method_10_code
def yX8_layRows : MethodName := ⟨RX8, "layRows", "(LRoundStool$Song;)I"⟩
abbrev cX8_countUnlike : ByteArray := prog_10_method_11_code
def yX8_countUnlike : MethodName := ⟨RX8, "countUnlike", "(J)I"⟩
def RX9 : String := "RoundStool$Tape"
def TX9 : u_T := fun k => match k with
  | 0 => ("RoundStool$Tape", "length", "I", false)
  | 1 => ("RoundStool$Tape", "tokens", "I", false)
  | 2 => ("RoundStool$Tape", "kinds", "[I", true)
  | 3 => ("RoundStool$Tape", "places", "[I", true)
  | 4 => ("RoundStool$Tape", "numbers", "[I", true)
  | _ => ("RoundStool$Tape", "bytes", "[B", true)
def tyX9 : Nat → FieldType := fun k => match k with
  | 0 => .int
  | 1 => .int
  | 2 => .array .int
  | 3 => .array .int
  | 4 => .array .int
  | _ => .array .byte
abbrev wsX90 : List Cond := u_ws RX9 TX9 6
theorem nmX9 : ∀ a, a < 6 → ∀ b, b < 6 → a ≠ b → (TX9 a).2.1 ≠ (TX9 b).2.1 := by decide +kernel
theorem tyX9_ok : ∀ k, k < 6 → parseFieldDescriptor (TX9 k).2.2.1 = some (tyX9 k) := by decide +kernel
abbrev cX9_init : ByteArray := prog_11_method_1_code
def yX9_init : MethodName := ⟨RX9, "<init>", "()V"⟩
abbrev cX9_add : ByteArray := prog_11_method_2_code
def yX9_add : MethodName := ⟨RX9, "add", "(I)V"⟩
abbrev cX9_findTokens : ByteArray := prog_11_method_3_code
def yX9_findTokens : MethodName := ⟨RX9, "findTokens", "()V"⟩
abbrev cX9_addToken : ByteArray := prog_11_method_4_code
def yX9_addToken : MethodName := ⟨RX9, "addToken", "(III)V"⟩
abbrev cX9_endOfRun : ByteArray := prog_11_method_5_code
def yX9_endOfRun : MethodName := ⟨RX9, "endOfRun", "(I)I"⟩
abbrev cX9_kindOfRun : ByteArray := prog_11_method_6_code
def yX9_kindOfRun : MethodName := ⟨RX9, "kindOfRun", "(II)I"⟩
abbrev cX9_kindOfWord : ByteArray := prog_11_method_7_code
def yX9_kindOfWord : MethodName := ⟨RX9, "kindOfWord", "(II)I"⟩
abbrev cX9_isWord : ByteArray := prog_11_method_8_code
def yX9_isWord : MethodName := ⟨RX9, "isWord", "(Ljava/lang/String;II)Z"⟩
abbrev cX9_numberOfRun : ByteArray := prog_11_method_9_code
def yX9_numberOfRun : MethodName := ⟨RX9, "numberOfRun", "(II)I"⟩
abbrev cX9_isBlank : ByteArray := prog_11_method_10_code
def yX9_isBlank : MethodName := ⟨RX9, "isBlank", "(I)Z"⟩
abbrev cX9_isLetter : ByteArray := prog_11_method_11_code
def yX9_isLetter : MethodName := ⟨RX9, "isLetter", "(I)Z"⟩
abbrev cX9_isDigit : ByteArray := prog_11_method_12_code
def yX9_isDigit : MethodName := ⟨RX9, "isDigit", "(I)Z"⟩
def RX10 : String := "RoundStool"
def TX10 : u_T := fun k => match k with
  | 0 => ("RoundStool", "reader", "LRoundStool$Reader;", true)
  | 1 => ("RoundStool", "now", "LRoundStool$Stool;", true)
  | 2 => ("RoundStool", "history", "LRoundStool$History;", true)
  | 3 => ("RoundStool", "lifts", "LRoundStool$Lifts;", true)
  | 4 => ("RoundStool", "beatRows", "LRoundStool$Beats;", true)
  | 5 => ("RoundStool", "oneCord", "LRoundStool$Cord;", true)
  | 6 => ("RoundStool", "otherCord", "LRoundStool$Cord;", true)
  | _ => ("RoundStool", "imageTaken", "LRoundStool$Stool;", false)
def tyX10 : Nat → FieldType := fun k => match k with
  | 0 => .object "RoundStool$Reader"
  | 1 => .object "RoundStool$Stool"
  | 2 => .object "RoundStool$History"
  | 3 => .object "RoundStool$Lifts"
  | 4 => .object "RoundStool$Beats"
  | 5 => .object "RoundStool$Cord"
  | 6 => .object "RoundStool$Cord"
  | _ => .object "RoundStool$Stool"
abbrev wsX100 : List Cond := u_ws RX10 TX10 8
theorem nmX10 : ∀ a, a < 8 → ∀ b, b < 8 → a ≠ b → (TX10 a).2.1 ≠ (TX10 b).2.1 := by decide +kernel
theorem tyX10_ok : ∀ k, k < 8 → parseFieldDescriptor (TX10 k).2.2.1 = some (tyX10 k) := by decide +kernel
abbrev cX10_init : ByteArray := prog_1_method_1_code
def yX10_init : MethodName := ⟨RX10, "<init>", "()V"⟩
abbrev cX10_state : ByteArray := prog_1_method_2_code
def yX10_state : MethodName := ⟨RX10, "state", "(I)I"⟩
abbrev cX10_stool : ByteArray := prog_1_method_3_code
def yX10_stool : MethodName := ⟨RX10, "stool", "(I)Z"⟩
abbrev cX10_colour : ByteArray := prog_1_method_4_code
def yX10_colour : MethodName := ⟨RX10, "colour", "(II)Z"⟩
abbrev cX10_slip : ByteArray := prog_1_method_5_code
def yX10_slip : MethodName := ⟨RX10, "slip", "(I)Z"⟩
abbrev cX10_feed : ByteArray := prog_1_method_6_code
def yX10_feed : MethodName := ⟨RX10, "feed", "(IIIII)I"⟩
abbrev cX10_end : ByteArray := prog_1_method_7_code
def yX10_end : MethodName := ⟨RX10, "end", "(I)Z"⟩
abbrev cX10_text : ByteArray := prog_1_method_8_code
def yX10_text : MethodName := ⟨RX10, "text", "(I)I"⟩
abbrev cX10_fault : ByteArray := prog_1_method_9_code
def yX10_fault : MethodName := ⟨RX10, "fault", "(I)I"⟩
abbrev cX10_sing : ByteArray := prog_1_method_10_code
def yX10_sing : MethodName := ⟨RX10, "sing", "(II)I"⟩
abbrev cX10_at : ByteArray := prog_1_method_11_code
def yX10_at : MethodName := ⟨RX10, "at", "(II)I"⟩
abbrev cX10_of : ByteArray := prog_1_method_12_code
def yX10_of : MethodName := ⟨RX10, "of", "(II)I"⟩
abbrev cX10_over : ByteArray := prog_1_method_13_code
def yX10_over : MethodName := ⟨RX10, "over", "(II)I"⟩
abbrev cX10_outside : ByteArray := prog_1_method_14_code
def yX10_outside : MethodName := ⟨RX10, "outside", "(II)I"⟩
abbrev cX10_back : ByteArray := prog_1_method_15_code
def yX10_back : MethodName := ⟨RX10, "back", "(II)I"⟩
abbrev cX10_where : ByteArray := prog_1_method_16_code
def yX10_where : MethodName := ⟨RX10, "where", "(IIIZ)I"⟩
abbrev cX10_want : ByteArray := prog_1_method_17_code
def yX10_want : MethodName := ⟨RX10, "want", "(II)Z"⟩
abbrev cX10_fewest : ByteArray := prog_1_method_18_code
def yX10_fewest : MethodName := ⟨RX10, "fewest", "(I)I"⟩
abbrev cX10_cut : ByteArray := prog_1_method_19_code
def yX10_cut : MethodName := ⟨RX10, "cut", "(I)I"⟩
abbrev cX10_dropped : ByteArray := prog_1_method_20_code
def yX10_dropped : MethodName := ⟨RX10, "dropped", "(III)I"⟩
abbrev cX10_beats : ByteArray := prog_1_method_21_code
def yX10_beats : MethodName := ⟨RX10, "beats", "(II)I"⟩
abbrev cX10_name : ByteArray := prog_1_method_22_code
def yX10_name : MethodName := ⟨RX10, "name", "(II)Z"⟩
abbrev cX10_lay : ByteArray := prog_1_method_23_code
def yX10_lay : MethodName := ⟨RX10, "lay", "(I)I"⟩
abbrev cX10_pulled : ByteArray := prog_1_method_24_code
def yX10_pulled : MethodName := ⟨RX10, "pulled", "(I)I"⟩
abbrev cX10_loops : ByteArray := prog_1_method_25_code
def yX10_loops : MethodName := ⟨RX10, "loops", "(I)I"⟩
abbrev cX10_alike : ByteArray := prog_1_method_26_code
def yX10_alike : MethodName := ⟨RX10, "alike", "(II)I"⟩
abbrev cX10_period : ByteArray := prog_1_method_27_code
def yX10_period : MethodName := ⟨RX10, "period", "(I)I"⟩
abbrev cX10_undo : ByteArray := prog_1_method_28_code
def yX10_undo : MethodName := ⟨RX10, "undo", "()Z"⟩
abbrev cX10_image : ByteArray := prog_1_method_29_code
def yX10_image : MethodName := ⟨RX10, "image", "(Z)Z"⟩
abbrev cX10_look : ByteArray := prog_1_method_30_code
def yX10_look : MethodName := ⟨RX10, "look", "(I)I"⟩
abbrev cX10_isSlot : ByteArray := prog_1_method_31_code
def yX10_isSlot : MethodName := ⟨RX10, "isSlot", "(I)Z"⟩
abbrev cX10_isColour : ByteArray := prog_1_method_32_code
def yX10_isColour : MethodName := ⟨RX10, "isColour", "(I)Z"⟩
abbrev cX10_isSong : ByteArray := prog_1_method_33_code
def yX10_isSong : MethodName := ⟨RX10, "isSong", "(I)Z"⟩
abbrev cX10_oneOfThree : ByteArray := prog_1_method_34_code
def yX10_oneOfThree : MethodName := ⟨RX10, "oneOfThree", "(IIII)I"⟩
abbrev cX10_fitsWithout : ByteArray := prog_1_method_35_code
def yX10_fitsWithout : MethodName := ⟨RX10, "fitsWithout", "(IJLRoundStool$Song;I)Z"⟩
abbrev cX10_ringOf : ByteArray := prog_1_method_36_code
def yX10_ringOf : MethodName := ⟨RX10, "ringOf", "(I)I"⟩
abbrev cX10_countRings : ByteArray := prog_1_method_37_code
def yX10_countRings : MethodName := ⟨RX10, "countRings", "()I"⟩
def RX11 : String := "RoundStoolModel"
def TX11 : u_T := fun k => match k with
  | 0 => ("RoundStoolModel", "w", "[I", true)
  | 1 => ("RoundStoolModel", "kept", "[I", true)
  | 2 => ("RoundStoolModel", "back", "[I", true)
  | 3 => ("RoundStoolModel", "backMany", "I", false)
  | 4 => ("RoundStoolModel", "hasImage", "Z", false)
  | 5 => ("RoundStoolModel", "fresh", "[I", true)
  | 6 => ("RoundStoolModel", "tape", "[I", true)
  | 7 => ("RoundStoolModel", "made", "I", false)
  | 8 => ("RoundStoolModel", "taped", "I", false)
  | 9 => ("RoundStoolModel", "at", "I", false)
  | 10 => ("RoundStoolModel", "token", "I", false)
  | 11 => ("RoundStoolModel", "tokenAt", "I", false)
  | 12 => ("RoundStoolModel", "value", "I", false)
  | 13 => ("RoundStoolModel", "wrong", "I", false)
  | 14 => ("RoundStoolModel", "wrongAt", "I", false)
  | 15 => ("RoundStoolModel", "faultKind", "I", false)
  | 16 => ("RoundStoolModel", "faultPlace", "I", false)
  | 17 => ("RoundStoolModel", "seat", "[I", true)
  | 18 => ("RoundStoolModel", "other", "[I", true)
  | 19 => ("RoundStoolModel", "found", "[I", true)
  | 20 => ("RoundStoolModel", "far", "[I", true)
  | 21 => ("RoundStoolModel", "queue", "[I", true)
  | 22 => ("RoundStoolModel", "row", "[I", true)
  | 23 => ("RoundStoolModel", "queued", "I", false)
  | 24 => ("RoundStoolModel", "overNow", "[I", true)
  | 25 => ("RoundStoolModel", "overOne", "[I", true)
  | 26 => ("RoundStoolModel", "seatOne", "[I", true)
  | 27 => ("RoundStoolModel", "beat", "[I", true)
  | 28 => ("RoundStoolModel", "busy", "[I", true)
  | _ => ("RoundStoolModel", "laid", "[I", true)
def tyX11 : Nat → FieldType := fun k => match k with
  | 0 => .array .int
  | 1 => .array .int
  | 2 => .array .int
  | 3 => .int
  | 4 => .boolean
  | 5 => .array .int
  | 6 => .array .int
  | 7 => .int
  | 8 => .int
  | 9 => .int
  | 10 => .int
  | 11 => .int
  | 12 => .int
  | 13 => .int
  | 14 => .int
  | 15 => .int
  | 16 => .int
  | 17 => .array .int
  | 18 => .array .int
  | 19 => .array .int
  | 20 => .array .int
  | 21 => .array .int
  | 22 => .array .int
  | 23 => .int
  | 24 => .array .int
  | 25 => .array .int
  | 26 => .array .int
  | 27 => .array .int
  | 28 => .array .int
  | _ => .array .int
abbrev wsX110 : List Cond := u_ws RX11 TX11 30
theorem nmX11 : ∀ a, a < 30 → ∀ b, b < 30 → a ≠ b → (TX11 a).2.1 ≠ (TX11 b).2.1 := by decide +kernel
theorem tyX11_ok : ∀ k, k < 30 → parseFieldDescriptor (TX11 k).2.2.1 = some (tyX11 k) := by decide +kernel
abbrev cX11_init : ByteArray := prog_13_method_1_code
def yX11_init : MethodName := ⟨RX11, "<init>", "()V"⟩
abbrev cX11_begins : ByteArray := prog_13_method_2_code
def yX11_begins : MethodName := ⟨RX11, "begins", "(I)V"⟩
abbrev cX11_isIn : ByteArray := prog_13_method_3_code
def yX11_isIn : MethodName := ⟨RX11, "isIn", "(III)Z"⟩
abbrev cX11_isSlot : ByteArray := prog_13_method_4_code
def yX11_isSlot : MethodName := ⟨RX11, "isSlot", "(I)Z"⟩
abbrev cX11_isSong : ByteArray := prog_13_method_5_code
def yX11_isSong : MethodName := ⟨RX11, "isSong", "(I)Z"⟩
abbrev cX11_state : ByteArray := prog_13_method_6_code
def yX11_state : MethodName := ⟨RX11, "state", "(I)I"⟩
abbrev cX11_draw : ByteArray := prog_13_method_7_code
def yX11_draw : MethodName := ⟨RX11, "draw", "(I)I"⟩
abbrev cX11_stool : ByteArray := prog_13_method_8_code
def yX11_stool : MethodName := ⟨RX11, "stool", "(I)Z"⟩
abbrev cX11_colour : ByteArray := prog_13_method_9_code
def yX11_colour : MethodName := ⟨RX11, "colour", "(II)Z"⟩
abbrev cX11_slip : ByteArray := prog_13_method_10_code
def yX11_slip : MethodName := ⟨RX11, "slip", "(I)Z"⟩
abbrev cX11_feed : ByteArray := prog_13_method_11_code
def yX11_feed : MethodName := ⟨RX11, "feed", "(IIIII)I"⟩
abbrev cX11_end : ByteArray := prog_13_method_12_code
def yX11_end : MethodName := ⟨RX11, "end", "(I)Z"⟩
abbrev cX11_see : ByteArray := prog_13_method_13_code
def yX11_see : MethodName := ⟨RX11, "see", "(I)I"⟩
abbrev cX11_isLetter : ByteArray := prog_13_method_14_code
def yX11_isLetter : MethodName := ⟨RX11, "isLetter", "(I)Z"⟩
abbrev cX11_isDigit : ByteArray := prog_13_method_15_code
def yX11_isDigit : MethodName := ⟨RX11, "isDigit", "(I)Z"⟩
abbrev cX11_is : ByteArray := prog_13_method_16_code
def yX11_is : MethodName := ⟨RX11, "is", "(Ljava/lang/String;)Z"⟩
abbrev cX11_word : ByteArray := prog_13_method_17_code
def yX11_word : MethodName := ⟨RX11, "word", "()I"⟩
abbrev cX11_next0 : ByteArray := prog_13_method_18_code
def yX11_next0 : MethodName := ⟨RX11, "next0", "()V"⟩
abbrev cX11_bad : ByteArray := prog_13_method_19_code
def yX11_bad : MethodName := ⟨RX11, "bad", "(I)Z"⟩
abbrev cX11_need : ByteArray := prog_13_method_20_code
def yX11_need : MethodName := ⟨RX11, "need", "(I)Z"⟩
abbrev cX11_number : ByteArray := prog_13_method_21_code
def yX11_number : MethodName := ⟨RX11, "number", "(II)Z"⟩
abbrev cX11_puts : ByteArray := prog_13_method_22_code
def yX11_puts : MethodName := ⟨RX11, "puts", "(IIII)V"⟩
abbrev cX11_aMove : ByteArray := prog_13_method_23_code
def yX11_aMove : MethodName := ⟨RX11, "aMove", "(I)Z"⟩
abbrev cX11_aTurn : ByteArray := prog_13_method_24_code
def yX11_aTurn : MethodName := ⟨RX11, "aTurn", "()Z"⟩
abbrev cX11_someTimes : ByteArray := prog_13_method_25_code
def yX11_someTimes : MethodName := ⟨RX11, "someTimes", "(I)Z"⟩
abbrev cX11_someSteps : ByteArray := prog_13_method_26_code
def yX11_someSteps : MethodName := ⟨RX11, "someSteps", "(I)Z"⟩
abbrev cX11_text : ByteArray := prog_13_method_27_code
def yX11_text : MethodName := ⟨RX11, "text", "(I)I"⟩
abbrev cX11_fault : ByteArray := prog_13_method_28_code
def yX11_fault : MethodName := ⟨RX11, "fault", "(I)I"⟩
abbrev cX11_ofMove : ByteArray := prog_13_method_29_code
def yX11_ofMove : MethodName := ⟨RX11, "ofMove", "(III)I"⟩
abbrev cX11_sitsNow : ByteArray := prog_13_method_30_code
def yX11_sitsNow : MethodName := ⟨RX11, "sitsNow", "()V"⟩
abbrev cX11_sitsAtFirst : ByteArray := prog_13_method_31_code
def yX11_sitsAtFirst : MethodName := ⟨RX11, "sitsAtFirst", "()V"⟩
abbrev cX11_turns : ByteArray := prog_13_method_32_code
def yX11_turns : MethodName := ⟨RX11, "turns", "(I)V"⟩
abbrev cX11_goesOver : ByteArray := prog_13_method_33_code
def yX11_goesOver : MethodName := ⟨RX11, "goesOver", "(IIZ)V"⟩
abbrev cX11_lifts : ByteArray := prog_13_method_34_code
def yX11_lifts : MethodName := ⟨RX11, "lifts", "(IIZ)V"⟩
abbrev cX11_swaps : ByteArray := prog_13_method_35_code
def yX11_swaps : MethodName := ⟨RX11, "swaps", "(IIZ)V"⟩
abbrev cX11_moves : ByteArray := prog_13_method_36_code
def yX11_moves : MethodName := ⟨RX11, "moves", "(IIZZIZ)I"⟩
abbrev cX11_sings : ByteArray := prog_13_method_37_code
def yX11_sings : MethodName := ⟨RX11, "sings", "(IZI)V"⟩
abbrev cX11_writes : ByteArray := prog_13_method_38_code
def yX11_writes : MethodName := ⟨RX11, "writes", "(I)V"⟩
abbrev cX11_keeps : ByteArray := prog_13_method_39_code
def yX11_keeps : MethodName := ⟨RX11, "keeps", "()V"⟩
abbrev cX11_singsTruly : ByteArray := prog_13_method_40_code
def yX11_singsTruly : MethodName := ⟨RX11, "singsTruly", "(I)I"⟩
abbrev cX11_sing : ByteArray := prog_13_method_41_code
def yX11_sing : MethodName := ⟨RX11, "sing", "(II)I"⟩
abbrev cX11_undo : ByteArray := prog_13_method_42_code
def yX11_undo : MethodName := ⟨RX11, "undo", "()Z"⟩
abbrev cX11_at : ByteArray := prog_13_method_43_code
def yX11_at : MethodName := ⟨RX11, "at", "(II)I"⟩
abbrev cX11_slotOf : ByteArray := prog_13_method_44_code
def yX11_slotOf : MethodName := ⟨RX11, "slotOf", "(I)I"⟩
abbrev cX11_of : ByteArray := prog_13_method_45_code
def yX11_of : MethodName := ⟨RX11, "of", "(II)I"⟩
abbrev cX11_over : ByteArray := prog_13_method_46_code
def yX11_over : MethodName := ⟨RX11, "over", "(II)I"⟩
abbrev cX11_outside : ByteArray := prog_13_method_47_code
def yX11_outside : MethodName := ⟨RX11, "outside", "(II)I"⟩
abbrev cX11_isAsNow : ByteArray := prog_13_method_48_code
def yX11_isAsNow : MethodName := ⟨RX11, "isAsNow", "(I)Z"⟩
abbrev cX11_back : ByteArray := prog_13_method_49_code
def yX11_back : MethodName := ⟨RX11, "back", "(II)I"⟩
abbrev cX11_where : ByteArray := prog_13_method_50_code
def yX11_where : MethodName := ⟨RX11, "where", "(IIIZ)I"⟩
abbrev cX11_want : ByteArray := prog_13_method_51_code
def yX11_want : MethodName := ⟨RX11, "want", "(II)Z"⟩
abbrev cX11_placeOf : ByteArray := prog_13_method_52_code
def yX11_placeOf : MethodName := ⟨RX11, "placeOf", "(I)I"⟩
abbrev cX11_liftedOf : ByteArray := prog_13_method_53_code
def yX11_liftedOf : MethodName := ⟨RX11, "liftedOf", "(III)I"⟩
abbrev cX11_comes : ByteArray := prog_13_method_54_code
def yX11_comes : MethodName := ⟨RX11, "comes", "(II)V"⟩
abbrev cX11_laysFar : ByteArray := prog_13_method_55_code
def yX11_laysFar : MethodName := ⟨RX11, "laysFar", "()V"⟩
abbrev cX11_farOf : ByteArray := prog_13_method_56_code
def yX11_farOf : MethodName := ⟨RX11, "farOf", "(I)I"⟩
abbrev cX11_fewest : ByteArray := prog_13_method_57_code
def yX11_fewest : MethodName := ⟨RX11, "fewest", "(I)I"⟩
abbrev cX11_isWanted : ByteArray := prog_13_method_58_code
def yX11_isWanted : MethodName := ⟨RX11, "isWanted", "()Z"⟩
abbrev cX11_cut : ByteArray := prog_13_method_59_code
def yX11_cut : MethodName := ⟨RX11, "cut", "(I)I"⟩
abbrev cX11_isWantedBehind : ByteArray := prog_13_method_60_code
def yX11_isWantedBehind : MethodName := ⟨RX11, "isWantedBehind", "(IIII)Z"⟩
abbrev cX11_dropped : ByteArray := prog_13_method_61_code
def yX11_dropped : MethodName := ⟨RX11, "dropped", "(III)I"⟩
abbrev cX11_singsAlone : ByteArray := prog_13_method_62_code
def yX11_singsAlone : MethodName := ⟨RX11, "singsAlone", "(I)V"⟩
abbrev cX11_alike : ByteArray := prog_13_method_63_code
def yX11_alike : MethodName := ⟨RX11, "alike", "(II)I"⟩
abbrev cX11_comesAgain : ByteArray := prog_13_method_64_code
def yX11_comesAgain : MethodName := ⟨RX11, "comesAgain", "(II)Z"⟩
abbrev cX11_period : ByteArray := prog_13_method_65_code
def yX11_period : MethodName := ⟨RX11, "period", "(I)I"⟩
abbrev cX11_isWithin : ByteArray := prog_13_method_66_code
def yX11_isWithin : MethodName := ⟨RX11, "isWithin", "(III)Z"⟩
abbrev cX11_doCross : ByteArray := prog_13_method_67_code
def yX11_doCross : MethodName := ⟨RX11, "doCross", "(III)Z"⟩
abbrev cX11_beats : ByteArray := prog_13_method_68_code
def yX11_beats : MethodName := ⟨RX11, "beats", "(II)I"⟩
abbrev cX11_name : ByteArray := prog_13_method_69_code
def yX11_name : MethodName := ⟨RX11, "name", "(II)Z"⟩
abbrev cX11_lay : ByteArray := prog_13_method_70_code
def yX11_lay : MethodName := ⟨RX11, "lay", "(I)I"⟩
abbrev cX11_isFree : ByteArray := prog_13_method_71_code
def yX11_isFree : MethodName := ⟨RX11, "isFree", "(II)Z"⟩
abbrev cX11_pulled : ByteArray := prog_13_method_72_code
def yX11_pulled : MethodName := ⟨RX11, "pulled", "(I)I"⟩
abbrev cX11_ring : ByteArray := prog_13_method_73_code
def yX11_ring : MethodName := ⟨RX11, "ring", "(I)I"⟩
abbrev cX11_isLeast : ByteArray := prog_13_method_74_code
def yX11_isLeast : MethodName := ⟨RX11, "isLeast", "(I)Z"⟩
abbrev cX11_loops : ByteArray := prog_13_method_75_code
def yX11_loops : MethodName := ⟨RX11, "loops", "(I)I"⟩
abbrev cX11_image : ByteArray := prog_13_method_76_code
def yX11_image : MethodName := ⟨RX11, "image", "(Z)Z"⟩
abbrev cX11_look : ByteArray := prog_13_method_77_code
def yX11_look : MethodName := ⟨RX11, "look", "(I)I"⟩
def RJx145de : String := "java/io/Serializable"
def TJx145de : u_T := fun k => match k with
  | _ => ("", "", "", false)
def tyJx145de : Nat → FieldType := fun k => match k with
  | _ => .int
abbrev wsJx145de0 : List Cond := u_ws RJx145de TJx145de 0
theorem nmJx145de : ∀ a, a < 0 → ∀ b, b < 0 → a ≠ b → (TJx145de a).2.1 ≠ (TJx145de b).2.1 := by decide +kernel
theorem tyJx145de_ok : ∀ k, k < 0 → parseFieldDescriptor (TJx145de k).2.2.1 = some (tyJx145de k) := by decide +kernel
def RJx9f9b0 : String := "java/lang/CharSequence"
def TJx9f9b0 : u_T := fun k => match k with
  | _ => ("", "", "", false)
def tyJx9f9b0 : Nat → FieldType := fun k => match k with
  | _ => .int
abbrev wsJx9f9b00 : List Cond := u_ws RJx9f9b0 TJx9f9b0 0
theorem nmJx9f9b0 : ∀ a, a < 0 → ∀ b, b < 0 → a ≠ b → (TJx9f9b0 a).2.1 ≠ (TJx9f9b0 b).2.1 := by decide +kernel
theorem tyJx9f9b0_ok : ∀ k, k < 0 → parseFieldDescriptor (TJx9f9b0 k).2.2.1 = some (tyJx9f9b0 k) := by decide +kernel
def RJxb160c : String := "java/lang/Comparable"
def TJxb160c : u_T := fun k => match k with
  | _ => ("", "", "", false)
def tyJxb160c : Nat → FieldType := fun k => match k with
  | _ => .int
abbrev wsJxb160c0 : List Cond := u_ws RJxb160c TJxb160c 0
theorem nmJxb160c : ∀ a, a < 0 → ∀ b, b < 0 → a ≠ b → (TJxb160c a).2.1 ≠ (TJxb160c b).2.1 := by decide +kernel
theorem tyJxb160c_ok : ∀ k, k < 0 → parseFieldDescriptor (TJxb160c k).2.2.1 = some (tyJxb160c k) := by decide +kernel
def RJ6 : String := "java/lang/Integer"
def TJ6 : u_T := fun k => match k with
  | _ => ("", "", "", false)
def tyJ6 : Nat → FieldType := fun k => match k with
  | _ => .int
abbrev wsJ60 : List Cond := u_ws RJ6 TJ6 0
theorem nmJ6 : ∀ a, a < 0 → ∀ b, b < 0 → a ≠ b → (TJ6 a).2.1 ≠ (TJ6 b).2.1 := by decide +kernel
theorem tyJ6_ok : ∀ k, k < 0 → parseFieldDescriptor (TJ6 k).2.2.1 = some (tyJ6 k) := by decide +kernel
abbrev cJ6_bitCount_0f7a4 : ByteArray := prog_14_method_49_code
def yJ6_bitCount_0f7a4 : MethodName := ⟨RJ6, "bitCount", "(I)I"⟩
def RJ9 : String := "java/lang/Math"
def TJ9 : u_T := fun k => match k with
  | _ => ("", "", "", false)
def tyJ9 : Nat → FieldType := fun k => match k with
  | _ => .int
abbrev wsJ90 : List Cond := u_ws RJ9 TJ9 0
theorem nmJ9 : ∀ a, a < 0 → ∀ b, b < 0 → a ≠ b → (TJ9 a).2.1 ≠ (TJ9 b).2.1 := by decide +kernel
theorem tyJ9_ok : ∀ k, k < 0 → parseFieldDescriptor (TJ9 k).2.2.1 = some (tyJ9 k) := by decide +kernel
abbrev cJ9_max_7cf53 : ByteArray := prog_15_method_65_code
def yJ9_max_7cf53 : MethodName := ⟨RJ9, "max", "(II)I"⟩
abbrev cJ9_min_7cf53 : ByteArray := prog_15_method_69_code
def yJ9_min_7cf53 : MethodName := ⟨RJ9, "min", "(II)I"⟩
def RJ0 : String := "java/lang/String"
def TJ0 : u_T := fun k => match k with
  | _ => ("", "", "", false)
def tyJ0 : Nat → FieldType := fun k => match k with
  | _ => .int
abbrev wsJ00 : List Cond := u_ws RJ0 TJ0 0
theorem nmJ0 : ∀ a, a < 0 → ∀ b, b < 0 → a ≠ b → (TJ0 a).2.1 ≠ (TJ0 b).2.1 := by decide +kernel
theorem tyJ0_ok : ∀ k, k < 0 → parseFieldDescriptor (TJ0 k).2.2.1 = some (tyJ0 k) := by decide +kernel
abbrev cJ0_length_8abf5 : ByteArray := prog_16_method_54_code
def yJ0_length_8abf5 : MethodName := ⟨RJ0, "length", "()I"⟩
abbrev cJ0_charAt_5068e : ByteArray := prog_16_method_56_code
def yJ0_charAt_5068e : MethodName := ⟨RJ0, "charAt", "(I)C"⟩
abbrev cJ0_coder_7d493 : ByteArray := prog_16_method_152_code
def yJ0_coder_7d493 : MethodName := ⟨RJ0, "coder", "()B"⟩
abbrev cJ0_isLatin1_aae02 : ByteArray := prog_16_method_154_code
def yJ0_isLatin1_aae02 : MethodName := ⟨RJ0, "isLatin1", "()Z"⟩
abbrev cJ0_checkIndex_df160 : ByteArray := prog_16_method_155_code
def yJ0_checkIndex_df160 : MethodName := ⟨RJ0, "checkIndex", "(II)V"⟩
def RJ1 : String := "java/lang/StringLatin1"
def TJ1 : u_T := fun k => match k with
  | _ => ("", "", "", false)
def tyJ1 : Nat → FieldType := fun k => match k with
  | _ => .int
abbrev wsJ10 : List Cond := u_ws RJ1 TJ1 0
theorem nmJ1 : ∀ a, a < 0 → ∀ b, b < 0 → a ≠ b → (TJ1 a).2.1 ≠ (TJ1 b).2.1 := by decide +kernel
theorem tyJ1_ok : ∀ k, k < 0 → parseFieldDescriptor (TJ1 k).2.2.1 = some (tyJ1 k) := by decide +kernel
abbrev cJ1_charAt_3b067 : ByteArray := prog_17_method_2_code
def yJ1_charAt_3b067 : MethodName := ⟨RJ1, "charAt", "([BI)C"⟩
def RJ2 : String := "java/lang/StringUTF16"
def TJ2 : u_T := fun k => match k with
  | _ => ("", "", "", false)
def tyJ2 : Nat → FieldType := fun k => match k with
  | _ => .int
abbrev wsJ20 : List Cond := u_ws RJ2 TJ2 0
theorem nmJ2 : ∀ a, a < 0 → ∀ b, b < 0 → a ≠ b → (TJ2 a).2.1 ≠ (TJ2 b).2.1 := by decide +kernel
theorem tyJ2_ok : ∀ k, k < 0 → parseFieldDescriptor (TJ2 k).2.2.1 = some (tyJ2 k) := by decide +kernel
abbrev cJ2_getChar_3b067 : ByteArray := prog_18_method_5_code
def yJ2_getChar_3b067 : MethodName := ⟨RJ2, "getChar", "([BI)C"⟩
abbrev cJ2_length_9d52b : ByteArray := prog_18_method_6_code
def yJ2_length_9d52b : MethodName := ⟨RJ2, "length", "([B)I"⟩
abbrev cJ2_charAt_3b067 : ByteArray := prog_18_method_83_code
def yJ2_charAt_3b067 : MethodName := ⟨RJ2, "charAt", "([BI)C"⟩
abbrev cJ2_checkIndex_2214a : ByteArray := prog_18_method_91_code
def yJ2_checkIndex_2214a : MethodName := ⟨RJ2, "checkIndex", "(I[B)V"⟩
def RJ10 : String := "java/lang/System"
def TJ10 : u_T := fun k => match k with
  | _ => ("", "", "", false)
def tyJ10 : Nat → FieldType := fun k => match k with
  | _ => .int
abbrev wsJ100 : List Cond := u_ws RJ10 TJ10 0
theorem nmJ10 : ∀ a, a < 0 → ∀ b, b < 0 → a ≠ b → (TJ10 a).2.1 ≠ (TJ10 b).2.1 := by decide +kernel
theorem tyJ10_ok : ∀ k, k < 0 → parseFieldDescriptor (TJ10 k).2.2.1 = some (tyJ10 k) := by decide +kernel
def RJxfd54e : String := "java/lang/constant/Constable"
def TJxfd54e : u_T := fun k => match k with
  | _ => ("", "", "", false)
def tyJxfd54e : Nat → FieldType := fun k => match k with
  | _ => .int
abbrev wsJxfd54e0 : List Cond := u_ws RJxfd54e TJxfd54e 0
theorem nmJxfd54e : ∀ a, a < 0 → ∀ b, b < 0 → a ≠ b → (TJxfd54e a).2.1 ≠ (TJxfd54e b).2.1 := by decide +kernel
theorem tyJxfd54e_ok : ∀ k, k < 0 → parseFieldDescriptor (TJxfd54e k).2.2.1 = some (tyJxfd54e k) := by decide +kernel
def RJx3cf43 : String := "java/lang/constant/ConstantDesc"
def TJx3cf43 : u_T := fun k => match k with
  | _ => ("", "", "", false)
def tyJx3cf43 : Nat → FieldType := fun k => match k with
  | _ => .int
abbrev wsJx3cf430 : List Cond := u_ws RJx3cf43 TJx3cf43 0
theorem nmJx3cf43 : ∀ a, a < 0 → ∀ b, b < 0 → a ≠ b → (TJx3cf43 a).2.1 ≠ (TJx3cf43 b).2.1 := by decide +kernel
theorem tyJx3cf43_ok : ∀ k, k < 0 → parseFieldDescriptor (TJx3cf43 k).2.2.1 = some (tyJx3cf43 k) := by decide +kernel
def RJ7 : String := "java/util/Arrays"
def TJ7 : u_T := fun k => match k with
  | _ => ("", "", "", false)
def tyJ7 : Nat → FieldType := fun k => match k with
  | _ => .int
abbrev wsJ70 : List Cond := u_ws RJ7 TJ7 0
theorem nmJ7 : ∀ a, a < 0 → ∀ b, b < 0 → a ≠ b → (TJ7 a).2.1 ≠ (TJ7 b).2.1 := by decide +kernel
theorem tyJ7_ok : ∀ k, k < 0 → parseFieldDescriptor (TJ7 k).2.2.1 = some (tyJ7 k) := by decide +kernel
abbrev cJ7_fill_53178 : ByteArray := prog_20_method_103_code
def yJ7_fill_53178 : MethodName := ⟨RJ7, "fill", "([II)V"⟩
def RJ3 : String := "jdk/internal/util/Preconditions"
def TJ3 : u_T := fun k => match k with
  | _ => ("", "", "", false)
def tyJ3 : Nat → FieldType := fun k => match k with
  | _ => .int
abbrev wsJ30 : List Cond := u_ws RJ3 TJ3 0
theorem nmJ3 : ∀ a, a < 0 → ∀ b, b < 0 → a ≠ b → (TJ3 a).2.1 ≠ (TJ3 b).2.1 := by decide +kernel
theorem tyJ3_ok : ∀ k, k < 0 → parseFieldDescriptor (TJ3 k).2.2.1 = some (tyJ3 k) := by decide +kernel
abbrev cJ3_checkIndex_8e157 : ByteArray := prog_21_method_11_code
def yJ3_checkIndex_8e157 : MethodName := ⟨RJ3, "checkIndex", "(IILjava/util/function/BiFunction;)I"⟩
def RL : String := "RoundStoolLaw"
abbrev cL_law : ByteArray := code
def yL_law : MethodName := ⟨RL, "law", "([I)Z"⟩
end
section
-- THE SMALL MACHINE: values, a heap of rows, one step, runs; written out by gen03.py
abbrev Mth : Type := Nat × Bool × MethodName × ByteArray × Nat × Option FieldType
abbrev Hp : Type := (Nat → Nat → Int32) × (Nat → Nat → Int64) × (Nat → Nat → Option Nat) × List (Nat × Nat)
def clsN (k : Nat) : String := [RX0, RX1, RX2, RX3, RX4, RX5, RX6, RX7, RX8, RX9, RX10, RX11, RL, RJ6, RJ7].getD k ""
def MX0_earliest : Mth := (0, false, yX0_earliest, cX0_earliest, 7, (some .int))
def MX0_init : Mth := (0, true, yX0_init, cX0_init, 1, none)
def MX0_needed : Mth := (0, false, yX0_needed, cX0_needed, 6, (some .int))
def MX1_copy : Mth := (1, false, yX1_copy, cX1_copy, 2, none)
def MX1_countOver : Mth := (1, false, yX1_countOver, cX1_countOver, 7, none)
def MX1_draw : Mth := (1, false, yX1_draw, cX1_draw, 2, (some .int))
def MX1_init : Mth := (1, true, yX1_init, cX1_init, 1, none)
def MX1_isCovered : Mth := (1, false, yX1_isCovered, cX1_isCovered, 5, (some .boolean))
def MX1_isOverLike : Mth := (1, false, yX1_isOverLike, cX1_isOverLike, 3, (some .boolean))
def MX1_leastFree : Mth := (1, false, yX1_leastFree, cX1_leastFree, 4, (some .int))
def MX1_make : Mth := (1, false, yX1_make, cX1_make, 6, (some .boolean))
def MX1_singInThought : Mth := (1, false, yX1_singInThought, cX1_singInThought, 6, none)
def MX1_startAnew : Mth := (1, false, yX1_startAnew, cX1_startAnew, 2, none)
def MX1_timesOver : Mth := (1, false, yX1_timesOver, cX1_timesOver, 3, (some .int))
def MX2_forget : Mth := (2, false, yX2_forget, cX2_forget, 1, none)
def MX2_goBack : Mth := (2, false, yX2_goBack, cX2_goBack, 2, (some .boolean))
def MX2_init : Mth := (2, true, yX2_init, cX2_init, 2, none)
def MX2_remember : Mth := (2, false, yX2_remember, cX2_remember, 2, none)
def MX3_countOf : Mth := (3, false, yX3_countOf, cX3_countOf, 6, (some .int))
def MX3_firstOf : Mth := (3, false, yX3_firstOf, cX3_firstOf, 9, (some .int))
def MX3_init : Mth := (3, true, yX3_init, cX3_init, 1, none)
def MX3_isSameColours : Mth := (3, false, yX3_isSameColours, cX3_isSameColours, 6, (some .boolean))
def MX3_longestCommon : Mth := (3, false, yX3_longestCommon, cX3_longestCommon, 9, (some .int))
def MX3_needed : Mth := (3, false, yX3_needed, cX3_needed, 6, (some .int))
def MX4_asked : Mth := (4, false, yX4_asked, cX4_asked, 1, (some .int))
def MX4_cross : Mth := (4, false, yX4_cross, cX4_cross, 6, (some .boolean))
def MX4_findsColour : Mth := (4, false, yX4_findsColour, cX4_findsColour, 6, (some .boolean))
def MX4_from : Mth := (4, false, yX4_from, cX4_from, 1, (some .int))
def MX4_isBetween : Mth := (4, false, yX4_isBetween, cX4_isBetween, 3, (some .boolean))
def MX4_isTurn : Mth := (4, false, yX4_isTurn, cX4_isTurn, 1, (some .boolean))
def MX4_kind : Mth := (4, false, yX4_kind, cX4_kind, 1, (some .int))
def MX4_madeOn : Mth := (4, false, yX4_madeOn, cX4_madeOn, 8, (some .long))
def MX4_mirrored : Mth := (4, false, yX4_mirrored, cX4_mirrored, 4, (some .int))
def MX4_packed : Mth := (4, false, yX4_packed, cX4_packed, 4, (some .int))
def MX4_to : Mth := (4, false, yX4_to, cX4_to, 1, (some .int))
def MX4_withoutAsking : Mth := (4, false, yX4_withoutAsking, cX4_withoutAsking, 1, (some .int))
def MX5_append : Mth := (5, false, yX5_append, cX5_append, 2, none)
def MX5_fail : Mth := (5, false, yX5_fail, cX5_fail, 2, (some .boolean))
def MX5_forgetFault : Mth := (5, false, yX5_forgetFault, cX5_forgetFault, 1, none)
def MX5_init : Mth := (5, true, yX5_init, cX5_init, 1, none)
def MX5_read : Mth := (5, false, yX5_read, cX5_read, 4, (some .boolean))
def MX5_readAsked : Mth := (5, false, yX5_readAsked, cX5_readAsked, 5, (some .boolean))
def MX5_readClosing : Mth := (5, false, yX5_readClosing, cX5_readClosing, 4, (some .boolean))
def MX5_readEnd : Mth := (5, false, yX5_readEnd, cX5_readEnd, 1, (some .boolean))
def MX5_readLift : Mth := (5, false, yX5_readLift, cX5_readLift, 2, (some .boolean))
def MX5_readNumber : Mth := (5, false, yX5_readNumber, cX5_readNumber, 3, (some .boolean))
def MX5_readSwap : Mth := (5, false, yX5_readSwap, cX5_readSwap, 2, (some .boolean))
def MX5_readTimes : Mth := (5, false, yX5_readTimes, cX5_readTimes, 1, (some .boolean))
def MX5_readToken : Mth := (5, false, yX5_readToken, cX5_readToken, 2, (some .boolean))
def MX5_readTurn : Mth := (5, false, yX5_readTurn, cX5_readTurn, 2, (some .boolean))
def MX5_take : Mth := (5, false, yX5_take, cX5_take, 1, none)
def MX6_get : Mth := (6, false, yX6_get, cX6_get, 3, (some .int))
def MX6_home : Mth := (6, false, yX6_home, cX6_home, 1, (some .long))
def MX6_lifted : Mth := (6, false, yX6_lifted, cX6_lifted, 14, (some .long))
def MX6_lowest : Mth := (6, false, yX6_lowest, cX6_lowest, 1, (some .long))
def MX6_slotWith : Mth := (6, false, yX6_slotWith, cX6_slotWith, 5, (some .int))
def MX6_swapped : Mth := (6, false, yX6_swapped, cX6_swapped, 4, (some .long))
def MX6_turned : Mth := (6, false, yX6_turned, cX6_turned, 5, (some .long))
def MX6_with : Mth := (6, false, yX6_with, cX6_with, 6, (some .long))
def MX7_add : Mth := (7, false, yX7_add, cX7_add, 2, (some .boolean))
def MX7_copy : Mth := (7, false, yX7_copy, cX7_copy, 2, none)
def MX7_init : Mth := (7, true, yX7_init, cX7_init, 1, none)
def MX7_mirroredFrom : Mth := (7, false, yX7_mirroredFrom, cX7_mirroredFrom, 9, (some .long))
def MX7_singingsBack : Mth := (7, false, yX7_singingsBack, cX7_singingsBack, 11, (some .int))
def MX7_sungFrom : Mth := (7, false, yX7_sungFrom, cX7_sungFrom, 11, (some .long))
def MX8_addRow : Mth := (8, false, yX8_addRow, cX8_addRow, 2, none)
def MX8_copy : Mth := (8, false, yX8_copy, cX8_copy, 3, none)
def MX8_countUnlike : Mth := (8, false, yX8_countUnlike, cX8_countUnlike, 5, (some .int))
def MX8_init : Mth := (8, true, yX8_init, cX8_init, 2, none)
def MX8_layRows : Mth := (8, false, yX8_layRows, cX8_layRows, 8, (some .int))
def MX8_rowPart : Mth := (8, false, yX8_rowPart, cX8_rowPart, 3, (some .int))
def MX8_rowsComeAgain : Mth := (8, false, yX8_rowsComeAgain, cX8_rowsComeAgain, 4, (some .boolean))
def MX8_seen : Mth := (8, false, yX8_seen, cX8_seen, 6, (some .long))
def MX8_singOnce : Mth := (8, false, yX8_singOnce, cX8_singOnce, 7, (some .int))
def MX8_startAnew : Mth := (8, false, yX8_startAnew, cX8_startAnew, 3, none)
def MX8_strandsToDye : Mth := (8, false, yX8_strandsToDye, cX8_strandsToDye, 10, (some .int))
def MX9_add : Mth := (9, false, yX9_add, cX9_add, 3, none)
def MX9_addToken : Mth := (9, false, yX9_addToken, cX9_addToken, 4, none)
def MX9_endOfRun : Mth := (9, false, yX9_endOfRun, cX9_endOfRun, 3, (some .int))
def MX9_findTokens : Mth := (9, false, yX9_findTokens, cX9_findTokens, 3, none)
def MX9_init : Mth := (9, true, yX9_init, cX9_init, 1, none)
def MX9_isBlank : Mth := (9, false, yX9_isBlank, cX9_isBlank, 1, (some .boolean))
def MX9_isDigit : Mth := (9, false, yX9_isDigit, cX9_isDigit, 1, (some .boolean))
def MX9_isLetter : Mth := (9, false, yX9_isLetter, cX9_isLetter, 1, (some .boolean))
def MX9_isWord : Mth := (9, false, yX9_isWord, cX9_isWord, 5, (some .boolean))
def MX9_kindOfRun : Mth := (9, false, yX9_kindOfRun, cX9_kindOfRun, 3, (some .int))
def MX9_kindOfWord : Mth := (9, false, yX9_kindOfWord, cX9_kindOfWord, 3, (some .int))
def MX9_numberOfRun : Mth := (9, false, yX9_numberOfRun, cX9_numberOfRun, 5, (some .int))
def MX10_alike : Mth := (10, false, yX10_alike, cX10_alike, 3, (some .int))
def MX10_at : Mth := (10, false, yX10_at, cX10_at, 4, (some .int))
def MX10_back : Mth := (10, false, yX10_back, cX10_back, 3, (some .int))
def MX10_beats : Mth := (10, false, yX10_beats, cX10_beats, 3, (some .int))
def MX10_colour : Mth := (10, false, yX10_colour, cX10_colour, 3, (some .boolean))
def MX10_countRings : Mth := (10, false, yX10_countRings, cX10_countRings, 4, (some .int))
def MX10_cut : Mth := (10, false, yX10_cut, cX10_cut, 9, (some .int))
def MX10_dropped : Mth := (10, false, yX10_dropped, cX10_dropped, 12, (some .int))
def MX10_end : Mth := (10, false, yX10_end, cX10_end, 2, (some .boolean))
def MX10_fault : Mth := (10, false, yX10_fault, cX10_fault, 2, (some .int))
def MX10_feed : Mth := (10, false, yX10_feed, cX10_feed, 7, (some .int))
def MX10_fewest : Mth := (10, false, yX10_fewest, cX10_fewest, 6, (some .int))
def MX10_fitsWithout : Mth := (10, false, yX10_fitsWithout, cX10_fitsWithout, 9, (some .boolean))
def MX10_image : Mth := (10, false, yX10_image, cX10_image, 2, (some .boolean))
def MX10_init : Mth := (10, true, yX10_init, cX10_init, 1, none)
def MX10_isColour : Mth := (10, false, yX10_isColour, cX10_isColour, 1, (some .boolean))
def MX10_isSlot : Mth := (10, false, yX10_isSlot, cX10_isSlot, 2, (some .boolean))
def MX10_isSong : Mth := (10, false, yX10_isSong, cX10_isSong, 1, (some .boolean))
def MX10_lay : Mth := (10, false, yX10_lay, cX10_lay, 2, (some .int))
def MX10_look : Mth := (10, false, yX10_look, cX10_look, 2, (some .int))
def MX10_loops : Mth := (10, false, yX10_loops, cX10_loops, 2, (some .int))
def MX10_name : Mth := (10, false, yX10_name, cX10_name, 3, (some .boolean))
def MX10_of : Mth := (10, false, yX10_of, cX10_of, 3, (some .int))
def MX10_oneOfThree : Mth := (10, false, yX10_oneOfThree, cX10_oneOfThree, 4, (some .int))
def MX10_outside : Mth := (10, false, yX10_outside, cX10_outside, 3, (some .int))
def MX10_over : Mth := (10, false, yX10_over, cX10_over, 3, (some .int))
def MX10_period : Mth := (10, false, yX10_period, cX10_period, 3, (some .int))
def MX10_pulled : Mth := (10, false, yX10_pulled, cX10_pulled, 6, (some .int))
def MX10_ringOf : Mth := (10, false, yX10_ringOf, cX10_ringOf, 5, (some .int))
def MX10_sing : Mth := (10, false, yX10_sing, cX10_sing, 5, (some .int))
def MX10_slip : Mth := (10, false, yX10_slip, cX10_slip, 2, (some .boolean))
def MX10_state : Mth := (10, false, yX10_state, cX10_state, 3, (some .int))
def MX10_stool : Mth := (10, false, yX10_stool, cX10_stool, 2, (some .boolean))
def MX10_text : Mth := (10, false, yX10_text, cX10_text, 3, (some .int))
def MX10_undo : Mth := (10, false, yX10_undo, cX10_undo, 1, (some .boolean))
def MX10_want : Mth := (10, false, yX10_want, cX10_want, 3, (some .boolean))
def MX10_where : Mth := (10, false, yX10_where, cX10_where, 9, (some .int))
def MX11_aMove : Mth := (11, false, yX11_aMove, cX11_aMove, 5, (some .boolean))
def MX11_aTurn : Mth := (11, false, yX11_aTurn, cX11_aTurn, 2, (some .boolean))
def MX11_alike : Mth := (11, false, yX11_alike, cX11_alike, 6, (some .int))
def MX11_at : Mth := (11, false, yX11_at, cX11_at, 3, (some .int))
def MX11_back : Mth := (11, false, yX11_back, cX11_back, 4, (some .int))
def MX11_bad : Mth := (11, false, yX11_bad, cX11_bad, 2, (some .boolean))
def MX11_beats : Mth := (11, false, yX11_beats, cX11_beats, 7, (some .int))
def MX11_begins : Mth := (11, false, yX11_begins, cX11_begins, 4, none)
def MX11_colour : Mth := (11, false, yX11_colour, cX11_colour, 3, (some .boolean))
def MX11_comes : Mth := (11, false, yX11_comes, cX11_comes, 4, none)
def MX11_comesAgain : Mth := (11, false, yX11_comesAgain, cX11_comesAgain, 4, (some .boolean))
def MX11_cut : Mth := (11, false, yX11_cut, cX11_cut, 7, (some .int))
def MX11_doCross : Mth := (11, false, yX11_doCross, cX11_doCross, 8, (some .boolean))
def MX11_draw : Mth := (11, false, yX11_draw, cX11_draw, 2, (some .int))
def MX11_dropped : Mth := (11, false, yX11_dropped, cX11_dropped, 9, (some .int))
def MX11_end : Mth := (11, false, yX11_end, cX11_end, 2, (some .boolean))
def MX11_farOf : Mth := (11, false, yX11_farOf, cX11_farOf, 3, (some .int))
def MX11_fault : Mth := (11, false, yX11_fault, cX11_fault, 2, (some .int))
def MX11_feed : Mth := (11, false, yX11_feed, cX11_feed, 8, (some .int))
def MX11_fewest : Mth := (11, false, yX11_fewest, cX11_fewest, 7, (some .int))
def MX11_goesOver : Mth := (11, false, yX11_goesOver, cX11_goesOver, 4, none)
def MX11_image : Mth := (11, false, yX11_image, cX11_image, 3, (some .boolean))
def MX11_init : Mth := (11, true, yX11_init, cX11_init, 1, none)
def MX11_is : Mth := (11, false, yX11_is, cX11_is, 4, (some .boolean))
def MX11_isAsNow : Mth := (11, false, yX11_isAsNow, cX11_isAsNow, 4, (some .boolean))
def MX11_isDigit : Mth := (11, false, yX11_isDigit, cX11_isDigit, 1, (some .boolean))
def MX11_isFree : Mth := (11, false, yX11_isFree, cX11_isFree, 4, (some .boolean))
def MX11_isIn : Mth := (11, false, yX11_isIn, cX11_isIn, 3, (some .boolean))
def MX11_isLeast : Mth := (11, false, yX11_isLeast, cX11_isLeast, 3, (some .boolean))
def MX11_isLetter : Mth := (11, false, yX11_isLetter, cX11_isLetter, 1, (some .boolean))
def MX11_isSlot : Mth := (11, false, yX11_isSlot, cX11_isSlot, 2, (some .boolean))
def MX11_isSong : Mth := (11, false, yX11_isSong, cX11_isSong, 1, (some .boolean))
def MX11_isWanted : Mth := (11, false, yX11_isWanted, cX11_isWanted, 2, (some .boolean))
def MX11_isWantedBehind : Mth := (11, false, yX11_isWantedBehind, cX11_isWantedBehind, 6, (some .boolean))
def MX11_isWithin : Mth := (11, false, yX11_isWithin, cX11_isWithin, 3, (some .boolean))
def MX11_keeps : Mth := (11, false, yX11_keeps, cX11_keeps, 2, none)
def MX11_lay : Mth := (11, false, yX11_lay, cX11_lay, 8, (some .int))
def MX11_laysFar : Mth := (11, false, yX11_laysFar, cX11_laysFar, 7, none)
def MX11_liftedOf : Mth := (11, false, yX11_liftedOf, cX11_liftedOf, 10, (some .int))
def MX11_lifts : Mth := (11, false, yX11_lifts, cX11_lifts, 7, none)
def MX11_look : Mth := (11, false, yX11_look, cX11_look, 2, (some .int))
def MX11_loops : Mth := (11, false, yX11_loops, cX11_loops, 4, (some .int))
def MX11_moves : Mth := (11, false, yX11_moves, cX11_moves, 12, (some .int))
def MX11_name : Mth := (11, false, yX11_name, cX11_name, 3, (some .boolean))
def MX11_need : Mth := (11, false, yX11_need, cX11_need, 2, (some .boolean))
def MX11_next0 : Mth := (11, false, yX11_next0, cX11_next0, 3, none)
def MX11_number : Mth := (11, false, yX11_number, cX11_number, 3, (some .boolean))
def MX11_of : Mth := (11, false, yX11_of, cX11_of, 3, (some .int))
def MX11_ofMove : Mth := (11, false, yX11_ofMove, cX11_ofMove, 4, (some .int))
def MX11_outside : Mth := (11, false, yX11_outside, cX11_outside, 3, (some .int))
def MX11_over : Mth := (11, false, yX11_over, cX11_over, 3, (some .int))
def MX11_period : Mth := (11, false, yX11_period, cX11_period, 3, (some .int))
def MX11_placeOf : Mth := (11, false, yX11_placeOf, cX11_placeOf, 3, (some .int))
def MX11_pulled : Mth := (11, false, yX11_pulled, cX11_pulled, 5, (some .int))
def MX11_puts : Mth := (11, false, yX11_puts, cX11_puts, 5, none)
def MX11_ring : Mth := (11, false, yX11_ring, cX11_ring, 4, (some .int))
def MX11_see : Mth := (11, false, yX11_see, cX11_see, 2, (some .int))
def MX11_sing : Mth := (11, false, yX11_sing, cX11_sing, 5, (some .int))
def MX11_sings : Mth := (11, false, yX11_sings, cX11_sings, 5, none)
def MX11_singsAlone : Mth := (11, false, yX11_singsAlone, cX11_singsAlone, 3, none)
def MX11_singsTruly : Mth := (11, false, yX11_singsTruly, cX11_singsTruly, 6, (some .int))
def MX11_sitsAtFirst : Mth := (11, false, yX11_sitsAtFirst, cX11_sitsAtFirst, 2, none)
def MX11_sitsNow : Mth := (11, false, yX11_sitsNow, cX11_sitsNow, 2, none)
def MX11_slip : Mth := (11, false, yX11_slip, cX11_slip, 2, (some .boolean))
def MX11_slotOf : Mth := (11, false, yX11_slotOf, cX11_slotOf, 3, (some .int))
def MX11_someSteps : Mth := (11, false, yX11_someSteps, cX11_someSteps, 3, (some .boolean))
def MX11_someTimes : Mth := (11, false, yX11_someTimes, cX11_someTimes, 7, (some .boolean))
def MX11_state : Mth := (11, false, yX11_state, cX11_state, 3, (some .int))
def MX11_stool : Mth := (11, false, yX11_stool, cX11_stool, 2, (some .boolean))
def MX11_swaps : Mth := (11, false, yX11_swaps, cX11_swaps, 5, none)
def MX11_text : Mth := (11, false, yX11_text, cX11_text, 4, (some .int))
def MX11_turns : Mth := (11, false, yX11_turns, cX11_turns, 4, none)
def MX11_undo : Mth := (11, false, yX11_undo, cX11_undo, 2, (some .boolean))
def MX11_want : Mth := (11, false, yX11_want, cX11_want, 3, (some .boolean))
def MX11_where : Mth := (11, false, yX11_where, cX11_where, 6, (some .int))
def MX11_word : Mth := (11, false, yX11_word, cX11_word, 1, (some .int))
def MX11_writes : Mth := (11, false, yX11_writes, cX11_writes, 2, none)
def ML_law : Mth := (12, false, yL_law, cL_law, 4, (some .boolean))
def MJ6_bitCount_0f7a4 : Mth := (13, false, yJ6_bitCount_0f7a4, cJ6_bitCount_0f7a4, 1, (some .int))
def MJ7_fill_53178 : Mth := (14, false, yJ7_fill_53178, cJ7_fill_53178, 4, none)
def mlT : List ((Nat × Nat) × (Nat × Nat × Nat × Mth)) := [
  ((0, 3), (10, 0, 0, MX6_get)),
  ((0, 18), (0, 2, 0, MJ7_fill_53178)),
  ((0, 33), (0, 1, 0, MX4_isTurn)),
  ((0, 39), (1, 3, 10, MX0_earliest)),
  ((0, 43), (11, 2, 0, MX6_get)),
  ((0, 49), (0, 2, 0, MX4_cross)),
  ((1, 3), (10, 0, 0, MX6_get)),
  ((1, 9), (0, 1, 0, MX6_home)),
  ((1, 38), (0, 2, 0, MJ7_fill_53178)),
  ((1, 44), (13, 5, 0, MX6_get)),
  ((1, 60), (1, 3, 11, MX1_make)),
  ((1, 64), (0, 1, 0, MX4_isTurn)),
  ((1, 70), (0, 3, 0, MX4_findsColour)),
  ((1, 74), (1, 1, 11, MX1_countOver)),
  ((1, 78), (0, 1, 0, MX4_from)),
  ((1, 82), (0, 2, 0, MX6_get)),
  ((1, 86), (0, 4, 0, MX4_madeOn)),
  ((1, 90), (0, 1, 0, MX4_to)),
  ((1, 93), (0, 1, 0, MX4_kind)),
  ((1, 96), (12, 2, 0, MX6_get)),
  ((1, 102), (11, 2, 0, MX6_get)),
  ((1, 105), (1, 3, 11, MX1_isCovered)),
  ((1, 109), (1, 2, 11, MX1_timesOver)),
  ((2, 3), (10, 0, 0, MX6_get)),
  ((2, 24), (3, 0, 0, MX1_init)),
  ((2, 25), (1, 1, 11, MX1_copy)),
  ((2, 29), (12, 2, 0, MX6_get)),
  ((3, 3), (10, 0, 0, MX6_get)),
  ((3, 15), (0, 3, 0, MX3_isSameColours)),
  ((3, 19), (1, 3, 13, MX3_longestCommon)),
  ((3, 23), (0, 3, 0, MX6_lifted)),
  ((3, 29), (1, 3, 13, MX3_needed)),
  ((3, 34), (0, 4, 0, MX4_packed)),
  ((3, 38), (0, 3, 0, MX3_countOf)),
  ((3, 42), (0, 2, 0, MX6_get)),
  ((3, 46), (11, 2, 0, MX6_get)),
  ((4, 11), (0, 1, 0, MX4_from)),
  ((4, 15), (0, 1, 0, MX4_kind)),
  ((4, 18), (0, 4, 0, MX4_packed)),
  ((4, 22), (0, 1, 0, MX4_to)),
  ((4, 25), (0, 1, 0, MX4_asked)),
  ((4, 28), (0, 2, 0, MX6_get)),
  ((4, 34), (0, 1, 0, MX4_isTurn)),
  ((4, 38), (0, 3, 0, MX6_turned)),
  ((4, 42), (0, 3, 0, MX4_findsColour)),
  ((4, 46), (0, 3, 0, MX6_lifted)),
  ((4, 49), (0, 3, 0, MX6_swapped)),
  ((4, 52), (0, 3, 0, MX4_isBetween)),
  ((4, 56), (12, 2, 0, MX6_get)),
  ((4, 62), (11, 2, 0, MX6_get)),
  ((5, 3), (10, 0, 0, MX6_get)),
  ((5, 20), (3, 0, 0, MX9_init)),
  ((5, 27), (3, 0, 0, MX7_init)),
  ((5, 58), (1, 0, 17, MX9_findTokens)),
  ((5, 67), (1, 0, 14, MX5_take)),
  ((5, 70), (1, 0, 14, MX5_readEnd)),
  ((5, 74), (1, 0, 14, MX5_readLift)),
  ((5, 77), (1, 0, 14, MX5_readSwap)),
  ((5, 80), (1, 0, 14, MX5_readTurn)),
  ((5, 83), (1, 0, 14, MX5_readTimes)),
  ((5, 86), (1, 0, 14, MX5_readClosing)),
  ((5, 89), (1, 1, 14, MX5_fail)),
  ((5, 102), (1, 1, 14, MX5_readToken)),
  ((5, 105), (1, 2, 14, MX5_readNumber)),
  ((5, 111), (1, 3, 14, MX5_readAsked)),
  ((5, 115), (0, 4, 0, MX4_packed)),
  ((5, 119), (1, 1, 14, MX5_append)),
  ((5, 126), (1, 1, 15, MX7_add)),
  ((6, 13), (0, 1, 0, MX6_lowest)),
  ((6, 21), (0, 2, 0, MX6_get)),
  ((6, 25), (0, 3, 0, MX6_with)),
  ((7, 3), (10, 0, 0, MX6_get)),
  ((7, 19), (13, 5, 0, MX6_get)),
  ((7, 25), (0, 1, 0, MX4_isTurn)),
  ((7, 31), (0, 1, 0, MX4_from)),
  ((7, 35), (0, 2, 0, MX6_get)),
  ((7, 41), (0, 4, 0, MX4_madeOn)),
  ((7, 45), (0, 2, 0, MX4_mirrored)),
  ((7, 49), (1, 4, 15, MX7_sungFrom)),
  ((7, 53), (0, 1, 0, MJ6_bitCount_0f7a4)),
  ((8, 3), (10, 0, 0, MX6_get)),
  ((8, 37), (3, 0, 0, MX1_init)),
  ((8, 48), (0, 2, 0, MJ7_fill_53178)),
  ((8, 54), (3, 0, 0, MX7_init)),
  ((8, 58), (1, 1, 11, MX1_startAnew)),
  ((8, 62), (13, 5, 0, MX6_get)),
  ((8, 68), (1, 1, 15, MX7_copy)),
  ((8, 72), (1, 1, 11, MX1_copy)),
  ((8, 75), (0, 2, 0, MX6_get)),
  ((8, 81), (0, 3, 0, MX6_with)),
  ((8, 91), (0, 1, 0, MX4_from)),
  ((8, 97), (0, 1, 0, MX4_isTurn)),
  ((8, 101), (1, 1, 11, MX1_draw)),
  ((8, 104), (1, 3, 11, MX1_make)),
  ((8, 108), (1, 1, 16, MX8_addRow)),
  ((8, 114), (1, 2, 16, MX8_rowPart)),
  ((8, 118), (1, 1, 16, MX8_layRows)),
  ((8, 122), (1, 1, 16, MX8_countUnlike)),
  ((8, 126), (0, 1, 0, MX6_home)),
  ((8, 130), (0, 1, 0, MX4_withoutAsking)),
  ((8, 133), (0, 4, 0, MX4_madeOn)),
  ((9, 3), (10, 0, 0, MX6_get)),
  ((9, 32), (1, 1, 17, MX9_endOfRun)),
  ((9, 36), (0, 1, 0, MX9_isBlank)),
  ((9, 40), (1, 2, 17, MX9_kindOfRun)),
  ((9, 44), (1, 2, 17, MX9_numberOfRun)),
  ((9, 47), (1, 3, 17, MX9_addToken)),
  ((9, 51), (0, 1, 0, MX9_isLetter)),
  ((9, 54), (0, 1, 0, MX9_isDigit)),
  ((9, 57), (1, 2, 17, MX9_kindOfWord)),
  ((9, 62), (1, 3, 17, MX9_isWord)),
  ((9, 76), (14, 0, 0, MX6_get)),
  ((9, 81), (15, 1, 0, MX6_get)),
  ((10, 1), (10, 0, 0, MX6_get)),
  ((10, 9), (3, 0, 0, MX5_init)),
  ((10, 18), (2, 0, 0, MX8_init)),
  ((10, 25), (2, 0, 0, MX2_init)),
  ((10, 32), (3, 0, 0, MX3_init)),
  ((10, 39), (3, 0, 0, MX0_init)),
  ((10, 46), (3, 0, 0, MX1_init)),
  ((10, 64), (1, 0, 12, MX2_forget)),
  ((10, 67), (1, 1, 16, MX8_startAnew)),
  ((10, 71), (1, 1, 18, MX10_isSlot)),
  ((10, 75), (0, 1, 0, MX10_isColour)),
  ((10, 82), (0, 3, 0, MX6_with)),
  ((10, 100), (1, 1, 17, MX9_add)),
  ((10, 103), (1, 0, 14, MX5_forgetFault)),
  ((10, 106), (0, 1, 0, MX10_isSong)),
  ((10, 112), (1, 1, 14, MX5_read)),
  ((10, 123), (1, 1, 15, MX7_copy)),
  ((10, 138), (1, 1, 12, MX2_remember)),
  ((10, 142), (1, 1, 16, MX8_singOnce)),
  ((10, 149), (0, 2, 0, MX6_get)),
  ((10, 153), (0, 3, 0, MX6_slotWith)),
  ((10, 161), (1, 2, 11, MX1_timesOver)),
  ((10, 168), (1, 2, 16, MX8_rowPart)),
  ((10, 171), (1, 3, 15, MX7_singingsBack)),
  ((10, 175), (1, 1, 16, MX8_seen)),
  ((10, 181), (1, 3, 15, MX7_mirroredFrom)),
  ((10, 185), (1, 4, 15, MX7_sungFrom)),
  ((10, 192), (1, 3, 13, MX3_needed)),
  ((10, 195), (1, 4, 13, MX3_firstOf)),
  ((10, 199), (0, 1, 0, MX4_from)),
  ((10, 205), (0, 1, 0, MX4_to)),
  ((10, 208), (0, 4, 0, MX10_oneOfThree)),
  ((10, 212), (0, 1, 0, MX6_home)),
  ((10, 216), (1, 4, 18, MX10_fitsWithout)),
  ((10, 220), (1, 2, 10, MX0_needed)),
  ((10, 226), (1, 1, 16, MX8_strandsToDye)),
  ((10, 229), (1, 2, 11, MX1_leastFree)),
  ((10, 232), (1, 0, 18, MX10_countRings)),
  ((10, 236), (1, 1, 18, MX10_ringOf)),
  ((10, 239), (0, 1, 0, MJ6_bitCount_0f7a4)),
  ((10, 244), (1, 1, 11, MX1_startAnew)),
  ((10, 245), (1, 3, 11, MX1_singInThought)),
  ((10, 249), (1, 1, 11, MX1_isOverLike)),
  ((10, 253), (1, 2, 16, MX8_rowsComeAgain)),
  ((10, 257), (1, 1, 12, MX2_goBack)),
  ((10, 260), (1, 1, 16, MX8_copy)),
  ((11, 1), (10, 0, 0, MX6_get)),
  ((11, 65), (1, 1, 19, MX11_begins)),
  ((11, 72), (0, 3, 0, MX11_isIn)),
  ((11, 78), (1, 1, 19, MX11_isSlot)),
  ((11, 91), (14, 0, 0, MX6_get)),
  ((11, 97), (15, 1, 0, MX6_get)),
  ((11, 103), (1, 1, 19, MX11_is)),
  ((11, 117), (1, 1, 19, MX11_see)),
  ((11, 124), (0, 1, 0, MX11_isLetter)),
  ((11, 127), (1, 0, 19, MX11_word)),
  ((11, 130), (0, 1, 0, MX11_isDigit)),
  ((11, 142), (1, 1, 19, MX11_bad)),
  ((11, 145), (1, 0, 19, MX11_next0)),
  ((11, 151), (1, 2, 19, MX11_number)),
  ((11, 155), (1, 1, 19, MX11_need)),
  ((11, 158), (1, 4, 19, MX11_puts)),
  ((11, 162), (1, 1, 19, MX11_someSteps)),
  ((11, 165), (1, 1, 19, MX11_someTimes)),
  ((11, 168), (1, 0, 19, MX11_aTurn)),
  ((11, 172), (1, 1, 19, MX11_aMove)),
  ((11, 178), (0, 1, 0, MX11_isSong)),
  ((11, 181), (1, 3, 19, MX11_goesOver)),
  ((11, 185), (1, 3, 19, MX11_ofMove)),
  ((11, 189), (1, 1, 19, MX11_turns)),
  ((11, 192), (1, 3, 19, MX11_lifts)),
  ((11, 195), (1, 3, 19, MX11_swaps)),
  ((11, 198), (1, 6, 19, MX11_moves)),
  ((11, 202), (1, 0, 19, MX11_sitsNow)),
  ((11, 205), (1, 1, 19, MX11_draw)),
  ((11, 208), (1, 1, 19, MX11_writes)),
  ((11, 211), (1, 0, 19, MX11_keeps)),
  ((11, 214), (1, 1, 19, MX11_singsTruly)),
  ((11, 217), (1, 1, 19, MX11_slotOf)),
  ((11, 220), (1, 3, 19, MX11_sings)),
  ((11, 224), (1, 1, 19, MX11_isAsNow)),
  ((11, 229), (1, 1, 19, MX11_placeOf)),
  ((11, 235), (1, 2, 19, MX11_comes)),
  ((11, 239), (1, 3, 19, MX11_liftedOf)),
  ((11, 242), (1, 0, 19, MX11_laysFar)),
  ((11, 245), (1, 1, 19, MX11_farOf)),
  ((11, 248), (1, 0, 19, MX11_sitsAtFirst)),
  ((11, 251), (1, 0, 19, MX11_isWanted)),
  ((11, 254), (1, 4, 19, MX11_isWantedBehind)),
  ((11, 258), (1, 1, 19, MX11_singsAlone)),
  ((11, 261), (1, 2, 19, MX11_comesAgain)),
  ((11, 264), (0, 3, 0, MX11_isWithin)),
  ((11, 267), (1, 3, 19, MX11_doCross)),
  ((11, 270), (1, 2, 19, MX11_isFree)),
  ((11, 273), (1, 1, 19, MX11_ring)),
  ((11, 276), (1, 1, 19, MX11_isLeast)),
  ((12, 9), (2, 0, 0, MX10_init)),
  ((12, 12), (2, 0, 0, MX11_init)),
  ((12, 13), (1, 1, 18, MX10_state)),
  ((12, 17), (1, 1, 19, MX11_state)),
  ((12, 18), (1, 1, 18, MX10_stool)),
  ((12, 22), (1, 1, 19, MX11_stool)),
  ((12, 23), (1, 2, 18, MX10_colour)),
  ((12, 27), (1, 2, 19, MX11_colour)),
  ((12, 28), (1, 1, 18, MX10_slip)),
  ((12, 31), (1, 1, 19, MX11_slip)),
  ((12, 32), (1, 5, 18, MX10_feed)),
  ((12, 36), (1, 5, 19, MX11_feed)),
  ((12, 37), (1, 1, 18, MX10_end)),
  ((12, 40), (1, 1, 19, MX11_end)),
  ((12, 41), (1, 1, 18, MX10_text)),
  ((12, 44), (1, 1, 19, MX11_text)),
  ((12, 45), (1, 1, 18, MX10_fault)),
  ((12, 48), (1, 1, 19, MX11_fault)),
  ((12, 49), (1, 2, 18, MX10_sing)),
  ((12, 53), (1, 2, 19, MX11_sing)),
  ((12, 54), (1, 2, 18, MX10_at)),
  ((12, 57), (1, 2, 19, MX11_at)),
  ((12, 58), (1, 2, 18, MX10_of)),
  ((12, 61), (1, 2, 19, MX11_of)),
  ((12, 62), (1, 2, 18, MX10_over)),
  ((12, 65), (1, 2, 19, MX11_over)),
  ((12, 66), (1, 2, 18, MX10_outside)),
  ((12, 69), (1, 2, 19, MX11_outside)),
  ((12, 70), (1, 2, 18, MX10_back)),
  ((12, 73), (1, 2, 19, MX11_back)),
  ((12, 74), (1, 4, 18, MX10_where)),
  ((12, 78), (1, 4, 19, MX11_where)),
  ((12, 79), (1, 2, 18, MX10_want)),
  ((12, 82), (1, 2, 19, MX11_want)),
  ((12, 83), (1, 1, 18, MX10_fewest)),
  ((12, 86), (1, 1, 19, MX11_fewest)),
  ((12, 87), (1, 1, 18, MX10_cut)),
  ((12, 90), (1, 1, 19, MX11_cut)),
  ((12, 91), (1, 3, 18, MX10_dropped)),
  ((12, 95), (1, 3, 19, MX11_dropped)),
  ((12, 96), (1, 2, 18, MX10_beats)),
  ((12, 99), (1, 2, 19, MX11_beats)),
  ((12, 100), (1, 2, 18, MX10_name)),
  ((12, 103), (1, 2, 19, MX11_name)),
  ((12, 104), (1, 1, 18, MX10_lay)),
  ((12, 107), (1, 1, 19, MX11_lay)),
  ((12, 108), (1, 1, 18, MX10_pulled)),
  ((12, 111), (1, 1, 19, MX11_pulled)),
  ((12, 112), (1, 1, 18, MX10_loops)),
  ((12, 115), (1, 1, 19, MX11_loops)),
  ((12, 116), (1, 2, 18, MX10_alike)),
  ((12, 119), (1, 2, 19, MX11_alike)),
  ((12, 120), (1, 1, 18, MX10_period)),
  ((12, 123), (1, 1, 19, MX11_period)),
  ((12, 124), (1, 0, 18, MX10_undo)),
  ((12, 128), (1, 0, 19, MX11_undo)),
  ((12, 129), (1, 1, 18, MX10_image)),
  ((12, 133), (1, 1, 19, MX11_image)),
  ((12, 134), (1, 1, 18, MX10_look)),
  ((12, 137), (1, 1, 19, MX11_look))]
def flT : List ((Nat × Nat) × (Nat × Nat)) := [((0, 9), (0, 0)), ((0, 15), (0, 1)), ((0, 24), (5, 0)), ((0, 30), (5, 1)), ((1, 15), (1, 0)), ((1, 21), (1, 1)), ((1, 25), (1, 2)), ((1, 28), (1, 3)), ((1, 31), (1, 4)), ((1, 35), (1, 5)), ((1, 52), (5, 0)), ((1, 57), (5, 1)), ((2, 9), (2, 0)), ((2, 15), (2, 1)), ((2, 20), (2, 2)), ((3, 11), (3, 0)), ((5, 9), (4, 0)), ((5, 15), (4, 1)), ((5, 21), (4, 2)), ((5, 28), (4, 3)), ((5, 32), (4, 4)), ((5, 35), (4, 5)), ((5, 38), (4, 6)), ((5, 41), (4, 7)), ((5, 44), (4, 8)), ((5, 48), (4, 9)), ((5, 51), (4, 10)), ((5, 55), (4, 11)), ((5, 61), (5, 0)), ((5, 64), (7, 1)), ((5, 93), (7, 3)), ((5, 96), (7, 2)), ((5, 99), (7, 4)), ((5, 123), (5, 1)), ((7, 9), (5, 0)), ((7, 15), (5, 1)), ((8, 9), (6, 0)), ((8, 15), (6, 1)), ((8, 18), (6, 2)), ((8, 22), (6, 3)), ((8, 25), (6, 4)), ((8, 31), (6, 5)), ((8, 38), (6, 6)), ((8, 42), (6, 7)), ((8, 45), (6, 8)), ((8, 55), (5, 0)), ((8, 85), (5, 1)), ((8, 88), (1, 0)), ((8, 111), (1, 3)), ((9, 9), (7, 0)), ((9, 15), (7, 1)), ((9, 18), (7, 2)), ((9, 22), (7, 3)), ((9, 25), (7, 4)), ((9, 28), (7, 5)), ((10, 10), (8, 0)), ((10, 19), (8, 1)), ((10, 26), (8, 2)), ((10, 33), (8, 3)), ((10, 40), (8, 4)), ((10, 47), (8, 5)), ((10, 51), (8, 6)), ((10, 54), (8, 7)), ((10, 57), (6, 6)), ((10, 60), (1, 1)), ((10, 78), (6, 2)), ((10, 88), (6, 1)), ((10, 91), (4, 2)), ((10, 95), (7, 0)), ((10, 109), (6, 0)), ((10, 115), (6, 5)), ((10, 119), (4, 3)), ((10, 129), (5, 0)), ((10, 132), (4, 0)), ((10, 135), (4, 1)), ((10, 146), (1, 0)), ((10, 157), (1, 4)), ((10, 165), (1, 3)), ((10, 189), (6, 3)), ((10, 223), (6, 4)), ((10, 263), (1, 2)), ((10, 266), (2, 0)), ((11, 7), (9, 0)), ((11, 13), (9, 1)), ((11, 16), (9, 2)), ((11, 19), (9, 5)), ((11, 22), (9, 6)), ((11, 25), (9, 16)), ((11, 29), (9, 17)), ((11, 32), (9, 18)), ((11, 35), (9, 19)), ((11, 38), (9, 20)), ((11, 41), (9, 21)), ((11, 44), (9, 22)), ((11, 47), (9, 24)), ((11, 50), (9, 25)), ((11, 53), (9, 26)), ((11, 56), (9, 27)), ((11, 59), (9, 28)), ((11, 62), (9, 29)), ((11, 69), (9, 3)), ((11, 82), (9, 8)), ((11, 85), (9, 9)), ((11, 88), (9, 11)), ((11, 121), (9, 10)), ((11, 133), (9, 12)), ((11, 136), (9, 13)), ((11, 139), (9, 14)), ((11, 148), (9, 7)), ((11, 175), (9, 15)), ((11, 232), (9, 23)), ((11, 279), (9, 4))]
def newT : List ((Nat × Nat) × Nat) := [((2, 18), 1), ((5, 18), 7), ((5, 25), 5), ((8, 29), 5), ((8, 35), 1), ((10, 7), 4), ((10, 16), 6), ((10, 23), 2), ((10, 30), 3), ((10, 37), 0), ((10, 44), 1), ((12, 7), 8), ((12, 10), 9)]
def anewT : List ((Nat × Nat) × Nat) := [((2, 18), 4), ((8, 29), 3)]
def icT : List ((Nat × Nat) × Int32) := [((1, 50), 1664525), ((1, 51), 1013904223), ((11, 76), 1664525), ((11, 77), 1013904223), ((11, 227), 40503), ((11, 228), 2147483647), ((13, 265), 1431655765), ((13, 266), 858993459), ((13, 267), 252645135)]
def lcT : List ((Nat × Nat) × Int64) := [((6, 11), -81985529216486896), ((6, 17), 15), ((6, 19), -1), ((10, 179), -81985529216486896)]
def slT : List ((Nat × Nat) × Nat) := [((9, 60), 0), ((9, 66), 1), ((9, 68), 2), ((9, 70), 3), ((9, 72), 4), ((9, 74), 5), ((11, 101), 0), ((11, 107), 1), ((11, 109), 2), ((11, 111), 3), ((11, 113), 4), ((11, 115), 5)]
def lkp {α : Type} (t : List ((Nat × Nat) × α)) (c i : Nat) : Option α := (t.find? (fun e => e.1.1 == c && e.1.2 == i)).map (fun e => e.2)
def fkT : List (List (Nat × Bool)) := [[(2, true), (2, true)], [(1, false), (0, false), (0, false), (0, false), (2, true), (2, true)], [(0, false), (0, false), (2, true)], [(2, true)], [(0, false), (0, false), (2, true), (2, true), (0, false), (0, false), (0, false), (0, false), (3, false), (0, false), (2, true), (2, true)], [(0, false), (2, true)], [(0, false), (0, false), (1, false), (1, false), (2, true), (2, true), (2, true), (2, true), (2, true)], [(0, false), (0, false), (2, true), (2, true), (2, true), (2, true)], [(2, true), (2, true), (2, true), (2, true), (2, true), (2, true), (2, true), (2, false)], [(2, true), (2, true), (2, true), (0, false), (3, false), (2, true), (2, true), (0, false), (0, false), (0, false), (0, false), (0, false), (0, false), (0, false), (0, false), (0, false), (0, false), (2, true), (2, true), (2, true), (2, true), (2, true), (2, true), (0, false), (2, true), (2, true), (2, true), (2, true), (2, true), (2, true)]]
def fkind (c k : Nat) : Nat × Bool := (fkT.getD c []).getD k (9, false)
def cnum (c : Nat) : Nat := [0, 1, 2, 3, 5, 7, 8, 9, 10, 11].getD c 99
def csize (c : Nat) : Nat := (fkT.getD c []).length
def strT : List (List Int32) := [[108, 105, 102, 116], [116, 111], [105, 102], [115, 119, 97, 112], [116, 117, 114, 110], [116, 105, 109, 101, 115]]
def gI (h : Hp) (a k : Nat) : Int32 := h.1 a k
def gJ (h : Hp) (a k : Nat) : Int64 := h.2.1 a k
def gR (h : Hp) (a k : Nat) : Option Nat := h.2.2.1 a k
def shp (h : Hp) (a : Nat) : Nat × Nat := h.2.2.2.getD a (99, 0)
def sI (h : Hp) (a k : Nat) (v : Int32) : Hp := (fun b j => if b = a ∧ j = k then v else h.1 b j, h.2)
def sJ (h : Hp) (a k : Nat) (v : Int64) : Hp := (h.1, fun b j => if b = a ∧ j = k then v else h.2.1 b j, h.2.2)
def sR (h : Hp) (a k : Nat) (v : Option Nat) : Hp := (h.1, h.2.1, fun b j => if b = a ∧ j = k then v else h.2.2.1 b j, h.2.2.2)
def cpI (h : Hp) (a sp b dp n : Nat) : Hp := (fun x j => if x = b ∧ dp ≤ j ∧ j < dp + n then h.1 a (sp + (j - dp)) else h.1 x j, h.2)
def nxt (h : Hp) : Nat := h.2.2.2.length
def newO (h : Hp) (kd n : Nat) : Hp := (fun b j => if b = nxt h then 0 else h.1 b j, fun b j => if b = nxt h then 0 else h.2.1 b j, fun b j => if b = nxt h then none else h.2.2.1 b j, h.2.2.2 ++ [(kd, n)])
abbrev un : Value := .retAddr 0
def vr (r : Option Nat) : Value := match r with
  | none => .null
  | some a => .ref a
def ldL (L : List Value) (i : Nat) : Value := L.getD i un
def stL (L : List Value) (i : Nat) (v : Value) : List Value := match L, i with
  | [], _ => []
  | _ :: L, 0 => v :: L
  | a :: L, i + 1 => (if i = 0 ∧ a.category = 2 then un else a) :: stL L i v
def stL2 (L : List Value) (i : Nat) (v : Value) : List Value := stL (stL L (i + 1) un) i v
def spread (vs : List Value) : List Value := vs.flatMap (fun v => if v.category = 2 then [v, un] else [v])
def ent (vs : List Value) (n : Nat) : List Value := spread vs ++ List.replicate (n - (spread vs).length) un
abbrev Act : Type := (List Value × List Value × Hp) ⊕ ((Int × List Value) ⊕ (Option Value ⊕ (Mth × List Value × List Value)))
abbrev aF (L S : List Value) (h : Hp) : Option Act := some (.inl (L, S, h))
abbrev aJ (o : Int) (S : List Value) : Option Act := some (.inr (.inl (o, S)))
abbrev aR (v : Option Value) : Option Act := some (.inr (.inr (.inl v)))
abbrev aC (y : Mth) (as S : List Value) : Option Act := some (.inr (.inr (.inr (y, as, S))))
def fval (h : Hp) (a : Nat) (t k : Nat) : Value := if t = 1 then .long (gJ h a k) else if t = 2 then vr (gR h a k) else .int (gI h a k)
def cats (S : List Value) : Nat := (S.map fun v => v.category).sum
def cmpB (c : ClassFile.Cond) (x y : Int32) : Bool := match c with
  | .eq => decide (x = y)
  | .ne => decide (¬ x = y)
  | .lt => decide (x < y)
  | .ge => decide (y ≤ x)
  | .gt => decide (y < x)
  | .le => decide (x ≤ y)
def actLd (i : Instr) (L S : List Value) (h : Hp) : Option Act := match i with
  | .iload k => match ldL L k with
    | .int x => aF L (.int x :: S) h
    | _ => none
  | .iload_n k => match ldL L k.val with
    | .int x => aF L (.int x :: S) h
    | _ => none
  | .lload k => match ldL L k with
    | .long x => aF L (.long x :: S) h
    | _ => none
  | .lload_n k => match ldL L k.val with
    | .long x => aF L (.long x :: S) h
    | _ => none
  | .aload k => match ldL L k with
    | .ref x => aF L (.ref x :: S) h
    | _ => none
  | .aload_n k => match ldL L k.val with
    | .ref x => aF L (.ref x :: S) h
    | _ => none
  | .istore k => match S with
    | .int x :: S' => if k < L.length then aF (stL L k (.int x)) S' h else none
    | _ => none
  | .istore_n k => match S with
    | .int x :: S' => if k.val < L.length then aF (stL L k.val (.int x)) S' h else none
    | _ => none
  | .lstore k => match S with
    | .long x :: S' => if k + 1 < L.length then aF (stL2 L k (.long x)) S' h else none
    | _ => none
  | .lstore_n k => match S with
    | .long x :: S' => if k.val + 1 < L.length then aF (stL2 L k.val (.long x)) S' h else none
    | _ => none
  | .astore k => match S with
    | .ref x :: S' => if k < L.length then aF (stL L k (.ref x)) S' h else none
    | _ => none
  | .astore_n k => match S with
    | .ref x :: S' => if k.val < L.length then aF (stL L k.val (.ref x)) S' h else none
    | _ => none
  | .iinc k n => match ldL L k with
    | .int x => if k < L.length then aF (stL L k (.int (x + Int32.ofInt n))) S h else none
    | _ => none
  | _ => none
def actOp (i : Instr) (L S : List Value) (h : Hp) : Option Act := match i, S with
  | .iadd, .int y :: .int x :: S => aF L (.int (x + y) :: S) h
  | .isub, .int y :: .int x :: S => aF L (.int (x - y) :: S) h
  | .imul, .int y :: .int x :: S => aF L (.int (x * y) :: S) h
  | .iand, .int y :: .int x :: S => aF L (.int (x &&& y) :: S) h
  | .ior, .int y :: .int x :: S => aF L (.int (x ||| y) :: S) h
  | .ixor, .int y :: .int x :: S => aF L (.int (x ^^^ y) :: S) h
  | .ishl, .int y :: .int x :: S => aF L (.int (x <<< (y &&& 31)) :: S) h
  | .ishr, .int y :: .int x :: S => aF L (.int (x >>> (y &&& 31)) :: S) h
  | .iushr, .int y :: .int x :: S => aF L (.int (x.toUInt32 >>> (y.toUInt32 &&& Int32.toUInt32 31)).toInt32 :: S) h
  | .idiv, .int y :: .int x :: S => if y = 0 then none else aF L (.int (x / y) :: S) h
  | .irem, .int y :: .int x :: S => if y = 0 then none else aF L (.int (x - x / y * y) :: S) h
  | .lsub, .long y :: .long x :: S => aF L (.long (x - y) :: S) h
  | .land, .long y :: .long x :: S => aF L (.long (x &&& y) :: S) h
  | .lor, .long y :: .long x :: S => aF L (.long (x ||| y) :: S) h
  | .lxor, .long y :: .long x :: S => aF L (.long (x ^^^ y) :: S) h
  | .lshl, .int y :: .long x :: S => aF L (.long (x <<< (y.toInt64 &&& 63)) :: S) h
  | .lushr, .int y :: .long x :: S => aF L (.long (x.toUInt64 >>> (y.toInt64.toUInt64 &&& Int64.toUInt64 63)).toInt64 :: S) h
  | .lcmp, .long y :: .long x :: S => aF L (.int (lg_cmp x y) :: S) h
  | .i2l, .int x :: S => aF L (.long x.toInt64 :: S) h
  | .l2i, .long x :: S => aF L (.int x.toInt32 :: S) h
  | .i2b, .int x :: S => aF L (.int x.toInt8.toInt32 :: S) h
  | .dup, a :: S => if a.category = 1 then aF L (a :: a :: S) h else none
  | .pop, a :: S => if a.category = 1 then aF L S h else none
  | .dup2, a :: b :: S => if a.category = 1 ∧ b.category = 1 then aF L (a :: b :: a :: b :: S) h else none
  | _, _ => none
def actCn (c : Nat) (i : Instr) (L S : List Value) (h : Hp) : Option Act := match i with
  | .iconst n => aF L (.int (Int32.ofInt n) :: S) h
  | .bipush n => aF L (.int (Int8.ofInt n).toInt32 :: S) h
  | .sipush n => aF L (.int (Int16.ofInt n).toInt32 :: S) h
  | .lconst n => aF L (.long (Int64.ofNat n.val) :: S) h
  | .aconst_null => aF L (.null :: S) h
  | .ldc k => match lkp icT c k with
    | some v => aF L (.int v :: S) h
    | none => match lkp slT c k with
      | some v => aF L (.ref (1000000 + v) :: S) h
      | none => none
  | .ldc_w k => match lkp icT c k with
    | some v => aF L (.int v :: S) h
    | none => none
  | .ldc2_w k => match lkp lcT c k with
    | some v => aF L (.long v :: S) h
    | none => none
  | _ => none
def actBr (i : Instr) (L S : List Value) (h : Hp) : Option Act := match i, S with
  | .goto o, S => aJ o S
  | .if_icmp c o, .int y :: .int x :: S => if cmpB c x y = true then aJ o S else aF L S h
  | .ifCond c o, .int x :: S => if cmpB c x 0 = true then aJ o S else aF L S h
  | .ifnonnull o, .ref _ :: S => aJ o S
  | .ifnonnull _, .null :: S => aF L S h
  | .tableswitch df lo hi os, .int x :: S => if x.toInt < lo ∨ hi < x.toInt then aJ df S else match os[(x.toInt - lo).toNat]? with
    | some o => aJ o S
    | none => none
  | .lookupswitch df ps, .int x :: S => if (ps.toList.zip (ps.toList.drop 1)).all (fun (a, next) => a.1 < next.1) = true then aJ (Op.lookupswitch.offset ps.toList df x.toInt) S else none
  | _, _ => none
def inB (j : Int32) (n : Nat) : Bool := decide (¬ (j < 0 ∨ n ≤ j.toNatClampNeg))
def actHp (y : Mth) (i : Instr) (L S : List Value) (h : Hp) : Option Act := match i, S with
  | .getfield k, .ref a :: S => match lkp flT y.1 k with
    | some (c, f) => if (shp h a).1 = 10 + c then aF L (fval h a (fkind c f).1 f :: S) h else none
    | none => none
  | .putfield k, v :: .ref a :: S => match lkp flT y.1 k with
    | some (c, f) => if (shp h a).1 = 10 + c ∧ ((fkind c f).2 = false ∨ (y.2.1 = true ∧ y.1 = cnum c)) then
        (match (fkind c f).1, v with
        | 0, .int x => aF L S (sI h a f x)
        | 3, .int x => if x = 0 ∨ x = 1 then aF L S (sI h a f x) else none
        | 1, .long x => aF L S (sJ h a f x)
        | 2, .ref b => if b < nxt h then aF L S (sR h a f (some b)) else none
        | 2, .null => aF L S (sR h a f none)
        | _, _ => none) else none
    | none => none
  | .iaload, .int j :: .ref a :: S => if ((shp h a).1 = 0 ∨ (shp h a).1 = 1) ∧ inB j (shp h a).2 = true then aF L (.int (gI h a j.toNatClampNeg) :: S) h else none
  | .baload, .int j :: .ref a :: S => if (shp h a).1 = 2 ∧ inB j (shp h a).2 = true then aF L (.int (gI h a j.toNatClampNeg) :: S) h else none
  | .aaload, .int j :: .ref a :: S => if ((shp h a).1 = 3 ∨ (shp h a).1 = 4) ∧ inB j (shp h a).2 = true then aF L (vr (gR h a j.toNatClampNeg) :: S) h else none
  | .iastore, .int x :: .int j :: .ref a :: S => if (shp h a).1 = 1 ∧ inB j (shp h a).2 = true then aF L S (sI h a j.toNatClampNeg x) else none
  | .bastore, .int x :: .int j :: .ref a :: S => if (shp h a).1 = 2 ∧ inB j (shp h a).2 = true then aF L S (sI h a j.toNatClampNeg (vp_nar .byte x)) else none
  | .aastore, .ref v :: .int j :: .ref a :: S => if inB j (shp h a).2 = true ∧ (((shp h a).1 = 3 ∧ (shp h v).1 = 15) ∨ ((shp h a).1 = 4 ∧ (shp h v).1 = 11)) then aF L S (sR h a j.toNatClampNeg (some v)) else none
  | .arraylength, .ref a :: S => if (shp h a).1 ≤ 4 then aF L (.int (Int32.ofNat (shp h a).2) :: S) h else none
  | .newarray .int, .int n :: S => if ¬ n < 0 ∧ n.toNatClampNeg ≤ 100000 ∧ nxt h < 900000 then aF L (.ref (nxt h) :: S) (newO h 1 n.toNatClampNeg) else none
  | .newarray .byte, .int n :: S => if ¬ n < 0 ∧ n.toNatClampNeg ≤ 100000 ∧ nxt h < 900000 then aF L (.ref (nxt h) :: S) (newO h 2 n.toNatClampNeg) else none
  | .anewarray k, .int n :: S => match lkp anewT y.1 k with
    | some kd => if ¬ n < 0 ∧ n.toNatClampNeg ≤ 100000 ∧ nxt h < 900000 then aF L (.ref (nxt h) :: S) (newO h kd n.toNatClampNeg) else none
    | none => none
  | .new k, S => match lkp newT y.1 k with
    | some c => if nxt h < 900000 then aF L (.ref (nxt h) :: S) (newO h (10 + c) (csize c)) else none
    | none => none
  | _, _ => none
def actRt (y : Mth) (i : Instr) (S : List Value) : Option Act := match i, S with
  | .ireturn, [.int v] => if y.2.2.2.2.2 = some .int ∨ (y.2.2.2.2.2 = some .boolean ∧ (v = 0 ∨ v = 1)) then aR (some (.int v)) else none
  | .lreturn, [.long v] => if y.2.2.2.2.2 = some .long then aR (some (.long v)) else none
  | .return_, [] => if y.2.2.2.2.2 = none then aR none else none
  | _, _ => none
def actIv (y : Mth) (i : Instr) (L S : List Value) (h : Hp) : Option Act := match i with
  | .invokestatic k => match lkp mlT y.1 k with
    | some (0, np, _, y') => if np ≤ S.length ∧ cats (S.drop np) ≤ 8 ∧ (spread (S.take np).reverse).length ≤ y'.2.2.2.2.1 then aC y' (S.take np).reverse (S.drop np) else none
    | some (11, _) => match S with
      | .int b :: .int a :: S => if cats S ≤ 8 then aF L (.int (if a < b then b else a) :: S) h else none
      | _ => none
    | some (12, _) => match S with
      | .int b :: .int a :: S => if cats S ≤ 8 then aF L (.int (if b < a then b else a) :: S) h else none
      | _ => none
    | some (13, _) => match S with
      | .int n :: .int dp :: .ref b :: .int sp :: .ref a :: S => if cats S ≤ 8 ∧ (shp h a).1 = 1 ∧ (shp h b).1 = 1 ∧ ¬ sp < 0 ∧ ¬ dp < 0 ∧ ¬ n < 0 ∧ sp.toNatClampNeg + n.toNatClampNeg ≤ (shp h a).2 ∧ dp.toNatClampNeg + n.toNatClampNeg ≤ (shp h b).2 then aF L S (cpI h a sp.toNatClampNeg b dp.toNatClampNeg n.toNatClampNeg) else none
      | _ => none
    | _ => none
  | .invokevirtual k => match lkp mlT y.1 k with
    | some (1, np, rc, y') => match S.drop np with
      | .ref a :: S' => if (shp h a).1 = rc ∧ cats S' ≤ 8 ∧ (spread (.ref a :: (S.take np).reverse)).length ≤ y'.2.2.2.2.1 then aC y' (.ref a :: (S.take np).reverse) S' else none
      | _ => none
    | some (14, _) => match S with
      | .ref q :: S => if 1000000 ≤ q ∧ q < 1000006 ∧ cats S ≤ 8 then aF L (.int (Int32.ofNat (strT.getD (q - 1000000) []).length) :: S) h else none
      | _ => none
    | some (15, _) => match S with
      | .int j :: .ref q :: S => if 1000000 ≤ q ∧ q < 1000006 ∧ cats S ≤ 8 ∧ inB j (strT.getD (q - 1000000) []).length = true then aF L (.int ((strT.getD (q - 1000000) []).getD j.toNatClampNeg 0) :: S) h else none
      | _ => none
    | _ => none
  | .invokespecial k => match lkp mlT y.1 k with
    | some (2, np, _, y') => match S.drop np with
      | .ref a :: S' => if cats S' ≤ 8 ∧ (spread (.ref a :: (S.take np).reverse)).length ≤ y'.2.2.2.2.1 then aC y' (.ref a :: (S.take np).reverse) S' else none
      | _ => none
    | some (3, np, _, y') => match S.drop np with
      | .ref a :: S' => if cats S' ≤ 8 ∧ (spread (.ref a :: (S.take np).reverse)).length ≤ y'.2.2.2.2.1 then aC y' (.ref a :: (S.take np).reverse) S' else none
      | _ => none
    | some (10, _) => match S with
      | .ref _ :: S => if cats S ≤ 8 then aF L S h else none
      | _ => none
    | _ => none
  | _ => none
def grp (i : Instr) : Nat := match i with
  | .iload _ | .iload_n _ | .lload _ | .lload_n _ | .aload _ | .aload_n _ | .istore _ | .istore_n _ | .lstore _ | .lstore_n _ | .astore _ | .astore_n _ | .iinc _ _ => 0
  | .iconst _ | .bipush _ | .sipush _ | .lconst _ | .aconst_null | .ldc _ | .ldc_w _ | .ldc2_w _ => 1
  | .goto _ | .if_icmp _ _ | .ifCond _ _ | .ifnonnull _ | .tableswitch _ _ _ _ | .lookupswitch _ _ => 2
  | .getfield _ | .putfield _ | .iaload | .baload | .aaload | .iastore | .bastore | .aastore | .arraylength | .newarray _ | .anewarray _ | .new _ => 3
  | .ireturn | .lreturn | .return_ => 4
  | .invokestatic _ | .invokevirtual _ | .invokespecial _ => 5
  | _ => 6
def act (y : Mth) (i : Instr) (L S : List Value) (h : Hp) : Option Act := match grp i with
  | 0 => actLd i L S h
  | 1 => actCn y.1 i L S h
  | 2 => actBr i L S h
  | 3 => actHp y i L S h
  | 4 => actRt y i S
  | 5 => actIv y i L S h
  | _ => actOp i L S h
def ilen (i : Instr) : Nat := match i with
  | .iload _ | .lload _ | .aload _ | .istore _ | .lstore _ | .astore _ | .bipush _ | .ldc _ | .newarray _ => 2
  | .iinc _ _ | .sipush _ | .ldc_w _ | .ldc2_w _ | .goto _ | .if_icmp _ _ | .ifCond _ _ | .ifnonnull _ | .getfield _ | .putfield _ | .invokestatic _ | .invokevirtual _ | .invokespecial _ | .new _ | .anewarray _ => 3
  | .tableswitch _ _ _ _ | .lookupswitch _ _ => 0
  | _ => 1
def ins (y : Mth) (pc : Nat) : Option (Instr × Nat) := match decode y.2.2.2.1 pc with
  | .ok (i, len) => if ilen i = 0 ∨ len = ilen i then some (i, len) else none
  | .error _ => none
theorem ins_dec {y : Mth} {pc len : Nat} {i : Instr} (h : ins y pc = some (i, len)) : decode y.2.2.2.1 pc = .ok (i, len) ∧ (ilen i = 0 ∨ len = ilen i) := by
  unfold ins at h
  split at h
  · rename_i i' len' hd
    split at h
    · rename_i hl
      cases h
      exact ⟨hd, hl⟩
    · cases h
  · cases h
def psh (v : Option Value) (S : List Value) : List Value := v.toList ++ S
def run : Nat → Nat → Mth → Nat → List Value → List Value → Hp → Option (Option Value × Hp)
  | 0, _, _, _, _, _, _ => none
  | n + 1, d, y, pc, L, S, h => match ins y pc with
    | some (i, len) => match act y i L S h with
      | some (.inl (L', S', h')) => run n d y (pc + len) L' S' h'
      | some (.inr (.inl (o, S'))) => if 0 ≤ (pc : Int) + o then run n d y ((pc : Int) + o).toNat L S' h else none
      | some (.inr (.inr (.inl v))) => some (v, h)
      | some (.inr (.inr (.inr (y', as, S')))) => match d with
        | 0 => none
        | d' + 1 => match run n d' y' 0 (ent as y'.2.2.2.2.1) [] h with
          | some (v, h') => run n (d' + 1) y (pc + len) L (psh v S') h'
          | none => none
      | none => none
    | none => none
def At (d : Nat) (y : Mth) (pc : Nat) (L S : List Value) (h : Hp) (Q : Option Value → Hp → Prop) : Prop := ∃ n v h', run n d y pc L S h = some (v, h') ∧ Q v h'
def Call (d : Nat) (y : Mth) (as : List Value) (h : Hp) (Q : Option Value → Hp → Prop) : Prop := At d y 0 (ent as y.2.2.2.2.1) [] h Q
theorem run_mono : ∀ (n : Nat) (d : Nat) (y : Mth) (pc : Nat) (L S : List Value) (h : Hp) (r : Option Value × Hp), run n d y pc L S h = some r → run (n + 1) d y pc L S h = some r := by
  intro n
  induction n with
  | zero => intro d y pc L S h r hr; simp [run] at hr
  | succ n ih =>
    intro d y pc L S h r hr
    rw [run] at hr ⊢
    split at hr
    · rename_i i len hd
      split at hr
      · exact ih _ _ _ _ _ _ _ hr
      · split at hr
        · rename_i hc
          rw [if_pos hc]
          exact ih _ _ _ _ _ _ _ hr
        · cases hr
      · exact hr
      · split at hr
        · cases hr
        · split at hr
          · rename_i v h' hc
            rw [ih _ _ _ _ _ _ _ hc]
            exact ih _ _ _ _ _ _ _ hr
          · cases hr
      · cases hr
    · cases hr
theorem run_le {n n' : Nat} (hn : n ≤ n') {d : Nat} {y : Mth} {pc : Nat} {L S : List Value} {h : Hp} {r : Option Value × Hp} (hr : run n d y pc L S h = some r) : run n' d y pc L S h = some r := by
  induction hn with
  | refl => exact hr
  | step _ ih => exact run_mono _ _ _ _ _ _ _ _ ih
theorem At_ft {d : Nat} {y : Mth} {pc len : Nat} {i : Instr} {L S L' S' : List Value} {h h' : Hp} {Q : Option Value → Hp → Prop} (hd : ins y pc = some (i, len)) (ha : act y i L S h = some (.inl (L', S', h'))) (k : At d y (pc + len) L' S' h' Q) : At d y pc L S h Q := by
  obtain ⟨n, v, h1, hr, hq⟩ := k
  refine ⟨n + 1, v, h1, ?_, hq⟩
  rw [run, hd]
  dsimp only
  rw [ha]
  exact hr
theorem At_jp {d : Nat} {y : Mth} {pc tgt len : Nat} {i : Instr} {o : Int} {L S S' : List Value} {h : Hp} {Q : Option Value → Hp → Prop} (hd : ins y pc = some (i, len)) (ha : act y i L S h = some (.inr (.inl (o, S')))) (ht : (pc : Int) + o = (tgt : Int)) (k : At d y tgt L S' h Q) : At d y pc L S h Q := by
  obtain ⟨n, v, h1, hr, hq⟩ := k
  refine ⟨n + 1, v, h1, ?_, hq⟩
  rw [run, hd]
  dsimp only
  rw [ha]
  dsimp only
  rw [ht, if_pos (Int.natCast_nonneg tgt), Int.toNat_natCast]
  exact hr
theorem At_rt {d : Nat} {y : Mth} {pc len : Nat} {i : Instr} {L S : List Value} {v : Option Value} {h : Hp} {Q : Option Value → Hp → Prop} (hd : ins y pc = some (i, len)) (ha : act y i L S h = some (.inr (.inr (.inl v)))) (k : Q v h) : At d y pc L S h Q := by
  refine ⟨1, v, h, ?_, k⟩
  rw [run, hd]
  dsimp only
  rw [ha]
theorem At_cl {d : Nat} {y y' : Mth} {pc len : Nat} {i : Instr} {L S S' as : List Value} {h : Hp} {Q : Option Value → Hp → Prop} (hd : ins y pc = some (i, len)) (ha : act y i L S h = some (.inr (.inr (.inr (y', as, S'))))) (k : Call d y' as h (fun v h' => At (d + 1) y (pc + len) L (psh v S') h' Q)) : At (d + 1) y pc L S h Q := by
  obtain ⟨n, v, h1, hr, n2, v2, h2, hr2, hq⟩ := k
  refine ⟨(n + n2) + 1, v2, h2, ?_, hq⟩
  rw [run, hd]
  dsimp only
  rw [ha]
  dsimp only
  rw [run_le (Nat.le_add_right n n2) hr]
  exact run_le (Nat.le_add_left n2 n) hr2
theorem At.mono {d : Nat} {y : Mth} {pc : Nat} {L S : List Value} {h : Hp} {Q Q' : Option Value → Hp → Prop} (k : At d y pc L S h Q) (hq : ∀ v h', Q v h' → Q' v h') : At d y pc L S h Q' := by
  obtain ⟨n, v, h1, hr, h2⟩ := k
  exact ⟨n, v, h1, hr, hq v h1 h2⟩
end
section
-- THE WORDS of the tables, by their places; written out by gen04.py
abbrev vwCl : List vw_C := [(RX0, TX0, 2), (RX1, TX1, 6), (RX2, TX2, 3), (RX3, TX3, 1), (RX5, TX5, 12), (RX7, TX7, 2), (RX8, TX8, 9), (RX9, TX9, 6), (RX10, TX10, 8), (RX11, TX11, 30)]
def gt : List Cond := lw_tbl.filter goodWord
set_option maxRecDepth 20000 in
theorem gt_in {w : Cond} (h : w ∈ tables_1) (g : goodWord w = true) : w ∈ gt := List.mem_filter.mpr ⟨List.mem_append_right _ h, g⟩
set_option maxRecDepth 20000 in
theorem gt_sel {w : Cond} (h : w ∈ k2_sels lw_privs) (g : goodWord w = true) : w ∈ gt := List.mem_filter.mpr ⟨List.mem_append_left _ h, g⟩
set_option maxRecDepth 20000 in
theorem gt_good : GoodIn gt gt := fun w h => ⟨h, good_of_word (List.mem_filter.mp h).2⟩
set_option maxRecDepth 20000 in
theorem tch1 {w : Cond} (h : w ∈ tables_1_1) : w ∈ tables_1 := List.mem_append_left _ h
set_option maxRecDepth 20000 in
theorem tch2 {w : Cond} (h : w ∈ tables_1_2) : w ∈ tables_1 := List.mem_append_right _ (List.mem_append_left _ h)
set_option maxRecDepth 20000 in
theorem tch3 {w : Cond} (h : w ∈ tables_1_3) : w ∈ tables_1 := List.mem_append_right _ (List.mem_append_right _ (List.mem_append_left _ h))
set_option maxRecDepth 20000 in
theorem tch4 {w : Cond} (h : w ∈ tables_1_4) : w ∈ tables_1 := List.mem_append_right _ (List.mem_append_right _ (List.mem_append_right _ (List.mem_append_left _ h)))
set_option maxRecDepth 20000 in
theorem tch5 {w : Cond} (h : w ∈ tables_1_5) : w ∈ tables_1 := List.mem_append_right _ (List.mem_append_right _ (List.mem_append_right _ (List.mem_append_right _ (List.mem_append_left _ h))))
set_option maxRecDepth 20000 in
theorem tch6 {w : Cond} (h : w ∈ tables_1_6) : w ∈ tables_1 := List.mem_append_right _ (List.mem_append_right _ (List.mem_append_right _ (List.mem_append_right _ (List.mem_append_right _ (h)))))
def PF (e : (Nat × Nat) × (Nat × Nat)) : Prop := ∃ q : vw_C, vwCl[e.2.1]? = some q ∧ e.2.2 < q.2.2 ∧ Cond.fieldLink (clsN e.1.1) e.1.2 (q.2.1 e.2.2).1 (q.2.1 e.2.2).2.1 (q.2.1 e.2.2).2.2.1 ∈ gt
set_option maxRecDepth 20000 in
theorem pf_0 : PF ((0, 9), (0, 0)) := ⟨_, rfl, by decide, (gt_in (tch2 (List.mem_of_getElem? (i := 13) rfl)) rfl)⟩
set_option maxRecDepth 20000 in
theorem pf_1 : PF ((0, 15), (0, 1)) := ⟨_, rfl, by decide, (gt_in (tch2 (List.mem_of_getElem? (i := 14) rfl)) rfl)⟩
set_option maxRecDepth 20000 in
theorem pf_2 : PF ((0, 24), (5, 0)) := ⟨_, rfl, by decide, (gt_in (tch1 (List.mem_of_getElem? (i := 74) rfl)) rfl)⟩
set_option maxRecDepth 20000 in
theorem pf_3 : PF ((0, 30), (5, 1)) := ⟨_, rfl, by decide, (gt_in (tch1 (List.mem_of_getElem? (i := 80) rfl)) rfl)⟩
set_option maxRecDepth 20000 in
theorem pf_4 : PF ((1, 15), (1, 0)) := ⟨_, rfl, by decide, (gt_in (tch1 (List.mem_of_getElem? (i := 152) rfl)) rfl)⟩
set_option maxRecDepth 20000 in
theorem pf_5 : PF ((1, 21), (1, 1)) := ⟨_, rfl, by decide, (gt_in (tch1 (List.mem_of_getElem? (i := 155) rfl)) rfl)⟩
set_option maxRecDepth 20000 in
theorem pf_6 : PF ((1, 25), (1, 2)) := ⟨_, rfl, by decide, (gt_in (tch1 (List.mem_of_getElem? (i := 157) rfl)) rfl)⟩
set_option maxRecDepth 20000 in
theorem pf_7 : PF ((1, 28), (1, 3)) := ⟨_, rfl, by decide, (gt_in (tch1 (List.mem_of_getElem? (i := 159) rfl)) rfl)⟩
set_option maxRecDepth 20000 in
theorem pf_8 : PF ((1, 31), (1, 4)) := ⟨_, rfl, by decide, (gt_in (tch1 (List.mem_of_getElem? (i := 162) rfl)) rfl)⟩
set_option maxRecDepth 20000 in
theorem pf_9 : PF ((1, 35), (1, 5)) := ⟨_, rfl, by decide, (gt_in (tch1 (List.mem_of_getElem? (i := 164) rfl)) rfl)⟩
set_option maxRecDepth 20000 in
theorem pf_10 : PF ((1, 52), (5, 0)) := ⟨_, rfl, by decide, (gt_in (tch1 (List.mem_of_getElem? (i := 77) rfl)) rfl)⟩
set_option maxRecDepth 20000 in
theorem pf_11 : PF ((1, 57), (5, 1)) := ⟨_, rfl, by decide, (gt_in (tch1 (List.mem_of_getElem? (i := 82) rfl)) rfl)⟩
set_option maxRecDepth 20000 in
theorem pf_12 : PF ((2, 9), (2, 0)) := ⟨_, rfl, by decide, (gt_in (tch1 (List.mem_of_getElem? (i := 226) rfl)) rfl)⟩
set_option maxRecDepth 20000 in
theorem pf_13 : PF ((2, 15), (2, 1)) := ⟨_, rfl, by decide, (gt_in (tch1 (List.mem_of_getElem? (i := 228) rfl)) rfl)⟩
set_option maxRecDepth 20000 in
theorem pf_14 : PF ((2, 20), (2, 2)) := ⟨_, rfl, by decide, (gt_in (tch1 (List.mem_of_getElem? (i := 229) rfl)) rfl)⟩
set_option maxRecDepth 20000 in
theorem pf_15 : PF ((3, 11), (3, 0)) := ⟨_, rfl, by decide, (gt_in (tch2 (List.mem_of_getElem? (i := 3) rfl)) rfl)⟩
set_option maxRecDepth 20000 in
theorem pf_16 : PF ((5, 9), (4, 0)) := ⟨_, rfl, by decide, (gt_in (tch1 (List.mem_of_getElem? (i := 89) rfl)) rfl)⟩
set_option maxRecDepth 20000 in
theorem pf_17 : PF ((5, 15), (4, 1)) := ⟨_, rfl, by decide, (gt_in (tch1 (List.mem_of_getElem? (i := 91) rfl)) rfl)⟩
set_option maxRecDepth 20000 in
theorem pf_18 : PF ((5, 21), (4, 2)) := ⟨_, rfl, by decide, (gt_in (tch1 (List.mem_of_getElem? (i := 93) rfl)) rfl)⟩
set_option maxRecDepth 20000 in
theorem pf_19 : PF ((5, 28), (4, 3)) := ⟨_, rfl, by decide, (gt_in (tch1 (List.mem_of_getElem? (i := 95) rfl)) rfl)⟩
set_option maxRecDepth 20000 in
theorem pf_20 : PF ((5, 32), (4, 4)) := ⟨_, rfl, by decide, (gt_in (tch1 (List.mem_of_getElem? (i := 97) rfl)) rfl)⟩
set_option maxRecDepth 20000 in
theorem pf_21 : PF ((5, 35), (4, 5)) := ⟨_, rfl, by decide, (gt_in (tch1 (List.mem_of_getElem? (i := 98) rfl)) rfl)⟩
set_option maxRecDepth 20000 in
theorem pf_22 : PF ((5, 38), (4, 6)) := ⟨_, rfl, by decide, (gt_in (tch1 (List.mem_of_getElem? (i := 99) rfl)) rfl)⟩
set_option maxRecDepth 20000 in
theorem pf_23 : PF ((5, 41), (4, 7)) := ⟨_, rfl, by decide, (gt_in (tch1 (List.mem_of_getElem? (i := 100) rfl)) rfl)⟩
set_option maxRecDepth 20000 in
theorem pf_24 : PF ((5, 44), (4, 8)) := ⟨_, rfl, by decide, (gt_in (tch1 (List.mem_of_getElem? (i := 101) rfl)) rfl)⟩
set_option maxRecDepth 20000 in
theorem pf_25 : PF ((5, 48), (4, 9)) := ⟨_, rfl, by decide, (gt_in (tch1 (List.mem_of_getElem? (i := 102) rfl)) rfl)⟩
set_option maxRecDepth 20000 in
theorem pf_26 : PF ((5, 51), (4, 10)) := ⟨_, rfl, by decide, (gt_in (tch1 (List.mem_of_getElem? (i := 103) rfl)) rfl)⟩
set_option maxRecDepth 20000 in
theorem pf_27 : PF ((5, 55), (4, 11)) := ⟨_, rfl, by decide, (gt_in (tch1 (List.mem_of_getElem? (i := 104) rfl)) rfl)⟩
set_option maxRecDepth 20000 in
theorem pf_28 : PF ((5, 61), (5, 0)) := ⟨_, rfl, by decide, (gt_in (tch1 (List.mem_of_getElem? (i := 76) rfl)) rfl)⟩
set_option maxRecDepth 20000 in
theorem pf_29 : PF ((5, 64), (7, 1)) := ⟨_, rfl, by decide, (gt_in (tch1 (List.mem_of_getElem? (i := 44) rfl)) rfl)⟩
set_option maxRecDepth 20000 in
theorem pf_30 : PF ((5, 93), (7, 3)) := ⟨_, rfl, by decide, (gt_in (tch1 (List.mem_of_getElem? (i := 48) rfl)) rfl)⟩
set_option maxRecDepth 20000 in
theorem pf_31 : PF ((5, 96), (7, 2)) := ⟨_, rfl, by decide, (gt_in (tch1 (List.mem_of_getElem? (i := 46) rfl)) rfl)⟩
set_option maxRecDepth 20000 in
theorem pf_32 : PF ((5, 99), (7, 4)) := ⟨_, rfl, by decide, (gt_in (tch1 (List.mem_of_getElem? (i := 50) rfl)) rfl)⟩
set_option maxRecDepth 20000 in
theorem pf_33 : PF ((5, 123), (5, 1)) := ⟨_, rfl, by decide, (gt_in (tch1 (List.mem_of_getElem? (i := 83) rfl)) rfl)⟩
set_option maxRecDepth 20000 in
theorem pf_34 : PF ((7, 9), (5, 0)) := ⟨_, rfl, by decide, (gt_in (tch1 (List.mem_of_getElem? (i := 73) rfl)) rfl)⟩
set_option maxRecDepth 20000 in
theorem pf_35 : PF ((7, 15), (5, 1)) := ⟨_, rfl, by decide, (gt_in (tch1 (List.mem_of_getElem? (i := 79) rfl)) rfl)⟩
set_option maxRecDepth 20000 in
theorem pf_36 : PF ((8, 9), (6, 0)) := ⟨_, rfl, by decide, (gt_in (tch1 (List.mem_of_getElem? (i := 182) rfl)) rfl)⟩
set_option maxRecDepth 20000 in
theorem pf_37 : PF ((8, 15), (6, 1)) := ⟨_, rfl, by decide, (gt_in (tch1 (List.mem_of_getElem? (i := 184) rfl)) rfl)⟩
set_option maxRecDepth 20000 in
theorem pf_38 : PF ((8, 18), (6, 2)) := ⟨_, rfl, by decide, (gt_in (tch1 (List.mem_of_getElem? (i := 186) rfl)) rfl)⟩
set_option maxRecDepth 20000 in
theorem pf_39 : PF ((8, 22), (6, 3)) := ⟨_, rfl, by decide, (gt_in (tch1 (List.mem_of_getElem? (i := 188) rfl)) rfl)⟩
set_option maxRecDepth 20000 in
theorem pf_40 : PF ((8, 25), (6, 4)) := ⟨_, rfl, by decide, (gt_in (tch1 (List.mem_of_getElem? (i := 190) rfl)) rfl)⟩
set_option maxRecDepth 20000 in
theorem pf_41 : PF ((8, 31), (6, 5)) := ⟨_, rfl, by decide, (gt_in (tch1 (List.mem_of_getElem? (i := 192) rfl)) rfl)⟩
set_option maxRecDepth 20000 in
theorem pf_42 : PF ((8, 38), (6, 6)) := ⟨_, rfl, by decide, (gt_in (tch1 (List.mem_of_getElem? (i := 194) rfl)) rfl)⟩
set_option maxRecDepth 20000 in
theorem pf_43 : PF ((8, 42), (6, 7)) := ⟨_, rfl, by decide, (gt_in (tch1 (List.mem_of_getElem? (i := 196) rfl)) rfl)⟩
set_option maxRecDepth 20000 in
theorem pf_44 : PF ((8, 45), (6, 8)) := ⟨_, rfl, by decide, (gt_in (tch1 (List.mem_of_getElem? (i := 197) rfl)) rfl)⟩
set_option maxRecDepth 20000 in
theorem pf_45 : PF ((8, 55), (5, 0)) := ⟨_, rfl, by decide, (gt_in (tch1 (List.mem_of_getElem? (i := 75) rfl)) rfl)⟩
set_option maxRecDepth 20000 in
theorem pf_46 : PF ((8, 85), (5, 1)) := ⟨_, rfl, by decide, (gt_in (tch1 (List.mem_of_getElem? (i := 81) rfl)) rfl)⟩
set_option maxRecDepth 20000 in
theorem pf_47 : PF ((8, 88), (1, 0)) := ⟨_, rfl, by decide, (gt_in (tch1 (List.mem_of_getElem? (i := 153) rfl)) rfl)⟩
set_option maxRecDepth 20000 in
theorem pf_48 : PF ((8, 111), (1, 3)) := ⟨_, rfl, by decide, (gt_in (tch1 (List.mem_of_getElem? (i := 160) rfl)) rfl)⟩
set_option maxRecDepth 20000 in
theorem pf_49 : PF ((9, 9), (7, 0)) := ⟨_, rfl, by decide, (gt_in (tch1 (List.mem_of_getElem? (i := 41) rfl)) rfl)⟩
set_option maxRecDepth 20000 in
theorem pf_50 : PF ((9, 15), (7, 1)) := ⟨_, rfl, by decide, (gt_in (tch1 (List.mem_of_getElem? (i := 43) rfl)) rfl)⟩
set_option maxRecDepth 20000 in
theorem pf_51 : PF ((9, 18), (7, 2)) := ⟨_, rfl, by decide, (gt_in (tch1 (List.mem_of_getElem? (i := 45) rfl)) rfl)⟩
set_option maxRecDepth 20000 in
theorem pf_52 : PF ((9, 22), (7, 3)) := ⟨_, rfl, by decide, (gt_in (tch1 (List.mem_of_getElem? (i := 47) rfl)) rfl)⟩
set_option maxRecDepth 20000 in
theorem pf_53 : PF ((9, 25), (7, 4)) := ⟨_, rfl, by decide, (gt_in (tch1 (List.mem_of_getElem? (i := 49) rfl)) rfl)⟩
set_option maxRecDepth 20000 in
theorem pf_54 : PF ((9, 28), (7, 5)) := ⟨_, rfl, by decide, (gt_in (tch1 (List.mem_of_getElem? (i := 51) rfl)) rfl)⟩
set_option maxRecDepth 20000 in
theorem pf_55 : PF ((10, 10), (8, 0)) := ⟨_, rfl, by decide, (gt_in (tch2 (List.mem_of_getElem? (i := 22) rfl)) rfl)⟩
set_option maxRecDepth 20000 in
theorem pf_56 : PF ((10, 19), (8, 1)) := ⟨_, rfl, by decide, (gt_in (tch2 (List.mem_of_getElem? (i := 23) rfl)) rfl)⟩
set_option maxRecDepth 20000 in
theorem pf_57 : PF ((10, 26), (8, 2)) := ⟨_, rfl, by decide, (gt_in (tch2 (List.mem_of_getElem? (i := 24) rfl)) rfl)⟩
set_option maxRecDepth 20000 in
theorem pf_58 : PF ((10, 33), (8, 3)) := ⟨_, rfl, by decide, (gt_in (tch2 (List.mem_of_getElem? (i := 25) rfl)) rfl)⟩
set_option maxRecDepth 20000 in
theorem pf_59 : PF ((10, 40), (8, 4)) := ⟨_, rfl, by decide, (gt_in (tch2 (List.mem_of_getElem? (i := 26) rfl)) rfl)⟩
set_option maxRecDepth 20000 in
theorem pf_60 : PF ((10, 47), (8, 5)) := ⟨_, rfl, by decide, (gt_in (tch2 (List.mem_of_getElem? (i := 27) rfl)) rfl)⟩
set_option maxRecDepth 20000 in
theorem pf_61 : PF ((10, 51), (8, 6)) := ⟨_, rfl, by decide, (gt_in (tch2 (List.mem_of_getElem? (i := 28) rfl)) rfl)⟩
set_option maxRecDepth 20000 in
theorem pf_62 : PF ((10, 54), (8, 7)) := ⟨_, rfl, by decide, (gt_in (tch2 (List.mem_of_getElem? (i := 29) rfl)) rfl)⟩
set_option maxRecDepth 20000 in
theorem pf_63 : PF ((10, 57), (6, 6)) := ⟨_, rfl, by decide, (gt_in (tch1 (List.mem_of_getElem? (i := 195) rfl)) rfl)⟩
set_option maxRecDepth 20000 in
theorem pf_64 : PF ((10, 60), (1, 1)) := ⟨_, rfl, by decide, (gt_in (tch1 (List.mem_of_getElem? (i := 156) rfl)) rfl)⟩
set_option maxRecDepth 20000 in
theorem pf_65 : PF ((10, 78), (6, 2)) := ⟨_, rfl, by decide, (gt_in (tch1 (List.mem_of_getElem? (i := 187) rfl)) rfl)⟩
set_option maxRecDepth 20000 in
theorem pf_66 : PF ((10, 88), (6, 1)) := ⟨_, rfl, by decide, (gt_in (tch1 (List.mem_of_getElem? (i := 185) rfl)) rfl)⟩
set_option maxRecDepth 20000 in
theorem pf_67 : PF ((10, 91), (4, 2)) := ⟨_, rfl, by decide, (gt_in (tch1 (List.mem_of_getElem? (i := 94) rfl)) rfl)⟩
set_option maxRecDepth 20000 in
theorem pf_68 : PF ((10, 95), (7, 0)) := ⟨_, rfl, by decide, (gt_in (tch1 (List.mem_of_getElem? (i := 42) rfl)) rfl)⟩
set_option maxRecDepth 20000 in
theorem pf_69 : PF ((10, 109), (6, 0)) := ⟨_, rfl, by decide, (gt_in (tch1 (List.mem_of_getElem? (i := 183) rfl)) rfl)⟩
set_option maxRecDepth 20000 in
theorem pf_70 : PF ((10, 115), (6, 5)) := ⟨_, rfl, by decide, (gt_in (tch1 (List.mem_of_getElem? (i := 193) rfl)) rfl)⟩
set_option maxRecDepth 20000 in
theorem pf_71 : PF ((10, 119), (4, 3)) := ⟨_, rfl, by decide, (gt_in (tch1 (List.mem_of_getElem? (i := 96) rfl)) rfl)⟩
set_option maxRecDepth 20000 in
theorem pf_72 : PF ((10, 129), (5, 0)) := ⟨_, rfl, by decide, (gt_in (tch1 (List.mem_of_getElem? (i := 78) rfl)) rfl)⟩
set_option maxRecDepth 20000 in
theorem pf_73 : PF ((10, 132), (4, 0)) := ⟨_, rfl, by decide, (gt_in (tch1 (List.mem_of_getElem? (i := 90) rfl)) rfl)⟩
set_option maxRecDepth 20000 in
theorem pf_74 : PF ((10, 135), (4, 1)) := ⟨_, rfl, by decide, (gt_in (tch1 (List.mem_of_getElem? (i := 92) rfl)) rfl)⟩
set_option maxRecDepth 20000 in
theorem pf_75 : PF ((10, 146), (1, 0)) := ⟨_, rfl, by decide, (gt_in (tch1 (List.mem_of_getElem? (i := 154) rfl)) rfl)⟩
set_option maxRecDepth 20000 in
theorem pf_76 : PF ((10, 157), (1, 4)) := ⟨_, rfl, by decide, (gt_in (tch1 (List.mem_of_getElem? (i := 163) rfl)) rfl)⟩
set_option maxRecDepth 20000 in
theorem pf_77 : PF ((10, 165), (1, 3)) := ⟨_, rfl, by decide, (gt_in (tch1 (List.mem_of_getElem? (i := 161) rfl)) rfl)⟩
set_option maxRecDepth 20000 in
theorem pf_78 : PF ((10, 189), (6, 3)) := ⟨_, rfl, by decide, (gt_in (tch1 (List.mem_of_getElem? (i := 189) rfl)) rfl)⟩
set_option maxRecDepth 20000 in
theorem pf_79 : PF ((10, 223), (6, 4)) := ⟨_, rfl, by decide, (gt_in (tch1 (List.mem_of_getElem? (i := 191) rfl)) rfl)⟩
set_option maxRecDepth 20000 in
theorem pf_80 : PF ((10, 263), (1, 2)) := ⟨_, rfl, by decide, (gt_in (tch1 (List.mem_of_getElem? (i := 158) rfl)) rfl)⟩
set_option maxRecDepth 20000 in
theorem pf_81 : PF ((10, 266), (2, 0)) := ⟨_, rfl, by decide, (gt_in (tch1 (List.mem_of_getElem? (i := 227) rfl)) rfl)⟩
set_option maxRecDepth 20000 in
theorem pf_82 : PF ((11, 7), (9, 0)) := ⟨_, rfl, by decide, (gt_in (tch4 (List.mem_of_getElem? (i := 125) rfl)) rfl)⟩
set_option maxRecDepth 20000 in
theorem pf_83 : PF ((11, 13), (9, 1)) := ⟨_, rfl, by decide, (gt_in (tch4 (List.mem_of_getElem? (i := 126) rfl)) rfl)⟩
set_option maxRecDepth 20000 in
theorem pf_84 : PF ((11, 16), (9, 2)) := ⟨_, rfl, by decide, (gt_in (tch4 (List.mem_of_getElem? (i := 127) rfl)) rfl)⟩
set_option maxRecDepth 20000 in
theorem pf_85 : PF ((11, 19), (9, 5)) := ⟨_, rfl, by decide, (gt_in (tch4 (List.mem_of_getElem? (i := 130) rfl)) rfl)⟩
set_option maxRecDepth 20000 in
theorem pf_86 : PF ((11, 22), (9, 6)) := ⟨_, rfl, by decide, (gt_in (tch4 (List.mem_of_getElem? (i := 131) rfl)) rfl)⟩
set_option maxRecDepth 20000 in
theorem pf_87 : PF ((11, 25), (9, 16)) := ⟨_, rfl, by decide, (gt_in (tch4 (List.mem_of_getElem? (i := 141) rfl)) rfl)⟩
set_option maxRecDepth 20000 in
theorem pf_88 : PF ((11, 29), (9, 17)) := ⟨_, rfl, by decide, (gt_in (tch4 (List.mem_of_getElem? (i := 142) rfl)) rfl)⟩
set_option maxRecDepth 20000 in
theorem pf_89 : PF ((11, 32), (9, 18)) := ⟨_, rfl, by decide, (gt_in (tch4 (List.mem_of_getElem? (i := 143) rfl)) rfl)⟩
set_option maxRecDepth 20000 in
theorem pf_90 : PF ((11, 35), (9, 19)) := ⟨_, rfl, by decide, (gt_in (tch4 (List.mem_of_getElem? (i := 144) rfl)) rfl)⟩
set_option maxRecDepth 20000 in
theorem pf_91 : PF ((11, 38), (9, 20)) := ⟨_, rfl, by decide, (gt_in (tch4 (List.mem_of_getElem? (i := 145) rfl)) rfl)⟩
set_option maxRecDepth 20000 in
theorem pf_92 : PF ((11, 41), (9, 21)) := ⟨_, rfl, by decide, (gt_in (tch4 (List.mem_of_getElem? (i := 146) rfl)) rfl)⟩
set_option maxRecDepth 20000 in
theorem pf_93 : PF ((11, 44), (9, 22)) := ⟨_, rfl, by decide, (gt_in (tch4 (List.mem_of_getElem? (i := 147) rfl)) rfl)⟩
set_option maxRecDepth 20000 in
theorem pf_94 : PF ((11, 47), (9, 24)) := ⟨_, rfl, by decide, (gt_in (tch4 (List.mem_of_getElem? (i := 149) rfl)) rfl)⟩
set_option maxRecDepth 20000 in
theorem pf_95 : PF ((11, 50), (9, 25)) := ⟨_, rfl, by decide, (gt_in (tch4 (List.mem_of_getElem? (i := 150) rfl)) rfl)⟩
set_option maxRecDepth 20000 in
theorem pf_96 : PF ((11, 53), (9, 26)) := ⟨_, rfl, by decide, (gt_in (tch4 (List.mem_of_getElem? (i := 151) rfl)) rfl)⟩
set_option maxRecDepth 20000 in
theorem pf_97 : PF ((11, 56), (9, 27)) := ⟨_, rfl, by decide, (gt_in (tch4 (List.mem_of_getElem? (i := 152) rfl)) rfl)⟩
set_option maxRecDepth 20000 in
theorem pf_98 : PF ((11, 59), (9, 28)) := ⟨_, rfl, by decide, (gt_in (tch4 (List.mem_of_getElem? (i := 153) rfl)) rfl)⟩
set_option maxRecDepth 20000 in
theorem pf_99 : PF ((11, 62), (9, 29)) := ⟨_, rfl, by decide, (gt_in (tch4 (List.mem_of_getElem? (i := 154) rfl)) rfl)⟩
set_option maxRecDepth 20000 in
theorem pf_100 : PF ((11, 69), (9, 3)) := ⟨_, rfl, by decide, (gt_in (tch4 (List.mem_of_getElem? (i := 128) rfl)) rfl)⟩
set_option maxRecDepth 20000 in
theorem pf_101 : PF ((11, 82), (9, 8)) := ⟨_, rfl, by decide, (gt_in (tch4 (List.mem_of_getElem? (i := 133) rfl)) rfl)⟩
set_option maxRecDepth 20000 in
theorem pf_102 : PF ((11, 85), (9, 9)) := ⟨_, rfl, by decide, (gt_in (tch4 (List.mem_of_getElem? (i := 134) rfl)) rfl)⟩
set_option maxRecDepth 20000 in
theorem pf_103 : PF ((11, 88), (9, 11)) := ⟨_, rfl, by decide, (gt_in (tch4 (List.mem_of_getElem? (i := 136) rfl)) rfl)⟩
set_option maxRecDepth 20000 in
theorem pf_104 : PF ((11, 121), (9, 10)) := ⟨_, rfl, by decide, (gt_in (tch4 (List.mem_of_getElem? (i := 135) rfl)) rfl)⟩
set_option maxRecDepth 20000 in
theorem pf_105 : PF ((11, 133), (9, 12)) := ⟨_, rfl, by decide, (gt_in (tch4 (List.mem_of_getElem? (i := 137) rfl)) rfl)⟩
set_option maxRecDepth 20000 in
theorem pf_106 : PF ((11, 136), (9, 13)) := ⟨_, rfl, by decide, (gt_in (tch4 (List.mem_of_getElem? (i := 138) rfl)) rfl)⟩
set_option maxRecDepth 20000 in
theorem pf_107 : PF ((11, 139), (9, 14)) := ⟨_, rfl, by decide, (gt_in (tch4 (List.mem_of_getElem? (i := 139) rfl)) rfl)⟩
set_option maxRecDepth 20000 in
theorem pf_108 : PF ((11, 148), (9, 7)) := ⟨_, rfl, by decide, (gt_in (tch4 (List.mem_of_getElem? (i := 132) rfl)) rfl)⟩
set_option maxRecDepth 20000 in
theorem pf_109 : PF ((11, 175), (9, 15)) := ⟨_, rfl, by decide, (gt_in (tch4 (List.mem_of_getElem? (i := 140) rfl)) rfl)⟩
set_option maxRecDepth 20000 in
theorem pf_110 : PF ((11, 232), (9, 23)) := ⟨_, rfl, by decide, (gt_in (tch4 (List.mem_of_getElem? (i := 148) rfl)) rfl)⟩
set_option maxRecDepth 20000 in
theorem pf_111 : PF ((11, 279), (9, 4)) := ⟨_, rfl, by decide, (gt_in (tch4 (List.mem_of_getElem? (i := 129) rfl)) rfl)⟩
set_option maxRecDepth 20000 in
theorem flW : ∀ e ∈ flT, PF e := (List.forall_mem_cons.mpr ⟨pf_0, (List.forall_mem_cons.mpr ⟨pf_1, (List.forall_mem_cons.mpr ⟨pf_2, (List.forall_mem_cons.mpr ⟨pf_3, (List.forall_mem_cons.mpr ⟨pf_4, (List.forall_mem_cons.mpr ⟨pf_5, (List.forall_mem_cons.mpr ⟨pf_6, (List.forall_mem_cons.mpr ⟨pf_7, (List.forall_mem_cons.mpr ⟨pf_8, (List.forall_mem_cons.mpr ⟨pf_9, (List.forall_mem_cons.mpr ⟨pf_10, (List.forall_mem_cons.mpr ⟨pf_11, (List.forall_mem_cons.mpr ⟨pf_12, (List.forall_mem_cons.mpr ⟨pf_13, (List.forall_mem_cons.mpr ⟨pf_14, (List.forall_mem_cons.mpr ⟨pf_15, (List.forall_mem_cons.mpr ⟨pf_16, (List.forall_mem_cons.mpr ⟨pf_17, (List.forall_mem_cons.mpr ⟨pf_18, (List.forall_mem_cons.mpr ⟨pf_19, (List.forall_mem_cons.mpr ⟨pf_20, (List.forall_mem_cons.mpr ⟨pf_21, (List.forall_mem_cons.mpr ⟨pf_22, (List.forall_mem_cons.mpr ⟨pf_23, (List.forall_mem_cons.mpr ⟨pf_24, (List.forall_mem_cons.mpr ⟨pf_25, (List.forall_mem_cons.mpr ⟨pf_26, (List.forall_mem_cons.mpr ⟨pf_27, (List.forall_mem_cons.mpr ⟨pf_28, (List.forall_mem_cons.mpr ⟨pf_29, (List.forall_mem_cons.mpr ⟨pf_30, (List.forall_mem_cons.mpr ⟨pf_31, (List.forall_mem_cons.mpr ⟨pf_32, (List.forall_mem_cons.mpr ⟨pf_33, (List.forall_mem_cons.mpr ⟨pf_34, (List.forall_mem_cons.mpr ⟨pf_35, (List.forall_mem_cons.mpr ⟨pf_36, (List.forall_mem_cons.mpr ⟨pf_37, (List.forall_mem_cons.mpr ⟨pf_38, (List.forall_mem_cons.mpr ⟨pf_39, (List.forall_mem_cons.mpr ⟨pf_40, (List.forall_mem_cons.mpr ⟨pf_41, (List.forall_mem_cons.mpr ⟨pf_42, (List.forall_mem_cons.mpr ⟨pf_43, (List.forall_mem_cons.mpr ⟨pf_44, (List.forall_mem_cons.mpr ⟨pf_45, (List.forall_mem_cons.mpr ⟨pf_46, (List.forall_mem_cons.mpr ⟨pf_47, (List.forall_mem_cons.mpr ⟨pf_48, (List.forall_mem_cons.mpr ⟨pf_49, (List.forall_mem_cons.mpr ⟨pf_50, (List.forall_mem_cons.mpr ⟨pf_51, (List.forall_mem_cons.mpr ⟨pf_52, (List.forall_mem_cons.mpr ⟨pf_53, (List.forall_mem_cons.mpr ⟨pf_54, (List.forall_mem_cons.mpr ⟨pf_55, (List.forall_mem_cons.mpr ⟨pf_56, (List.forall_mem_cons.mpr ⟨pf_57, (List.forall_mem_cons.mpr ⟨pf_58, (List.forall_mem_cons.mpr ⟨pf_59, (List.forall_mem_cons.mpr ⟨pf_60, (List.forall_mem_cons.mpr ⟨pf_61, (List.forall_mem_cons.mpr ⟨pf_62, (List.forall_mem_cons.mpr ⟨pf_63, (List.forall_mem_cons.mpr ⟨pf_64, (List.forall_mem_cons.mpr ⟨pf_65, (List.forall_mem_cons.mpr ⟨pf_66, (List.forall_mem_cons.mpr ⟨pf_67, (List.forall_mem_cons.mpr ⟨pf_68, (List.forall_mem_cons.mpr ⟨pf_69, (List.forall_mem_cons.mpr ⟨pf_70, (List.forall_mem_cons.mpr ⟨pf_71, (List.forall_mem_cons.mpr ⟨pf_72, (List.forall_mem_cons.mpr ⟨pf_73, (List.forall_mem_cons.mpr ⟨pf_74, (List.forall_mem_cons.mpr ⟨pf_75, (List.forall_mem_cons.mpr ⟨pf_76, (List.forall_mem_cons.mpr ⟨pf_77, (List.forall_mem_cons.mpr ⟨pf_78, (List.forall_mem_cons.mpr ⟨pf_79, (List.forall_mem_cons.mpr ⟨pf_80, (List.forall_mem_cons.mpr ⟨pf_81, (List.forall_mem_cons.mpr ⟨pf_82, (List.forall_mem_cons.mpr ⟨pf_83, (List.forall_mem_cons.mpr ⟨pf_84, (List.forall_mem_cons.mpr ⟨pf_85, (List.forall_mem_cons.mpr ⟨pf_86, (List.forall_mem_cons.mpr ⟨pf_87, (List.forall_mem_cons.mpr ⟨pf_88, (List.forall_mem_cons.mpr ⟨pf_89, (List.forall_mem_cons.mpr ⟨pf_90, (List.forall_mem_cons.mpr ⟨pf_91, (List.forall_mem_cons.mpr ⟨pf_92, (List.forall_mem_cons.mpr ⟨pf_93, (List.forall_mem_cons.mpr ⟨pf_94, (List.forall_mem_cons.mpr ⟨pf_95, (List.forall_mem_cons.mpr ⟨pf_96, (List.forall_mem_cons.mpr ⟨pf_97, (List.forall_mem_cons.mpr ⟨pf_98, (List.forall_mem_cons.mpr ⟨pf_99, (List.forall_mem_cons.mpr ⟨pf_100, (List.forall_mem_cons.mpr ⟨pf_101, (List.forall_mem_cons.mpr ⟨pf_102, (List.forall_mem_cons.mpr ⟨pf_103, (List.forall_mem_cons.mpr ⟨pf_104, (List.forall_mem_cons.mpr ⟨pf_105, (List.forall_mem_cons.mpr ⟨pf_106, (List.forall_mem_cons.mpr ⟨pf_107, (List.forall_mem_cons.mpr ⟨pf_108, (List.forall_mem_cons.mpr ⟨pf_109, (List.forall_mem_cons.mpr ⟨pf_110, (List.forall_mem_cons.mpr ⟨pf_111, (fun _ h => absurd h List.not_mem_nil)⟩)⟩)⟩)⟩)⟩)⟩)⟩)⟩)⟩)⟩)⟩)⟩)⟩)⟩)⟩)⟩)⟩)⟩)⟩)⟩)⟩)⟩)⟩)⟩)⟩)⟩)⟩)⟩)⟩)⟩)⟩)⟩)⟩)⟩)⟩)⟩)⟩)⟩)⟩)⟩)⟩)⟩)⟩)⟩)⟩)⟩)⟩)⟩)⟩)⟩)⟩)⟩)⟩)⟩)⟩)⟩)⟩)⟩)⟩)⟩)⟩)⟩)⟩)⟩)⟩)⟩)⟩)⟩)⟩)⟩)⟩)⟩)⟩)⟩)⟩)⟩)⟩)⟩)⟩)⟩)⟩)⟩)⟩)⟩)⟩)⟩)⟩)⟩)⟩)⟩)⟩)⟩)⟩)⟩)⟩)⟩)⟩)⟩)⟩)⟩)⟩)⟩)⟩)⟩)⟩)⟩)⟩)⟩)⟩)⟩)⟩)⟩)
def PT (c : Nat) (q : vw_C) : Prop := (∀ w ∈ u_ws q.1 q.2.1 q.2.2, w ∈ gt) ∧ q.2.2 = csize c ∧ clsN (cnum c) = q.1 ∧ Cond.instantiable q.1 q.2.2 ∈ gt ∧ Cond.initialized q.1 ∈ gt ∧ (∀ a, a < q.2.2 → ∀ b, b < q.2.2 → a ≠ b → (q.2.1 a).2.1 ≠ (q.2.1 b).2.1) ∧ ∃ ty : Nat → FieldType, (∀ k, k < q.2.2 → parseFieldDescriptor (q.2.1 k).2.2.1 = some (ty k)) ∧ ∀ k, k < q.2.2 → (q.2.1 k).1 = q.1 ∧ (q.2.1 k).2.2.2 = (fkind c k).2 ∧ (match (fkind c k).1 with | 0 => ty k = .int | 1 => ty k = .long | 3 => ty k = .boolean | 2 => (∃ C, ty k = .object C) ∨ (∃ t, ty k = .array t) | _ => False)
set_option maxRecDepth 20000 in
theorem inG0 : ∀ w ∈ u_ws RX0 TX0 2, w ∈ gt := (List.forall_mem_cons.mpr ⟨(gt_in (tch2 (List.mem_of_getElem? (i := 15) rfl)) rfl), (List.forall_mem_cons.mpr ⟨(gt_in (tch2 (List.mem_of_getElem? (i := 17) rfl)) rfl), (fun _ h => absurd h List.not_mem_nil)⟩)⟩)
set_option maxRecDepth 20000 in
theorem pt0 : PT 0 (RX0, TX0, 2) := by
  refine ⟨inG0, by decide, by decide, (gt_in (tch2 (List.mem_of_getElem? (i := 8) rfl)) rfl), (gt_in (tch1 (List.mem_of_getElem? (i := 11) rfl)) rfl), nmX0, tyX0, tyX0_ok, ?_⟩
  intro k hk
  match k, hk with
  | 0, _ => exact ⟨rfl, rfl, Or.inr ⟨_, rfl⟩⟩
  | 1, _ => exact ⟨rfl, rfl, Or.inr ⟨_, rfl⟩⟩
  | k + 2, hk => exact absurd hk (by show ¬ (k + 2 < 2); omega)
set_option maxRecDepth 20000 in
theorem inG1 : ∀ w ∈ u_ws RX1 TX1 6, w ∈ gt := (List.forall_mem_cons.mpr ⟨(gt_in (tch1 (List.mem_of_getElem? (i := 165) rfl)) rfl), (List.forall_mem_cons.mpr ⟨(gt_in (tch1 (List.mem_of_getElem? (i := 167) rfl)) rfl), (List.forall_mem_cons.mpr ⟨(gt_in (tch1 (List.mem_of_getElem? (i := 169) rfl)) rfl), (List.forall_mem_cons.mpr ⟨(gt_in (tch1 (List.mem_of_getElem? (i := 171) rfl)) rfl), (List.forall_mem_cons.mpr ⟨(gt_in (tch1 (List.mem_of_getElem? (i := 173) rfl)) rfl), (List.forall_mem_cons.mpr ⟨(gt_in (tch1 (List.mem_of_getElem? (i := 175) rfl)) rfl), (fun _ h => absurd h List.not_mem_nil)⟩)⟩)⟩)⟩)⟩)⟩)
set_option maxRecDepth 20000 in
theorem pt1 : PT 1 (RX1, TX1, 6) := by
  refine ⟨inG1, by decide, by decide, (gt_in (tch1 (List.mem_of_getElem? (i := 139) rfl)) rfl), (gt_in (tch1 (List.mem_of_getElem? (i := 6) rfl)) rfl), nmX1, tyX1, tyX1_ok, ?_⟩
  intro k hk
  match k, hk with
  | 0, _ => exact ⟨rfl, rfl, rfl⟩
  | 1, _ => exact ⟨rfl, rfl, rfl⟩
  | 2, _ => exact ⟨rfl, rfl, rfl⟩
  | 3, _ => exact ⟨rfl, rfl, rfl⟩
  | 4, _ => exact ⟨rfl, rfl, Or.inr ⟨_, rfl⟩⟩
  | 5, _ => exact ⟨rfl, rfl, Or.inr ⟨_, rfl⟩⟩
  | k + 6, hk => exact absurd hk (by show ¬ (k + 6 < 6); omega)
set_option maxRecDepth 20000 in
theorem inG2 : ∀ w ∈ u_ws RX2 TX2 3, w ∈ gt := (List.forall_mem_cons.mpr ⟨(gt_in (tch1 (List.mem_of_getElem? (i := 230) rfl)) rfl), (List.forall_mem_cons.mpr ⟨(gt_in (tch1 (List.mem_of_getElem? (i := 232) rfl)) rfl), (List.forall_mem_cons.mpr ⟨(gt_in (tch1 (List.mem_of_getElem? (i := 234) rfl)) rfl), (fun _ h => absurd h List.not_mem_nil)⟩)⟩)⟩)
set_option maxRecDepth 20000 in
theorem pt2 : PT 2 (RX2, TX2, 3) := by
  refine ⟨inG2, by decide, by decide, (gt_in (tch1 (List.mem_of_getElem? (i := 218) rfl)) rfl), (gt_in (tch1 (List.mem_of_getElem? (i := 9) rfl)) rfl), nmX2, tyX2, tyX2_ok, ?_⟩
  intro k hk
  match k, hk with
  | 0, _ => exact ⟨rfl, rfl, rfl⟩
  | 1, _ => exact ⟨rfl, rfl, rfl⟩
  | 2, _ => exact ⟨rfl, rfl, Or.inr ⟨_, rfl⟩⟩
  | k + 3, hk => exact absurd hk (by show ¬ (k + 3 < 3); omega)
set_option maxRecDepth 20000 in
theorem inG3 : ∀ w ∈ u_ws RX3 TX3 1, w ∈ gt := (List.forall_mem_cons.mpr ⟨(gt_in (tch2 (List.mem_of_getElem? (i := 4) rfl)) rfl), (fun _ h => absurd h List.not_mem_nil)⟩)
set_option maxRecDepth 20000 in
theorem pt3 : PT 3 (RX3, TX3, 1) := by
  refine ⟨inG3, by decide, by decide, (gt_in (tch1 (List.mem_of_getElem? (i := 238) rfl)) rfl), (gt_in (tch1 (List.mem_of_getElem? (i := 10) rfl)) rfl), nmX3, tyX3, tyX3_ok, ?_⟩
  intro k hk
  match k, hk with
  | 0, _ => exact ⟨rfl, rfl, Or.inr ⟨_, rfl⟩⟩
  | k + 1, hk => exact absurd hk (by show ¬ (k + 1 < 1); omega)
set_option maxRecDepth 20000 in
theorem inG5 : ∀ w ∈ u_ws RX5 TX5 12, w ∈ gt := (List.forall_mem_cons.mpr ⟨(gt_in (tch1 (List.mem_of_getElem? (i := 105) rfl)) rfl), (List.forall_mem_cons.mpr ⟨(gt_in (tch1 (List.mem_of_getElem? (i := 107) rfl)) rfl), (List.forall_mem_cons.mpr ⟨(gt_in (tch1 (List.mem_of_getElem? (i := 109) rfl)) rfl), (List.forall_mem_cons.mpr ⟨(gt_in (tch1 (List.mem_of_getElem? (i := 111) rfl)) rfl), (List.forall_mem_cons.mpr ⟨(gt_in (tch1 (List.mem_of_getElem? (i := 113) rfl)) rfl), (List.forall_mem_cons.mpr ⟨(gt_in (tch1 (List.mem_of_getElem? (i := 115) rfl)) rfl), (List.forall_mem_cons.mpr ⟨(gt_in (tch1 (List.mem_of_getElem? (i := 117) rfl)) rfl), (List.forall_mem_cons.mpr ⟨(gt_in (tch1 (List.mem_of_getElem? (i := 119) rfl)) rfl), (List.forall_mem_cons.mpr ⟨(gt_in (tch1 (List.mem_of_getElem? (i := 121) rfl)) rfl), (List.forall_mem_cons.mpr ⟨(gt_in (tch1 (List.mem_of_getElem? (i := 123) rfl)) rfl), (List.forall_mem_cons.mpr ⟨(gt_in (tch1 (List.mem_of_getElem? (i := 125) rfl)) rfl), (List.forall_mem_cons.mpr ⟨(gt_in (tch1 (List.mem_of_getElem? (i := 127) rfl)) rfl), (fun _ h => absurd h List.not_mem_nil)⟩)⟩)⟩)⟩)⟩)⟩)⟩)⟩)⟩)⟩)⟩)⟩)
set_option maxRecDepth 20000 in
theorem pt5 : PT 4 (RX5, TX5, 12) := by
  refine ⟨inG5, by decide, by decide, (gt_in (tch1 (List.mem_of_getElem? (i := 30) rfl)) rfl), (gt_in (tch1 (List.mem_of_getElem? (i := 2) rfl)) rfl), nmX5, tyX5, tyX5_ok, ?_⟩
  intro k hk
  match k, hk with
  | 0, _ => exact ⟨rfl, rfl, rfl⟩
  | 1, _ => exact ⟨rfl, rfl, rfl⟩
  | 2, _ => exact ⟨rfl, rfl, Or.inl ⟨_, rfl⟩⟩
  | 3, _ => exact ⟨rfl, rfl, Or.inl ⟨_, rfl⟩⟩
  | 4, _ => exact ⟨rfl, rfl, rfl⟩
  | 5, _ => exact ⟨rfl, rfl, rfl⟩
  | 6, _ => exact ⟨rfl, rfl, rfl⟩
  | 7, _ => exact ⟨rfl, rfl, rfl⟩
  | 8, _ => exact ⟨rfl, rfl, rfl⟩
  | 9, _ => exact ⟨rfl, rfl, rfl⟩
  | 10, _ => exact ⟨rfl, rfl, Or.inr ⟨_, rfl⟩⟩
  | 11, _ => exact ⟨rfl, rfl, Or.inr ⟨_, rfl⟩⟩
  | k + 12, hk => exact absurd hk (by show ¬ (k + 12 < 12); omega)
set_option maxRecDepth 20000 in
theorem inG7 : ∀ w ∈ u_ws RX7 TX7 2, w ∈ gt := (List.forall_mem_cons.mpr ⟨(gt_in (tch1 (List.mem_of_getElem? (i := 84) rfl)) rfl), (List.forall_mem_cons.mpr ⟨(gt_in (tch1 (List.mem_of_getElem? (i := 86) rfl)) rfl), (fun _ h => absurd h List.not_mem_nil)⟩)⟩)
set_option maxRecDepth 20000 in
theorem pt7 : PT 5 (RX7, TX7, 2) := by
  refine ⟨inG7, by decide, by decide, (gt_in (tch1 (List.mem_of_getElem? (i := 68) rfl)) rfl), (gt_in (tch1 (List.mem_of_getElem? (i := 4) rfl)) rfl), nmX7, tyX7, tyX7_ok, ?_⟩
  intro k hk
  match k, hk with
  | 0, _ => exact ⟨rfl, rfl, rfl⟩
  | 1, _ => exact ⟨rfl, rfl, Or.inr ⟨_, rfl⟩⟩
  | k + 2, hk => exact absurd hk (by show ¬ (k + 2 < 2); omega)
set_option maxRecDepth 20000 in
theorem inG8 : ∀ w ∈ u_ws RX8 TX8 9, w ∈ gt := (List.forall_mem_cons.mpr ⟨(gt_in (tch1 (List.mem_of_getElem? (i := 198) rfl)) rfl), (List.forall_mem_cons.mpr ⟨(gt_in (tch1 (List.mem_of_getElem? (i := 200) rfl)) rfl), (List.forall_mem_cons.mpr ⟨(gt_in (tch1 (List.mem_of_getElem? (i := 202) rfl)) rfl), (List.forall_mem_cons.mpr ⟨(gt_in (tch1 (List.mem_of_getElem? (i := 204) rfl)) rfl), (List.forall_mem_cons.mpr ⟨(gt_in (tch1 (List.mem_of_getElem? (i := 206) rfl)) rfl), (List.forall_mem_cons.mpr ⟨(gt_in (tch1 (List.mem_of_getElem? (i := 208) rfl)) rfl), (List.forall_mem_cons.mpr ⟨(gt_in (tch1 (List.mem_of_getElem? (i := 210) rfl)) rfl), (List.forall_mem_cons.mpr ⟨(gt_in (tch1 (List.mem_of_getElem? (i := 212) rfl)) rfl), (List.forall_mem_cons.mpr ⟨(gt_in (tch1 (List.mem_of_getElem? (i := 214) rfl)) rfl), (fun _ h => absurd h List.not_mem_nil)⟩)⟩)⟩)⟩)⟩)⟩)⟩)⟩)⟩)
set_option maxRecDepth 20000 in
theorem pt8 : PT 6 (RX8, TX8, 9) := by
  refine ⟨inG8, by decide, by decide, (gt_in (tch1 (List.mem_of_getElem? (i := 131) rfl)) rfl), (gt_in (tch1 (List.mem_of_getElem? (i := 5) rfl)) rfl), nmX8, tyX8, tyX8_ok, ?_⟩
  intro k hk
  match k, hk with
  | 0, _ => exact ⟨rfl, rfl, rfl⟩
  | 1, _ => exact ⟨rfl, rfl, rfl⟩
  | 2, _ => exact ⟨rfl, rfl, rfl⟩
  | 3, _ => exact ⟨rfl, rfl, rfl⟩
  | 4, _ => exact ⟨rfl, rfl, Or.inr ⟨_, rfl⟩⟩
  | 5, _ => exact ⟨rfl, rfl, Or.inr ⟨_, rfl⟩⟩
  | 6, _ => exact ⟨rfl, rfl, Or.inl ⟨_, rfl⟩⟩
  | 7, _ => exact ⟨rfl, rfl, Or.inr ⟨_, rfl⟩⟩
  | 8, _ => exact ⟨rfl, rfl, Or.inr ⟨_, rfl⟩⟩
  | k + 9, hk => exact absurd hk (by show ¬ (k + 9 < 9); omega)
set_option maxRecDepth 20000 in
theorem inG9 : ∀ w ∈ u_ws RX9 TX9 6, w ∈ gt := (List.forall_mem_cons.mpr ⟨(gt_in (tch1 (List.mem_of_getElem? (i := 52) rfl)) rfl), (List.forall_mem_cons.mpr ⟨(gt_in (tch1 (List.mem_of_getElem? (i := 54) rfl)) rfl), (List.forall_mem_cons.mpr ⟨(gt_in (tch1 (List.mem_of_getElem? (i := 56) rfl)) rfl), (List.forall_mem_cons.mpr ⟨(gt_in (tch1 (List.mem_of_getElem? (i := 58) rfl)) rfl), (List.forall_mem_cons.mpr ⟨(gt_in (tch1 (List.mem_of_getElem? (i := 60) rfl)) rfl), (List.forall_mem_cons.mpr ⟨(gt_in (tch1 (List.mem_of_getElem? (i := 62) rfl)) rfl), (fun _ h => absurd h List.not_mem_nil)⟩)⟩)⟩)⟩)⟩)⟩)
set_option maxRecDepth 20000 in
theorem pt9 : PT 7 (RX9, TX9, 6) := by
  refine ⟨inG9, by decide, by decide, (gt_in (tch1 (List.mem_of_getElem? (i := 36) rfl)) rfl), (gt_in (tch1 (List.mem_of_getElem? (i := 3) rfl)) rfl), nmX9, tyX9, tyX9_ok, ?_⟩
  intro k hk
  match k, hk with
  | 0, _ => exact ⟨rfl, rfl, rfl⟩
  | 1, _ => exact ⟨rfl, rfl, rfl⟩
  | 2, _ => exact ⟨rfl, rfl, Or.inr ⟨_, rfl⟩⟩
  | 3, _ => exact ⟨rfl, rfl, Or.inr ⟨_, rfl⟩⟩
  | 4, _ => exact ⟨rfl, rfl, Or.inr ⟨_, rfl⟩⟩
  | 5, _ => exact ⟨rfl, rfl, Or.inr ⟨_, rfl⟩⟩
  | k + 6, hk => exact absurd hk (by show ¬ (k + 6 < 6); omega)
set_option maxRecDepth 20000 in
theorem inG10 : ∀ w ∈ u_ws RX10 TX10 8, w ∈ gt := (List.forall_mem_cons.mpr ⟨(gt_in (tch2 (List.mem_of_getElem? (i := 30) rfl)) rfl), (List.forall_mem_cons.mpr ⟨(gt_in (tch2 (List.mem_of_getElem? (i := 32) rfl)) rfl), (List.forall_mem_cons.mpr ⟨(gt_in (tch2 (List.mem_of_getElem? (i := 34) rfl)) rfl), (List.forall_mem_cons.mpr ⟨(gt_in (tch2 (List.mem_of_getElem? (i := 36) rfl)) rfl), (List.forall_mem_cons.mpr ⟨(gt_in (tch2 (List.mem_of_getElem? (i := 38) rfl)) rfl), (List.forall_mem_cons.mpr ⟨(gt_in (tch2 (List.mem_of_getElem? (i := 40) rfl)) rfl), (List.forall_mem_cons.mpr ⟨(gt_in (tch2 (List.mem_of_getElem? (i := 42) rfl)) rfl), (List.forall_mem_cons.mpr ⟨(gt_in (tch2 (List.mem_of_getElem? (i := 44) rfl)) rfl), (fun _ h => absurd h List.not_mem_nil)⟩)⟩)⟩)⟩)⟩)⟩)⟩)⟩)
set_option maxRecDepth 20000 in
theorem pt10 : PT 8 (RX10, TX10, 8) := by
  refine ⟨inG10, by decide, by decide, (gt_in (tch1 (List.mem_of_getElem? (i := 22) rfl)) rfl), (gt_in (tch1 (List.mem_of_getElem? (i := 1) rfl)) rfl), nmX10, tyX10, tyX10_ok, ?_⟩
  intro k hk
  match k, hk with
  | 0, _ => exact ⟨rfl, rfl, Or.inl ⟨_, rfl⟩⟩
  | 1, _ => exact ⟨rfl, rfl, Or.inl ⟨_, rfl⟩⟩
  | 2, _ => exact ⟨rfl, rfl, Or.inl ⟨_, rfl⟩⟩
  | 3, _ => exact ⟨rfl, rfl, Or.inl ⟨_, rfl⟩⟩
  | 4, _ => exact ⟨rfl, rfl, Or.inl ⟨_, rfl⟩⟩
  | 5, _ => exact ⟨rfl, rfl, Or.inl ⟨_, rfl⟩⟩
  | 6, _ => exact ⟨rfl, rfl, Or.inl ⟨_, rfl⟩⟩
  | 7, _ => exact ⟨rfl, rfl, Or.inl ⟨_, rfl⟩⟩
  | k + 8, hk => exact absurd hk (by show ¬ (k + 8 < 8); omega)
set_option maxRecDepth 20000 in
theorem inG11 : ∀ w ∈ u_ws RX11 TX11 30, w ∈ gt := (List.forall_mem_cons.mpr ⟨(gt_in (tch4 (List.mem_of_getElem? (i := 155) rfl)) rfl), (List.forall_mem_cons.mpr ⟨(gt_in (tch4 (List.mem_of_getElem? (i := 157) rfl)) rfl), (List.forall_mem_cons.mpr ⟨(gt_in (tch4 (List.mem_of_getElem? (i := 159) rfl)) rfl), (List.forall_mem_cons.mpr ⟨(gt_in (tch4 (List.mem_of_getElem? (i := 161) rfl)) rfl), (List.forall_mem_cons.mpr ⟨(gt_in (tch4 (List.mem_of_getElem? (i := 163) rfl)) rfl), (List.forall_mem_cons.mpr ⟨(gt_in (tch4 (List.mem_of_getElem? (i := 165) rfl)) rfl), (List.forall_mem_cons.mpr ⟨(gt_in (tch4 (List.mem_of_getElem? (i := 167) rfl)) rfl), (List.forall_mem_cons.mpr ⟨(gt_in (tch4 (List.mem_of_getElem? (i := 169) rfl)) rfl), (List.forall_mem_cons.mpr ⟨(gt_in (tch4 (List.mem_of_getElem? (i := 171) rfl)) rfl), (List.forall_mem_cons.mpr ⟨(gt_in (tch4 (List.mem_of_getElem? (i := 173) rfl)) rfl), (List.forall_mem_cons.mpr ⟨(gt_in (tch4 (List.mem_of_getElem? (i := 175) rfl)) rfl), (List.forall_mem_cons.mpr ⟨(gt_in (tch4 (List.mem_of_getElem? (i := 177) rfl)) rfl), (List.forall_mem_cons.mpr ⟨(gt_in (tch4 (List.mem_of_getElem? (i := 179) rfl)) rfl), (List.forall_mem_cons.mpr ⟨(gt_in (tch4 (List.mem_of_getElem? (i := 181) rfl)) rfl), (List.forall_mem_cons.mpr ⟨(gt_in (tch4 (List.mem_of_getElem? (i := 183) rfl)) rfl), (List.forall_mem_cons.mpr ⟨(gt_in (tch4 (List.mem_of_getElem? (i := 185) rfl)) rfl), (List.forall_mem_cons.mpr ⟨(gt_in (tch4 (List.mem_of_getElem? (i := 187) rfl)) rfl), (List.forall_mem_cons.mpr ⟨(gt_in (tch4 (List.mem_of_getElem? (i := 189) rfl)) rfl), (List.forall_mem_cons.mpr ⟨(gt_in (tch4 (List.mem_of_getElem? (i := 191) rfl)) rfl), (List.forall_mem_cons.mpr ⟨(gt_in (tch4 (List.mem_of_getElem? (i := 193) rfl)) rfl), (List.forall_mem_cons.mpr ⟨(gt_in (tch4 (List.mem_of_getElem? (i := 195) rfl)) rfl), (List.forall_mem_cons.mpr ⟨(gt_in (tch4 (List.mem_of_getElem? (i := 197) rfl)) rfl), (List.forall_mem_cons.mpr ⟨(gt_in (tch4 (List.mem_of_getElem? (i := 199) rfl)) rfl), (List.forall_mem_cons.mpr ⟨(gt_in (tch4 (List.mem_of_getElem? (i := 201) rfl)) rfl), (List.forall_mem_cons.mpr ⟨(gt_in (tch4 (List.mem_of_getElem? (i := 203) rfl)) rfl), (List.forall_mem_cons.mpr ⟨(gt_in (tch4 (List.mem_of_getElem? (i := 205) rfl)) rfl), (List.forall_mem_cons.mpr ⟨(gt_in (tch4 (List.mem_of_getElem? (i := 207) rfl)) rfl), (List.forall_mem_cons.mpr ⟨(gt_in (tch4 (List.mem_of_getElem? (i := 209) rfl)) rfl), (List.forall_mem_cons.mpr ⟨(gt_in (tch4 (List.mem_of_getElem? (i := 211) rfl)) rfl), (List.forall_mem_cons.mpr ⟨(gt_in (tch4 (List.mem_of_getElem? (i := 213) rfl)) rfl), (fun _ h => absurd h List.not_mem_nil)⟩)⟩)⟩)⟩)⟩)⟩)⟩)⟩)⟩)⟩)⟩)⟩)⟩)⟩)⟩)⟩)⟩)⟩)⟩)⟩)⟩)⟩)⟩)⟩)⟩)⟩)⟩)⟩)⟩)⟩)
set_option maxRecDepth 20000 in
theorem pt11 : PT 9 (RX11, TX11, 30) := by
  refine ⟨inG11, by decide, by decide, (gt_in (tch4 (List.mem_of_getElem? (i := 116) rfl)) rfl), (gt_in (tch1 (List.mem_of_getElem? (i := 12) rfl)) rfl), nmX11, tyX11, tyX11_ok, ?_⟩
  intro k hk
  match k, hk with
  | 0, _ => exact ⟨rfl, rfl, Or.inr ⟨_, rfl⟩⟩
  | 1, _ => exact ⟨rfl, rfl, Or.inr ⟨_, rfl⟩⟩
  | 2, _ => exact ⟨rfl, rfl, Or.inr ⟨_, rfl⟩⟩
  | 3, _ => exact ⟨rfl, rfl, rfl⟩
  | 4, _ => exact ⟨rfl, rfl, rfl⟩
  | 5, _ => exact ⟨rfl, rfl, Or.inr ⟨_, rfl⟩⟩
  | 6, _ => exact ⟨rfl, rfl, Or.inr ⟨_, rfl⟩⟩
  | 7, _ => exact ⟨rfl, rfl, rfl⟩
  | 8, _ => exact ⟨rfl, rfl, rfl⟩
  | 9, _ => exact ⟨rfl, rfl, rfl⟩
  | 10, _ => exact ⟨rfl, rfl, rfl⟩
  | 11, _ => exact ⟨rfl, rfl, rfl⟩
  | 12, _ => exact ⟨rfl, rfl, rfl⟩
  | 13, _ => exact ⟨rfl, rfl, rfl⟩
  | 14, _ => exact ⟨rfl, rfl, rfl⟩
  | 15, _ => exact ⟨rfl, rfl, rfl⟩
  | 16, _ => exact ⟨rfl, rfl, rfl⟩
  | 17, _ => exact ⟨rfl, rfl, Or.inr ⟨_, rfl⟩⟩
  | 18, _ => exact ⟨rfl, rfl, Or.inr ⟨_, rfl⟩⟩
  | 19, _ => exact ⟨rfl, rfl, Or.inr ⟨_, rfl⟩⟩
  | 20, _ => exact ⟨rfl, rfl, Or.inr ⟨_, rfl⟩⟩
  | 21, _ => exact ⟨rfl, rfl, Or.inr ⟨_, rfl⟩⟩
  | 22, _ => exact ⟨rfl, rfl, Or.inr ⟨_, rfl⟩⟩
  | 23, _ => exact ⟨rfl, rfl, rfl⟩
  | 24, _ => exact ⟨rfl, rfl, Or.inr ⟨_, rfl⟩⟩
  | 25, _ => exact ⟨rfl, rfl, Or.inr ⟨_, rfl⟩⟩
  | 26, _ => exact ⟨rfl, rfl, Or.inr ⟨_, rfl⟩⟩
  | 27, _ => exact ⟨rfl, rfl, Or.inr ⟨_, rfl⟩⟩
  | 28, _ => exact ⟨rfl, rfl, Or.inr ⟨_, rfl⟩⟩
  | 29, _ => exact ⟨rfl, rfl, Or.inr ⟨_, rfl⟩⟩
  | k + 30, hk => exact absurd hk (by show ¬ (k + 30 < 30); omega)
set_option maxRecDepth 20000 in
theorem vwW : ∀ (c : Nat) (q : vw_C), vwCl[c]? = some q → PT c q := by
  intro c q h
  match c, h with
  | 0, h => cases h; exact pt0
  | 1, h => cases h; exact pt1
  | 2, h => cases h; exact pt2
  | 3, h => cases h; exact pt3
  | 4, h => cases h; exact pt5
  | 5, h => cases h; exact pt7
  | 6, h => cases h; exact pt8
  | 7, h => cases h; exact pt9
  | 8, h => cases h; exact pt10
  | 9, h => cases h; exact pt11
  | c + 10, h => simp [vwCl] at h
def PY (y : Mth) : Prop := Cond.code y.2.2.1 y.2.2.2.1 y.2.2.2.2.1 y.2.2.2.2.2 ∈ gt ∧ Cond.initialized y.2.2.1.cls ∈ gt ∧ (y.2.2.1.cls ≠ "java/lang/invoke/MethodHandle" ∧ y.2.2.1.cls ≠ "java/lang/invoke/VarHandle") ∧ clsN y.1 = y.2.2.1.cls ∧ y.2.2.2.2.1 ≤ 45 ∧ (y.2.1 = true → y.2.2.1.name = "<init>") ∧ plainName y.2.2.1.cls = true
set_option maxRecDepth 20000 in
theorem pyX0_earliest : PY MX0_earliest := ⟨(gt_in (tch4 (List.mem_of_getElem? (i := 8) rfl)) rfl), (gt_in (tch1 (List.mem_of_getElem? (i := 11) rfl)) rfl), ⟨by decide, by decide⟩, rfl, by decide, (fun h => Bool.noConfusion h), by decide⟩
set_option maxRecDepth 20000 in
theorem pyX0_init : PY MX0_init := ⟨(gt_in (tch2 (List.mem_of_getElem? (i := 11) rfl)) rfl), (gt_in (tch1 (List.mem_of_getElem? (i := 11) rfl)) rfl), ⟨by decide, by decide⟩, rfl, by decide, (fun _ => rfl), by decide⟩
set_option maxRecDepth 20000 in
theorem pyX0_needed : PY MX0_needed := ⟨(gt_in (tch4 (List.mem_of_getElem? (i := 2) rfl)) rfl), (gt_in (tch1 (List.mem_of_getElem? (i := 11) rfl)) rfl), ⟨by decide, by decide⟩, rfl, by decide, (fun h => Bool.noConfusion h), by decide⟩
set_option maxRecDepth 20000 in
theorem pyX1_copy : PY MX1_copy := ⟨(gt_in (tch3 (List.mem_of_getElem? (i := 42) rfl)) rfl), (gt_in (tch1 (List.mem_of_getElem? (i := 6) rfl)) rfl), ⟨by decide, by decide⟩, rfl, by decide, (fun h => Bool.noConfusion h), by decide⟩
set_option maxRecDepth 20000 in
theorem pyX1_countOver : PY MX1_countOver := ⟨(gt_in (tch3 (List.mem_of_getElem? (i := 85) rfl)) rfl), (gt_in (tch1 (List.mem_of_getElem? (i := 6) rfl)) rfl), ⟨by decide, by decide⟩, rfl, by decide, (fun h => Bool.noConfusion h), by decide⟩
set_option maxRecDepth 20000 in
theorem pyX1_draw : PY MX1_draw := ⟨(gt_in (tch3 (List.mem_of_getElem? (i := 66) rfl)) rfl), (gt_in (tch1 (List.mem_of_getElem? (i := 6) rfl)) rfl), ⟨by decide, by decide⟩, rfl, by decide, (fun h => Bool.noConfusion h), by decide⟩
set_option maxRecDepth 20000 in
theorem pyX1_init : PY MX1_init := ⟨(gt_in (tch1 (List.mem_of_getElem? (i := 142) rfl)) rfl), (gt_in (tch1 (List.mem_of_getElem? (i := 6) rfl)) rfl), ⟨by decide, by decide⟩, rfl, by decide, (fun _ => rfl), by decide⟩
set_option maxRecDepth 20000 in
theorem pyX1_isCovered : PY MX1_isCovered := ⟨(gt_in (tch4 (List.mem_of_getElem? (i := 54) rfl)) rfl), (gt_in (tch1 (List.mem_of_getElem? (i := 6) rfl)) rfl), ⟨by decide, by decide⟩, rfl, by decide, (fun h => Bool.noConfusion h), by decide⟩
set_option maxRecDepth 20000 in
theorem pyX1_isOverLike : PY MX1_isOverLike := ⟨(gt_in (tch4 (List.mem_of_getElem? (i := 82) rfl)) rfl), (gt_in (tch1 (List.mem_of_getElem? (i := 6) rfl)) rfl), ⟨by decide, by decide⟩, rfl, by decide, (fun h => Bool.noConfusion h), by decide⟩
set_option maxRecDepth 20000 in
theorem pyX1_leastFree : PY MX1_leastFree := ⟨(gt_in (tch4 (List.mem_of_getElem? (i := 50) rfl)) rfl), (gt_in (tch1 (List.mem_of_getElem? (i := 6) rfl)) rfl), ⟨by decide, by decide⟩, rfl, by decide, (fun h => Bool.noConfusion h), by decide⟩
set_option maxRecDepth 20000 in
theorem pyX1_make : PY MX1_make := ⟨(gt_in (tch3 (List.mem_of_getElem? (i := 72) rfl)) rfl), (gt_in (tch1 (List.mem_of_getElem? (i := 6) rfl)) rfl), ⟨by decide, by decide⟩, rfl, by decide, (fun h => Bool.noConfusion h), by decide⟩
set_option maxRecDepth 20000 in
theorem pyX1_singInThought : PY MX1_singInThought := ⟨(gt_in (tch4 (List.mem_of_getElem? (i := 77) rfl)) rfl), (gt_in (tch1 (List.mem_of_getElem? (i := 6) rfl)) rfl), ⟨by decide, by decide⟩, rfl, by decide, (fun h => Bool.noConfusion h), by decide⟩
set_option maxRecDepth 20000 in
theorem pyX1_startAnew : PY MX1_startAnew := ⟨(gt_in (tch2 (List.mem_of_getElem? (i := 66) rfl)) rfl), (gt_in (tch1 (List.mem_of_getElem? (i := 6) rfl)) rfl), ⟨by decide, by decide⟩, rfl, by decide, (fun h => Bool.noConfusion h), by decide⟩
set_option maxRecDepth 20000 in
theorem pyX1_timesOver : PY MX1_timesOver := ⟨(gt_in (tch3 (List.mem_of_getElem? (i := 136) rfl)) rfl), (gt_in (tch1 (List.mem_of_getElem? (i := 6) rfl)) rfl), ⟨by decide, by decide⟩, rfl, by decide, (fun h => Bool.noConfusion h), by decide⟩
set_option maxRecDepth 20000 in
theorem pyX2_forget : PY MX2_forget := ⟨(gt_in (tch2 (List.mem_of_getElem? (i := 54) rfl)) rfl), (gt_in (tch1 (List.mem_of_getElem? (i := 9) rfl)) rfl), ⟨by decide, by decide⟩, rfl, by decide, (fun h => Bool.noConfusion h), by decide⟩
set_option maxRecDepth 20000 in
theorem pyX2_goBack : PY MX2_goBack := ⟨(gt_in (tch4 (List.mem_of_getElem? (i := 99) rfl)) rfl), (gt_in (tch1 (List.mem_of_getElem? (i := 9) rfl)) rfl), ⟨by decide, by decide⟩, rfl, by decide, (fun h => Bool.noConfusion h), by decide⟩
set_option maxRecDepth 20000 in
theorem pyX2_init : PY MX2_init := ⟨(gt_in (tch1 (List.mem_of_getElem? (i := 221) rfl)) rfl), (gt_in (tch1 (List.mem_of_getElem? (i := 9) rfl)) rfl), ⟨by decide, by decide⟩, rfl, by decide, (fun _ => rfl), by decide⟩
set_option maxRecDepth 20000 in
theorem pyX2_remember : PY MX2_remember := ⟨(gt_in (tch3 (List.mem_of_getElem? (i := 38) rfl)) rfl), (gt_in (tch1 (List.mem_of_getElem? (i := 9) rfl)) rfl), ⟨by decide, by decide⟩, rfl, by decide, (fun h => Bool.noConfusion h), by decide⟩
set_option maxRecDepth 20000 in
theorem pyX3_countOf : PY MX3_countOf := ⟨(gt_in (tch3 (List.mem_of_getElem? (i := 203) rfl)) rfl), (gt_in (tch1 (List.mem_of_getElem? (i := 10) rfl)) rfl), ⟨by decide, by decide⟩, rfl, by decide, (fun h => Bool.noConfusion h), by decide⟩
set_option maxRecDepth 20000 in
theorem pyX3_firstOf : PY MX3_firstOf := ⟨(gt_in (tch3 (List.mem_of_getElem? (i := 213) rfl)) rfl), (gt_in (tch1 (List.mem_of_getElem? (i := 10) rfl)) rfl), ⟨by decide, by decide⟩, rfl, by decide, (fun h => Bool.noConfusion h), by decide⟩
set_option maxRecDepth 20000 in
theorem pyX3_init : PY MX3_init := ⟨(gt_in (tch2 (List.mem_of_getElem? (i := 1) rfl)) rfl), (gt_in (tch1 (List.mem_of_getElem? (i := 10) rfl)) rfl), ⟨by decide, by decide⟩, rfl, by decide, (fun _ => rfl), by decide⟩
set_option maxRecDepth 20000 in
theorem pyX3_isSameColours : PY MX3_isSameColours := ⟨(gt_in (tch3 (List.mem_of_getElem? (i := 200) rfl)) rfl), (gt_in (tch1 (List.mem_of_getElem? (i := 10) rfl)) rfl), ⟨by decide, by decide⟩, rfl, by decide, (fun h => Bool.noConfusion h), by decide⟩
set_option maxRecDepth 20000 in
theorem pyX3_longestCommon : PY MX3_longestCommon := ⟨(gt_in (tch3 (List.mem_of_getElem? (i := 208) rfl)) rfl), (gt_in (tch1 (List.mem_of_getElem? (i := 10) rfl)) rfl), ⟨by decide, by decide⟩, rfl, by decide, (fun h => Bool.noConfusion h), by decide⟩
set_option maxRecDepth 20000 in
theorem pyX3_needed : PY MX3_needed := ⟨(gt_in (tch3 (List.mem_of_getElem? (i := 197) rfl)) rfl), (gt_in (tch1 (List.mem_of_getElem? (i := 10) rfl)) rfl), ⟨by decide, by decide⟩, rfl, by decide, (fun h => Bool.noConfusion h), by decide⟩
set_option maxRecDepth 20000 in
theorem pyX4_asked : PY MX4_asked := ⟨(gt_in (tch3 (List.mem_of_getElem? (i := 79) rfl)) rfl), (gt_in (tch1 (List.mem_of_getElem? (i := 17) rfl)) rfl), ⟨by decide, by decide⟩, rfl, by decide, (fun h => Bool.noConfusion h), by decide⟩
set_option maxRecDepth 20000 in
theorem pyX4_cross : PY MX4_cross := ⟨(gt_in (tch4 (List.mem_of_getElem? (i := 11) rfl)) rfl), (gt_in (tch1 (List.mem_of_getElem? (i := 17) rfl)) rfl), ⟨by decide, by decide⟩, rfl, by decide, (fun h => Bool.noConfusion h), by decide⟩
set_option maxRecDepth 20000 in
theorem pyX4_findsColour : PY MX4_findsColour := ⟨(gt_in (tch3 (List.mem_of_getElem? (i := 76) rfl)) rfl), (gt_in (tch1 (List.mem_of_getElem? (i := 17) rfl)) rfl), ⟨by decide, by decide⟩, rfl, by decide, (fun h => Bool.noConfusion h), by decide⟩
set_option maxRecDepth 20000 in
theorem pyX4_from : PY MX4_from := ⟨(gt_in (tch3 (List.mem_of_getElem? (i := 53) rfl)) rfl), (gt_in (tch1 (List.mem_of_getElem? (i := 17) rfl)) rfl), ⟨by decide, by decide⟩, rfl, by decide, (fun h => Bool.noConfusion h), by decide⟩
set_option maxRecDepth 20000 in
theorem pyX4_isBetween : PY MX4_isBetween := ⟨(gt_in (tch4 (List.mem_of_getElem? (i := 14) rfl)) rfl), (gt_in (tch1 (List.mem_of_getElem? (i := 17) rfl)) rfl), ⟨by decide, by decide⟩, rfl, by decide, (fun h => Bool.noConfusion h), by decide⟩
set_option maxRecDepth 20000 in
theorem pyX4_isTurn : PY MX4_isTurn := ⟨(gt_in (tch3 (List.mem_of_getElem? (i := 59) rfl)) rfl), (gt_in (tch1 (List.mem_of_getElem? (i := 17) rfl)) rfl), ⟨by decide, by decide⟩, rfl, by decide, (fun h => Bool.noConfusion h), by decide⟩
set_option maxRecDepth 20000 in
theorem pyX4_kind : PY MX4_kind := ⟨(gt_in (tch3 (List.mem_of_getElem? (i := 62) rfl)) rfl), (gt_in (tch1 (List.mem_of_getElem? (i := 17) rfl)) rfl), ⟨by decide, by decide⟩, rfl, by decide, (fun h => Bool.noConfusion h), by decide⟩
set_option maxRecDepth 20000 in
theorem pyX4_madeOn : PY MX4_madeOn := ⟨(gt_in (tch3 (List.mem_of_getElem? (i := 98) rfl)) rfl), (gt_in (tch1 (List.mem_of_getElem? (i := 17) rfl)) rfl), ⟨by decide, by decide⟩, rfl, by decide, (fun h => Bool.noConfusion h), by decide⟩
set_option maxRecDepth 20000 in
theorem pyX4_mirrored : PY MX4_mirrored := ⟨(gt_in (tch3 (List.mem_of_getElem? (i := 183) rfl)) rfl), (gt_in (tch1 (List.mem_of_getElem? (i := 17) rfl)) rfl), ⟨by decide, by decide⟩, rfl, by decide, (fun h => Bool.noConfusion h), by decide⟩
set_option maxRecDepth 20000 in
theorem pyX4_packed : PY MX4_packed := ⟨(gt_in (tch2 (List.mem_of_getElem? (i := 235) rfl)) rfl), (gt_in (tch1 (List.mem_of_getElem? (i := 17) rfl)) rfl), ⟨by decide, by decide⟩, rfl, by decide, (fun h => Bool.noConfusion h), by decide⟩
set_option maxRecDepth 20000 in
theorem pyX4_to : PY MX4_to := ⟨(gt_in (tch3 (List.mem_of_getElem? (i := 89) rfl)) rfl), (gt_in (tch1 (List.mem_of_getElem? (i := 17) rfl)) rfl), ⟨by decide, by decide⟩, rfl, by decide, (fun h => Bool.noConfusion h), by decide⟩
set_option maxRecDepth 20000 in
theorem pyX4_withoutAsking : PY MX4_withoutAsking := ⟨(gt_in (tch4 (List.mem_of_getElem? (i := 37) rfl)) rfl), (gt_in (tch1 (List.mem_of_getElem? (i := 17) rfl)) rfl), ⟨by decide, by decide⟩, rfl, by decide, (fun h => Bool.noConfusion h), by decide⟩
set_option maxRecDepth 20000 in
theorem pyX5_append : PY MX5_append := ⟨(gt_in (tch2 (List.mem_of_getElem? (i := 239) rfl)) rfl), (gt_in (tch1 (List.mem_of_getElem? (i := 2) rfl)) rfl), ⟨by decide, by decide⟩, rfl, by decide, (fun h => Bool.noConfusion h), by decide⟩
set_option maxRecDepth 20000 in
theorem pyX5_fail : PY MX5_fail := ⟨(gt_in (tch2 (List.mem_of_getElem? (i := 216) rfl)) rfl), (gt_in (tch1 (List.mem_of_getElem? (i := 2) rfl)) rfl), ⟨by decide, by decide⟩, rfl, by decide, (fun h => Bool.noConfusion h), by decide⟩
set_option maxRecDepth 20000 in
theorem pyX5_forgetFault : PY MX5_forgetFault := ⟨(gt_in (tch2 (List.mem_of_getElem? (i := 106) rfl)) rfl), (gt_in (tch1 (List.mem_of_getElem? (i := 2) rfl)) rfl), ⟨by decide, by decide⟩, rfl, by decide, (fun h => Bool.noConfusion h), by decide⟩
set_option maxRecDepth 20000 in
theorem pyX5_init : PY MX5_init := ⟨(gt_in (tch1 (List.mem_of_getElem? (i := 33) rfl)) rfl), (gt_in (tch1 (List.mem_of_getElem? (i := 2) rfl)) rfl), ⟨by decide, by decide⟩, rfl, by decide, (fun _ => rfl), by decide⟩
set_option maxRecDepth 20000 in
theorem pyX5_read : PY MX5_read := ⟨(gt_in (tch2 (List.mem_of_getElem? (i := 113) rfl)) rfl), (gt_in (tch1 (List.mem_of_getElem? (i := 2) rfl)) rfl), ⟨by decide, by decide⟩, rfl, by decide, (fun h => Bool.noConfusion h), by decide⟩
set_option maxRecDepth 20000 in
theorem pyX5_readAsked : PY MX5_readAsked := ⟨(gt_in (tch2 (List.mem_of_getElem? (i := 232) rfl)) rfl), (gt_in (tch1 (List.mem_of_getElem? (i := 2) rfl)) rfl), ⟨by decide, by decide⟩, rfl, by decide, (fun h => Bool.noConfusion h), by decide⟩
set_option maxRecDepth 20000 in
theorem pyX5_readClosing : PY MX5_readClosing := ⟨(gt_in (tch3 (List.mem_of_getElem? (i := 19) rfl)) rfl), (gt_in (tch1 (List.mem_of_getElem? (i := 2) rfl)) rfl), ⟨by decide, by decide⟩, rfl, by decide, (fun h => Bool.noConfusion h), by decide⟩
set_option maxRecDepth 20000 in
theorem pyX5_readEnd : PY MX5_readEnd := ⟨(gt_in (tch2 (List.mem_of_getElem? (i := 212) rfl)) rfl), (gt_in (tch1 (List.mem_of_getElem? (i := 2) rfl)) rfl), ⟨by decide, by decide⟩, rfl, by decide, (fun h => Bool.noConfusion h), by decide⟩
set_option maxRecDepth 20000 in
theorem pyX5_readLift : PY MX5_readLift := ⟨(gt_in (tch2 (List.mem_of_getElem? (i := 220) rfl)) rfl), (gt_in (tch1 (List.mem_of_getElem? (i := 2) rfl)) rfl), ⟨by decide, by decide⟩, rfl, by decide, (fun h => Bool.noConfusion h), by decide⟩
set_option maxRecDepth 20000 in
theorem pyX5_readNumber : PY MX5_readNumber := ⟨(gt_in (tch2 (List.mem_of_getElem? (i := 224) rfl)) rfl), (gt_in (tch1 (List.mem_of_getElem? (i := 2) rfl)) rfl), ⟨by decide, by decide⟩, rfl, by decide, (fun h => Bool.noConfusion h), by decide⟩
set_option maxRecDepth 20000 in
theorem pyX5_readSwap : PY MX5_readSwap := ⟨(gt_in (tch3 (List.mem_of_getElem? (i := 7) rfl)) rfl), (gt_in (tch1 (List.mem_of_getElem? (i := 2) rfl)) rfl), ⟨by decide, by decide⟩, rfl, by decide, (fun h => Bool.noConfusion h), by decide⟩
set_option maxRecDepth 20000 in
theorem pyX5_readTimes : PY MX5_readTimes := ⟨(gt_in (tch3 (List.mem_of_getElem? (i := 15) rfl)) rfl), (gt_in (tch1 (List.mem_of_getElem? (i := 2) rfl)) rfl), ⟨by decide, by decide⟩, rfl, by decide, (fun h => Bool.noConfusion h), by decide⟩
set_option maxRecDepth 20000 in
theorem pyX5_readToken : PY MX5_readToken := ⟨(gt_in (tch2 (List.mem_of_getElem? (i := 228) rfl)) rfl), (gt_in (tch1 (List.mem_of_getElem? (i := 2) rfl)) rfl), ⟨by decide, by decide⟩, rfl, by decide, (fun h => Bool.noConfusion h), by decide⟩
set_option maxRecDepth 20000 in
theorem pyX5_readTurn : PY MX5_readTurn := ⟨(gt_in (tch3 (List.mem_of_getElem? (i := 11) rfl)) rfl), (gt_in (tch1 (List.mem_of_getElem? (i := 2) rfl)) rfl), ⟨by decide, by decide⟩, rfl, by decide, (fun h => Bool.noConfusion h), by decide⟩
set_option maxRecDepth 20000 in
theorem pyX5_take : PY MX5_take := ⟨(gt_in (tch2 (List.mem_of_getElem? (i := 208) rfl)) rfl), (gt_in (tch1 (List.mem_of_getElem? (i := 2) rfl)) rfl), ⟨by decide, by decide⟩, rfl, by decide, (fun h => Bool.noConfusion h), by decide⟩
set_option maxRecDepth 20000 in
theorem pyX6_get : PY MX6_get := ⟨(gt_in (tch3 (List.mem_of_getElem? (i := 56) rfl)) rfl), (gt_in (tch1 (List.mem_of_getElem? (i := 7) rfl)) rfl), ⟨by decide, by decide⟩, rfl, by decide, (fun h => Bool.noConfusion h), by decide⟩
set_option maxRecDepth 20000 in
theorem pyX6_home : PY MX6_home := ⟨(gt_in (tch1 (List.mem_of_getElem? (i := 146) rfl)) rfl), (gt_in (tch1 (List.mem_of_getElem? (i := 7) rfl)) rfl), ⟨by decide, by decide⟩, rfl, by decide, (fun h => Bool.noConfusion h), by decide⟩
set_option maxRecDepth 20000 in
theorem pyX6_lifted : PY MX6_lifted := ⟨(gt_in (tch3 (List.mem_of_getElem? (i := 107) rfl)) rfl), (gt_in (tch1 (List.mem_of_getElem? (i := 7) rfl)) rfl), ⟨by decide, by decide⟩, rfl, by decide, (fun h => Bool.noConfusion h), by decide⟩
set_option maxRecDepth 20000 in
theorem pyX6_lowest : PY MX6_lowest := ⟨(gt_in (tch1 (List.mem_of_getElem? (i := 150) rfl)) rfl), (gt_in (tch1 (List.mem_of_getElem? (i := 7) rfl)) rfl), ⟨by decide, by decide⟩, rfl, by decide, (fun h => Bool.noConfusion h), by decide⟩
set_option maxRecDepth 20000 in
theorem pyX6_slotWith : PY MX6_slotWith := ⟨(gt_in (tch3 (List.mem_of_getElem? (i := 128) rfl)) rfl), (gt_in (tch1 (List.mem_of_getElem? (i := 7) rfl)) rfl), ⟨by decide, by decide⟩, rfl, by decide, (fun h => Bool.noConfusion h), by decide⟩
set_option maxRecDepth 20000 in
theorem pyX6_swapped : PY MX6_swapped := ⟨(gt_in (tch3 (List.mem_of_getElem? (i := 111) rfl)) rfl), (gt_in (tch1 (List.mem_of_getElem? (i := 7) rfl)) rfl), ⟨by decide, by decide⟩, rfl, by decide, (fun h => Bool.noConfusion h), by decide⟩
set_option maxRecDepth 20000 in
theorem pyX6_turned : PY MX6_turned := ⟨(gt_in (tch3 (List.mem_of_getElem? (i := 102) rfl)) rfl), (gt_in (tch1 (List.mem_of_getElem? (i := 7) rfl)) rfl), ⟨by decide, by decide⟩, rfl, by decide, (fun h => Bool.noConfusion h), by decide⟩
set_option maxRecDepth 20000 in
theorem pyX6_with : PY MX6_with := ⟨(gt_in (tch2 (List.mem_of_getElem? (i := 81) rfl)) rfl), (gt_in (tch1 (List.mem_of_getElem? (i := 7) rfl)) rfl), ⟨by decide, by decide⟩, rfl, by decide, (fun h => Bool.noConfusion h), by decide⟩
set_option maxRecDepth 20000 in
theorem pyX7_add : PY MX7_add := ⟨(gt_in (tch3 (List.mem_of_getElem? (i := 3) rfl)) rfl), (gt_in (tch1 (List.mem_of_getElem? (i := 4) rfl)) rfl), ⟨by decide, by decide⟩, rfl, by decide, (fun h => Bool.noConfusion h), by decide⟩
set_option maxRecDepth 20000 in
theorem pyX7_copy : PY MX7_copy := ⟨(gt_in (tch3 (List.mem_of_getElem? (i := 23) rfl)) rfl), (gt_in (tch1 (List.mem_of_getElem? (i := 4) rfl)) rfl), ⟨by decide, by decide⟩, rfl, by decide, (fun h => Bool.noConfusion h), by decide⟩
set_option maxRecDepth 20000 in
theorem pyX7_init : PY MX7_init := ⟨(gt_in (tch1 (List.mem_of_getElem? (i := 71) rfl)) rfl), (gt_in (tch1 (List.mem_of_getElem? (i := 4) rfl)) rfl), ⟨by decide, by decide⟩, rfl, by decide, (fun _ => rfl), by decide⟩
set_option maxRecDepth 20000 in
theorem pyX7_mirroredFrom : PY MX7_mirroredFrom := ⟨(gt_in (tch3 (List.mem_of_getElem? (i := 180) rfl)) rfl), (gt_in (tch1 (List.mem_of_getElem? (i := 4) rfl)) rfl), ⟨by decide, by decide⟩, rfl, by decide, (fun h => Bool.noConfusion h), by decide⟩
set_option maxRecDepth 20000 in
theorem pyX7_singingsBack : PY MX7_singingsBack := ⟨(gt_in (tch3 (List.mem_of_getElem? (i := 152) rfl)) rfl), (gt_in (tch1 (List.mem_of_getElem? (i := 4) rfl)) rfl), ⟨by decide, by decide⟩, rfl, by decide, (fun h => Bool.noConfusion h), by decide⟩
set_option maxRecDepth 20000 in
theorem pyX7_sungFrom : PY MX7_sungFrom := ⟨(gt_in (tch3 (List.mem_of_getElem? (i := 156) rfl)) rfl), (gt_in (tch1 (List.mem_of_getElem? (i := 4) rfl)) rfl), ⟨by decide, by decide⟩, rfl, by decide, (fun h => Bool.noConfusion h), by decide⟩
set_option maxRecDepth 20000 in
theorem pyX8_addRow : PY MX8_addRow := ⟨(gt_in (tch3 (List.mem_of_getElem? (i := 116) rfl)) rfl), (gt_in (tch1 (List.mem_of_getElem? (i := 5) rfl)) rfl), ⟨by decide, by decide⟩, rfl, by decide, (fun h => Bool.noConfusion h), by decide⟩
set_option maxRecDepth 20000 in
theorem pyX8_copy : PY MX8_copy := ⟨(gt_in (tch4 (List.mem_of_getElem? (i := 107) rfl)) rfl), (gt_in (tch1 (List.mem_of_getElem? (i := 5) rfl)) rfl), ⟨by decide, by decide⟩, rfl, by decide, (fun h => Bool.noConfusion h), by decide⟩
set_option maxRecDepth 20000 in
theorem pyX8_countUnlike : PY MX8_countUnlike := ⟨(gt_in (tch4 (List.mem_of_getElem? (i := 42) rfl)) rfl), (gt_in (tch1 (List.mem_of_getElem? (i := 5) rfl)) rfl), ⟨by decide, by decide⟩, rfl, by decide, (fun h => Bool.noConfusion h), by decide⟩
set_option maxRecDepth 20000 in
theorem pyX8_init : PY MX8_init := ⟨(gt_in (tch1 (List.mem_of_getElem? (i := 134) rfl)) rfl), (gt_in (tch1 (List.mem_of_getElem? (i := 5) rfl)) rfl), ⟨by decide, by decide⟩, rfl, by decide, (fun _ => rfl), by decide⟩
set_option maxRecDepth 20000 in
theorem pyX8_layRows : PY MX8_layRows := ⟨(gt_in (tch4 (List.mem_of_getElem? (i := 33) rfl)) rfl), (gt_in (tch1 (List.mem_of_getElem? (i := 5) rfl)) rfl), ⟨by decide, by decide⟩, rfl, by decide, (fun h => Bool.noConfusion h), by decide⟩
set_option maxRecDepth 20000 in
theorem pyX8_rowPart : PY MX8_rowPart := ⟨(gt_in (tch3 (List.mem_of_getElem? (i := 144) rfl)) rfl), (gt_in (tch1 (List.mem_of_getElem? (i := 5) rfl)) rfl), ⟨by decide, by decide⟩, rfl, by decide, (fun h => Bool.noConfusion h), by decide⟩
set_option maxRecDepth 20000 in
theorem pyX8_rowsComeAgain : PY MX8_rowsComeAgain := ⟨(gt_in (tch4 (List.mem_of_getElem? (i := 90) rfl)) rfl), (gt_in (tch1 (List.mem_of_getElem? (i := 5) rfl)) rfl), ⟨by decide, by decide⟩, rfl, by decide, (fun h => Bool.noConfusion h), by decide⟩
set_option maxRecDepth 20000 in
theorem pyX8_seen : PY MX8_seen := ⟨(gt_in (tch3 (List.mem_of_getElem? (i := 170) rfl)) rfl), (gt_in (tch1 (List.mem_of_getElem? (i := 5) rfl)) rfl), ⟨by decide, by decide⟩, rfl, by decide, (fun h => Bool.noConfusion h), by decide⟩
set_option maxRecDepth 20000 in
theorem pyX8_singOnce : PY MX8_singOnce := ⟨(gt_in (tch3 (List.mem_of_getElem? (i := 50) rfl)) rfl), (gt_in (tch1 (List.mem_of_getElem? (i := 5) rfl)) rfl), ⟨by decide, by decide⟩, rfl, by decide, (fun h => Bool.noConfusion h), by decide⟩
set_option maxRecDepth 20000 in
theorem pyX8_startAnew : PY MX8_startAnew := ⟨(gt_in (tch2 (List.mem_of_getElem? (i := 62) rfl)) rfl), (gt_in (tch1 (List.mem_of_getElem? (i := 5) rfl)) rfl), ⟨by decide, by decide⟩, rfl, by decide, (fun h => Bool.noConfusion h), by decide⟩
set_option maxRecDepth 20000 in
theorem pyX8_strandsToDye : PY MX8_strandsToDye := ⟨(gt_in (tch4 (List.mem_of_getElem? (i := 29) rfl)) rfl), (gt_in (tch1 (List.mem_of_getElem? (i := 5) rfl)) rfl), ⟨by decide, by decide⟩, rfl, by decide, (fun h => Bool.noConfusion h), by decide⟩
set_option maxRecDepth 20000 in
theorem pyX9_add : PY MX9_add := ⟨(gt_in (tch2 (List.mem_of_getElem? (i := 94) rfl)) rfl), (gt_in (tch1 (List.mem_of_getElem? (i := 3) rfl)) rfl), ⟨by decide, by decide⟩, rfl, by decide, (fun h => Bool.noConfusion h), by decide⟩
set_option maxRecDepth 20000 in
theorem pyX9_addToken : PY MX9_addToken := ⟨(gt_in (tch2 (List.mem_of_getElem? (i := 204) rfl)) rfl), (gt_in (tch1 (List.mem_of_getElem? (i := 3) rfl)) rfl), ⟨by decide, by decide⟩, rfl, by decide, (fun h => Bool.noConfusion h), by decide⟩
set_option maxRecDepth 20000 in
theorem pyX9_endOfRun : PY MX9_endOfRun := ⟨(gt_in (tch2 (List.mem_of_getElem? (i := 121) rfl)) rfl), (gt_in (tch1 (List.mem_of_getElem? (i := 3) rfl)) rfl), ⟨by decide, by decide⟩, rfl, by decide, (fun h => Bool.noConfusion h), by decide⟩
set_option maxRecDepth 20000 in
theorem pyX9_findTokens : PY MX9_findTokens := ⟨(gt_in (tch2 (List.mem_of_getElem? (i := 117) rfl)) rfl), (gt_in (tch1 (List.mem_of_getElem? (i := 3) rfl)) rfl), ⟨by decide, by decide⟩, rfl, by decide, (fun h => Bool.noConfusion h), by decide⟩
set_option maxRecDepth 20000 in
theorem pyX9_init : PY MX9_init := ⟨(gt_in (tch1 (List.mem_of_getElem? (i := 39) rfl)) rfl), (gt_in (tch1 (List.mem_of_getElem? (i := 3) rfl)) rfl), ⟨by decide, by decide⟩, rfl, by decide, (fun _ => rfl), by decide⟩
set_option maxRecDepth 20000 in
theorem pyX9_isBlank : PY MX9_isBlank := ⟨(gt_in (tch2 (List.mem_of_getElem? (i := 130) rfl)) rfl), (gt_in (tch1 (List.mem_of_getElem? (i := 3) rfl)) rfl), ⟨by decide, by decide⟩, rfl, by decide, (fun h => Bool.noConfusion h), by decide⟩
set_option maxRecDepth 20000 in
theorem pyX9_isDigit : PY MX9_isDigit := ⟨(gt_in (tch2 (List.mem_of_getElem? (i := 127) rfl)) rfl), (gt_in (tch1 (List.mem_of_getElem? (i := 3) rfl)) rfl), ⟨by decide, by decide⟩, rfl, by decide, (fun h => Bool.noConfusion h), by decide⟩
set_option maxRecDepth 20000 in
theorem pyX9_isLetter : PY MX9_isLetter := ⟨(gt_in (tch2 (List.mem_of_getElem? (i := 124) rfl)) rfl), (gt_in (tch1 (List.mem_of_getElem? (i := 3) rfl)) rfl), ⟨by decide, by decide⟩, rfl, by decide, (fun h => Bool.noConfusion h), by decide⟩
set_option maxRecDepth 20000 in
theorem pyX9_isWord : PY MX9_isWord := ⟨(gt_in (tch2 (List.mem_of_getElem? (i := 143) rfl)) rfl), (gt_in (tch1 (List.mem_of_getElem? (i := 3) rfl)) rfl), ⟨by decide, by decide⟩, rfl, by decide, (fun h => Bool.noConfusion h), by decide⟩
set_option maxRecDepth 20000 in
theorem pyX9_kindOfRun : PY MX9_kindOfRun := ⟨(gt_in (tch2 (List.mem_of_getElem? (i := 134) rfl)) rfl), (gt_in (tch1 (List.mem_of_getElem? (i := 3) rfl)) rfl), ⟨by decide, by decide⟩, rfl, by decide, (fun h => Bool.noConfusion h), by decide⟩
set_option maxRecDepth 20000 in
theorem pyX9_kindOfWord : PY MX9_kindOfWord := ⟨(gt_in (tch2 (List.mem_of_getElem? (i := 138) rfl)) rfl), (gt_in (tch1 (List.mem_of_getElem? (i := 3) rfl)) rfl), ⟨by decide, by decide⟩, rfl, by decide, (fun h => Bool.noConfusion h), by decide⟩
set_option maxRecDepth 20000 in
theorem pyX9_numberOfRun : PY MX9_numberOfRun := ⟨(gt_in (tch2 (List.mem_of_getElem? (i := 200) rfl)) rfl), (gt_in (tch1 (List.mem_of_getElem? (i := 3) rfl)) rfl), ⟨by decide, by decide⟩, rfl, by decide, (fun h => Bool.noConfusion h), by decide⟩
set_option maxRecDepth 20000 in
theorem pyX10_alike : PY MX10_alike := ⟨(gt_in (tch4 (List.mem_of_getElem? (i := 72) rfl)) rfl), (gt_in (tch1 (List.mem_of_getElem? (i := 1) rfl)) rfl), ⟨by decide, by decide⟩, rfl, by decide, (fun h => Bool.noConfusion h), by decide⟩
set_option maxRecDepth 20000 in
theorem pyX10_at : PY MX10_at := ⟨(gt_in (tch3 (List.mem_of_getElem? (i := 120) rfl)) rfl), (gt_in (tch1 (List.mem_of_getElem? (i := 1) rfl)) rfl), ⟨by decide, by decide⟩, rfl, by decide, (fun h => Bool.noConfusion h), by decide⟩
set_option maxRecDepth 20000 in
theorem pyX10_back : PY MX10_back := ⟨(gt_in (tch3 (List.mem_of_getElem? (i := 148) rfl)) rfl), (gt_in (tch1 (List.mem_of_getElem? (i := 1) rfl)) rfl), ⟨by decide, by decide⟩, rfl, by decide, (fun h => Bool.noConfusion h), by decide⟩
set_option maxRecDepth 20000 in
theorem pyX10_beats : PY MX10_beats := ⟨(gt_in (tch3 (List.mem_of_getElem? (i := 238) rfl)) rfl), (gt_in (tch1 (List.mem_of_getElem? (i := 1) rfl)) rfl), ⟨by decide, by decide⟩, rfl, by decide, (fun h => Bool.noConfusion h), by decide⟩
set_option maxRecDepth 20000 in
theorem pyX10_colour : PY MX10_colour := ⟨(gt_in (tch2 (List.mem_of_getElem? (i := 71) rfl)) rfl), (gt_in (tch1 (List.mem_of_getElem? (i := 1) rfl)) rfl), ⟨by decide, by decide⟩, rfl, by decide, (fun h => Bool.noConfusion h), by decide⟩
set_option maxRecDepth 20000 in
theorem pyX10_countRings : PY MX10_countRings := ⟨(gt_in (tch4 (List.mem_of_getElem? (i := 63) rfl)) rfl), (gt_in (tch1 (List.mem_of_getElem? (i := 1) rfl)) rfl), ⟨by decide, by decide⟩, rfl, by decide, (fun h => Bool.noConfusion h), by decide⟩
set_option maxRecDepth 20000 in
theorem pyX10_cut : PY MX10_cut := ⟨(gt_in (tch3 (List.mem_of_getElem? (i := 222) rfl)) rfl), (gt_in (tch1 (List.mem_of_getElem? (i := 1) rfl)) rfl), ⟨by decide, by decide⟩, rfl, by decide, (fun h => Bool.noConfusion h), by decide⟩
set_option maxRecDepth 20000 in
theorem pyX10_dropped : PY MX10_dropped := ⟨(gt_in (tch3 (List.mem_of_getElem? (i := 229) rfl)) rfl), (gt_in (tch1 (List.mem_of_getElem? (i := 1) rfl)) rfl), ⟨by decide, by decide⟩, rfl, by decide, (fun h => Bool.noConfusion h), by decide⟩
set_option maxRecDepth 20000 in
theorem pyX10_end : PY MX10_end := ⟨(gt_in (tch2 (List.mem_of_getElem? (i := 98) rfl)) rfl), (gt_in (tch1 (List.mem_of_getElem? (i := 1) rfl)) rfl), ⟨by decide, by decide⟩, rfl, by decide, (fun h => Bool.noConfusion h), by decide⟩
set_option maxRecDepth 20000 in
theorem pyX10_fault : PY MX10_fault := ⟨(gt_in (tch3 (List.mem_of_getElem? (i := 30) rfl)) rfl), (gt_in (tch1 (List.mem_of_getElem? (i := 1) rfl)) rfl), ⟨by decide, by decide⟩, rfl, by decide, (fun h => Bool.noConfusion h), by decide⟩
set_option maxRecDepth 20000 in
theorem pyX10_feed : PY MX10_feed := ⟨(gt_in (tch2 (List.mem_of_getElem? (i := 90) rfl)) rfl), (gt_in (tch1 (List.mem_of_getElem? (i := 1) rfl)) rfl), ⟨by decide, by decide⟩, rfl, by decide, (fun h => Bool.noConfusion h), by decide⟩
set_option maxRecDepth 20000 in
theorem pyX10_fewest : PY MX10_fewest := ⟨(gt_in (tch3 (List.mem_of_getElem? (i := 193) rfl)) rfl), (gt_in (tch1 (List.mem_of_getElem? (i := 1) rfl)) rfl), ⟨by decide, by decide⟩, rfl, by decide, (fun h => Bool.noConfusion h), by decide⟩
set_option maxRecDepth 20000 in
theorem pyX10_fitsWithout : PY MX10_fitsWithout := ⟨(gt_in (tch3 (List.mem_of_getElem? (i := 234) rfl)) rfl), (gt_in (tch1 (List.mem_of_getElem? (i := 1) rfl)) rfl), ⟨by decide, by decide⟩, rfl, by decide, (fun h => Bool.noConfusion h), by decide⟩
set_option maxRecDepth 20000 in
theorem pyX10_image : PY MX10_image := ⟨(gt_in (tch4 (List.mem_of_getElem? (i := 103) rfl)) rfl), (gt_in (tch1 (List.mem_of_getElem? (i := 1) rfl)) rfl), ⟨by decide, by decide⟩, rfl, by decide, (fun h => Bool.noConfusion h), by decide⟩
set_option maxRecDepth 20000 in
theorem pyX10_init : PY MX10_init := ⟨(gt_in (tch1 (List.mem_of_getElem? (i := 25) rfl)) rfl), (gt_in (tch1 (List.mem_of_getElem? (i := 1) rfl)) rfl), ⟨by decide, by decide⟩, rfl, by decide, (fun _ => rfl), by decide⟩
set_option maxRecDepth 20000 in
theorem pyX10_isColour : PY MX10_isColour := ⟨(gt_in (tch2 (List.mem_of_getElem? (i := 78) rfl)) rfl), (gt_in (tch1 (List.mem_of_getElem? (i := 1) rfl)) rfl), ⟨by decide, by decide⟩, rfl, by decide, (fun h => Bool.noConfusion h), by decide⟩
set_option maxRecDepth 20000 in
theorem pyX10_isSlot : PY MX10_isSlot := ⟨(gt_in (tch2 (List.mem_of_getElem? (i := 75) rfl)) rfl), (gt_in (tch1 (List.mem_of_getElem? (i := 1) rfl)) rfl), ⟨by decide, by decide⟩, rfl, by decide, (fun h => Bool.noConfusion h), by decide⟩
set_option maxRecDepth 20000 in
theorem pyX10_isSong : PY MX10_isSong := ⟨(gt_in (tch2 (List.mem_of_getElem? (i := 109) rfl)) rfl), (gt_in (tch1 (List.mem_of_getElem? (i := 1) rfl)) rfl), ⟨by decide, by decide⟩, rfl, by decide, (fun h => Bool.noConfusion h), by decide⟩
set_option maxRecDepth 20000 in
theorem pyX10_lay : PY MX10_lay := ⟨(gt_in (tch4 (List.mem_of_getElem? (i := 25) rfl)) rfl), (gt_in (tch1 (List.mem_of_getElem? (i := 1) rfl)) rfl), ⟨by decide, by decide⟩, rfl, by decide, (fun h => Bool.noConfusion h), by decide⟩
set_option maxRecDepth 20000 in
theorem pyX10_look : PY MX10_look := ⟨(gt_in (tch4 (List.mem_of_getElem? (i := 114) rfl)) rfl), (gt_in (tch1 (List.mem_of_getElem? (i := 1) rfl)) rfl), ⟨by decide, by decide⟩, rfl, by decide, (fun h => Bool.noConfusion h), by decide⟩
set_option maxRecDepth 20000 in
theorem pyX10_loops : PY MX10_loops := ⟨(gt_in (tch4 (List.mem_of_getElem? (i := 59) rfl)) rfl), (gt_in (tch1 (List.mem_of_getElem? (i := 1) rfl)) rfl), ⟨by decide, by decide⟩, rfl, by decide, (fun h => Bool.noConfusion h), by decide⟩
set_option maxRecDepth 20000 in
theorem pyX10_name : PY MX10_name := ⟨(gt_in (tch4 (List.mem_of_getElem? (i := 21) rfl)) rfl), (gt_in (tch1 (List.mem_of_getElem? (i := 1) rfl)) rfl), ⟨by decide, by decide⟩, rfl, by decide, (fun h => Bool.noConfusion h), by decide⟩
set_option maxRecDepth 20000 in
theorem pyX10_of : PY MX10_of := ⟨(gt_in (tch3 (List.mem_of_getElem? (i := 125) rfl)) rfl), (gt_in (tch1 (List.mem_of_getElem? (i := 1) rfl)) rfl), ⟨by decide, by decide⟩, rfl, by decide, (fun h => Bool.noConfusion h), by decide⟩
set_option maxRecDepth 20000 in
theorem pyX10_oneOfThree : PY MX10_oneOfThree := ⟨(gt_in (tch3 (List.mem_of_getElem? (i := 225) rfl)) rfl), (gt_in (tch1 (List.mem_of_getElem? (i := 1) rfl)) rfl), ⟨by decide, by decide⟩, rfl, by decide, (fun h => Bool.noConfusion h), by decide⟩
set_option maxRecDepth 20000 in
theorem pyX10_outside : PY MX10_outside := ⟨(gt_in (tch3 (List.mem_of_getElem? (i := 140) rfl)) rfl), (gt_in (tch1 (List.mem_of_getElem? (i := 1) rfl)) rfl), ⟨by decide, by decide⟩, rfl, by decide, (fun h => Bool.noConfusion h), by decide⟩
set_option maxRecDepth 20000 in
theorem pyX10_over : PY MX10_over := ⟨(gt_in (tch3 (List.mem_of_getElem? (i := 132) rfl)) rfl), (gt_in (tch1 (List.mem_of_getElem? (i := 1) rfl)) rfl), ⟨by decide, by decide⟩, rfl, by decide, (fun h => Bool.noConfusion h), by decide⟩
set_option maxRecDepth 20000 in
theorem pyX10_period : PY MX10_period := ⟨(gt_in (tch4 (List.mem_of_getElem? (i := 86) rfl)) rfl), (gt_in (tch1 (List.mem_of_getElem? (i := 1) rfl)) rfl), ⟨by decide, by decide⟩, rfl, by decide, (fun h => Bool.noConfusion h), by decide⟩
set_option maxRecDepth 20000 in
theorem pyX10_pulled : PY MX10_pulled := ⟨(gt_in (tch4 (List.mem_of_getElem? (i := 46) rfl)) rfl), (gt_in (tch1 (List.mem_of_getElem? (i := 1) rfl)) rfl), ⟨by decide, by decide⟩, rfl, by decide, (fun h => Bool.noConfusion h), by decide⟩
set_option maxRecDepth 20000 in
theorem pyX10_ringOf : PY MX10_ringOf := ⟨(gt_in (tch4 (List.mem_of_getElem? (i := 67) rfl)) rfl), (gt_in (tch1 (List.mem_of_getElem? (i := 1) rfl)) rfl), ⟨by decide, by decide⟩, rfl, by decide, (fun h => Bool.noConfusion h), by decide⟩
set_option maxRecDepth 20000 in
theorem pyX10_sing : PY MX10_sing := ⟨(gt_in (tch3 (List.mem_of_getElem? (i := 34) rfl)) rfl), (gt_in (tch1 (List.mem_of_getElem? (i := 1) rfl)) rfl), ⟨by decide, by decide⟩, rfl, by decide, (fun h => Bool.noConfusion h), by decide⟩
set_option maxRecDepth 20000 in
theorem pyX10_slip : PY MX10_slip := ⟨(gt_in (tch2 (List.mem_of_getElem? (i := 86) rfl)) rfl), (gt_in (tch1 (List.mem_of_getElem? (i := 1) rfl)) rfl), ⟨by decide, by decide⟩, rfl, by decide, (fun h => Bool.noConfusion h), by decide⟩
set_option maxRecDepth 20000 in
theorem pyX10_state : PY MX10_state := ⟨(gt_in (tch2 (List.mem_of_getElem? (i := 50) rfl)) rfl), (gt_in (tch1 (List.mem_of_getElem? (i := 1) rfl)) rfl), ⟨by decide, by decide⟩, rfl, by decide, (fun h => Bool.noConfusion h), by decide⟩
set_option maxRecDepth 20000 in
theorem pyX10_stool : PY MX10_stool := ⟨(gt_in (tch2 (List.mem_of_getElem? (i := 58) rfl)) rfl), (gt_in (tch1 (List.mem_of_getElem? (i := 1) rfl)) rfl), ⟨by decide, by decide⟩, rfl, by decide, (fun h => Bool.noConfusion h), by decide⟩
set_option maxRecDepth 20000 in
theorem pyX10_text : PY MX10_text := ⟨(gt_in (tch2 (List.mem_of_getElem? (i := 102) rfl)) rfl), (gt_in (tch1 (List.mem_of_getElem? (i := 1) rfl)) rfl), ⟨by decide, by decide⟩, rfl, by decide, (fun h => Bool.noConfusion h), by decide⟩
set_option maxRecDepth 20000 in
theorem pyX10_undo : PY MX10_undo := ⟨(gt_in (tch4 (List.mem_of_getElem? (i := 95) rfl)) rfl), (gt_in (tch1 (List.mem_of_getElem? (i := 1) rfl)) rfl), ⟨by decide, by decide⟩, rfl, by decide, (fun h => Bool.noConfusion h), by decide⟩
set_option maxRecDepth 20000 in
theorem pyX10_want : PY MX10_want := ⟨(gt_in (tch3 (List.mem_of_getElem? (i := 189) rfl)) rfl), (gt_in (tch1 (List.mem_of_getElem? (i := 1) rfl)) rfl), ⟨by decide, by decide⟩, rfl, by decide, (fun h => Bool.noConfusion h), by decide⟩
set_option maxRecDepth 20000 in
theorem pyX10_where : PY MX10_where := ⟨(gt_in (tch3 (List.mem_of_getElem? (i := 176) rfl)) rfl), (gt_in (tch1 (List.mem_of_getElem? (i := 1) rfl)) rfl), ⟨by decide, by decide⟩, rfl, by decide, (fun h => Bool.noConfusion h), by decide⟩
set_option maxRecDepth 20000 in
theorem pyX11_aMove : PY MX11_aMove := ⟨(gt_in (tch5 (List.mem_of_getElem? (i := 75) rfl)) rfl), (gt_in (tch1 (List.mem_of_getElem? (i := 12) rfl)) rfl), ⟨by decide, by decide⟩, rfl, by decide, (fun h => Bool.noConfusion h), by decide⟩
set_option maxRecDepth 20000 in
theorem pyX11_aTurn : PY MX11_aTurn := ⟨(gt_in (tch5 (List.mem_of_getElem? (i := 71) rfl)) rfl), (gt_in (tch1 (List.mem_of_getElem? (i := 12) rfl)) rfl), ⟨by decide, by decide⟩, rfl, by decide, (fun h => Bool.noConfusion h), by decide⟩
set_option maxRecDepth 20000 in
theorem pyX11_alike : PY MX11_alike := ⟨(gt_in (tch5 (List.mem_of_getElem? (i := 223) rfl)) rfl), (gt_in (tch1 (List.mem_of_getElem? (i := 12) rfl)) rfl), ⟨by decide, by decide⟩, rfl, by decide, (fun h => Bool.noConfusion h), by decide⟩
set_option maxRecDepth 20000 in
theorem pyX11_at : PY MX11_at := ⟨(gt_in (tch5 (List.mem_of_getElem? (i := 137) rfl)) rfl), (gt_in (tch1 (List.mem_of_getElem? (i := 12) rfl)) rfl), ⟨by decide, by decide⟩, rfl, by decide, (fun h => Bool.noConfusion h), by decide⟩
set_option maxRecDepth 20000 in
theorem pyX11_back : PY MX11_back := ⟨(gt_in (tch5 (List.mem_of_getElem? (i := 157) rfl)) rfl), (gt_in (tch1 (List.mem_of_getElem? (i := 12) rfl)) rfl), ⟨by decide, by decide⟩, rfl, by decide, (fun h => Bool.noConfusion h), by decide⟩
set_option maxRecDepth 20000 in
theorem pyX11_bad : PY MX11_bad := ⟨(gt_in (tch5 (List.mem_of_getElem? (i := 55) rfl)) rfl), (gt_in (tch1 (List.mem_of_getElem? (i := 12) rfl)) rfl), ⟨by decide, by decide⟩, rfl, by decide, (fun h => Bool.noConfusion h), by decide⟩
set_option maxRecDepth 20000 in
theorem pyX11_beats : PY MX11_beats := ⟨(gt_in (tch5 (List.mem_of_getElem? (i := 239) rfl)) rfl), (gt_in (tch1 (List.mem_of_getElem? (i := 12) rfl)) rfl), ⟨by decide, by decide⟩, rfl, by decide, (fun h => Bool.noConfusion h), by decide⟩
set_option maxRecDepth 20000 in
theorem pyX11_begins : PY MX11_begins := ⟨(gt_in (tch4 (List.mem_of_getElem? (i := 124) rfl)) rfl), (gt_in (tch1 (List.mem_of_getElem? (i := 12) rfl)) rfl), ⟨by decide, by decide⟩, rfl, by decide, (fun h => Bool.noConfusion h), by decide⟩
set_option maxRecDepth 20000 in
theorem pyX11_colour : PY MX11_colour := ⟨(gt_in (tch4 (List.mem_of_getElem? (i := 230) rfl)) rfl), (gt_in (tch1 (List.mem_of_getElem? (i := 12) rfl)) rfl), ⟨by decide, by decide⟩, rfl, by decide, (fun h => Bool.noConfusion h), by decide⟩
set_option maxRecDepth 20000 in
theorem pyX11_comes : PY MX11_comes := ⟨(gt_in (tch5 (List.mem_of_getElem? (i := 185) rfl)) rfl), (gt_in (tch1 (List.mem_of_getElem? (i := 12) rfl)) rfl), ⟨by decide, by decide⟩, rfl, by decide, (fun h => Bool.noConfusion h), by decide⟩
set_option maxRecDepth 20000 in
theorem pyX11_comesAgain : PY MX11_comesAgain := ⟨(gt_in (tch5 (List.mem_of_getElem? (i := 235) rfl)) rfl), (gt_in (tch1 (List.mem_of_getElem? (i := 12) rfl)) rfl), ⟨by decide, by decide⟩, rfl, by decide, (fun h => Bool.noConfusion h), by decide⟩
set_option maxRecDepth 20000 in
theorem pyX11_cut : PY MX11_cut := ⟨(gt_in (tch5 (List.mem_of_getElem? (i := 203) rfl)) rfl), (gt_in (tch1 (List.mem_of_getElem? (i := 12) rfl)) rfl), ⟨by decide, by decide⟩, rfl, by decide, (fun h => Bool.noConfusion h), by decide⟩
set_option maxRecDepth 20000 in
theorem pyX11_doCross : PY MX11_doCross := ⟨(gt_in (tch6 (List.mem_of_getElem? (i := 3) rfl)) rfl), (gt_in (tch1 (List.mem_of_getElem? (i := 12) rfl)) rfl), ⟨by decide, by decide⟩, rfl, by decide, (fun h => Bool.noConfusion h), by decide⟩
set_option maxRecDepth 20000 in
theorem pyX11_draw : PY MX11_draw := ⟨(gt_in (tch5 (List.mem_of_getElem? (i := 103) rfl)) rfl), (gt_in (tch1 (List.mem_of_getElem? (i := 12) rfl)) rfl), ⟨by decide, by decide⟩, rfl, by decide, (fun h => Bool.noConfusion h), by decide⟩
set_option maxRecDepth 20000 in
theorem pyX11_dropped : PY MX11_dropped := ⟨(gt_in (tch5 (List.mem_of_getElem? (i := 215) rfl)) rfl), (gt_in (tch1 (List.mem_of_getElem? (i := 12) rfl)) rfl), ⟨by decide, by decide⟩, rfl, by decide, (fun h => Bool.noConfusion h), by decide⟩
set_option maxRecDepth 20000 in
theorem pyX11_end : PY MX11_end := ⟨(gt_in (tch5 (List.mem_of_getElem? (i := 6) rfl)) rfl), (gt_in (tch1 (List.mem_of_getElem? (i := 12) rfl)) rfl), ⟨by decide, by decide⟩, rfl, by decide, (fun h => Bool.noConfusion h), by decide⟩
set_option maxRecDepth 20000 in
theorem pyX11_farOf : PY MX11_farOf := ⟨(gt_in (tch5 (List.mem_of_getElem? (i := 199) rfl)) rfl), (gt_in (tch1 (List.mem_of_getElem? (i := 12) rfl)) rfl), ⟨by decide, by decide⟩, rfl, by decide, (fun h => Bool.noConfusion h), by decide⟩
set_option maxRecDepth 20000 in
theorem pyX11_fault : PY MX11_fault := ⟨(gt_in (tch5 (List.mem_of_getElem? (i := 79) rfl)) rfl), (gt_in (tch1 (List.mem_of_getElem? (i := 12) rfl)) rfl), ⟨by decide, by decide⟩, rfl, by decide, (fun h => Bool.noConfusion h), by decide⟩
set_option maxRecDepth 20000 in
theorem pyX11_feed : PY MX11_feed := ⟨(gt_in (tch5 (List.mem_of_getElem? (i := 2) rfl)) rfl), (gt_in (tch1 (List.mem_of_getElem? (i := 12) rfl)) rfl), ⟨by decide, by decide⟩, rfl, by decide, (fun h => Bool.noConfusion h), by decide⟩
set_option maxRecDepth 20000 in
theorem pyX11_fewest : PY MX11_fewest := ⟨(gt_in (tch5 (List.mem_of_getElem? (i := 177) rfl)) rfl), (gt_in (tch1 (List.mem_of_getElem? (i := 12) rfl)) rfl), ⟨by decide, by decide⟩, rfl, by decide, (fun h => Bool.noConfusion h), by decide⟩
set_option maxRecDepth 20000 in
theorem pyX11_goesOver : PY MX11_goesOver := ⟨(gt_in (tch5 (List.mem_of_getElem? (i := 121) rfl)) rfl), (gt_in (tch1 (List.mem_of_getElem? (i := 12) rfl)) rfl), ⟨by decide, by decide⟩, rfl, by decide, (fun h => Bool.noConfusion h), by decide⟩
set_option maxRecDepth 20000 in
theorem pyX11_image : PY MX11_image := ⟨(gt_in (tch6 (List.mem_of_getElem? (i := 38) rfl)) rfl), (gt_in (tch1 (List.mem_of_getElem? (i := 12) rfl)) rfl), ⟨by decide, by decide⟩, rfl, by decide, (fun h => Bool.noConfusion h), by decide⟩
set_option maxRecDepth 20000 in
theorem pyX11_init : PY MX11_init := ⟨(gt_in (tch4 (List.mem_of_getElem? (i := 119) rfl)) rfl), (gt_in (tch1 (List.mem_of_getElem? (i := 12) rfl)) rfl), ⟨by decide, by decide⟩, rfl, by decide, (fun _ => rfl), by decide⟩
set_option maxRecDepth 20000 in
theorem pyX11_is : PY MX11_is := ⟨(gt_in (tch5 (List.mem_of_getElem? (i := 33) rfl)) rfl), (gt_in (tch1 (List.mem_of_getElem? (i := 12) rfl)) rfl), ⟨by decide, by decide⟩, rfl, by decide, (fun h => Bool.noConfusion h), by decide⟩
set_option maxRecDepth 20000 in
theorem pyX11_isAsNow : PY MX11_isAsNow := ⟨(gt_in (tch5 (List.mem_of_getElem? (i := 165) rfl)) rfl), (gt_in (tch1 (List.mem_of_getElem? (i := 12) rfl)) rfl), ⟨by decide, by decide⟩, rfl, by decide, (fun h => Bool.noConfusion h), by decide⟩
set_option maxRecDepth 20000 in
theorem pyX11_isDigit : PY MX11_isDigit := ⟨(gt_in (tch5 (List.mem_of_getElem? (i := 43) rfl)) rfl), (gt_in (tch1 (List.mem_of_getElem? (i := 12) rfl)) rfl), ⟨by decide, by decide⟩, rfl, by decide, (fun h => Bool.noConfusion h), by decide⟩
set_option maxRecDepth 20000 in
theorem pyX11_isFree : PY MX11_isFree := ⟨(gt_in (tch6 (List.mem_of_getElem? (i := 22) rfl)) rfl), (gt_in (tch1 (List.mem_of_getElem? (i := 12) rfl)) rfl), ⟨by decide, by decide⟩, rfl, by decide, (fun h => Bool.noConfusion h), by decide⟩
set_option maxRecDepth 20000 in
theorem pyX11_isIn : PY MX11_isIn := ⟨(gt_in (tch4 (List.mem_of_getElem? (i := 226) rfl)) rfl), (gt_in (tch1 (List.mem_of_getElem? (i := 12) rfl)) rfl), ⟨by decide, by decide⟩, rfl, by decide, (fun h => Bool.noConfusion h), by decide⟩
set_option maxRecDepth 20000 in
theorem pyX11_isLeast : PY MX11_isLeast := ⟨(gt_in (tch6 (List.mem_of_getElem? (i := 34) rfl)) rfl), (gt_in (tch1 (List.mem_of_getElem? (i := 12) rfl)) rfl), ⟨by decide, by decide⟩, rfl, by decide, (fun h => Bool.noConfusion h), by decide⟩
set_option maxRecDepth 20000 in
theorem pyX11_isLetter : PY MX11_isLetter := ⟨(gt_in (tch5 (List.mem_of_getElem? (i := 24) rfl)) rfl), (gt_in (tch1 (List.mem_of_getElem? (i := 12) rfl)) rfl), ⟨by decide, by decide⟩, rfl, by decide, (fun h => Bool.noConfusion h), by decide⟩
set_option maxRecDepth 20000 in
theorem pyX11_isSlot : PY MX11_isSlot := ⟨(gt_in (tch4 (List.mem_of_getElem? (i := 234) rfl)) rfl), (gt_in (tch1 (List.mem_of_getElem? (i := 12) rfl)) rfl), ⟨by decide, by decide⟩, rfl, by decide, (fun h => Bool.noConfusion h), by decide⟩
set_option maxRecDepth 20000 in
theorem pyX11_isSong : PY MX11_isSong := ⟨(gt_in (tch5 (List.mem_of_getElem? (i := 13) rfl)) rfl), (gt_in (tch1 (List.mem_of_getElem? (i := 12) rfl)) rfl), ⟨by decide, by decide⟩, rfl, by decide, (fun h => Bool.noConfusion h), by decide⟩
set_option maxRecDepth 20000 in
theorem pyX11_isWanted : PY MX11_isWanted := ⟨(gt_in (tch5 (List.mem_of_getElem? (i := 211) rfl)) rfl), (gt_in (tch1 (List.mem_of_getElem? (i := 12) rfl)) rfl), ⟨by decide, by decide⟩, rfl, by decide, (fun h => Bool.noConfusion h), by decide⟩
set_option maxRecDepth 20000 in
theorem pyX11_isWantedBehind : PY MX11_isWantedBehind := ⟨(gt_in (tch5 (List.mem_of_getElem? (i := 219) rfl)) rfl), (gt_in (tch1 (List.mem_of_getElem? (i := 12) rfl)) rfl), ⟨by decide, by decide⟩, rfl, by decide, (fun h => Bool.noConfusion h), by decide⟩
set_option maxRecDepth 20000 in
theorem pyX11_isWithin : PY MX11_isWithin := ⟨(gt_in (tch6 (List.mem_of_getElem? (i := 6) rfl)) rfl), (gt_in (tch1 (List.mem_of_getElem? (i := 12) rfl)) rfl), ⟨by decide, by decide⟩, rfl, by decide, (fun h => Bool.noConfusion h), by decide⟩
set_option maxRecDepth 20000 in
theorem pyX11_keeps : PY MX11_keeps := ⟨(gt_in (tch5 (List.mem_of_getElem? (i := 87) rfl)) rfl), (gt_in (tch1 (List.mem_of_getElem? (i := 12) rfl)) rfl), ⟨by decide, by decide⟩, rfl, by decide, (fun h => Bool.noConfusion h), by decide⟩
set_option maxRecDepth 20000 in
theorem pyX11_lay : PY MX11_lay := ⟨(gt_in (tch6 (List.mem_of_getElem? (i := 14) rfl)) rfl), (gt_in (tch1 (List.mem_of_getElem? (i := 12) rfl)) rfl), ⟨by decide, by decide⟩, rfl, by decide, (fun h => Bool.noConfusion h), by decide⟩
set_option maxRecDepth 20000 in
theorem pyX11_laysFar : PY MX11_laysFar := ⟨(gt_in (tch5 (List.mem_of_getElem? (i := 181) rfl)) rfl), (gt_in (tch1 (List.mem_of_getElem? (i := 12) rfl)) rfl), ⟨by decide, by decide⟩, rfl, by decide, (fun h => Bool.noConfusion h), by decide⟩
set_option maxRecDepth 20000 in
theorem pyX11_liftedOf : PY MX11_liftedOf := ⟨(gt_in (tch5 (List.mem_of_getElem? (i := 195) rfl)) rfl), (gt_in (tch1 (List.mem_of_getElem? (i := 12) rfl)) rfl), ⟨by decide, by decide⟩, rfl, by decide, (fun h => Bool.noConfusion h), by decide⟩
set_option maxRecDepth 20000 in
theorem pyX11_lifts : PY MX11_lifts := ⟨(gt_in (tch5 (List.mem_of_getElem? (i := 117) rfl)) rfl), (gt_in (tch1 (List.mem_of_getElem? (i := 12) rfl)) rfl), ⟨by decide, by decide⟩, rfl, by decide, (fun h => Bool.noConfusion h), by decide⟩
set_option maxRecDepth 20000 in
theorem pyX11_look : PY MX11_look := ⟨(gt_in (tch6 (List.mem_of_getElem? (i := 42) rfl)) rfl), (gt_in (tch1 (List.mem_of_getElem? (i := 12) rfl)) rfl), ⟨by decide, by decide⟩, rfl, by decide, (fun h => Bool.noConfusion h), by decide⟩
set_option maxRecDepth 20000 in
theorem pyX11_loops : PY MX11_loops := ⟨(gt_in (tch6 (List.mem_of_getElem? (i := 26) rfl)) rfl), (gt_in (tch1 (List.mem_of_getElem? (i := 12) rfl)) rfl), ⟨by decide, by decide⟩, rfl, by decide, (fun h => Bool.noConfusion h), by decide⟩
set_option maxRecDepth 20000 in
theorem pyX11_moves : PY MX11_moves := ⟨(gt_in (tch5 (List.mem_of_getElem? (i := 109) rfl)) rfl), (gt_in (tch1 (List.mem_of_getElem? (i := 12) rfl)) rfl), ⟨by decide, by decide⟩, rfl, by decide, (fun h => Bool.noConfusion h), by decide⟩
set_option maxRecDepth 20000 in
theorem pyX11_name : PY MX11_name := ⟨(gt_in (tch6 (List.mem_of_getElem? (i := 10) rfl)) rfl), (gt_in (tch1 (List.mem_of_getElem? (i := 12) rfl)) rfl), ⟨by decide, by decide⟩, rfl, by decide, (fun h => Bool.noConfusion h), by decide⟩
set_option maxRecDepth 20000 in
theorem pyX11_need : PY MX11_need := ⟨(gt_in (tch5 (List.mem_of_getElem? (i := 63) rfl)) rfl), (gt_in (tch1 (List.mem_of_getElem? (i := 12) rfl)) rfl), ⟨by decide, by decide⟩, rfl, by decide, (fun h => Bool.noConfusion h), by decide⟩
set_option maxRecDepth 20000 in
theorem pyX11_next0 : PY MX11_next0 := ⟨(gt_in (tch5 (List.mem_of_getElem? (i := 17) rfl)) rfl), (gt_in (tch1 (List.mem_of_getElem? (i := 12) rfl)) rfl), ⟨by decide, by decide⟩, rfl, by decide, (fun h => Bool.noConfusion h), by decide⟩
set_option maxRecDepth 20000 in
theorem pyX11_number : PY MX11_number := ⟨(gt_in (tch5 (List.mem_of_getElem? (i := 59) rfl)) rfl), (gt_in (tch1 (List.mem_of_getElem? (i := 12) rfl)) rfl), ⟨by decide, by decide⟩, rfl, by decide, (fun h => Bool.noConfusion h), by decide⟩
set_option maxRecDepth 20000 in
theorem pyX11_of : PY MX11_of := ⟨(gt_in (tch5 (List.mem_of_getElem? (i := 141) rfl)) rfl), (gt_in (tch1 (List.mem_of_getElem? (i := 12) rfl)) rfl), ⟨by decide, by decide⟩, rfl, by decide, (fun h => Bool.noConfusion h), by decide⟩
set_option maxRecDepth 20000 in
theorem pyX11_ofMove : PY MX11_ofMove := ⟨(gt_in (tch5 (List.mem_of_getElem? (i := 99) rfl)) rfl), (gt_in (tch1 (List.mem_of_getElem? (i := 12) rfl)) rfl), ⟨by decide, by decide⟩, rfl, by decide, (fun h => Bool.noConfusion h), by decide⟩
set_option maxRecDepth 20000 in
theorem pyX11_outside : PY MX11_outside := ⟨(gt_in (tch5 (List.mem_of_getElem? (i := 153) rfl)) rfl), (gt_in (tch1 (List.mem_of_getElem? (i := 12) rfl)) rfl), ⟨by decide, by decide⟩, rfl, by decide, (fun h => Bool.noConfusion h), by decide⟩
set_option maxRecDepth 20000 in
theorem pyX11_over : PY MX11_over := ⟨(gt_in (tch5 (List.mem_of_getElem? (i := 149) rfl)) rfl), (gt_in (tch1 (List.mem_of_getElem? (i := 12) rfl)) rfl), ⟨by decide, by decide⟩, rfl, by decide, (fun h => Bool.noConfusion h), by decide⟩
set_option maxRecDepth 20000 in
theorem pyX11_period : PY MX11_period := ⟨(gt_in (tch5 (List.mem_of_getElem? (i := 231) rfl)) rfl), (gt_in (tch1 (List.mem_of_getElem? (i := 12) rfl)) rfl), ⟨by decide, by decide⟩, rfl, by decide, (fun h => Bool.noConfusion h), by decide⟩
set_option maxRecDepth 20000 in
theorem pyX11_placeOf : PY MX11_placeOf := ⟨(gt_in (tch5 (List.mem_of_getElem? (i := 189) rfl)) rfl), (gt_in (tch1 (List.mem_of_getElem? (i := 12) rfl)) rfl), ⟨by decide, by decide⟩, rfl, by decide, (fun h => Bool.noConfusion h), by decide⟩
set_option maxRecDepth 20000 in
theorem pyX11_pulled : PY MX11_pulled := ⟨(gt_in (tch6 (List.mem_of_getElem? (i := 18) rfl)) rfl), (gt_in (tch1 (List.mem_of_getElem? (i := 12) rfl)) rfl), ⟨by decide, by decide⟩, rfl, by decide, (fun h => Bool.noConfusion h), by decide⟩
set_option maxRecDepth 20000 in
theorem pyX11_puts : PY MX11_puts := ⟨(gt_in (tch5 (List.mem_of_getElem? (i := 67) rfl)) rfl), (gt_in (tch1 (List.mem_of_getElem? (i := 12) rfl)) rfl), ⟨by decide, by decide⟩, rfl, by decide, (fun h => Bool.noConfusion h), by decide⟩
set_option maxRecDepth 20000 in
theorem pyX11_ring : PY MX11_ring := ⟨(gt_in (tch6 (List.mem_of_getElem? (i := 30) rfl)) rfl), (gt_in (tch1 (List.mem_of_getElem? (i := 12) rfl)) rfl), ⟨by decide, by decide⟩, rfl, by decide, (fun h => Bool.noConfusion h), by decide⟩
set_option maxRecDepth 20000 in
theorem pyX11_see : PY MX11_see := ⟨(gt_in (tch5 (List.mem_of_getElem? (i := 21) rfl)) rfl), (gt_in (tch1 (List.mem_of_getElem? (i := 12) rfl)) rfl), ⟨by decide, by decide⟩, rfl, by decide, (fun h => Bool.noConfusion h), by decide⟩
set_option maxRecDepth 20000 in
theorem pyX11_sing : PY MX11_sing := ⟨(gt_in (tch5 (List.mem_of_getElem? (i := 83) rfl)) rfl), (gt_in (tch1 (List.mem_of_getElem? (i := 12) rfl)) rfl), ⟨by decide, by decide⟩, rfl, by decide, (fun h => Bool.noConfusion h), by decide⟩
set_option maxRecDepth 20000 in
theorem pyX11_sings : PY MX11_sings := ⟨(gt_in (tch5 (List.mem_of_getElem? (i := 161) rfl)) rfl), (gt_in (tch1 (List.mem_of_getElem? (i := 12) rfl)) rfl), ⟨by decide, by decide⟩, rfl, by decide, (fun h => Bool.noConfusion h), by decide⟩
set_option maxRecDepth 20000 in
theorem pyX11_singsAlone : PY MX11_singsAlone := ⟨(gt_in (tch5 (List.mem_of_getElem? (i := 227) rfl)) rfl), (gt_in (tch1 (List.mem_of_getElem? (i := 12) rfl)) rfl), ⟨by decide, by decide⟩, rfl, by decide, (fun h => Bool.noConfusion h), by decide⟩
set_option maxRecDepth 20000 in
theorem pyX11_singsTruly : PY MX11_singsTruly := ⟨(gt_in (tch5 (List.mem_of_getElem? (i := 91) rfl)) rfl), (gt_in (tch1 (List.mem_of_getElem? (i := 12) rfl)) rfl), ⟨by decide, by decide⟩, rfl, by decide, (fun h => Bool.noConfusion h), by decide⟩
set_option maxRecDepth 20000 in
theorem pyX11_sitsAtFirst : PY MX11_sitsAtFirst := ⟨(gt_in (tch5 (List.mem_of_getElem? (i := 207) rfl)) rfl), (gt_in (tch1 (List.mem_of_getElem? (i := 12) rfl)) rfl), ⟨by decide, by decide⟩, rfl, by decide, (fun h => Bool.noConfusion h), by decide⟩
set_option maxRecDepth 20000 in
theorem pyX11_sitsNow : PY MX11_sitsNow := ⟨(gt_in (tch5 (List.mem_of_getElem? (i := 95) rfl)) rfl), (gt_in (tch1 (List.mem_of_getElem? (i := 12) rfl)) rfl), ⟨by decide, by decide⟩, rfl, by decide, (fun h => Bool.noConfusion h), by decide⟩
set_option maxRecDepth 20000 in
theorem pyX11_slip : PY MX11_slip := ⟨(gt_in (tch4 (List.mem_of_getElem? (i := 238) rfl)) rfl), (gt_in (tch1 (List.mem_of_getElem? (i := 12) rfl)) rfl), ⟨by decide, by decide⟩, rfl, by decide, (fun h => Bool.noConfusion h), by decide⟩
set_option maxRecDepth 20000 in
theorem pyX11_slotOf : PY MX11_slotOf := ⟨(gt_in (tch5 (List.mem_of_getElem? (i := 145) rfl)) rfl), (gt_in (tch1 (List.mem_of_getElem? (i := 12) rfl)) rfl), ⟨by decide, by decide⟩, rfl, by decide, (fun h => Bool.noConfusion h), by decide⟩
set_option maxRecDepth 20000 in
theorem pyX11_someSteps : PY MX11_someSteps := ⟨(gt_in (tch5 (List.mem_of_getElem? (i := 47) rfl)) rfl), (gt_in (tch1 (List.mem_of_getElem? (i := 12) rfl)) rfl), ⟨by decide, by decide⟩, rfl, by decide, (fun h => Bool.noConfusion h), by decide⟩
set_option maxRecDepth 20000 in
theorem pyX11_someTimes : PY MX11_someTimes := ⟨(gt_in (tch5 (List.mem_of_getElem? (i := 51) rfl)) rfl), (gt_in (tch1 (List.mem_of_getElem? (i := 12) rfl)) rfl), ⟨by decide, by decide⟩, rfl, by decide, (fun h => Bool.noConfusion h), by decide⟩
set_option maxRecDepth 20000 in
theorem pyX11_state : PY MX11_state := ⟨(gt_in (tch4 (List.mem_of_getElem? (i := 219) rfl)) rfl), (gt_in (tch1 (List.mem_of_getElem? (i := 12) rfl)) rfl), ⟨by decide, by decide⟩, rfl, by decide, (fun h => Bool.noConfusion h), by decide⟩
set_option maxRecDepth 20000 in
theorem pyX11_stool : PY MX11_stool := ⟨(gt_in (tch4 (List.mem_of_getElem? (i := 223) rfl)) rfl), (gt_in (tch1 (List.mem_of_getElem? (i := 12) rfl)) rfl), ⟨by decide, by decide⟩, rfl, by decide, (fun h => Bool.noConfusion h), by decide⟩
set_option maxRecDepth 20000 in
theorem pyX11_swaps : PY MX11_swaps := ⟨(gt_in (tch5 (List.mem_of_getElem? (i := 125) rfl)) rfl), (gt_in (tch1 (List.mem_of_getElem? (i := 12) rfl)) rfl), ⟨by decide, by decide⟩, rfl, by decide, (fun h => Bool.noConfusion h), by decide⟩
set_option maxRecDepth 20000 in
theorem pyX11_text : PY MX11_text := ⟨(gt_in (tch5 (List.mem_of_getElem? (i := 10) rfl)) rfl), (gt_in (tch1 (List.mem_of_getElem? (i := 12) rfl)) rfl), ⟨by decide, by decide⟩, rfl, by decide, (fun h => Bool.noConfusion h), by decide⟩
set_option maxRecDepth 20000 in
theorem pyX11_turns : PY MX11_turns := ⟨(gt_in (tch5 (List.mem_of_getElem? (i := 113) rfl)) rfl), (gt_in (tch1 (List.mem_of_getElem? (i := 12) rfl)) rfl), ⟨by decide, by decide⟩, rfl, by decide, (fun h => Bool.noConfusion h), by decide⟩
set_option maxRecDepth 20000 in
theorem pyX11_undo : PY MX11_undo := ⟨(gt_in (tch5 (List.mem_of_getElem? (i := 133) rfl)) rfl), (gt_in (tch1 (List.mem_of_getElem? (i := 12) rfl)) rfl), ⟨by decide, by decide⟩, rfl, by decide, (fun h => Bool.noConfusion h), by decide⟩
set_option maxRecDepth 20000 in
theorem pyX11_want : PY MX11_want := ⟨(gt_in (tch5 (List.mem_of_getElem? (i := 173) rfl)) rfl), (gt_in (tch1 (List.mem_of_getElem? (i := 12) rfl)) rfl), ⟨by decide, by decide⟩, rfl, by decide, (fun h => Bool.noConfusion h), by decide⟩
set_option maxRecDepth 20000 in
theorem pyX11_where : PY MX11_where := ⟨(gt_in (tch5 (List.mem_of_getElem? (i := 169) rfl)) rfl), (gt_in (tch1 (List.mem_of_getElem? (i := 12) rfl)) rfl), ⟨by decide, by decide⟩, rfl, by decide, (fun h => Bool.noConfusion h), by decide⟩
set_option maxRecDepth 20000 in
theorem pyX11_word : PY MX11_word := ⟨(gt_in (tch5 (List.mem_of_getElem? (i := 28) rfl)) rfl), (gt_in (tch1 (List.mem_of_getElem? (i := 12) rfl)) rfl), ⟨by decide, by decide⟩, rfl, by decide, (fun h => Bool.noConfusion h), by decide⟩
set_option maxRecDepth 20000 in
theorem pyX11_writes : PY MX11_writes := ⟨(gt_in (tch5 (List.mem_of_getElem? (i := 129) rfl)) rfl), (gt_in (tch1 (List.mem_of_getElem? (i := 12) rfl)) rfl), ⟨by decide, by decide⟩, rfl, by decide, (fun h => Bool.noConfusion h), by decide⟩
set_option maxRecDepth 20000 in
theorem pyJ6_bitCount_0f7a4 : PY MJ6_bitCount_0f7a4 := ⟨(gt_in (tch3 (List.mem_of_getElem? (i := 163) rfl)) rfl), (gt_in (tch1 (List.mem_of_getElem? (i := 20) rfl)) rfl), ⟨by decide, by decide⟩, rfl, by decide, (fun h => Bool.noConfusion h), by decide⟩
set_option maxRecDepth 20000 in
theorem pyJ7_fill_53178 : PY MJ7_fill_53178 := ⟨(gt_in (tch1 (List.mem_of_getElem? (i := 180) rfl)) rfl), (gt_in (tch1 (List.mem_of_getElem? (i := 8) rfl)) rfl), ⟨by decide, by decide⟩, rfl, by decide, (fun h => Bool.noConfusion h), by decide⟩
def PM (e : (Nat × Nat) × (Nat × Nat × Nat × Mth)) : Prop := match e.2.1 with
  | 0 => PY e.2.2.2.2 ∧ Cond.methodLink (clsN e.1.1) e.1.2 e.2.2.2.2.2.2.1 ∈ gt ∧ Cond.static e.2.2.2.2.2.2.1 ∈ gt ∧ (parseMethodDescriptor e.2.2.2.2.2.2.1.desc).map (fun d => d.parameters.length) = some e.2.2.1
  | 1 => PY e.2.2.2.2 ∧ Cond.methodLink (clsN e.1.1) e.1.2 e.2.2.2.2.2.2.1 ∈ gt ∧ Cond.instanceMethod e.2.2.2.2.2.2.1 ∈ gt ∧ Cond.selects e.2.2.2.2.2.2.1.cls e.2.2.2.2.2.2.1 e.2.2.2.2.2.2.1 ∈ gt ∧ (∃ c q, e.2.2.2.1 = 10 + c ∧ vwCl[c]? = some q ∧ q.1 = e.2.2.2.2.2.2.1.cls) ∧ (parseMethodDescriptor e.2.2.2.2.2.2.1.desc).map (fun d => d.parameters.length) = some e.2.2.1
  | 2 => PY e.2.2.2.2 ∧ Cond.methodLink (clsN e.1.1) e.1.2 e.2.2.2.2.2.2.1 ∈ gt ∧ Cond.instanceMethod e.2.2.2.2.2.2.1 ∈ gt ∧ e.2.2.2.2.2.2.1.name = "<init>" ∧ e.2.2.2.2.2.2.2.2.2 = none ∧ (parseMethodDescriptor e.2.2.2.2.2.2.1.desc).map (fun d => d.parameters.length) = some e.2.2.1
  | 3 => PY e.2.2.2.2 ∧ Cond.methodLinkNest (clsN e.1.1) e.1.2 e.2.2.2.2.2.2.1 "RoundStool" ∈ tables_1 ∧ Cond.instanceMethod e.2.2.2.2.2.2.1 ∈ gt ∧ e.2.2.2.2.2.2.1.name = "<init>" ∧ e.2.2.2.2.2.2.2.2.2 = none ∧ (parseMethodDescriptor e.2.2.2.2.2.2.1.desc).map (fun d => d.parameters.length) = some e.2.2.1
  | 10 => Cond.methodLink (clsN e.1.1) e.1.2 objectInit ∈ gt
  | 11 => Cond.methodLink (clsN e.1.1) e.1.2 Lib.Math.max.name ∈ gt
  | 12 => Cond.methodLink (clsN e.1.1) e.1.2 Lib.Math.min.name ∈ gt
  | 13 => Cond.methodLink (clsN e.1.1) e.1.2 arraycopyName ∈ gt
  | 14 => Cond.methodLink (clsN e.1.1) e.1.2 yJ0_length_8abf5 ∈ gt
  | 15 => Cond.methodLink (clsN e.1.1) e.1.2 yJ0_charAt_5068e ∈ gt
  | _ => True
set_option maxRecDepth 20000 in
theorem pm_0 : PM ((0, 3), (10, 0, 0, MX6_get)) := (gt_in (tch2 (List.mem_of_getElem? (i := 12) rfl)) rfl)
set_option maxRecDepth 20000 in
theorem pm_1 : PM ((0, 18), (0, 2, 0, MJ7_fill_53178)) := ⟨pyJ7_fill_53178, (gt_in (tch4 (List.mem_of_getElem? (i := 3) rfl)) rfl), (gt_in (tch1 (List.mem_of_getElem? (i := 179) rfl)) rfl), by decide +kernel⟩
set_option maxRecDepth 20000 in
theorem pm_2 : PM ((0, 33), (0, 1, 0, MX4_isTurn)) := ⟨pyX4_isTurn, (gt_in (tch4 (List.mem_of_getElem? (i := 4) rfl)) rfl), (gt_in (tch3 (List.mem_of_getElem? (i := 58) rfl)) rfl), by decide +kernel⟩
set_option maxRecDepth 20000 in
theorem pm_3 : PM ((0, 39), (1, 3, 10, MX0_earliest)) := ⟨pyX0_earliest, (gt_in (tch4 (List.mem_of_getElem? (i := 5) rfl)) rfl), (gt_in (tch4 (List.mem_of_getElem? (i := 7) rfl)) rfl), (gt_sel (List.mem_of_getElem? (i := 23) rfl) rfl), ⟨0, _, rfl, rfl, rfl⟩, by decide +kernel⟩
set_option maxRecDepth 20000 in
theorem pm_4 : PM ((0, 43), (11, 2, 0, MX6_get)) := (gt_in (tch4 (List.mem_of_getElem? (i := 17) rfl)) rfl)
set_option maxRecDepth 20000 in
theorem pm_5 : PM ((0, 49), (0, 2, 0, MX4_cross)) := ⟨pyX4_cross, (gt_in (tch4 (List.mem_of_getElem? (i := 9) rfl)) rfl), (gt_in (tch4 (List.mem_of_getElem? (i := 10) rfl)) rfl), by decide +kernel⟩
set_option maxRecDepth 20000 in
theorem pm_6 : PM ((1, 3), (10, 0, 0, MX6_get)) := (gt_in (tch1 (List.mem_of_getElem? (i := 143) rfl)) rfl)
set_option maxRecDepth 20000 in
theorem pm_7 : PM ((1, 9), (0, 1, 0, MX6_home)) := ⟨pyX6_home, (gt_in (tch1 (List.mem_of_getElem? (i := 144) rfl)) rfl), (gt_in (tch1 (List.mem_of_getElem? (i := 145) rfl)) rfl), by decide +kernel⟩
set_option maxRecDepth 20000 in
theorem pm_8 : PM ((1, 38), (0, 2, 0, MJ7_fill_53178)) := ⟨pyJ7_fill_53178, (gt_in (tch2 (List.mem_of_getElem? (i := 67) rfl)) rfl), (gt_in (tch1 (List.mem_of_getElem? (i := 179) rfl)) rfl), by decide +kernel⟩
set_option maxRecDepth 20000 in
theorem pm_9 : PM ((1, 44), (13, 5, 0, MX6_get)) := (gt_in (tch3 (List.mem_of_getElem? (i := 43) rfl)) rfl)
set_option maxRecDepth 20000 in
theorem pm_10 : PM ((1, 60), (1, 3, 11, MX1_make)) := ⟨pyX1_make, (gt_in (tch4 (List.mem_of_getElem? (i := 78) rfl)) rfl), (gt_in (tch3 (List.mem_of_getElem? (i := 70) rfl)) rfl), (gt_in (tch3 (List.mem_of_getElem? (i := 71) rfl)) rfl), ⟨1, _, rfl, rfl, rfl⟩, by decide +kernel⟩
set_option maxRecDepth 20000 in
theorem pm_11 : PM ((1, 64), (0, 1, 0, MX4_isTurn)) := ⟨pyX4_isTurn, (gt_in (tch3 (List.mem_of_getElem? (i := 73) rfl)) rfl), (gt_in (tch3 (List.mem_of_getElem? (i := 58) rfl)) rfl), by decide +kernel⟩
set_option maxRecDepth 20000 in
theorem pm_12 : PM ((1, 70), (0, 3, 0, MX4_findsColour)) := ⟨pyX4_findsColour, (gt_in (tch3 (List.mem_of_getElem? (i := 74) rfl)) rfl), (gt_in (tch3 (List.mem_of_getElem? (i := 75) rfl)) rfl), by decide +kernel⟩
set_option maxRecDepth 20000 in
theorem pm_13 : PM ((1, 74), (1, 1, 11, MX1_countOver)) := ⟨pyX1_countOver, (gt_in (tch3 (List.mem_of_getElem? (i := 82) rfl)) rfl), (gt_in (tch3 (List.mem_of_getElem? (i := 84) rfl)) rfl), (gt_sel (List.mem_of_getElem? (i := 19) rfl) rfl), ⟨1, _, rfl, rfl, rfl⟩, by decide +kernel⟩
set_option maxRecDepth 20000 in
theorem pm_14 : PM ((1, 78), (0, 1, 0, MX4_from)) := ⟨pyX4_from, (gt_in (tch3 (List.mem_of_getElem? (i := 86) rfl)) rfl), (gt_in (tch3 (List.mem_of_getElem? (i := 52) rfl)) rfl), by decide +kernel⟩
set_option maxRecDepth 20000 in
theorem pm_15 : PM ((1, 82), (0, 2, 0, MX6_get)) := ⟨pyX6_get, (gt_in (tch3 (List.mem_of_getElem? (i := 90) rfl)) rfl), (gt_in (tch3 (List.mem_of_getElem? (i := 55) rfl)) rfl), by decide +kernel⟩
set_option maxRecDepth 20000 in
theorem pm_16 : PM ((1, 86), (0, 4, 0, MX4_madeOn)) := ⟨pyX4_madeOn, (gt_in (tch3 (List.mem_of_getElem? (i := 96) rfl)) rfl), (gt_in (tch3 (List.mem_of_getElem? (i := 97) rfl)) rfl), by decide +kernel⟩
set_option maxRecDepth 20000 in
theorem pm_17 : PM ((1, 90), (0, 1, 0, MX4_to)) := ⟨pyX4_to, (gt_in (tch3 (List.mem_of_getElem? (i := 87) rfl)) rfl), (gt_in (tch3 (List.mem_of_getElem? (i := 88) rfl)) rfl), by decide +kernel⟩
set_option maxRecDepth 20000 in
theorem pm_18 : PM ((1, 93), (0, 1, 0, MX4_kind)) := ⟨pyX4_kind, (gt_in (tch3 (List.mem_of_getElem? (i := 91) rfl)) rfl), (gt_in (tch3 (List.mem_of_getElem? (i := 61) rfl)) rfl), by decide +kernel⟩
set_option maxRecDepth 20000 in
theorem pm_19 : PM ((1, 96), (12, 2, 0, MX6_get)) := (gt_in (tch3 (List.mem_of_getElem? (i := 92) rfl)) rfl)
set_option maxRecDepth 20000 in
theorem pm_20 : PM ((1, 102), (11, 2, 0, MX6_get)) := (gt_in (tch3 (List.mem_of_getElem? (i := 93) rfl)) rfl)
set_option maxRecDepth 20000 in
theorem pm_21 : PM ((1, 105), (1, 3, 11, MX1_isCovered)) := ⟨pyX1_isCovered, (gt_in (tch4 (List.mem_of_getElem? (i := 51) rfl)) rfl), (gt_in (tch4 (List.mem_of_getElem? (i := 53) rfl)) rfl), (gt_sel (List.mem_of_getElem? (i := 26) rfl) rfl), ⟨1, _, rfl, rfl, rfl⟩, by decide +kernel⟩
set_option maxRecDepth 20000 in
theorem pm_22 : PM ((1, 109), (1, 2, 11, MX1_timesOver)) := ⟨pyX1_timesOver, (gt_in (tch4 (List.mem_of_getElem? (i := 55) rfl)) rfl), (gt_in (tch3 (List.mem_of_getElem? (i := 134) rfl)) rfl), (gt_in (tch3 (List.mem_of_getElem? (i := 135) rfl)) rfl), ⟨1, _, rfl, rfl, rfl⟩, by decide +kernel⟩
set_option maxRecDepth 20000 in
theorem pm_23 : PM ((2, 3), (10, 0, 0, MX6_get)) := (gt_in (tch1 (List.mem_of_getElem? (i := 222) rfl)) rfl)
set_option maxRecDepth 20000 in
theorem pm_24 : PM ((2, 24), (3, 0, 0, MX1_init)) := ⟨pyX1_init, (tch1 (List.mem_of_getElem? (i := 225) rfl)), (gt_in (tch1 (List.mem_of_getElem? (i := 141) rfl)) rfl), rfl, rfl, by decide +kernel⟩
set_option maxRecDepth 20000 in
theorem pm_25 : PM ((2, 25), (1, 1, 11, MX1_copy)) := ⟨pyX1_copy, (gt_in (tch3 (List.mem_of_getElem? (i := 39) rfl)) rfl), (gt_in (tch3 (List.mem_of_getElem? (i := 40) rfl)) rfl), (gt_in (tch3 (List.mem_of_getElem? (i := 41) rfl)) rfl), ⟨1, _, rfl, rfl, rfl⟩, by decide +kernel⟩
set_option maxRecDepth 20000 in
theorem pm_26 : PM ((2, 29), (12, 2, 0, MX6_get)) := (gt_in (tch3 (List.mem_of_getElem? (i := 44) rfl)) rfl)
set_option maxRecDepth 20000 in
theorem pm_27 : PM ((3, 3), (10, 0, 0, MX6_get)) := (gt_in (tch2 (List.mem_of_getElem? (i := 2) rfl)) rfl)
set_option maxRecDepth 20000 in
theorem pm_28 : PM ((3, 15), (0, 3, 0, MX3_isSameColours)) := ⟨pyX3_isSameColours, (gt_in (tch3 (List.mem_of_getElem? (i := 198) rfl)) rfl), (gt_in (tch3 (List.mem_of_getElem? (i := 199) rfl)) rfl), by decide +kernel⟩
set_option maxRecDepth 20000 in
theorem pm_29 : PM ((3, 19), (1, 3, 13, MX3_longestCommon)) := ⟨pyX3_longestCommon, (gt_in (tch3 (List.mem_of_getElem? (i := 205) rfl)) rfl), (gt_in (tch3 (List.mem_of_getElem? (i := 207) rfl)) rfl), (gt_sel (List.mem_of_getElem? (i := 21) rfl) rfl), ⟨3, _, rfl, rfl, rfl⟩, by decide +kernel⟩
set_option maxRecDepth 20000 in
theorem pm_30 : PM ((3, 23), (0, 3, 0, MX6_lifted)) := ⟨pyX6_lifted, (gt_in (tch3 (List.mem_of_getElem? (i := 214) rfl)) rfl), (gt_in (tch3 (List.mem_of_getElem? (i := 106) rfl)) rfl), by decide +kernel⟩
set_option maxRecDepth 20000 in
theorem pm_31 : PM ((3, 29), (1, 3, 13, MX3_needed)) := ⟨pyX3_needed, (gt_in (tch3 (List.mem_of_getElem? (i := 215) rfl)) rfl), (gt_in (tch3 (List.mem_of_getElem? (i := 195) rfl)) rfl), (gt_in (tch3 (List.mem_of_getElem? (i := 196) rfl)) rfl), ⟨3, _, rfl, rfl, rfl⟩, by decide +kernel⟩
set_option maxRecDepth 20000 in
theorem pm_32 : PM ((3, 34), (0, 4, 0, MX4_packed)) := ⟨pyX4_packed, (gt_in (tch3 (List.mem_of_getElem? (i := 216) rfl)) rfl), (gt_in (tch2 (List.mem_of_getElem? (i := 234) rfl)) rfl), by decide +kernel⟩
set_option maxRecDepth 20000 in
theorem pm_33 : PM ((3, 38), (0, 3, 0, MX3_countOf)) := ⟨pyX3_countOf, (gt_in (tch3 (List.mem_of_getElem? (i := 201) rfl)) rfl), (gt_in (tch3 (List.mem_of_getElem? (i := 202) rfl)) rfl), by decide +kernel⟩
set_option maxRecDepth 20000 in
theorem pm_34 : PM ((3, 42), (0, 2, 0, MX6_get)) := ⟨pyX6_get, (gt_in (tch3 (List.mem_of_getElem? (i := 204) rfl)) rfl), (gt_in (tch3 (List.mem_of_getElem? (i := 55) rfl)) rfl), by decide +kernel⟩
set_option maxRecDepth 20000 in
theorem pm_35 : PM ((3, 46), (11, 2, 0, MX6_get)) := (gt_in (tch3 (List.mem_of_getElem? (i := 209) rfl)) rfl)
set_option maxRecDepth 20000 in
theorem pm_36 : PM ((4, 11), (0, 1, 0, MX4_from)) := ⟨pyX4_from, (gt_in (tch3 (List.mem_of_getElem? (i := 80) rfl)) rfl), (gt_in (tch3 (List.mem_of_getElem? (i := 52) rfl)) rfl), by decide +kernel⟩
set_option maxRecDepth 20000 in
theorem pm_37 : PM ((4, 15), (0, 1, 0, MX4_kind)) := ⟨pyX4_kind, (gt_in (tch3 (List.mem_of_getElem? (i := 60) rfl)) rfl), (gt_in (tch3 (List.mem_of_getElem? (i := 61) rfl)) rfl), by decide +kernel⟩
set_option maxRecDepth 20000 in
theorem pm_38 : PM ((4, 18), (0, 4, 0, MX4_packed)) := ⟨pyX4_packed, (gt_in (tch3 (List.mem_of_getElem? (i := 184) rfl)) rfl), (gt_in (tch2 (List.mem_of_getElem? (i := 234) rfl)) rfl), by decide +kernel⟩
set_option maxRecDepth 20000 in
theorem pm_39 : PM ((4, 22), (0, 1, 0, MX4_to)) := ⟨pyX4_to, (gt_in (tch3 (List.mem_of_getElem? (i := 104) rfl)) rfl), (gt_in (tch3 (List.mem_of_getElem? (i := 88) rfl)) rfl), by decide +kernel⟩
set_option maxRecDepth 20000 in
theorem pm_40 : PM ((4, 25), (0, 1, 0, MX4_asked)) := ⟨pyX4_asked, (gt_in (tch3 (List.mem_of_getElem? (i := 77) rfl)) rfl), (gt_in (tch3 (List.mem_of_getElem? (i := 78) rfl)) rfl), by decide +kernel⟩
set_option maxRecDepth 20000 in
theorem pm_41 : PM ((4, 28), (0, 2, 0, MX6_get)) := ⟨pyX6_get, (gt_in (tch3 (List.mem_of_getElem? (i := 81) rfl)) rfl), (gt_in (tch3 (List.mem_of_getElem? (i := 55) rfl)) rfl), by decide +kernel⟩
set_option maxRecDepth 20000 in
theorem pm_42 : PM ((4, 34), (0, 1, 0, MX4_isTurn)) := ⟨pyX4_isTurn, (gt_in (tch3 (List.mem_of_getElem? (i := 99) rfl)) rfl), (gt_in (tch3 (List.mem_of_getElem? (i := 58) rfl)) rfl), by decide +kernel⟩
set_option maxRecDepth 20000 in
theorem pm_43 : PM ((4, 38), (0, 3, 0, MX6_turned)) := ⟨pyX6_turned, (gt_in (tch3 (List.mem_of_getElem? (i := 100) rfl)) rfl), (gt_in (tch3 (List.mem_of_getElem? (i := 101) rfl)) rfl), by decide +kernel⟩
set_option maxRecDepth 20000 in
theorem pm_44 : PM ((4, 42), (0, 3, 0, MX4_findsColour)) := ⟨pyX4_findsColour, (gt_in (tch3 (List.mem_of_getElem? (i := 103) rfl)) rfl), (gt_in (tch3 (List.mem_of_getElem? (i := 75) rfl)) rfl), by decide +kernel⟩
set_option maxRecDepth 20000 in
theorem pm_45 : PM ((4, 46), (0, 3, 0, MX6_lifted)) := ⟨pyX6_lifted, (gt_in (tch3 (List.mem_of_getElem? (i := 105) rfl)) rfl), (gt_in (tch3 (List.mem_of_getElem? (i := 106) rfl)) rfl), by decide +kernel⟩
set_option maxRecDepth 20000 in
theorem pm_46 : PM ((4, 49), (0, 3, 0, MX6_swapped)) := ⟨pyX6_swapped, (gt_in (tch3 (List.mem_of_getElem? (i := 109) rfl)) rfl), (gt_in (tch3 (List.mem_of_getElem? (i := 110) rfl)) rfl), by decide +kernel⟩
set_option maxRecDepth 20000 in
theorem pm_47 : PM ((4, 52), (0, 3, 0, MX4_isBetween)) := ⟨pyX4_isBetween, (gt_in (tch4 (List.mem_of_getElem? (i := 12) rfl)) rfl), (gt_in (tch4 (List.mem_of_getElem? (i := 13) rfl)) rfl), by decide +kernel⟩
set_option maxRecDepth 20000 in
theorem pm_48 : PM ((4, 56), (12, 2, 0, MX6_get)) := (gt_in (tch4 (List.mem_of_getElem? (i := 15) rfl)) rfl)
set_option maxRecDepth 20000 in
theorem pm_49 : PM ((4, 62), (11, 2, 0, MX6_get)) := (gt_in (tch4 (List.mem_of_getElem? (i := 16) rfl)) rfl)
set_option maxRecDepth 20000 in
theorem pm_50 : PM ((5, 3), (10, 0, 0, MX6_get)) := (gt_in (tch1 (List.mem_of_getElem? (i := 34) rfl)) rfl)
set_option maxRecDepth 20000 in
theorem pm_51 : PM ((5, 20), (3, 0, 0, MX9_init)) := ⟨pyX9_init, (tch1 (List.mem_of_getElem? (i := 37) rfl)), (gt_in (tch1 (List.mem_of_getElem? (i := 38) rfl)) rfl), rfl, rfl, by decide +kernel⟩
set_option maxRecDepth 20000 in
theorem pm_52 : PM ((5, 27), (3, 0, 0, MX7_init)) := ⟨pyX7_init, (tch1 (List.mem_of_getElem? (i := 69) rfl)), (gt_in (tch1 (List.mem_of_getElem? (i := 70) rfl)) rfl), rfl, rfl, by decide +kernel⟩
set_option maxRecDepth 20000 in
theorem pm_53 : PM ((5, 58), (1, 0, 17, MX9_findTokens)) := ⟨pyX9_findTokens, (gt_in (tch2 (List.mem_of_getElem? (i := 114) rfl)) rfl), (gt_in (tch2 (List.mem_of_getElem? (i := 115) rfl)) rfl), (gt_in (tch2 (List.mem_of_getElem? (i := 116) rfl)) rfl), ⟨7, _, rfl, rfl, rfl⟩, by decide +kernel⟩
set_option maxRecDepth 20000 in
theorem pm_54 : PM ((5, 67), (1, 0, 14, MX5_take)) := ⟨pyX5_take, (gt_in (tch2 (List.mem_of_getElem? (i := 205) rfl)) rfl), (gt_in (tch2 (List.mem_of_getElem? (i := 207) rfl)) rfl), (gt_sel (List.mem_of_getElem? (i := 7) rfl) rfl), ⟨4, _, rfl, rfl, rfl⟩, by decide +kernel⟩
set_option maxRecDepth 20000 in
theorem pm_55 : PM ((5, 70), (1, 0, 14, MX5_readEnd)) := ⟨pyX5_readEnd, (gt_in (tch2 (List.mem_of_getElem? (i := 209) rfl)) rfl), (gt_in (tch2 (List.mem_of_getElem? (i := 211) rfl)) rfl), (gt_sel (List.mem_of_getElem? (i := 8) rfl) rfl), ⟨4, _, rfl, rfl, rfl⟩, by decide +kernel⟩
set_option maxRecDepth 20000 in
theorem pm_56 : PM ((5, 74), (1, 0, 14, MX5_readLift)) := ⟨pyX5_readLift, (gt_in (tch2 (List.mem_of_getElem? (i := 217) rfl)) rfl), (gt_in (tch2 (List.mem_of_getElem? (i := 219) rfl)) rfl), (gt_sel (List.mem_of_getElem? (i := 10) rfl) rfl), ⟨4, _, rfl, rfl, rfl⟩, by decide +kernel⟩
set_option maxRecDepth 20000 in
theorem pm_57 : PM ((5, 77), (1, 0, 14, MX5_readSwap)) := ⟨pyX5_readSwap, (gt_in (tch3 (List.mem_of_getElem? (i := 4) rfl)) rfl), (gt_in (tch3 (List.mem_of_getElem? (i := 6) rfl)) rfl), (gt_sel (List.mem_of_getElem? (i := 15) rfl) rfl), ⟨4, _, rfl, rfl, rfl⟩, by decide +kernel⟩
set_option maxRecDepth 20000 in
theorem pm_58 : PM ((5, 80), (1, 0, 14, MX5_readTurn)) := ⟨pyX5_readTurn, (gt_in (tch3 (List.mem_of_getElem? (i := 8) rfl)) rfl), (gt_in (tch3 (List.mem_of_getElem? (i := 10) rfl)) rfl), (gt_sel (List.mem_of_getElem? (i := 16) rfl) rfl), ⟨4, _, rfl, rfl, rfl⟩, by decide +kernel⟩
set_option maxRecDepth 20000 in
theorem pm_59 : PM ((5, 83), (1, 0, 14, MX5_readTimes)) := ⟨pyX5_readTimes, (gt_in (tch3 (List.mem_of_getElem? (i := 12) rfl)) rfl), (gt_in (tch3 (List.mem_of_getElem? (i := 14) rfl)) rfl), (gt_sel (List.mem_of_getElem? (i := 17) rfl) rfl), ⟨4, _, rfl, rfl, rfl⟩, by decide +kernel⟩
set_option maxRecDepth 20000 in
theorem pm_60 : PM ((5, 86), (1, 0, 14, MX5_readClosing)) := ⟨pyX5_readClosing, (gt_in (tch3 (List.mem_of_getElem? (i := 16) rfl)) rfl), (gt_in (tch3 (List.mem_of_getElem? (i := 18) rfl)) rfl), (gt_sel (List.mem_of_getElem? (i := 18) rfl) rfl), ⟨4, _, rfl, rfl, rfl⟩, by decide +kernel⟩
set_option maxRecDepth 20000 in
theorem pm_61 : PM ((5, 89), (1, 1, 14, MX5_fail)) := ⟨pyX5_fail, (gt_in (tch2 (List.mem_of_getElem? (i := 213) rfl)) rfl), (gt_in (tch2 (List.mem_of_getElem? (i := 215) rfl)) rfl), (gt_sel (List.mem_of_getElem? (i := 9) rfl) rfl), ⟨4, _, rfl, rfl, rfl⟩, by decide +kernel⟩
set_option maxRecDepth 20000 in
theorem pm_62 : PM ((5, 102), (1, 1, 14, MX5_readToken)) := ⟨pyX5_readToken, (gt_in (tch2 (List.mem_of_getElem? (i := 225) rfl)) rfl), (gt_in (tch2 (List.mem_of_getElem? (i := 227) rfl)) rfl), (gt_sel (List.mem_of_getElem? (i := 12) rfl) rfl), ⟨4, _, rfl, rfl, rfl⟩, by decide +kernel⟩
set_option maxRecDepth 20000 in
theorem pm_63 : PM ((5, 105), (1, 2, 14, MX5_readNumber)) := ⟨pyX5_readNumber, (gt_in (tch2 (List.mem_of_getElem? (i := 221) rfl)) rfl), (gt_in (tch2 (List.mem_of_getElem? (i := 223) rfl)) rfl), (gt_sel (List.mem_of_getElem? (i := 11) rfl) rfl), ⟨4, _, rfl, rfl, rfl⟩, by decide +kernel⟩
set_option maxRecDepth 20000 in
theorem pm_64 : PM ((5, 111), (1, 3, 14, MX5_readAsked)) := ⟨pyX5_readAsked, (gt_in (tch2 (List.mem_of_getElem? (i := 229) rfl)) rfl), (gt_in (tch2 (List.mem_of_getElem? (i := 231) rfl)) rfl), (gt_sel (List.mem_of_getElem? (i := 13) rfl) rfl), ⟨4, _, rfl, rfl, rfl⟩, by decide +kernel⟩
set_option maxRecDepth 20000 in
theorem pm_65 : PM ((5, 115), (0, 4, 0, MX4_packed)) := ⟨pyX4_packed, (gt_in (tch2 (List.mem_of_getElem? (i := 233) rfl)) rfl), (gt_in (tch2 (List.mem_of_getElem? (i := 234) rfl)) rfl), by decide +kernel⟩
set_option maxRecDepth 20000 in
theorem pm_66 : PM ((5, 119), (1, 1, 14, MX5_append)) := ⟨pyX5_append, (gt_in (tch2 (List.mem_of_getElem? (i := 236) rfl)) rfl), (gt_in (tch2 (List.mem_of_getElem? (i := 238) rfl)) rfl), (gt_sel (List.mem_of_getElem? (i := 14) rfl) rfl), ⟨4, _, rfl, rfl, rfl⟩, by decide +kernel⟩
set_option maxRecDepth 20000 in
theorem pm_67 : PM ((5, 126), (1, 1, 15, MX7_add)) := ⟨pyX7_add, (gt_in (tch3 (List.mem_of_getElem? (i := 0) rfl)) rfl), (gt_in (tch3 (List.mem_of_getElem? (i := 1) rfl)) rfl), (gt_in (tch3 (List.mem_of_getElem? (i := 2) rfl)) rfl), ⟨5, _, rfl, rfl, rfl⟩, by decide +kernel⟩
set_option maxRecDepth 20000 in
theorem pm_68 : PM ((6, 13), (0, 1, 0, MX6_lowest)) := ⟨pyX6_lowest, (gt_in (tch1 (List.mem_of_getElem? (i := 148) rfl)) rfl), (gt_in (tch1 (List.mem_of_getElem? (i := 149) rfl)) rfl), by decide +kernel⟩
set_option maxRecDepth 20000 in
theorem pm_69 : PM ((6, 21), (0, 2, 0, MX6_get)) := ⟨pyX6_get, (gt_in (tch3 (List.mem_of_getElem? (i := 108) rfl)) rfl), (gt_in (tch3 (List.mem_of_getElem? (i := 55) rfl)) rfl), by decide +kernel⟩
set_option maxRecDepth 20000 in
theorem pm_70 : PM ((6, 25), (0, 3, 0, MX6_with)) := ⟨pyX6_with, (gt_in (tch3 (List.mem_of_getElem? (i := 112) rfl)) rfl), (gt_in (tch2 (List.mem_of_getElem? (i := 80) rfl)) rfl), by decide +kernel⟩
set_option maxRecDepth 20000 in
theorem pm_71 : PM ((7, 3), (10, 0, 0, MX6_get)) := (gt_in (tch1 (List.mem_of_getElem? (i := 72) rfl)) rfl)
set_option maxRecDepth 20000 in
theorem pm_72 : PM ((7, 19), (13, 5, 0, MX6_get)) := (gt_in (tch3 (List.mem_of_getElem? (i := 24) rfl)) rfl)
set_option maxRecDepth 20000 in
theorem pm_73 : PM ((7, 25), (0, 1, 0, MX4_isTurn)) := ⟨pyX4_isTurn, (gt_in (tch3 (List.mem_of_getElem? (i := 157) rfl)) rfl), (gt_in (tch3 (List.mem_of_getElem? (i := 58) rfl)) rfl), by decide +kernel⟩
set_option maxRecDepth 20000 in
theorem pm_74 : PM ((7, 31), (0, 1, 0, MX4_from)) := ⟨pyX4_from, (gt_in (tch3 (List.mem_of_getElem? (i := 158) rfl)) rfl), (gt_in (tch3 (List.mem_of_getElem? (i := 52) rfl)) rfl), by decide +kernel⟩
set_option maxRecDepth 20000 in
theorem pm_75 : PM ((7, 35), (0, 2, 0, MX6_get)) := ⟨pyX6_get, (gt_in (tch3 (List.mem_of_getElem? (i := 159) rfl)) rfl), (gt_in (tch3 (List.mem_of_getElem? (i := 55) rfl)) rfl), by decide +kernel⟩
set_option maxRecDepth 20000 in
theorem pm_76 : PM ((7, 41), (0, 4, 0, MX4_madeOn)) := ⟨pyX4_madeOn, (gt_in (tch3 (List.mem_of_getElem? (i := 160) rfl)) rfl), (gt_in (tch3 (List.mem_of_getElem? (i := 97) rfl)) rfl), by decide +kernel⟩
set_option maxRecDepth 20000 in
theorem pm_77 : PM ((7, 45), (0, 2, 0, MX4_mirrored)) := ⟨pyX4_mirrored, (gt_in (tch3 (List.mem_of_getElem? (i := 181) rfl)) rfl), (gt_in (tch3 (List.mem_of_getElem? (i := 182) rfl)) rfl), by decide +kernel⟩
set_option maxRecDepth 20000 in
theorem pm_78 : PM ((7, 49), (1, 4, 15, MX7_sungFrom)) := ⟨pyX7_sungFrom, (gt_in (tch3 (List.mem_of_getElem? (i := 153) rfl)) rfl), (gt_in (tch3 (List.mem_of_getElem? (i := 154) rfl)) rfl), (gt_in (tch3 (List.mem_of_getElem? (i := 155) rfl)) rfl), ⟨5, _, rfl, rfl, rfl⟩, by decide +kernel⟩
set_option maxRecDepth 20000 in
theorem pm_79 : PM ((7, 53), (0, 1, 0, MJ6_bitCount_0f7a4)) := ⟨pyJ6_bitCount_0f7a4, (gt_in (tch3 (List.mem_of_getElem? (i := 161) rfl)) rfl), (gt_in (tch3 (List.mem_of_getElem? (i := 162) rfl)) rfl), by decide +kernel⟩
set_option maxRecDepth 20000 in
theorem pm_80 : PM ((8, 3), (10, 0, 0, MX6_get)) := (gt_in (tch1 (List.mem_of_getElem? (i := 135) rfl)) rfl)
set_option maxRecDepth 20000 in
theorem pm_81 : PM ((8, 37), (3, 0, 0, MX1_init)) := ⟨pyX1_init, (tch1 (List.mem_of_getElem? (i := 140) rfl)), (gt_in (tch1 (List.mem_of_getElem? (i := 141) rfl)) rfl), rfl, rfl, by decide +kernel⟩
set_option maxRecDepth 20000 in
theorem pm_82 : PM ((8, 48), (0, 2, 0, MJ7_fill_53178)) := ⟨pyJ7_fill_53178, (gt_in (tch1 (List.mem_of_getElem? (i := 178) rfl)) rfl), (gt_in (tch1 (List.mem_of_getElem? (i := 179) rfl)) rfl), by decide +kernel⟩
set_option maxRecDepth 20000 in
theorem pm_83 : PM ((8, 54), (3, 0, 0, MX7_init)) := ⟨pyX7_init, (tch1 (List.mem_of_getElem? (i := 181) rfl)), (gt_in (tch1 (List.mem_of_getElem? (i := 70) rfl)) rfl), rfl, rfl, by decide +kernel⟩
set_option maxRecDepth 20000 in
theorem pm_84 : PM ((8, 58), (1, 1, 11, MX1_startAnew)) := ⟨pyX1_startAnew, (gt_in (tch2 (List.mem_of_getElem? (i := 63) rfl)) rfl), (gt_in (tch2 (List.mem_of_getElem? (i := 64) rfl)) rfl), (gt_in (tch2 (List.mem_of_getElem? (i := 65) rfl)) rfl), ⟨1, _, rfl, rfl, rfl⟩, by decide +kernel⟩
set_option maxRecDepth 20000 in
theorem pm_85 : PM ((8, 62), (13, 5, 0, MX6_get)) := (gt_in (tch4 (List.mem_of_getElem? (i := 108) rfl)) rfl)
set_option maxRecDepth 20000 in
theorem pm_86 : PM ((8, 68), (1, 1, 15, MX7_copy)) := ⟨pyX7_copy, (gt_in (tch4 (List.mem_of_getElem? (i := 109) rfl)) rfl), (gt_in (tch3 (List.mem_of_getElem? (i := 21) rfl)) rfl), (gt_in (tch3 (List.mem_of_getElem? (i := 22) rfl)) rfl), ⟨5, _, rfl, rfl, rfl⟩, by decide +kernel⟩
set_option maxRecDepth 20000 in
theorem pm_87 : PM ((8, 72), (1, 1, 11, MX1_copy)) := ⟨pyX1_copy, (gt_in (tch4 (List.mem_of_getElem? (i := 110) rfl)) rfl), (gt_in (tch3 (List.mem_of_getElem? (i := 40) rfl)) rfl), (gt_in (tch3 (List.mem_of_getElem? (i := 41) rfl)) rfl), ⟨1, _, rfl, rfl, rfl⟩, by decide +kernel⟩
set_option maxRecDepth 20000 in
theorem pm_88 : PM ((8, 75), (0, 2, 0, MX6_get)) := ⟨pyX6_get, (gt_in (tch3 (List.mem_of_getElem? (i := 54) rfl)) rfl), (gt_in (tch3 (List.mem_of_getElem? (i := 55) rfl)) rfl), by decide +kernel⟩
set_option maxRecDepth 20000 in
theorem pm_89 : PM ((8, 81), (0, 3, 0, MX6_with)) := ⟨pyX6_with, (gt_in (tch3 (List.mem_of_getElem? (i := 171) rfl)) rfl), (gt_in (tch2 (List.mem_of_getElem? (i := 80) rfl)) rfl), by decide +kernel⟩
set_option maxRecDepth 20000 in
theorem pm_90 : PM ((8, 91), (0, 1, 0, MX4_from)) := ⟨pyX4_from, (gt_in (tch3 (List.mem_of_getElem? (i := 51) rfl)) rfl), (gt_in (tch3 (List.mem_of_getElem? (i := 52) rfl)) rfl), by decide +kernel⟩
set_option maxRecDepth 20000 in
theorem pm_91 : PM ((8, 97), (0, 1, 0, MX4_isTurn)) := ⟨pyX4_isTurn, (gt_in (tch3 (List.mem_of_getElem? (i := 57) rfl)) rfl), (gt_in (tch3 (List.mem_of_getElem? (i := 58) rfl)) rfl), by decide +kernel⟩
set_option maxRecDepth 20000 in
theorem pm_92 : PM ((8, 101), (1, 1, 11, MX1_draw)) := ⟨pyX1_draw, (gt_in (tch3 (List.mem_of_getElem? (i := 63) rfl)) rfl), (gt_in (tch3 (List.mem_of_getElem? (i := 64) rfl)) rfl), (gt_in (tch3 (List.mem_of_getElem? (i := 65) rfl)) rfl), ⟨1, _, rfl, rfl, rfl⟩, by decide +kernel⟩
set_option maxRecDepth 20000 in
theorem pm_93 : PM ((8, 104), (1, 3, 11, MX1_make)) := ⟨pyX1_make, (gt_in (tch3 (List.mem_of_getElem? (i := 69) rfl)) rfl), (gt_in (tch3 (List.mem_of_getElem? (i := 70) rfl)) rfl), (gt_in (tch3 (List.mem_of_getElem? (i := 71) rfl)) rfl), ⟨1, _, rfl, rfl, rfl⟩, by decide +kernel⟩
set_option maxRecDepth 20000 in
theorem pm_94 : PM ((8, 108), (1, 1, 16, MX8_addRow)) := ⟨pyX8_addRow, (gt_in (tch3 (List.mem_of_getElem? (i := 113) rfl)) rfl), (gt_in (tch3 (List.mem_of_getElem? (i := 115) rfl)) rfl), (gt_sel (List.mem_of_getElem? (i := 20) rfl) rfl), ⟨6, _, rfl, rfl, rfl⟩, by decide +kernel⟩
set_option maxRecDepth 20000 in
theorem pm_95 : PM ((8, 114), (1, 2, 16, MX8_rowPart)) := ⟨pyX8_rowPart, (gt_in (tch4 (List.mem_of_getElem? (i := 91) rfl)) rfl), (gt_in (tch3 (List.mem_of_getElem? (i := 142) rfl)) rfl), (gt_in (tch3 (List.mem_of_getElem? (i := 143) rfl)) rfl), ⟨6, _, rfl, rfl, rfl⟩, by decide +kernel⟩
set_option maxRecDepth 20000 in
theorem pm_96 : PM ((8, 118), (1, 1, 16, MX8_layRows)) := ⟨pyX8_layRows, (gt_in (tch4 (List.mem_of_getElem? (i := 30) rfl)) rfl), (gt_in (tch4 (List.mem_of_getElem? (i := 32) rfl)) rfl), (gt_sel (List.mem_of_getElem? (i := 24) rfl) rfl), ⟨6, _, rfl, rfl, rfl⟩, by decide +kernel⟩
set_option maxRecDepth 20000 in
theorem pm_97 : PM ((8, 122), (1, 1, 16, MX8_countUnlike)) := ⟨pyX8_countUnlike, (gt_in (tch4 (List.mem_of_getElem? (i := 39) rfl)) rfl), (gt_in (tch4 (List.mem_of_getElem? (i := 41) rfl)) rfl), (gt_sel (List.mem_of_getElem? (i := 25) rfl) rfl), ⟨6, _, rfl, rfl, rfl⟩, by decide +kernel⟩
set_option maxRecDepth 20000 in
theorem pm_98 : PM ((8, 126), (0, 1, 0, MX6_home)) := ⟨pyX6_home, (gt_in (tch4 (List.mem_of_getElem? (i := 34) rfl)) rfl), (gt_in (tch1 (List.mem_of_getElem? (i := 145) rfl)) rfl), by decide +kernel⟩
set_option maxRecDepth 20000 in
theorem pm_99 : PM ((8, 130), (0, 1, 0, MX4_withoutAsking)) := ⟨pyX4_withoutAsking, (gt_in (tch4 (List.mem_of_getElem? (i := 35) rfl)) rfl), (gt_in (tch4 (List.mem_of_getElem? (i := 36) rfl)) rfl), by decide +kernel⟩
set_option maxRecDepth 20000 in
theorem pm_100 : PM ((8, 133), (0, 4, 0, MX4_madeOn)) := ⟨pyX4_madeOn, (gt_in (tch4 (List.mem_of_getElem? (i := 38) rfl)) rfl), (gt_in (tch3 (List.mem_of_getElem? (i := 97) rfl)) rfl), by decide +kernel⟩
set_option maxRecDepth 20000 in
theorem pm_101 : PM ((9, 3), (10, 0, 0, MX6_get)) := (gt_in (tch1 (List.mem_of_getElem? (i := 40) rfl)) rfl)
set_option maxRecDepth 20000 in
theorem pm_102 : PM ((9, 32), (1, 1, 17, MX9_endOfRun)) := ⟨pyX9_endOfRun, (gt_in (tch2 (List.mem_of_getElem? (i := 118) rfl)) rfl), (gt_in (tch2 (List.mem_of_getElem? (i := 120) rfl)) rfl), (gt_sel (List.mem_of_getElem? (i := 1) rfl) rfl), ⟨7, _, rfl, rfl, rfl⟩, by decide +kernel⟩
set_option maxRecDepth 20000 in
theorem pm_103 : PM ((9, 36), (0, 1, 0, MX9_isBlank)) := ⟨pyX9_isBlank, (gt_in (tch2 (List.mem_of_getElem? (i := 128) rfl)) rfl), (gt_in (tch2 (List.mem_of_getElem? (i := 129) rfl)) rfl), by decide +kernel⟩
set_option maxRecDepth 20000 in
theorem pm_104 : PM ((9, 40), (1, 2, 17, MX9_kindOfRun)) := ⟨pyX9_kindOfRun, (gt_in (tch2 (List.mem_of_getElem? (i := 131) rfl)) rfl), (gt_in (tch2 (List.mem_of_getElem? (i := 133) rfl)) rfl), (gt_sel (List.mem_of_getElem? (i := 2) rfl) rfl), ⟨7, _, rfl, rfl, rfl⟩, by decide +kernel⟩
set_option maxRecDepth 20000 in
theorem pm_105 : PM ((9, 44), (1, 2, 17, MX9_numberOfRun)) := ⟨pyX9_numberOfRun, (gt_in (tch2 (List.mem_of_getElem? (i := 197) rfl)) rfl), (gt_in (tch2 (List.mem_of_getElem? (i := 199) rfl)) rfl), (gt_sel (List.mem_of_getElem? (i := 5) rfl) rfl), ⟨7, _, rfl, rfl, rfl⟩, by decide +kernel⟩
set_option maxRecDepth 20000 in
theorem pm_106 : PM ((9, 47), (1, 3, 17, MX9_addToken)) := ⟨pyX9_addToken, (gt_in (tch2 (List.mem_of_getElem? (i := 201) rfl)) rfl), (gt_in (tch2 (List.mem_of_getElem? (i := 203) rfl)) rfl), (gt_sel (List.mem_of_getElem? (i := 6) rfl) rfl), ⟨7, _, rfl, rfl, rfl⟩, by decide +kernel⟩
set_option maxRecDepth 20000 in
theorem pm_107 : PM ((9, 51), (0, 1, 0, MX9_isLetter)) := ⟨pyX9_isLetter, (gt_in (tch2 (List.mem_of_getElem? (i := 122) rfl)) rfl), (gt_in (tch2 (List.mem_of_getElem? (i := 123) rfl)) rfl), by decide +kernel⟩
set_option maxRecDepth 20000 in
theorem pm_108 : PM ((9, 54), (0, 1, 0, MX9_isDigit)) := ⟨pyX9_isDigit, (gt_in (tch2 (List.mem_of_getElem? (i := 125) rfl)) rfl), (gt_in (tch2 (List.mem_of_getElem? (i := 126) rfl)) rfl), by decide +kernel⟩
set_option maxRecDepth 20000 in
theorem pm_109 : PM ((9, 57), (1, 2, 17, MX9_kindOfWord)) := ⟨pyX9_kindOfWord, (gt_in (tch2 (List.mem_of_getElem? (i := 135) rfl)) rfl), (gt_in (tch2 (List.mem_of_getElem? (i := 137) rfl)) rfl), (gt_sel (List.mem_of_getElem? (i := 3) rfl) rfl), ⟨7, _, rfl, rfl, rfl⟩, by decide +kernel⟩
set_option maxRecDepth 20000 in
theorem pm_110 : PM ((9, 62), (1, 3, 17, MX9_isWord)) := ⟨pyX9_isWord, (gt_in (tch2 (List.mem_of_getElem? (i := 140) rfl)) rfl), (gt_in (tch2 (List.mem_of_getElem? (i := 142) rfl)) rfl), (gt_sel (List.mem_of_getElem? (i := 4) rfl) rfl), ⟨7, _, rfl, rfl, rfl⟩, by decide +kernel⟩
set_option maxRecDepth 20000 in
theorem pm_111 : PM ((9, 76), (14, 0, 0, MX6_get)) := (gt_in (tch2 (List.mem_of_getElem? (i := 144) rfl)) rfl)
set_option maxRecDepth 20000 in
theorem pm_112 : PM ((9, 81), (15, 1, 0, MX6_get)) := (gt_in (tch2 (List.mem_of_getElem? (i := 154) rfl)) rfl)
set_option maxRecDepth 20000 in
theorem pm_113 : PM ((10, 1), (10, 0, 0, MX6_get)) := (gt_in (tch1 (List.mem_of_getElem? (i := 26) rfl)) rfl)
set_option maxRecDepth 20000 in
theorem pm_114 : PM ((10, 9), (3, 0, 0, MX5_init)) := ⟨pyX5_init, (tch1 (List.mem_of_getElem? (i := 31) rfl)), (gt_in (tch1 (List.mem_of_getElem? (i := 32) rfl)) rfl), rfl, rfl, by decide +kernel⟩
set_option maxRecDepth 20000 in
theorem pm_115 : PM ((10, 18), (2, 0, 0, MX8_init)) := ⟨pyX8_init, (gt_in (tch1 (List.mem_of_getElem? (i := 132) rfl)) rfl), (gt_in (tch1 (List.mem_of_getElem? (i := 133) rfl)) rfl), rfl, rfl, by decide +kernel⟩
set_option maxRecDepth 20000 in
theorem pm_116 : PM ((10, 25), (2, 0, 0, MX2_init)) := ⟨pyX2_init, (gt_in (tch1 (List.mem_of_getElem? (i := 219) rfl)) rfl), (gt_in (tch1 (List.mem_of_getElem? (i := 220) rfl)) rfl), rfl, rfl, by decide +kernel⟩
set_option maxRecDepth 20000 in
theorem pm_117 : PM ((10, 32), (3, 0, 0, MX3_init)) := ⟨pyX3_init, (tch1 (List.mem_of_getElem? (i := 239) rfl)), (gt_in (tch2 (List.mem_of_getElem? (i := 0) rfl)) rfl), rfl, rfl, by decide +kernel⟩
set_option maxRecDepth 20000 in
theorem pm_118 : PM ((10, 39), (3, 0, 0, MX0_init)) := ⟨pyX0_init, (tch2 (List.mem_of_getElem? (i := 9) rfl)), (gt_in (tch2 (List.mem_of_getElem? (i := 10) rfl)) rfl), rfl, rfl, by decide +kernel⟩
set_option maxRecDepth 20000 in
theorem pm_119 : PM ((10, 46), (3, 0, 0, MX1_init)) := ⟨pyX1_init, (tch2 (List.mem_of_getElem? (i := 21) rfl)), (gt_in (tch1 (List.mem_of_getElem? (i := 141) rfl)) rfl), rfl, rfl, by decide +kernel⟩
set_option maxRecDepth 20000 in
theorem pm_120 : PM ((10, 64), (1, 0, 12, MX2_forget)) := ⟨pyX2_forget, (gt_in (tch2 (List.mem_of_getElem? (i := 51) rfl)) rfl), (gt_in (tch2 (List.mem_of_getElem? (i := 52) rfl)) rfl), (gt_in (tch2 (List.mem_of_getElem? (i := 53) rfl)) rfl), ⟨2, _, rfl, rfl, rfl⟩, by decide +kernel⟩
set_option maxRecDepth 20000 in
theorem pm_121 : PM ((10, 67), (1, 1, 16, MX8_startAnew)) := ⟨pyX8_startAnew, (gt_in (tch2 (List.mem_of_getElem? (i := 59) rfl)) rfl), (gt_in (tch2 (List.mem_of_getElem? (i := 60) rfl)) rfl), (gt_in (tch2 (List.mem_of_getElem? (i := 61) rfl)) rfl), ⟨6, _, rfl, rfl, rfl⟩, by decide +kernel⟩
set_option maxRecDepth 20000 in
theorem pm_122 : PM ((10, 71), (1, 1, 18, MX10_isSlot)) := ⟨pyX10_isSlot, (gt_in (tch2 (List.mem_of_getElem? (i := 72) rfl)) rfl), (gt_in (tch2 (List.mem_of_getElem? (i := 74) rfl)) rfl), (gt_sel (List.mem_of_getElem? (i := 0) rfl) rfl), ⟨8, _, rfl, rfl, rfl⟩, by decide +kernel⟩
set_option maxRecDepth 20000 in
theorem pm_123 : PM ((10, 75), (0, 1, 0, MX10_isColour)) := ⟨pyX10_isColour, (gt_in (tch2 (List.mem_of_getElem? (i := 76) rfl)) rfl), (gt_in (tch2 (List.mem_of_getElem? (i := 77) rfl)) rfl), by decide +kernel⟩
set_option maxRecDepth 20000 in
theorem pm_124 : PM ((10, 82), (0, 3, 0, MX6_with)) := ⟨pyX6_with, (gt_in (tch2 (List.mem_of_getElem? (i := 79) rfl)) rfl), (gt_in (tch2 (List.mem_of_getElem? (i := 80) rfl)) rfl), by decide +kernel⟩
set_option maxRecDepth 20000 in
theorem pm_125 : PM ((10, 100), (1, 1, 17, MX9_add)) := ⟨pyX9_add, (gt_in (tch2 (List.mem_of_getElem? (i := 91) rfl)) rfl), (gt_in (tch2 (List.mem_of_getElem? (i := 92) rfl)) rfl), (gt_in (tch2 (List.mem_of_getElem? (i := 93) rfl)) rfl), ⟨7, _, rfl, rfl, rfl⟩, by decide +kernel⟩
set_option maxRecDepth 20000 in
theorem pm_126 : PM ((10, 103), (1, 0, 14, MX5_forgetFault)) := ⟨pyX5_forgetFault, (gt_in (tch2 (List.mem_of_getElem? (i := 103) rfl)) rfl), (gt_in (tch2 (List.mem_of_getElem? (i := 104) rfl)) rfl), (gt_in (tch2 (List.mem_of_getElem? (i := 105) rfl)) rfl), ⟨4, _, rfl, rfl, rfl⟩, by decide +kernel⟩
set_option maxRecDepth 20000 in
theorem pm_127 : PM ((10, 106), (0, 1, 0, MX10_isSong)) := ⟨pyX10_isSong, (gt_in (tch2 (List.mem_of_getElem? (i := 107) rfl)) rfl), (gt_in (tch2 (List.mem_of_getElem? (i := 108) rfl)) rfl), by decide +kernel⟩
set_option maxRecDepth 20000 in
theorem pm_128 : PM ((10, 112), (1, 1, 14, MX5_read)) := ⟨pyX5_read, (gt_in (tch2 (List.mem_of_getElem? (i := 110) rfl)) rfl), (gt_in (tch2 (List.mem_of_getElem? (i := 111) rfl)) rfl), (gt_in (tch2 (List.mem_of_getElem? (i := 112) rfl)) rfl), ⟨4, _, rfl, rfl, rfl⟩, by decide +kernel⟩
set_option maxRecDepth 20000 in
theorem pm_129 : PM ((10, 123), (1, 1, 15, MX7_copy)) := ⟨pyX7_copy, (gt_in (tch3 (List.mem_of_getElem? (i := 20) rfl)) rfl), (gt_in (tch3 (List.mem_of_getElem? (i := 21) rfl)) rfl), (gt_in (tch3 (List.mem_of_getElem? (i := 22) rfl)) rfl), ⟨5, _, rfl, rfl, rfl⟩, by decide +kernel⟩
set_option maxRecDepth 20000 in
theorem pm_130 : PM ((10, 138), (1, 1, 12, MX2_remember)) := ⟨pyX2_remember, (gt_in (tch3 (List.mem_of_getElem? (i := 35) rfl)) rfl), (gt_in (tch3 (List.mem_of_getElem? (i := 36) rfl)) rfl), (gt_in (tch3 (List.mem_of_getElem? (i := 37) rfl)) rfl), ⟨2, _, rfl, rfl, rfl⟩, by decide +kernel⟩
set_option maxRecDepth 20000 in
theorem pm_131 : PM ((10, 142), (1, 1, 16, MX8_singOnce)) := ⟨pyX8_singOnce, (gt_in (tch3 (List.mem_of_getElem? (i := 47) rfl)) rfl), (gt_in (tch3 (List.mem_of_getElem? (i := 48) rfl)) rfl), (gt_in (tch3 (List.mem_of_getElem? (i := 49) rfl)) rfl), ⟨6, _, rfl, rfl, rfl⟩, by decide +kernel⟩
set_option maxRecDepth 20000 in
theorem pm_132 : PM ((10, 149), (0, 2, 0, MX6_get)) := ⟨pyX6_get, (gt_in (tch3 (List.mem_of_getElem? (i := 121) rfl)) rfl), (gt_in (tch3 (List.mem_of_getElem? (i := 55) rfl)) rfl), by decide +kernel⟩
set_option maxRecDepth 20000 in
theorem pm_133 : PM ((10, 153), (0, 3, 0, MX6_slotWith)) := ⟨pyX6_slotWith, (gt_in (tch3 (List.mem_of_getElem? (i := 126) rfl)) rfl), (gt_in (tch3 (List.mem_of_getElem? (i := 127) rfl)) rfl), by decide +kernel⟩
set_option maxRecDepth 20000 in
theorem pm_134 : PM ((10, 161), (1, 2, 11, MX1_timesOver)) := ⟨pyX1_timesOver, (gt_in (tch3 (List.mem_of_getElem? (i := 133) rfl)) rfl), (gt_in (tch3 (List.mem_of_getElem? (i := 134) rfl)) rfl), (gt_in (tch3 (List.mem_of_getElem? (i := 135) rfl)) rfl), ⟨1, _, rfl, rfl, rfl⟩, by decide +kernel⟩
set_option maxRecDepth 20000 in
theorem pm_135 : PM ((10, 168), (1, 2, 16, MX8_rowPart)) := ⟨pyX8_rowPart, (gt_in (tch3 (List.mem_of_getElem? (i := 141) rfl)) rfl), (gt_in (tch3 (List.mem_of_getElem? (i := 142) rfl)) rfl), (gt_in (tch3 (List.mem_of_getElem? (i := 143) rfl)) rfl), ⟨6, _, rfl, rfl, rfl⟩, by decide +kernel⟩
set_option maxRecDepth 20000 in
theorem pm_136 : PM ((10, 171), (1, 3, 15, MX7_singingsBack)) := ⟨pyX7_singingsBack, (gt_in (tch3 (List.mem_of_getElem? (i := 149) rfl)) rfl), (gt_in (tch3 (List.mem_of_getElem? (i := 150) rfl)) rfl), (gt_in (tch3 (List.mem_of_getElem? (i := 151) rfl)) rfl), ⟨5, _, rfl, rfl, rfl⟩, by decide +kernel⟩
set_option maxRecDepth 20000 in
theorem pm_137 : PM ((10, 175), (1, 1, 16, MX8_seen)) := ⟨pyX8_seen, (gt_in (tch3 (List.mem_of_getElem? (i := 167) rfl)) rfl), (gt_in (tch3 (List.mem_of_getElem? (i := 168) rfl)) rfl), (gt_in (tch3 (List.mem_of_getElem? (i := 169) rfl)) rfl), ⟨6, _, rfl, rfl, rfl⟩, by decide +kernel⟩
set_option maxRecDepth 20000 in
theorem pm_138 : PM ((10, 181), (1, 3, 15, MX7_mirroredFrom)) := ⟨pyX7_mirroredFrom, (gt_in (tch3 (List.mem_of_getElem? (i := 177) rfl)) rfl), (gt_in (tch3 (List.mem_of_getElem? (i := 178) rfl)) rfl), (gt_in (tch3 (List.mem_of_getElem? (i := 179) rfl)) rfl), ⟨5, _, rfl, rfl, rfl⟩, by decide +kernel⟩
set_option maxRecDepth 20000 in
theorem pm_139 : PM ((10, 185), (1, 4, 15, MX7_sungFrom)) := ⟨pyX7_sungFrom, (gt_in (tch3 (List.mem_of_getElem? (i := 185) rfl)) rfl), (gt_in (tch3 (List.mem_of_getElem? (i := 154) rfl)) rfl), (gt_in (tch3 (List.mem_of_getElem? (i := 155) rfl)) rfl), ⟨5, _, rfl, rfl, rfl⟩, by decide +kernel⟩
set_option maxRecDepth 20000 in
theorem pm_140 : PM ((10, 192), (1, 3, 13, MX3_needed)) := ⟨pyX3_needed, (gt_in (tch3 (List.mem_of_getElem? (i := 194) rfl)) rfl), (gt_in (tch3 (List.mem_of_getElem? (i := 195) rfl)) rfl), (gt_in (tch3 (List.mem_of_getElem? (i := 196) rfl)) rfl), ⟨3, _, rfl, rfl, rfl⟩, by decide +kernel⟩
set_option maxRecDepth 20000 in
theorem pm_141 : PM ((10, 195), (1, 4, 13, MX3_firstOf)) := ⟨pyX3_firstOf, (gt_in (tch3 (List.mem_of_getElem? (i := 210) rfl)) rfl), (gt_in (tch3 (List.mem_of_getElem? (i := 211) rfl)) rfl), (gt_in (tch3 (List.mem_of_getElem? (i := 212) rfl)) rfl), ⟨3, _, rfl, rfl, rfl⟩, by decide +kernel⟩
set_option maxRecDepth 20000 in
theorem pm_142 : PM ((10, 199), (0, 1, 0, MX4_from)) := ⟨pyX4_from, (gt_in (tch3 (List.mem_of_getElem? (i := 217) rfl)) rfl), (gt_in (tch3 (List.mem_of_getElem? (i := 52) rfl)) rfl), by decide +kernel⟩
set_option maxRecDepth 20000 in
theorem pm_143 : PM ((10, 205), (0, 1, 0, MX4_to)) := ⟨pyX4_to, (gt_in (tch3 (List.mem_of_getElem? (i := 218) rfl)) rfl), (gt_in (tch3 (List.mem_of_getElem? (i := 88) rfl)) rfl), by decide +kernel⟩
set_option maxRecDepth 20000 in
theorem pm_144 : PM ((10, 208), (0, 4, 0, MX10_oneOfThree)) := ⟨pyX10_oneOfThree, (gt_in (tch3 (List.mem_of_getElem? (i := 223) rfl)) rfl), (gt_in (tch3 (List.mem_of_getElem? (i := 224) rfl)) rfl), by decide +kernel⟩
set_option maxRecDepth 20000 in
theorem pm_145 : PM ((10, 212), (0, 1, 0, MX6_home)) := ⟨pyX6_home, (gt_in (tch3 (List.mem_of_getElem? (i := 230) rfl)) rfl), (gt_in (tch1 (List.mem_of_getElem? (i := 145) rfl)) rfl), by decide +kernel⟩
set_option maxRecDepth 20000 in
theorem pm_146 : PM ((10, 216), (1, 4, 18, MX10_fitsWithout)) := ⟨pyX10_fitsWithout, (gt_in (tch3 (List.mem_of_getElem? (i := 231) rfl)) rfl), (gt_in (tch3 (List.mem_of_getElem? (i := 233) rfl)) rfl), (gt_sel (List.mem_of_getElem? (i := 22) rfl) rfl), ⟨8, _, rfl, rfl, rfl⟩, by decide +kernel⟩
set_option maxRecDepth 20000 in
theorem pm_147 : PM ((10, 220), (1, 2, 10, MX0_needed)) := ⟨pyX0_needed, (gt_in (tch3 (List.mem_of_getElem? (i := 239) rfl)) rfl), (gt_in (tch4 (List.mem_of_getElem? (i := 0) rfl)) rfl), (gt_in (tch4 (List.mem_of_getElem? (i := 1) rfl)) rfl), ⟨0, _, rfl, rfl, rfl⟩, by decide +kernel⟩
set_option maxRecDepth 20000 in
theorem pm_148 : PM ((10, 226), (1, 1, 16, MX8_strandsToDye)) := ⟨pyX8_strandsToDye, (gt_in (tch4 (List.mem_of_getElem? (i := 26) rfl)) rfl), (gt_in (tch4 (List.mem_of_getElem? (i := 27) rfl)) rfl), (gt_in (tch4 (List.mem_of_getElem? (i := 28) rfl)) rfl), ⟨6, _, rfl, rfl, rfl⟩, by decide +kernel⟩
set_option maxRecDepth 20000 in
theorem pm_149 : PM ((10, 229), (1, 2, 11, MX1_leastFree)) := ⟨pyX1_leastFree, (gt_in (tch4 (List.mem_of_getElem? (i := 47) rfl)) rfl), (gt_in (tch4 (List.mem_of_getElem? (i := 48) rfl)) rfl), (gt_in (tch4 (List.mem_of_getElem? (i := 49) rfl)) rfl), ⟨1, _, rfl, rfl, rfl⟩, by decide +kernel⟩
set_option maxRecDepth 20000 in
theorem pm_150 : PM ((10, 232), (1, 0, 18, MX10_countRings)) := ⟨pyX10_countRings, (gt_in (tch4 (List.mem_of_getElem? (i := 60) rfl)) rfl), (gt_in (tch4 (List.mem_of_getElem? (i := 62) rfl)) rfl), (gt_sel (List.mem_of_getElem? (i := 27) rfl) rfl), ⟨8, _, rfl, rfl, rfl⟩, by decide +kernel⟩
set_option maxRecDepth 20000 in
theorem pm_151 : PM ((10, 236), (1, 1, 18, MX10_ringOf)) := ⟨pyX10_ringOf, (gt_in (tch4 (List.mem_of_getElem? (i := 64) rfl)) rfl), (gt_in (tch4 (List.mem_of_getElem? (i := 66) rfl)) rfl), (gt_sel (List.mem_of_getElem? (i := 28) rfl) rfl), ⟨8, _, rfl, rfl, rfl⟩, by decide +kernel⟩
set_option maxRecDepth 20000 in
theorem pm_152 : PM ((10, 239), (0, 1, 0, MJ6_bitCount_0f7a4)) := ⟨pyJ6_bitCount_0f7a4, (gt_in (tch4 (List.mem_of_getElem? (i := 68) rfl)) rfl), (gt_in (tch3 (List.mem_of_getElem? (i := 162) rfl)) rfl), by decide +kernel⟩
set_option maxRecDepth 20000 in
theorem pm_153 : PM ((10, 244), (1, 1, 11, MX1_startAnew)) := ⟨pyX1_startAnew, (gt_in (tch4 (List.mem_of_getElem? (i := 73) rfl)) rfl), (gt_in (tch2 (List.mem_of_getElem? (i := 64) rfl)) rfl), (gt_in (tch2 (List.mem_of_getElem? (i := 65) rfl)) rfl), ⟨1, _, rfl, rfl, rfl⟩, by decide +kernel⟩
set_option maxRecDepth 20000 in
theorem pm_154 : PM ((10, 245), (1, 3, 11, MX1_singInThought)) := ⟨pyX1_singInThought, (gt_in (tch4 (List.mem_of_getElem? (i := 74) rfl)) rfl), (gt_in (tch4 (List.mem_of_getElem? (i := 75) rfl)) rfl), (gt_in (tch4 (List.mem_of_getElem? (i := 76) rfl)) rfl), ⟨1, _, rfl, rfl, rfl⟩, by decide +kernel⟩
set_option maxRecDepth 20000 in
theorem pm_155 : PM ((10, 249), (1, 1, 11, MX1_isOverLike)) := ⟨pyX1_isOverLike, (gt_in (tch4 (List.mem_of_getElem? (i := 79) rfl)) rfl), (gt_in (tch4 (List.mem_of_getElem? (i := 80) rfl)) rfl), (gt_in (tch4 (List.mem_of_getElem? (i := 81) rfl)) rfl), ⟨1, _, rfl, rfl, rfl⟩, by decide +kernel⟩
set_option maxRecDepth 20000 in
theorem pm_156 : PM ((10, 253), (1, 2, 16, MX8_rowsComeAgain)) := ⟨pyX8_rowsComeAgain, (gt_in (tch4 (List.mem_of_getElem? (i := 87) rfl)) rfl), (gt_in (tch4 (List.mem_of_getElem? (i := 88) rfl)) rfl), (gt_in (tch4 (List.mem_of_getElem? (i := 89) rfl)) rfl), ⟨6, _, rfl, rfl, rfl⟩, by decide +kernel⟩
set_option maxRecDepth 20000 in
theorem pm_157 : PM ((10, 257), (1, 1, 12, MX2_goBack)) := ⟨pyX2_goBack, (gt_in (tch4 (List.mem_of_getElem? (i := 96) rfl)) rfl), (gt_in (tch4 (List.mem_of_getElem? (i := 97) rfl)) rfl), (gt_in (tch4 (List.mem_of_getElem? (i := 98) rfl)) rfl), ⟨2, _, rfl, rfl, rfl⟩, by decide +kernel⟩
set_option maxRecDepth 20000 in
theorem pm_158 : PM ((10, 260), (1, 1, 16, MX8_copy)) := ⟨pyX8_copy, (gt_in (tch4 (List.mem_of_getElem? (i := 104) rfl)) rfl), (gt_in (tch4 (List.mem_of_getElem? (i := 105) rfl)) rfl), (gt_in (tch4 (List.mem_of_getElem? (i := 106) rfl)) rfl), ⟨6, _, rfl, rfl, rfl⟩, by decide +kernel⟩
set_option maxRecDepth 20000 in
theorem pm_159 : PM ((11, 1), (10, 0, 0, MX6_get)) := (gt_in (tch4 (List.mem_of_getElem? (i := 120) rfl)) rfl)
set_option maxRecDepth 20000 in
theorem pm_160 : PM ((11, 65), (1, 1, 19, MX11_begins)) := ⟨pyX11_begins, (gt_in (tch4 (List.mem_of_getElem? (i := 121) rfl)) rfl), (gt_in (tch4 (List.mem_of_getElem? (i := 123) rfl)) rfl), (gt_sel (List.mem_of_getElem? (i := 29) rfl) rfl), ⟨9, _, rfl, rfl, rfl⟩, by decide +kernel⟩
set_option maxRecDepth 20000 in
theorem pm_161 : PM ((11, 72), (0, 3, 0, MX11_isIn)) := ⟨pyX11_isIn, (gt_in (tch4 (List.mem_of_getElem? (i := 224) rfl)) rfl), (gt_in (tch4 (List.mem_of_getElem? (i := 225) rfl)) rfl), by decide +kernel⟩
set_option maxRecDepth 20000 in
theorem pm_162 : PM ((11, 78), (1, 1, 19, MX11_isSlot)) := ⟨pyX11_isSlot, (gt_in (tch4 (List.mem_of_getElem? (i := 231) rfl)) rfl), (gt_in (tch4 (List.mem_of_getElem? (i := 233) rfl)) rfl), (gt_sel (List.mem_of_getElem? (i := 30) rfl) rfl), ⟨9, _, rfl, rfl, rfl⟩, by decide +kernel⟩
set_option maxRecDepth 20000 in
theorem pm_163 : PM ((11, 91), (14, 0, 0, MX6_get)) := (gt_in (tch5 (List.mem_of_getElem? (i := 34) rfl)) rfl)
set_option maxRecDepth 20000 in
theorem pm_164 : PM ((11, 97), (15, 1, 0, MX6_get)) := (gt_in (tch5 (List.mem_of_getElem? (i := 35) rfl)) rfl)
set_option maxRecDepth 20000 in
theorem pm_165 : PM ((11, 103), (1, 1, 19, MX11_is)) := ⟨pyX11_is, (gt_in (tch5 (List.mem_of_getElem? (i := 30) rfl)) rfl), (gt_in (tch5 (List.mem_of_getElem? (i := 32) rfl)) rfl), (gt_sel (List.mem_of_getElem? (i := 34) rfl) rfl), ⟨9, _, rfl, rfl, rfl⟩, by decide +kernel⟩
set_option maxRecDepth 20000 in
theorem pm_166 : PM ((11, 117), (1, 1, 19, MX11_see)) := ⟨pyX11_see, (gt_in (tch5 (List.mem_of_getElem? (i := 18) rfl)) rfl), (gt_in (tch5 (List.mem_of_getElem? (i := 20) rfl)) rfl), (gt_sel (List.mem_of_getElem? (i := 32) rfl) rfl), ⟨9, _, rfl, rfl, rfl⟩, by decide +kernel⟩
set_option maxRecDepth 20000 in
theorem pm_167 : PM ((11, 124), (0, 1, 0, MX11_isLetter)) := ⟨pyX11_isLetter, (gt_in (tch5 (List.mem_of_getElem? (i := 22) rfl)) rfl), (gt_in (tch5 (List.mem_of_getElem? (i := 23) rfl)) rfl), by decide +kernel⟩
set_option maxRecDepth 20000 in
theorem pm_168 : PM ((11, 127), (1, 0, 19, MX11_word)) := ⟨pyX11_word, (gt_in (tch5 (List.mem_of_getElem? (i := 25) rfl)) rfl), (gt_in (tch5 (List.mem_of_getElem? (i := 27) rfl)) rfl), (gt_sel (List.mem_of_getElem? (i := 33) rfl) rfl), ⟨9, _, rfl, rfl, rfl⟩, by decide +kernel⟩
set_option maxRecDepth 20000 in
theorem pm_169 : PM ((11, 130), (0, 1, 0, MX11_isDigit)) := ⟨pyX11_isDigit, (gt_in (tch5 (List.mem_of_getElem? (i := 41) rfl)) rfl), (gt_in (tch5 (List.mem_of_getElem? (i := 42) rfl)) rfl), by decide +kernel⟩
set_option maxRecDepth 20000 in
theorem pm_170 : PM ((11, 142), (1, 1, 19, MX11_bad)) := ⟨pyX11_bad, (gt_in (tch5 (List.mem_of_getElem? (i := 52) rfl)) rfl), (gt_in (tch5 (List.mem_of_getElem? (i := 54) rfl)) rfl), (gt_sel (List.mem_of_getElem? (i := 37) rfl) rfl), ⟨9, _, rfl, rfl, rfl⟩, by decide +kernel⟩
set_option maxRecDepth 20000 in
theorem pm_171 : PM ((11, 145), (1, 0, 19, MX11_next0)) := ⟨pyX11_next0, (gt_in (tch5 (List.mem_of_getElem? (i := 14) rfl)) rfl), (gt_in (tch5 (List.mem_of_getElem? (i := 16) rfl)) rfl), (gt_sel (List.mem_of_getElem? (i := 31) rfl) rfl), ⟨9, _, rfl, rfl, rfl⟩, by decide +kernel⟩
set_option maxRecDepth 20000 in
theorem pm_172 : PM ((11, 151), (1, 2, 19, MX11_number)) := ⟨pyX11_number, (gt_in (tch5 (List.mem_of_getElem? (i := 56) rfl)) rfl), (gt_in (tch5 (List.mem_of_getElem? (i := 58) rfl)) rfl), (gt_sel (List.mem_of_getElem? (i := 38) rfl) rfl), ⟨9, _, rfl, rfl, rfl⟩, by decide +kernel⟩
set_option maxRecDepth 20000 in
theorem pm_173 : PM ((11, 155), (1, 1, 19, MX11_need)) := ⟨pyX11_need, (gt_in (tch5 (List.mem_of_getElem? (i := 60) rfl)) rfl), (gt_in (tch5 (List.mem_of_getElem? (i := 62) rfl)) rfl), (gt_sel (List.mem_of_getElem? (i := 39) rfl) rfl), ⟨9, _, rfl, rfl, rfl⟩, by decide +kernel⟩
set_option maxRecDepth 20000 in
theorem pm_174 : PM ((11, 158), (1, 4, 19, MX11_puts)) := ⟨pyX11_puts, (gt_in (tch5 (List.mem_of_getElem? (i := 64) rfl)) rfl), (gt_in (tch5 (List.mem_of_getElem? (i := 66) rfl)) rfl), (gt_sel (List.mem_of_getElem? (i := 40) rfl) rfl), ⟨9, _, rfl, rfl, rfl⟩, by decide +kernel⟩
set_option maxRecDepth 20000 in
theorem pm_175 : PM ((11, 162), (1, 1, 19, MX11_someSteps)) := ⟨pyX11_someSteps, (gt_in (tch5 (List.mem_of_getElem? (i := 44) rfl)) rfl), (gt_in (tch5 (List.mem_of_getElem? (i := 46) rfl)) rfl), (gt_sel (List.mem_of_getElem? (i := 35) rfl) rfl), ⟨9, _, rfl, rfl, rfl⟩, by decide +kernel⟩
set_option maxRecDepth 20000 in
theorem pm_176 : PM ((11, 165), (1, 1, 19, MX11_someTimes)) := ⟨pyX11_someTimes, (gt_in (tch5 (List.mem_of_getElem? (i := 48) rfl)) rfl), (gt_in (tch5 (List.mem_of_getElem? (i := 50) rfl)) rfl), (gt_sel (List.mem_of_getElem? (i := 36) rfl) rfl), ⟨9, _, rfl, rfl, rfl⟩, by decide +kernel⟩
set_option maxRecDepth 20000 in
theorem pm_177 : PM ((11, 168), (1, 0, 19, MX11_aTurn)) := ⟨pyX11_aTurn, (gt_in (tch5 (List.mem_of_getElem? (i := 68) rfl)) rfl), (gt_in (tch5 (List.mem_of_getElem? (i := 70) rfl)) rfl), (gt_sel (List.mem_of_getElem? (i := 41) rfl) rfl), ⟨9, _, rfl, rfl, rfl⟩, by decide +kernel⟩
set_option maxRecDepth 20000 in
theorem pm_178 : PM ((11, 172), (1, 1, 19, MX11_aMove)) := ⟨pyX11_aMove, (gt_in (tch5 (List.mem_of_getElem? (i := 72) rfl)) rfl), (gt_in (tch5 (List.mem_of_getElem? (i := 74) rfl)) rfl), (gt_sel (List.mem_of_getElem? (i := 42) rfl) rfl), ⟨9, _, rfl, rfl, rfl⟩, by decide +kernel⟩
set_option maxRecDepth 20000 in
theorem pm_179 : PM ((11, 178), (0, 1, 0, MX11_isSong)) := ⟨pyX11_isSong, (gt_in (tch5 (List.mem_of_getElem? (i := 11) rfl)) rfl), (gt_in (tch5 (List.mem_of_getElem? (i := 12) rfl)) rfl), by decide +kernel⟩
set_option maxRecDepth 20000 in
theorem pm_180 : PM ((11, 181), (1, 3, 19, MX11_goesOver)) := ⟨pyX11_goesOver, (gt_in (tch5 (List.mem_of_getElem? (i := 118) rfl)) rfl), (gt_in (tch5 (List.mem_of_getElem? (i := 120) rfl)) rfl), (gt_sel (List.mem_of_getElem? (i := 51) rfl) rfl), ⟨9, _, rfl, rfl, rfl⟩, by decide +kernel⟩
set_option maxRecDepth 20000 in
theorem pm_181 : PM ((11, 185), (1, 3, 19, MX11_ofMove)) := ⟨pyX11_ofMove, (gt_in (tch5 (List.mem_of_getElem? (i := 96) rfl)) rfl), (gt_in (tch5 (List.mem_of_getElem? (i := 98) rfl)) rfl), (gt_sel (List.mem_of_getElem? (i := 46) rfl) rfl), ⟨9, _, rfl, rfl, rfl⟩, by decide +kernel⟩
set_option maxRecDepth 20000 in
theorem pm_182 : PM ((11, 189), (1, 1, 19, MX11_turns)) := ⟨pyX11_turns, (gt_in (tch5 (List.mem_of_getElem? (i := 110) rfl)) rfl), (gt_in (tch5 (List.mem_of_getElem? (i := 112) rfl)) rfl), (gt_sel (List.mem_of_getElem? (i := 49) rfl) rfl), ⟨9, _, rfl, rfl, rfl⟩, by decide +kernel⟩
set_option maxRecDepth 20000 in
theorem pm_183 : PM ((11, 192), (1, 3, 19, MX11_lifts)) := ⟨pyX11_lifts, (gt_in (tch5 (List.mem_of_getElem? (i := 114) rfl)) rfl), (gt_in (tch5 (List.mem_of_getElem? (i := 116) rfl)) rfl), (gt_sel (List.mem_of_getElem? (i := 50) rfl) rfl), ⟨9, _, rfl, rfl, rfl⟩, by decide +kernel⟩
set_option maxRecDepth 20000 in
theorem pm_184 : PM ((11, 195), (1, 3, 19, MX11_swaps)) := ⟨pyX11_swaps, (gt_in (tch5 (List.mem_of_getElem? (i := 122) rfl)) rfl), (gt_in (tch5 (List.mem_of_getElem? (i := 124) rfl)) rfl), (gt_sel (List.mem_of_getElem? (i := 52) rfl) rfl), ⟨9, _, rfl, rfl, rfl⟩, by decide +kernel⟩
set_option maxRecDepth 20000 in
theorem pm_185 : PM ((11, 198), (1, 6, 19, MX11_moves)) := ⟨pyX11_moves, (gt_in (tch5 (List.mem_of_getElem? (i := 106) rfl)) rfl), (gt_in (tch5 (List.mem_of_getElem? (i := 108) rfl)) rfl), (gt_sel (List.mem_of_getElem? (i := 48) rfl) rfl), ⟨9, _, rfl, rfl, rfl⟩, by decide +kernel⟩
set_option maxRecDepth 20000 in
theorem pm_186 : PM ((11, 202), (1, 0, 19, MX11_sitsNow)) := ⟨pyX11_sitsNow, (gt_in (tch5 (List.mem_of_getElem? (i := 92) rfl)) rfl), (gt_in (tch5 (List.mem_of_getElem? (i := 94) rfl)) rfl), (gt_sel (List.mem_of_getElem? (i := 45) rfl) rfl), ⟨9, _, rfl, rfl, rfl⟩, by decide +kernel⟩
set_option maxRecDepth 20000 in
theorem pm_187 : PM ((11, 205), (1, 1, 19, MX11_draw)) := ⟨pyX11_draw, (gt_in (tch5 (List.mem_of_getElem? (i := 100) rfl)) rfl), (gt_in (tch5 (List.mem_of_getElem? (i := 102) rfl)) rfl), (gt_sel (List.mem_of_getElem? (i := 47) rfl) rfl), ⟨9, _, rfl, rfl, rfl⟩, by decide +kernel⟩
set_option maxRecDepth 20000 in
theorem pm_188 : PM ((11, 208), (1, 1, 19, MX11_writes)) := ⟨pyX11_writes, (gt_in (tch5 (List.mem_of_getElem? (i := 126) rfl)) rfl), (gt_in (tch5 (List.mem_of_getElem? (i := 128) rfl)) rfl), (gt_sel (List.mem_of_getElem? (i := 53) rfl) rfl), ⟨9, _, rfl, rfl, rfl⟩, by decide +kernel⟩
set_option maxRecDepth 20000 in
theorem pm_189 : PM ((11, 211), (1, 0, 19, MX11_keeps)) := ⟨pyX11_keeps, (gt_in (tch5 (List.mem_of_getElem? (i := 84) rfl)) rfl), (gt_in (tch5 (List.mem_of_getElem? (i := 86) rfl)) rfl), (gt_sel (List.mem_of_getElem? (i := 43) rfl) rfl), ⟨9, _, rfl, rfl, rfl⟩, by decide +kernel⟩
set_option maxRecDepth 20000 in
theorem pm_190 : PM ((11, 214), (1, 1, 19, MX11_singsTruly)) := ⟨pyX11_singsTruly, (gt_in (tch5 (List.mem_of_getElem? (i := 88) rfl)) rfl), (gt_in (tch5 (List.mem_of_getElem? (i := 90) rfl)) rfl), (gt_sel (List.mem_of_getElem? (i := 44) rfl) rfl), ⟨9, _, rfl, rfl, rfl⟩, by decide +kernel⟩
set_option maxRecDepth 20000 in
theorem pm_191 : PM ((11, 217), (1, 1, 19, MX11_slotOf)) := ⟨pyX11_slotOf, (gt_in (tch5 (List.mem_of_getElem? (i := 142) rfl)) rfl), (gt_in (tch5 (List.mem_of_getElem? (i := 144) rfl)) rfl), (gt_sel (List.mem_of_getElem? (i := 54) rfl) rfl), ⟨9, _, rfl, rfl, rfl⟩, by decide +kernel⟩
set_option maxRecDepth 20000 in
theorem pm_192 : PM ((11, 220), (1, 3, 19, MX11_sings)) := ⟨pyX11_sings, (gt_in (tch5 (List.mem_of_getElem? (i := 158) rfl)) rfl), (gt_in (tch5 (List.mem_of_getElem? (i := 160) rfl)) rfl), (gt_sel (List.mem_of_getElem? (i := 55) rfl) rfl), ⟨9, _, rfl, rfl, rfl⟩, by decide +kernel⟩
set_option maxRecDepth 20000 in
theorem pm_193 : PM ((11, 224), (1, 1, 19, MX11_isAsNow)) := ⟨pyX11_isAsNow, (gt_in (tch5 (List.mem_of_getElem? (i := 162) rfl)) rfl), (gt_in (tch5 (List.mem_of_getElem? (i := 164) rfl)) rfl), (gt_sel (List.mem_of_getElem? (i := 56) rfl) rfl), ⟨9, _, rfl, rfl, rfl⟩, by decide +kernel⟩
set_option maxRecDepth 20000 in
theorem pm_194 : PM ((11, 229), (1, 1, 19, MX11_placeOf)) := ⟨pyX11_placeOf, (gt_in (tch5 (List.mem_of_getElem? (i := 186) rfl)) rfl), (gt_in (tch5 (List.mem_of_getElem? (i := 188) rfl)) rfl), (gt_sel (List.mem_of_getElem? (i := 59) rfl) rfl), ⟨9, _, rfl, rfl, rfl⟩, by decide +kernel⟩
set_option maxRecDepth 20000 in
theorem pm_195 : PM ((11, 235), (1, 2, 19, MX11_comes)) := ⟨pyX11_comes, (gt_in (tch5 (List.mem_of_getElem? (i := 182) rfl)) rfl), (gt_in (tch5 (List.mem_of_getElem? (i := 184) rfl)) rfl), (gt_sel (List.mem_of_getElem? (i := 58) rfl) rfl), ⟨9, _, rfl, rfl, rfl⟩, by decide +kernel⟩
set_option maxRecDepth 20000 in
theorem pm_196 : PM ((11, 239), (1, 3, 19, MX11_liftedOf)) := ⟨pyX11_liftedOf, (gt_in (tch5 (List.mem_of_getElem? (i := 192) rfl)) rfl), (gt_in (tch5 (List.mem_of_getElem? (i := 194) rfl)) rfl), (gt_sel (List.mem_of_getElem? (i := 60) rfl) rfl), ⟨9, _, rfl, rfl, rfl⟩, by decide +kernel⟩
set_option maxRecDepth 20000 in
theorem pm_197 : PM ((11, 242), (1, 0, 19, MX11_laysFar)) := ⟨pyX11_laysFar, (gt_in (tch5 (List.mem_of_getElem? (i := 178) rfl)) rfl), (gt_in (tch5 (List.mem_of_getElem? (i := 180) rfl)) rfl), (gt_sel (List.mem_of_getElem? (i := 57) rfl) rfl), ⟨9, _, rfl, rfl, rfl⟩, by decide +kernel⟩
set_option maxRecDepth 20000 in
theorem pm_198 : PM ((11, 245), (1, 1, 19, MX11_farOf)) := ⟨pyX11_farOf, (gt_in (tch5 (List.mem_of_getElem? (i := 196) rfl)) rfl), (gt_in (tch5 (List.mem_of_getElem? (i := 198) rfl)) rfl), (gt_sel (List.mem_of_getElem? (i := 61) rfl) rfl), ⟨9, _, rfl, rfl, rfl⟩, by decide +kernel⟩
set_option maxRecDepth 20000 in
theorem pm_199 : PM ((11, 248), (1, 0, 19, MX11_sitsAtFirst)) := ⟨pyX11_sitsAtFirst, (gt_in (tch5 (List.mem_of_getElem? (i := 204) rfl)) rfl), (gt_in (tch5 (List.mem_of_getElem? (i := 206) rfl)) rfl), (gt_sel (List.mem_of_getElem? (i := 62) rfl) rfl), ⟨9, _, rfl, rfl, rfl⟩, by decide +kernel⟩
set_option maxRecDepth 20000 in
theorem pm_200 : PM ((11, 251), (1, 0, 19, MX11_isWanted)) := ⟨pyX11_isWanted, (gt_in (tch5 (List.mem_of_getElem? (i := 208) rfl)) rfl), (gt_in (tch5 (List.mem_of_getElem? (i := 210) rfl)) rfl), (gt_sel (List.mem_of_getElem? (i := 63) rfl) rfl), ⟨9, _, rfl, rfl, rfl⟩, by decide +kernel⟩
set_option maxRecDepth 20000 in
theorem pm_201 : PM ((11, 254), (1, 4, 19, MX11_isWantedBehind)) := ⟨pyX11_isWantedBehind, (gt_in (tch5 (List.mem_of_getElem? (i := 216) rfl)) rfl), (gt_in (tch5 (List.mem_of_getElem? (i := 218) rfl)) rfl), (gt_sel (List.mem_of_getElem? (i := 64) rfl) rfl), ⟨9, _, rfl, rfl, rfl⟩, by decide +kernel⟩
set_option maxRecDepth 20000 in
theorem pm_202 : PM ((11, 258), (1, 1, 19, MX11_singsAlone)) := ⟨pyX11_singsAlone, (gt_in (tch5 (List.mem_of_getElem? (i := 224) rfl)) rfl), (gt_in (tch5 (List.mem_of_getElem? (i := 226) rfl)) rfl), (gt_sel (List.mem_of_getElem? (i := 65) rfl) rfl), ⟨9, _, rfl, rfl, rfl⟩, by decide +kernel⟩
set_option maxRecDepth 20000 in
theorem pm_203 : PM ((11, 261), (1, 2, 19, MX11_comesAgain)) := ⟨pyX11_comesAgain, (gt_in (tch5 (List.mem_of_getElem? (i := 232) rfl)) rfl), (gt_in (tch5 (List.mem_of_getElem? (i := 234) rfl)) rfl), (gt_sel (List.mem_of_getElem? (i := 66) rfl) rfl), ⟨9, _, rfl, rfl, rfl⟩, by decide +kernel⟩
set_option maxRecDepth 20000 in
theorem pm_204 : PM ((11, 264), (0, 3, 0, MX11_isWithin)) := ⟨pyX11_isWithin, (gt_in (tch6 (List.mem_of_getElem? (i := 4) rfl)) rfl), (gt_in (tch6 (List.mem_of_getElem? (i := 5) rfl)) rfl), by decide +kernel⟩
set_option maxRecDepth 20000 in
theorem pm_205 : PM ((11, 267), (1, 3, 19, MX11_doCross)) := ⟨pyX11_doCross, (gt_in (tch6 (List.mem_of_getElem? (i := 0) rfl)) rfl), (gt_in (tch6 (List.mem_of_getElem? (i := 2) rfl)) rfl), (gt_sel (List.mem_of_getElem? (i := 67) rfl) rfl), ⟨9, _, rfl, rfl, rfl⟩, by decide +kernel⟩
set_option maxRecDepth 20000 in
theorem pm_206 : PM ((11, 270), (1, 2, 19, MX11_isFree)) := ⟨pyX11_isFree, (gt_in (tch6 (List.mem_of_getElem? (i := 19) rfl)) rfl), (gt_in (tch6 (List.mem_of_getElem? (i := 21) rfl)) rfl), (gt_sel (List.mem_of_getElem? (i := 68) rfl) rfl), ⟨9, _, rfl, rfl, rfl⟩, by decide +kernel⟩
set_option maxRecDepth 20000 in
theorem pm_207 : PM ((11, 273), (1, 1, 19, MX11_ring)) := ⟨pyX11_ring, (gt_in (tch6 (List.mem_of_getElem? (i := 27) rfl)) rfl), (gt_in (tch6 (List.mem_of_getElem? (i := 29) rfl)) rfl), (gt_sel (List.mem_of_getElem? (i := 69) rfl) rfl), ⟨9, _, rfl, rfl, rfl⟩, by decide +kernel⟩
set_option maxRecDepth 20000 in
theorem pm_208 : PM ((11, 276), (1, 1, 19, MX11_isLeast)) := ⟨pyX11_isLeast, (gt_in (tch6 (List.mem_of_getElem? (i := 31) rfl)) rfl), (gt_in (tch6 (List.mem_of_getElem? (i := 33) rfl)) rfl), (gt_sel (List.mem_of_getElem? (i := 70) rfl) rfl), ⟨9, _, rfl, rfl, rfl⟩, by decide +kernel⟩
set_option maxRecDepth 20000 in
theorem pm_209 : PM ((12, 9), (2, 0, 0, MX10_init)) := ⟨pyX10_init, (gt_in (tch1 (List.mem_of_getElem? (i := 23) rfl)) rfl), (gt_in (tch1 (List.mem_of_getElem? (i := 24) rfl)) rfl), rfl, rfl, by decide +kernel⟩
set_option maxRecDepth 20000 in
theorem pm_210 : PM ((12, 12), (2, 0, 0, MX11_init)) := ⟨pyX11_init, (gt_in (tch4 (List.mem_of_getElem? (i := 117) rfl)) rfl), (gt_in (tch4 (List.mem_of_getElem? (i := 118) rfl)) rfl), rfl, rfl, by decide +kernel⟩
set_option maxRecDepth 20000 in
theorem pm_211 : PM ((12, 13), (1, 1, 18, MX10_state)) := ⟨pyX10_state, (gt_in (tch2 (List.mem_of_getElem? (i := 47) rfl)) rfl), (gt_in (tch2 (List.mem_of_getElem? (i := 48) rfl)) rfl), (gt_in (tch2 (List.mem_of_getElem? (i := 49) rfl)) rfl), ⟨8, _, rfl, rfl, rfl⟩, by decide +kernel⟩
set_option maxRecDepth 20000 in
theorem pm_212 : PM ((12, 17), (1, 1, 19, MX11_state)) := ⟨pyX11_state, (gt_in (tch4 (List.mem_of_getElem? (i := 216) rfl)) rfl), (gt_in (tch4 (List.mem_of_getElem? (i := 217) rfl)) rfl), (gt_in (tch4 (List.mem_of_getElem? (i := 218) rfl)) rfl), ⟨9, _, rfl, rfl, rfl⟩, by decide +kernel⟩
set_option maxRecDepth 20000 in
theorem pm_213 : PM ((12, 18), (1, 1, 18, MX10_stool)) := ⟨pyX10_stool, (gt_in (tch2 (List.mem_of_getElem? (i := 55) rfl)) rfl), (gt_in (tch2 (List.mem_of_getElem? (i := 56) rfl)) rfl), (gt_in (tch2 (List.mem_of_getElem? (i := 57) rfl)) rfl), ⟨8, _, rfl, rfl, rfl⟩, by decide +kernel⟩
set_option maxRecDepth 20000 in
theorem pm_214 : PM ((12, 22), (1, 1, 19, MX11_stool)) := ⟨pyX11_stool, (gt_in (tch4 (List.mem_of_getElem? (i := 220) rfl)) rfl), (gt_in (tch4 (List.mem_of_getElem? (i := 221) rfl)) rfl), (gt_in (tch4 (List.mem_of_getElem? (i := 222) rfl)) rfl), ⟨9, _, rfl, rfl, rfl⟩, by decide +kernel⟩
set_option maxRecDepth 20000 in
theorem pm_215 : PM ((12, 23), (1, 2, 18, MX10_colour)) := ⟨pyX10_colour, (gt_in (tch2 (List.mem_of_getElem? (i := 68) rfl)) rfl), (gt_in (tch2 (List.mem_of_getElem? (i := 69) rfl)) rfl), (gt_in (tch2 (List.mem_of_getElem? (i := 70) rfl)) rfl), ⟨8, _, rfl, rfl, rfl⟩, by decide +kernel⟩
set_option maxRecDepth 20000 in
theorem pm_216 : PM ((12, 27), (1, 2, 19, MX11_colour)) := ⟨pyX11_colour, (gt_in (tch4 (List.mem_of_getElem? (i := 227) rfl)) rfl), (gt_in (tch4 (List.mem_of_getElem? (i := 228) rfl)) rfl), (gt_in (tch4 (List.mem_of_getElem? (i := 229) rfl)) rfl), ⟨9, _, rfl, rfl, rfl⟩, by decide +kernel⟩
set_option maxRecDepth 20000 in
theorem pm_217 : PM ((12, 28), (1, 1, 18, MX10_slip)) := ⟨pyX10_slip, (gt_in (tch2 (List.mem_of_getElem? (i := 83) rfl)) rfl), (gt_in (tch2 (List.mem_of_getElem? (i := 84) rfl)) rfl), (gt_in (tch2 (List.mem_of_getElem? (i := 85) rfl)) rfl), ⟨8, _, rfl, rfl, rfl⟩, by decide +kernel⟩
set_option maxRecDepth 20000 in
theorem pm_218 : PM ((12, 31), (1, 1, 19, MX11_slip)) := ⟨pyX11_slip, (gt_in (tch4 (List.mem_of_getElem? (i := 235) rfl)) rfl), (gt_in (tch4 (List.mem_of_getElem? (i := 236) rfl)) rfl), (gt_in (tch4 (List.mem_of_getElem? (i := 237) rfl)) rfl), ⟨9, _, rfl, rfl, rfl⟩, by decide +kernel⟩
set_option maxRecDepth 20000 in
theorem pm_219 : PM ((12, 32), (1, 5, 18, MX10_feed)) := ⟨pyX10_feed, (gt_in (tch2 (List.mem_of_getElem? (i := 87) rfl)) rfl), (gt_in (tch2 (List.mem_of_getElem? (i := 88) rfl)) rfl), (gt_in (tch2 (List.mem_of_getElem? (i := 89) rfl)) rfl), ⟨8, _, rfl, rfl, rfl⟩, by decide +kernel⟩
set_option maxRecDepth 20000 in
theorem pm_220 : PM ((12, 36), (1, 5, 19, MX11_feed)) := ⟨pyX11_feed, (gt_in (tch4 (List.mem_of_getElem? (i := 239) rfl)) rfl), (gt_in (tch5 (List.mem_of_getElem? (i := 0) rfl)) rfl), (gt_in (tch5 (List.mem_of_getElem? (i := 1) rfl)) rfl), ⟨9, _, rfl, rfl, rfl⟩, by decide +kernel⟩
set_option maxRecDepth 20000 in
theorem pm_221 : PM ((12, 37), (1, 1, 18, MX10_end)) := ⟨pyX10_end, (gt_in (tch2 (List.mem_of_getElem? (i := 95) rfl)) rfl), (gt_in (tch2 (List.mem_of_getElem? (i := 96) rfl)) rfl), (gt_in (tch2 (List.mem_of_getElem? (i := 97) rfl)) rfl), ⟨8, _, rfl, rfl, rfl⟩, by decide +kernel⟩
set_option maxRecDepth 20000 in
theorem pm_222 : PM ((12, 40), (1, 1, 19, MX11_end)) := ⟨pyX11_end, (gt_in (tch5 (List.mem_of_getElem? (i := 3) rfl)) rfl), (gt_in (tch5 (List.mem_of_getElem? (i := 4) rfl)) rfl), (gt_in (tch5 (List.mem_of_getElem? (i := 5) rfl)) rfl), ⟨9, _, rfl, rfl, rfl⟩, by decide +kernel⟩
set_option maxRecDepth 20000 in
theorem pm_223 : PM ((12, 41), (1, 1, 18, MX10_text)) := ⟨pyX10_text, (gt_in (tch2 (List.mem_of_getElem? (i := 99) rfl)) rfl), (gt_in (tch2 (List.mem_of_getElem? (i := 100) rfl)) rfl), (gt_in (tch2 (List.mem_of_getElem? (i := 101) rfl)) rfl), ⟨8, _, rfl, rfl, rfl⟩, by decide +kernel⟩
set_option maxRecDepth 20000 in
theorem pm_224 : PM ((12, 44), (1, 1, 19, MX11_text)) := ⟨pyX11_text, (gt_in (tch5 (List.mem_of_getElem? (i := 7) rfl)) rfl), (gt_in (tch5 (List.mem_of_getElem? (i := 8) rfl)) rfl), (gt_in (tch5 (List.mem_of_getElem? (i := 9) rfl)) rfl), ⟨9, _, rfl, rfl, rfl⟩, by decide +kernel⟩
set_option maxRecDepth 20000 in
theorem pm_225 : PM ((12, 45), (1, 1, 18, MX10_fault)) := ⟨pyX10_fault, (gt_in (tch3 (List.mem_of_getElem? (i := 27) rfl)) rfl), (gt_in (tch3 (List.mem_of_getElem? (i := 28) rfl)) rfl), (gt_in (tch3 (List.mem_of_getElem? (i := 29) rfl)) rfl), ⟨8, _, rfl, rfl, rfl⟩, by decide +kernel⟩
set_option maxRecDepth 20000 in
theorem pm_226 : PM ((12, 48), (1, 1, 19, MX11_fault)) := ⟨pyX11_fault, (gt_in (tch5 (List.mem_of_getElem? (i := 76) rfl)) rfl), (gt_in (tch5 (List.mem_of_getElem? (i := 77) rfl)) rfl), (gt_in (tch5 (List.mem_of_getElem? (i := 78) rfl)) rfl), ⟨9, _, rfl, rfl, rfl⟩, by decide +kernel⟩
set_option maxRecDepth 20000 in
theorem pm_227 : PM ((12, 49), (1, 2, 18, MX10_sing)) := ⟨pyX10_sing, (gt_in (tch3 (List.mem_of_getElem? (i := 31) rfl)) rfl), (gt_in (tch3 (List.mem_of_getElem? (i := 32) rfl)) rfl), (gt_in (tch3 (List.mem_of_getElem? (i := 33) rfl)) rfl), ⟨8, _, rfl, rfl, rfl⟩, by decide +kernel⟩
set_option maxRecDepth 20000 in
theorem pm_228 : PM ((12, 53), (1, 2, 19, MX11_sing)) := ⟨pyX11_sing, (gt_in (tch5 (List.mem_of_getElem? (i := 80) rfl)) rfl), (gt_in (tch5 (List.mem_of_getElem? (i := 81) rfl)) rfl), (gt_in (tch5 (List.mem_of_getElem? (i := 82) rfl)) rfl), ⟨9, _, rfl, rfl, rfl⟩, by decide +kernel⟩
set_option maxRecDepth 20000 in
theorem pm_229 : PM ((12, 54), (1, 2, 18, MX10_at)) := ⟨pyX10_at, (gt_in (tch3 (List.mem_of_getElem? (i := 117) rfl)) rfl), (gt_in (tch3 (List.mem_of_getElem? (i := 118) rfl)) rfl), (gt_in (tch3 (List.mem_of_getElem? (i := 119) rfl)) rfl), ⟨8, _, rfl, rfl, rfl⟩, by decide +kernel⟩
set_option maxRecDepth 20000 in
theorem pm_230 : PM ((12, 57), (1, 2, 19, MX11_at)) := ⟨pyX11_at, (gt_in (tch5 (List.mem_of_getElem? (i := 134) rfl)) rfl), (gt_in (tch5 (List.mem_of_getElem? (i := 135) rfl)) rfl), (gt_in (tch5 (List.mem_of_getElem? (i := 136) rfl)) rfl), ⟨9, _, rfl, rfl, rfl⟩, by decide +kernel⟩
set_option maxRecDepth 20000 in
theorem pm_231 : PM ((12, 58), (1, 2, 18, MX10_of)) := ⟨pyX10_of, (gt_in (tch3 (List.mem_of_getElem? (i := 122) rfl)) rfl), (gt_in (tch3 (List.mem_of_getElem? (i := 123) rfl)) rfl), (gt_in (tch3 (List.mem_of_getElem? (i := 124) rfl)) rfl), ⟨8, _, rfl, rfl, rfl⟩, by decide +kernel⟩
set_option maxRecDepth 20000 in
theorem pm_232 : PM ((12, 61), (1, 2, 19, MX11_of)) := ⟨pyX11_of, (gt_in (tch5 (List.mem_of_getElem? (i := 138) rfl)) rfl), (gt_in (tch5 (List.mem_of_getElem? (i := 139) rfl)) rfl), (gt_in (tch5 (List.mem_of_getElem? (i := 140) rfl)) rfl), ⟨9, _, rfl, rfl, rfl⟩, by decide +kernel⟩
set_option maxRecDepth 20000 in
theorem pm_233 : PM ((12, 62), (1, 2, 18, MX10_over)) := ⟨pyX10_over, (gt_in (tch3 (List.mem_of_getElem? (i := 129) rfl)) rfl), (gt_in (tch3 (List.mem_of_getElem? (i := 130) rfl)) rfl), (gt_in (tch3 (List.mem_of_getElem? (i := 131) rfl)) rfl), ⟨8, _, rfl, rfl, rfl⟩, by decide +kernel⟩
set_option maxRecDepth 20000 in
theorem pm_234 : PM ((12, 65), (1, 2, 19, MX11_over)) := ⟨pyX11_over, (gt_in (tch5 (List.mem_of_getElem? (i := 146) rfl)) rfl), (gt_in (tch5 (List.mem_of_getElem? (i := 147) rfl)) rfl), (gt_in (tch5 (List.mem_of_getElem? (i := 148) rfl)) rfl), ⟨9, _, rfl, rfl, rfl⟩, by decide +kernel⟩
set_option maxRecDepth 20000 in
theorem pm_235 : PM ((12, 66), (1, 2, 18, MX10_outside)) := ⟨pyX10_outside, (gt_in (tch3 (List.mem_of_getElem? (i := 137) rfl)) rfl), (gt_in (tch3 (List.mem_of_getElem? (i := 138) rfl)) rfl), (gt_in (tch3 (List.mem_of_getElem? (i := 139) rfl)) rfl), ⟨8, _, rfl, rfl, rfl⟩, by decide +kernel⟩
set_option maxRecDepth 20000 in
theorem pm_236 : PM ((12, 69), (1, 2, 19, MX11_outside)) := ⟨pyX11_outside, (gt_in (tch5 (List.mem_of_getElem? (i := 150) rfl)) rfl), (gt_in (tch5 (List.mem_of_getElem? (i := 151) rfl)) rfl), (gt_in (tch5 (List.mem_of_getElem? (i := 152) rfl)) rfl), ⟨9, _, rfl, rfl, rfl⟩, by decide +kernel⟩
set_option maxRecDepth 20000 in
theorem pm_237 : PM ((12, 70), (1, 2, 18, MX10_back)) := ⟨pyX10_back, (gt_in (tch3 (List.mem_of_getElem? (i := 145) rfl)) rfl), (gt_in (tch3 (List.mem_of_getElem? (i := 146) rfl)) rfl), (gt_in (tch3 (List.mem_of_getElem? (i := 147) rfl)) rfl), ⟨8, _, rfl, rfl, rfl⟩, by decide +kernel⟩
set_option maxRecDepth 20000 in
theorem pm_238 : PM ((12, 73), (1, 2, 19, MX11_back)) := ⟨pyX11_back, (gt_in (tch5 (List.mem_of_getElem? (i := 154) rfl)) rfl), (gt_in (tch5 (List.mem_of_getElem? (i := 155) rfl)) rfl), (gt_in (tch5 (List.mem_of_getElem? (i := 156) rfl)) rfl), ⟨9, _, rfl, rfl, rfl⟩, by decide +kernel⟩
set_option maxRecDepth 20000 in
theorem pm_239 : PM ((12, 74), (1, 4, 18, MX10_where)) := ⟨pyX10_where, (gt_in (tch3 (List.mem_of_getElem? (i := 173) rfl)) rfl), (gt_in (tch3 (List.mem_of_getElem? (i := 174) rfl)) rfl), (gt_in (tch3 (List.mem_of_getElem? (i := 175) rfl)) rfl), ⟨8, _, rfl, rfl, rfl⟩, by decide +kernel⟩
set_option maxRecDepth 20000 in
theorem pm_240 : PM ((12, 78), (1, 4, 19, MX11_where)) := ⟨pyX11_where, (gt_in (tch5 (List.mem_of_getElem? (i := 166) rfl)) rfl), (gt_in (tch5 (List.mem_of_getElem? (i := 167) rfl)) rfl), (gt_in (tch5 (List.mem_of_getElem? (i := 168) rfl)) rfl), ⟨9, _, rfl, rfl, rfl⟩, by decide +kernel⟩
set_option maxRecDepth 20000 in
theorem pm_241 : PM ((12, 79), (1, 2, 18, MX10_want)) := ⟨pyX10_want, (gt_in (tch3 (List.mem_of_getElem? (i := 186) rfl)) rfl), (gt_in (tch3 (List.mem_of_getElem? (i := 187) rfl)) rfl), (gt_in (tch3 (List.mem_of_getElem? (i := 188) rfl)) rfl), ⟨8, _, rfl, rfl, rfl⟩, by decide +kernel⟩
set_option maxRecDepth 20000 in
theorem pm_242 : PM ((12, 82), (1, 2, 19, MX11_want)) := ⟨pyX11_want, (gt_in (tch5 (List.mem_of_getElem? (i := 170) rfl)) rfl), (gt_in (tch5 (List.mem_of_getElem? (i := 171) rfl)) rfl), (gt_in (tch5 (List.mem_of_getElem? (i := 172) rfl)) rfl), ⟨9, _, rfl, rfl, rfl⟩, by decide +kernel⟩
set_option maxRecDepth 20000 in
theorem pm_243 : PM ((12, 83), (1, 1, 18, MX10_fewest)) := ⟨pyX10_fewest, (gt_in (tch3 (List.mem_of_getElem? (i := 190) rfl)) rfl), (gt_in (tch3 (List.mem_of_getElem? (i := 191) rfl)) rfl), (gt_in (tch3 (List.mem_of_getElem? (i := 192) rfl)) rfl), ⟨8, _, rfl, rfl, rfl⟩, by decide +kernel⟩
set_option maxRecDepth 20000 in
theorem pm_244 : PM ((12, 86), (1, 1, 19, MX11_fewest)) := ⟨pyX11_fewest, (gt_in (tch5 (List.mem_of_getElem? (i := 174) rfl)) rfl), (gt_in (tch5 (List.mem_of_getElem? (i := 175) rfl)) rfl), (gt_in (tch5 (List.mem_of_getElem? (i := 176) rfl)) rfl), ⟨9, _, rfl, rfl, rfl⟩, by decide +kernel⟩
set_option maxRecDepth 20000 in
theorem pm_245 : PM ((12, 87), (1, 1, 18, MX10_cut)) := ⟨pyX10_cut, (gt_in (tch3 (List.mem_of_getElem? (i := 219) rfl)) rfl), (gt_in (tch3 (List.mem_of_getElem? (i := 220) rfl)) rfl), (gt_in (tch3 (List.mem_of_getElem? (i := 221) rfl)) rfl), ⟨8, _, rfl, rfl, rfl⟩, by decide +kernel⟩
set_option maxRecDepth 20000 in
theorem pm_246 : PM ((12, 90), (1, 1, 19, MX11_cut)) := ⟨pyX11_cut, (gt_in (tch5 (List.mem_of_getElem? (i := 200) rfl)) rfl), (gt_in (tch5 (List.mem_of_getElem? (i := 201) rfl)) rfl), (gt_in (tch5 (List.mem_of_getElem? (i := 202) rfl)) rfl), ⟨9, _, rfl, rfl, rfl⟩, by decide +kernel⟩
set_option maxRecDepth 20000 in
theorem pm_247 : PM ((12, 91), (1, 3, 18, MX10_dropped)) := ⟨pyX10_dropped, (gt_in (tch3 (List.mem_of_getElem? (i := 226) rfl)) rfl), (gt_in (tch3 (List.mem_of_getElem? (i := 227) rfl)) rfl), (gt_in (tch3 (List.mem_of_getElem? (i := 228) rfl)) rfl), ⟨8, _, rfl, rfl, rfl⟩, by decide +kernel⟩
set_option maxRecDepth 20000 in
theorem pm_248 : PM ((12, 95), (1, 3, 19, MX11_dropped)) := ⟨pyX11_dropped, (gt_in (tch5 (List.mem_of_getElem? (i := 212) rfl)) rfl), (gt_in (tch5 (List.mem_of_getElem? (i := 213) rfl)) rfl), (gt_in (tch5 (List.mem_of_getElem? (i := 214) rfl)) rfl), ⟨9, _, rfl, rfl, rfl⟩, by decide +kernel⟩
set_option maxRecDepth 20000 in
theorem pm_249 : PM ((12, 96), (1, 2, 18, MX10_beats)) := ⟨pyX10_beats, (gt_in (tch3 (List.mem_of_getElem? (i := 235) rfl)) rfl), (gt_in (tch3 (List.mem_of_getElem? (i := 236) rfl)) rfl), (gt_in (tch3 (List.mem_of_getElem? (i := 237) rfl)) rfl), ⟨8, _, rfl, rfl, rfl⟩, by decide +kernel⟩
set_option maxRecDepth 20000 in
theorem pm_250 : PM ((12, 99), (1, 2, 19, MX11_beats)) := ⟨pyX11_beats, (gt_in (tch5 (List.mem_of_getElem? (i := 236) rfl)) rfl), (gt_in (tch5 (List.mem_of_getElem? (i := 237) rfl)) rfl), (gt_in (tch5 (List.mem_of_getElem? (i := 238) rfl)) rfl), ⟨9, _, rfl, rfl, rfl⟩, by decide +kernel⟩
set_option maxRecDepth 20000 in
theorem pm_251 : PM ((12, 100), (1, 2, 18, MX10_name)) := ⟨pyX10_name, (gt_in (tch4 (List.mem_of_getElem? (i := 18) rfl)) rfl), (gt_in (tch4 (List.mem_of_getElem? (i := 19) rfl)) rfl), (gt_in (tch4 (List.mem_of_getElem? (i := 20) rfl)) rfl), ⟨8, _, rfl, rfl, rfl⟩, by decide +kernel⟩
set_option maxRecDepth 20000 in
theorem pm_252 : PM ((12, 103), (1, 2, 19, MX11_name)) := ⟨pyX11_name, (gt_in (tch6 (List.mem_of_getElem? (i := 7) rfl)) rfl), (gt_in (tch6 (List.mem_of_getElem? (i := 8) rfl)) rfl), (gt_in (tch6 (List.mem_of_getElem? (i := 9) rfl)) rfl), ⟨9, _, rfl, rfl, rfl⟩, by decide +kernel⟩
set_option maxRecDepth 20000 in
theorem pm_253 : PM ((12, 104), (1, 1, 18, MX10_lay)) := ⟨pyX10_lay, (gt_in (tch4 (List.mem_of_getElem? (i := 22) rfl)) rfl), (gt_in (tch4 (List.mem_of_getElem? (i := 23) rfl)) rfl), (gt_in (tch4 (List.mem_of_getElem? (i := 24) rfl)) rfl), ⟨8, _, rfl, rfl, rfl⟩, by decide +kernel⟩
set_option maxRecDepth 20000 in
theorem pm_254 : PM ((12, 107), (1, 1, 19, MX11_lay)) := ⟨pyX11_lay, (gt_in (tch6 (List.mem_of_getElem? (i := 11) rfl)) rfl), (gt_in (tch6 (List.mem_of_getElem? (i := 12) rfl)) rfl), (gt_in (tch6 (List.mem_of_getElem? (i := 13) rfl)) rfl), ⟨9, _, rfl, rfl, rfl⟩, by decide +kernel⟩
set_option maxRecDepth 20000 in
theorem pm_255 : PM ((12, 108), (1, 1, 18, MX10_pulled)) := ⟨pyX10_pulled, (gt_in (tch4 (List.mem_of_getElem? (i := 43) rfl)) rfl), (gt_in (tch4 (List.mem_of_getElem? (i := 44) rfl)) rfl), (gt_in (tch4 (List.mem_of_getElem? (i := 45) rfl)) rfl), ⟨8, _, rfl, rfl, rfl⟩, by decide +kernel⟩
set_option maxRecDepth 20000 in
theorem pm_256 : PM ((12, 111), (1, 1, 19, MX11_pulled)) := ⟨pyX11_pulled, (gt_in (tch6 (List.mem_of_getElem? (i := 15) rfl)) rfl), (gt_in (tch6 (List.mem_of_getElem? (i := 16) rfl)) rfl), (gt_in (tch6 (List.mem_of_getElem? (i := 17) rfl)) rfl), ⟨9, _, rfl, rfl, rfl⟩, by decide +kernel⟩
set_option maxRecDepth 20000 in
theorem pm_257 : PM ((12, 112), (1, 1, 18, MX10_loops)) := ⟨pyX10_loops, (gt_in (tch4 (List.mem_of_getElem? (i := 56) rfl)) rfl), (gt_in (tch4 (List.mem_of_getElem? (i := 57) rfl)) rfl), (gt_in (tch4 (List.mem_of_getElem? (i := 58) rfl)) rfl), ⟨8, _, rfl, rfl, rfl⟩, by decide +kernel⟩
set_option maxRecDepth 20000 in
theorem pm_258 : PM ((12, 115), (1, 1, 19, MX11_loops)) := ⟨pyX11_loops, (gt_in (tch6 (List.mem_of_getElem? (i := 23) rfl)) rfl), (gt_in (tch6 (List.mem_of_getElem? (i := 24) rfl)) rfl), (gt_in (tch6 (List.mem_of_getElem? (i := 25) rfl)) rfl), ⟨9, _, rfl, rfl, rfl⟩, by decide +kernel⟩
set_option maxRecDepth 20000 in
theorem pm_259 : PM ((12, 116), (1, 2, 18, MX10_alike)) := ⟨pyX10_alike, (gt_in (tch4 (List.mem_of_getElem? (i := 69) rfl)) rfl), (gt_in (tch4 (List.mem_of_getElem? (i := 70) rfl)) rfl), (gt_in (tch4 (List.mem_of_getElem? (i := 71) rfl)) rfl), ⟨8, _, rfl, rfl, rfl⟩, by decide +kernel⟩
set_option maxRecDepth 20000 in
theorem pm_260 : PM ((12, 119), (1, 2, 19, MX11_alike)) := ⟨pyX11_alike, (gt_in (tch5 (List.mem_of_getElem? (i := 220) rfl)) rfl), (gt_in (tch5 (List.mem_of_getElem? (i := 221) rfl)) rfl), (gt_in (tch5 (List.mem_of_getElem? (i := 222) rfl)) rfl), ⟨9, _, rfl, rfl, rfl⟩, by decide +kernel⟩
set_option maxRecDepth 20000 in
theorem pm_261 : PM ((12, 120), (1, 1, 18, MX10_period)) := ⟨pyX10_period, (gt_in (tch4 (List.mem_of_getElem? (i := 83) rfl)) rfl), (gt_in (tch4 (List.mem_of_getElem? (i := 84) rfl)) rfl), (gt_in (tch4 (List.mem_of_getElem? (i := 85) rfl)) rfl), ⟨8, _, rfl, rfl, rfl⟩, by decide +kernel⟩
set_option maxRecDepth 20000 in
theorem pm_262 : PM ((12, 123), (1, 1, 19, MX11_period)) := ⟨pyX11_period, (gt_in (tch5 (List.mem_of_getElem? (i := 228) rfl)) rfl), (gt_in (tch5 (List.mem_of_getElem? (i := 229) rfl)) rfl), (gt_in (tch5 (List.mem_of_getElem? (i := 230) rfl)) rfl), ⟨9, _, rfl, rfl, rfl⟩, by decide +kernel⟩
set_option maxRecDepth 20000 in
theorem pm_263 : PM ((12, 124), (1, 0, 18, MX10_undo)) := ⟨pyX10_undo, (gt_in (tch4 (List.mem_of_getElem? (i := 92) rfl)) rfl), (gt_in (tch4 (List.mem_of_getElem? (i := 93) rfl)) rfl), (gt_in (tch4 (List.mem_of_getElem? (i := 94) rfl)) rfl), ⟨8, _, rfl, rfl, rfl⟩, by decide +kernel⟩
set_option maxRecDepth 20000 in
theorem pm_264 : PM ((12, 128), (1, 0, 19, MX11_undo)) := ⟨pyX11_undo, (gt_in (tch5 (List.mem_of_getElem? (i := 130) rfl)) rfl), (gt_in (tch5 (List.mem_of_getElem? (i := 131) rfl)) rfl), (gt_in (tch5 (List.mem_of_getElem? (i := 132) rfl)) rfl), ⟨9, _, rfl, rfl, rfl⟩, by decide +kernel⟩
set_option maxRecDepth 20000 in
theorem pm_265 : PM ((12, 129), (1, 1, 18, MX10_image)) := ⟨pyX10_image, (gt_in (tch4 (List.mem_of_getElem? (i := 100) rfl)) rfl), (gt_in (tch4 (List.mem_of_getElem? (i := 101) rfl)) rfl), (gt_in (tch4 (List.mem_of_getElem? (i := 102) rfl)) rfl), ⟨8, _, rfl, rfl, rfl⟩, by decide +kernel⟩
set_option maxRecDepth 20000 in
theorem pm_266 : PM ((12, 133), (1, 1, 19, MX11_image)) := ⟨pyX11_image, (gt_in (tch6 (List.mem_of_getElem? (i := 35) rfl)) rfl), (gt_in (tch6 (List.mem_of_getElem? (i := 36) rfl)) rfl), (gt_in (tch6 (List.mem_of_getElem? (i := 37) rfl)) rfl), ⟨9, _, rfl, rfl, rfl⟩, by decide +kernel⟩
set_option maxRecDepth 20000 in
theorem pm_267 : PM ((12, 134), (1, 1, 18, MX10_look)) := ⟨pyX10_look, (gt_in (tch4 (List.mem_of_getElem? (i := 111) rfl)) rfl), (gt_in (tch4 (List.mem_of_getElem? (i := 112) rfl)) rfl), (gt_in (tch4 (List.mem_of_getElem? (i := 113) rfl)) rfl), ⟨8, _, rfl, rfl, rfl⟩, by decide +kernel⟩
set_option maxRecDepth 20000 in
theorem pm_268 : PM ((12, 137), (1, 1, 19, MX11_look)) := ⟨pyX11_look, (gt_in (tch6 (List.mem_of_getElem? (i := 39) rfl)) rfl), (gt_in (tch6 (List.mem_of_getElem? (i := 40) rfl)) rfl), (gt_in (tch6 (List.mem_of_getElem? (i := 41) rfl)) rfl), ⟨9, _, rfl, rfl, rfl⟩, by decide +kernel⟩
set_option maxRecDepth 20000 in
theorem mlW : ∀ e ∈ mlT, PM e := (List.forall_mem_cons.mpr ⟨pm_0, (List.forall_mem_cons.mpr ⟨pm_1, (List.forall_mem_cons.mpr ⟨pm_2, (List.forall_mem_cons.mpr ⟨pm_3, (List.forall_mem_cons.mpr ⟨pm_4, (List.forall_mem_cons.mpr ⟨pm_5, (List.forall_mem_cons.mpr ⟨pm_6, (List.forall_mem_cons.mpr ⟨pm_7, (List.forall_mem_cons.mpr ⟨pm_8, (List.forall_mem_cons.mpr ⟨pm_9, (List.forall_mem_cons.mpr ⟨pm_10, (List.forall_mem_cons.mpr ⟨pm_11, (List.forall_mem_cons.mpr ⟨pm_12, (List.forall_mem_cons.mpr ⟨pm_13, (List.forall_mem_cons.mpr ⟨pm_14, (List.forall_mem_cons.mpr ⟨pm_15, (List.forall_mem_cons.mpr ⟨pm_16, (List.forall_mem_cons.mpr ⟨pm_17, (List.forall_mem_cons.mpr ⟨pm_18, (List.forall_mem_cons.mpr ⟨pm_19, (List.forall_mem_cons.mpr ⟨pm_20, (List.forall_mem_cons.mpr ⟨pm_21, (List.forall_mem_cons.mpr ⟨pm_22, (List.forall_mem_cons.mpr ⟨pm_23, (List.forall_mem_cons.mpr ⟨pm_24, (List.forall_mem_cons.mpr ⟨pm_25, (List.forall_mem_cons.mpr ⟨pm_26, (List.forall_mem_cons.mpr ⟨pm_27, (List.forall_mem_cons.mpr ⟨pm_28, (List.forall_mem_cons.mpr ⟨pm_29, (List.forall_mem_cons.mpr ⟨pm_30, (List.forall_mem_cons.mpr ⟨pm_31, (List.forall_mem_cons.mpr ⟨pm_32, (List.forall_mem_cons.mpr ⟨pm_33, (List.forall_mem_cons.mpr ⟨pm_34, (List.forall_mem_cons.mpr ⟨pm_35, (List.forall_mem_cons.mpr ⟨pm_36, (List.forall_mem_cons.mpr ⟨pm_37, (List.forall_mem_cons.mpr ⟨pm_38, (List.forall_mem_cons.mpr ⟨pm_39, (List.forall_mem_cons.mpr ⟨pm_40, (List.forall_mem_cons.mpr ⟨pm_41, (List.forall_mem_cons.mpr ⟨pm_42, (List.forall_mem_cons.mpr ⟨pm_43, (List.forall_mem_cons.mpr ⟨pm_44, (List.forall_mem_cons.mpr ⟨pm_45, (List.forall_mem_cons.mpr ⟨pm_46, (List.forall_mem_cons.mpr ⟨pm_47, (List.forall_mem_cons.mpr ⟨pm_48, (List.forall_mem_cons.mpr ⟨pm_49, (List.forall_mem_cons.mpr ⟨pm_50, (List.forall_mem_cons.mpr ⟨pm_51, (List.forall_mem_cons.mpr ⟨pm_52, (List.forall_mem_cons.mpr ⟨pm_53, (List.forall_mem_cons.mpr ⟨pm_54, (List.forall_mem_cons.mpr ⟨pm_55, (List.forall_mem_cons.mpr ⟨pm_56, (List.forall_mem_cons.mpr ⟨pm_57, (List.forall_mem_cons.mpr ⟨pm_58, (List.forall_mem_cons.mpr ⟨pm_59, (List.forall_mem_cons.mpr ⟨pm_60, (List.forall_mem_cons.mpr ⟨pm_61, (List.forall_mem_cons.mpr ⟨pm_62, (List.forall_mem_cons.mpr ⟨pm_63, (List.forall_mem_cons.mpr ⟨pm_64, (List.forall_mem_cons.mpr ⟨pm_65, (List.forall_mem_cons.mpr ⟨pm_66, (List.forall_mem_cons.mpr ⟨pm_67, (List.forall_mem_cons.mpr ⟨pm_68, (List.forall_mem_cons.mpr ⟨pm_69, (List.forall_mem_cons.mpr ⟨pm_70, (List.forall_mem_cons.mpr ⟨pm_71, (List.forall_mem_cons.mpr ⟨pm_72, (List.forall_mem_cons.mpr ⟨pm_73, (List.forall_mem_cons.mpr ⟨pm_74, (List.forall_mem_cons.mpr ⟨pm_75, (List.forall_mem_cons.mpr ⟨pm_76, (List.forall_mem_cons.mpr ⟨pm_77, (List.forall_mem_cons.mpr ⟨pm_78, (List.forall_mem_cons.mpr ⟨pm_79, (List.forall_mem_cons.mpr ⟨pm_80, (List.forall_mem_cons.mpr ⟨pm_81, (List.forall_mem_cons.mpr ⟨pm_82, (List.forall_mem_cons.mpr ⟨pm_83, (List.forall_mem_cons.mpr ⟨pm_84, (List.forall_mem_cons.mpr ⟨pm_85, (List.forall_mem_cons.mpr ⟨pm_86, (List.forall_mem_cons.mpr ⟨pm_87, (List.forall_mem_cons.mpr ⟨pm_88, (List.forall_mem_cons.mpr ⟨pm_89, (List.forall_mem_cons.mpr ⟨pm_90, (List.forall_mem_cons.mpr ⟨pm_91, (List.forall_mem_cons.mpr ⟨pm_92, (List.forall_mem_cons.mpr ⟨pm_93, (List.forall_mem_cons.mpr ⟨pm_94, (List.forall_mem_cons.mpr ⟨pm_95, (List.forall_mem_cons.mpr ⟨pm_96, (List.forall_mem_cons.mpr ⟨pm_97, (List.forall_mem_cons.mpr ⟨pm_98, (List.forall_mem_cons.mpr ⟨pm_99, (List.forall_mem_cons.mpr ⟨pm_100, (List.forall_mem_cons.mpr ⟨pm_101, (List.forall_mem_cons.mpr ⟨pm_102, (List.forall_mem_cons.mpr ⟨pm_103, (List.forall_mem_cons.mpr ⟨pm_104, (List.forall_mem_cons.mpr ⟨pm_105, (List.forall_mem_cons.mpr ⟨pm_106, (List.forall_mem_cons.mpr ⟨pm_107, (List.forall_mem_cons.mpr ⟨pm_108, (List.forall_mem_cons.mpr ⟨pm_109, (List.forall_mem_cons.mpr ⟨pm_110, (List.forall_mem_cons.mpr ⟨pm_111, (List.forall_mem_cons.mpr ⟨pm_112, (List.forall_mem_cons.mpr ⟨pm_113, (List.forall_mem_cons.mpr ⟨pm_114, (List.forall_mem_cons.mpr ⟨pm_115, (List.forall_mem_cons.mpr ⟨pm_116, (List.forall_mem_cons.mpr ⟨pm_117, (List.forall_mem_cons.mpr ⟨pm_118, (List.forall_mem_cons.mpr ⟨pm_119, (List.forall_mem_cons.mpr ⟨pm_120, (List.forall_mem_cons.mpr ⟨pm_121, (List.forall_mem_cons.mpr ⟨pm_122, (List.forall_mem_cons.mpr ⟨pm_123, (List.forall_mem_cons.mpr ⟨pm_124, (List.forall_mem_cons.mpr ⟨pm_125, (List.forall_mem_cons.mpr ⟨pm_126, (List.forall_mem_cons.mpr ⟨pm_127, (List.forall_mem_cons.mpr ⟨pm_128, (List.forall_mem_cons.mpr ⟨pm_129, (List.forall_mem_cons.mpr ⟨pm_130, (List.forall_mem_cons.mpr ⟨pm_131, (List.forall_mem_cons.mpr ⟨pm_132, (List.forall_mem_cons.mpr ⟨pm_133, (List.forall_mem_cons.mpr ⟨pm_134, (List.forall_mem_cons.mpr ⟨pm_135, (List.forall_mem_cons.mpr ⟨pm_136, (List.forall_mem_cons.mpr ⟨pm_137, (List.forall_mem_cons.mpr ⟨pm_138, (List.forall_mem_cons.mpr ⟨pm_139, (List.forall_mem_cons.mpr ⟨pm_140, (List.forall_mem_cons.mpr ⟨pm_141, (List.forall_mem_cons.mpr ⟨pm_142, (List.forall_mem_cons.mpr ⟨pm_143, (List.forall_mem_cons.mpr ⟨pm_144, (List.forall_mem_cons.mpr ⟨pm_145, (List.forall_mem_cons.mpr ⟨pm_146, (List.forall_mem_cons.mpr ⟨pm_147, (List.forall_mem_cons.mpr ⟨pm_148, (List.forall_mem_cons.mpr ⟨pm_149, (List.forall_mem_cons.mpr ⟨pm_150, (List.forall_mem_cons.mpr ⟨pm_151, (List.forall_mem_cons.mpr ⟨pm_152, (List.forall_mem_cons.mpr ⟨pm_153, (List.forall_mem_cons.mpr ⟨pm_154, (List.forall_mem_cons.mpr ⟨pm_155, (List.forall_mem_cons.mpr ⟨pm_156, (List.forall_mem_cons.mpr ⟨pm_157, (List.forall_mem_cons.mpr ⟨pm_158, (List.forall_mem_cons.mpr ⟨pm_159, (List.forall_mem_cons.mpr ⟨pm_160, (List.forall_mem_cons.mpr ⟨pm_161, (List.forall_mem_cons.mpr ⟨pm_162, (List.forall_mem_cons.mpr ⟨pm_163, (List.forall_mem_cons.mpr ⟨pm_164, (List.forall_mem_cons.mpr ⟨pm_165, (List.forall_mem_cons.mpr ⟨pm_166, (List.forall_mem_cons.mpr ⟨pm_167, (List.forall_mem_cons.mpr ⟨pm_168, (List.forall_mem_cons.mpr ⟨pm_169, (List.forall_mem_cons.mpr ⟨pm_170, (List.forall_mem_cons.mpr ⟨pm_171, (List.forall_mem_cons.mpr ⟨pm_172, (List.forall_mem_cons.mpr ⟨pm_173, (List.forall_mem_cons.mpr ⟨pm_174, (List.forall_mem_cons.mpr ⟨pm_175, (List.forall_mem_cons.mpr ⟨pm_176, (List.forall_mem_cons.mpr ⟨pm_177, (List.forall_mem_cons.mpr ⟨pm_178, (List.forall_mem_cons.mpr ⟨pm_179, (List.forall_mem_cons.mpr ⟨pm_180, (List.forall_mem_cons.mpr ⟨pm_181, (List.forall_mem_cons.mpr ⟨pm_182, (List.forall_mem_cons.mpr ⟨pm_183, (List.forall_mem_cons.mpr ⟨pm_184, (List.forall_mem_cons.mpr ⟨pm_185, (List.forall_mem_cons.mpr ⟨pm_186, (List.forall_mem_cons.mpr ⟨pm_187, (List.forall_mem_cons.mpr ⟨pm_188, (List.forall_mem_cons.mpr ⟨pm_189, (List.forall_mem_cons.mpr ⟨pm_190, (List.forall_mem_cons.mpr ⟨pm_191, (List.forall_mem_cons.mpr ⟨pm_192, (List.forall_mem_cons.mpr ⟨pm_193, (List.forall_mem_cons.mpr ⟨pm_194, (List.forall_mem_cons.mpr ⟨pm_195, (List.forall_mem_cons.mpr ⟨pm_196, (List.forall_mem_cons.mpr ⟨pm_197, (List.forall_mem_cons.mpr ⟨pm_198, (List.forall_mem_cons.mpr ⟨pm_199, (List.forall_mem_cons.mpr ⟨pm_200, (List.forall_mem_cons.mpr ⟨pm_201, (List.forall_mem_cons.mpr ⟨pm_202, (List.forall_mem_cons.mpr ⟨pm_203, (List.forall_mem_cons.mpr ⟨pm_204, (List.forall_mem_cons.mpr ⟨pm_205, (List.forall_mem_cons.mpr ⟨pm_206, (List.forall_mem_cons.mpr ⟨pm_207, (List.forall_mem_cons.mpr ⟨pm_208, (List.forall_mem_cons.mpr ⟨pm_209, (List.forall_mem_cons.mpr ⟨pm_210, (List.forall_mem_cons.mpr ⟨pm_211, (List.forall_mem_cons.mpr ⟨pm_212, (List.forall_mem_cons.mpr ⟨pm_213, (List.forall_mem_cons.mpr ⟨pm_214, (List.forall_mem_cons.mpr ⟨pm_215, (List.forall_mem_cons.mpr ⟨pm_216, (List.forall_mem_cons.mpr ⟨pm_217, (List.forall_mem_cons.mpr ⟨pm_218, (List.forall_mem_cons.mpr ⟨pm_219, (List.forall_mem_cons.mpr ⟨pm_220, (List.forall_mem_cons.mpr ⟨pm_221, (List.forall_mem_cons.mpr ⟨pm_222, (List.forall_mem_cons.mpr ⟨pm_223, (List.forall_mem_cons.mpr ⟨pm_224, (List.forall_mem_cons.mpr ⟨pm_225, (List.forall_mem_cons.mpr ⟨pm_226, (List.forall_mem_cons.mpr ⟨pm_227, (List.forall_mem_cons.mpr ⟨pm_228, (List.forall_mem_cons.mpr ⟨pm_229, (List.forall_mem_cons.mpr ⟨pm_230, (List.forall_mem_cons.mpr ⟨pm_231, (List.forall_mem_cons.mpr ⟨pm_232, (List.forall_mem_cons.mpr ⟨pm_233, (List.forall_mem_cons.mpr ⟨pm_234, (List.forall_mem_cons.mpr ⟨pm_235, (List.forall_mem_cons.mpr ⟨pm_236, (List.forall_mem_cons.mpr ⟨pm_237, (List.forall_mem_cons.mpr ⟨pm_238, (List.forall_mem_cons.mpr ⟨pm_239, (List.forall_mem_cons.mpr ⟨pm_240, (List.forall_mem_cons.mpr ⟨pm_241, (List.forall_mem_cons.mpr ⟨pm_242, (List.forall_mem_cons.mpr ⟨pm_243, (List.forall_mem_cons.mpr ⟨pm_244, (List.forall_mem_cons.mpr ⟨pm_245, (List.forall_mem_cons.mpr ⟨pm_246, (List.forall_mem_cons.mpr ⟨pm_247, (List.forall_mem_cons.mpr ⟨pm_248, (List.forall_mem_cons.mpr ⟨pm_249, (List.forall_mem_cons.mpr ⟨pm_250, (List.forall_mem_cons.mpr ⟨pm_251, (List.forall_mem_cons.mpr ⟨pm_252, (List.forall_mem_cons.mpr ⟨pm_253, (List.forall_mem_cons.mpr ⟨pm_254, (List.forall_mem_cons.mpr ⟨pm_255, (List.forall_mem_cons.mpr ⟨pm_256, (List.forall_mem_cons.mpr ⟨pm_257, (List.forall_mem_cons.mpr ⟨pm_258, (List.forall_mem_cons.mpr ⟨pm_259, (List.forall_mem_cons.mpr ⟨pm_260, (List.forall_mem_cons.mpr ⟨pm_261, (List.forall_mem_cons.mpr ⟨pm_262, (List.forall_mem_cons.mpr ⟨pm_263, (List.forall_mem_cons.mpr ⟨pm_264, (List.forall_mem_cons.mpr ⟨pm_265, (List.forall_mem_cons.mpr ⟨pm_266, (List.forall_mem_cons.mpr ⟨pm_267, (List.forall_mem_cons.mpr ⟨pm_268, (fun _ h => absurd h List.not_mem_nil)⟩)⟩)⟩)⟩)⟩)⟩)⟩)⟩)⟩)⟩)⟩)⟩)⟩)⟩)⟩)⟩)⟩)⟩)⟩)⟩)⟩)⟩)⟩)⟩)⟩)⟩)⟩)⟩)⟩)⟩)⟩)⟩)⟩)⟩)⟩)⟩)⟩)⟩)⟩)⟩)⟩)⟩)⟩)⟩)⟩)⟩)⟩)⟩)⟩)⟩)⟩)⟩)⟩)⟩)⟩)⟩)⟩)⟩)⟩)⟩)⟩)⟩)⟩)⟩)⟩)⟩)⟩)⟩)⟩)⟩)⟩)⟩)⟩)⟩)⟩)⟩)⟩)⟩)⟩)⟩)⟩)⟩)⟩)⟩)⟩)⟩)⟩)⟩)⟩)⟩)⟩)⟩)⟩)⟩)⟩)⟩)⟩)⟩)⟩)⟩)⟩)⟩)⟩)⟩)⟩)⟩)⟩)⟩)⟩)⟩)⟩)⟩)⟩)⟩)⟩)⟩)⟩)⟩)⟩)⟩)⟩)⟩)⟩)⟩)⟩)⟩)⟩)⟩)⟩)⟩)⟩)⟩)⟩)⟩)⟩)⟩)⟩)⟩)⟩)⟩)⟩)⟩)⟩)⟩)⟩)⟩)⟩)⟩)⟩)⟩)⟩)⟩)⟩)⟩)⟩)⟩)⟩)⟩)⟩)⟩)⟩)⟩)⟩)⟩)⟩)⟩)⟩)⟩)⟩)⟩)⟩)⟩)⟩)⟩)⟩)⟩)⟩)⟩)⟩)⟩)⟩)⟩)⟩)⟩)⟩)⟩)⟩)⟩)⟩)⟩)⟩)⟩)⟩)⟩)⟩)⟩)⟩)⟩)⟩)⟩)⟩)⟩)⟩)⟩)⟩)⟩)⟩)⟩)⟩)⟩)⟩)⟩)⟩)⟩)⟩)⟩)⟩)⟩)⟩)⟩)⟩)⟩)⟩)⟩)⟩)⟩)⟩)⟩)⟩)⟩)⟩)⟩)⟩)⟩)⟩)⟩)⟩)⟩)⟩)⟩)⟩)⟩)⟩)⟩)⟩)⟩)⟩)⟩)⟩)⟩)⟩)⟩)⟩)⟩)⟩)⟩)⟩)⟩)⟩)⟩)⟩)⟩)⟩)⟩)⟩)⟩)⟩)⟩)⟩)
set_option maxRecDepth 20000 in
theorem lkp_mem {α : Type} {t : List ((Nat × Nat) × α)} {c i : Nat} {v : α} (h : lkp t c i = some v) : ((c, i), v) ∈ t := by
  unfold lkp at h
  cases hf : t.find? (fun e => e.1.1 == c && e.1.2 == i) with
  | none => rw [hf] at h; cases h
  | some e =>
    rw [hf] at h
    have h1 := List.mem_of_find?_eq_some hf
    have h2 := List.find?_some hf
    simp only [Bool.and_eq_true, beq_iff_eq] at h2
    obtain ⟨⟨a, b⟩, w⟩ := e
    simp only [Option.map_some, Option.some.injEq] at h
    obtain ⟨rfl, rfl⟩ := h2
    subst h
    exact h1
set_option maxRecDepth 20000 in
theorem newW : ∀ e ∈ newT, ∃ q : vw_C, vwCl[e.2]? = some q ∧ Cond.classLink (clsN e.1.1) e.1.2 q.1 ∈ gt := (List.forall_mem_cons.mpr ⟨⟨_, rfl, (gt_in (tch1 (List.mem_of_getElem? (i := 223) rfl)) rfl)⟩, (List.forall_mem_cons.mpr ⟨⟨_, rfl, (gt_in (tch1 (List.mem_of_getElem? (i := 35) rfl)) rfl)⟩, (List.forall_mem_cons.mpr ⟨⟨_, rfl, (gt_in (tch1 (List.mem_of_getElem? (i := 67) rfl)) rfl)⟩, (List.forall_mem_cons.mpr ⟨⟨_, rfl, (gt_in (tch1 (List.mem_of_getElem? (i := 136) rfl)) rfl)⟩, (List.forall_mem_cons.mpr ⟨⟨_, rfl, (gt_in (tch1 (List.mem_of_getElem? (i := 138) rfl)) rfl)⟩, (List.forall_mem_cons.mpr ⟨⟨_, rfl, (gt_in (tch1 (List.mem_of_getElem? (i := 29) rfl)) rfl)⟩, (List.forall_mem_cons.mpr ⟨⟨_, rfl, (gt_in (tch1 (List.mem_of_getElem? (i := 130) rfl)) rfl)⟩, (List.forall_mem_cons.mpr ⟨⟨_, rfl, (gt_in (tch1 (List.mem_of_getElem? (i := 217) rfl)) rfl)⟩, (List.forall_mem_cons.mpr ⟨⟨_, rfl, (gt_in (tch1 (List.mem_of_getElem? (i := 237) rfl)) rfl)⟩, (List.forall_mem_cons.mpr ⟨⟨_, rfl, (gt_in (tch2 (List.mem_of_getElem? (i := 7) rfl)) rfl)⟩, (List.forall_mem_cons.mpr ⟨⟨_, rfl, (gt_in (tch2 (List.mem_of_getElem? (i := 20) rfl)) rfl)⟩, (List.forall_mem_cons.mpr ⟨⟨_, rfl, (gt_in (tch1 (List.mem_of_getElem? (i := 21) rfl)) rfl)⟩, (List.forall_mem_cons.mpr ⟨⟨_, rfl, (gt_in (tch4 (List.mem_of_getElem? (i := 115) rfl)) rfl)⟩, (fun _ h => absurd h List.not_mem_nil)⟩)⟩)⟩)⟩)⟩)⟩)⟩)⟩)⟩)⟩)⟩)⟩)⟩)
def aoT (kd : Nat) : String := if kd = 3 then RX7 else RX1
set_option maxRecDepth 20000 in
theorem anewW : ∀ e ∈ anewT, (e.2 = 3 ∨ e.2 = 4) ∧ Cond.classLink (clsN e.1.1) e.1.2 (aoT e.2) ∈ gt ∧ Cond.arrayOver (.object (aoT e.2)) ∈ tables_1 := (List.forall_mem_cons.mpr ⟨⟨by decide, (gt_in (tch1 (List.mem_of_getElem? (i := 223) rfl)) rfl), (tch1 (List.mem_of_getElem? (i := 224) rfl))⟩, (List.forall_mem_cons.mpr ⟨⟨by decide, (gt_in (tch1 (List.mem_of_getElem? (i := 136) rfl)) rfl), (tch1 (List.mem_of_getElem? (i := 137) rfl))⟩, (fun _ h => absurd h List.not_mem_nil)⟩)⟩)
set_option maxRecDepth 20000 in
theorem icW : ∀ e ∈ icT, Cond.constant (clsN e.1.1) e.1.2 e.2 ∈ gt := (List.forall_mem_cons.mpr ⟨(gt_in (tch3 (List.mem_of_getElem? (i := 67) rfl)) rfl), (List.forall_mem_cons.mpr ⟨(gt_in (tch3 (List.mem_of_getElem? (i := 68) rfl)) rfl), (List.forall_mem_cons.mpr ⟨(gt_in (tch5 (List.mem_of_getElem? (i := 104) rfl)) rfl), (List.forall_mem_cons.mpr ⟨(gt_in (tch5 (List.mem_of_getElem? (i := 105) rfl)) rfl), (List.forall_mem_cons.mpr ⟨(gt_in (tch5 (List.mem_of_getElem? (i := 190) rfl)) rfl), (List.forall_mem_cons.mpr ⟨(gt_in (tch5 (List.mem_of_getElem? (i := 191) rfl)) rfl), (List.forall_mem_cons.mpr ⟨(gt_in (tch3 (List.mem_of_getElem? (i := 164) rfl)) rfl), (List.forall_mem_cons.mpr ⟨(gt_in (tch3 (List.mem_of_getElem? (i := 165) rfl)) rfl), (List.forall_mem_cons.mpr ⟨(gt_in (tch3 (List.mem_of_getElem? (i := 166) rfl)) rfl), (fun _ h => absurd h List.not_mem_nil)⟩)⟩)⟩)⟩)⟩)⟩)⟩)⟩)⟩)
set_option maxRecDepth 20000 in
theorem lcW : ∀ e ∈ lcT, Cond.constantLong (clsN e.1.1) e.1.2 e.2 ∈ gt := (List.forall_mem_cons.mpr ⟨(gt_in (tch1 (List.mem_of_getElem? (i := 147) rfl)) rfl), (List.forall_mem_cons.mpr ⟨(gt_in (tch2 (List.mem_of_getElem? (i := 82) rfl)) rfl), (List.forall_mem_cons.mpr ⟨(gt_in (tch1 (List.mem_of_getElem? (i := 151) rfl)) rfl), (List.forall_mem_cons.mpr ⟨(gt_in (tch3 (List.mem_of_getElem? (i := 172) rfl)) rfl), (fun _ h => absurd h List.not_mem_nil)⟩)⟩)⟩)⟩)
def sTx (i : Nat) : String := ["lift", "to", "if", "swap", "turn", "times"].getD i ""
set_option maxRecDepth 20000 in
theorem slW : ∀ e ∈ slT, e.2 < 6 ∧ Cond.stringRef (clsN e.1.1) e.1.2 (sTx e.2) ∈ tables_1 := (List.forall_mem_cons.mpr ⟨⟨by decide, (tch2 (List.mem_of_getElem? (i := 139) rfl))⟩, (List.forall_mem_cons.mpr ⟨⟨by decide, (tch2 (List.mem_of_getElem? (i := 192) rfl))⟩, (List.forall_mem_cons.mpr ⟨⟨by decide, (tch2 (List.mem_of_getElem? (i := 193) rfl))⟩, (List.forall_mem_cons.mpr ⟨⟨by decide, (tch2 (List.mem_of_getElem? (i := 194) rfl))⟩, (List.forall_mem_cons.mpr ⟨⟨by decide, (tch2 (List.mem_of_getElem? (i := 195) rfl))⟩, (List.forall_mem_cons.mpr ⟨⟨by decide, (tch2 (List.mem_of_getElem? (i := 196) rfl))⟩, (List.forall_mem_cons.mpr ⟨⟨by decide, (tch5 (List.mem_of_getElem? (i := 29) rfl))⟩, (List.forall_mem_cons.mpr ⟨⟨by decide, (tch5 (List.mem_of_getElem? (i := 36) rfl))⟩, (List.forall_mem_cons.mpr ⟨⟨by decide, (tch5 (List.mem_of_getElem? (i := 37) rfl))⟩, (List.forall_mem_cons.mpr ⟨⟨by decide, (tch5 (List.mem_of_getElem? (i := 38) rfl))⟩, (List.forall_mem_cons.mpr ⟨⟨by decide, (tch5 (List.mem_of_getElem? (i := 39) rfl))⟩, (List.forall_mem_cons.mpr ⟨⟨by decide, (tch5 (List.mem_of_getElem? (i := 40) rfl))⟩, (fun _ h => absurd h List.not_mem_nil)⟩)⟩)⟩)⟩)⟩)⟩)⟩)⟩)⟩)⟩)⟩)⟩)
set_option maxRecDepth 20000 in
theorem w_max_s : Cond.static Lib.Math.max.name ∈ gt := (gt_in (tch3 (List.mem_of_getElem? (i := 94) rfl)) rfl)
set_option maxRecDepth 20000 in
theorem w_min_s : Cond.static Lib.Math.min.name ∈ gt := (gt_in (tch3 (List.mem_of_getElem? (i := 45) rfl)) rfl)
set_option maxRecDepth 20000 in
theorem w_math : Cond.initialized "java/lang/Math" ∈ gt := (gt_in (tch1 (List.mem_of_getElem? (i := 19) rfl)) rfl)
set_option maxRecDepth 20000 in
theorem w_max_c : Cond.code Lib.Math.max.name Lib.Math.max.code 2 (some .int) ∈ gt := (gt_in (tch3 (List.mem_of_getElem? (i := 95) rfl)) rfl)
set_option maxRecDepth 20000 in
theorem w_min_c : Cond.code Lib.Math.min.name Lib.Math.min.code 2 (some .int) ∈ gt := (gt_in (tch3 (List.mem_of_getElem? (i := 46) rfl)) rfl)
set_option maxRecDepth 20000 in
theorem w_oi_i : Cond.instanceMethod objectInit ∈ gt := (gt_in (tch1 (List.mem_of_getElem? (i := 27) rfl)) rfl)
set_option maxRecDepth 20000 in
theorem w_oi_c : Cond.code objectInit ⟨#[0xb1]⟩ 1 none ∈ gt := (gt_in (tch1 (List.mem_of_getElem? (i := 28) rfl)) rfl)
set_option maxRecDepth 20000 in
theorem w_cp_n : Cond.native arraycopyName ∈ gt := (gt_in (tch3 (List.mem_of_getElem? (i := 26) rfl)) rfl)
set_option maxRecDepth 20000 in
theorem w_cp_s : Cond.static arraycopyName ∈ gt := (gt_in (tch3 (List.mem_of_getElem? (i := 25) rfl)) rfl)
set_option maxRecDepth 20000 in
theorem w_sys : Cond.initialized "java/lang/System" ∈ gt := (gt_in (tch1 (List.mem_of_getElem? (i := 18) rfl)) rfl)
set_option maxRecDepth 20000 in
theorem w_int : Cond.arrayClass .int ∈ gt := (gt_in (tch1 (List.mem_of_getElem? (i := 65) rfl)) rfl)
set_option maxRecDepth 20000 in
theorem w_byte : Cond.arrayClass .byte ∈ gt := (gt_in (tch1 (List.mem_of_getElem? (i := 66) rfl)) rfl)
end
section
-- THE SMALL MACHINE BESIDE THE REAL ONE: what corresponds to what
def rv (adr : Nat → Nat) (v : Value) : Value := match v with
  | .ref a => .ref (adr a)
  | v => v
theorem rv_cat (adr : Nat → Nat) (v : Value) : (rv adr v).category = v.category := by cases v <;> rfl
def vok (h : Hp) (v : Value) : Prop := match v with
  | .ref a => a < nxt h ∨ (1000000 ≤ a ∧ a < 1000006)
  | _ => True
def LR (adr : Nat → Nat) (L : List Value) (ls : Array Slot) (nL : Nat) : Prop := ls.size = nL ∧ L.length = nL ∧ lv_wf ls ∧ ∀ (i : Nat) (v : Value), L[i]? = some v → v ≠ un → ls[i]? = some (.val (rv adr v))
def fvals (adr : Nat → Nat) (h : Hp) (a c : Nat) : List Value := (List.range (csize c)).map (fun k => rv adr (fval h a (fkind c k).1 k))
def Ecell (adr : Nat → Nat) (cA : Nat → ClassId) (h : Hp) (a : Nat) : va_E :=
  if (shp h a).1 < 10 then .inl (cA a, (shp h a).2, if (shp h a).1 ≤ 2 then .inl (h.1 a) else .inr (.inr (.inr (.inr (fun j => (h.2.2.1 a j).map adr)))))
  else .inr ((shp h a).1 - 10, fvals adr h a ((shp h a).1 - 10))
def wsO (adr : Nat → Nat) (cA : Nat → ClassId) (h : Hp) : va_W := (List.range (nxt h - 1)).map (fun k => (adr (k + 1), Ecell adr cA h (k + 1)))
def kty (k : Nat) : FieldType := if k = 1 then .int else if k = 2 then .byte else .object (aoT k)
def tot (h : Hp) : Nat := (h.2.2.2.map fun q => q.2).sum
/-- what is so of the small heap by itself -/
def HR (h : Hp) : Prop := (∀ a k b, h.2.2.1 a k = some b → b < nxt h) ∧ 0 < nxt h ∧ nxt h ≤ 900000 ∧ ∀ a, 0 < a → a < nxt h → (shp h a).1 ≠ 0
def sLen (i : Nat) : Nat := (strT.getD i []).length
/-- what the tables say, and what lies there from the start -/
def Tb (D : va_G) (A : Nat → Prop) (b N0 : Nat) (xs : Nat → Int32) (aK aV : Nat → Nat) (U : State) : Prop :=
  va_K D vwCl [] U ∧ (∀ e ∈ mlT, e.2.1 = 3 → va_Nw (.methodLinkNest (clsN e.1.1) e.1.2 e.2.2.2.2.2.2.1 "RoundStool") U) ∧ (∀ kd, kd = 3 ∨ kd = 4 → va_AO (aoT kd) U) ∧ (∀ e ∈ slT, vk_R (clsN e.1.1) e.1.2 (sTx e.2) (aK e.2) U) ∧ va_X b N0 xs U U.heap ∧ b < U.heap.size ∧ ¬ A b ∧ (∀ q, U.heap.size ≤ q → A q) ∧ vk_S 6 (strT.map List.length) strT aK aV A U U.heap ∧ va_Z "java/lang/String" "COMPACT_STRINGS" "Z" (.int 1) A U U.heap ∧ va_Zq "jdk/internal/util/Preconditions" "SIOOBE_FORMATTER" "Ljava/util/function/BiFunction;" A U U.heap
def Cx (p : Program) (s : State) (m : MethodId) (args : Array Value) (meth : Method) (c : Code) (y : Mth) : Prop :=
  p.tables.exec = Jvm.exec ∧ c.code = y.2.2.2.1 ∧ c.maxLocals = y.2.2.2.2.1 ∧ s.vm.findClass (clsN y.1) = some m.cls ∧ (∀ w ∈ gt, w.before args s = true) ∧ meth.sig.returnType = y.2.2.2.2.2 ∧ (y.2.1 = true → meth.name = "<init>") ∧ meth.locks = false
def Rel (D : va_G) (A : Nat → Prop) (b N0 : Nat) (xs : Nat → Int32) (aK : Nat → Nat) (s : State) (adr : Nat → Nat) (cA : Nat → ClassId) (H : Heap) (locs : List Loc) (h : Hp) : Prop :=
  va_P D vwCl (wsO adr cA h) H ∧ va_D A (wsO adr cA h) ∧ va_S A s.heap H locs ∧ (∀ a, 0 < a → a < nxt h → 1 ≤ (shp h a).1 → (shp h a).1 ≤ 4 → ArrOfT s (cA a) (kty (shp h a).1) ∧ va_RA s (cA a) (kty (shp h a).1)) ∧ adr 0 = b ∧ (∀ i, i < 6 → adr (1000000 + i) = aK i) ∧ shp h 0 = (0, N0) ∧ (∀ j, j < N0 → h.1 0 j = xs j) ∧ HR h
theorem wsO_len (adr : Nat → Nat) (cA : Nat → ClassId) (h : Hp) : (wsO adr cA h).length = nxt h - 1 := by simp [wsO]
theorem wsO_at {adr : Nat → Nat} {cA : Nat → ClassId} {h : Hp} {a : Nat} (h0 : 0 < a) (h1 : a < nxt h) : (wsO adr cA h)[a - 1]? = some (adr a, Ecell adr cA h a) := by
  unfold wsO
  rw [List.getElem?_map, List.getElem?_range (by omega)]
  simp only [Option.map_some]
  rw [show a - 1 + 1 = a by omega]
theorem shp_out {h : Hp} {a : Nat} (h1 : nxt h ≤ a) : shp h a = (99, 0) := by
  unfold shp nxt at *
  rw [List.getD_eq_getElem?_getD, List.getElem?_eq_none h1]
  rfl
theorem shp_lt {h : Hp} {a : Nat} (h1 : (shp h a).1 < 99) : a < nxt h := by
  rcases Nat.lt_or_ge a (nxt h) with q | q
  · exact q
  · rw [shp_out q] at h1
    exact absurd h1 (by decide)
theorem Ecell_arr {adr : Nat → Nat} {cA : Nat → ClassId} {h : Hp} {a : Nat} (hk : (shp h a).1 ≤ 2) : Ecell adr cA h a = .inl (cA a, (shp h a).2, .inl (h.1 a)) := by
  unfold Ecell
  rw [if_pos (by omega), if_pos hk]
theorem Ecell_ref {adr : Nat → Nat} {cA : Nat → ClassId} {h : Hp} {a : Nat} (hk : (shp h a).1 = 3 ∨ (shp h a).1 = 4) : Ecell adr cA h a = .inl (cA a, (shp h a).2, .inr (.inr (.inr (.inr (fun j => (h.2.2.1 a j).map adr))))) := by
  unfold Ecell
  rw [if_pos (by omega), if_neg (by omega)]
theorem Ecell_obj {adr : Nat → Nat} {cA : Nat → ClassId} {h : Hp} {a c : Nat} (hk : (shp h a).1 = 10 + c) : Ecell adr cA h a = .inr (c, fvals adr h a c) := by
  unfold Ecell
  rw [if_neg (by omega), hk, show 10 + c - 10 = c by omega]
/-- two heaps of one shape that differ at one place alone -/
theorem wsO_set {adr : Nat → Nat} {cA : Nat → ClassId} {h h1 : Hp} {a : Nat} {e : va_E} (h0 : 0 < a) (ha : a < nxt h) (hn : nxt h1 = nxt h) (he : Ecell adr cA h1 a = e) (ho : ∀ x, x ≠ a → Ecell adr cA h1 x = Ecell adr cA h x) : (wsO adr cA h).set (a - 1) (adr a, e) = wsO adr cA h1 := by
  apply List.ext_getElem?
  intro k
  rw [List.getElem?_set]
  by_cases hk : a - 1 = k
  · subst hk
    rw [if_pos rfl, if_pos (by rw [wsO_len]; omega), wsO_at h0 (by omega), he]
  · rw [if_neg hk]
    rcases Nat.lt_or_ge k (nxt h - 1) with q | q
    · have e1 := wsO_at (adr := adr) (cA := cA) (h := h) (a := k + 1) (by omega) (by omega)
      have e2 := wsO_at (adr := adr) (cA := cA) (h := h1) (a := k + 1) (by omega) (by omega)
      rw [show k + 1 - 1 = k by omega] at e1 e2
      rw [e1, e2, ho (k + 1) (by omega)]
    · rw [List.getElem?_eq_none (by rw [wsO_len]; omega), List.getElem?_eq_none (by rw [wsO_len]; omega)]
theorem fval_ext {adr adr' : Nat → Nat} {h : Hp} (hR : HR h) (ha : ∀ a, a < nxt h → adr' a = adr a) (a t k : Nat) : rv adr' (fval h a t k) = rv adr (fval h a t k) := by
  unfold fval
  split
  · rfl
  · split
    · unfold vr gR
      cases hb : h.2.2.1 a k with
      | none => rfl
      | some b => show Value.ref (adr' b) = Value.ref (adr b); rw [ha b (hR.1 a k b hb)]
    · rfl
theorem Ecell_ext {adr adr' : Nat → Nat} {cA cA' : Nat → ClassId} {h : Hp} (hR : HR h) (ha : ∀ a, a < nxt h → adr' a = adr a) {a : Nat} (hc : cA' a = cA a) : Ecell adr' cA' h a = Ecell adr cA h a := by
  unfold Ecell
  rw [hc]
  have e1 : (fun j => (h.2.2.1 a j).map adr') = (fun j => (h.2.2.1 a j).map adr) := by
    funext j
    cases hb : h.2.2.1 a j with
    | none => rfl
    | some b => show some (adr' b) = some (adr b); rw [ha b (hR.1 a j b hb)]
  rw [e1]
  have e2 : ∀ c, fvals adr' h a c = fvals adr h a c := by
    intro c
    unfold fvals
    apply List.map_congr_left
    intro k _
    exact fval_ext hR ha a _ k
  rw [e2]
theorem wsO_ext {adr adr' : Nat → Nat} {cA cA' : Nat → ClassId} {h : Hp} (hR : HR h) (ha : ∀ a, a < nxt h → adr' a = adr a) (hc : ∀ a, a < nxt h → cA' a = cA a) : wsO adr' cA' h = wsO adr cA h := by
  unfold wsO
  apply List.map_congr_left
  intro k hk
  have hk := List.mem_range.mp hk
  rw [ha (k + 1) (by omega), Ecell_ext hR ha (hc (k + 1) (by omega))]
theorem nxt_new (h : Hp) (kd n : Nat) : nxt (newO h kd n) = nxt h + 1 := by simp [nxt, newO]
theorem shp_new_old {h : Hp} {kd n a : Nat} (ha : a < nxt h) : shp (newO h kd n) a = shp h a := by
  unfold shp newO
  simp only []
  rw [List.getD_eq_getElem?_getD, List.getD_eq_getElem?_getD, List.getElem?_append_left ha]
theorem shp_new (h : Hp) (kd n : Nat) : shp (newO h kd n) (nxt h) = (kd, n) := by
  unfold shp newO nxt
  simp
theorem tot_new (h : Hp) (kd n : Nat) : tot (newO h kd n) = tot h + n := by simp [tot, newO]
theorem fval_new_old {h : Hp} {kd n a : Nat} (ha : a < nxt h) (t k : Nat) : fval (newO h kd n) a t k = fval h a t k := by
  unfold fval gI gJ gR newO
  simp only [if_neg (Nat.ne_of_lt ha)]
theorem Ecell_new_old {adr : Nat → Nat} {cA : Nat → ClassId} {h : Hp} {kd n a : Nat} (ha : a < nxt h) : Ecell adr cA (newO h kd n) a = Ecell adr cA h a := by
  unfold Ecell
  rw [shp_new_old ha]
  have e1 : (newO h kd n).1 a = h.1 a := by funext j; simp [newO, Nat.ne_of_lt ha]
  have e2 : (newO h kd n).2.2.1 a = h.2.2.1 a := by funext j; simp [newO, Nat.ne_of_lt ha]
  have e3 : ∀ c, fvals adr (newO h kd n) a c = fvals adr h a c := by
    intro c
    unfold fvals
    apply List.map_congr_left
    intro k _
    rw [fval_new_old ha]
  rw [e1, e2, e3]
/-- a new cell at the end -/
theorem wsO_new {adr : Nat → Nat} {cA : Nat → ClassId} {h : Hp} (hR : HR h) (kd n q : Nat) (cq : ClassId) (e : va_E) (he : Ecell (va_up adr (nxt h) q) (va_up cA (nxt h) cq) (newO h kd n) (nxt h) = e) : wsO adr cA h ++ [(q, e)] = wsO (va_up adr (nxt h) q) (va_up cA (nxt h) cq) (newO h kd n) := by
  have h0 : 0 < nxt h := hR.2.1
  have ad : ∀ a, a < nxt h → va_up adr (nxt h) q a = adr a := fun a ha => by simp [va_up, Nat.ne_of_lt ha]
  have ac : ∀ a, a < nxt h → va_up cA (nxt h) cq a = cA a := fun a ha => by simp [va_up, Nat.ne_of_lt ha]
  rw [← wsO_ext hR ad ac]
  unfold wsO
  rw [nxt_new, show nxt h + 1 - 1 = nxt h - 1 + 1 by omega, List.range_succ, List.map_append]
  congr 1
  · apply List.map_congr_left
    intro k hk
    have hk := List.mem_range.mp hk
    rw [Ecell_new_old (by omega)]
  · simp only [List.map_cons, List.map_nil]
    rw [show nxt h - 1 + 1 = nxt h by omega, he]
    simp [va_up]
end
section
-- loads, stores, constants, arithmetic: the small machine's step is the real one's
def lvOf (adr : Nat → Nat) (L : List Value) : List (Nat × Value) := (List.range L.length).filterMap (fun i => match L[i]? with
  | some v => if v = un then none else some (i, rv adr v)
  | none => none)
theorem lvOf_mem {adr : Nat → Nat} {L : List Value} {q : Nat × Value} : q ∈ lvOf adr L ↔ ∃ v, L[q.1]? = some v ∧ v ≠ un ∧ q.2 = rv adr v := by
  unfold lvOf
  rw [List.mem_filterMap]
  constructor
  · rintro ⟨i, hi, hq⟩
    cases hv : L[i]? with
    | none => rw [hv] at hq; cases hq
    | some v =>
      rw [hv] at hq
      dsimp only at hq
      split at hq
      · cases hq
      · rename_i hne
        cases hq
        exact ⟨v, hv, hne, rfl⟩
  · rintro ⟨v, hv, hne, hq⟩
    refine ⟨q.1, List.mem_range.mpr (List.getElem?_eq_some_iff.mp hv).1, ?_⟩
    rw [hv]
    dsimp only
    rw [if_neg hne, ← hq]
theorem LR_has {adr : Nat → Nat} {L : List Value} {ls : Array Slot} {nL : Nat} (h : LR adr L ls nL) : lv_has ls nL (lvOf adr L) := by
  refine ⟨h.1, h.2.2.1, fun q hq => ?_⟩
  obtain ⟨v, h1, h2, h3⟩ := lvOf_mem.mp hq
  rw [h3]
  exact h.2.2.2 _ _ h1 h2
theorem stL_len (L : List Value) : ∀ (i : Nat) (v : Value), (stL L i v).length = L.length := by
  induction L with
  | nil => intro i v; simp [stL]
  | cons a L ih =>
    intro i v
    cases i with
    | zero => simp [stL]
    | succ i => simp [stL, ih]
theorem stL_get (L : List Value) : ∀ (i j : Nat) (v : Value), (stL L i v)[j]? = if j = i then (if i < L.length then some v else none) else (L[j]?).map (fun a => if j + 1 = i ∧ a.category = 2 then un else a) := by
  induction L with
  | nil => intro i j v; simp [stL]
  | cons a L ih =>
    intro i j v
    cases i with
    | zero =>
      cases j with
      | zero => simp [stL]
      | succ j =>
        simp only [stL, List.getElem?_cons_succ]
        rw [if_neg (by omega)]
        cases L[j]? with
        | none => rfl
        | some a => simp
    | succ i =>
      cases j with
      | zero =>
        simp only [stL, List.getElem?_cons_zero]
        rw [if_neg (show ¬ (0 = i + 1) by omega)]
        simp only [Option.map_some]
        by_cases hi : i = 0
        · subst hi; simp
        · have e1 : ¬ (0 + 1 = i + 1 ∧ a.category = 2) := fun q => hi (by omega)
          have e2 : ¬ (i = 0 ∧ a.category = 2) := fun q => hi q.1
          rw [if_neg e1, if_neg e2]
      | succ j =>
        simp only [stL, List.getElem?_cons_succ]
        rw [ih]
        simp only [List.length_cons, Nat.add_lt_add_iff_right, Nat.add_right_cancel_iff]
theorem LR_st {adr : Nat → Nat} {L : List Value} {ls ls' : Array Slot} {nL i : Nat} {v : Value} (h : LR adr L ls nL) (hi : i < nL) (h' : lv_has ls' nL ((i, rv adr v) :: (lvOf adr L).filter (fun q => !(q.1 == i) && !(q.1 + 1 == i && q.2.category == 2)))) : LR adr (stL L i v) ls' nL := by
  refine ⟨h'.1, by rw [stL_len]; exact h.2.1, h'.2.1, fun j w hj hw => ?_⟩
  rw [stL_get] at hj
  by_cases hji : j = i
  · subst hji
    rw [if_pos rfl, if_pos (by rw [h.2.1]; exact hi)] at hj
    cases hj
    exact h'.2.2 (j, rv adr v) List.mem_cons_self
  · rw [if_neg hji] at hj
    cases ha : L[j]? with
    | none => rw [ha] at hj; cases hj
    | some a =>
      rw [ha] at hj
      simp only [Option.map_some, Option.some.injEq] at hj
      by_cases hc : j + 1 = i ∧ a.category = 2
      · rw [if_pos hc] at hj
        exact absurd hj.symm hw
      · rw [if_neg hc] at hj
        subst hj
        refine h'.2.2 (j, rv adr a) (List.mem_cons_of_mem _ (List.mem_filter.mpr ⟨lvOf_mem.mpr ⟨a, ha, hw, rfl⟩, ?_⟩))
        simp only [rv_cat]
        simp [hji]
        rcases Classical.em (j + 1 = i) with q | q
        · exact Or.inr (fun z => hc ⟨q, z⟩)
        · exact Or.inl q
theorem LR_st2 {adr : Nat → Nat} {L : List Value} {ls ls' : Array Slot} {nL i : Nat} {v : Value} (h : LR adr L ls nL) (hi : i + 1 < nL) (h' : lv_has ls' nL ((i, rv adr v) :: (lvOf adr L).filter (fun q => !(q.1 == i) && (!(q.1 == i + 1) && !(q.1 + 1 == i && q.2.category == 2))))) : LR adr (stL2 L i v) ls' nL := by
  refine ⟨h'.1, by unfold stL2; rw [stL_len, stL_len]; exact h.2.1, h'.2.1, fun j w hj hw => ?_⟩
  unfold stL2 at hj
  rw [stL_get, stL_len, stL_get] at hj
  by_cases hji : j = i
  · subst hji
    rw [if_pos rfl, if_pos (by rw [h.2.1]; omega)] at hj
    cases hj
    exact h'.2.2 (j, rv adr v) List.mem_cons_self
  · rw [if_neg hji] at hj
    by_cases hj1 : j = i + 1
    · subst hj1
      rw [if_pos rfl, if_pos (by rw [h.2.1]; exact hi)] at hj
      simp only [Option.map_some, Option.some.injEq] at hj
      rw [if_neg (by omega)] at hj
      exact absurd hj.symm hw
    · rw [if_neg hj1] at hj
      cases ha : L[j]? with
      | none => rw [ha] at hj; cases hj
      | some a =>
        rw [ha] at hj
        simp only [Option.map_some, Option.some.injEq] at hj
        rw [if_neg (show ¬ (j + 1 = i + 1 ∧ a.category = 2) by omega)] at hj
        by_cases hc : j + 1 = i ∧ a.category = 2
        · rw [if_pos hc] at hj
          exact absurd hj.symm hw
        · rw [if_neg hc] at hj
          subst hj
          refine h'.2.2 (j, rv adr a) (List.mem_cons_of_mem _ (List.mem_filter.mpr ⟨lvOf_mem.mpr ⟨a, ha, hw, rfl⟩, ?_⟩))
          simp only [rv_cat]
          simp [hji, hj1]
          rcases Classical.em (j + 1 = i) with q | q
          · exact Or.inr (fun z => hc ⟨q, z⟩)
          · exact Or.inl q
theorem LR_at {adr : Nat → Nat} {L : List Value} {ls : Array Slot} {nL i : Nat} {v : Value} (h : LR adr L ls nL) (hv : ldL L i = v) (hn : v ≠ un) : ls[i]? = some (.val (rv adr v)) := by
  unfold ldL at hv
  rw [List.getD_eq_getElem?_getD] at hv
  cases ha : L[i]? with
  | none => rw [ha] at hv; exact absurd hv.symm hn
  | some a =>
    rw [ha] at hv
    simp only [Option.getD_some] at hv
    subst hv
    exact h.2.2.2 i a ha hn
theorem stL_mem {L : List Value} : ∀ {i : Nat} {v w : Value}, w ∈ stL L i v → w ∈ L ∨ w = v ∨ w = un := by
  induction L with
  | nil => intro i v w hw; simp [stL] at hw
  | cons a L ih =>
    intro i v w hw
    cases i with
    | zero =>
      simp only [stL, List.mem_cons] at hw ⊢
      rcases hw with h | h
      · exact Or.inr (Or.inl h)
      · exact Or.inl (Or.inr h)
    | succ i =>
      simp only [stL, List.mem_cons] at hw ⊢
      rcases hw with h | h
      · split at h
        · exact Or.inr (Or.inr h)
        · exact Or.inl (Or.inl h)
      · rcases ih h with h | h | h
        · exact Or.inl (Or.inr h)
        · exact Or.inr (Or.inl h)
        · exact Or.inr (Or.inr h)
theorem ldL_mem {L : List Value} {i : Nat} {v : Value} (hv : ldL L i = v) : v ∈ L ∨ v = un := by
  unfold ldL at hv
  rw [List.getD_eq_getElem?_getD] at hv
  cases ha : L[i]? with
  | none => rw [ha] at hv; exact Or.inr hv.symm
  | some a =>
    rw [ha] at hv
    simp only [Option.getD_some] at hv
    subst hv
    exact Or.inl (List.mem_of_getElem? ha)
def VK (h : Hp) (L : List Value) : Prop := ∀ v ∈ L, vok h v
section SimLd
variable {p : Program} {l : Launch} {e : Env} {R : Room} {s : State} {m : MethodId} {args : Array Value} {below : List Frame} {meth : Method} {c : Code} {Q : State → Prop} {y : Mth} {pc len : Nat} {i : Instr} {L S L' S' : List Value} {h h1 : Hp} {H : Heap} {locs : List Loc} {cells slots : Nat} {ls : Array Slot} {adr : Nat → Nat}
theorem ld_sim (C : Cx p s m args meth c y) (hd : decode y.2.2.2.1 pc = .ok (i, len)) (hl : ilen i = 0 ∨ len = ilen i) (ha : actLd i L S h = some (.inl (L', S', h1))) (hL : LR adr L ls y.2.2.2.2.1) (hV : VK h L) (hVS : VK h S) : h1 = h ∧ VK h L' ∧ VK h S' ∧ ((∀ ls', LR adr L' ls' y.2.2.2.2.1 → W p l e R s m args below meth c H locs cells slots Q (F0 m (pc + len) ls' (S'.map (rv adr)))) → W p l e R s m args below meth c H locs cells slots Q (F0 m pc ls (S.map (rv adr)))) := by
  obtain ⟨hx, hb, hml, -⟩ := C
  have uv : vok h un := trivial
  unfold actLd at ha
  split at ha
  · have hl := hl.resolve_left (Nat.succ_ne_zero _); subst hl
    split at ha
    · rename_i k0 x hx0
      cases ha
      exact ⟨rfl, hV, List.forall_mem_cons.mpr ⟨trivial, hVS⟩, fun k => lv_iload hx hb hd (LR_at hL hx0 (by simp)) (k ls hL)⟩
    · cases ha
  · have hl := hl.resolve_left (Nat.succ_ne_zero _); subst hl
    split at ha
    · rename_i k0 x hx0
      cases ha
      exact ⟨rfl, hV, List.forall_mem_cons.mpr ⟨trivial, hVS⟩, fun k => lv_iload_n hx hb hd rfl (LR_at hL hx0 (by simp)) (k ls hL)⟩
    · cases ha
  · have hl := hl.resolve_left (Nat.succ_ne_zero _); subst hl
    split at ha
    · rename_i k0 x hx0
      cases ha
      exact ⟨rfl, hV, List.forall_mem_cons.mpr ⟨trivial, hVS⟩, fun k => lv_lload hx hb hd (LR_at hL hx0 (by simp)) (k ls hL)⟩
    · cases ha
  · have hl := hl.resolve_left (Nat.succ_ne_zero _); subst hl
    split at ha
    · rename_i k0 x hx0
      cases ha
      exact ⟨rfl, hV, List.forall_mem_cons.mpr ⟨trivial, hVS⟩, fun k => lv_lload_n hx hb hd rfl (LR_at hL hx0 (by simp)) (k ls hL)⟩
    · cases ha
  · have hl := hl.resolve_left (Nat.succ_ne_zero _); subst hl
    split at ha
    · rename_i k0 x hx0
      cases ha
      exact ⟨rfl, hV, List.forall_mem_cons.mpr ⟨(ldL_mem hx0).elim (fun q => hV _ q) (fun q => by cases q), hVS⟩, fun k => lv_aload hx hb hd (LR_at hL hx0 (by simp)) (k ls hL)⟩
    · cases ha
  · have hl := hl.resolve_left (Nat.succ_ne_zero _); subst hl
    split at ha
    · rename_i k0 x hx0
      cases ha
      exact ⟨rfl, hV, List.forall_mem_cons.mpr ⟨(ldL_mem hx0).elim (fun q => hV _ q) (fun q => by cases q), hVS⟩, fun k => lv_aload_n hx hb hd rfl (LR_at hL hx0 (by simp)) (k ls hL)⟩
    · cases ha
  · have hl := hl.resolve_left (Nat.succ_ne_zero _); subst hl
    split at ha
    · split at ha
      · rename_i x S0 hk
        cases ha
        rw [hL.2.1] at hk
        exact ⟨rfl, fun w hw => (stL_mem hw).elim (hV w) (fun q => q.elim (fun q => by rw [q]; trivial) (fun q => by rw [q]; trivial)), (List.forall_mem_cons.mp hVS).2, fun k => lv_istore hx hb hd (LR_has hL) hk rfl (fun ls' h' => k ls' (LR_st hL hk h'))⟩
      · cases ha
    · cases ha
  · have hl := hl.resolve_left (Nat.succ_ne_zero _); subst hl
    split at ha
    · split at ha
      · rename_i x S0 hk
        cases ha
        rw [hL.2.1] at hk
        exact ⟨rfl, fun w hw => (stL_mem hw).elim (hV w) (fun q => q.elim (fun q => by rw [q]; trivial) (fun q => by rw [q]; trivial)), (List.forall_mem_cons.mp hVS).2, fun k => lv_istore_n hx hb hd rfl (LR_has hL) hk rfl (fun ls' h' => k ls' (LR_st hL hk h'))⟩
      · cases ha
    · cases ha
  · have hl := hl.resolve_left (Nat.succ_ne_zero _); subst hl
    split at ha
    · split at ha
      · rename_i x S0 hk
        cases ha
        rw [hL.2.1] at hk
        exact ⟨rfl, fun w hw => (stL_mem hw).elim (fun q => (stL_mem q).elim (hV w) (fun q => q.elim (fun q => by rw [q]; trivial) (fun q => by rw [q]; trivial))) (fun q => q.elim (fun q => by rw [q]; trivial) (fun q => by rw [q]; trivial)), (List.forall_mem_cons.mp hVS).2, fun k => lv_lstore hx hb hd (LR_has hL) hk rfl (fun ls' h' => k ls' (LR_st2 hL hk h'))⟩
      · cases ha
    · cases ha
  · have hl := hl.resolve_left (Nat.succ_ne_zero _); subst hl
    split at ha
    · split at ha
      · rename_i x S0 hk
        cases ha
        rw [hL.2.1] at hk
        exact ⟨rfl, fun w hw => (stL_mem hw).elim (fun q => (stL_mem q).elim (hV w) (fun q => q.elim (fun q => by rw [q]; trivial) (fun q => by rw [q]; trivial))) (fun q => q.elim (fun q => by rw [q]; trivial) (fun q => by rw [q]; trivial)), (List.forall_mem_cons.mp hVS).2, fun k => lv_lstore_n hx hb hd rfl (LR_has hL) hk rfl (fun ls' h' => k ls' (LR_st2 hL hk h'))⟩
      · cases ha
    · cases ha
  · have hl := hl.resolve_left (Nat.succ_ne_zero _); subst hl
    split at ha
    · split at ha
      · rename_i x S0 hk
        cases ha
        rw [hL.2.1] at hk
        exact ⟨rfl, fun w hw => (stL_mem hw).elim (hV w) (fun q => q.elim (fun q => by rw [q]; exact (List.forall_mem_cons.mp hVS).1) (fun q => by rw [q]; trivial)), (List.forall_mem_cons.mp hVS).2, fun k => lv_astore hx hb hd (LR_has hL) hk rfl (fun ls' h' => k ls' (LR_st hL hk h'))⟩
      · cases ha
    · cases ha
  · have hl := hl.resolve_left (Nat.succ_ne_zero _); subst hl
    split at ha
    · split at ha
      · rename_i x S0 hk
        cases ha
        rw [hL.2.1] at hk
        exact ⟨rfl, fun w hw => (stL_mem hw).elim (hV w) (fun q => q.elim (fun q => by rw [q]; exact (List.forall_mem_cons.mp hVS).1) (fun q => by rw [q]; trivial)), (List.forall_mem_cons.mp hVS).2, fun k => lv_astore_n hx hb hd rfl (LR_has hL) hk rfl (fun ls' h' => k ls' (LR_st hL hk h'))⟩
      · cases ha
    · cases ha
  · have hl := hl.resolve_left (Nat.succ_ne_zero _); subst hl
    split at ha
    · split at ha
      · rename_i k0 n0 v0 x hx0 hk
        cases ha
        rw [hL.2.1] at hk
        have hm : (k0, Value.int x) ∈ lvOf adr L := lvOf_mem.mpr ⟨.int x, by
          have := hx0
          unfold ldL at this
          rw [List.getD_eq_getElem?_getD] at this
          cases hz : L[k0]? with
          | none => rw [hz] at this; cases this
          | some a => rw [hz] at this; simp only [Option.getD_some] at this; rw [this], by simp, rfl⟩
        obtain ⟨kk, hkk⟩ := List.getElem?_of_mem hm
        exact ⟨rfl, fun w hw => (stL_mem hw).elim (hV w) (fun q => q.elim (fun q => by rw [q]; trivial) (fun q => by rw [q]; trivial)), hVS, fun k => lv_iinc hx hb hd (LR_has hL) hkk rfl hk rfl (fun ls' h' => k ls' (LR_st hL hk h'))⟩
      · cases ha
    · cases ha
  · cases ha
theorem op_sim (C : Cx p s m args meth c y) (hd : decode y.2.2.2.1 pc = .ok (i, len)) (hl : ilen i = 0 ∨ len = ilen i) (ha : actOp i L S h = some (.inl (L', S', h1))) (hVS : VK h S) : h1 = h ∧ L' = L ∧ VK h S' ∧ (W p l e R s m args below meth c H locs cells slots Q (F0 m (pc + len) ls (S'.map (rv adr))) → W p l e R s m args below meth c H locs cells slots Q (F0 m pc ls (S.map (rv adr)))) := by
  obtain ⟨hx, hb, hml, -⟩ := C
  have c1 : ∀ {a : Value} {S : List Value}, VK h (a :: S) → VK h S := fun q => (List.forall_mem_cons.mp q).2
  have c2 : ∀ {a b : Value} {S : List Value}, VK h (a :: b :: S) → VK h S := fun q => c1 (c1 q)
  have ci : ∀ {x : Int32} {S : List Value}, VK h S → VK h (.int x :: S) := fun q => List.forall_mem_cons.mpr ⟨trivial, q⟩
  have cj : ∀ {x : Int64} {S : List Value}, VK h S → VK h (.long x :: S) := fun q => List.forall_mem_cons.mpr ⟨trivial, q⟩
  unfold actOp at ha
  split at ha
  · have hl := hl.resolve_left (Nat.succ_ne_zero _); subst hl; cases ha; exact ⟨rfl, rfl, ci (c2 hVS), fun k => lv_iadd hx hb hd k⟩
  · have hl := hl.resolve_left (Nat.succ_ne_zero _); subst hl; cases ha; exact ⟨rfl, rfl, ci (c2 hVS), fun k => lv_isub hx hb hd k⟩
  · have hl := hl.resolve_left (Nat.succ_ne_zero _); subst hl; cases ha; exact ⟨rfl, rfl, ci (c2 hVS), fun k => lv_imul hx hb hd k⟩
  · have hl := hl.resolve_left (Nat.succ_ne_zero _); subst hl; cases ha; exact ⟨rfl, rfl, ci (c2 hVS), fun k => lv_iand hx hb hd k⟩
  · have hl := hl.resolve_left (Nat.succ_ne_zero _); subst hl; cases ha; exact ⟨rfl, rfl, ci (c2 hVS), fun k => lv_ior hx hb hd k⟩
  · have hl := hl.resolve_left (Nat.succ_ne_zero _); subst hl; cases ha; exact ⟨rfl, rfl, ci (c2 hVS), fun k => lv_ixor hx hb hd k⟩
  · have hl := hl.resolve_left (Nat.succ_ne_zero _); subst hl; cases ha; exact ⟨rfl, rfl, ci (c2 hVS), fun k => lv_ishl hx hb hd k⟩
  · have hl := hl.resolve_left (Nat.succ_ne_zero _); subst hl; cases ha; exact ⟨rfl, rfl, ci (c2 hVS), fun k => lv_ishr hx hb hd k⟩
  · have hl := hl.resolve_left (Nat.succ_ne_zero _); subst hl; cases ha; exact ⟨rfl, rfl, ci (c2 hVS), fun k => lv_iushr hx hb hd rfl k⟩
  · have hl := hl.resolve_left (Nat.succ_ne_zero _); subst hl; split at ha
    · cases ha
    · rename_i hne; cases ha; exact ⟨rfl, rfl, ci (c2 hVS), fun k => lv_idiv hx hb hd hne k⟩
  · have hl := hl.resolve_left (Nat.succ_ne_zero _); subst hl; split at ha
    · cases ha
    · rename_i hne; cases ha; exact ⟨rfl, rfl, ci (c2 hVS), fun k => lv_irem hx hb hd hne k⟩
  · have hl := hl.resolve_left (Nat.succ_ne_zero _); subst hl; cases ha; exact ⟨rfl, rfl, cj (c2 hVS), fun k => lv_lsub hx hb hd k⟩
  · have hl := hl.resolve_left (Nat.succ_ne_zero _); subst hl; cases ha; exact ⟨rfl, rfl, cj (c2 hVS), fun k => lv_land hx hb hd k⟩
  · have hl := hl.resolve_left (Nat.succ_ne_zero _); subst hl; cases ha; exact ⟨rfl, rfl, cj (c2 hVS), fun k => lv_lor hx hb hd k⟩
  · have hl := hl.resolve_left (Nat.succ_ne_zero _); subst hl; cases ha; exact ⟨rfl, rfl, cj (c2 hVS), fun k => lv_lxor hx hb hd k⟩
  · have hl := hl.resolve_left (Nat.succ_ne_zero _); subst hl; cases ha; exact ⟨rfl, rfl, cj (c2 hVS), fun k => lv_lshl hx hb hd rfl k⟩
  · have hl := hl.resolve_left (Nat.succ_ne_zero _); subst hl; cases ha; exact ⟨rfl, rfl, cj (c2 hVS), fun k => lv_lushr hx hb hd rfl k⟩
  · have hl := hl.resolve_left (Nat.succ_ne_zero _); subst hl; cases ha; exact ⟨rfl, rfl, ci (c2 hVS), fun k => W.lcmp hx hb hd k⟩
  · have hl := hl.resolve_left (Nat.succ_ne_zero _); subst hl; cases ha; exact ⟨rfl, rfl, cj (c1 hVS), fun k => lv_i2l hx hb hd rfl k⟩
  · have hl := hl.resolve_left (Nat.succ_ne_zero _); subst hl; cases ha; exact ⟨rfl, rfl, ci (c1 hVS), fun k => lv_l2i hx hb hd rfl k⟩
  · have hl := hl.resolve_left (Nat.succ_ne_zero _); subst hl; cases ha; exact ⟨rfl, rfl, ci (c1 hVS), fun k => lv_i2b hx hb hd rfl k⟩
  · have hl := hl.resolve_left (Nat.succ_ne_zero _); subst hl; split at ha
    · rename_i hc; cases ha; exact ⟨rfl, rfl, List.forall_mem_cons.mpr ⟨(List.forall_mem_cons.mp hVS).1, hVS⟩, fun k => lv_dup hx hb hd (by rw [rv_cat]; exact hc) k⟩
    · cases ha
  · have hl := hl.resolve_left (Nat.succ_ne_zero _); subst hl; split at ha
    · rename_i hc; cases ha; exact ⟨rfl, rfl, c1 hVS, fun k => lv_pop hx hb hd (by rw [rv_cat]; exact hc) k⟩
    · cases ha
  · have hl := hl.resolve_left (Nat.succ_ne_zero _); subst hl; split at ha
    · rename_i hc; cases ha; exact ⟨rfl, rfl, List.forall_mem_cons.mpr ⟨(List.forall_mem_cons.mp hVS).1, List.forall_mem_cons.mpr ⟨(List.forall_mem_cons.mp (c1 hVS)).1, hVS⟩⟩, fun k => lv_dup2_11 hx hb hd (by rw [rv_cat]; exact hc.1) (by rw [rv_cat]; exact hc.2) k⟩
    · cases ha
  · cases ha
end SimLd
end
section
-- constants and branches
section SimBr
variable {p : Program} {l : Launch} {e : Env} {R : Room} {s : State} {m : MethodId} {args : Array Value} {below : List Frame} {meth : Method} {c : Code} {Q : State → Prop} {D : va_G} {A : Nat → Prop} {b N0 : Nat} {xs : Nat → Int32} {aK aV : Nat → Nat} {y : Mth} {pc len : Nat} {i : Instr} {L S L' S' : List Value} {h h1 : Hp} {H : Heap} {locs : List Loc} {cells slots : Nat} {ls : Array Slot} {adr : Nat → Nat}
theorem cn_sim (C : Cx p s m args meth c y) (hT : Tb D A b N0 xs aK aV s) (hK : ∀ i, i < 6 → adr (1000000 + i) = aK i) (hd : decode y.2.2.2.1 pc = .ok (i, len)) (hl : ilen i = 0 ∨ len = ilen i) (ha : actCn y.1 i L S h = some (.inl (L', S', h1))) (hVS : VK h S) : h1 = h ∧ L' = L ∧ VK h S' ∧ (W p l e R s m args below meth c H locs cells slots Q (F0 m (pc + len) ls (S'.map (rv adr))) → W p l e R s m args below meth c H locs cells slots Q (F0 m pc ls (S.map (rv adr)))) := by
  obtain ⟨hx, hb, hml, hown, hts, -⟩ := C
  have ci : ∀ {x : Int32} {S : List Value}, VK h S → VK h (.int x :: S) := fun q => List.forall_mem_cons.mpr ⟨trivial, q⟩
  have cj : ∀ {x : Int64} {S : List Value}, VK h S → VK h (.long x :: S) := fun q => List.forall_mem_cons.mpr ⟨trivial, q⟩
  unfold actCn at ha
  split at ha
  · have hl := hl.resolve_left (Nat.succ_ne_zero _); subst hl; cases ha; exact ⟨rfl, rfl, ci hVS, fun k => lv_iconst hx hb hd rfl k⟩
  · have hl := hl.resolve_left (Nat.succ_ne_zero _); subst hl; cases ha; exact ⟨rfl, rfl, ci hVS, fun k => lv_bipush hx hb hd rfl k⟩
  · have hl := hl.resolve_left (Nat.succ_ne_zero _); subst hl; cases ha; exact ⟨rfl, rfl, ci hVS, fun k => lv_sipush hx hb hd rfl k⟩
  · have hl := hl.resolve_left (Nat.succ_ne_zero _); subst hl; cases ha; exact ⟨rfl, rfl, cj hVS, fun k => lv_lconst hx hb hd rfl k⟩
  · have hl := hl.resolve_left (Nat.succ_ne_zero _); subst hl; cases ha; exact ⟨rfl, rfl, List.forall_mem_cons.mpr ⟨trivial, hVS⟩, fun k => lv_null hx hb hd k⟩
  · have hl := hl.resolve_left (Nat.succ_ne_zero _); subst hl
    split at ha
    · rename_i v hv
      cases ha
      exact ⟨rfl, rfl, ci hVS, fun k => lv_ldc hx hb hown (hts _ (icW _ (lkp_mem hv))) hd k⟩
    · split at ha
      · rename_i v hv
        cases ha
        have hm := lkp_mem hv
        have h6 : v < 6 := (slW _ hm).1
        have hv6 : vok h (.ref (1000000 + v)) := Or.inr ⟨Nat.le_add_right _ _, Nat.add_lt_add_left h6 1000000⟩
        have hz := hT.2.2.2.1 _ hm
        dsimp only at hz
        refine ⟨rfl, rfl, List.forall_mem_cons.mpr ⟨hv6, hVS⟩, fun k => ?_⟩
        have k2 : W p l e R s m args below meth c H locs cells slots Q (F0 m (pc + 2) ls (Value.ref (adr (1000000 + v)) :: S.map (rv adr))) := k
        rw [hK v h6] at k2
        exact va_ldcS hx hb hown hz hd k2
      · cases ha
  · have hl := hl.resolve_left (Nat.succ_ne_zero _); subst hl
    split at ha
    · rename_i v hv
      cases ha
      exact ⟨rfl, rfl, ci hVS, fun k => lv_ldcw hx hb hown (hts _ (icW _ (lkp_mem hv))) hd k⟩
    · cases ha
  · have hl := hl.resolve_left (Nat.succ_ne_zero _); subst hl
    split at ha
    · rename_i v hv
      cases ha
      exact ⟨rfl, rfl, cj hVS, fun k => lv_ldc2 hx hb hown (hts _ (lcW _ (lkp_mem hv))) hd k⟩
    · cases ha
  · cases ha
theorem nt_icmp {cc : ByteArray} (hexec : p.tables.exec = Jvm.exec) (hb : c.code = cc) {x z : Int32} {c0 : ClassFile.Cond} {off : Int} {rest : List Value} (hdg : decode cc pc = .ok (.if_icmp c0 off, 3)) (hn : ¬ cmpB c0 x z = true) (k : W p l e R s m args below meth c H locs cells slots Q (F0 m (pc + 3) ls rest)) : W p l e R s m args below meth c H locs cells slots Q (F0 m pc ls (.int z :: .int x :: rest)) := by
  intro T hT X
  obtain ⟨t, a, b⟩ := k T hT X
  refine ⟨t, ?_, b⟩
  cases c0 <;> simp only [cmpB, decide_eq_true_eq, Classical.not_not] at hn
  all_goals jvm_step X.here [X.here.top, hexec, hb, hdg, Op.if_icmp.holds, hn]
  all_goals exact a
theorem nt_if {cc : ByteArray} (hexec : p.tables.exec = Jvm.exec) (hb : c.code = cc) {x : Int32} {c0 : ClassFile.Cond} {off : Int} {rest : List Value} (hdg : decode cc pc = .ok (.ifCond c0 off, 3)) (hn : ¬ cmpB c0 x 0 = true) (k : W p l e R s m args below meth c H locs cells slots Q (F0 m (pc + 3) ls rest)) : W p l e R s m args below meth c H locs cells slots Q (F0 m pc ls (.int x :: rest)) := by
  intro T hT X
  obtain ⟨t, a, b⟩ := k T hT X
  refine ⟨t, ?_, b⟩
  cases c0 <;> simp only [cmpB, decide_eq_true_eq, Classical.not_not] at hn
  all_goals jvm_step X.here [X.here.top, hexec, hb, hdg, Op.ifCond.holds, hn]
  all_goals exact a
theorem br_ft (C : Cx p s m args meth c y) (hd : decode y.2.2.2.1 pc = .ok (i, len)) (hl : ilen i = 0 ∨ len = ilen i) (ha : actBr i L S h = some (.inl (L', S', h1))) (hVS : VK h S) : h1 = h ∧ L' = L ∧ VK h S' ∧ (W p l e R s m args below meth c H locs cells slots Q (F0 m (pc + len) ls (S'.map (rv adr))) → W p l e R s m args below meth c H locs cells slots Q (F0 m pc ls (S.map (rv adr)))) := by
  obtain ⟨hx, hb, hml, hown, hts, -⟩ := C
  have c1 : ∀ {a : Value} {S : List Value}, VK h (a :: S) → VK h S := fun q => (List.forall_mem_cons.mp q).2
  unfold actBr at ha
  split at ha
  · cases ha
  · have hl := hl.resolve_left (Nat.succ_ne_zero _); subst hl
    split at ha
    · cases ha
    · rename_i hn
      cases ha
      exact ⟨rfl, rfl, c1 (c1 hVS), fun k => nt_icmp hx hb hd hn k⟩
  · have hl := hl.resolve_left (Nat.succ_ne_zero _); subst hl
    split at ha
    · cases ha
    · rename_i hn
      cases ha
      exact ⟨rfl, rfl, c1 hVS, fun k => nt_if hx hb hd hn k⟩
  · cases ha
  · have hl := hl.resolve_left (Nat.succ_ne_zero _); subst hl
    cases ha
    exact ⟨rfl, rfl, c1 hVS, fun k => lv_ifnonnullN hx hb hd k⟩
  · split at ha
    · cases ha
    · split at ha <;> cases ha
  · split at ha <;> cases ha
  · cases ha
theorem br_jp {o : Int} {tgt : Nat} (C : Cx p s m args meth c y) (hd : decode y.2.2.2.1 pc = .ok (i, len)) (hl : ilen i = 0 ∨ len = ilen i) (ha : actBr i L S h = some (.inr (.inl (o, S')))) (hVS : VK h S) (ht : (pc : Int) + o = (tgt : Int)) : VK h S' ∧ (W p l e R s m args below meth c H locs cells slots Q (F0 m tgt ls (S'.map (rv adr))) → W p l e R s m args below meth c H locs cells slots Q (F0 m pc ls (S.map (rv adr)))) := by
  obtain ⟨hx, hb, hml, hown, hts, -⟩ := C
  have c1 : ∀ {a : Value} {S : List Value}, VK h (a :: S) → VK h S := fun q => (List.forall_mem_cons.mp q).2
  unfold actBr at ha
  split at ha
  · have hl := hl.resolve_left (Nat.succ_ne_zero _); subst hl
    cases ha
    exact ⟨hVS, fun k => lv_goto hx hb hd ht k⟩
  · have hl := hl.resolve_left (Nat.succ_ne_zero _); subst hl
    split at ha
    · rename_i c0 o0 z x S0 hc
      cases ha
      refine ⟨c1 (c1 hVS), fun k => ?_⟩
      cases c0 <;> simp only [cmpB, decide_eq_true_eq] at hc
      · exact lv_icmp_eq hx hb hd ht (fun _ => k) (fun q => absurd hc q)
      · exact lv_icmp_ne hx hb hd ht (fun _ => k) (fun q => absurd q hc)
      · exact lv_icmp_lt hx hb hd ht (fun _ => k) (fun q => absurd hc q)
      · exact lv_icmp_ge hx hb hd ht (fun _ => k) (fun q => absurd hc q)
      · exact lv_icmp_gt hx hb hd ht (fun _ => k) (fun q => absurd hc q)
      · exact lv_icmp_le hx hb hd ht (fun _ => k) (fun q => absurd hc q)
    · cases ha
  · have hl := hl.resolve_left (Nat.succ_ne_zero _); subst hl
    split at ha
    · rename_i c0 o0 x S0 hc
      cases ha
      refine ⟨c1 hVS, fun k => ?_⟩
      cases c0 <;> simp only [cmpB, decide_eq_true_eq] at hc
      · exact lv_if_eq hx hb hd ht (fun _ => k) (fun q => absurd hc q)
      · exact lv_if_ne hx hb hd ht (fun _ => k) (fun q => absurd q hc)
      · exact lv_if_lt hx hb hd ht (fun _ => k) (fun q => absurd hc q)
      · exact lv_if_ge hx hb hd ht (fun _ => k) (fun q => absurd hc q)
      · exact lv_if_gt hx hb hd ht (fun _ => k) (fun q => absurd hc q)
      · exact lv_if_le hx hb hd ht (fun _ => k) (fun q => absurd hc q)
    · cases ha
  · have hl := hl.resolve_left (Nat.succ_ne_zero _); subst hl
    cases ha
    exact ⟨c1 hVS, fun k => lv_ifnonnull hx hb hd ht k⟩
  · cases ha
  · split at ha
    · rename_i hr
      cases ha
      exact ⟨c1 hVS, fun k => lv_tableOut hx hb hd hr ht k⟩
    · rename_i hr
      split at ha
      · rename_i o0 ho
        cases ha
        exact ⟨c1 hVS, fun k => lv_tableIn hx hb hd (fun q => hr (Or.inl q)) (fun q => hr (Or.inr q)) ho ht k⟩
      · cases ha
  · split at ha
    · rename_i hp
      cases ha
      exact ⟨c1 hVS, fun k => lv_lookup hx hb hd hp rfl ht k⟩
    · cases ha
  · cases ha
end SimBr
end
section
-- the heap: fields, arrays, what is new
theorem rv_vr (adr : Nat → Nat) (r : Option Nat) : rv adr (vr r) = va_rf (r.map adr) := by cases r <;> rfl
theorem vok_vr {h : Hp} (hR : HR h) (a k : Nat) : vok h (vr (gR h a k)) := by
  unfold vr gR
  cases hb : h.2.2.1 a k with
  | none => trivial
  | some b => exact Or.inl (hR.1 a k b hb)
theorem vok_fval {h : Hp} (hR : HR h) (a t k : Nat) : vok h (fval h a t k) := by
  unfold fval
  split
  · trivial
  · split
    · exact vok_vr hR a k
    · trivial
theorem vok_grow {h h1 : Hp} (hn : nxt h ≤ nxt h1) {v : Value} (hv : vok h v) : vok h1 v := by
  cases v with
  | ref a => exact hv.elim (fun q => Or.inl (Nat.lt_of_lt_of_le q hn)) Or.inr
  | _ => trivial
theorem fvals_len (adr : Nat → Nat) (h : Hp) (a c : Nat) : (fvals adr h a c).length = csize c := by simp [fvals]
theorem fvals_at {adr : Nat → Nat} {h : Hp} {a c f : Nat} (hf : f < csize c) : (fvals adr h a c)[f]? = some (rv adr (fval h a (fkind c f).1 f)) := by
  unfold fvals
  rw [List.getElem?_map, List.getElem?_range hf]
  rfl
theorem fvals_set {adr : Nat → Nat} {h h1 : Hp} {a c f : Nat} {v : Value} (hf : f < csize c) (hv : rv adr (fval h1 a (fkind c f).1 f) = v) (ho : ∀ k, k ≠ f → fval h1 a (fkind c k).1 k = fval h a (fkind c k).1 k) : (fvals adr h a c).set f v = fvals adr h1 a c := by
  apply List.ext_getElem?
  intro k
  rw [List.getElem?_set]
  by_cases hk : f = k
  · subst hk
    rw [if_pos rfl, if_pos (by rw [fvals_len]; exact hf), fvals_at hf, hv]
  · rw [if_neg hk]
    rcases Nat.lt_or_ge k (csize c) with q | q
    · rw [fvals_at q, fvals_at q, ho k (fun z => hk z.symm)]
    · rw [List.getElem?_eq_none (by rw [fvals_len]; omega), List.getElem?_eq_none (by rw [fvals_len]; omega)]
theorem Ecell_same {adr : Nat → Nat} {cA : Nat → ClassId} {h h1 : Hp} {x : Nat} (hs : shp h1 x = shp h x) (hi : h1.1 x = h.1 x) (hj : h1.2.1 x = h.2.1 x) (hr : h1.2.2.1 x = h.2.2.1 x) : Ecell adr cA h1 x = Ecell adr cA h x := by
  unfold Ecell
  rw [hs, hi, hr]
  have e3 : ∀ c, fvals adr h1 x c = fvals adr h x c := by
    intro c
    unfold fvals fval gI gJ gR
    rw [hi, hj, hr]
  rw [e3]
theorem sI_row {h : Hp} {a k x : Nat} {v : Int32} (hx : x ≠ a) : (sI h a k v).1 x = h.1 x := by funext j; simp [sI, hx]
theorem sI_row_at (h : Hp) (a k : Nat) (v : Int32) : (sI h a k v).1 a = upd (h.1 a) k v := by funext j; simp [sI, upd]
theorem sJ_row {h : Hp} {a k x : Nat} {v : Int64} (hx : x ≠ a) : (sJ h a k v).2.1 x = h.2.1 x := by funext j; simp [sJ, hx]
theorem sR_row {h : Hp} {a k x : Nat} {v : Option Nat} (hx : x ≠ a) : (sR h a k v).2.2.1 x = h.2.2.1 x := by funext j; simp [sR, hx]
theorem cpI_row {h : Hp} {a sp b dp n x : Nat} (hx : x ≠ b) : (cpI h a sp b dp n).1 x = h.1 x := by funext j; simp [cpI, hx]
theorem vw_lt {c : Nat} {q : vw_C} (h : vwCl[c]? = some q) : c < 10 := (List.getElem?_eq_some_iff.mp h).1
theorem LR_ext {adr adr1 : Nat → Nat} {L : List Value} {ls : Array Slot} {nL : Nat} {h : Hp} (hV : VK h L) (h1 : ∀ a, a < nxt h → adr1 a = adr a) (h2 : ∀ a, 1000000 ≤ a → adr1 a = adr a) (hL : LR adr L ls nL) : LR adr1 L ls nL := by
  refine ⟨hL.1, hL.2.1, hL.2.2.1, fun i v hi hv => ?_⟩
  rw [hL.2.2.2 i v hi hv]
  have hk := hV v (List.mem_of_getElem? hi)
  cases v with
  | ref a => exact hk.elim (fun q => by show some (Slot.val (Value.ref (adr a))) = some (Slot.val (Value.ref (adr1 a))); rw [h1 a q]) (fun q => by show some (Slot.val (Value.ref (adr a))) = some (Slot.val (Value.ref (adr1 a))); rw [h2 a q.1])
  | _ => rfl
theorem rvs_ext {adr adr1 : Nat → Nat} {L : List Value} {h : Hp} (hV : VK h L) (h1 : ∀ a, a < nxt h → adr1 a = adr a) (h2 : ∀ a, 1000000 ≤ a → adr1 a = adr a) : L.map (rv adr1) = L.map (rv adr) := by
  apply List.map_congr_left
  intro v hv
  have hk := hV v hv
  cases v with
  | ref a => exact hk.elim (fun q => by show Value.ref (adr1 a) = Value.ref (adr a); rw [h1 a q]) (fun q => by show Value.ref (adr1 a) = Value.ref (adr a); rw [h2 a q.1])
  | _ => rfl
section SimHp
variable {p : Program} {l : Launch} {e : Env} {R : Room} {s : State} {m : MethodId} {args : Array Value} {below : List Frame} {meth : Method} {c : Code} {Q : State → Prop} {D : va_G} {A : Nat → Prop} {b N0 : Nat} {xs : Nat → Int32} {aK aV : Nat → Nat} {y : Mth} {pc len : Nat} {i : Instr} {L S L' S' : List Value} {h h1 : Hp} {H : Heap} {locs : List Loc} {cells slots : Nat} {ls : Array Slot} {adr : Nat → Nat} {cA : Nat → ClassId}
/-- the relation behind a write to one row -/
theorem Rel.wr (hRel : Rel D A b N0 xs aK s adr cA H locs h) {a : Nat} {e : va_E} (ha0 : 0 < a) (ha : a < nxt h) (hshape : h1.2.2.2 = h.2.2.2) (hHR : ∀ x k z, h1.2.2.1 x k = some z → z < nxt h) (he : Ecell adr cA h1 a = e) (ho : ∀ x, x ≠ a → h1.1 x = h.1 x ∧ h1.2.1 x = h.2.1 x ∧ h1.2.2.1 x = h.2.2.1 x) {H1 : Heap} {locs1 : List Loc} (hP : va_P D vwCl ((wsO adr cA h).set (a - 1) (adr a, e)) H1) (hD : va_D A ((wsO adr cA h).set (a - 1) (adr a, e))) (hS : va_S A s.heap H1 locs1) : Rel D A b N0 xs aK s adr cA H1 locs1 h1 := by
  obtain ⟨r1, r2, r3, r4, r5, r6, r7, r8, r9⟩ := hRel
  have hn : nxt h1 = nxt h := by unfold nxt; rw [hshape]
  have hsh : ∀ x, shp h1 x = shp h x := fun x => by unfold shp; rw [hshape]
  have hw := wsO_set (adr := adr) (cA := cA) ha0 ha hn he (fun x hx => Ecell_same (hsh x) (ho x hx).1 (ho x hx).2.1 (ho x hx).2.2)
  rw [hw] at hP hD
  refine ⟨hP, hD, hS, fun x hx0 hx => ?_, r5, r6, by rw [hsh]; exact r7, fun j hj => ?_, ⟨fun x k z hz => by rw [hn]; exact hHR x k z hz, by rw [hn]; exact r9.2.1, by rw [hn]; exact r9.2.2.1, fun x hx0 hx => by rw [hsh]; exact r9.2.2.2 x hx0 (by rw [← hn]; exact hx)⟩⟩
  · rw [hsh]
    exact r4 x hx0 (by rw [← hn]; exact hx)
  · rw [(ho 0 (by omega)).1]
    exact r8 j hj
/-- the relation behind a new cell -/
theorem Rel.nw (hRel : Rel D A b N0 xs aK s adr cA H locs h) {kd n q : Nat} {cq : ClassId} {e : va_E} (hlt : nxt h < 900000) (hkd : kd ≠ 0) (hty : 1 ≤ kd → kd ≤ 4 → ArrOfT s cq (kty kd) ∧ va_RA s cq (kty kd)) (he : Ecell (va_up adr (nxt h) q) (va_up cA (nxt h) cq) (newO h kd n) (nxt h) = e) {H1 : Heap} {locs1 : List Loc} (hP : va_P D vwCl (wsO adr cA h ++ [(q, e)]) H1) (hD : va_D A (wsO adr cA h ++ [(q, e)])) (hS : va_S A s.heap H1 locs1) : Rel D A b N0 xs aK s (va_up adr (nxt h) q) (va_up cA (nxt h) cq) H1 locs1 (newO h kd n) := by
  obtain ⟨r1, r2, r3, r4, r5, r6, r7, r8, r9⟩ := hRel
  rw [wsO_new r9 kd n q cq e he] at hP hD
  have h0 : 0 < nxt h := r9.2.1
  refine ⟨hP, hD, hS, fun x hx0 hx => ?_, ?_, fun i hi => ?_, ?_, fun j hj => ?_, ⟨fun x k z hz => ?_, ?_, ?_, fun x hx0 hx => ?_⟩⟩
  · rw [nxt_new] at hx
    by_cases hxe : x = nxt h
    · subst hxe
      rw [shp_new]
      intro g1 g2
      rw [show va_up cA (nxt h) cq (nxt h) = cq by simp [va_up]]
      exact hty g1 g2
    · rw [shp_new_old (by omega), show va_up cA (nxt h) cq x = cA x by simp [va_up, hxe]]
      exact r4 x hx0 (by omega)
  · rw [show va_up adr (nxt h) q 0 = adr 0 by simp [va_up, show ¬ 0 = nxt h by omega]]
    exact r5
  · rw [show va_up adr (nxt h) q (1000000 + i) = adr (1000000 + i) by simp [va_up, show ¬ 1000000 + i = nxt h by omega]]
    exact r6 i hi
  · rw [shp_new_old h0]
    exact r7
  · rw [show (newO h kd n).1 0 j = h.1 0 j by simp [newO, show ¬ 0 = nxt h by omega]]
    exact r8 j hj
  · rw [nxt_new]
    have hz2 : (if x = nxt h then none else h.2.2.1 x k) = some z := hz
    split at hz2
    · cases hz2
    · exact Nat.lt_succ_of_lt (r9.1 x k z hz2)
  · rw [nxt_new]; omega
  · rw [nxt_new]; omega
  · rw [nxt_new] at hx
    by_cases hxe : x = nxt h
    · subst hxe
      rw [shp_new]
      exact hkd
    · rw [shp_new_old (by omega)]
      exact r9.2.2.2 x hx0 (by omega)
theorem Rel.kind0 (hRel : Rel D A b N0 xs aK s adr cA H locs h) {a : Nat} (hk : (shp h a).1 = 0) : a = 0 := by
  rcases Nat.eq_zero_or_pos a with q | q
  · exact q
  · exact absurd hk (hRel.2.2.2.2.2.2.2.2.2.2.2 a q (shp_lt (by omega)))
theorem Rel.pos (hRel : Rel D A b N0 xs aK s adr cA H locs h) {a : Nat} (hk : (shp h a).1 ≠ 0) : 0 < a := by
  rcases Nat.eq_zero_or_pos a with q | q
  · subst q
    rw [hRel.2.2.2.2.2.2.1] at hk
    exact absurd rfl hk
  · exact q
theorem va_Kt {ty : FieldType} {cq : ClassId} (hK : va_K D vwCl [] s) (h1 : ArrOfT s cq ty ∧ va_RA s cq ty) : va_K D vwCl [(cq, ty)] s := by
  refine ⟨hK.1, fun k q hq => ?_⟩
  have hz : k < 1 := (List.getElem?_eq_some_iff.mp hq).1
  rw [show k = 0 by omega] at hq
  cases hq
  exact h1
end SimHp
end
section
section SimHq
variable {p : Program} {l : Launch} {e : Env} {R : Room} {s : State} {m : MethodId} {args : Array Value} {below : List Frame} {meth : Method} {c : Code} {Q : State → Prop} {D : va_G} {A : Nat → Prop} {b N0 : Nat} {xs : Nat → Int32} {aK aV : Nat → Nat} {y : Mth} {pc len : Nat} {i : Instr} {L S L' S' : List Value} {h h1 : Hp} {H : Heap} {locs : List Loc} {cells slots : Nat} {ls : Array Slot} {adr : Nat → Nat} {cA : Nat → ClassId}
theorem inB_in {j : Int32} {n : Nat} (h : inB j n = true) : vp_in j n := by
  unfold inB at h
  unfold vp_in
  exact of_decide_eq_true h
theorem hp_get {k a ci f : Nat} (C : Cx p s m args meth c y) (hT : Tb D A b N0 xs aK aV s) (hRel : Rel D A b N0 xs aK s adr cA H locs h) (hd : decode y.2.2.2.1 pc = .ok (.getfield k, 3)) (hf : lkp flT y.1 k = some (ci, f)) (hk : (shp h a).1 = 10 + ci) {rest : List Value}
    (kk : W p l e R s m args below meth c H locs cells slots Q (F0 m (pc + 3) ls (rv adr (fval h a (fkind ci f).1 f) :: rest))) : W p l e R s m args below meth c H locs cells slots Q (F0 m pc ls (.ref (adr a) :: rest)) := by
  obtain ⟨hx, hb, hml, hown, hts, -⟩ := C
  obtain ⟨⟨C0, T0, n0⟩, hq, hlt, hw⟩ := flW _ (lkp_mem hf)
  dsimp only at hq hlt hw
  obtain ⟨t1, t2, t3, t4, t5, t6, ty, t7, t8⟩ := vwW _ _ hq
  dsimp only at t1 t2 t3 t4 t5 t6 t7 t8
  have ha0 : 0 < a := hRel.pos (by omega)
  have ha : a < nxt h := shp_lt (by have := vw_lt hq; omega)
  have he := wsO_at (adr := adr) (cA := cA) ha0 ha
  rw [Ecell_obj hk] at he
  exact va_get (D := D) (ci := ci) (C := C0) (T := T0) (N := n0) hx hb hts t1 hown hT.1 hRel.1 (a - 1) he hq f hlt (hts _ hw) (fun _ q => q) (fvals_at (by omega)) hd kk
theorem hp_put {k a ci f : Nat} {v : Value} (C : Cx p s m args meth c y) (hT : Tb D A b N0 xs aK aV s) (hRel : Rel D A b N0 xs aK s adr cA H locs h) (hd : decode y.2.2.2.1 pc = .ok (.putfield k, 3)) (hf : lkp flT y.1 k = some (ci, f)) (hk : (shp h a).1 = 10 + ci) (hfin : (fkind ci f).2 = false ∨ (y.2.1 = true ∧ y.1 = cnum ci)) {rest : List Value}
    (hv : ((fkind ci f).1 = 0 ∧ ∃ x, v = .int x) ∨ ((fkind ci f).1 = 3 ∧ (v = .int 0 ∨ v = .int 1)) ∨ ((fkind ci f).1 = 1 ∧ ∃ x, v = .long x) ∨ ((fkind ci f).1 = 2 ∧ ∃ r, v = vr r))
    (hshape : h1.2.2.2 = h.2.2.2) (hHR : ∀ x k z, h1.2.2.1 x k = some z → z < nxt h) (ho : ∀ x, x ≠ a → h1.1 x = h.1 x ∧ h1.2.1 x = h.2.1 x ∧ h1.2.2.1 x = h.2.2.1 x) (hof : ∀ k t, k ≠ f → fval h1 a t k = fval h a t k) (hat : fval h1 a (fkind ci f).1 f = v)
    (kk : ∀ H1 locs1, Rel D A b N0 xs aK s adr cA H1 locs1 h1 → W p l e R s m args below meth c H1 locs1 cells slots Q (F0 m (pc + 3) ls rest)) : W p l e R s m args below meth c H locs cells slots Q (F0 m pc ls (rv adr v :: .ref (adr a) :: rest)) := by
  obtain ⟨hx, hb, hml, hown, hts, hrt, hin, -⟩ := C
  obtain ⟨⟨C0, T0, n0⟩, hq, hlt, hw⟩ := flW _ (lkp_mem hf)
  dsimp only at hq hlt hw
  obtain ⟨t1, t2, t3, t4, t5, t6, ty, t7, t8⟩ := vwW _ _ hq
  dsimp only at t1 t2 t3 t4 t5 t6 t7 t8
  have ha0 : 0 < a := hRel.pos (by omega)
  have ha : a < nxt h := shp_lt (by have := vw_lt hq; omega)
  have he := wsO_at (adr := adr) (cA := cA) ha0 ha
  rw [Ecell_obj hk] at he
  have hcs : f < csize ci := by omega
  obtain ⟨g1, g2, g3⟩ := t8 f hlt
  have hnf : narrow (ty f) (rv adr v) = rv adr v ∧ fits (ty f) (rv adr v) = true := by
    rcases hv with ⟨z, x, rfl⟩ | ⟨z, rfl | rfl⟩ | ⟨z, x, rfl⟩ | ⟨z, r, rfl⟩
    · rw [z] at g3; rw [g3]; exact ⟨rfl, rfl⟩
    · rw [z] at g3; rw [g3]; exact ⟨rfl, rfl⟩
    · rw [z] at g3; rw [g3]; exact ⟨rfl, rfl⟩
    · rw [z] at g3; rw [g3]; exact ⟨rfl, rfl⟩
    · rw [z] at g3
      rcases g3 with ⟨q, g3⟩ | ⟨q, g3⟩ <;> rw [g3] <;> cases r <;> exact ⟨rfl, rfl⟩
  have hset : (fvals adr h a ci).set f (rv adr v) = fvals adr h1 a ci := fvals_set hcs (by rw [hat]) (fun k hk => hof k _ hk)
  have hsh : shp h1 a = shp h a := by unfold shp; rw [hshape]
  have hE : Ecell adr cA h1 a = .inr (ci, (fvals adr h a ci).set f (rv adr v)) := by rw [hset]; exact Ecell_obj (by rw [hsh]; exact hk)
  have fin : ∀ (H1 : Heap) (locs1 : List Loc), va_P D vwCl ((wsO adr cA h).set (a - 1) (adr a, .inr (ci, (fvals adr h a ci).set f (rv adr v)))) H1 → va_D A ((wsO adr cA h).set (a - 1) (adr a, .inr (ci, (fvals adr h a ci).set f (rv adr v)))) → va_S A s.heap H1 locs1 → W p l e R s m args below meth c H1 locs1 cells slots Q (F0 m (pc + 3) ls rest) :=
    fun H1 locs1 hP hD hS => kk H1 locs1 (hRel.wr ha0 ha hshape hHR hE ho hP hD hS)
  rcases hfin with hfin | ⟨hi1, hi2⟩
  · exact va_put (D := D) (ci := ci) (v := rv adr v) (ty := ty f) (C := C0) (T := T0) (N := n0) hx hb hts t1 ty t7 t6 hown hT.1 hRel.1 hRel.2.1 hRel.2.2.1 (a - 1) he hq f hlt (hts _ hw) (fun _ q => q) (by rw [g2]; exact hfin) (t7 f hlt) hnf.1 hnf.2 (by rw [fvals_len]; exact hcs) hd fin
  · cases hf2 : (fkind ci f).2 with
    | false => exact va_put (D := D) (ci := ci) (v := rv adr v) (ty := ty f) (C := C0) (T := T0) (N := n0) hx hb hts t1 ty t7 t6 hown hT.1 hRel.1 hRel.2.1 hRel.2.2.1 (a - 1) he hq f hlt (hts _ hw) (fun _ q => q) (by rw [g2]; exact hf2) (t7 f hlt) hnf.1 hnf.2 (by rw [fvals_len]; exact hcs) hd fin
    | true => exact va_putF (D := D) (ci := ci) (v := rv adr v) (ty := ty f) (C := C0) (T := T0) (N := n0) hx hb hts t1 ty t7 t6 hown hT.1 hRel.1 hRel.2.1 hRel.2.2.1 (a - 1) he hq f hlt (hts _ hw) (fun _ q => q) (by rw [g2]; exact hf2) (hin hi1) (by rw [g1, hi2, t3]) (t7 f hlt) hnf.1 hnf.2 (by rw [fvals_len]; exact hcs) hd fin
theorem hp_iald {a : Nat} {j : Int32} (C : Cx p s m args meth c y) (hT : Tb D A b N0 xs aK aV s) (hRel : Rel D A b N0 xs aK s adr cA H locs h) (hd : decode y.2.2.2.1 pc = .ok (.iaload, 1)) (hk : (shp h a).1 = 0 ∨ (shp h a).1 = 1) (hj : inB j (shp h a).2 = true) {rest : List Value}
    (kk : W p l e R s m args below meth c H locs cells slots Q (F0 m (pc + 1) ls (.int (gI h a j.toNatClampNeg) :: rest))) : W p l e R s m args below meth c H locs cells slots Q (F0 m pc ls (.int j :: .ref (adr a) :: rest)) := by
  obtain ⟨hx, hb, hml, hown, hts, -⟩ := C
  have hin := inB_in hj
  rcases hk with hk | hk
  · have h0 := hRel.kind0 hk
    subst h0
    rw [hRel.2.2.2.2.2.2.1] at hin
    have hlt : j.toNatClampNeg < N0 := Nat.not_le.mp fun q => hin (Or.inr q)
    unfold gI at kk
    rw [hRel.2.2.2.2.2.2.2.1 _ hlt] at kk
    rw [hRel.2.2.2.2.1]
    exact va_sld hx hb hT.2.2.2.2.1 hT.2.2.2.2.2.1 hT.2.2.2.2.2.2.1 hRel.2.2.1 hin hd kk
  · have ha0 : 0 < a := hRel.pos (by omega)
    have ha : a < nxt h := shp_lt (by omega)
    have he := wsO_at (adr := adr) (cA := cA) ha0 ha
    rw [Ecell_arr (by omega)] at he
    have hty := hRel.2.2.2.1 a ha0 ha (by omega) (by omega)
    rw [hk] at hty
    exact va_iald hx hb (va_Kt hT.1 hty) hRel.1 (a - 1) 0 he rfl hin hd kk
theorem hp_bald {a : Nat} {j : Int32} (C : Cx p s m args meth c y) (hT : Tb D A b N0 xs aK aV s) (hRel : Rel D A b N0 xs aK s adr cA H locs h) (hd : decode y.2.2.2.1 pc = .ok (.baload, 1)) (hk : (shp h a).1 = 2) (hj : inB j (shp h a).2 = true) {rest : List Value}
    (kk : W p l e R s m args below meth c H locs cells slots Q (F0 m (pc + 1) ls (.int (gI h a j.toNatClampNeg) :: rest))) : W p l e R s m args below meth c H locs cells slots Q (F0 m pc ls (.int j :: .ref (adr a) :: rest)) := by
  obtain ⟨hx, hb, hml, hown, hts, -⟩ := C
  have hin := inB_in hj
  have ha0 : 0 < a := hRel.pos (by omega)
  have ha : a < nxt h := shp_lt (by omega)
  have he := wsO_at (adr := adr) (cA := cA) ha0 ha
  rw [Ecell_arr (by omega)] at he
  have hty := hRel.2.2.2.1 a ha0 ha (by omega) (by omega)
  rw [hk] at hty
  exact va_bald hx hb (va_Kt hT.1 hty) hRel.1 (a - 1) 0 he rfl hin hd kk
theorem hp_aald {a : Nat} {j : Int32} (C : Cx p s m args meth c y) (hT : Tb D A b N0 xs aK aV s) (hRel : Rel D A b N0 xs aK s adr cA H locs h) (hd : decode y.2.2.2.1 pc = .ok (.aaload, 1)) (hk : (shp h a).1 = 3 ∨ (shp h a).1 = 4) (hj : inB j (shp h a).2 = true) {rest : List Value}
    (kk : W p l e R s m args below meth c H locs cells slots Q (F0 m (pc + 1) ls (rv adr (vr (gR h a j.toNatClampNeg)) :: rest))) : W p l e R s m args below meth c H locs cells slots Q (F0 m pc ls (.int j :: .ref (adr a) :: rest)) := by
  obtain ⟨hx, hb, hml, hown, hts, -⟩ := C
  have hin := inB_in hj
  have ha0 : 0 < a := hRel.pos (by omega)
  have ha : a < nxt h := shp_lt (by omega)
  have he := wsO_at (adr := adr) (cA := cA) ha0 ha
  rw [Ecell_ref hk] at he
  have hty := hRel.2.2.2.1 a ha0 ha (by omega) (by omega)
  have hkt : kty (shp h a).1 = .object (aoT (shp h a).1) := by unfold kty; rw [if_neg (by omega), if_neg (by omega)]
  rw [hkt] at hty
  rw [rv_vr] at kk
  exact va_aldq hx hb (va_Kt hT.1 hty) hRel.1 (a - 1) 0 he rfl hin hd kk
theorem hp_iast {a : Nat} {j x : Int32} (C : Cx p s m args meth c y) (hT : Tb D A b N0 xs aK aV s) (hRel : Rel D A b N0 xs aK s adr cA H locs h) (hd : decode y.2.2.2.1 pc = .ok (.iastore, 1)) (hk : (shp h a).1 = 1) (hj : inB j (shp h a).2 = true) {rest : List Value}
    (kk : ∀ H1 locs1, Rel D A b N0 xs aK s adr cA H1 locs1 (sI h a j.toNatClampNeg x) → W p l e R s m args below meth c H1 locs1 cells slots Q (F0 m (pc + 1) ls rest)) : W p l e R s m args below meth c H locs cells slots Q (F0 m pc ls (.int x :: .int j :: .ref (adr a) :: rest)) := by
  obtain ⟨hx, hb, hml, hown, hts, -⟩ := C
  have hin := inB_in hj
  have ha0 : 0 < a := hRel.pos (by omega)
  have ha : a < nxt h := shp_lt (by omega)
  have he := wsO_at (adr := adr) (cA := cA) ha0 ha
  rw [Ecell_arr (by omega)] at he
  have hty := hRel.2.2.2.1 a ha0 ha (by omega) (by omega)
  rw [hk] at hty
  refine va_iast hx hb (va_Kt hT.1 hty) hRel.1 hRel.2.1 hRel.2.2.1 (a - 1) 0 he rfl hin hd (fun H1 locs1 hP hD hS => kk H1 locs1 (hRel.wr (h1 := sI h a j.toNatClampNeg x) ha0 ha rfl (fun x k z hz => hRel.2.2.2.2.2.2.2.2.1 x k z hz) ?_ (fun x hx => ⟨sI_row hx, rfl, rfl⟩) hP hD hS))
  have e1 : shp (sI h a j.toNatClampNeg x) a = shp h a := rfl
  rw [Ecell_arr (by rw [e1]; omega), e1, sI_row_at]
theorem hp_bast {a : Nat} {j x : Int32} (C : Cx p s m args meth c y) (hT : Tb D A b N0 xs aK aV s) (hRel : Rel D A b N0 xs aK s adr cA H locs h) (hd : decode y.2.2.2.1 pc = .ok (.bastore, 1)) (hk : (shp h a).1 = 2) (hj : inB j (shp h a).2 = true) {rest : List Value}
    (kk : ∀ H1 locs1, Rel D A b N0 xs aK s adr cA H1 locs1 (sI h a j.toNatClampNeg (vp_nar .byte x)) → W p l e R s m args below meth c H1 locs1 cells slots Q (F0 m (pc + 1) ls rest)) : W p l e R s m args below meth c H locs cells slots Q (F0 m pc ls (.int x :: .int j :: .ref (adr a) :: rest)) := by
  obtain ⟨hx, hb, hml, hown, hts, -⟩ := C
  have hin := inB_in hj
  have ha0 : 0 < a := hRel.pos (by omega)
  have ha : a < nxt h := shp_lt (by omega)
  have he := wsO_at (adr := adr) (cA := cA) ha0 ha
  rw [Ecell_arr (by omega)] at he
  have hty := hRel.2.2.2.1 a ha0 ha (by omega) (by omega)
  rw [hk] at hty
  refine va_bast hx hb (va_Kt hT.1 hty) hRel.1 hRel.2.1 hRel.2.2.1 (a - 1) 0 he rfl hin hd (fun H1 locs1 hP hD hS => kk H1 locs1 (hRel.wr (h1 := sI h a j.toNatClampNeg (vp_nar .byte x)) ha0 ha rfl (fun x k z hz => hRel.2.2.2.2.2.2.2.2.1 x k z hz) ?_ (fun x hx => ⟨sI_row hx, rfl, rfl⟩) hP hD hS))
  have e1 : shp (sI h a j.toNatClampNeg (vp_nar .byte x)) a = shp h a := rfl
  rw [Ecell_arr (by rw [e1]; omega), e1, sI_row_at]
theorem hp_aast {a v : Nat} {j : Int32} (C : Cx p s m args meth c y) (hT : Tb D A b N0 xs aK aV s) (hRel : Rel D A b N0 xs aK s adr cA H locs h) (hd : decode y.2.2.2.1 pc = .ok (.aastore, 1)) (hk : ((shp h a).1 = 3 ∧ (shp h v).1 = 15) ∨ ((shp h a).1 = 4 ∧ (shp h v).1 = 11)) (hj : inB j (shp h a).2 = true) {rest : List Value}
    (kk : ∀ H1 locs1, Rel D A b N0 xs aK s adr cA H1 locs1 (sR h a j.toNatClampNeg (some v)) → W p l e R s m args below meth c H1 locs1 cells slots Q (F0 m (pc + 1) ls rest)) : W p l e R s m args below meth c H locs cells slots Q (F0 m pc ls (.ref (adr v) :: .int j :: .ref (adr a) :: rest)) := by
  obtain ⟨hx, hb, hml, hown, hts, -⟩ := C
  have hin := inB_in hj
  have ha0 : 0 < a := hRel.pos (by omega)
  have ha : a < nxt h := shp_lt (by omega)
  have hv0 : 0 < v := hRel.pos (by omega)
  have hv : v < nxt h := shp_lt (by omega)
  have he := wsO_at (adr := adr) (cA := cA) ha0 ha
  rw [Ecell_ref (by omega)] at he
  have hty := hRel.2.2.2.1 a ha0 ha (by omega) (by omega)
  have e1 : shp (sR h a j.toNatClampNeg (some v)) a = shp h a := rfl
  have hE : Ecell adr cA (sR h a j.toNatClampNeg (some v)) a = .inl (cA a, (shp h a).2, .inr (.inr (.inr (.inr (va_up (fun j => (h.2.2.1 a j).map adr) j.toNatClampNeg (some (adr v))))))) := by
    rw [Ecell_ref (by rw [e1]; omega), e1]
    have : (fun z => ((sR h a j.toNatClampNeg (some v)).2.2.1 a z).map adr) = va_up (fun j => (h.2.2.1 a j).map adr) j.toNatClampNeg (some (adr v)) := by
      funext z
      simp only [sR, va_up, true_and]
      split <;> rfl
    rw [this]
  have hfin : ∀ (H1 : Heap) (locs1 : List Loc), va_P D vwCl ((wsO adr cA h).set (a - 1) (adr a, .inl (cA a, (shp h a).2, .inr (.inr (.inr (.inr (va_up (fun j => (h.2.2.1 a j).map adr) j.toNatClampNeg (some (adr v))))))))) H1 → va_D A ((wsO adr cA h).set (a - 1) (adr a, .inl (cA a, (shp h a).2, .inr (.inr (.inr (.inr (va_up (fun j => (h.2.2.1 a j).map adr) j.toNatClampNeg (some (adr v))))))))) → va_S A s.heap H1 locs1 → W p l e R s m args below meth c H1 locs1 cells slots Q (F0 m (pc + 1) ls rest) := fun H1 locs1 hP hD hS => kk H1 locs1 (hRel.wr (h1 := sR h a j.toNatClampNeg (some v)) ha0 ha rfl (fun x k z hz => by
      have hz2 : (if x = a ∧ k = j.toNatClampNeg then some v else h.2.2.1 x k) = some z := hz
      split at hz2
      · cases hz2; exact hv
      · exact hRel.2.2.2.2.2.2.2.2.1 x k z hz2) hE (fun x hx => ⟨rfl, rfl, sR_row hx⟩) hP hD hS)
  have hev := wsO_at (adr := adr) (cA := cA) hv0 hv
  rcases hk with ⟨k1, k2⟩ | ⟨k1, k2⟩
  · rw [Ecell_obj (c := 5) (by omega)] at hev
    have hkt : kty (shp h a).1 = .object RX7 := by rw [k1]; rfl
    rw [hkt] at hty
    exact va_astq hx hb (va_Kt hT.1 hty) hRel.1 hRel.2.1 hRel.2.2.1 (a - 1) 0 (v - 1) 5 (r := (RX7, TX7, 2)) he rfl hev rfl hin hd hfin
  · rw [Ecell_obj (c := 1) (by omega)] at hev
    have hkt : kty (shp h a).1 = .object RX1 := by rw [k1]; rfl
    rw [hkt] at hty
    exact va_astq hx hb (va_Kt hT.1 hty) hRel.1 hRel.2.1 hRel.2.2.1 (a - 1) 0 (v - 1) 1 (r := (RX1, TX1, 6)) he rfl hev rfl hin hd hfin
theorem hp_alen {a : Nat} (C : Cx p s m args meth c y) (hT : Tb D A b N0 xs aK aV s) (hRel : Rel D A b N0 xs aK s adr cA H locs h) (hd : decode y.2.2.2.1 pc = .ok (.arraylength, 1)) (hk : (shp h a).1 ≤ 4) {rest : List Value}
    (kk : W p l e R s m args below meth c H locs cells slots Q (F0 m (pc + 1) ls (.int (Int32.ofNat (shp h a).2) :: rest))) : W p l e R s m args below meth c H locs cells slots Q (F0 m pc ls (.ref (adr a) :: rest)) := by
  obtain ⟨hx, hb, hml, hown, hts, -⟩ := C
  rcases Nat.eq_zero_or_pos (shp h a).1 with h0 | h0
  · have h0 := hRel.kind0 h0
    subst h0
    rw [hRel.2.2.2.2.2.2.1] at kk
    rw [hRel.2.2.2.2.1]
    exact va_slen hx hb hT.2.2.2.2.1 hT.2.2.2.2.2.1 hT.2.2.2.2.2.2.1 hRel.2.2.1 hd kk
  · have ha0 : 0 < a := hRel.pos (by omega)
    have ha : a < nxt h := shp_lt (by omega)
    have he := wsO_at (adr := adr) (cA := cA) ha0 ha
    have hty := hRel.2.2.2.1 a ha0 ha (by omega) (by omega)
    rcases Nat.lt_or_ge (shp h a).1 3 with q | q
    · rw [Ecell_arr (by omega)] at he
      exact va_alen hx hb (va_Kt hT.1 hty) hRel.1 (a - 1) 0 he rfl rfl hd kk
    · rw [Ecell_ref (by omega)] at he
      exact va_alen hx hb (va_Kt hT.1 hty) hRel.1 (a - 1) 0 he rfl rfl hd kk
theorem hp_newi {n : Int32} (C : Cx p s m args meth c y) (hT : Tb D A b N0 xs aK aV s) (hRel : Rel D A b N0 xs aK s adr cA H locs h) (hd : decode y.2.2.2.1 pc = .ok (.newarray .int, 2)) (hn : ¬ n < 0) (hN : n.toNatClampNeg ≤ 100000) (hlt : nxt h < 900000) (hc : cells + 1 ≤ R.cells) (hs : slots + n.toNatClampNeg ≤ R.slots) {rest : List Value}
    (kk : ∀ H1 locs1 q cq, Rel D A b N0 xs aK s (va_up adr (nxt h) q) (va_up cA (nxt h) cq) H1 locs1 (newO h 1 n.toNatClampNeg) → W p l e R s m args below meth c H1 locs1 (cells + 1) (slots + n.toNatClampNeg) Q (F0 m (pc + 2) ls (.ref q :: rest))) : W p l e R s m args below meth c H locs cells slots Q (F0 m pc ls (.int n :: rest)) := by
  obtain ⟨hx, hb, hml, hown, hts, -⟩ := C
  refine va_newa (atype := .int) hx hb (hts _ w_int) (ty := .int) rfl hT.1 hRel.1 hRel.2.1 hRel.2.2.1 hT.2.2.2.2.2.2.2.1 (a0 := (n.toNatClampNeg, .inl (fun _ => 0))) (fun _ => rfl) hn rfl (by show n.toNatClampNeg * 4 ≤ _; omega) hc hs hd (fun q cq H1 hK1 hP hD hS => kk H1 _ q cq (hRel.nw hlt (by decide) (fun _ _ => hK1.2 0 _ rfl) ?_ hP hD hS))
  rw [Ecell_arr (by rw [shp_new]; exact Nat.le_of_ble_eq_true rfl), shp_new, show va_up cA (nxt h) cq (nxt h) = cq by simp [va_up]]
  have : (newO h 1 n.toNatClampNeg).1 (nxt h) = fun _ => 0 := by funext j; simp [newO]
  rw [this]
theorem hp_newb {n : Int32} (C : Cx p s m args meth c y) (hT : Tb D A b N0 xs aK aV s) (hRel : Rel D A b N0 xs aK s adr cA H locs h) (hd : decode y.2.2.2.1 pc = .ok (.newarray .byte, 2)) (hn : ¬ n < 0) (hN : n.toNatClampNeg ≤ 100000) (hlt : nxt h < 900000) (hc : cells + 1 ≤ R.cells) (hs : slots + n.toNatClampNeg ≤ R.slots) {rest : List Value}
    (kk : ∀ H1 locs1 q cq, Rel D A b N0 xs aK s (va_up adr (nxt h) q) (va_up cA (nxt h) cq) H1 locs1 (newO h 2 n.toNatClampNeg) → W p l e R s m args below meth c H1 locs1 (cells + 1) (slots + n.toNatClampNeg) Q (F0 m (pc + 2) ls (.ref q :: rest))) : W p l e R s m args below meth c H locs cells slots Q (F0 m pc ls (.int n :: rest)) := by
  obtain ⟨hx, hb, hml, hown, hts, -⟩ := C
  refine va_newa (atype := .byte) hx hb (hts _ w_byte) (ty := .byte) rfl hT.1 hRel.1 hRel.2.1 hRel.2.2.1 hT.2.2.2.2.2.2.2.1 (a0 := (n.toNatClampNeg, .inl (fun _ => 0))) (fun _ => rfl) hn rfl (by show n.toNatClampNeg * 1 ≤ _; omega) hc hs hd (fun q cq H1 hK1 hP hD hS => kk H1 _ q cq (hRel.nw hlt (by decide) (fun _ _ => hK1.2 0 _ rfl) ?_ hP hD hS))
  rw [Ecell_arr (by rw [shp_new]; exact Nat.le_of_ble_eq_true rfl), shp_new, show va_up cA (nxt h) cq (nxt h) = cq by simp [va_up]]
  have : (newO h 2 n.toNatClampNeg).1 (nxt h) = fun _ => 0 := by funext j; simp [newO]
  rw [this]
theorem hp_newq {n : Int32} {k kd : Nat} (C : Cx p s m args meth c y) (hT : Tb D A b N0 xs aK aV s) (hRel : Rel D A b N0 xs aK s adr cA H locs h) (hd : decode y.2.2.2.1 pc = .ok (.anewarray k, 3)) (hkd : lkp anewT y.1 k = some kd) (hn : ¬ n < 0) (hN : n.toNatClampNeg ≤ 100000) (hlt : nxt h < 900000) (hc : cells + 1 ≤ R.cells) (hs : slots + n.toNatClampNeg ≤ R.slots) {rest : List Value}
    (kk : ∀ H1 locs1 q cq, Rel D A b N0 xs aK s (va_up adr (nxt h) q) (va_up cA (nxt h) cq) H1 locs1 (newO h kd n.toNatClampNeg) → W p l e R s m args below meth c H1 locs1 (cells + 1) (slots + n.toNatClampNeg) Q (F0 m (pc + 3) ls (.ref q :: rest))) : W p l e R s m args below meth c H locs cells slots Q (F0 m pc ls (.int n :: rest)) := by
  obtain ⟨hx, hb, hml, hown, hts, -⟩ := C
  obtain ⟨w1, w2, w3⟩ := anewW _ (lkp_mem hkd)
  dsimp only at w1 w2 w3
  refine va_newq hx hb hown (hts _ w2) (hT.2.2.1 kd w1) hT.1 hRel.1 hRel.2.1 hRel.2.2.1 hT.2.2.2.2.2.2.2.1 hn rfl (by omega) hc hs hd (fun q cq H1 hK1 hP hD hS => kk H1 _ q cq (hRel.nw hlt (by omega) (fun _ _ => ?_) ?_ hP hD hS))
  · have hz := hK1.2 0 _ rfl
    rw [show kty kd = .object (aoT kd) by unfold kty; rw [if_neg (by omega), if_neg (by omega)]]
    exact hz
  · rw [Ecell_ref (by rw [shp_new]; exact w1), shp_new, show va_up cA (nxt h) cq (nxt h) = cq by simp [va_up]]
    have : (fun j => ((newO h kd n.toNatClampNeg).2.2.1 (nxt h) j).map (va_up adr (nxt h) q)) = fun _ => none := by funext j; simp [newO]
    rw [this]
theorem hp_new {k ci : Nat} (C : Cx p s m args meth c y) (hT : Tb D A b N0 xs aK aV s) (hRel : Rel D A b N0 xs aK s adr cA H locs h) (hd : decode y.2.2.2.1 pc = .ok (.new k, 3)) (hkd : lkp newT y.1 k = some ci) (hlt : nxt h < 900000) (hc : cells + 1 ≤ R.cells) (hs : slots + csize ci ≤ R.slots) {rest : List Value}
    (kk : ∀ H1 locs1 q cq, Rel D A b N0 xs aK s (va_up adr (nxt h) q) (va_up cA (nxt h) cq) H1 locs1 (newO h (10 + ci) (csize ci)) → W p l e R s m args below meth c H1 locs1 (cells + 1) (slots + csize ci) Q (F0 m (pc + 3) ls (.ref q :: rest))) : W p l e R s m args below meth c H locs cells slots Q (F0 m pc ls rest) := by
  obtain ⟨hx, hb, hml, hown, hts, -⟩ := C
  obtain ⟨⟨C0, T0, n0⟩, hq, w2⟩ := newW _ (lkp_mem hkd)
  dsimp only at hq w2
  obtain ⟨t1, t2, t3, t4, t5, t6, ty, t7, t8⟩ := vwW _ _ hq
  dsimp only at t1 t2 t3 t4 t5 t6 t7 t8
  subst t2
  have hfs : ∀ q cq, Ecell (va_up adr (nxt h) q) (va_up cA (nxt h) cq) (newO h (10 + ci) (csize ci)) (nxt h) = .inr (ci, fvals (va_up adr (nxt h) 0) (newO h (10 + ci) (csize ci)) (nxt h) ci) := by
    intro q cq
    rw [Ecell_obj (c := ci) (by rw [shp_new])]
    congr 2
    unfold fvals
    apply List.map_congr_left
    intro z _
    unfold fval
    split
    · rfl
    · split
      · simp [gR, newO, vr, rv]
      · rfl
  refine va_new (ci := ci) (C := C0) (T := T0) (N := csize ci) (fs := fvals (va_up adr (nxt h) 0) (newO h (10 + ci) (csize ci)) (nxt h) ci) hx hb hts t1 ty t7 hown (hts _ w2) (hts _ t4) (hts _ t5) hT.1 hRel.1 hRel.2.1 hRel.2.2.1 hT.2.2.2.2.2.2.2.1 hq ?_ hc hs hd (fun q H1 hP hD hS => kk H1 _ q 0 (hRel.nw hlt (by omega) (fun _ q => absurd q (by omega)) (hfs q 0) hP hD hS))
  intro j hj
  unfold vp_V
  rw [List.getD_eq_getElem?_getD, fvals_at hj]
  simp only [Option.getD_some]
  obtain ⟨-, -, g3⟩ := t8 j hj
  unfold fval
  split at g3
  · rename_i z; rw [g3, z]; simp [gI, newO, rv, defaultValue]
  · rename_i z; rw [g3, z]; simp [gJ, newO, rv, defaultValue]
  · rename_i z; rw [g3, z]; simp [gI, newO, rv, defaultValue]
  · rename_i z
    rw [z]
    rcases g3 with ⟨q, g3⟩ | ⟨q, g3⟩ <;> rw [g3] <;> simp [gR, newO, rv, vr, defaultValue]
  · exact g3.elim
end SimHq
end
section
section SimIv
variable {p : Program} {l : Launch} {e : Env} {R : Room} {s : State} {m : MethodId} {args : Array Value} {below : List Frame} {meth : Method} {c : Code} {Q : State → Prop} {D : va_G} {A : Nat → Prop} {b N0 : Nat} {xs : Nat → Int32} {aK aV : Nat → Nat} {y : Mth} {pc len : Nat} {i : Instr} {L S L' S' : List Value} {h h1 : Hp} {H : Heap} {locs : List Loc} {cells slots : Nat} {ls : Array Slot} {adr : Nat → Nat} {cA : Nat → ClassId}
theorem hp_sim (C : Cx p s m args meth c y) (hT : Tb D A b N0 xs aK aV s) (hd : decode y.2.2.2.1 pc = .ok (i, len)) (hl : ilen i = 0 ∨ len = ilen i) (ha : actHp y i L S h = some (.inl (L', S', h1))) (hRel : Rel D A b N0 xs aK s adr cA H locs h) (hVS : VK h S) (hc : cells + (nxt h1 - nxt h) ≤ R.cells) (hs : slots + (tot h1 - tot h) ≤ R.slots) :
    L' = L ∧ nxt h ≤ nxt h1 ∧ tot h ≤ tot h1 ∧ VK h1 S' ∧ ((∀ H1 locs1 adr1 cA1, Rel D A b N0 xs aK s adr1 cA1 H1 locs1 h1 → (∀ a, a < nxt h → adr1 a = adr a) → (∀ a, 1000000 ≤ a → adr1 a = adr a) → W p l e R s m args below meth c H1 locs1 (cells + (nxt h1 - nxt h)) (slots + (tot h1 - tot h)) Q (F0 m (pc + len) ls (S'.map (rv adr1)))) → W p l e R s m args below meth c H locs cells slots Q (F0 m pc ls (S.map (rv adr)))) := by
  have hR : HR h := hRel.2.2.2.2.2.2.2.2
  have c1 : ∀ {a : Value} {S : List Value}, VK h (a :: S) → VK h S := fun q => (List.forall_mem_cons.mp q).2
  have cc : ∀ {a : Value} {S : List Value}, vok h a → VK h S → VK h (a :: S) := fun q z => List.forall_mem_cons.mpr ⟨q, z⟩
  -- a step that makes nothing new
  have k0 : (∀ H1 locs1 adr1 cA1, Rel D A b N0 xs aK s adr1 cA1 H1 locs1 h1 → (∀ a, a < nxt h → adr1 a = adr a) → (∀ a, 1000000 ≤ a → adr1 a = adr a) → W p l e R s m args below meth c H1 locs1 (cells + (nxt h1 - nxt h)) (slots + (tot h1 - tot h)) Q (F0 m (pc + len) ls (S'.map (rv adr1)))) → nxt h1 = nxt h → tot h1 = tot h → ∀ H1 locs1, Rel D A b N0 xs aK s adr cA H1 locs1 h1 → W p l e R s m args below meth c H1 locs1 cells slots Q (F0 m (pc + len) ls (S'.map (rv adr))) := by
    intro k e1 e2 H1 locs1 hr
    have := k H1 locs1 adr cA hr (fun _ _ => rfl) (fun _ _ => rfl)
    rw [e1, e2, Nat.sub_self, Nat.sub_self] at this
    exact this
  -- a step that makes one cell
  have kn : ∀ (kd n : Nat) (S0 : List Value), nxt h < 900000 → h1 = newO h kd n → S' = .ref (nxt h) :: S0 → VK h S0 → ((∀ H1 locs1 adr1 cA1, Rel D A b N0 xs aK s adr1 cA1 H1 locs1 h1 → (∀ a, a < nxt h → adr1 a = adr a) → (∀ a, 1000000 ≤ a → adr1 a = adr a) → W p l e R s m args below meth c H1 locs1 (cells + (nxt h1 - nxt h)) (slots + (tot h1 - tot h)) Q (F0 m (pc + len) ls (S'.map (rv adr1)))) → ∀ H1 locs1 q cq, Rel D A b N0 xs aK s (va_up adr (nxt h) q) (va_up cA (nxt h) cq) H1 locs1 (newO h kd n) → W p l e R s m args below meth c H1 locs1 (cells + 1) (slots + n) Q (F0 m (pc + len) ls (.ref q :: S0.map (rv adr)))) ∧ nxt h ≤ nxt h1 ∧ tot h ≤ tot h1 ∧ VK h1 S' ∧ cells + 1 ≤ R.cells ∧ slots + n ≤ R.slots := by
    intro kd n S0 hlt e1 e2 hv
    subst e1
    subst e2
    rw [nxt_new] at hc
    rw [tot_new] at hs
    have ad : ∀ (q : Nat) a, a < nxt h → va_up adr (nxt h) q a = adr a := fun q a ha => by simp [va_up, Nat.ne_of_lt ha]
    have ad2 : ∀ (q : Nat) a, 1000000 ≤ a → va_up adr (nxt h) q a = adr a := fun q a ha => by simp [va_up, show ¬ a = nxt h by omega]
    refine ⟨fun k H1 locs1 q cq hr => ?_, by rw [nxt_new]; omega, by rw [tot_new]; omega, List.forall_mem_cons.mpr ⟨Or.inl (by rw [nxt_new]; exact Nat.lt_succ_self _), fun v hv' => vok_grow (h := h) (h1 := newO h kd n) (by rw [nxt_new]; exact Nat.le_succ _) (hv v hv')⟩, by omega, by omega⟩
    have := k H1 locs1 _ _ hr (ad q) (ad2 q)
    rw [nxt_new, tot_new, show nxt h + 1 - nxt h = 1 by omega, show tot h + n - tot h = n by omega, List.map_cons, rvs_ext hv (ad q) (ad2 q)] at this
    have e3 : rv (va_up adr (nxt h) q) (.ref (nxt h)) = .ref q := by simp [rv, va_up]
    rw [e3] at this
    exact this
  unfold actHp at ha
  split at ha
  · have hl := hl.resolve_left (Nat.succ_ne_zero _); subst hl
    split at ha
    · rename_i ci f hf
      split at ha
      · rename_i hk
        cases ha
        exact ⟨rfl, Nat.le_refl _, Nat.le_refl _, cc (vok_fval hR _ _ _) (c1 hVS), fun k => hp_get C hT hRel hd hf hk (k0 k rfl rfl H locs hRel)⟩
      · cases ha
    · cases ha
  · have hl := hl.resolve_left (Nat.succ_ne_zero _); subst hl
    split at ha
    · rename_i a0 S1 o1 ci f hf
      split at ha
      · rename_i hk
        have gJ0 : ∀ (k t : Nat) (x : Int32), k ≠ f → fval (sI h a0 f x) a0 t k = fval h a0 t k := by
          intro k t x hkf; simp [fval, gI, gJ, gR, sI, hkf]
        split at ha
        · rename_i x z1; cases ha
          have z1 : (fkind ci f).1 = 0 := z1
          exact ⟨rfl, Nat.le_refl _, Nat.le_refl _, c1 (c1 hVS), fun k => hp_put (h1 := sI h a0 f x) (v := .int x) C hT hRel hd hf hk.1 hk.2 (Or.inl ⟨z1, x, rfl⟩) rfl hR.1 (fun x hx => ⟨sI_row hx, rfl, rfl⟩) (fun k t hkf => gJ0 k t x hkf) (by simp [z1, fval, gI, sI]) (k0 k rfl rfl)⟩
        · split at ha
          · rename_i x z1 hx; cases ha
            have z1 : (fkind ci f).1 = 3 := z1
            exact ⟨rfl, Nat.le_refl _, Nat.le_refl _, c1 (c1 hVS), fun k => hp_put (h1 := sI h a0 f x) (v := .int x) C hT hRel hd hf hk.1 hk.2 (Or.inr (Or.inl ⟨z1, hx.elim (fun q => Or.inl (by rw [q])) (fun q => Or.inr (by rw [q]))⟩)) rfl hR.1 (fun x hx => ⟨sI_row hx, rfl, rfl⟩) (fun k t hkf => gJ0 k t x hkf) (by simp [z1, fval, gI, sI]) (k0 k rfl rfl)⟩
          · cases ha
        · rename_i x z1; cases ha
          have z1 : (fkind ci f).1 = 1 := z1
          exact ⟨rfl, Nat.le_refl _, Nat.le_refl _, c1 (c1 hVS), fun k => hp_put (h1 := sJ h a0 f x) (v := .long x) C hT hRel hd hf hk.1 hk.2 (Or.inr (Or.inr (Or.inl ⟨z1, x, rfl⟩))) rfl hR.1 (fun x hx => ⟨rfl, sJ_row hx, rfl⟩) (fun k t hkf => by simp [fval, gI, gJ, gR, sJ, hkf]) (by simp [z1, fval, gJ, sJ]) (k0 k rfl rfl)⟩
        · split at ha
          · rename_i x z1 hx0; cases ha
            have z1 : (fkind ci f).1 = 2 := z1
            exact ⟨rfl, Nat.le_refl _, Nat.le_refl _, c1 (c1 hVS), fun k => hp_put (h1 := sR h a0 f (some x)) (v := .ref x) C hT hRel hd hf hk.1 hk.2 (Or.inr (Or.inr (Or.inr ⟨z1, some x, rfl⟩))) rfl (fun q k z hz => by
              have hz2 : (if q = a0 ∧ k = f then some x else h.2.2.1 q k) = some z := hz
              split at hz2
              · cases hz2; exact hx0
              · exact hR.1 q k z hz2) (fun x hx => ⟨rfl, rfl, sR_row hx⟩) (fun k t hkf => by simp [fval, gI, gJ, gR, sR, hkf]) (by simp [z1, fval, gR, sR, vr]) (k0 k rfl rfl)⟩
          · cases ha
        · rename_i z1; cases ha
          have z1 : (fkind ci f).1 = 2 := z1
          exact ⟨rfl, Nat.le_refl _, Nat.le_refl _, c1 (c1 hVS), fun k => hp_put (h1 := sR h a0 f none) (v := .null) C hT hRel hd hf hk.1 hk.2 (Or.inr (Or.inr (Or.inr ⟨z1, none, rfl⟩))) rfl (fun q k z hz => by
            have hz2 : (if q = a0 ∧ k = f then none else h.2.2.1 q k) = some z := hz
            split at hz2
            · cases hz2
            · exact hR.1 q k z hz2) (fun x hx => ⟨rfl, rfl, sR_row hx⟩) (fun k t hkf => by simp [fval, gI, gJ, gR, sR, hkf]) (by simp [z1, fval, gR, sR, vr]) (k0 k rfl rfl)⟩
        · cases ha
      · cases ha
    · cases ha
  · have hl := hl.resolve_left (Nat.succ_ne_zero _); subst hl
    split at ha
    · rename_i hk
      cases ha
      exact ⟨rfl, Nat.le_refl _, Nat.le_refl _, cc trivial (c1 (c1 hVS)), fun k => hp_iald C hT hRel hd hk.1 hk.2 (k0 k rfl rfl H locs hRel)⟩
    · cases ha
  · have hl := hl.resolve_left (Nat.succ_ne_zero _); subst hl
    split at ha
    · rename_i hk
      cases ha
      exact ⟨rfl, Nat.le_refl _, Nat.le_refl _, cc trivial (c1 (c1 hVS)), fun k => hp_bald C hT hRel hd hk.1 hk.2 (k0 k rfl rfl H locs hRel)⟩
    · cases ha
  · have hl := hl.resolve_left (Nat.succ_ne_zero _); subst hl
    split at ha
    · rename_i hk
      cases ha
      exact ⟨rfl, Nat.le_refl _, Nat.le_refl _, cc (vok_vr hR _ _) (c1 (c1 hVS)), fun k => hp_aald C hT hRel hd hk.1 hk.2 (k0 k rfl rfl H locs hRel)⟩
    · cases ha
  · have hl := hl.resolve_left (Nat.succ_ne_zero _); subst hl
    split at ha
    · rename_i hk
      cases ha
      exact ⟨rfl, Nat.le_refl _, Nat.le_refl _, c1 (c1 (c1 hVS)), fun k => hp_iast C hT hRel hd hk.1 hk.2 (k0 k rfl rfl)⟩
    · cases ha
  · have hl := hl.resolve_left (Nat.succ_ne_zero _); subst hl
    split at ha
    · rename_i hk
      cases ha
      exact ⟨rfl, Nat.le_refl _, Nat.le_refl _, c1 (c1 (c1 hVS)), fun k => hp_bast C hT hRel hd hk.1 hk.2 (k0 k rfl rfl)⟩
    · cases ha
  · have hl := hl.resolve_left (Nat.succ_ne_zero _); subst hl
    split at ha
    · rename_i hk
      cases ha
      exact ⟨rfl, Nat.le_refl _, Nat.le_refl _, c1 (c1 (c1 hVS)), fun k => hp_aast C hT hRel hd hk.2 hk.1 (k0 k rfl rfl)⟩
    · cases ha
  · have hl := hl.resolve_left (Nat.succ_ne_zero _); subst hl
    split at ha
    · rename_i hk
      cases ha
      exact ⟨rfl, Nat.le_refl _, Nat.le_refl _, cc trivial (c1 hVS), fun k => hp_alen C hT hRel hd hk (k0 k rfl rfl H locs hRel)⟩
    · cases ha
  · have hl := hl.resolve_left (Nat.succ_ne_zero _); subst hl
    split at ha
    · rename_i hk
      cases ha
      obtain ⟨g1, g2, g3, g4, g5, g6⟩ := kn _ _ _ hk.2.2 rfl rfl (c1 hVS)
      exact ⟨rfl, g2, g3, g4, fun k => hp_newi C hT hRel hd hk.1 hk.2.1 hk.2.2 g5 g6 (g1 k)⟩
    · cases ha
  · have hl := hl.resolve_left (Nat.succ_ne_zero _); subst hl
    split at ha
    · rename_i hk
      cases ha
      obtain ⟨g1, g2, g3, g4, g5, g6⟩ := kn _ _ _ hk.2.2 rfl rfl (c1 hVS)
      exact ⟨rfl, g2, g3, g4, fun k => hp_newb C hT hRel hd hk.1 hk.2.1 hk.2.2 g5 g6 (g1 k)⟩
    · cases ha
  · have hl := hl.resolve_left (Nat.succ_ne_zero _); subst hl
    split at ha
    · rename_i kd hkd
      split at ha
      · rename_i hk
        cases ha
        obtain ⟨g1, g2, g3, g4, g5, g6⟩ := kn _ _ _ hk.2.2 rfl rfl (c1 hVS)
        exact ⟨rfl, g2, g3, g4, fun k => hp_newq C hT hRel hd hkd hk.1 hk.2.1 hk.2.2 g5 g6 (g1 k)⟩
      · cases ha
    · cases ha
  · have hl := hl.resolve_left (Nat.succ_ne_zero _); subst hl
    split at ha
    · rename_i ci hkd
      split at ha
      · rename_i hk
        cases ha
        obtain ⟨g1, g2, g3, g4, g5, g6⟩ := kn _ _ _ hk rfl rfl hVS
        exact ⟨rfl, g2, g3, g4, fun k => hp_new C hT hRel hd hkd hk g5 g6 (g1 k)⟩
      · cases ha
    · cases ha
  · cases ha
end SimIv
end
section
-- calls and returns
theorem va_Zq.moved2 {C n d : String} {A : Nat → Prop} {u U : State} {H : Heap} (hvm : u.vm.Alike U.vm) (h : va_Zq C n d A u H) : va_Zq C n d A U H := h.elim (fun q => Or.inl (q.moved hvm)) (fun ⟨t, q⟩ => Or.inr ⟨t, q.moved hvm⟩)
theorem va_Zq.kept2 {C n d : String} {A : Nat → Prop} {U : State} {H H1 : Heap} (hq : ∀ a : Nat, a < H.size → ¬ A a → H1[a]? = H[a]?) (h : va_Zq C n d A U H) : va_Zq C n d A U H1 := h.elim (fun q => Or.inl (q.kept hq)) (fun ⟨t, q⟩ => Or.inr ⟨t, q.kept hq⟩)
theorem va_Zq.narrow2 {C n d : String} {A B : Nat → Prop} {U : State} {H : Heap} (hAB : ∀ q, B q → A q) (h : va_Zq C n d A U H) : va_Zq C n d B U H := h.elim (fun q => Or.inl (q.narrow hAB)) (fun ⟨t, q⟩ => Or.inr ⟨t, q.narrow hAB⟩)
theorem Tb.moved {D : va_G} {A A1 : Nat → Prop} {b N0 : Nat} {xs : Nat → Int32} {aK aV : Nat → Nat} {s U : State} {H : Heap} {locs : List Loc} (hT : Tb D A b N0 xs aK aV s) (hS : va_S A s.heap H locs) (hU : U.heap = H) (hW : s.WarmedH U.vm) (hAA : ∀ q, A1 q → A q) (hA1 : ∀ q, U.heap.size ≤ q → A1 q) : Tb D A1 b N0 xs aK aV U := by
  obtain ⟨t1, t2, t3, t4, t5, t6, t7, t8, t9, t10, t11⟩ := hT
  refine ⟨va_K.moved hW.alike t1, fun e he h3 => (t2 e he h3).warmM hW, fun kd hk => (t3 kd hk).moved hW.alike, fun e he => (t4 e he).warm hW, ?_, ?_, fun q => t7 (hAA b q), hA1, ?_, ?_, ?_⟩
  · rw [hU]; exact (t5.moved hW.alike).kept (hS.2.1 b t6 t7)
  · rw [hU]; exact Nat.lt_of_lt_of_le t6 hS.1
  · rw [hU]; exact ((t9.moved hW.alike).kept hS.2.1).narrow hAA
  · rw [hU]; exact ((t10.moved hW.alike).kept hS.2.1).narrow hAA
  · rw [hU]; exact va_Zq.narrow2 hAA (va_Zq.kept2 hS.2.1 (va_Zq.moved2 hW.alike t11))
theorem Tb.same {D : va_G} {A : Nat → Prop} {b N0 : Nat} {xs : Nat → Int32} {aK aV : Nat → Nat} {s U : State} (hT : Tb D A b N0 xs aK aV s) (hv : U.vm = s.vm) (hh : U.heap = s.heap) : Tb D A b N0 xs aK aV U := by
  obtain ⟨t1, t2, t3, t4, t5, t6, t7, t8, t9, t10, t11⟩ := hT
  have ha : s.vm.Alike U.vm := by rw [hv]; exact Vm.Alike.refl _
  refine ⟨va_K.moved ha t1, fun e he h3 => (t2 e he h3).same rfl hv.symm, fun kd hk => (t3 kd hk).moved ha, fun e he => (t4 e he).same hv, ?_, ?_, t7, ?_, ?_, ?_, ?_⟩
  · rw [hh]; exact t5.moved ha
  · rw [hh]; exact t6
  · rw [hh]; exact t8
  · rw [hh]; exact t9.moved ha
  · rw [hh]; exact t10.moved ha
  · rw [hh]; exact va_Zq.moved2 ha t11
/-- the relation, told of another state with the same tables and another frame -/
theorem Rel.to {D : va_G} {A A1 : Nat → Prop} {b N0 : Nat} {xs : Nat → Int32} {aK : Nat → Nat} {s t : State} {adr : Nat → Nat} {cA : Nat → ClassId} {H : Heap} {locs locs1 : List Loc} {h : Hp} (hR : Rel D A b N0 xs aK s adr cA H locs h) (hv : s.vm.Alike t.vm) (hA : ∀ (k : Nat) (q : Nat × va_E), (wsO adr cA h)[k]? = some q → A q.1 → A1 q.1) (hS : va_S A1 t.heap H locs1) : Rel D A1 b N0 xs aK t adr cA H locs1 h := by
  obtain ⟨r1, r2, r3, r4, r5⟩ := hR
  exact ⟨r1, r2.weaken hA, hS, fun a h0 h1 h2 h3 => ⟨arrOfT_moved hv (r4 a h0 h1 h2 h3).1, (r4 a h0 h1 h2 h3).2.moved hv⟩, r5⟩
def rmD (d mc ms : Nat) : Room := { frames := d + 5, cells := mc, slots := ms, locals := 64 * (d + 5) }
def PcR (D : va_G) (b N0 : Nat) (xs : Nat → Int32) (aK aV : Nat → Nat) (as : List Value) (h : Hp) (adr : Nat → Nat) (cA : Nat → ClassId) (sz : Nat) : Array Value → State → Prop :=
  va_Pc (as.map (rv adr)) (fun U => U.heap.size = sz ∧ Tb D (va_A (wsO adr cA h) sz) b N0 xs aK aV U ∧ Rel D (va_A (wsO adr cA h) sz) b N0 xs aK U adr cA U.heap [] h)
def QcR (D : va_G) (b N0 : Nat) (xs : Nat → Int32) (aK : Nat → Nat) (h h' : Hp) (v : Option Value) (adr : Nat → Nat) (cA : Nat → ClassId) (sz : Nat) : Array Value → State → Outcome → State → Prop :=
  fun _ st o t => (∃ adr' cA', o = .returned (v.map (rv adr')) ∧ (∀ a, a < nxt h → adr' a = adr a) ∧ (∀ a, 1000000 ≤ a → adr' a = adr a) ∧ Rel D (va_A (wsO adr cA h) sz) b N0 xs aK t adr' cA' t.heap [] h') ∧ va_F (va_A (wsO adr cA h) sz) st t
theorem PcR_blind {D : va_G} {b N0 : Nat} {xs : Nat → Int32} {aK aV : Nat → Nat} {as : List Value} {h : Hp} {adr : Nat → Nat} {cA : Nat → ClassId} {sz : Nat} : FrameBlind (PcR D b N0 xs aK aV as h adr cA sz) := by
  intro a U g mk ⟨h1, h2, h3, h4⟩
  exact ⟨h1, h2, h3.same rfl rfl, h4.to (Vm.Alike.refl _) (fun _ _ _ q => q) va_S.rf⟩
theorem spread_at (adr : Nat → Nat) (as : List Value) : (lg_sl (as.map (rv adr))).length = (spread as).length ∧ ∀ (i : Nat) (v : Value), (spread as)[i]? = some v → v ≠ un → (lg_sl (as.map (rv adr)))[i]? = some (.val (rv adr v)) := by
  induction as with
  | nil => exact ⟨rfl, fun i v h => by simp [spread] at h⟩
  | cons a as ih =>
    have e1 : lg_sl ((a :: as).map (rv adr)) = (if a.category = 2 then [Slot.val (rv adr a), Slot.second] else [Slot.val (rv adr a)]) ++ lg_sl (as.map (rv adr)) := by
      simp only [lg_sl, List.map_cons, List.flatMap_cons, rv_cat]
    have e2 : spread (a :: as) = (if a.category = 2 then [a, un] else [a]) ++ spread as := by simp only [spread, List.flatMap_cons]
    rw [e1, e2]
    by_cases hc : a.category = 2
    · rw [if_pos hc, if_pos hc]
      refine ⟨by simp [ih.1], fun i v hv hn => ?_⟩
      match i with
      | 0 => simp at hv; subst hv; simp
      | 1 => simp at hv; exact absurd hv.symm hn
      | i + 2 => simp at hv ⊢; exact ih.2 i v hv hn
    · rw [if_neg hc, if_neg hc]
      refine ⟨by simp [ih.1], fun i v hv hn => ?_⟩
      match i with
      | 0 => simp at hv; subst hv; simp
      | i + 1 => simp at hv ⊢; exact ih.2 i v hv hn
theorem LR_ent {adr : Nat → Nat} {as : List Value} {n : Nat} (hn : (spread as).length ≤ n) : LR adr (ent as n) ((lg_sl (as.map (rv adr)) ++ List.replicate (n - (lg_sl (as.map (rv adr))).length) Slot.unset).toArray) n := by
  obtain ⟨s1, s2⟩ := spread_at adr as
  have hl := lv_entry (as.map (rv adr)) (n := n) (by rw [s1]; exact hn)
  refine ⟨hl.1, ?_, hl.2.1, fun i v hi hv => ?_⟩
  · unfold ent
    rw [List.length_append, List.length_replicate]
    omega
  · unfold ent at hi
    rcases Nat.lt_or_ge i (spread as).length with q | q
    · rw [List.getElem?_append_left q] at hi
      rw [List.getElem?_toArray, List.getElem?_append_left (by rw [s1]; exact q)]
      exact s2 i v hi hv
    · rw [List.getElem?_append_right q] at hi
      exact absurd (List.eq_of_mem_replicate (List.mem_of_getElem? hi)) hv
section SimCl
variable {p : Program} {l : Launch} {e : Env} {R : Room} {s : State} {m : MethodId} {args : Array Value} {below : List Frame} {meth : Method} {c : Code} {Q : State → Prop} {D : va_G} {A : Nat → Prop} {b N0 : Nat} {xs : Nat → Int32} {aK aV : Nat → Nat} {y : Mth} {pc len : Nat} {i : Instr} {L S L' S' : List Value} {h h1 : Hp} {H : Heap} {locs : List Loc} {cells slots : Nat} {ls : Array Slot} {adr : Nat → Nat} {cA : Nat → ClassId}
/-- behind a call -/
theorem cl_on {mc ms : Nat} {a : Array Value} {rest st0 : List Value} {v : Option Value} (hT : Tb D A b N0 xs aK aV s) (hRel : Rel D A b N0 xs aK s adr cA H locs h) (hr : va_Run p l e R s m args below meth c H locs cells slots mc ms (F0 m pc ls st0) rest (QcR D b N0 xs aK h h1 v adr cA H.size a) (va_A (wsO adr cA h) H.size))
    (kk : ∀ H1 locs1 adr1 cA1, Rel D A b N0 xs aK s adr1 cA1 H1 locs1 h1 → (∀ a, a < nxt h → adr1 a = adr a) → (∀ a, 1000000 ≤ a → adr1 a = adr a) → W p l e R s m args below meth c H1 locs1 (cells + mc) (slots + ms) Q (F0 m (pc + 3) ls ((v.map (rv adr1)).toList ++ rest))) : W p l e R s m args below meth c H locs cells slots Q (F0 m pc ls st0) := by
  have hAA : ∀ q, va_A (wsO adr cA h) H.size q → A q := by
    rintro q (⟨k, e, hk⟩ | hq)
    · exact hRel.2.1.2 k _ hk
    · exact hT.2.2.2.2.2.2.2.1 q (Nat.le_trans hRel.2.2.1.1 hq)
  have hS := hRel.2.2.1
  intro T hT0 X
  obtain ⟨v', st₀, t, T', L, h0, X', hL, e1, e2, ⟨⟨adr1, cA1, hv, g1, g2, g3⟩, hz, hk⟩, st⟩ := hr T hT0 X
  have hv' : v' = v.map (rv adr1) := by injection hv
  subst hv'
  rw [h0] at hz hk
  have hva : t.vm.Alike s.vm := by rw [← e2]; exact X'.warmed.alike.symm
  obtain ⟨t2, a1, b1⟩ := kk T'.heap (locs ++ L) adr1 cA1 (by
    rw [e1]
    refine g3.to hva (fun k q _ hq => hAA _ hq) ⟨Nat.le_trans hS.1 hz, fun q h1 h2 => ?_, fun q hq => ?_⟩
    · rw [hk q (Nat.lt_of_lt_of_le h1 hS.1) (fun z => h2 (hAA q z))]
      exact hS.2.1 q h1 h2
    · rcases List.mem_append.mp hq with h | h
      · exact hS.2.2 q h
      · exact hAA _ (hL q h)) g1 g2 T' rfl X'
  exact ⟨t2, st t2 a1, b1⟩
/-- what a callee asks holds here -/
theorem cl_pre {as : List Value} (hT : Tb D A b N0 xs aK aV s) (hRel : Rel D A b N0 xs aK s adr cA H locs h) (U : State) (hU : U.heap = H) (hW : s.WarmedH U.vm) : PcR D b N0 xs aK aV as h adr cA H.size (as.map (rv adr)).toArray U := by
  have hAA : ∀ q, va_A (wsO adr cA h) H.size q → A q := by
    rintro q (⟨k, e, hk⟩ | hq)
    · exact hRel.2.1.2 k _ hk
    · exact hT.2.2.2.2.2.2.2.1 q (Nat.le_trans hRel.2.2.1.1 hq)
  refine ⟨rfl, by rw [hU], hT.moved hRel.2.2.1 hU hW hAA (fun q hq => Or.inr (by rw [← hU]; exact hq)), ?_⟩
  rw [hU]
  exact hRel.to hW.alike (fun k q hk _ => va_A.in hk) (by rw [hU]; exact va_S.rf)
/-- a callee's contract out of its walk -/
theorem cl_met {y' : Mth} {as : List Value} {v : Option Value} {d : Nat} {sz : Nat} (hy : PY y') (hsp : (spread as).length ≤ y'.2.2.2.2.1)
    (hw : ∀ (p : Program) (e : Env) (s : State) (m : MethodId) (args : Array Value) (below : List Frame) (meth : Method) (c : Code) (ls : Array Slot), Cx p s m args meth c y' → Tb D (va_A (wsO adr cA h) sz) b N0 xs aK aV s → Rel D (va_A (wsO adr cA h) sz) b N0 xs aK s adr cA s.heap [] h → LR adr (ent as y'.2.2.2.2.1) ls y'.2.2.2.2.1 → W p l e (rmD d (nxt h1 - nxt h) (tot h1 - tot h)) s m args below meth c s.heap [] 0 0 (MQ below (QcR D b N0 xs aK h h1 v adr cA sz) args s (nxt h1 - nxt h) (tot h1 - tot h) (va_A (wsO adr cA h) sz)) (F0 m 0 ls [])) :
    Met l y'.2.2.1 (.code y'.2.2.1 y'.2.2.2.1 y'.2.2.2.2.1 y'.2.2.2.2.2 :: gt) (rmD d (nxt h1 - nxt h) (tot h1 - tot h)) (PcR D b N0 xs aK aV as h adr cA sz) (QcR D b N0 xs aK h h1 v adr cA sz) (nxt h1 - nxt h) (tot h1 - tot h) (va_A (wsO adr cA h) sz) := by
  refine Met.ofW (cc := y'.2.2.2.1) (maxL := y'.2.2.2.2.1) (ret := y'.2.2.2.2.2) hy.2.2.2.2.2.2 rfl ?_
  intro p e s m args below meth c s₁ B hml hv
  obtain ⟨rfl, hsz, hTb, hRel⟩ := hv
  have hts := atoms_spec (ws := .code y'.2.2.1 y'.2.2.2.1 y'.2.2.2.2.1 y'.2.2.2.2.2 :: gt) B.pre
  have hown : s.vm.findClass y'.2.2.1.cls = some m.cls := findClass_of_methodNamed B.named
  rw [lg_entry_eq]
  refine hw p e s m _ below meth c _ ⟨B.exec, B.bytes, hml, by rw [hy.2.2.2.1]; exact hown, fun w hw => hts w (List.mem_cons_of_mem _ hw), B.returns, fun hi => ?_, B.notSynchronized⟩ hTb hRel (LR_ent hsp)
  rw [(name_of_methodNamed B.named B.method).1]
  exact hy.2.2.2.2.2.1 hi
/-- the return of a callee -/
theorem cl_ret {v : Option Value} {sz mc ms : Nat} {h0 : Hp} {adr0 : Nat → Nat} {cA0 : Nat → ClassId} (C : Cx p s m args meth c y) (hd : decode y.2.2.2.1 pc = .ok (i, len)) (hl : ilen i = 0 ∨ len = ilen i) (ha : actRt y i S = some (.inr (.inr (.inl v)))) (hRel : Rel D (va_A (wsO adr0 cA0 h0) sz) b N0 xs aK s adr cA H locs h) (hc : cells ≤ mc) (hs : slots ≤ ms) (g1 : ∀ a, a < nxt h0 → adr a = adr0 a) (g2 : ∀ a, 1000000 ≤ a → adr a = adr0 a) :
    W p l e R s m args below meth c H locs cells slots (MQ below (QcR D b N0 xs aK h0 h v adr0 cA0 sz) args s mc ms (va_A (wsO adr0 cA0 h0) sz)) (F0 m pc ls (S.map (rv adr))) := by
  obtain ⟨hx, hb, hml, hown, hts, hrt, hin, hlk⟩ := C
  refine W.widen hc hs ?_
  have hq : ∀ v0 : Option Value, v0 = v → ∀ t : State, t.heap = H → s.WarmedH t.vm → QcR D b N0 xs aK h0 h v adr0 cA0 sz args s (.returned (v0.map (rv adr))) t := by
    intro v0 hv0 t ht hW
    subst hv0
    refine ⟨⟨adr, cA, rfl, g1, g2, ?_⟩, hRel.2.2.1.F ht⟩
    rw [ht]
    exact hRel.to hW.alike (fun _ _ _ q => q) (by rw [ht]; exact va_S.rf)
  unfold actRt at ha
  split at ha
  · have hl := hl.resolve_left (Nat.succ_ne_zero _); subst hl
    split at ha
    · rename_i w hcnd
      cases ha
      rcases hcnd with hcnd | ⟨hcnd, hw⟩
      · exact W.zret (v := w) (ty := .int) hx hb (hrt.trans hcnd) rfl (hq (some (.int w)) rfl) hRel.2.2.1.2.2 hd
      · exact W.zret (v := w) (ty := .boolean) hx hb (hrt.trans hcnd) (by rcases hw with rfl | rfl <;> rfl) (hq (some (.int w)) rfl) hRel.2.2.1.2.2 hd
    · cases ha
  · have hl := hl.resolve_left (Nat.succ_ne_zero _); subst hl
    split at ha
    · rename_i w hcnd
      cases ha
      exact W.lret (v := w) hx hb (hrt.trans hcnd) (hq (some (.long w)) rfl) hRel.2.2.1.2.2 hd
    · cases ha
  · have hl := hl.resolve_left (Nat.succ_ne_zero _); subst hl
    split at ha
    · rename_i hcnd
      cases ha
      exact W.vret hx hb (hrt.trans hcnd) (hq none rfl) hRel.2.2.1.2.2 hd
    · cases ha
  · cases ha
end SimCl
end
section
-- the texts: String.length and charAt
set_option maxRecDepth 20000 in
theorem ws_len_c : Cond.code yJ0_length_8abf5 cJ0_length_8abf5 1 (some .int) ∈ gt := (gt_in (tch2 (List.mem_of_getElem? (i := 147) rfl)) rfl)
set_option maxRecDepth 20000 in
theorem ws_len_i : Cond.initialized yJ0_length_8abf5.cls ∈ gt := (gt_in (tch1 (List.mem_of_getElem? (i := 13) rfl)) rfl)
set_option maxRecDepth 20000 in
theorem ws_len_m : Cond.instanceMethod yJ0_length_8abf5 ∈ gt := (gt_in (tch2 (List.mem_of_getElem? (i := 145) rfl)) rfl)
set_option maxRecDepth 20000 in
theorem ws_len_v : Cond.selects "java/lang/String" yJ0_length_8abf5 yJ0_length_8abf5 ∈ gt := (gt_in (tch2 (List.mem_of_getElem? (i := 146) rfl)) rfl)
set_option maxRecDepth 20000 in
theorem ws_cod_c : Cond.code yJ0_coder_7d493 cJ0_coder_7d493 1 (some .byte) ∈ gt := (gt_in (tch2 (List.mem_of_getElem? (i := 151) rfl)) rfl)
set_option maxRecDepth 20000 in
theorem ws_cod_i : Cond.initialized yJ0_coder_7d493.cls ∈ gt := (gt_in (tch1 (List.mem_of_getElem? (i := 13) rfl)) rfl)
set_option maxRecDepth 20000 in
theorem ws_cod_m : Cond.instanceMethod yJ0_coder_7d493 ∈ gt := (gt_in (tch2 (List.mem_of_getElem? (i := 149) rfl)) rfl)
set_option maxRecDepth 20000 in
theorem ws_cod_v : Cond.selects "java/lang/String" yJ0_coder_7d493 yJ0_coder_7d493 ∈ gt := (gt_in (tch2 (List.mem_of_getElem? (i := 150) rfl)) rfl)
set_option maxRecDepth 20000 in
theorem ws_chr_c : Cond.code yJ0_charAt_5068e cJ0_charAt_5068e 2 (some .char) ∈ gt := (gt_in (tch2 (List.mem_of_getElem? (i := 157) rfl)) rfl)
set_option maxRecDepth 20000 in
theorem ws_chr_i : Cond.initialized yJ0_charAt_5068e.cls ∈ gt := (gt_in (tch1 (List.mem_of_getElem? (i := 13) rfl)) rfl)
set_option maxRecDepth 20000 in
theorem ws_chr_m : Cond.instanceMethod yJ0_charAt_5068e ∈ gt := (gt_in (tch2 (List.mem_of_getElem? (i := 155) rfl)) rfl)
set_option maxRecDepth 20000 in
theorem ws_chr_v : Cond.selects "java/lang/String" yJ0_charAt_5068e yJ0_charAt_5068e ∈ gt := (gt_in (tch2 (List.mem_of_getElem? (i := 156) rfl)) rfl)
set_option maxRecDepth 20000 in
theorem ws_lat_c : Cond.code yJ0_isLatin1_aae02 cJ0_isLatin1_aae02 1 (some .boolean) ∈ gt := (gt_in (tch2 (List.mem_of_getElem? (i := 161) rfl)) rfl)
set_option maxRecDepth 20000 in
theorem ws_lat_i : Cond.initialized yJ0_isLatin1_aae02.cls ∈ gt := (gt_in (tch1 (List.mem_of_getElem? (i := 13) rfl)) rfl)
set_option maxRecDepth 20000 in
theorem ws_lat_m : Cond.instanceMethod yJ0_isLatin1_aae02 ∈ gt := (gt_in (tch2 (List.mem_of_getElem? (i := 159) rfl)) rfl)
set_option maxRecDepth 20000 in
theorem ws_lat_v : Cond.selects "java/lang/String" yJ0_isLatin1_aae02 yJ0_isLatin1_aae02 ∈ gt := (gt_in (tch2 (List.mem_of_getElem? (i := 160) rfl)) rfl)
set_option maxRecDepth 20000 in
theorem ws_lch_c : Cond.code yJ1_charAt_3b067 cJ1_charAt_3b067 2 (some .char) ∈ gt := (gt_in (tch2 (List.mem_of_getElem? (i := 164) rfl)) rfl)
set_option maxRecDepth 20000 in
theorem ws_lch_i : Cond.initialized yJ1_charAt_3b067.cls ∈ gt := (gt_in (tch1 (List.mem_of_getElem? (i := 14) rfl)) rfl)
set_option maxRecDepth 20000 in
theorem ws_lch_s : Cond.static yJ1_charAt_3b067 ∈ gt := (gt_in (tch2 (List.mem_of_getElem? (i := 163) rfl)) rfl)
set_option maxRecDepth 20000 in
theorem ws_chk_c : Cond.code yJ0_checkIndex_df160 cJ0_checkIndex_df160 2 (none) ∈ gt := (gt_in (tch2 (List.mem_of_getElem? (i := 167) rfl)) rfl)
set_option maxRecDepth 20000 in
theorem ws_chk_i : Cond.initialized yJ0_checkIndex_df160.cls ∈ gt := (gt_in (tch1 (List.mem_of_getElem? (i := 13) rfl)) rfl)
set_option maxRecDepth 20000 in
theorem ws_chk_s : Cond.static yJ0_checkIndex_df160 ∈ gt := (gt_in (tch2 (List.mem_of_getElem? (i := 166) rfl)) rfl)
set_option maxRecDepth 20000 in
theorem ws_pre_c : Cond.code yJ3_checkIndex_8e157 cJ3_checkIndex_8e157 3 (some .int) ∈ gt := (gt_in (tch2 (List.mem_of_getElem? (i := 172) rfl)) rfl)
set_option maxRecDepth 20000 in
theorem ws_pre_i : Cond.initialized yJ3_checkIndex_8e157.cls ∈ gt := (gt_in (tch1 (List.mem_of_getElem? (i := 15) rfl)) rfl)
set_option maxRecDepth 20000 in
theorem ws_pre_s : Cond.static yJ3_checkIndex_8e157 ∈ gt := (gt_in (tch2 (List.mem_of_getElem? (i := 171) rfl)) rfl)
set_option maxRecDepth 20000 in
theorem wl_len_cod : Cond.methodLink "java/lang/String" 335 yJ0_coder_7d493 ∈ gt := (gt_in (tch2 (List.mem_of_getElem? (i := 148) rfl)) rfl)
set_option maxRecDepth 20000 in
theorem wl_chr_lat : Cond.methodLink "java/lang/String" 492 yJ0_isLatin1_aae02 ∈ gt := (gt_in (tch2 (List.mem_of_getElem? (i := 158) rfl)) rfl)
set_option maxRecDepth 20000 in
theorem wl_chr_lch : Cond.methodLink "java/lang/String" 495 yJ1_charAt_3b067 ∈ gt := (gt_in (tch2 (List.mem_of_getElem? (i := 162) rfl)) rfl)
set_option maxRecDepth 20000 in
theorem wl_lch_chk : Cond.methodLink "java/lang/StringLatin1" 9 yJ0_checkIndex_df160 ∈ gt := (gt_in (tch2 (List.mem_of_getElem? (i := 165) rfl)) rfl)
set_option maxRecDepth 20000 in
theorem wl_chk_pre : Cond.methodLink "java/lang/String" 1059 yJ3_checkIndex_8e157 ∈ gt := (gt_in (tch2 (List.mem_of_getElem? (i := 170) rfl)) rfl)
set_option maxRecDepth 20000 in
theorem wf_val : Cond.fieldLink "java/lang/String" 9 "java/lang/String" "value" "[B" ∈ gt := (gt_in (tch6 (List.mem_of_getElem? (i := 43) rfl)) rfl)
set_option maxRecDepth 20000 in
theorem wf_cod : Cond.fieldLink "java/lang/String" 15 "java/lang/String" "coder" "B" ∈ gt := (gt_in (tch6 (List.mem_of_getElem? (i := 44) rfl)) rfl)
set_option maxRecDepth 20000 in
theorem wf_cmp : Cond.fieldLink "java/lang/String" 38 "java/lang/String" "COMPACT_STRINGS" "Z" ∈ gt := (gt_in (tch2 (List.mem_of_getElem? (i := 152) rfl)) rfl)
set_option maxRecDepth 20000 in
theorem wf_sio : Cond.fieldLink "java/lang/String" 1053 "jdk/internal/util/Preconditions" "SIOOBE_FORMATTER" "Ljava/util/function/BiFunction;" ∈ gt := (gt_in (tch2 (List.mem_of_getElem? (i := 168) rfl)) rfl)
theorem dJ0_length_8abf5_0 : decode cJ0_length_8abf5 0 = .ok (.aload_n 0, 1) := by decide +kernel
theorem dJ0_length_8abf5_1 : decode cJ0_length_8abf5 1 = .ok (.getfield 9, 3) := by decide +kernel
theorem dJ0_length_8abf5_4 : decode cJ0_length_8abf5 4 = .ok (.arraylength, 1) := by decide +kernel
theorem dJ0_length_8abf5_5 : decode cJ0_length_8abf5 5 = .ok (.aload_n 0, 1) := by decide +kernel
theorem dJ0_length_8abf5_6 : decode cJ0_length_8abf5 6 = .ok (.invokevirtual 335, 3) := by decide +kernel
theorem dJ0_length_8abf5_9 : decode cJ0_length_8abf5 9 = .ok (.ishr, 1) := by decide +kernel
theorem dJ0_length_8abf5_10 : decode cJ0_length_8abf5 10 = .ok (.ireturn, 1) := by decide +kernel
theorem dJ0_coder_7d493_0 : decode cJ0_coder_7d493 0 = .ok (.getstatic 38, 3) := by decide +kernel
theorem dJ0_coder_7d493_3 : decode cJ0_coder_7d493 3 = .ok (.ifCond .eq 10, 3) := by decide +kernel
theorem dJ0_coder_7d493_6 : decode cJ0_coder_7d493 6 = .ok (.aload_n 0, 1) := by decide +kernel
theorem dJ0_coder_7d493_7 : decode cJ0_coder_7d493 7 = .ok (.getfield 15, 3) := by decide +kernel
theorem dJ0_coder_7d493_10 : decode cJ0_coder_7d493 10 = .ok (.goto 4, 3) := by decide +kernel
theorem dJ0_coder_7d493_13 : decode cJ0_coder_7d493 13 = .ok (.iconst 1, 1) := by decide +kernel
theorem dJ0_coder_7d493_14 : decode cJ0_coder_7d493 14 = .ok (.ireturn, 1) := by decide +kernel
theorem dJ0_charAt_5068e_0 : decode cJ0_charAt_5068e 0 = .ok (.aload_n 0, 1) := by decide +kernel
theorem dJ0_charAt_5068e_1 : decode cJ0_charAt_5068e 1 = .ok (.invokevirtual 492, 3) := by decide +kernel
theorem dJ0_charAt_5068e_4 : decode cJ0_charAt_5068e 4 = .ok (.ifCond .eq 12, 3) := by decide +kernel
theorem dJ0_charAt_5068e_7 : decode cJ0_charAt_5068e 7 = .ok (.aload_n 0, 1) := by decide +kernel
theorem dJ0_charAt_5068e_8 : decode cJ0_charAt_5068e 8 = .ok (.getfield 9, 3) := by decide +kernel
theorem dJ0_charAt_5068e_11 : decode cJ0_charAt_5068e 11 = .ok (.iload_n 1, 1) := by decide +kernel
theorem dJ0_charAt_5068e_12 : decode cJ0_charAt_5068e 12 = .ok (.invokestatic 495, 3) := by decide +kernel
theorem dJ0_charAt_5068e_15 : decode cJ0_charAt_5068e 15 = .ok (.ireturn, 1) := by decide +kernel
theorem dJ0_charAt_5068e_16 : decode cJ0_charAt_5068e 16 = .ok (.aload_n 0, 1) := by decide +kernel
theorem dJ0_charAt_5068e_17 : decode cJ0_charAt_5068e 17 = .ok (.getfield 9, 3) := by decide +kernel
theorem dJ0_charAt_5068e_20 : decode cJ0_charAt_5068e 20 = .ok (.iload_n 1, 1) := by decide +kernel
theorem dJ0_charAt_5068e_21 : decode cJ0_charAt_5068e 21 = .ok (.invokestatic 498, 3) := by decide +kernel
theorem dJ0_charAt_5068e_24 : decode cJ0_charAt_5068e 24 = .ok (.ireturn, 1) := by decide +kernel
theorem dJ0_isLatin1_aae02_0 : decode cJ0_isLatin1_aae02 0 = .ok (.getstatic 38, 3) := by decide +kernel
theorem dJ0_isLatin1_aae02_3 : decode cJ0_isLatin1_aae02 3 = .ok (.ifCond .eq 14, 3) := by decide +kernel
theorem dJ0_isLatin1_aae02_6 : decode cJ0_isLatin1_aae02 6 = .ok (.aload_n 0, 1) := by decide +kernel
theorem dJ0_isLatin1_aae02_7 : decode cJ0_isLatin1_aae02 7 = .ok (.getfield 15, 3) := by decide +kernel
theorem dJ0_isLatin1_aae02_10 : decode cJ0_isLatin1_aae02 10 = .ok (.ifCond .ne 7, 3) := by decide +kernel
theorem dJ0_isLatin1_aae02_13 : decode cJ0_isLatin1_aae02 13 = .ok (.iconst 1, 1) := by decide +kernel
theorem dJ0_isLatin1_aae02_14 : decode cJ0_isLatin1_aae02 14 = .ok (.goto 4, 3) := by decide +kernel
theorem dJ0_isLatin1_aae02_17 : decode cJ0_isLatin1_aae02 17 = .ok (.iconst 0, 1) := by decide +kernel
theorem dJ0_isLatin1_aae02_18 : decode cJ0_isLatin1_aae02 18 = .ok (.ireturn, 1) := by decide +kernel
theorem dJ1_charAt_3b067_0 : decode cJ1_charAt_3b067 0 = .ok (.iload_n 1, 1) := by decide +kernel
theorem dJ1_charAt_3b067_1 : decode cJ1_charAt_3b067 1 = .ok (.aload_n 0, 1) := by decide +kernel
theorem dJ1_charAt_3b067_2 : decode cJ1_charAt_3b067 2 = .ok (.arraylength, 1) := by decide +kernel
theorem dJ1_charAt_3b067_3 : decode cJ1_charAt_3b067 3 = .ok (.invokestatic 9, 3) := by decide +kernel
theorem dJ1_charAt_3b067_6 : decode cJ1_charAt_3b067 6 = .ok (.aload_n 0, 1) := by decide +kernel
theorem dJ1_charAt_3b067_7 : decode cJ1_charAt_3b067 7 = .ok (.iload_n 1, 1) := by decide +kernel
theorem dJ1_charAt_3b067_8 : decode cJ1_charAt_3b067 8 = .ok (.baload, 1) := by decide +kernel
theorem dJ1_charAt_3b067_9 : decode cJ1_charAt_3b067 9 = .ok (.sipush 255, 3) := by decide +kernel
theorem dJ1_charAt_3b067_12 : decode cJ1_charAt_3b067 12 = .ok (.iand, 1) := by decide +kernel
theorem dJ1_charAt_3b067_13 : decode cJ1_charAt_3b067 13 = .ok (.i2c, 1) := by decide +kernel
theorem dJ1_charAt_3b067_14 : decode cJ1_charAt_3b067 14 = .ok (.ireturn, 1) := by decide +kernel
theorem dJ0_checkIndex_df160_0 : decode cJ0_checkIndex_df160 0 = .ok (.iload_n 0, 1) := by decide +kernel
theorem dJ0_checkIndex_df160_1 : decode cJ0_checkIndex_df160 1 = .ok (.iload_n 1, 1) := by decide +kernel
theorem dJ0_checkIndex_df160_2 : decode cJ0_checkIndex_df160 2 = .ok (.getstatic 1053, 3) := by decide +kernel
theorem dJ0_checkIndex_df160_5 : decode cJ0_checkIndex_df160 5 = .ok (.invokestatic 1059, 3) := by decide +kernel
theorem dJ0_checkIndex_df160_8 : decode cJ0_checkIndex_df160 8 = .ok (.pop, 1) := by decide +kernel
theorem dJ0_checkIndex_df160_9 : decode cJ0_checkIndex_df160 9 = .ok (.return_, 1) := by decide +kernel
theorem dJ3_checkIndex_8e157_0 : decode cJ3_checkIndex_8e157 0 = .ok (.iload_n 0, 1) := by decide +kernel
theorem dJ3_checkIndex_8e157_1 : decode cJ3_checkIndex_8e157 1 = .ok (.ifCond .lt 8, 3) := by decide +kernel
theorem dJ3_checkIndex_8e157_4 : decode cJ3_checkIndex_8e157 4 = .ok (.iload_n 0, 1) := by decide +kernel
theorem dJ3_checkIndex_8e157_5 : decode cJ3_checkIndex_8e157 5 = .ok (.iload_n 1, 1) := by decide +kernel
theorem dJ3_checkIndex_8e157_6 : decode cJ3_checkIndex_8e157 6 = .ok (.if_icmp .lt 10, 3) := by decide +kernel
theorem dJ3_checkIndex_8e157_9 : decode cJ3_checkIndex_8e157 9 = .ok (.aload_n 2, 1) := by decide +kernel
theorem dJ3_checkIndex_8e157_10 : decode cJ3_checkIndex_8e157 10 = .ok (.iload_n 0, 1) := by decide +kernel
theorem dJ3_checkIndex_8e157_11 : decode cJ3_checkIndex_8e157 11 = .ok (.iload_n 1, 1) := by decide +kernel
theorem dJ3_checkIndex_8e157_12 : decode cJ3_checkIndex_8e157 12 = .ok (.invokestatic 95, 3) := by decide +kernel
theorem dJ3_checkIndex_8e157_15 : decode cJ3_checkIndex_8e157 15 = .ok (.athrow, 1) := by decide +kernel
theorem dJ3_checkIndex_8e157_16 : decode cJ3_checkIndex_8e157 16 = .ok (.iload_n 0, 1) := by decide +kernel
theorem dJ3_checkIndex_8e157_17 : decode cJ3_checkIndex_8e157 17 = .ok (.ireturn, 1) := by decide +kernel
def RoQ (v : Option Value) : Array Value → State → Outcome → State → Prop := fun _ st o t => o = .returned v ∧ t.heap = st.heap
def rmK (k : Nat) : Room := { frames := k, cells := 0, slots := 0, locals := 64 * k }
section Str
variable {p : Program} {l : Launch} {e : Env} {R : Room} {s : State} {m : MethodId} {args : Array Value} {below : List Frame} {meth : Method} {c : Code} {Q : State → Prop} {D : va_G} {A : Nat → Prop} {b N0 : Nat} {xs : Nat → Int32} {aK aV : Nat → Nat} {pc : Nat} {H : Heap} {locs : List Loc} {cells slots : Nat} {ls : Array Slot} {own : String} {cc : ByteArray} {nL : Nat}
theorem ro_on {v : Option Value} {a : Array Value} {rest st0 : List Value} (hr : va_Run p l e R s m args below meth c H locs cells slots 0 0 (F0 m pc ls st0) rest (RoQ v a) (fun _ => False)) (k : W p l e R s m args below meth c H locs cells slots Q (F0 m (pc + 3) ls (v.toList ++ rest))) : W p l e R s m args below meth c H locs cells slots Q (F0 m pc ls st0) := by
  intro T hT X
  obtain ⟨v', st₀, t, T', L, h0, X', hL, e1, e2, ⟨hv, hh⟩, st⟩ := hr T hT X
  have hv' : v' = v := by injection hv
  subst hv'
  have hLn : L = [] := by
    cases L with
    | nil => rfl
    | cons q L => exact (hL q List.mem_cons_self).elim
  subst hLn
  rw [List.append_nil] at X'
  obtain ⟨t2, a1, b1⟩ := k T' (by rw [e1, hh, h0]) X'
  exact ⟨t2, st t2 a1, b1⟩
theorem ro_blind {vs : List Value} : FrameBlind (va_Pc vs (Tb D A b N0 xs aK aV)) := fun a U g mk ⟨h1, h2⟩ => ⟨h1, h2.same rfl rfl⟩
theorem ro_tb (hT : Tb D A b N0 xs aK aV s) (hS : va_S A s.heap H locs) (U : State) (hU : U.heap = H) (hW : s.WarmedH U.vm) : Tb D A b N0 xs aK aV U := hT.moved hS hU hW (fun _ q => q) (fun q hq => hT.2.2.2.2.2.2.2.1 q (Nat.le_trans hS.1 (by rw [← hU]; exact hq)))
theorem ro_good {y : MethodName} {bytes : ByteArray} {maxL : Nat} {ret : Option FieldType} (h : Cond.code y bytes maxL ret ∈ gt) : GoodIn gt (.code y bytes maxL ret :: gt) := fun w hw => (List.mem_cons.mp hw).elim (fun q => by rw [q]; exact gt_good _ h) (fun q => gt_good w q)
theorem ro_S {k idx maxL : Nat} {y : MethodName} {bytes : ByteArray} {ret : Option FieldType} {vs rest : List Value} {v : Option Value} (fx : CallFix p m c cc nL s args gt own) (hT : Tb D A b N0 xs aK aV s) (hS : va_S A s.heap H locs) (hM : Met l y (.code y bytes maxL ret :: gt) (rmK k) (va_Pc vs (Tb D A b N0 xs aK aV)) (RoQ v) 0 0 (fun _ => False)) (hcd : Cond.code y bytes maxL ret ∈ gt) (hini : Cond.initialized y.cls ∈ gt) (hst : Cond.static y ∈ gt) (hlk : Cond.methodLink own idx y ∈ gt) (hy : (y.cls ≠ "java/lang/invoke/MethodHandle" ∧ y.cls ≠ "java/lang/invoke/VarHandle" ∧ (parseMethodDescriptor y.desc).map (fun d => d.parameters.length) = some vs.length)) (hR : k + 1 ≤ R.frames ∧ 8 + (maxL + 11) + 64 * k ≤ R.locals) (hls : ls.size = nL) (hcat : (rest.map fun v => v.category).sum ≤ 8) (hd : decode cc pc = .ok (.invokestatic idx, 3)) (hc : cells ≤ R.cells) (hs : slots ≤ R.slots) (kk : W p l e R s m args below meth c H locs cells slots Q (F0 m (pc + 3) ls (v.toList ++ rest))) : W p l e R s m args below meth c H locs cells slots Q (F0 m pc ls (vs.reverse ++ rest)) :=
  ro_on (a := vs.toArray) (va_runS (As := vs) (rest := rest) fx hM ⟨callB_of vs.length fx.2.2.2.2 (ro_good hcd) rfl rfl rfl (fx.2.2.2.2 _ hini) (fx.2.2.2.2 _ hlk) hy hR, fx.2.2.2.2 _ hst⟩ ⟨ro_blind, fun U hU hW => ⟨rfl, ro_tb hT hS U hU hW⟩⟩ rfl rfl hls rfl (lv_room hcat) hd ⟨hc, hs⟩) kk
theorem ro_V {k idx maxL i : Nat} {y : MethodName} {bytes : ByteArray} {ret : Option FieldType} {vs rest : List Value} {v : Option Value} (fx : CallFix p m c cc nL s args gt own) (hT : Tb D A b N0 xs aK aV s) (hS : va_S A s.heap H locs) (hi : i < 6) (hM : Met l y (.code y bytes maxL ret :: gt) (rmK k) (va_Pc (.ref (aK i) :: vs) (Tb D A b N0 xs aK aV)) (RoQ v) 0 0 (fun _ => False)) (hcd : Cond.code y bytes maxL ret ∈ gt) (hini : Cond.initialized y.cls ∈ gt) (hst : Cond.instanceMethod y ∈ gt) (hsel : Cond.selects "java/lang/String" y y ∈ gt) (hlk : Cond.methodLink own idx y ∈ gt) (hy : (y.cls ≠ "java/lang/invoke/MethodHandle" ∧ y.cls ≠ "java/lang/invoke/VarHandle" ∧ (parseMethodDescriptor y.desc).map (fun d => d.parameters.length) = some vs.length)) (hR : k + 1 ≤ R.frames ∧ 8 + (maxL + 11) + 64 * k ≤ R.locals) (hls : ls.size = nL) (hcat : (rest.map fun v => v.category).sum ≤ 8) (hd : decode cc pc = .ok (.invokevirtual idx, 3)) (hc : cells ≤ R.cells) (hs : slots ≤ R.slots) (kk : W p l e R s m args below meth c H locs cells slots Q (F0 m (pc + 3) ls (v.toList ++ rest))) : W p l e R s m args below meth c H locs cells slots Q (F0 m pc ls (vs.reverse ++ .ref (aK i) :: rest)) :=
  ro_on (a := (.ref (aK i) :: vs).toArray) (va_runV (C := "java/lang/String") (As := vs) (b := aK i) (rest := rest) fx hM ⟨callB_of vs.length fx.2.2.2.2 (ro_good hcd) rfl rfl rfl (fx.2.2.2.2 _ hini) (fx.2.2.2.2 _ hlk) hy hR, fx.2.2.2.2 _ hst, fx.2.2.2.2 _ hsel⟩ ⟨ro_blind, vk_recv hT.2.2.2.2.2.2.2.2.1 hi hS, fun U hU hW => ⟨rfl, ro_tb hT hS U hU hW⟩⟩ rfl rfl hls rfl (lv_room hcat) hd ⟨hc, hs⟩) kk
theorem ro_met {k maxL : Nat} {y : MethodName} {bytes : ByteArray} {ret : Option FieldType} {vs : List Value} {v : Option Value} (hy : plainName y.cls = true) (hlen : (lg_sl vs).length ≤ maxL)
    (hw : ∀ (p : Program) (e : Env) (s : State) (m : MethodId) (below : List Frame) (meth : Method) (c : Code) (ls : Array Slot), CallFix p m c bytes maxL s vs.toArray gt y.cls → meth.sig.returnType = ret → meth.locks = false → Tb D A b N0 xs aK aV s → lv_has ls maxL (lv_args 0 vs) → W p l e (rmK k) s m vs.toArray below meth c s.heap [] 0 0 (MQ below (RoQ v) vs.toArray s 0 0 (fun _ => False)) (F0 m 0 ls [])) :
    Met l y (.code y bytes maxL ret :: gt) (rmK k) (va_Pc vs (Tb D A b N0 xs aK aV)) (RoQ v) 0 0 (fun _ => False) := by
  refine Met.ofW (cc := bytes) (maxL := maxL) (ret := ret) hy rfl ?_
  intro p e s m args below meth c s₁ B hml hv
  obtain ⟨rfl, hTb⟩ := hv
  have hts := atoms_spec (ws := .code y bytes maxL ret :: gt) B.pre
  have hown : s.vm.findClass y.cls = some m.cls := findClass_of_methodNamed B.named
  rw [lg_entry_eq]
  exact hw p e s m below meth c _ ⟨B.exec, B.bytes, hml, hown, fun w hw => hts w (List.mem_cons_of_mem _ hw)⟩ B.returns B.notSynchronized hTb (lv_entry vs hlen)
end Str
theorem pp_pre : (parseMethodDescriptor yJ3_checkIndex_8e157.desc).map (fun d => d.parameters.length) = some 3 := by decide +kernel
theorem pp_chk : (parseMethodDescriptor yJ0_checkIndex_df160.desc).map (fun d => d.parameters.length) = some 2 := by decide +kernel
theorem pp_lch : (parseMethodDescriptor yJ1_charAt_3b067.desc).map (fun d => d.parameters.length) = some 2 := by decide +kernel
section Str2
variable {l : Launch} {D : va_G} {A : Nat → Prop} {b N0 : Nat} {xs : Nat → Int32} {aK aV : Nat → Nat}
set_option maxRecDepth 20000 in
theorem m_cod {i : Nat} (hi : i < 6) : Met l yJ0_coder_7d493 (.code yJ0_coder_7d493 cJ0_coder_7d493 1 (some .byte) :: gt) (rmK 0) (va_Pc [.ref (aK i)] (Tb D A b N0 xs aK aV)) (RoQ (some (.int 0))) 0 0 (fun _ => False) := by
  refine ro_met (by decide) (Nat.le_of_ble_eq_true rfl) ?_
  intro p e s m below meth c ls fx hr hlocks hT hl
  obtain ⟨hx, hb, hml, hown, hts⟩ := fx
  have hS : va_S A s.heap s.heap [] := va_S.rf
  have hl : lv_has ls 1 [(0, .ref (aK i))] := hl
  have hK := (hT.2.2.2.2.2.2.2.2.1.1 i hi)
  refine va_gets hx hb hT.2.2.2.2.2.2.2.2.2.1 hS hown (hts _ wf_cmp) (fun _ q => q) dJ0_coder_7d493_0 ?_
  refine lv_if_eq (tgt := 13) hx hb dJ0_coder_7d493_3 (by decide) (fun q => absurd q (by decide)) (fun _ => ?_)
  refine lv_aload_n hx hb dJ0_coder_7d493_6 rfl (lv_at hl 0 rfl) ?_
  refine vk_getf hx hb hK.2.1 hS hown (hts _ wf_cod) (fun _ q => q) dJ0_coder_7d493_7 ?_
  refine lv_goto (tgt := 14) hx hb dJ0_coder_7d493_10 (by decide) ?_
  exact W.zret (ty := .byte) (v := 0) hx hb hr rfl (fun t ht _ => ⟨rfl, ht⟩) (fun q hq => by cases hq) dJ0_coder_7d493_14
set_option maxRecDepth 20000 in
theorem m_lat {i : Nat} (hi : i < 6) : Met l yJ0_isLatin1_aae02 (.code yJ0_isLatin1_aae02 cJ0_isLatin1_aae02 1 (some .boolean) :: gt) (rmK 0) (va_Pc [.ref (aK i)] (Tb D A b N0 xs aK aV)) (RoQ (some (.int 1))) 0 0 (fun _ => False) := by
  refine ro_met (by decide) (Nat.le_of_ble_eq_true rfl) ?_
  intro p e s m below meth c ls fx hr hlocks hT hl
  obtain ⟨hx, hb, hml, hown, hts⟩ := fx
  have hS : va_S A s.heap s.heap [] := va_S.rf
  have hl : lv_has ls 1 [(0, .ref (aK i))] := hl
  have hK := (hT.2.2.2.2.2.2.2.2.1.1 i hi)
  refine va_gets hx hb hT.2.2.2.2.2.2.2.2.2.1 hS hown (hts _ wf_cmp) (fun _ q => q) dJ0_isLatin1_aae02_0 ?_
  refine lv_if_eq (tgt := 17) hx hb dJ0_isLatin1_aae02_3 (by decide) (fun q => absurd q (by decide)) (fun _ => ?_)
  refine lv_aload_n hx hb dJ0_isLatin1_aae02_6 rfl (lv_at hl 0 rfl) ?_
  refine vk_getf hx hb hK.2.1 hS hown (hts _ wf_cod) (fun _ q => q) dJ0_isLatin1_aae02_7 ?_
  refine lv_if_ne (tgt := 17) hx hb dJ0_isLatin1_aae02_10 (by decide) (fun q => absurd rfl q) (fun _ => ?_)
  refine lv_iconst (v := 1) hx hb dJ0_isLatin1_aae02_13 (by decide) ?_
  refine lv_goto (tgt := 18) hx hb dJ0_isLatin1_aae02_14 (by decide) ?_
  exact W.zret (ty := .boolean) (v := 1) hx hb hr rfl (fun t ht _ => ⟨rfl, ht⟩) (fun q hq => by cases hq) dJ0_isLatin1_aae02_18
set_option maxRecDepth 20000 in
theorem m_len {i : Nat} (hi : i < 6) : Met l yJ0_length_8abf5 (.code yJ0_length_8abf5 cJ0_length_8abf5 1 (some .int) :: gt) (rmK 1) (va_Pc [.ref (aK i)] (Tb D A b N0 xs aK aV)) (RoQ (some (.int (Int32.ofNat (strT.getD i []).length)))) 0 0 (fun _ => False) := by
  refine ro_met (by decide) (Nat.le_of_ble_eq_true rfl) ?_
  intro p e s m below meth c ls fx hr hlocks hT hl
  have fx' := fx
  obtain ⟨hx, hb, hml, hown, hts⟩ := fx
  have hS : va_S A s.heap s.heap [] := va_S.rf
  have hl : lv_has ls 1 [(0, .ref (aK i))] := hl
  have hK := (hT.2.2.2.2.2.2.2.2.1.1 i hi)
  have elen : (strT.map List.length).getD i 0 = (strT.getD i []).length := by
    rw [List.getD_eq_getElem?_getD, List.getD_eq_getElem?_getD, List.getElem?_map]
    cases strT[i]? <;> rfl
  have hT4 := hK.2.2.2
  rw [elen] at hT4
  refine lv_aload_n hx hb dJ0_length_8abf5_0 rfl (lv_at hl 0 rfl) ?_
  refine vk_getf hx hb hK.2.2.1 hS hown (hts _ wf_val) (fun _ q => q) dJ0_length_8abf5_1 ?_
  refine va_tlen hx hb hT4 hS rfl dJ0_length_8abf5_4 ?_
  refine lv_aload_n hx hb dJ0_length_8abf5_5 rfl (lv_at hl 0 rfl) ?_
  refine ro_V (vs := []) (rest := [.int (Int32.ofNat (strT.getD i []).length)]) fx' hT hS hi (m_cod hi) ws_cod_c ws_cod_i ws_cod_m ws_cod_v wl_len_cod (by decide +kernel) ⟨Nat.le_of_ble_eq_true rfl, Nat.le_of_ble_eq_true rfl⟩ hl.1 (Nat.le_of_ble_eq_true rfl) dJ0_length_8abf5_6 (Nat.le_refl _) (Nat.le_refl _) ?_
  refine lv_ishr hx hb dJ0_length_8abf5_9 ?_
  have e0 : ∀ x : Int32, x >>> ((0 : Int32) &&& 31) = x := by
    intro x
    have : ((0 : Int32) &&& 31) = 0 := by decide
    rw [this]
    simp
  rw [e0]
  exact W.zret (ty := .int) hx hb hr rfl (fun t ht _ => ⟨rfl, ht⟩) (fun q hq => by cases hq) dJ0_length_8abf5_10
set_option maxRecDepth 20000 in
theorem m_pre {x y : Int32} {v : Value} (h0 : ¬ x < 0) (h1 : x < y) (hv : v.category = 1) : Met l yJ3_checkIndex_8e157 (.code yJ3_checkIndex_8e157 cJ3_checkIndex_8e157 3 (some .int) :: gt) (rmK 0) (va_Pc [.int x, .int y, v] (Tb D A b N0 xs aK aV)) (RoQ (some (.int x))) 0 0 (fun _ => False) := by
  refine ro_met (by decide) (by cases v <;> first | exact Nat.le_of_ble_eq_true rfl | cases hv) ?_
  intro p e s m below meth c ls fx hr hlocks hT hl
  obtain ⟨hx, hb, hml, hown, hts⟩ := fx
  have hS : va_S A s.heap s.heap [] := va_S.rf
  have hl : lv_has ls 3 [(0, .int x), (1, .int y), (2, v)] := hl
  refine lv_iload_n hx hb dJ3_checkIndex_8e157_0 rfl (lv_at hl 0 rfl) ?_
  refine lv_if_lt (tgt := 9) hx hb dJ3_checkIndex_8e157_1 (by decide) (fun q => absurd q h0) (fun _ => ?_)
  refine lv_iload_n hx hb dJ3_checkIndex_8e157_4 rfl (lv_at hl 0 rfl) ?_
  refine lv_iload_n hx hb dJ3_checkIndex_8e157_5 rfl (lv_at hl 1 rfl) ?_
  refine lv_icmp_lt (tgt := 16) hx hb dJ3_checkIndex_8e157_6 (by decide) (fun _ => ?_) (fun q => absurd h1 q)
  refine lv_iload_n hx hb dJ3_checkIndex_8e157_16 rfl (lv_at hl 0 rfl) ?_
  exact W.zret (ty := .int) hx hb hr rfl (fun t ht _ => ⟨rfl, ht⟩) (fun q hq => by cases hq) dJ3_checkIndex_8e157_17
set_option maxRecDepth 20000 in
theorem m_chk {x y : Int32} (h0 : ¬ x < 0) (h1 : x < y) : Met l yJ0_checkIndex_df160 (.code yJ0_checkIndex_df160 cJ0_checkIndex_df160 2 none :: gt) (rmK 1) (va_Pc [.int x, .int y] (Tb D A b N0 xs aK aV)) (RoQ none) 0 0 (fun _ => False) := by
  refine ro_met (by decide) (Nat.le_of_ble_eq_true rfl) ?_
  intro p e s m below meth c ls fx hr hlocks hT hl
  have fx' := fx
  obtain ⟨hx, hb, hml, hown, hts⟩ := fx
  have hS : va_S A s.heap s.heap [] := va_S.rf
  have hl : lv_has ls 2 [(0, .int x), (1, .int y)] := hl
  refine lv_iload_n hx hb dJ0_checkIndex_df160_0 rfl (lv_at hl 0 rfl) ?_
  refine lv_iload_n hx hb dJ0_checkIndex_df160_1 rfl (lv_at hl 1 rfl) ?_
  have go : ∀ v : Value, v.category = 1 → W p l e (rmK 1) s m [Value.int x, Value.int y].toArray below meth c s.heap [] 0 0 (MQ below (RoQ none) [Value.int x, Value.int y].toArray s 0 0 (fun _ => False)) (F0 m (2 + 3) ls [v, .int y, .int x]) := by
    intro v hv
    refine ro_S (vs := [.int x, .int y, v]) (rest := []) fx' hT hS (m_pre h0 h1 hv) ws_pre_c ws_pre_i ws_pre_s wl_chk_pre ⟨by decide, by decide, pp_pre⟩ ⟨Nat.le_of_ble_eq_true rfl, Nat.le_of_ble_eq_true rfl⟩ hl.1 (Nat.le_of_ble_eq_true rfl) dJ0_checkIndex_df160_5 (Nat.le_refl _) (Nat.le_refl _) ?_
    refine lv_pop hx hb dJ0_checkIndex_df160_8 rfl ?_
    exact W.vret hx hb hr (fun t ht _ => ⟨rfl, ht⟩) (fun q hq => by cases hq) dJ0_checkIndex_df160_9
  rcases hT.2.2.2.2.2.2.2.2.2.2 with hZ | ⟨t, hZ⟩
  · exact va_gets hx hb hZ hS hown (hts _ wf_sio) (fun _ q => q) dJ0_checkIndex_df160_2 (go .null rfl)
  · exact va_gets hx hb hZ hS hown (hts _ wf_sio) (fun _ q => q) dJ0_checkIndex_df160_2 (go (.ref t) rfl)
theorem strB : ∀ i, i < 6 → ∀ j, j < (strT.getD i []).length → ((((strT.getD i []).getD j 0) &&& (Int16.ofInt 255).toInt32).toUInt32 % 65536).toInt32 = (strT.getD i []).getD j 0 ∧ narrow .char (.int ((strT.getD i []).getD j 0)) = .int ((strT.getD i []).getD j 0) := by decide +kernel
theorem strL : ∀ i, i < 6 → (strT.getD i []).length < 100 := by decide +kernel
set_option maxRecDepth 20000 in
theorem m_lch {i : Nat} {x : Int32} (hi : i < 6) (hx0 : inB x (strT.getD i []).length = true) : Met l yJ1_charAt_3b067 (.code yJ1_charAt_3b067 cJ1_charAt_3b067 2 (some .char) :: gt) (rmK 2) (va_Pc [.ref (aV i), .int x] (Tb D A b N0 xs aK aV)) (RoQ (some (.int ((strT.getD i []).getD x.toNatClampNeg 0)))) 0 0 (fun _ => False) := by
  refine ro_met (by decide) (Nat.le_of_ble_eq_true rfl) ?_
  intro p e s m below meth c ls fx hr hlocks hT hl
  have fx' := fx
  obtain ⟨hx, hb, hml, hown, hts⟩ := fx
  have hS : va_S A s.heap s.heap [] := va_S.rf
  have hl : lv_has ls 2 [(0, .ref (aV i)), (1, .int x)] := hl
  have hK := (hT.2.2.2.2.2.2.2.2.1.1 i hi)
  have elen : (strT.map List.length).getD i 0 = (strT.getD i []).length := by
    rw [List.getD_eq_getElem?_getD, List.getD_eq_getElem?_getD, List.getElem?_map]
    cases strT[i]? <;> rfl
  have hT4 := hK.2.2.2
  rw [elen] at hT4
  have hin := inB_in hx0
  have hlt : x.toNatClampNeg < (strT.getD i []).length := Nat.not_le.mp fun q => hin (Or.inr q)
  have h0 : ¬ x < 0 := fun q => hin (Or.inl q)
  have hsm := strL i hi
  have h1 : x < Int32.ofNat (strT.getD i []).length := by
    obtain ⟨j, hj, rfl⟩ := vp_in_of hin (by omega)
    exact nI_lt hj (by omega)
  refine lv_iload_n hx hb dJ1_charAt_3b067_0 rfl (lv_at hl 1 rfl) ?_
  refine lv_aload_n hx hb dJ1_charAt_3b067_1 rfl (lv_at hl 0 rfl) ?_
  refine va_tlen hx hb hT4 hS rfl dJ1_charAt_3b067_2 ?_
  refine ro_S (vs := [.int x, .int (Int32.ofNat (strT.getD i []).length)]) (rest := []) fx' hT hS (m_chk h0 h1) ws_chk_c ws_chk_i ws_chk_s wl_lch_chk ⟨by decide, by decide, pp_chk⟩ ⟨Nat.le_of_ble_eq_true rfl, Nat.le_of_ble_eq_true rfl⟩ hl.1 (Nat.le_of_ble_eq_true rfl) dJ1_charAt_3b067_3 (Nat.le_refl _) (Nat.le_refl _) ?_
  refine lv_aload_n hx hb dJ1_charAt_3b067_6 rfl (lv_at hl 0 rfl) ?_
  refine lv_iload_n hx hb dJ1_charAt_3b067_7 rfl (lv_at hl 1 rfl) ?_
  refine va_tb hx hb hT4 hS hin rfl dJ1_charAt_3b067_8 ?_
  refine lv_sipush hx hb dJ1_charAt_3b067_9 rfl ?_
  refine lv_iand hx hb dJ1_charAt_3b067_12 ?_
  refine lv_i2c hx hb dJ1_charAt_3b067_13 (strB i hi _ hlt).1 ?_
  exact W.zret (ty := .char) hx hb hr (strB i hi _ hlt).2 (fun t ht _ => ⟨rfl, ht⟩) (fun q hq => by cases hq) dJ1_charAt_3b067_14
set_option maxRecDepth 20000 in
theorem m_chr {i : Nat} {x : Int32} (hi : i < 6) (hx0 : inB x (strT.getD i []).length = true) : Met l yJ0_charAt_5068e (.code yJ0_charAt_5068e cJ0_charAt_5068e 2 (some .char) :: gt) (rmK 3) (va_Pc [.ref (aK i), .int x] (Tb D A b N0 xs aK aV)) (RoQ (some (.int ((strT.getD i []).getD x.toNatClampNeg 0)))) 0 0 (fun _ => False) := by
  refine ro_met (by decide) (Nat.le_of_ble_eq_true rfl) ?_
  intro p e s m below meth c ls fx hr hlocks hT hl
  have fx' := fx
  obtain ⟨hx, hb, hml, hown, hts⟩ := fx
  have hS : va_S A s.heap s.heap [] := va_S.rf
  have hl : lv_has ls 2 [(0, .ref (aK i)), (1, .int x)] := hl
  have hK := (hT.2.2.2.2.2.2.2.2.1.1 i hi)
  have hin := inB_in hx0
  have hlt : x.toNatClampNeg < (strT.getD i []).length := Nat.not_le.mp fun q => hin (Or.inr q)
  refine lv_aload_n hx hb dJ0_charAt_5068e_0 rfl (lv_at hl 0 rfl) ?_
  refine ro_V (vs := []) (rest := []) fx' hT hS hi (m_lat hi) ws_lat_c ws_lat_i ws_lat_m ws_lat_v wl_chr_lat (by decide +kernel) ⟨Nat.le_of_ble_eq_true rfl, Nat.le_of_ble_eq_true rfl⟩ hl.1 (Nat.le_of_ble_eq_true rfl) dJ0_charAt_5068e_1 (Nat.le_refl _) (Nat.le_refl _) ?_
  refine lv_if_eq (tgt := 16) hx hb dJ0_charAt_5068e_4 (by decide) (fun q => absurd q (by decide)) (fun _ => ?_)
  refine lv_aload_n hx hb dJ0_charAt_5068e_7 rfl (lv_at hl 0 rfl) ?_
  refine vk_getf hx hb hK.2.2.1 hS hown (hts _ wf_val) (fun _ q => q) dJ0_charAt_5068e_8 ?_
  refine lv_iload_n hx hb dJ0_charAt_5068e_11 rfl (lv_at hl 1 rfl) ?_
  refine ro_S (vs := [.ref (aV i), .int x]) (rest := []) fx' hT hS (m_lch hi hx0) ws_lch_c ws_lch_i ws_lch_s wl_chr_lch ⟨by decide, by decide, pp_lch⟩ ⟨Nat.le_of_ble_eq_true rfl, Nat.le_of_ble_eq_true rfl⟩ hl.1 (Nat.le_of_ble_eq_true rfl) dJ0_charAt_5068e_12 (Nat.le_refl _) (Nat.le_refl _) ?_
  exact W.zret (ty := .char) hx hb hr (strB i hi _ hlt).2 (fun t ht _ => ⟨rfl, ht⟩) (fun q hq => by cases hq) dJ0_charAt_5068e_15
end Str2
end
section
theorem pp_chr : (parseMethodDescriptor yJ0_charAt_5068e.desc).map (fun d => d.parameters.length) = some 1 := by decide +kernel
section Sim
variable {p : Program} {l : Launch} {e : Env} {R : Room} {s : State} {m : MethodId} {args : Array Value} {below : List Frame} {meth : Method} {c : Code} {Q : State → Prop} {D : va_G} {A : Nat → Prop} {b N0 : Nat} {xs : Nat → Int32} {aK aV : Nat → Nat} {y : Mth} {pc len : Nat} {i : Instr} {L S L' S' : List Value} {h h1 : Hp} {H : Heap} {locs : List Loc} {cells slots : Nat} {ls : Array Slot} {adr : Nat → Nat} {cA : Nat → ClassId}
theorem st_len {k i : Nat} {rest : List Value} (C : Cx p s m args meth c y) (hT : Tb D A b N0 xs aK aV s) (hRel : Rel D A b N0 xs aK s adr cA H locs h) (hls : ls.size = c.maxLocals) (hd : decode y.2.2.2.1 pc = .ok (.invokevirtual k, 3)) (hlk : Cond.methodLink (clsN y.1) k yJ0_length_8abf5 ∈ gt) (hi : i < 6) (hcat : (rest.map fun v => v.category).sum ≤ 8) (hfr : 5 ≤ R.frames) (hlo : 320 ≤ R.locals) (hc : cells ≤ R.cells) (hs : slots ≤ R.slots)
    (kk : W p l e R s m args below meth c H locs cells slots Q (F0 m (pc + 3) ls (.int (Int32.ofNat (strT.getD i []).length) :: rest))) : W p l e R s m args below meth c H locs cells slots Q (F0 m pc ls (.ref (aK i) :: rest)) := by
  exact ro_V (vs := []) (rest := rest) ⟨C.1, C.2.1, C.2.2.1, C.2.2.2.1, C.2.2.2.2.1⟩ hT hRel.2.2.1 hi (m_len hi) ws_len_c ws_len_i ws_len_m ws_len_v hlk (by decide +kernel) ⟨by omega, by omega⟩ (hls.trans C.2.2.1) hcat hd hc hs kk
theorem st_chr {k i : Nat} {j : Int32} {rest : List Value} (C : Cx p s m args meth c y) (hT : Tb D A b N0 xs aK aV s) (hRel : Rel D A b N0 xs aK s adr cA H locs h) (hls : ls.size = c.maxLocals) (hd : decode y.2.2.2.1 pc = .ok (.invokevirtual k, 3)) (hlk : Cond.methodLink (clsN y.1) k yJ0_charAt_5068e ∈ gt) (hi : i < 6) (hj : inB j (strT.getD i []).length = true) (hcat : (rest.map fun v => v.category).sum ≤ 8) (hfr : 5 ≤ R.frames) (hlo : 320 ≤ R.locals) (hc : cells ≤ R.cells) (hs : slots ≤ R.slots)
    (kk : W p l e R s m args below meth c H locs cells slots Q (F0 m (pc + 3) ls (.int ((strT.getD i []).getD j.toNatClampNeg 0) :: rest))) : W p l e R s m args below meth c H locs cells slots Q (F0 m pc ls (.int j :: .ref (aK i) :: rest)) := by
  exact ro_V (vs := [.int j]) (rest := rest) ⟨C.1, C.2.1, C.2.2.1, C.2.2.2.1, C.2.2.2.2.1⟩ hT hRel.2.2.1 hi (m_chr hi hj) ws_chr_c ws_chr_i ws_chr_m ws_chr_v hlk ⟨by decide, by decide, pp_chr⟩ ⟨by omega, by omega⟩ (hls.trans C.2.2.1) hcat hd hc hs kk
theorem cats_rv (adr : Nat → Nat) (S : List Value) : ((S.map (rv adr)).map fun v => v.category).sum = cats S := by
  unfold cats
  rw [List.map_map]
  congr 1
  apply List.map_congr_left
  intro v _
  exact rv_cat adr v
/-- the machine's own methods that are one step here -/
theorem iv_ft (C : Cx p s m args meth c y) (hT : Tb D A b N0 xs aK aV s) (hd : decode y.2.2.2.1 pc = .ok (i, len)) (hl : ilen i = 0 ∨ len = ilen i) (ha : actIv y i L S h = some (.inl (L', S', h1))) (hRel : Rel D A b N0 xs aK s adr cA H locs h) (hLR : LR adr L ls y.2.2.2.2.1) (hVS : VK h S) (hfr : 5 ≤ R.frames) (hlo : 320 ≤ R.locals) (hc : cells ≤ R.cells) (hs : slots ≤ R.slots) :
    L' = L ∧ nxt h1 = nxt h ∧ tot h1 = tot h ∧ VK h S' ∧ ((∀ H1 locs1, Rel D A b N0 xs aK s adr cA H1 locs1 h1 → W p l e R s m args below meth c H1 locs1 cells slots Q (F0 m (pc + len) ls (S'.map (rv adr)))) → W p l e R s m args below meth c H locs cells slots Q (F0 m pc ls (S.map (rv adr)))) := by
  have hR : HR h := hRel.2.2.2.2.2.2.2.2
  have c1 : ∀ {a : Value} {S : List Value}, VK h (a :: S) → VK h S := fun q => (List.forall_mem_cons.mp q).2
  have cc : ∀ {a : Value} {S : List Value}, vok h a → VK h S → VK h (a :: S) := fun q z => List.forall_mem_cons.mpr ⟨q, z⟩
  have C' := C
  obtain ⟨hx, hb, hml, hown, hts, -⟩ := C
  have hls : ls.size = c.maxLocals := by rw [hml]; exact hLR.1
  unfold actIv at ha
  split at ha
  · have hl := hl.resolve_left (Nat.succ_ne_zero _); subst hl
    split at ha
    · split at ha <;> cases ha
    · rename_i w hm
      have hw := mlW _ (lkp_mem hm)
      split at ha
      · split at ha
        · rename_i hcat
          cases ha
          exact ⟨rfl, rfl, rfl, cc trivial (c1 (c1 hVS)), fun k => va_mmax hx hb hls.symm hown (hts _ hw) (hts _ w_max_s) (hts _ w_math) (hts _ w_max_c) (by omega) (by rw [cats_rv]; omega) hc hs hd (k H locs hRel)⟩
        · cases ha
      · cases ha
    · rename_i w hm
      have hw := mlW _ (lkp_mem hm)
      split at ha
      · split at ha
        · rename_i hcat
          cases ha
          exact ⟨rfl, rfl, rfl, cc trivial (c1 (c1 hVS)), fun k => va_mmin hx hb hls.symm hown (hts _ hw) (hts _ w_min_s) (hts _ w_math) (hts _ w_min_c) (by omega) (by rw [cats_rv]; omega) hc hs hd (k H locs hRel)⟩
        · cases ha
      · cases ha
    · rename_i w hm
      have hw := mlW _ (lkp_mem hm)
      split at ha
      · split at ha
        · rename_i n dp b0 sp a0 S0 hcnd
          obtain ⟨q1, q2, q3, q4, q5, q6, q7, q8⟩ := hcnd
          cases ha
          refine ⟨rfl, rfl, rfl, c1 (c1 (c1 (c1 (c1 hVS)))), fun k => ?_⟩
          have ha0 : 0 < a0 := hRel.pos (by omega)
          have ha : a0 < nxt h := shp_lt (by omega)
          have hb0 : 0 < b0 := hRel.pos (by omega)
          have hbb : b0 < nxt h := shp_lt (by omega)
          have hea := wsO_at (adr := adr) (cA := cA) ha0 ha
          have heb := wsO_at (adr := adr) (cA := cA) hb0 hbb
          rw [Ecell_arr (by omega)] at hea heb
          have tya := hRel.2.2.2.1 a0 ha0 ha (by omega) (by omega)
          have tyb := hRel.2.2.2.1 b0 hb0 hbb (by omega) (by omega)
          rw [q2] at tya
          rw [q3] at tyb
          have hK2 : va_K D vwCl [(cA a0, .int), (cA b0, .int)] s := by
            refine ⟨hT.1.1, fun k q hq => ?_⟩
            match k, hq with
            | 0, hq => cases hq; exact tya
            | 1, hq => cases hq; exact tyb
            | k + 2, hq => simp at hq
          have hnw : nativeFrameWords "java/lang/System" "arraycopy" 5 = 7 := by decide +kernel
          refine va_copyi hx hb hls.symm hown (hts _ hw) (hts _ w_cp_n) (hts _ w_cp_s) (hts _ w_sys) hK2 hRel.1 hRel.2.1 hRel.2.2.1 (a0 - 1) (b0 - 1) 0 1 (ty := .int) hea heb rfl rfl rfl q4 q5 q6 q7 q8 (fun _ _ => rfl) (by omega) (by rw [cats_rv, hnw]; omega) hd (fun H1 locs1 hP hD hS => k H1 locs1 (hRel.wr (h1 := cpI h a0 sp.toNatClampNeg b0 dp.toNatClampNeg n.toNatClampNeg) hb0 hbb rfl hR.1 ?_ (fun x hx => ⟨cpI_row hx, rfl, rfl⟩) hP hD hS))
          have e1 : shp (cpI h a0 sp.toNatClampNeg b0 dp.toNatClampNeg n.toNatClampNeg) b0 = shp h b0 := rfl
          rw [Ecell_arr (by rw [e1]; omega), e1]
          have : (cpI h a0 sp.toNatClampNeg b0 dp.toNatClampNeg n.toNatClampNeg).1 b0 = va_cpy (h.1 a0) (h.1 b0) sp.toNatClampNeg dp.toNatClampNeg n.toNatClampNeg := by
            funext j
            simp [cpI, va_cpy]
          rw [this]
        · cases ha
      · cases ha
    · cases ha
  · have hl := hl.resolve_left (Nat.succ_ne_zero _); subst hl
    split at ha
    · split at ha
      · split at ha <;> cases ha
      · cases ha
    · rename_i w hm
      have hw := mlW _ (lkp_mem hm)
      split at ha
      · split at ha
        · rename_i q0 S0 hcnd
          cases ha
          obtain ⟨z1, z2, z3⟩ := hcnd
          obtain ⟨q1, rfl⟩ : ∃ q1 : Nat, q0 = 1000000 + q1 := ⟨q0 - 1000000, (Nat.add_sub_cancel' z1).symm⟩
          have hi : q1 < 6 := Nat.lt_of_add_lt_add_left (n := 1000000) z2
          have e1 := hRel.2.2.2.2.2.1 _ hi
          refine ⟨rfl, rfl, rfl, cc trivial (c1 hVS), fun k => ?_⟩
          have k2 := k H locs hRel
          rw [Nat.add_sub_cancel_left] at k2
          show W p l e R s m args below meth c H locs cells slots Q (F0 m pc ls (.ref (adr (1000000 + q1)) :: S0.map (rv adr)))
          rw [e1]
          exact st_len C' hT hRel hls hd hw hi (by rw [cats_rv]; exact z3) hfr hlo hc hs k2
        · cases ha
      · cases ha
    · rename_i w hm
      have hw := mlW _ (lkp_mem hm)
      split at ha
      · split at ha
        · rename_i j0 q0 S0 hcnd
          cases ha
          obtain ⟨z1, z2, z3, z4⟩ := hcnd
          obtain ⟨q1, rfl⟩ : ∃ q1 : Nat, q0 = 1000000 + q1 := ⟨q0 - 1000000, (Nat.add_sub_cancel' z1).symm⟩
          have hi : q1 < 6 := Nat.lt_of_add_lt_add_left (n := 1000000) z2
          have e1 := hRel.2.2.2.2.2.1 _ hi
          refine ⟨rfl, rfl, rfl, cc trivial (c1 (c1 hVS)), fun k => ?_⟩
          have k2 := k H locs hRel
          rw [Nat.add_sub_cancel_left] at k2 z4
          show W p l e R s m args below meth c H locs cells slots Q (F0 m pc ls (.int j0 :: .ref (adr (1000000 + q1)) :: S0.map (rv adr)))
          rw [e1]
          exact st_chr C' hT hRel hls hd hw hi z4 (by rw [cats_rv]; exact z3) hfr hlo hc hs k2
        · cases ha
      · cases ha
    · cases ha
  · have hl := hl.resolve_left (Nat.succ_ne_zero _); subst hl
    split at ha
    · split at ha
      · split at ha <;> cases ha
      · cases ha
    · split at ha
      · split at ha <;> cases ha
      · cases ha
    · rename_i w hm
      have hw := mlW _ (lkp_mem hm)
      split at ha
      · split at ha
        · rename_i hcat
          cases ha
          refine ⟨rfl, rfl, rfl, c1 hVS, fun k => W.objInit hx hb hown (hts _ hw) (hts _ w_oi_i) (hts _ w_oi_c) rfl hls rfl hd (by omega) ?_ (k H locs hRel)⟩
          show 2 * 0 + _ + 12 ≤ _
          rw [cats_rv]
          omega
        · cases ha
      · cases ha
    · cases ha
  · cases ha
/-- the heap only grows -/
theorem act_grow {y : Mth} {i : Instr} {L S L' S' : List Value} {h h1 : Hp} (ha : act y i L S h = some (.inl (L', S', h1))) : nxt h ≤ nxt h1 ∧ tot h ≤ tot h1 := by
  have r : nxt h ≤ nxt h ∧ tot h ≤ tot h := ⟨Nat.le_refl _, Nat.le_refl _⟩
  have w : ∀ kd n, nxt h ≤ nxt (newO h kd n) ∧ tot h ≤ tot (newO h kd n) := fun kd n => ⟨by rw [nxt_new]; omega, by rw [tot_new]; omega⟩
  unfold act at ha
  split at ha
  · unfold actLd at ha
    repeat' (split at ha)
    all_goals first
      | (cases ha; done)
      | (cases ha; exact r)
  · unfold actCn at ha
    repeat' (split at ha)
    all_goals first
      | (cases ha; done)
      | (cases ha; exact r)
  · unfold actBr at ha
    repeat' (split at ha)
    all_goals first
      | (cases ha; done)
      | (cases ha; exact r)
  · unfold actHp at ha
    repeat' (split at ha)
    all_goals first
      | (cases ha; done)
      | (cases ha; exact r)
      | (cases ha; exact w _ _)
  · unfold actRt at ha
    repeat' (split at ha)
    all_goals (cases ha; done)
  · unfold actIv at ha
    repeat' (split at ha)
    all_goals first
      | (cases ha; done)
      | (cases ha; exact r)
  · unfold actOp at ha
    repeat' (split at ha)
    all_goals first
      | (cases ha; done)
      | (cases ha; exact r)
theorem run_grow : ∀ (n d : Nat) (y : Mth) (pc : Nat) (L S : List Value) (h : Hp) (v : Option Value) (h1 : Hp), run n d y pc L S h = some (v, h1) → nxt h ≤ nxt h1 ∧ tot h ≤ tot h1 := by
  intro n
  induction n with
  | zero => intro d y pc L S h v h1 hr; simp [run] at hr
  | succ n ih =>
    intro d y pc L S h v h1 hr
    rw [run] at hr
    split at hr
    · split at hr
      · rename_i ha
        have g1 := act_grow ha
        have g2 := ih _ _ _ _ _ _ _ _ hr
        exact ⟨Nat.le_trans g1.1 g2.1, Nat.le_trans g1.2 g2.2⟩
      · split at hr
        · exact ih _ _ _ _ _ _ _ _ hr
        · cases hr
      · cases hr
        exact ⟨Nat.le_refl _, Nat.le_refl _⟩
      · split at hr
        · cases hr
        · split at hr
          · rename_i hc
            have g1 := ih _ _ _ _ _ _ _ _ hc
            have g2 := ih _ _ _ _ _ _ _ _ hr
            exact ⟨Nat.le_trans g1.1 g2.1, Nat.le_trans g1.2 g2.2⟩
          · cases hr
      · cases hr
    · cases hr
end Sim
end
section
section SimAll
variable {p : Program} {l : Launch} {e : Env} {R : Room} {s : State} {m : MethodId} {args : Array Value} {below : List Frame} {meth : Method} {c : Code} {Q : State → Prop} {D : va_G} {A : Nat → Prop} {b N0 : Nat} {xs : Nat → Int32} {aK aV : Nat → Nat} {y : Mth} {pc len : Nat} {i : Instr} {L S L' S' : List Value} {h h1 : Hp} {H : Heap} {locs : List Loc} {cells slots : Nat} {ls : Array Slot} {adr : Nat → Nat} {cA : Nat → ClassId}
theorem gt_code {y' : Mth} (hy : PY y') : GoodIn gt (.code y'.2.2.1 y'.2.2.2.1 y'.2.2.2.2.1 y'.2.2.2.2.2 :: gt) := fun w hw => (List.mem_cons.mp hw).elim (fun q => by rw [q]; exact gt_good _ hy.1) (fun q => gt_good w q)
theorem split_st (adr : Nat → Nat) (S : List Value) (n : Nat) : S.map (rv adr) = ((S.take n).reverse.map (rv adr)).reverse ++ (S.drop n).map (rv adr) := by
  rw [List.map_reverse, List.reverse_reverse, ← List.map_append, List.take_append_drop]
theorem iv_cl {y' : Mth} {as : List Value} {v : Option Value} {d mc ms : Nat} (C : Cx p s m args meth c y) (hT : Tb D A b N0 xs aK aV s) (hd : decode y.2.2.2.1 pc = .ok (i, len)) (hl : ilen i = 0 ∨ len = ilen i) (ha : actIv y i L S h = some (.inr (.inr (.inr (y', as, S'))))) (hRel : Rel D A b N0 xs aK s adr cA H locs h) (hls : ls.size = y.2.2.2.2.1) (hVS : VK h S) (hfr : d + 6 ≤ R.frames) (hlo : 64 * (d + 6) ≤ R.locals) (hc : cells + mc ≤ R.cells) (hs : slots + ms ≤ R.slots)
    (hM : PY y' → (spread as).length ≤ y'.2.2.2.2.1 → Met l y'.2.2.1 (.code y'.2.2.1 y'.2.2.2.1 y'.2.2.2.2.1 y'.2.2.2.2.2 :: gt) (rmD d mc ms) (PcR D b N0 xs aK aV as h adr cA H.size) (QcR D b N0 xs aK h h1 v adr cA H.size) mc ms (va_A (wsO adr cA h) H.size))
    (kk : ∀ H1 locs1 adr1 cA1, Rel D A b N0 xs aK s adr1 cA1 H1 locs1 h1 → (∀ a, a < nxt h → adr1 a = adr a) → (∀ a, 1000000 ≤ a → adr1 a = adr a) → W p l e R s m args below meth c H1 locs1 (cells + mc) (slots + ms) Q (F0 m (pc + len) ls ((v.map (rv adr1)).toList ++ S'.map (rv adr)))) :
    W p l e R s m args below meth c H locs cells slots Q (F0 m pc ls (S.map (rv adr))) := by
  obtain ⟨hx, hb, hml, hown, hts, -⟩ := C
  have fx : CallFix p m c y.2.2.2.1 y.2.2.2.2.1 s args gt (clsN y.1) := ⟨hx, hb, hml, hown, hts⟩
  have rm : ∀ y' : Mth, PY y' → (rmD d mc ms).frames + 1 ≤ R.frames ∧ 8 + (y'.2.2.2.2.1 + 11) + (rmD d mc ms).locals ≤ R.locals := by
    intro y' hy
    have := hy.2.2.2.2.1
    simp only [rmD]
    omega
  unfold actIv at ha
  split at ha
  · have hl := hl.resolve_left (Nat.succ_ne_zero _); subst hl
    split at ha
    · rename_i np rc y0 hm
      split at ha
      · rename_i hcnd
        cases ha
        obtain ⟨q1, q2, q3, q4⟩ := mlW _ (lkp_mem hm)
        dsimp only at q1 q2 q3 q4
        refine cl_on (a := ((S.take np).reverse.map (rv adr)).toArray) hT hRel (va_runS (As := (S.take np).reverse.map (rv adr)) (rest := (S.drop np).map (rv adr)) fx (hM q1 hcnd.2.2) ⟨callB_of np hts (gt_code q1) rfl rfl rfl (hts _ q1.2.1) (hts _ q2) ⟨q1.2.2.1.1, q1.2.2.1.2, q4⟩ (rm _ q1), hts _ q3⟩ ⟨PcR_blind, fun U hU hW => cl_pre hT hRel U hU hW⟩ rfl ?_ hls ?_ ?_ hd ⟨hc, hs⟩) kk
        · simp only [List.length_map, List.length_reverse, List.length_take]; omega
        · exact split_st adr S np
        · exact lv_room (by rw [cats_rv]; exact hcnd.2.1)
      · cases ha
    · split at ha
      · split at ha <;> cases ha
      · cases ha
    · split at ha
      · split at ha <;> cases ha
      · cases ha
    · split at ha
      · split at ha <;> cases ha
      · cases ha
    · cases ha
  · have hl := hl.resolve_left (Nat.succ_ne_zero _); subst hl
    split at ha
    · rename_i np rc y0 hm
      split at ha
      · rename_i a0 S0 hdr
        split at ha
        · rename_i hcnd
          cases ha
          obtain ⟨q1, q2, q3, q4, ⟨c0, cq, q5, q6, q7⟩, q8⟩ := mlW _ (lkp_mem hm)
          dsimp only at q1 q2 q3 q4 q5 q6 q7 q8
          have hnp : np ≤ S.length := by
            rcases Nat.lt_or_ge np S.length with z | z
            · exact Nat.le_of_lt z
            · rw [List.drop_eq_nil_of_le z] at hdr; cases hdr
          have ha0 : 0 < a0 := hRel.pos (by rw [hcnd.1]; omega)
          have han : a0 < nxt h := shp_lt (by rw [hcnd.1]; have := vw_lt q6; omega)
          have he := wsO_at (adr := adr) (cA := cA) ha0 han
          rw [Ecell_obj (c := c0) (by rw [hcnd.1]; exact q5)] at he
          have hrecv := va_recv hT.1 hRel.1 q6 he
          rw [q7] at hrecv
          refine cl_on (a := (.ref (adr a0) :: (S.take np).reverse.map (rv adr)).toArray) hT hRel (va_runV (C := y'.2.2.1.cls) (As := (S.take np).reverse.map (rv adr)) (b := adr a0) (rest := S'.map (rv adr)) fx (hM q1 hcnd.2.2) ⟨callB_of np hts (gt_code q1) rfl rfl rfl (hts _ q1.2.1) (hts _ q2) ⟨q1.2.2.1.1, q1.2.2.1.2, q8⟩ (rm _ q1), hts _ q3, hts _ q4⟩ ⟨PcR_blind, hrecv, fun U hU hW => cl_pre (as := .ref a0 :: (S.take np).reverse) hT hRel U hU hW⟩ rfl ?_ hls ?_ ?_ hd ⟨hc, hs⟩) kk
          · simp only [List.length_map, List.length_reverse, List.length_take]; omega
          · show S.map (rv adr) = _
            rw [split_st adr S np, hdr]
            rfl
          · exact lv_room (by rw [cats_rv]; exact hcnd.2.1)
        · cases ha
      · cases ha
    · split at ha
      · split at ha <;> cases ha
      · cases ha
    · split at ha
      · split at ha <;> cases ha
      · cases ha
    · cases ha
  · have hl := hl.resolve_left (Nat.succ_ne_zero _); subst hl
    split at ha
    · rename_i np rc y0 hm
      split at ha
      · rename_i a0 S0 hdr
        split at ha
        · rename_i hcnd
          cases ha
          obtain ⟨q1, q2, q3, q4, q5, q6⟩ := mlW _ (lkp_mem hm)
          dsimp only at q1 q2 q3 q4 q5 q6
          have hnp : np ≤ S.length := by
            rcases Nat.lt_or_ge np S.length with z | z
            · exact Nat.le_of_lt z
            · rw [List.drop_eq_nil_of_le z] at hdr; cases hdr
          have hM2 := hM q1 hcnd.2
          have hG := gt_code q1
          rw [q5] at hM2 hG
          refine cl_on (a := (.ref (adr a0) :: (S.take np).reverse.map (rv adr)).toArray) hT hRel (va_runI (As := (S.take np).reverse.map (rv adr)) (b := adr a0) (rest := S'.map (rv adr)) fx hM2 ⟨callB_of np hts hG rfl rfl rfl (hts _ q1.2.1) (hts _ q2) ⟨q1.2.2.1.1, q1.2.2.1.2, q6⟩ (rm _ q1), q4, hts _ q3⟩ ⟨PcR_blind, fun U hU hW => cl_pre (as := .ref a0 :: (S.take np).reverse) hT hRel U hU hW⟩ rfl ?_ hls ?_ ?_ hd ⟨hc, hs⟩) kk
          · simp only [List.length_map, List.length_reverse, List.length_take]; omega
          · show S.map (rv adr) = _
            rw [split_st adr S np, hdr]
            rfl
          · exact lv_room (by rw [cats_rv]; exact hcnd.1)
        · cases ha
      · cases ha
    · rename_i np rc y0 hm
      split at ha
      · rename_i a0 S0 hdr
        split at ha
        · rename_i hcnd
          cases ha
          have hmem := lkp_mem hm
          obtain ⟨q1, q2, q3, q4, q5, q6⟩ := mlW _ hmem
          have hnw := hT.2.1 _ hmem rfl
          dsimp only at q1 q2 q3 q4 q5 q6 hnw
          have hnp : np ≤ S.length := by
            rcases Nat.lt_or_ge np S.length with z | z
            · exact Nat.le_of_lt z
            · rw [List.drop_eq_nil_of_le z] at hdr; cases hdr
          have hM2 := hM q1 hcnd.2
          have hG := gt_code q1
          rw [q5] at hM2 hG
          refine cl_on (a := (.ref (adr a0) :: (S.take np).reverse.map (rv adr)).toArray) hT hRel (va_runIN (As := (S.take np).reverse.map (rv adr)) (b := adr a0) (rest := S'.map (rv adr)) fx hM2 ⟨va_cnB np hts hG rfl rfl rfl hnw (hts _ q1.2.1) ⟨q1.2.2.1.1, q1.2.2.1.2, q6⟩ (rm _ q1), q4, hts _ q3⟩ ⟨PcR_blind, fun U hU hW => cl_pre (as := .ref a0 :: (S.take np).reverse) hT hRel U hU hW⟩ rfl ?_ hls ?_ ?_ hd ⟨hc, hs⟩) kk
          · simp only [List.length_map, List.length_reverse, List.length_take]; omega
          · show S.map (rv adr) = _
            rw [split_st adr S np, hdr]
            rfl
          · exact lv_room (by rw [cats_rv]; exact hcnd.1)
        · cases ha
      · cases ha
    · split at ha
      · split at ha <;> cases ha
      · cases ha
    · cases ha
  · cases ha
end SimAll
end
section
/-- a method's answer is a number, or nothing -/
def vint (v : Option Value) : Prop := v = none ∨ (∃ x, v = some (.int x)) ∨ ∃ x, v = some (.long x)
theorem actRt_int {y : Mth} {i : Instr} {S : List Value} {v : Option Value} (ha : actRt y i S = some (.inr (.inr (.inl v)))) : vint v := by
  unfold actRt at ha
  split at ha
  · split at ha
    · cases ha; exact Or.inr (Or.inl ⟨_, rfl⟩)
    · cases ha
  · split at ha
    · cases ha; exact Or.inr (Or.inr ⟨_, rfl⟩)
    · cases ha
  · split at ha
    · cases ha; exact Or.inl rfl
    · cases ha
  · cases ha
theorem noLd {i : Instr} {L S : List Value} {h : Hp} {a} : actLd i L S h ≠ some (.inr a) := by
  intro ha
  unfold actLd at ha
  repeat' (split at ha)
  all_goals cases ha
theorem noCn {c : Nat} {i : Instr} {L S : List Value} {h : Hp} {a} : actCn c i L S h ≠ some (.inr a) := by
  intro ha
  unfold actCn at ha
  repeat' (split at ha)
  all_goals cases ha
theorem noOp {i : Instr} {L S : List Value} {h : Hp} {a} : actOp i L S h ≠ some (.inr a) := by
  intro ha
  unfold actOp at ha
  repeat' (split at ha)
  all_goals cases ha
theorem noHp {y : Mth} {i : Instr} {L S : List Value} {h : Hp} {a} : actHp y i L S h ≠ some (.inr a) := by
  intro ha
  unfold actHp at ha
  repeat' (split at ha)
  all_goals cases ha
theorem noBr {i : Instr} {L S : List Value} {h : Hp} {a} : actBr i L S h ≠ some (.inr (.inr a)) := by
  intro ha
  unfold actBr at ha
  repeat' (split at ha)
  all_goals cases ha
theorem noIv1 {y : Mth} {i : Instr} {L S : List Value} {h : Hp} {a} : actIv y i L S h ≠ some (.inr (.inl a)) := by
  intro ha
  unfold actIv at ha
  repeat' (split at ha)
  all_goals cases ha
theorem noIv2 {y : Mth} {i : Instr} {L S : List Value} {h : Hp} {a} : actIv y i L S h ≠ some (.inr (.inr (.inl a))) := by
  intro ha
  unfold actIv at ha
  repeat' (split at ha)
  all_goals cases ha
theorem noRt1 {y : Mth} {i : Instr} {S : List Value} {a} : actRt y i S ≠ some (.inl a) := by
  intro ha
  unfold actRt at ha
  repeat' (split at ha)
  all_goals cases ha
theorem noRt2 {y : Mth} {i : Instr} {S : List Value} {a} : actRt y i S ≠ some (.inr (.inl a)) := by
  intro ha
  unfold actRt at ha
  repeat' (split at ha)
  all_goals cases ha
theorem noRt3 {y : Mth} {i : Instr} {S : List Value} {a} : actRt y i S ≠ some (.inr (.inr (.inr a))) := by
  intro ha
  unfold actRt at ha
  repeat' (split at ha)
  all_goals cases ha
/-- which group a step of each kind comes from -/
theorem act_ft {y : Mth} {i : Instr} {L S : List Value} {h : Hp} {a} (ha : act y i L S h = some (.inl a)) : actLd i L S h = some (.inl a) ∨ actCn y.1 i L S h = some (.inl a) ∨ actBr i L S h = some (.inl a) ∨ actHp y i L S h = some (.inl a) ∨ actIv y i L S h = some (.inl a) ∨ actOp i L S h = some (.inl a) := by
  unfold act at ha
  split at ha
  · exact Or.inl ha
  · exact Or.inr (Or.inl ha)
  · exact Or.inr (Or.inr (Or.inl ha))
  · exact Or.inr (Or.inr (Or.inr (Or.inl ha)))
  · exact absurd ha noRt1
  · exact Or.inr (Or.inr (Or.inr (Or.inr (Or.inl ha))))
  · exact Or.inr (Or.inr (Or.inr (Or.inr (Or.inr ha))))
theorem act_jp {y : Mth} {i : Instr} {L S : List Value} {h : Hp} {a} (ha : act y i L S h = some (.inr (.inl a))) : actBr i L S h = some (.inr (.inl a)) := by
  unfold act at ha
  split at ha
  · exact absurd ha noLd
  · exact absurd ha noCn
  · exact ha
  · exact absurd ha noHp
  · exact absurd ha noRt2
  · exact absurd ha noIv1
  · exact absurd ha noOp
theorem act_rt {y : Mth} {i : Instr} {L S : List Value} {h : Hp} {a} (ha : act y i L S h = some (.inr (.inr (.inl a)))) : actRt y i S = some (.inr (.inr (.inl a))) := by
  unfold act at ha
  split at ha
  · exact absurd ha noLd
  · exact absurd ha noCn
  · exact absurd ha noBr
  · exact absurd ha noHp
  · exact ha
  · exact absurd ha noIv2
  · exact absurd ha noOp
theorem act_cl {y : Mth} {i : Instr} {L S : List Value} {h : Hp} {a} (ha : act y i L S h = some (.inr (.inr (.inr a)))) : actIv y i L S h = some (.inr (.inr (.inr a))) := by
  unfold act at ha
  split at ha
  · exact absurd ha noLd
  · exact absurd ha noCn
  · exact absurd ha noBr
  · exact absurd ha noHp
  · exact absurd ha noRt3
  · exact ha
  · exact absurd ha noOp
theorem run_int : ∀ (n d : Nat) (y : Mth) (pc : Nat) (L S : List Value) (h : Hp) (v : Option Value) (h1 : Hp), run n d y pc L S h = some (v, h1) → vint v := by
  intro n
  induction n with
  | zero => intro d y pc L S h v h1 hr; simp [run] at hr
  | succ n ih =>
    intro d y pc L S h v h1 hr
    rw [run] at hr
    split at hr
    · split at hr
      · exact ih _ _ _ _ _ _ _ _ hr
      · split at hr
        · exact ih _ _ _ _ _ _ _ _ hr
        · cases hr
      · rename_i ha
        cases hr
        exact actRt_int (act_rt ha)
      · split at hr
        · cases hr
        · split at hr
          · exact ih _ _ _ _ _ _ _ _ hr
          · cases hr
      · cases hr
    · cases hr
theorem spread_mem {as : List Value} {w : Value} (hw : w ∈ spread as) : w ∈ as ∨ w = un := by
  unfold spread at hw
  obtain ⟨a, h1, h2⟩ := List.mem_flatMap.mp hw
  split at h2
  · rcases List.mem_cons.mp h2 with q | q
    · rw [q]; exact Or.inl h1
    · exact Or.inr (List.mem_singleton.mp q)
  · rw [List.mem_singleton.mp h2]; exact Or.inl h1
theorem ent_mem {as : List Value} {n : Nat} {w : Value} (hw : w ∈ ent as n) : w ∈ as ∨ w = un := by
  unfold ent at hw
  rcases List.mem_append.mp hw with q | q
  · exact spread_mem q
  · exact Or.inr (List.eq_of_mem_replicate q)
theorem iv_args {y y' : Mth} {i : Instr} {L S as S' : List Value} {h : Hp} (ha : actIv y i L S h = some (.inr (.inr (.inr (y', as, S'))))) : (∀ w ∈ as, w ∈ S) ∧ (∀ w ∈ S', w ∈ S) := by
  have ht : ∀ (S : List Value) (n : Nat), (∀ w ∈ (S.take n).reverse, w ∈ S) := fun S n w hw => List.mem_of_mem_take (List.mem_reverse.mp hw)
  have hdr : ∀ (S : List Value) (n : Nat), (∀ w ∈ S.drop n, w ∈ S) := fun S n w hw => List.mem_of_mem_drop hw
  unfold actIv at ha
  repeat' (split at ha)
  all_goals first
    | cases ha; done
    | (cases ha; exact ⟨ht _ _, hdr _ _⟩)
    | (rename_i hq _; cases ha; refine ⟨fun w hw => ?_, fun w hw => hdr _ _ w (by rw [hq]; exact List.mem_cons_of_mem _ hw)⟩
       rcases List.mem_cons.mp hw with q | q
       · exact hdr _ _ w (by rw [hq, q]; exact List.mem_cons_self)
       · exact ht _ _ w q)
/-- THE SMALL MACHINE'S RUN IS THE REAL ONE'S -/
theorem sim (l : Launch) (n : Nat) : ∀ (d : Nat) (y : Mth) (pc : Nat) (L S : List Value) (h : Hp) (v : Option Value) (h' : Hp), run n d y pc L S h = some (v, h') →
    ∀ {p : Program} {e : Env} {R : Room} {s : State} {m : MethodId} {args : Array Value} {below : List Frame} {meth : Method} {c : Code} {Q : State → Prop} {D : va_G} {A : Nat → Prop} {b N0 : Nat} {xs : Nat → Int32} {aK aV : Nat → Nat} (_ : Cx p s m args meth c y) (_ : Tb D A b N0 xs aK aV s) (_ : d + 5 ≤ R.frames) (_ : 64 * (d + 5) ≤ R.locals) {c1 s1 : Nat} (_ : c1 ≤ R.cells) (_ : s1 ≤ R.slots) {adr0 : Nat → Nat} {n0 : Nat}
      (_ : ∀ (H : Heap) (locs : List Loc) (cells slots : Nat) (ls : Array Slot) (adr : Nat → Nat) (cA : Nat → ClassId) (pc len : Nat) (i : Instr) (S : List Value), decode y.2.2.2.1 pc = .ok (i, len) → (ilen i = 0 ∨ len = ilen i) → actRt y i S = some (.inr (.inr (.inl v))) → Rel D A b N0 xs aK s adr cA H locs h' → cells ≤ c1 → slots ≤ s1 → (∀ a, a < n0 → adr a = adr0 a) → (∀ a, 1000000 ≤ a → adr a = adr0 a) → W p l e R s m args below meth c H locs cells slots Q (F0 m pc ls (S.map (rv adr))))
      {H : Heap} {locs : List Loc} {cells slots : Nat} {ls : Array Slot} {adr : Nat → Nat} {cA : Nat → ClassId} (_ : Rel D A b N0 xs aK s adr cA H locs h) (_ : LR adr L ls y.2.2.2.2.1) (_ : VK h L) (_ : VK h S) (_ : n0 ≤ nxt h) (_ : ∀ a, a < n0 → adr a = adr0 a) (_ : ∀ a, 1000000 ≤ a → adr a = adr0 a) (_ : cells + (nxt h' - nxt h) ≤ c1) (_ : slots + (tot h' - tot h) ≤ s1),
      W p l e R s m args below meth c H locs cells slots Q (F0 m pc ls (S.map (rv adr))) := by
  induction n with
  | zero => intro d y pc L S h v h' hr; simp [run] at hr
  | succ n ih =>
    intro d y pc L S h v h' hr p e R s m args below meth c Q D A b N0 xs aK aV C hT hfr hlo c1 s1 hc1 hs1 adr0 n0 END H locs cells slots ls adr cA hRel hLR hVL hVS hn0 g1 g2 hcl hsl
    rw [run] at hr
    split at hr
    · rename_i i len hins
      obtain ⟨hd, hl⟩ := ins_dec hins
      split at hr
      · rename_i L' S' h1 ha
        -- one step of this method
        have gr := act_grow ha
        have gr2 := run_grow _ _ _ _ _ _ _ _ _ hr
        have on : ∀ {H : Heap} {locs : List Loc} {cells slots : Nat} {ls : Array Slot} {adr : Nat → Nat} {cA : Nat → ClassId}, Rel D A b N0 xs aK s adr cA H locs h1 → LR adr L' ls y.2.2.2.2.1 → VK h1 L' → VK h1 S' → (∀ a, a < n0 → adr a = adr0 a) → (∀ a, 1000000 ≤ a → adr a = adr0 a) → cells + (nxt h' - nxt h1) ≤ c1 → slots + (tot h' - tot h1) ≤ s1 → W p l e R s m args below meth c H locs cells slots Q (F0 m (pc + len) ls (S'.map (rv adr))) :=
          fun r1 r2 r3 r4 r5 r6 r7 r8 => ih d y (pc + len) L' S' h1 v h' hr C hT hfr hlo hc1 hs1 END r1 r2 r3 r4 (Nat.le_trans hn0 gr.1) r5 r6 r7 r8
        rcases act_ft ha with ha | ha | ha | ha | ha | ha
        · obtain ⟨rfl, z1, z2, z3⟩ := ld_sim (p := p) (l := l) (e := e) (R := R) (s := s) (m := m) (args := args) (below := below) (meth := meth) (c := c) (Q := Q) (H := H) (locs := locs) (cells := cells) (slots := slots) (ls := ls) (adr := adr) C hd hl ha hLR hVL hVS
          exact z3 (fun ls' hL' => on hRel hL' z1 z2 g1 g2 hcl hsl)
        · obtain ⟨rfl, rfl, z2, z3⟩ := cn_sim (p := p) (l := l) (e := e) (R := R) (s := s) (m := m) (args := args) (below := below) (meth := meth) (c := c) (Q := Q) (H := H) (locs := locs) (cells := cells) (slots := slots) (ls := ls) (adr := adr) C hT hRel.2.2.2.2.2.1 hd hl ha hVS
          exact z3 (on hRel hLR hVL z2 g1 g2 hcl hsl)
        · obtain ⟨rfl, rfl, z2, z3⟩ := br_ft (p := p) (l := l) (e := e) (R := R) (s := s) (m := m) (args := args) (below := below) (meth := meth) (c := c) (Q := Q) (H := H) (locs := locs) (cells := cells) (slots := slots) (ls := ls) (adr := adr) C hd hl ha hVS
          exact z3 (on hRel hLR hVL z2 g1 g2 hcl hsl)
        · obtain ⟨rfl, -, -, z2, z3⟩ := hp_sim (p := p) (l := l) (e := e) (R := R) (s := s) (m := m) (args := args) (below := below) (meth := meth) (c := c) (Q := Q) (H := H) (locs := locs) (cells := cells) (slots := slots) (ls := ls) (adr := adr) (cA := cA) C hT hd hl ha hRel hVS (by omega) (by omega)
          exact z3 (fun H1 locs1 adr1 cA1 r1 e1 e2 => on r1 (LR_ext hVL e1 e2 hLR) (fun v hv => vok_grow gr.1 (hVL v hv)) z2 (fun a ha => by rw [e1 a (Nat.lt_of_lt_of_le ha hn0)]; exact g1 a ha) (fun a ha => by rw [e2 a ha]; exact g2 a ha) (by omega) (by omega))
        · obtain ⟨rfl, w1, w2, z2, z3⟩ := iv_ft (p := p) (l := l) (e := e) (R := R) (s := s) (m := m) (args := args) (below := below) (meth := meth) (c := c) (Q := Q) (H := H) (locs := locs) (cells := cells) (slots := slots) (ls := ls) (adr := adr) (cA := cA) C hT hd hl ha hRel hLR hVS (by omega) (by omega) (by omega) (by omega)
          exact z3 (fun H1 locs1 r1 => on r1 hLR (fun v hv => vok_grow gr.1 (hVL v hv)) (fun v hv => vok_grow gr.1 (z2 v hv)) g1 g2 (by omega) (by omega))
        · obtain ⟨rfl, rfl, z2, z3⟩ := op_sim (p := p) (l := l) (e := e) (R := R) (s := s) (m := m) (args := args) (below := below) (meth := meth) (c := c) (Q := Q) (H := H) (locs := locs) (cells := cells) (slots := slots) (ls := ls) (adr := adr) C hd hl ha hVS
          exact z3 (on hRel hLR hVL z2 g1 g2 hcl hsl)
      · rename_i o S' ha
        have ha := act_jp ha
        split at hr
        · rename_i hpos
          obtain ⟨tgt, ht⟩ := Int.eq_ofNat_of_zero_le hpos
          rw [ht] at hr
          obtain ⟨z2, z3⟩ := br_jp (p := p) (l := l) (e := e) (R := R) (s := s) (m := m) (args := args) (below := below) (meth := meth) (c := c) (Q := Q) (H := H) (locs := locs) (cells := cells) (slots := slots) (ls := ls) (adr := adr) C hd hl ha hVS ht
          exact z3 (ih d y tgt L S' h v h' hr C hT hfr hlo hc1 hs1 END hRel hLR hVL z2 hn0 g1 g2 hcl hsl)
        · cases hr
      · rename_i v0 ha
        cases hr
        exact END H locs cells slots ls adr cA pc len i S hd hl (act_rt ha) hRel (by omega) (by omega) g1 g2
      · rename_i y' as S' ha
        have ha := act_cl ha
        obtain ⟨m1, m2⟩ := iv_args ha
        have va : VK h as := fun w hw => hVS w (m1 w hw)
        have vs : VK h S' := fun w hw => hVS w (m2 w hw)
        split at hr
        · cases hr
        · rename_i d'
          split at hr
          · rename_i v1 h1 hc
            have gr := run_grow _ _ _ _ _ _ _ _ _ hc
            have gr2 := run_grow _ _ _ _ _ _ _ _ _ hr
            have vi := run_int _ _ _ _ _ _ _ _ _ hc
            refine iv_cl (v := v1) (h1 := h1) (d := d') (mc := nxt h1 - nxt h) (ms := tot h1 - tot h) C hT hd hl ha hRel hLR.1 hVS (by omega) (by omega) (by omega) (by omega) (fun hy hsp => cl_met hy hsp ?_) ?_
            · intro p2 e2 s2 m2 args2 below2 meth2 c2 ls2 C2 hT2 hR2 hL2
              exact ih d' y' 0 (ent as y'.2.2.2.2.1) [] h v1 h1 hc (n0 := nxt h) (adr0 := adr) (c1 := nxt h1 - nxt h) (s1 := tot h1 - tot h) C2 hT2 (Nat.le_refl _) (Nat.le_refl _) (Nat.le_refl _) (Nat.le_refl _) (fun H3 locs3 cells3 slots3 ls3 adr3 cA3 pc3 len3 i3 S3 q1 q2 q3 q4 q5 q6 q7 q8 => cl_ret C2 q1 q2 q3 q4 q5 q6 q7 q8) hR2 hL2 (fun w hw => (ent_mem hw).elim (va w) (fun q => by rw [q]; trivial)) (fun w hw => by cases hw) (Nat.le_refl _) (fun _ _ => rfl) (fun _ _ => rfl) (by omega) (by omega)
            · intro H3 locs3 adr3 cA3 r1 e1 e2
              have k := ih (d' + 1) y (pc + len) L (psh v1 S') h1 v h' hr C hT hfr hlo hc1 hs1 END (cells := cells + (nxt h1 - nxt h)) (slots := slots + (tot h1 - tot h)) r1 (LR_ext hVL e1 e2 hLR) (fun w hw => vok_grow gr.1 (hVL w hw)) (fun w hw => by
                unfold psh at hw
                rcases List.mem_append.mp hw with q | q
                · rcases vi with rfl | ⟨x, rfl⟩ | ⟨x, rfl⟩
                  · cases q
                  · rw [List.mem_singleton.mp q]; trivial
                  · rw [List.mem_singleton.mp q]; trivial
                · exact vok_grow gr.1 (vs w q)) (Nat.le_trans hn0 gr.1) (fun a ha => by rw [e1 a (Nat.lt_of_lt_of_le ha hn0)]; exact g1 a ha) (fun a ha => by rw [e2 a ha]; exact g2 a ha) (by omega) (by omega)
              have e3 : (psh v1 S').map (rv adr3) = (v1.map (rv adr3)).toList ++ S'.map (rv adr) := by
                unfold psh
                rw [List.map_append, rvs_ext vs e1 e2]
                cases v1 <;> rfl
              rw [e3] at k
              exact k
          · cases hr
      · cases hr
    · cases hr
end
section
-- words that only the law start needs
set_option maxRecDepth 20000 in
theorem w_cs_l : Cond.laysStatic "java/lang/String" "COMPACT_STRINGS" "Z" ∈ tables_1 := (tch2 (List.mem_of_getElem? (i := 153) rfl))
set_option maxRecDepth 20000 in
theorem w_str_i : Cond.initialized "java/lang/String" ∈ tables_1 := (tch1 (List.mem_of_getElem? (i := 13) rfl))
set_option maxRecDepth 20000 in
theorem w_sf_l : Cond.laysStatic "jdk/internal/util/Preconditions" "SIOOBE_FORMATTER" "Ljava/util/function/BiFunction;" ∈ tables_1 := (tch2 (List.mem_of_getElem? (i := 169) rfl))
set_option maxRecDepth 20000 in
theorem w_pre_i : Cond.initialized "jdk/internal/util/Preconditions" ∈ tables_1 := (tch1 (List.mem_of_getElem? (i := 15) rfl))
theorem nestW : ∀ e ∈ mlT, e.2.1 = 3 → Cond.methodLinkNest (clsN e.1.1) e.1.2 e.2.2.2.2.2.2.1 "RoundStool" ∈ tables_1 := by
  intro e he h3
  have h := mlW e he
  unfold PM at h
  rw [h3] at h
  exact h.2.1
theorem aoW : ∀ kd, kd = 3 ∨ kd = 4 → Cond.arrayOver (.object (aoT kd)) ∈ tables_1 := by
  intro kd h
  rcases h with rfl | rfl
  · exact (anewW ((8, 29), 3) (by decide)).2.2
  · exact (anewW ((2, 18), 4) (by decide)).2.2
end
section
-- ROWS OF THE SMALL MACHINE, an instruction each
def CallI (d : Nat) (y : Mth) (as : List Value) (h : Hp) (K : Int32 → Hp → Prop) : Prop := Call d y as h (fun v h' => ∃ r, v = some (.int r) ∧ K r h')
def CallJ (d : Nat) (y : Mth) (as : List Value) (h : Hp) (K : Int64 → Hp → Prop) : Prop := Call d y as h (fun v h' => ∃ r, v = some (.long r) ∧ K r h')
def CallV (d : Nat) (y : Mth) (as : List Value) (h : Hp) (K : Hp → Prop) : Prop := Call d y as h (fun v h' => v = none ∧ K h')
section Rows
variable {d : Nat} {y : Mth} {pc pc' : Nat} {L S : List Value} {h : Hp} {Q : Option Value → Hp → Prop}
theorem At_iconst {n : Int} {v : Int32} (hd : ins y pc = some (.iconst n, 1)) (hp : pc + 1 = pc') (hv : Int32.ofInt n = v) (k : At d y pc' L (.int v :: S) h Q) : At d y pc L S h Q := by subst hp; subst hv; exact At_ft hd rfl k
theorem At_bipush {n : Int} {v : Int32} (hd : ins y pc = some (.bipush n, 2)) (hp : pc + 2 = pc') (hv : (Int8.ofInt n).toInt32 = v) (k : At d y pc' L (.int v :: S) h Q) : At d y pc L S h Q := by subst hp; subst hv; exact At_ft hd rfl k
theorem At_sipush {n : Int} {v : Int32} (hd : ins y pc = some (.sipush n, 3)) (hp : pc + 3 = pc') (hv : (Int16.ofInt n).toInt32 = v) (k : At d y pc' L (.int v :: S) h Q) : At d y pc L S h Q := by subst hp; subst hv; exact At_ft hd rfl k
theorem At_lconst {n : Fin 2} {v : Int64} (hd : ins y pc = some (.lconst n, 1)) (hp : pc + 1 = pc') (hv : Int64.ofNat n.val = v) (k : At d y pc' L (.long v :: S) h Q) : At d y pc L S h Q := by subst hp; subst hv; exact At_ft hd rfl k
theorem At_aconst_null (hd : ins y pc = some (.aconst_null, 1)) (hp : pc + 1 = pc') (k : At d y pc' L (.null :: S) h Q) : At d y pc L S h Q := by subst hp; exact At_ft hd rfl k
theorem At_ldcI {n : Nat} {v : Int32} (hd : ins y pc = some (.ldc n, 2)) (hp : pc + 2 = pc') (hv : lkp icT y.1 n = some v) (k : At d y pc' L (.int v :: S) h Q) : At d y pc L S h Q := by subst hp; exact At_ft hd (by show actCn y.1 (.ldc n) L S h = _; simp only [actCn]; rw [hv]) k
theorem At_ldcS {n v : Nat} (hd : ins y pc = some (.ldc n, 2)) (hp : pc + 2 = pc') (hn : lkp icT y.1 n = none) (hv : lkp slT y.1 n = some v) (k : At d y pc' L (.ref (1000000 + v) :: S) h Q) : At d y pc L S h Q := by subst hp; exact At_ft hd (by show actCn y.1 (.ldc n) L S h = _; simp only [actCn]; rw [hn, hv]) k
theorem At_ldcW {n : Nat} {v : Int32} (hd : ins y pc = some (.ldc_w n, 3)) (hp : pc + 3 = pc') (hv : lkp icT y.1 n = some v) (k : At d y pc' L (.int v :: S) h Q) : At d y pc L S h Q := by subst hp; exact At_ft hd (by show actCn y.1 (.ldc_w n) L S h = _; simp only [actCn]; rw [hv]) k
theorem At_ldc2 {n : Nat} {v : Int64} (hd : ins y pc = some (.ldc2_w n, 3)) (hp : pc + 3 = pc') (hv : lkp lcT y.1 n = some v) (k : At d y pc' L (.long v :: S) h Q) : At d y pc L S h Q := by subst hp; exact At_ft hd (by show actCn y.1 (.ldc2_w n) L S h = _; simp only [actCn]; rw [hv]) k
theorem At_iload {i : Nat} {x : Int32} (hd : ins y pc = some (.iload i, 2)) (hp : pc + 2 = pc') (hv : ldL L i = .int x) (k : At d y pc' L (.int x :: S) h Q) : At d y pc L S h Q := by subst hp; exact At_ft hd (by show actLd (.iload i) L S h = _; simp only [actLd]; rw [hv]) k
theorem At_iload_n {i : Fin 4} {x : Int32} (hd : ins y pc = some (.iload_n i, 1)) (hp : pc + 1 = pc') (hv : ldL L i.val = .int x) (k : At d y pc' L (.int x :: S) h Q) : At d y pc L S h Q := by subst hp; exact At_ft hd (by show actLd (.iload_n i) L S h = _; simp only [actLd]; rw [hv]) k
theorem At_lload {i : Nat} {x : Int64} (hd : ins y pc = some (.lload i, 2)) (hp : pc + 2 = pc') (hv : ldL L i = .long x) (k : At d y pc' L (.long x :: S) h Q) : At d y pc L S h Q := by subst hp; exact At_ft hd (by show actLd (.lload i) L S h = _; simp only [actLd]; rw [hv]) k
theorem At_lload_n {i : Fin 4} {x : Int64} (hd : ins y pc = some (.lload_n i, 1)) (hp : pc + 1 = pc') (hv : ldL L i.val = .long x) (k : At d y pc' L (.long x :: S) h Q) : At d y pc L S h Q := by subst hp; exact At_ft hd (by show actLd (.lload_n i) L S h = _; simp only [actLd]; rw [hv]) k
theorem At_aload {i x : Nat} (hd : ins y pc = some (.aload i, 2)) (hp : pc + 2 = pc') (hv : ldL L i = .ref x) (k : At d y pc' L (.ref x :: S) h Q) : At d y pc L S h Q := by subst hp; exact At_ft hd (by show actLd (.aload i) L S h = _; simp only [actLd]; rw [hv]) k
theorem At_aload_n {i : Fin 4} {x : Nat} (hd : ins y pc = some (.aload_n i, 1)) (hp : pc + 1 = pc') (hv : ldL L i.val = .ref x) (k : At d y pc' L (.ref x :: S) h Q) : At d y pc L S h Q := by subst hp; exact At_ft hd (by show actLd (.aload_n i) L S h = _; simp only [actLd]; rw [hv]) k
theorem At_istore {i : Nat} {x : Int32} {L' : List Value} (hd : ins y pc = some (.istore i, 2)) (hp : pc + 2 = pc') (hi : i < L.length) (hL : stL L i (.int x) = L') (k : At d y pc' L' S h Q) : At d y pc L (.int x :: S) h Q := by subst hp; subst hL; exact At_ft hd (by show actLd (.istore i) L (.int x :: S) h = _; simp only [actLd]; rw [if_pos hi]) k
theorem At_istore_n {i : Fin 4} {x : Int32} {L' : List Value} (hd : ins y pc = some (.istore_n i, 1)) (hp : pc + 1 = pc') (hi : i.val < L.length) (hL : stL L i.val (.int x) = L') (k : At d y pc' L' S h Q) : At d y pc L (.int x :: S) h Q := by subst hp; subst hL; exact At_ft hd (by show actLd (.istore_n i) L (.int x :: S) h = _; simp only [actLd]; rw [if_pos hi]) k
theorem At_lstore {i : Nat} {x : Int64} {L' : List Value} (hd : ins y pc = some (.lstore i, 2)) (hp : pc + 2 = pc') (hi : i + 1 < L.length) (hL : stL2 L i (.long x) = L') (k : At d y pc' L' S h Q) : At d y pc L (.long x :: S) h Q := by subst hp; subst hL; exact At_ft hd (by show actLd (.lstore i) L (.long x :: S) h = _; simp only [actLd]; rw [if_pos hi]) k
theorem At_lstore_n {i : Fin 4} {x : Int64} {L' : List Value} (hd : ins y pc = some (.lstore_n i, 1)) (hp : pc + 1 = pc') (hi : i.val + 1 < L.length) (hL : stL2 L i.val (.long x) = L') (k : At d y pc' L' S h Q) : At d y pc L (.long x :: S) h Q := by subst hp; subst hL; exact At_ft hd (by show actLd (.lstore_n i) L (.long x :: S) h = _; simp only [actLd]; rw [if_pos hi]) k
theorem At_astore {i x : Nat} {L' : List Value} (hd : ins y pc = some (.astore i, 2)) (hp : pc + 2 = pc') (hi : i < L.length) (hL : stL L i (.ref x) = L') (k : At d y pc' L' S h Q) : At d y pc L (.ref x :: S) h Q := by subst hp; subst hL; exact At_ft hd (by show actLd (.astore i) L (.ref x :: S) h = _; simp only [actLd]; rw [if_pos hi]) k
theorem At_astore_n {i : Fin 4} {x : Nat} {L' : List Value} (hd : ins y pc = some (.astore_n i, 1)) (hp : pc + 1 = pc') (hi : i.val < L.length) (hL : stL L i.val (.ref x) = L') (k : At d y pc' L' S h Q) : At d y pc L (.ref x :: S) h Q := by subst hp; subst hL; exact At_ft hd (by show actLd (.astore_n i) L (.ref x :: S) h = _; simp only [actLd]; rw [if_pos hi]) k
theorem At_iinc {i : Nat} {n : Int} {x v : Int32} {L' : List Value} (hd : ins y pc = some (.iinc i n, 3)) (hp : pc + 3 = pc') (hv : ldL L i = .int x) (hi : i < L.length) (hn : Int32.ofInt n = v) (hL : stL L i (.int (x + v)) = L') (k : At d y pc' L' S h Q) : At d y pc L S h Q := by subst hp; subst hL; subst hn; exact At_ft hd (by show actLd (.iinc i n) L S h = _; simp only [actLd]; rw [hv]; dsimp only; rw [if_pos hi]) k
theorem At_iadd {a b : Int32} (hd : ins y pc = some (.iadd, 1)) (hp : pc + 1 = pc') (k : At d y pc' L (.int (a + b) :: S) h Q) : At d y pc L (.int b :: .int a :: S) h Q := by subst hp; exact At_ft hd rfl k
theorem At_isub {a b : Int32} (hd : ins y pc = some (.isub, 1)) (hp : pc + 1 = pc') (k : At d y pc' L (.int (a - b) :: S) h Q) : At d y pc L (.int b :: .int a :: S) h Q := by subst hp; exact At_ft hd rfl k
theorem At_imul {a b : Int32} (hd : ins y pc = some (.imul, 1)) (hp : pc + 1 = pc') (k : At d y pc' L (.int (a * b) :: S) h Q) : At d y pc L (.int b :: .int a :: S) h Q := by subst hp; exact At_ft hd rfl k
theorem At_iand {a b : Int32} (hd : ins y pc = some (.iand, 1)) (hp : pc + 1 = pc') (k : At d y pc' L (.int (a &&& b) :: S) h Q) : At d y pc L (.int b :: .int a :: S) h Q := by subst hp; exact At_ft hd rfl k
theorem At_ior {a b : Int32} (hd : ins y pc = some (.ior, 1)) (hp : pc + 1 = pc') (k : At d y pc' L (.int (a ||| b) :: S) h Q) : At d y pc L (.int b :: .int a :: S) h Q := by subst hp; exact At_ft hd rfl k
theorem At_ixor {a b : Int32} (hd : ins y pc = some (.ixor, 1)) (hp : pc + 1 = pc') (k : At d y pc' L (.int (a ^^^ b) :: S) h Q) : At d y pc L (.int b :: .int a :: S) h Q := by subst hp; exact At_ft hd rfl k
theorem At_ishl {a b : Int32} (hd : ins y pc = some (.ishl, 1)) (hp : pc + 1 = pc') (k : At d y pc' L (.int (a <<< (b &&& 31)) :: S) h Q) : At d y pc L (.int b :: .int a :: S) h Q := by subst hp; exact At_ft hd rfl k
theorem At_ishr {a b : Int32} (hd : ins y pc = some (.ishr, 1)) (hp : pc + 1 = pc') (k : At d y pc' L (.int (a >>> (b &&& 31)) :: S) h Q) : At d y pc L (.int b :: .int a :: S) h Q := by subst hp; exact At_ft hd rfl k
def ushr (a b : Int32) : Int32 := (a.toUInt32 >>> (b.toUInt32 &&& Int32.toUInt32 31)).toInt32
def lushr (a : Int64) (b : Int32) : Int64 := (a.toUInt64 >>> (b.toInt64.toUInt64 &&& Int64.toUInt64 63)).toInt64
def lshl (a : Int64) (b : Int32) : Int64 := a <<< (b.toInt64 &&& 63)
def irem (a b : Int32) : Int32 := a - a / b * b
theorem At_iushr {a b : Int32} (hd : ins y pc = some (.iushr, 1)) (hp : pc + 1 = pc') (k : At d y pc' L (.int (ushr a b) :: S) h Q) : At d y pc L (.int b :: .int a :: S) h Q := by subst hp; exact At_ft hd rfl k
theorem At_idiv {a b : Int32} (hd : ins y pc = some (.idiv, 1)) (hp : pc + 1 = pc') (hn : ¬ b = 0) (k : At d y pc' L (.int (a / b) :: S) h Q) : At d y pc L (.int b :: .int a :: S) h Q := by subst hp; exact At_ft hd (by show (if b = 0 then none else _) = _; rw [if_neg hn]) k
theorem At_irem {a b : Int32} (hd : ins y pc = some (.irem, 1)) (hp : pc + 1 = pc') (hn : ¬ b = 0) (k : At d y pc' L (.int (irem a b) :: S) h Q) : At d y pc L (.int b :: .int a :: S) h Q := by subst hp; exact At_ft hd (by show (if b = 0 then none else _) = _; rw [if_neg hn]; rfl) k
theorem At_lsub {a b : Int64} (hd : ins y pc = some (.lsub, 1)) (hp : pc + 1 = pc') (k : At d y pc' L (.long (a - b) :: S) h Q) : At d y pc L (.long b :: .long a :: S) h Q := by subst hp; exact At_ft hd rfl k
theorem At_land {a b : Int64} (hd : ins y pc = some (.land, 1)) (hp : pc + 1 = pc') (k : At d y pc' L (.long (a &&& b) :: S) h Q) : At d y pc L (.long b :: .long a :: S) h Q := by subst hp; exact At_ft hd rfl k
theorem At_lor {a b : Int64} (hd : ins y pc = some (.lor, 1)) (hp : pc + 1 = pc') (k : At d y pc' L (.long (a ||| b) :: S) h Q) : At d y pc L (.long b :: .long a :: S) h Q := by subst hp; exact At_ft hd rfl k
theorem At_lxor {a b : Int64} (hd : ins y pc = some (.lxor, 1)) (hp : pc + 1 = pc') (k : At d y pc' L (.long (a ^^^ b) :: S) h Q) : At d y pc L (.long b :: .long a :: S) h Q := by subst hp; exact At_ft hd rfl k
theorem At_lshl {a : Int64} {b : Int32} (hd : ins y pc = some (.lshl, 1)) (hp : pc + 1 = pc') (k : At d y pc' L (.long (lshl a b) :: S) h Q) : At d y pc L (.int b :: .long a :: S) h Q := by subst hp; exact At_ft hd rfl k
theorem At_lushr {a : Int64} {b : Int32} (hd : ins y pc = some (.lushr, 1)) (hp : pc + 1 = pc') (k : At d y pc' L (.long (lushr a b) :: S) h Q) : At d y pc L (.int b :: .long a :: S) h Q := by subst hp; exact At_ft hd rfl k
theorem At_lcmp {a b : Int64} (hd : ins y pc = some (.lcmp, 1)) (hp : pc + 1 = pc') (k : At d y pc' L (.int (lg_cmp a b) :: S) h Q) : At d y pc L (.long b :: .long a :: S) h Q := by subst hp; exact At_ft hd rfl k
theorem At_i2l {a : Int32} (hd : ins y pc = some (.i2l, 1)) (hp : pc + 1 = pc') (k : At d y pc' L (.long a.toInt64 :: S) h Q) : At d y pc L (.int a :: S) h Q := by subst hp; exact At_ft hd rfl k
theorem At_l2i {a : Int64} (hd : ins y pc = some (.l2i, 1)) (hp : pc + 1 = pc') (k : At d y pc' L (.int a.toInt32 :: S) h Q) : At d y pc L (.long a :: S) h Q := by subst hp; exact At_ft hd rfl k
theorem At_i2b {a : Int32} (hd : ins y pc = some (.i2b, 1)) (hp : pc + 1 = pc') (k : At d y pc' L (.int a.toInt8.toInt32 :: S) h Q) : At d y pc L (.int a :: S) h Q := by subst hp; exact At_ft hd rfl k
theorem At_dup {a : Value} (hd : ins y pc = some (.dup, 1)) (hp : pc + 1 = pc') (hc : a.category = 1) (k : At d y pc' L (a :: a :: S) h Q) : At d y pc L (a :: S) h Q := by subst hp; exact At_ft hd (by show (if a.category = 1 then _ else none) = _; rw [if_pos hc]) k
theorem At_pop {a : Value} (hd : ins y pc = some (.pop, 1)) (hp : pc + 1 = pc') (hc : a.category = 1) (k : At d y pc' L S h Q) : At d y pc L (a :: S) h Q := by subst hp; exact At_ft hd (by show (if a.category = 1 then _ else none) = _; rw [if_pos hc]) k
theorem At_dup2 {a b : Value} (hd : ins y pc = some (.dup2, 1)) (hp : pc + 1 = pc') (hc : a.category = 1) (hb : b.category = 1) (k : At d y pc' L (a :: b :: a :: b :: S) h Q) : At d y pc L (a :: b :: S) h Q := by subst hp; exact At_ft hd (by show (if a.category = 1 ∧ b.category = 1 then _ else none) = _; rw [if_pos ⟨hc, hb⟩]) k
theorem At_goto {o : Int} {t : Nat} (hd : ins y pc = some (.goto o, 3)) (ht : (pc : Int) + o = (t : Int)) (k : At d y t L S h Q) : At d y pc L S h Q := At_jp hd rfl ht k
theorem At_icmp {c : ClassFile.Cond} {o : Int} {t : Nat} {a b : Int32} (hd : ins y pc = some (.if_icmp c o, 3)) (ht : (pc : Int) + o = (t : Int)) (hp : pc + 3 = pc') (k1 : cmpB c a b = true → At d y t L S h Q) (k2 : ¬ cmpB c a b = true → At d y pc' L S h Q) : At d y pc L (.int b :: .int a :: S) h Q := by
  subst hp
  by_cases hc : cmpB c a b = true
  · exact At_jp hd (by show (if cmpB c a b = true then _ else _) = _; rw [if_pos hc]) ht (k1 hc)
  · exact At_ft hd (by show (if cmpB c a b = true then _ else _) = _; rw [if_neg hc]) (k2 hc)
theorem At_if {c : ClassFile.Cond} {o : Int} {t : Nat} {a : Int32} (hd : ins y pc = some (.ifCond c o, 3)) (ht : (pc : Int) + o = (t : Int)) (hp : pc + 3 = pc') (k1 : cmpB c a 0 = true → At d y t L S h Q) (k2 : ¬ cmpB c a 0 = true → At d y pc' L S h Q) : At d y pc L (.int a :: S) h Q := by
  subst hp
  by_cases hc : cmpB c a 0 = true
  · exact At_jp hd (by show (if cmpB c a 0 = true then _ else _) = _; rw [if_pos hc]) ht (k1 hc)
  · exact At_ft hd (by show (if cmpB c a 0 = true then _ else _) = _; rw [if_neg hc]) (k2 hc)
section Br
variable {o : Int} {t : Nat} {a b : Int32}
theorem At_icmp_eq (hd : ins y pc = some (.if_icmp .eq o, 3)) (ht : (pc : Int) + o = (t : Int)) (hp : pc + 3 = pc') (k1 : a = b → At d y t L S h Q) (k2 : ¬ a = b → At d y pc' L S h Q) : At d y pc L (.int b :: .int a :: S) h Q := At_icmp hd ht hp (fun q => k1 (of_decide_eq_true q)) (fun q => k2 (fun z => q (decide_eq_true z)))
theorem At_icmp_ne (hd : ins y pc = some (.if_icmp .ne o, 3)) (ht : (pc : Int) + o = (t : Int)) (hp : pc + 3 = pc') (k1 : ¬ a = b → At d y t L S h Q) (k2 : a = b → At d y pc' L S h Q) : At d y pc L (.int b :: .int a :: S) h Q := At_icmp hd ht hp (fun q => k1 (of_decide_eq_true q)) (fun q => k2 (Classical.not_not.mp (fun z => q (decide_eq_true z))))
theorem At_icmp_lt (hd : ins y pc = some (.if_icmp .lt o, 3)) (ht : (pc : Int) + o = (t : Int)) (hp : pc + 3 = pc') (k1 : a < b → At d y t L S h Q) (k2 : ¬ a < b → At d y pc' L S h Q) : At d y pc L (.int b :: .int a :: S) h Q := At_icmp hd ht hp (fun q => k1 (of_decide_eq_true q)) (fun q => k2 (fun z => q (decide_eq_true z)))
theorem At_icmp_ge (hd : ins y pc = some (.if_icmp .ge o, 3)) (ht : (pc : Int) + o = (t : Int)) (hp : pc + 3 = pc') (k1 : ¬ a < b → At d y t L S h Q) (k2 : a < b → At d y pc' L S h Q) : At d y pc L (.int b :: .int a :: S) h Q := At_icmp hd ht hp (fun q => k1 (Int32.not_lt.mpr (of_decide_eq_true q))) (fun q => k2 (Int32.not_le.mp (fun z => q (decide_eq_true z))))
theorem At_icmp_gt (hd : ins y pc = some (.if_icmp .gt o, 3)) (ht : (pc : Int) + o = (t : Int)) (hp : pc + 3 = pc') (k1 : b < a → At d y t L S h Q) (k2 : ¬ b < a → At d y pc' L S h Q) : At d y pc L (.int b :: .int a :: S) h Q := At_icmp hd ht hp (fun q => k1 (of_decide_eq_true q)) (fun q => k2 (fun z => q (decide_eq_true z)))
theorem At_icmp_le (hd : ins y pc = some (.if_icmp .le o, 3)) (ht : (pc : Int) + o = (t : Int)) (hp : pc + 3 = pc') (k1 : ¬ b < a → At d y t L S h Q) (k2 : b < a → At d y pc' L S h Q) : At d y pc L (.int b :: .int a :: S) h Q := At_icmp hd ht hp (fun q => k1 (Int32.not_lt.mpr (of_decide_eq_true q))) (fun q => k2 (Int32.not_le.mp (fun z => q (decide_eq_true z))))
theorem At_if_eq (hd : ins y pc = some (.ifCond .eq o, 3)) (ht : (pc : Int) + o = (t : Int)) (hp : pc + 3 = pc') (k1 : a = 0 → At d y t L S h Q) (k2 : ¬ a = 0 → At d y pc' L S h Q) : At d y pc L (.int a :: S) h Q := At_if hd ht hp (fun q => k1 (of_decide_eq_true q)) (fun q => k2 (fun z => q (decide_eq_true z)))
theorem At_if_ne (hd : ins y pc = some (.ifCond .ne o, 3)) (ht : (pc : Int) + o = (t : Int)) (hp : pc + 3 = pc') (k1 : ¬ a = 0 → At d y t L S h Q) (k2 : a = 0 → At d y pc' L S h Q) : At d y pc L (.int a :: S) h Q := At_if hd ht hp (fun q => k1 (of_decide_eq_true q)) (fun q => k2 (Classical.not_not.mp (fun z => q (decide_eq_true z))))
theorem At_if_lt (hd : ins y pc = some (.ifCond .lt o, 3)) (ht : (pc : Int) + o = (t : Int)) (hp : pc + 3 = pc') (k1 : a < 0 → At d y t L S h Q) (k2 : ¬ a < 0 → At d y pc' L S h Q) : At d y pc L (.int a :: S) h Q := At_if hd ht hp (fun q => k1 (of_decide_eq_true q)) (fun q => k2 (fun z => q (decide_eq_true z)))
theorem At_if_ge (hd : ins y pc = some (.ifCond .ge o, 3)) (ht : (pc : Int) + o = (t : Int)) (hp : pc + 3 = pc') (k1 : ¬ a < 0 → At d y t L S h Q) (k2 : a < 0 → At d y pc' L S h Q) : At d y pc L (.int a :: S) h Q := At_if hd ht hp (fun q => k1 (Int32.not_lt.mpr (of_decide_eq_true q))) (fun q => k2 (Int32.not_le.mp (fun z => q (decide_eq_true z))))
theorem At_if_gt (hd : ins y pc = some (.ifCond .gt o, 3)) (ht : (pc : Int) + o = (t : Int)) (hp : pc + 3 = pc') (k1 : 0 < a → At d y t L S h Q) (k2 : ¬ 0 < a → At d y pc' L S h Q) : At d y pc L (.int a :: S) h Q := At_if hd ht hp (fun q => k1 (of_decide_eq_true q)) (fun q => k2 (fun z => q (decide_eq_true z)))
theorem At_if_le (hd : ins y pc = some (.ifCond .le o, 3)) (ht : (pc : Int) + o = (t : Int)) (hp : pc + 3 = pc') (k1 : ¬ 0 < a → At d y t L S h Q) (k2 : 0 < a → At d y pc' L S h Q) : At d y pc L (.int a :: S) h Q := At_if hd ht hp (fun q => k1 (Int32.not_lt.mpr (of_decide_eq_true q))) (fun q => k2 (Int32.not_le.mp (fun z => q (decide_eq_true z))))
end Br
theorem At_nn {o : Int} {t : Nat} {r : Option Nat} (hd : ins y pc = some (.ifnonnull o, 3)) (ht : (pc : Int) + o = (t : Int)) (hp : pc + 3 = pc') (k1 : ¬ r = none → At d y t L S h Q) (k2 : r = none → At d y pc' L S h Q) : At d y pc L (vr r :: S) h Q := by
  subst hp
  cases r with
  | none => exact At_ft hd rfl (k2 rfl)
  | some a => exact At_jp hd rfl ht (k1 (fun q => by cases q))
theorem At_tabOut {df lo hi : Int} {os : Array Int} {len t : Nat} {x : Int32} (hd : ins y pc = some (.tableswitch df lo hi os, len)) (hx : x.toInt < lo ∨ hi < x.toInt) (ht : (pc : Int) + df = (t : Int)) (k : At d y t L S h Q) : At d y pc L (.int x :: S) h Q := At_jp hd (by show (if x.toInt < lo ∨ hi < x.toInt then _ else _) = _; rw [if_pos hx]) ht k
theorem At_tabIn {df lo hi o : Int} {os : Array Int} {len t : Nat} {x : Int32} (hd : ins y pc = some (.tableswitch df lo hi os, len)) (h1 : ¬ (x.toInt < lo ∨ hi < x.toInt)) (ho : os[(x.toInt - lo).toNat]? = some o) (ht : (pc : Int) + o = (t : Int)) (k : At d y t L S h Q) : At d y pc L (.int x :: S) h Q := At_jp hd (by show (if x.toInt < lo ∨ hi < x.toInt then _ else _) = _; rw [if_neg h1, ho]) ht k
theorem At_lookup {df o : Int} {ps : Array (Int × Int)} {len t : Nat} {x : Int32} (hd : ins y pc = some (.lookupswitch df ps, len)) (hs : (ps.toList.zip (ps.toList.drop 1)).all (fun (a, next) => a.1 < next.1) = true) (ho : Op.lookupswitch.offset ps.toList df x.toInt = o) (ht : (pc : Int) + o = (t : Int)) (k : At d y t L S h Q) : At d y pc L (.int x :: S) h Q := At_jp hd (by show (if _ then _ else none) = _; rw [if_pos hs, ho]) ht k
-- the heap
theorem At_getI {n a c f : Nat} (hd : ins y pc = some (.getfield n, 3)) (hp : pc + 3 = pc') (hf : lkp flT y.1 n = some (c, f)) (hk : (shp h a).1 = 10 + c) (ht : ¬ (fkind c f).1 = 1 ∧ ¬ (fkind c f).1 = 2) (k : At d y pc' L (.int (gI h a f) :: S) h Q) : At d y pc L (.ref a :: S) h Q := by
  subst hp
  refine At_ft hd ?_ k
  show actHp y (.getfield n) L (.ref a :: S) h = _
  simp only [actHp]
  rw [hf]
  simp only [hk, if_true, fval, ht.1, ht.2, if_false]
theorem At_getJ {n a c f : Nat} (hd : ins y pc = some (.getfield n, 3)) (hp : pc + 3 = pc') (hf : lkp flT y.1 n = some (c, f)) (hk : (shp h a).1 = 10 + c) (ht : (fkind c f).1 = 1) (k : At d y pc' L (.long (gJ h a f) :: S) h Q) : At d y pc L (.ref a :: S) h Q := by
  subst hp
  refine At_ft hd ?_ k
  show actHp y (.getfield n) L (.ref a :: S) h = _
  simp only [actHp]
  rw [hf]
  simp only [hk, if_true, fval, ht]
theorem At_getR {n a c f b : Nat} (hd : ins y pc = some (.getfield n, 3)) (hp : pc + 3 = pc') (hf : lkp flT y.1 n = some (c, f)) (hk : (shp h a).1 = 10 + c) (ht : (fkind c f).1 = 2) (hb : gR h a f = some b) (k : At d y pc' L (.ref b :: S) h Q) : At d y pc L (.ref a :: S) h Q := by
  subst hp
  refine At_ft hd ?_ k
  show actHp y (.getfield n) L (.ref a :: S) h = _
  simp only [actHp]
  rw [hf]
  simp only [hk, if_true, fval, ht, hb, vr]
  rfl
theorem At_getN {n a c f : Nat} (hd : ins y pc = some (.getfield n, 3)) (hp : pc + 3 = pc') (hf : lkp flT y.1 n = some (c, f)) (hk : (shp h a).1 = 10 + c) (ht : (fkind c f).1 = 2) (k : At d y pc' L (vr (gR h a f) :: S) h Q) : At d y pc L (.ref a :: S) h Q := by
  subst hp
  refine At_ft hd ?_ k
  show actHp y (.getfield n) L (.ref a :: S) h = _
  simp only [actHp]
  rw [hf]
  simp only [hk, if_true, fval, ht]
  rfl
theorem At_putI {n a c f : Nat} {x : Int32} (hd : ins y pc = some (.putfield n, 3)) (hp : pc + 3 = pc') (hf : lkp flT y.1 n = some (c, f)) (hk : (shp h a).1 = 10 + c) (hfin : (fkind c f).2 = false ∨ (y.2.1 = true ∧ y.1 = cnum c)) (ht : (fkind c f).1 = 0) (k : At d y pc' L S (sI h a f x) Q) : At d y pc L (.int x :: .ref a :: S) h Q := by
  subst hp
  refine At_ft hd ?_ k
  show actHp y (.putfield n) L (.int x :: .ref a :: S) h = _
  simp only [actHp]
  rw [hf]
  simp only []
  rw [if_pos ⟨hk, hfin⟩, ht]
  rfl
theorem At_putZ {n a c f : Nat} {x : Int32} (hd : ins y pc = some (.putfield n, 3)) (hp : pc + 3 = pc') (hf : lkp flT y.1 n = some (c, f)) (hk : (shp h a).1 = 10 + c) (hfin : (fkind c f).2 = false ∨ (y.2.1 = true ∧ y.1 = cnum c)) (ht : (fkind c f).1 = 3) (hx : x = 0 ∨ x = 1) (k : At d y pc' L S (sI h a f x) Q) : At d y pc L (.int x :: .ref a :: S) h Q := by
  subst hp
  refine At_ft hd ?_ k
  show actHp y (.putfield n) L (.int x :: .ref a :: S) h = _
  simp only [actHp]
  rw [hf]
  simp only []
  rw [if_pos ⟨hk, hfin⟩, ht]
  simp only []
  rw [if_pos hx]
theorem At_putJ {n a c f : Nat} {x : Int64} (hd : ins y pc = some (.putfield n, 3)) (hp : pc + 3 = pc') (hf : lkp flT y.1 n = some (c, f)) (hk : (shp h a).1 = 10 + c) (hfin : (fkind c f).2 = false ∨ (y.2.1 = true ∧ y.1 = cnum c)) (ht : (fkind c f).1 = 1) (k : At d y pc' L S (sJ h a f x) Q) : At d y pc L (.long x :: .ref a :: S) h Q := by
  subst hp
  refine At_ft hd ?_ k
  show actHp y (.putfield n) L (.long x :: .ref a :: S) h = _
  simp only [actHp]
  rw [hf]
  simp only []
  rw [if_pos ⟨hk, hfin⟩, ht]
  rfl
theorem At_putR {n a c f b : Nat} (hd : ins y pc = some (.putfield n, 3)) (hp : pc + 3 = pc') (hf : lkp flT y.1 n = some (c, f)) (hk : (shp h a).1 = 10 + c) (hfin : (fkind c f).2 = false ∨ (y.2.1 = true ∧ y.1 = cnum c)) (ht : (fkind c f).1 = 2) (hb : b < nxt h) (k : At d y pc' L S (sR h a f (some b)) Q) : At d y pc L (.ref b :: .ref a :: S) h Q := by
  subst hp
  refine At_ft hd ?_ k
  show actHp y (.putfield n) L (.ref b :: .ref a :: S) h = _
  simp only [actHp]
  rw [hf]
  simp only []
  rw [if_pos ⟨hk, hfin⟩, ht]
  simp only []
  rw [if_pos hb]
theorem At_putN {n a c f : Nat} (hd : ins y pc = some (.putfield n, 3)) (hp : pc + 3 = pc') (hf : lkp flT y.1 n = some (c, f)) (hk : (shp h a).1 = 10 + c) (hfin : (fkind c f).2 = false ∨ (y.2.1 = true ∧ y.1 = cnum c)) (ht : (fkind c f).1 = 2) (k : At d y pc' L S (sR h a f none) Q) : At d y pc L (.null :: .ref a :: S) h Q := by
  subst hp
  refine At_ft hd ?_ k
  show actHp y (.putfield n) L (.null :: .ref a :: S) h = _
  simp only [actHp]
  rw [hf]
  simp only []
  rw [if_pos ⟨hk, hfin⟩, ht]
  rfl
theorem At_iald {a n : Nat} {j : Int32} (hd : ins y pc = some (.iaload, 1)) (hp : pc + 1 = pc') (hk : shp h a = (1, n)) (hj : inB j n = true) (k : At d y pc' L (.int (gI h a j.toNatClampNeg) :: S) h Q) : At d y pc L (.int j :: .ref a :: S) h Q := by subst hp; exact At_ft hd (by show (if ((shp h a).1 = 0 ∨ (shp h a).1 = 1) ∧ inB j (shp h a).2 = true then _ else none) = _; rw [hk, if_pos ⟨Or.inr rfl, hj⟩]) k
theorem At_sald {a n : Nat} {j : Int32} (hd : ins y pc = some (.iaload, 1)) (hp : pc + 1 = pc') (hk : shp h a = (0, n)) (hj : inB j n = true) (k : At d y pc' L (.int (gI h a j.toNatClampNeg) :: S) h Q) : At d y pc L (.int j :: .ref a :: S) h Q := by subst hp; exact At_ft hd (by show (if ((shp h a).1 = 0 ∨ (shp h a).1 = 1) ∧ inB j (shp h a).2 = true then _ else none) = _; rw [hk, if_pos ⟨Or.inl rfl, hj⟩]) k
theorem At_bald {a n : Nat} {j : Int32} (hd : ins y pc = some (.baload, 1)) (hp : pc + 1 = pc') (hk : shp h a = (2, n)) (hj : inB j n = true) (k : At d y pc' L (.int (gI h a j.toNatClampNeg) :: S) h Q) : At d y pc L (.int j :: .ref a :: S) h Q := by subst hp; exact At_ft hd (by show (if (shp h a).1 = 2 ∧ inB j (shp h a).2 = true then _ else none) = _; rw [hk, if_pos ⟨rfl, hj⟩]) k
theorem At_aald {a n b kd : Nat} {j : Int32} (hd : ins y pc = some (.aaload, 1)) (hp : pc + 1 = pc') (hk : shp h a = (kd, n)) (hkd : kd = 3 ∨ kd = 4) (hj : inB j n = true) (hb : gR h a j.toNatClampNeg = some b) (k : At d y pc' L (.ref b :: S) h Q) : At d y pc L (.int j :: .ref a :: S) h Q := by subst hp; exact At_ft hd (by show (if ((shp h a).1 = 3 ∨ (shp h a).1 = 4) ∧ inB j (shp h a).2 = true then aF L (vr (gR h a j.toNatClampNeg) :: S) h else none) = _; rw [hk, if_pos ⟨hkd, hj⟩, hb]; rfl) k
theorem At_iast {a n : Nat} {j x : Int32} (hd : ins y pc = some (.iastore, 1)) (hp : pc + 1 = pc') (hk : shp h a = (1, n)) (hj : inB j n = true) (k : At d y pc' L S (sI h a j.toNatClampNeg x) Q) : At d y pc L (.int x :: .int j :: .ref a :: S) h Q := by subst hp; exact At_ft hd (by show (if (shp h a).1 = 1 ∧ inB j (shp h a).2 = true then _ else none) = _; rw [hk, if_pos ⟨rfl, hj⟩]) k
theorem At_bast {a n : Nat} {j x : Int32} (hd : ins y pc = some (.bastore, 1)) (hp : pc + 1 = pc') (hk : shp h a = (2, n)) (hj : inB j n = true) (k : At d y pc' L S (sI h a j.toNatClampNeg (vp_nar .byte x)) Q) : At d y pc L (.int x :: .int j :: .ref a :: S) h Q := by subst hp; exact At_ft hd (by show (if (shp h a).1 = 2 ∧ inB j (shp h a).2 = true then _ else none) = _; rw [hk, if_pos ⟨rfl, hj⟩]) k
theorem At_aast {a n v kd kv nv : Nat} {j : Int32} (hd : ins y pc = some (.aastore, 1)) (hp : pc + 1 = pc') (hk : shp h a = (kd, n)) (hv : shp h v = (kv, nv)) (hkd : (kd = 3 ∧ kv = 15) ∨ (kd = 4 ∧ kv = 11)) (hj : inB j n = true) (k : At d y pc' L S (sR h a j.toNatClampNeg (some v)) Q) : At d y pc L (.ref v :: .int j :: .ref a :: S) h Q := by subst hp; exact At_ft hd (by show (if inB j (shp h a).2 = true ∧ (((shp h a).1 = 3 ∧ (shp h v).1 = 15) ∨ ((shp h a).1 = 4 ∧ (shp h v).1 = 11)) then _ else none) = _; rw [hk, hv, if_pos ⟨hj, hkd⟩]) k
theorem At_alen {a n kd : Nat} (hd : ins y pc = some (.arraylength, 1)) (hp : pc + 1 = pc') (hk : shp h a = (kd, n)) (hkd : kd ≤ 4) (k : At d y pc' L (.int (nI n) :: S) h Q) : At d y pc L (.ref a :: S) h Q := by subst hp; exact At_ft hd (by show (if (shp h a).1 ≤ 4 then _ else none) = _; rw [hk, if_pos hkd]; rfl) k
theorem At_newI {n : Int32} {N z : Nat} (hd : ins y pc = some (.newarray .int, 2)) (hp : pc + 2 = pc') (hn : ¬ n < 0) (hN : n.toNatClampNeg = N) (hle : N ≤ 100000) (hz : nxt h = z) (hz9 : z < 900000) (k : At d y pc' L (.ref z :: S) (newO h 1 N) Q) : At d y pc L (.int n :: S) h Q := by subst hp; subst hN; subst hz; exact At_ft hd (by show (if ¬ n < 0 ∧ n.toNatClampNeg ≤ 100000 ∧ nxt h < 900000 then _ else none) = _; rw [if_pos ⟨hn, hle, hz9⟩]) k
theorem At_newB {n : Int32} {N z : Nat} (hd : ins y pc = some (.newarray .byte, 2)) (hp : pc + 2 = pc') (hn : ¬ n < 0) (hN : n.toNatClampNeg = N) (hle : N ≤ 100000) (hz : nxt h = z) (hz9 : z < 900000) (k : At d y pc' L (.ref z :: S) (newO h 2 N) Q) : At d y pc L (.int n :: S) h Q := by subst hp; subst hN; subst hz; exact At_ft hd (by show (if ¬ n < 0 ∧ n.toNatClampNeg ≤ 100000 ∧ nxt h < 900000 then _ else none) = _; rw [if_pos ⟨hn, hle, hz9⟩]) k
theorem At_newQ {n : Int32} {N z kd i : Nat} (hd : ins y pc = some (.anewarray i, 3)) (hp : pc + 3 = pc') (hi : lkp anewT y.1 i = some kd) (hn : ¬ n < 0) (hN : n.toNatClampNeg = N) (hle : N ≤ 100000) (hz : nxt h = z) (hz9 : z < 900000) (k : At d y pc' L (.ref z :: S) (newO h kd N) Q) : At d y pc L (.int n :: S) h Q := by
  subst hp; subst hN; subst hz
  refine At_ft hd ?_ k
  show actHp y (.anewarray i) L (.int n :: S) h = _
  simp only [actHp]
  rw [hi]
  simp only []
  rw [if_pos ⟨hn, hle, hz9⟩]
theorem At_newO {z c N i : Nat} (hd : ins y pc = some (.new i, 3)) (hp : pc + 3 = pc') (hi : lkp newT y.1 i = some c) (hN : csize c = N) (hz : nxt h = z) (hz9 : z < 900000) (k : At d y pc' L (.ref z :: S) (newO h (10 + c) N) Q) : At d y pc L S h Q := by
  subst hp; subst hz; subst hN
  refine At_ft hd ?_ k
  show actHp y (.new i) L S h = _
  simp only [actHp]
  rw [hi]
  simp only []
  rw [if_pos hz9]
-- returns
theorem At_retI {v : Int32} (hd : ins y pc = some (.ireturn, 1)) (ht : y.2.2.2.2.2 = some .int) (k : Q (some (.int v)) h) : At d y pc L [.int v] h Q := At_rt hd (by show (if _ then _ else none) = _; rw [if_pos (Or.inl ht)]) k
theorem At_retZ {v : Int32} (hd : ins y pc = some (.ireturn, 1)) (ht : y.2.2.2.2.2 = some .boolean) (hv : v = 0 ∨ v = 1) (k : Q (some (.int v)) h) : At d y pc L [.int v] h Q := At_rt hd (by show (if _ then _ else none) = _; rw [if_pos (Or.inr ⟨ht, hv⟩)]) k
theorem At_retJ {v : Int64} (hd : ins y pc = some (.lreturn, 1)) (ht : y.2.2.2.2.2 = some .long) (k : Q (some (.long v)) h) : At d y pc L [.long v] h Q := At_rt hd (by show (if _ then _ else none) = _; rw [if_pos ht]) k
theorem At_retV (hd : ins y pc = some (.return_, 1)) (ht : y.2.2.2.2.2 = none) (k : Q none h) : At d y pc L [] h Q := At_rt hd (by show (if _ then _ else none) = _; rw [if_pos ht]) k
-- calls
theorem At_stat {n np rc : Nat} {y' : Mth} {as S' : List Value} (hd : ins y pc = some (.invokestatic n, 3)) (hp : pc + 3 = pc') (hm : lkp mlT y.1 n = some (0, np, rc, y')) (ha : (S.take np).reverse = as) (hs : S.drop np = S') (hl : np ≤ S.length) (hc : cats S' ≤ 8) (hsp : (spread as).length ≤ y'.2.2.2.2.1) (k : Call d y' as h (fun v h' => At (d + 1) y pc' L (psh v S') h' Q)) : At (d + 1) y pc L S h Q := by
  subst hp; subst ha; subst hs
  refine At_cl hd ?_ k
  show actIv y (.invokestatic n) L S h = _
  simp only [actIv]
  rw [hm]
  simp only []
  rw [if_pos ⟨hl, hc, hsp⟩]
theorem At_virt {n np rc a : Nat} {y' : Mth} {as S' : List Value} (hd : ins y pc = some (.invokevirtual n, 3)) (hp : pc + 3 = pc') (hm : lkp mlT y.1 n = some (1, np, rc, y')) (ha : .ref a :: (S.take np).reverse = as) (hs : S.drop np = .ref a :: S') (hk : (shp h a).1 = rc) (hc : cats S' ≤ 8) (hsp : (spread as).length ≤ y'.2.2.2.2.1) (k : Call d y' as h (fun v h' => At (d + 1) y pc' L (psh v S') h' Q)) : At (d + 1) y pc L S h Q := by
  subst hp; subst ha
  refine At_cl hd ?_ k
  show actIv y (.invokevirtual n) L S h = _
  simp only [actIv]
  rw [hm]
  simp only []
  rw [hs]
  simp only []
  rw [if_pos ⟨hk, hc, hsp⟩]
theorem At_spec {n np rc a kd : Nat} {y' : Mth} {as S' : List Value} (hd : ins y pc = some (.invokespecial n, 3)) (hp : pc + 3 = pc') (hm : lkp mlT y.1 n = some (kd, np, rc, y')) (hkd : kd = 2 ∨ kd = 3) (ha : .ref a :: (S.take np).reverse = as) (hs : S.drop np = .ref a :: S') (hc : cats S' ≤ 8) (hsp : (spread as).length ≤ y'.2.2.2.2.1) (k : Call d y' as h (fun v h' => At (d + 1) y pc' L (psh v S') h' Q)) : At (d + 1) y pc L S h Q := by
  subst hp; subst ha
  refine At_cl hd ?_ k
  show actIv y (.invokespecial n) L S h = _
  simp only [actIv]
  rw [hm]
  rcases hkd with rfl | rfl
  · simp only []
    rw [hs]
    simp only []
    rw [if_pos ⟨hc, hsp⟩]
  · simp only []
    rw [hs]
    simp only []
    rw [if_pos ⟨hc, hsp⟩]
theorem At_oinit {n a : Nat} {w : Nat × Nat × Mth} (hd : ins y pc = some (.invokespecial n, 3)) (hp : pc + 3 = pc') (hm : lkp mlT y.1 n = some (10, w)) (hc : cats S ≤ 8) (k : At d y pc' L S h Q) : At d y pc L (.ref a :: S) h Q := by
  subst hp
  refine At_ft hd ?_ k
  show actIv y (.invokespecial n) L (.ref a :: S) h = _
  simp only [actIv]
  rw [hm]
  simp only []
  rw [if_pos hc]
theorem At_max {n : Nat} {a b : Int32} {w : Nat × Nat × Mth} (hd : ins y pc = some (.invokestatic n, 3)) (hp : pc + 3 = pc') (hm : lkp mlT y.1 n = some (11, w)) (hc : cats S ≤ 8) (k : At d y pc' L (.int (if a < b then b else a) :: S) h Q) : At d y pc L (.int b :: .int a :: S) h Q := by
  subst hp
  refine At_ft hd ?_ k
  show actIv y (.invokestatic n) L (.int b :: .int a :: S) h = _
  simp only [actIv]
  rw [hm]
  simp only []
  rw [if_pos hc]
theorem At_min {n : Nat} {a b : Int32} {w : Nat × Nat × Mth} (hd : ins y pc = some (.invokestatic n, 3)) (hp : pc + 3 = pc') (hm : lkp mlT y.1 n = some (12, w)) (hc : cats S ≤ 8) (k : At d y pc' L (.int (if b < a then b else a) :: S) h Q) : At d y pc L (.int b :: .int a :: S) h Q := by
  subst hp
  refine At_ft hd ?_ k
  show actIv y (.invokestatic n) L (.int b :: .int a :: S) h = _
  simp only [actIv]
  rw [hm]
  simp only []
  rw [if_pos hc]
theorem At_copy {n a b na nb : Nat} {sp dp m : Int32} {w : Nat × Nat × Mth} (hd : ins y pc = some (.invokestatic n, 3)) (hp : pc + 3 = pc') (hm : lkp mlT y.1 n = some (13, w)) (hc : cats S ≤ 8) (ha : shp h a = (1, na)) (hb : shp h b = (1, nb)) (h1 : ¬ sp < 0 ∧ ¬ dp < 0 ∧ ¬ m < 0 ∧ sp.toNatClampNeg + m.toNatClampNeg ≤ na ∧ dp.toNatClampNeg + m.toNatClampNeg ≤ nb) (k : At d y pc' L S (cpI h a sp.toNatClampNeg b dp.toNatClampNeg m.toNatClampNeg) Q) : At d y pc L (.int m :: .int dp :: .ref b :: .int sp :: .ref a :: S) h Q := by
  subst hp
  refine At_ft hd ?_ k
  show actIv y (.invokestatic n) L (.int m :: .int dp :: .ref b :: .int sp :: .ref a :: S) h = _
  simp only [actIv]
  rw [hm]
  simp only []
  rw [if_pos ⟨hc, by rw [ha], by rw [hb], h1.1, h1.2.1, h1.2.2.1, by rw [ha]; exact h1.2.2.2.1, by rw [hb]; exact h1.2.2.2.2⟩]
theorem At_slen {n q : Nat} {w : Nat × Nat × Mth} (hd : ins y pc = some (.invokevirtual n, 3)) (hp : pc + 3 = pc') (hm : lkp mlT y.1 n = some (14, w)) (hc : cats S ≤ 8) (hq : q < 6) (k : At d y pc' L (.int (nI (strT.getD q []).length) :: S) h Q) : At d y pc L (.ref (1000000 + q) :: S) h Q := by
  subst hp
  refine At_ft hd ?_ k
  show actIv y (.invokevirtual n) L (.ref (1000000 + q) :: S) h = _
  simp only [actIv]
  rw [hm]
  simp only []
  rw [if_pos ⟨Nat.le_add_right _ _, Nat.add_lt_add_left hq 1000000, hc⟩, Nat.add_sub_cancel_left]
  rfl
theorem At_schr {n q : Nat} {j : Int32} {w : Nat × Nat × Mth} (hd : ins y pc = some (.invokevirtual n, 3)) (hp : pc + 3 = pc') (hm : lkp mlT y.1 n = some (15, w)) (hc : cats S ≤ 8) (hq : q < 6) (hj : inB j (strT.getD q []).length = true) (k : At d y pc' L (.int ((strT.getD q []).getD j.toNatClampNeg 0) :: S) h Q) : At d y pc L (.int j :: .ref (1000000 + q) :: S) h Q := by
  subst hp
  refine At_ft hd ?_ k
  show actIv y (.invokevirtual n) L (.int j :: .ref (1000000 + q) :: S) h = _
  simp only [actIv]
  rw [hm]
  simp only []
  rw [if_pos ⟨Nat.le_add_right _ _, Nat.add_lt_add_left hq 1000000, hc, by rw [Nat.add_sub_cancel_left]; exact hj⟩, Nat.add_sub_cancel_left]
end Rows
end
